/-! ===== maxFlow, cutSide, overloaded: both sides ===== -/
theorem Wf.mfW {B : Nat} {σ : St} (h : Wf B σ) : mfW σ.1 := ⟨(wfC h).1, (wfC h).2.1, wfL h, wfU h⟩
theorem x_find {N s t : Nat} {I : gM} {a : AB} (hc : INc I a) (W : mfW a.1.1) (hN : 1000 ≤ N) (hs : s < a.1.1 0) (ht : t < a.1.1 0) (hst : s ≠ t) : ∃ I' v A, (∀ K : gM → gO, hV (fX0_find N [.ref 0, .ref 3, .int (nI s), .int (nI t)] (gS (rg 201 3 ++ rg 2 9) I)) (rg 201 3 ++ rg 2 9) I K = K I') ∧ mfO a.1.1 s t v A ∧ I' 201 2 = nI v ∧ I' 201 3 = nI A ∧ ∀ q, q < 201 → I' q = I q := by
  have hn := hc.1.1.1
  rw [gS_b (by decide) (by decide)] at hn
  obtain ⟨M', v, A, k1, k2, k3, k4, k5⟩ := pX0_find (N := N) (M := gS (rg 201 3 ++ rg 2 9) I) (r := a.1.1) W hN ⟨by
    rw [show (3 : Nat) = 3 + 0 from rfl, gS_aq2 (by decide) (by decide)]; exact hn.1, by
    rw [show (3 : Nat) = 3 + 0 from rfl, gS_aq2 (by decide) (by decide)]; exact hn.2.1, fun k hk => by
    obtain ⟨e0, e1, e2, _⟩ := hc.lk hk
    rw [show (4 : Nat) = 3 + 1 from rfl, show (5 : Nat) = 3 + 2 from rfl, show (6 : Nat) = 3 + 3 from rfl, gS_aq2 (by decide) (by decide), gS_aq2 (by decide) (by decide), gS_aq2 (by decide) (by decide)]
    exact ⟨e0, e1, e2⟩⟩ hs ht hst
  have g0 : gMg (rg 201 3 ++ rg 2 9) I M' 201 = M' 0 := gM_aq1 (d := 201) (n := 3) (k := 0) (by decide)
  refine ⟨gMg (rg 201 3 ++ rg 2 9) I M', v, A, fun K => by rw [k1, hV_mk], k2, by rw [g0]; exact k3, by rw [g0]; exact k4, fun q hq => ?_⟩
  by_cases e : 2 ≤ q ∧ q < 11
  · obtain ⟨k, rfl⟩ : ∃ k, q = 2 + k := ⟨q - 2, by omega⟩
    rw [gM_aq2 (by omega) (by omega), k5 _ (by omega), gS_aq2 (by omega) (by decide)]
  · exact gM_aqo (by omega) (by omega)
theorem m_gflow {N s t : Nat} {J : gM} {σ : St} (hR : RowIs (J 3) σ) (W : mfW σ.1) (hN : 200 ≤ N) (hs : s < 10) (ht : t < 10) (hst : s ≠ t) : ∃ J' v A, (∀ K : Int32 → gM → gO, hI (fX9_greatestFlow N [.ref 0, .int (nI s), .int (nI t)] (gS (rg 0 18) J)) (rg 0 18) J K = K (nI v) J') ∧ mfO σ.1 s t v A ∧ v ≤ 70 ∧ J' 0 30 = nI A ∧ (∀ j, j ≠ 30 → J' 0 j = J 0 j) ∧ ∀ q, q ≠ 0 → q ≠ 16 → q ≠ 17 → J' q = J q := by
  obtain ⟨M', v, A, k1, k2, k3, k4, k5, k6⟩ := pX9_greatestFlow (N := N) (M := gS (rg 0 18) J) W hN hs ht hst (by rw [gSm18 (by decide)]; exact hR)
  refine ⟨gMg (rg 0 18) J M', v, A, fun K => by rw [k1, hI_mk], k2, k3, by rw [gM18 (by decide)]; exact k4, fun j hj => by rw [gM18 (by decide), k5 j hj, gSm18 (by decide)], fun q h0 h16 h17 => ?_⟩
  exact rlift (I := J) (J := M') (t := fun k => k = 0 ∨ k = 16 ∨ k = 17) (fun k hk => k6 k (fun e => hk (Or.inl e)) (fun e => hk (Or.inr (Or.inl e))) (fun e => hk (Or.inr (Or.inr e)))) q (fun hk => by
    rcases hk with e | e | e
    · exact h0 e
    · exact h16 e
    · exact h17 e)
theorem INm.flw {J J' : gM} {a : AB} (h : INm J a) (h0 : ∀ j, j ≠ 30 → J' 0 j = J 0 j) (h1 : ∀ q, q ≠ 0 → q ≠ 16 → q ≠ 17 → J' q = J q) : INm J' a := h.congr (fun j hj => h0 j (by omega)) (fun k hk => h1 k (by omega) (by omega) (by omega))
theorem INc.flw {I I' : gM} {a : AB} (h : INc I a) (h1 : ∀ q, q < 201 → I' q = I q) : INc I' a := h.congr (by rw [h1 0 (by decide)]) (fun k _ hk => h1 k (by omega)) (by rw [h1 183 (by decide)])
theorem j_maxFlow {N : Nat} {v u : Int32} {I J : gM} {a : AB} (h : IN I J a) (hN : 20000 ≤ N) : AG [eIO, eIA] (fX8_maxFlow N [.ref 0, .int v, .int u] I) (fX9_maxFlow N [.ref 0, .int v, .int u] J) := by
  obtain ⟨hc, hm, hw⟩ := h
  have hm' := hm.thr (x := nI 0)
  have l0 : (0 : Int32) = nI 0 := rfl
  obtain ⟨w0, w1, w2⟩ := hw.lt
  rw [eX8_maxFlow, eX8_maxFlow_0, x_two hc hw, eX9_maxFlow, eX9_maxFlow_0, l0, m_nodes hm'.1]
  cases hv : (ndb v (a.1.1 0) && ndb u (a.1.1 0)) with
  | false =>
    rw [m_ff, i_f, i_n1, eX9_maxFlow_37]
    exact AG.ex 0 rfl rfl rfl gU_us ⟨hc, hm'.thr, hw⟩
  | true =>
    obtain ⟨hv1, hv2⟩ := and_t hv
    obtain ⟨k, k1, k2⟩ := ndb_t (by omega) hv1
    obtain ⟨g, g1, g2⟩ := ndb_t (by omega) hv2
    subst k2; subst g2
    rw [m_ft, i_t, i_n0]
    by_cases e : k = g
    · rw [if_neg (fun z => (cne (by omega) (by omega)).mp z e), if_pos ((ceq (by omega) (by omega)).mpr e), eX9_maxFlow_30, m_fz, i_e1, eX9_maxFlow_37]
      exact AG.ex 1 rfl rfl rfl gU_us ⟨hc, hm'.thr, hw⟩
    · have W := hw.1.1.1.mfW
      obtain ⟨I', x, A, o1, o2, o3, o4, o5⟩ := x_find (N := N) hc W (by omega) k1 g1 e
      obtain ⟨J', y, B, p1, p2, p3, p4, p5, p6⟩ := m_gflow (N := N) hm'.1 W (by omega) (by omega) (by omega) e
      obtain ⟨e1, e2⟩ := o2.one p2
      rw [if_pos ((cne (by omega) (by omega)).mpr e), if_neg (fun z => e ((ceq (by omega) (by omega)).mp z)), eX9_maxFlow_30, m_f1, i_e0, o1, p1, o3, e1]
      exact AG.ok rfl rfl (by rw [p5 0 (by decide)]; exact gU_us) ⟨hc.flw o5, hm'.flw p5 p6, hw⟩
theorem j_cutSide {N : Nat} {v u : Int32} {I J : gM} {a : AB} (h : IN I J a) (hN : 20000 ≤ N) : AG [eIO, eIA] (fX8_cutSide N [.ref 0, .int v, .int u] I) (fX9_cutSide N [.ref 0, .int v, .int u] J) := by
  obtain ⟨hc, hm, hw⟩ := h
  have hm' := hm.thr (x := nI 0)
  have l0 : (0 : Int32) = nI 0 := rfl
  obtain ⟨w0, w1, w2⟩ := hw.lt
  rw [eX8_cutSide, eX8_cutSide_0, x_two hc hw, eX9_cutSide, eX9_cutSide_0, l0, m_nodes hm'.1]
  cases hv : (ndb v (a.1.1 0) && ndb u (a.1.1 0)) with
  | false =>
    rw [m_ff, i_f, i_n1]
    exact AG.ex 0 rfl rfl rfl gU_us ⟨hc, hm'.thr, hw⟩
  | true =>
    obtain ⟨hv1, hv2⟩ := and_t hv
    obtain ⟨k, k1, k2⟩ := ndb_t (by omega) hv1
    obtain ⟨g, g1, g2⟩ := ndb_t (by omega) hv2
    subst k2; subst g2
    rw [m_ft, i_t, i_n0]
    by_cases e : k = g
    · rw [if_neg (fun z => (cne (by omega) (by omega)).mp z e), if_pos ((ceq (by omega) (by omega)).mpr e), eX9_cutSide_30, m_fz, i_e1]
      exact AG.ex 1 rfl rfl rfl gU_us ⟨hc, hm'.thr, hw⟩
    · have W := hw.1.1.1.mfW
      obtain ⟨I', x, A, o1, o2, o3, o4, o5⟩ := x_find (N := N) hc W (by omega) k1 g1 e
      obtain ⟨J', y, B, p1, p2, p3, p4, p5, p6⟩ := m_gflow (N := N) hm'.1 W (by omega) (by omega) (by omega) e
      obtain ⟨e1, e2⟩ := o2.one p2
      rw [if_pos ((cne (by omega) (by omega)).mpr e), if_neg (fun z => e ((ceq (by omega) (by omega)).mp z)), eX9_cutSide_30, m_f1, i_e0, o1, p1, o4, p4, e2]
      exact AG.ok rfl rfl (by rw [p5 0 (by decide)]; exact gU_us) ⟨hc.flw o5, hm'.flw p5 p6, hw⟩
theorem over_lap {N : Nat} {a : AB} (hN : 20000 ≤ N) (hw : INw a) : ∀ m n f A : Nat, f ≤ a.1.1 2 → a.1.1 2 - f < m → a.1.1 2 - f < n → A < 64 → ∀ I J : gM, INc I a → INm J a → J 0 0 = nI 0 → AG [] (hX8_overloaded_12 N m (nI A) (nI f) I) (hX9_overloaded_9 N n (nI A) (nI f) J) := by
  have l0 : (0 : Int32) = nI 0 := rfl
  have l1 : (1 : Int32) = nI 1 := rfl
  have l2 : (2 : Int32) = nI 2 := rfl
  have l100 : (100 : Int32) = nI 100 := rfl
  have c2 : ∀ X : gO, ck 2746 2 X = X := fun X => by rw [l2, ckI (by decide) (by decide)]
  have n2 : (2 : Int32).toNatClampNeg = 2 := by decide
  obtain ⟨w0, w1, w2⟩ := hw.lt
  have W := hw.1.1.1.mfW
  intro m
  induction m with
  | zero => intro n f A _ h; omega
  | succ m ih =>
    intro n f A hf hm hn hA I J hc hmm h0
    obtain ⟨n, rfl⟩ : ∃ k, n = k + 1 := ⟨n - 1, by omega⟩
    have hnf := hc.1.1.1.2.2
    rw [gS_b (by decide) (by decide)] at hnf
    have hnf' : I 2 2 = nI (a.1.1 2) := hnf
    rw [eX8_overloaded_12, eX9_overloaded_9, c2, n2, hnf', hmm.1.1 2 (by decide)]
    by_cases hin : f = a.1.1 2
    · rw [if_pos ((cge (by omega) (by omega)).mpr (by omega)), if_pos ((cge (by omega) (by omega)).mpr (by omega))]
      exact AG.ok rfl rfl h0 ⟨hc, hmm, hw⟩
    · have hfl : f < a.1.1 2 := by omega
      obtain ⟨f0, f1, f2, f3, _⟩ := wfF hw.1.1.1 f hfl
      have q0 := hc.fl hfl (show 0 < 11 by decide)
      have q1 := hc.fl hfl (show 1 < 11 by decide)
      have q2 := hc.fl hfl (show 2 < 11 by decide)
      have r0 : J 3 (65 + 11 * f + 0) = nI (flp a.1.1 f 0) := hmm.1.1 _ (by omega)
      have r1 : J 3 (65 + 11 * f + 1) = nI (flp a.1.1 f 1) := hmm.1.1 _ (by omega)
      have r2 : J 3 (65 + 11 * f + 2) = nI (flp a.1.1 f 2) := hmm.1.1 _ (by omega)
      have g9 : ∀ X : gM, gMg (rg 2 9) X (gS (rg 2 9) X) = X := fun X => gMg_same X (by decide)
      have gn : ∀ (X : gM) (w : Nat) (K : Int32 → gM → gO), w < 11 → hI (fX2_getNumber N [.ref 0, .int (nI f), .int (nI w)] (gS (rg 2 9) X)) (rg 2 9) X K = K (X 9 (f * 11 + w)) X := fun X w K hw11 => by
        rw [pX2_getNumber N _ (by omega), hI_mk, g9, gS_b (by decide) (by decide)]
      obtain ⟨I', x, B, o1, o2, o3, o4, o5⟩ := x_find (N := N) hc W (by omega) f0 f1 f2
      obtain ⟨J', y, C, p1, p2, p3, p4, p5, p6⟩ := m_gflow (N := N) hmm.1 W (by omega) (show flp a.1.1 f 0 < 10 by omega) (show flp a.1.1 f 1 < 10 by omega) f2
      obtain ⟨e1, e2⟩ := o2.one p2
      have em : gb_mul (nI 100) (nI y) = nI (100 * y) := pk_mul 100 y
      have hc1 := hc.flw o5
      have hm1 := hmm.flw p5 p6
      have h01 : J' 0 0 = nI 0 := by rw [p5 0 (by decide)]; exact h0
      have esh : gb_shl 1 (nI f) = nI (2 ^ f) := shl1' (by omega)
      rw [if_neg (fun z => by have := (cge (a := f) (b := a.1.1 2) (by omega) (by omega)).mp z; omega), if_neg (fun z => by have := (cge (a := f) (b := a.1.1 2) (by omega) (by omega)).mp z; omega), l0, l2]
      rw [gn I 0 _ (by decide), l1, gn I 1 _ (by decide), q0, q1, o1, r_flow (by omega), r_flow (by omega), r_flow (by omega), r0, r1, r2, eX9_overloaded_41, p1, eX8_overloaded_40, l2, gn I' 2 _ (by decide), o5 9 (by decide), q2, o3, e1, l100, em]
      by_cases hgt : flp a.1.1 f 2 ≤ 100 * y
      · rw [if_pos ((cle (by omega) (by omega)).mpr hgt), if_pos ((cle (by omega) (by omega)).mpr hgt), eX8_overloaded_65, eX9_overloaded_55, nI_s]
        have eo : gb_or (nI A) 0 = nI A := by
          have e := nI_or A 0
          rw [Nat.or_zero] at e; exact e
        rw [eo]
        exact ih n (f + 1) A (by omega) (by omega) (by omega) hA I' J' hc1 hm1 h01
      · have eo : gb_or (nI A) (nI (2 ^ f)) = nI (A ||| 2 ^ f) := nI_or _ _
        have hlt : A ||| 2 ^ f < 64 := by
          have h64 : 2 ^ f < 2 ^ 6 := Nat.pow_lt_pow_right (by decide) (by omega)
          exact Nat.or_lt_two_pow (n := 6) hA h64
        rw [if_neg (fun z => hgt ((cle (by omega) (by omega)).mp z)), if_neg (fun z => hgt ((cle (by omega) (by omega)).mp z)), eX8_overloaded_65, eX9_overloaded_55, nI_s]
        rw [esh, eo]
        exact ih n (f + 1) (A ||| 2 ^ f) (by omega) (by omega) (by omega) hlt I' J' hc1 hm1 h01
theorem j_overloaded {N : Nat} {I J : gM} {a : AB} (h : IN I J a) (hN : 20000 ≤ N) : AG [] (fX8_overloaded N [.ref 0] I) (fX9_overloaded N [.ref 0] J) := by
  obtain ⟨hc, hm, hw⟩ := h
  obtain ⟨w0, w1, w2⟩ := hw.lt
  rw [eX8_overloaded, eX8_overloaded_0, eX9_overloaded, eX9_overloaded_0]
  exact over_lap hN hw N N 0 0 (Nat.zero_le _) (by omega) (by omega) (by decide) I (gU J 0 0 (nI 0)) hc (hm.thr (x := nI 0)) gU_us
