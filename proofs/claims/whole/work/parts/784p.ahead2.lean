/-! ===== forecastFlow, slotsToFull, schedule on both sides ===== -/
theorem AHc.fl {I : gM} {a : AB} {σ : St} (h : AHc I a σ) {f w : Nat} (hf : f < σ.1 2) (hw : w < 11) : I 49 (f * 11 + w) = nI (flp σ.1 f w) := by
  have := h.2.1.2.2.2.1 f w hf hw
  rw [gS_b (by decide) (by decide)] at this; exact this
theorem j_forecastFlow {N : Nat} {t v u : Int32} {I J : gM} {a : AB} (h : IN I J a) (hN : 20000 ≤ N) : AG [eIO, eIA] (fX8_forecastFlow N [.ref 0, .int t, .int v, .int u] I) (fX9_forecastFlow N [.ref 0, .int t, .int v, .int u] J) := by
  obtain ⟨hc, hm, hw⟩ := h
  have hm' := hm.thr (x := 0)
  have l0 : (0 : Int32) = nI 0 := rfl
  have d0 : (0 : Int64) = (nI 0).toInt64 := by decide
  have d10 : (10 : Int64) = (nI 10).toInt64 := by decide
  have z1 : (fX8_checkRange N [.int v, .int 1, .int 50]) = fX8_checkRange N [.int v, .int (nI 1), .int (nI 50)] := rfl
  have z2 : (fX8_checkRange N [.int u, .int 0, .int 10]) = fX8_checkRange N [.int u, .int (nI 0), .int (nI 10)] := rfl
  obtain ⟨w0, w1, w2⟩ := hw.lt
  have fail : AG [eIO, eIA] (some (.inr "java/lang/IllegalArgumentException", I)) (hX9_forecastFlow_42 N t v u (gU J 0 0 0)) := by
    rw [eX9_forecastFlow_42, eX9_forecastFlow_43, m_f0, i_e1]
    exact AG.ex 1 rfl rfl rfl gU_us ⟨hc, hm'.thr, hw⟩
  rw [eX8_forecastFlow, eX8_forecastFlow_0, x_flow hc hw, z1, x_range, z2, x_range, eX9_forecastFlow, eX9_forecastFlow_0, m_flow hm'.1]
  cases hf : ndb t (a.1.1 2) with
  | false =>
    rw [m_ff, i_f, i_n1]
    exact AG.ex 0 rfl rfl rfl gU_us ⟨hc, hm'.thr, hw⟩
  | true =>
    obtain ⟨f, f1, f2⟩ := ndb_t (by omega) hf
    subst f2
    rw [m_ft, i_t, i_n0, m_areS, eX9_forecastFlow_23]
    cases hv : rgb v (nI 1) (nI 50) with
    | false =>
      rw [i_f, show gz_eq (b2 false) = gz_eq 0 from rfl, i_e0]
      exact fail
    | true =>
      obtain ⟨n, n0, n1, n2⟩ := rgb_t (by decide) (by decide) hv
      subst n2
      rw [i_t, show gz_eq (b2 true) = gz_eq 1 from rfl, i_e1, d0, d10, m_in]
      cases hu : rgb u (nI 0) (nI 10) with
      | false =>
        rw [i_f, show gz_eq (b2 false) = gz_eq 0 from rfl, i_e0]
        exact fail
      | true =>
        obtain ⟨w, -, y1, y2⟩ := rgb_t (by decide) (by decide) hu
        subst y2
        obtain ⟨C, c0, c1⟩ := ah_c (N := N) (K := fun I4 => hV (fX6_passSlots N [.ref 0, .ref 7, .int (nI n)] (gS (rg 194 7 ++ rg 41 20) I4)) (rg 194 7 ++ rg 41 20) I4 fun I5 => hI (fX2_getNumber N [.ref 0, .int (nI f), .int (nI w)] (gS (rg 42 9) I5)) (rg 42 9) I5 fun x6 I6 => some (.inl (some (.int x6)), I6)) hc hw hN
        obtain ⟨D, e0, e1⟩ := ah_m (N := N) (K := fun I6 => hV (fX9_slots N [.ref 0, .int (nI n)] (gS (rg 0 18) I6)) (rg 0 18) I6 fun I7 => hX9_forecastFlow_70 N (nI f) (nI w) I7) hm' gU_us hw hN
        obtain ⟨C2, D2, σ', s1, s2, s3, s4, s5, s6, -⟩ := ah_slots (N := N) (n := n) c1 e1 (hw.wa (by omega)) (by omega) hN
        have hf2 : f < σ'.1 2 := by rw [s6.lo (by decide)]; exact f1
        have e49 := s3.fl hf2 (show w < 11 by omega)
        have r3 : D2 3 (65 + 11 * f + w) = nI (flp σ'.1 f w) := s4.2.2.1.1 _ (by omega)
        obtain ⟨D3, g0, ⟨-, -, -, hD3⟩, g2⟩ := ah_back (N := N) (K := fun I9 => some (.inl (some (.int (nI (flp σ'.1 f w)))), I9)) s4 hw hN
        rw [i_t, show gz_eq (b2 true) = gz_eq 1 from rfl, i_e1, eX9_forecastFlow_43, m_f1, i_e0, eX8_forecastFlow_19, c0, e0, s2, s1, pX2_getNumber N _ (by omega), hI_mk, gMg_same _ (by decide), gS_b (by decide) (by decide), e49, eX9_forecastFlow_70, r_flow (by omega), r3, g0]
        exact AG.ok rfl rfl hD3 ⟨s3.1, g2, hw⟩
theorem j_slotsToFull {N : Nat} {v u : Int32} {I J : gM} {a : AB} (h : IN I J a) (hN : 20000 ≤ N) : AG [eIA, eNS] (fX8_slotsToFull N [.ref 0, .int v, .int u] I) (fX9_slotsToFull N [.ref 0, .int v, .int u] J) := by
  obtain ⟨hc, hm, hw⟩ := h
  have hm' := hm.thr (x := 0)
  have l0 : (0 : Int32) = nI 0 := rfl
  have l1 : (1 : Int32) = nI 1 := rfl
  have d1 : (1 : Int64) = (nI 1).toInt64 := by decide
  have d500 : (500 : Int64) = (nI 500).toInt64 := by decide
  have l245 : (245 : Int32) = nI 245 := rfl
  have cc : ∀ X : gO, ck 2746 245 X = X := fun X => by rw [l245, ckI (by decide) (by decide)]
  have n245 : (245 : Int32).toNatClampNeg = 245 := by decide
  have z1 : (fX8_checkRange N [.int v, .int 1, .int 50]) = fX8_checkRange N [.int v, .int (nI 1), .int (nI 50)] := rfl
  have z2 : (fX8_checkRange N [.int u, .int 1, .int 500]) = fX8_checkRange N [.int u, .int (nI 1), .int (nI 500)] := rfl
  have fail : AG [eIA, eNS] (some (.inr "java/lang/IllegalArgumentException", I)) (hX9_slotsToFull_29 N v u (gU J 0 0 0)) := by
    rw [eX9_slotsToFull_29, eX9_slotsToFull_30, m_f0, i_e1]
    exact AG.ex 0 rfl rfl rfl gU_us ⟨hc, hm'.thr, hw⟩
  rw [eX8_slotsToFull, eX8_slotsToFull_0, z1, x_range, z2, x_range, eX9_slotsToFull, eX9_slotsToFull_0, m_areS]
  cases hv : rgb v (nI 1) (nI 50) with
  | false =>
    rw [i_f, show gz_eq (b2 false) = gz_eq 0 from rfl, i_e0]
    exact fail
  | true =>
    obtain ⟨n, n0, n1, n2⟩ := rgb_t (by decide) (by decide) hv
    subst n2
    rw [i_t, show gz_eq (b2 true) = gz_eq 1 from rfl, i_e1, d1, d500, m_in]
    cases hu : rgb u (nI 1) (nI 500) with
    | false =>
      rw [i_f, show gz_eq (b2 false) = gz_eq 0 from rfl, i_e0]
      exact fail
    | true =>
      obtain ⟨w, y0, y1, y2⟩ := rgb_t (by decide) (by decide) hu
      subst y2
      have back : ∀ (i : Nat) (b : Bool) (K L : gM) (σ : St), i ≤ n → AHc K a σ → AHm L a σ → decide (w ≤ σ.2.length) = b → (b = true → AG [eIA, eNS] (some (.inl (some (.int (nI i))), K)) (hX9_slotsToFull_81 N (nI w) (nI i) L)) ∧ (b = false → AG [eIA, eNS] (some (.inr "java/util/NoSuchElementException", K)) (hX9_slotsToFull_81 N (nI w) (nI i) L)) := fun i b K L σ hi hK hL hb => by
        have hl : L 3 245 = nI σ.2.length := hL.2.2.1.2.1
        have hlen : σ.2.length < 2 ^ 31 := by
          have := hK.2.2.2.toq.P.2
          omega
        refine ⟨fun ht => ?_, fun ht => ?_⟩
        · rw [ht, decide_eq_true_eq] at hb
          obtain ⟨D3, g0, ⟨-, -, -, hD3⟩, g2⟩ := ah_back (N := N) (K := fun I6 => hI (fX9_fails N [.ref 0, .int 1, .int 2] (gS (rg 0 18) I6)) (rg 0 18) I6 fun x7 I7 => if gz_eq x7 = true then some (.inl (some (.int (nI i))), I7) else some (.inl (some (.int 0)), I7)) hL hw hN
          rw [eX9_slotsToFull_81, cc, n245, hl, if_neg (fun z => by have := (clt hlen (by omega)).mp z; omega), eX9_slotsToFull_98, g0, m_f1, i_e0]
          exact AG.ok rfl rfl hD3 ⟨hK.1, g2, hw⟩
        · rw [ht, decide_eq_false_iff_not] at hb
          obtain ⟨D3, g0, ⟨-, -, -, hD3⟩, g2⟩ := ah_back (N := N) (K := fun I6 => hI (fX9_fails N [.ref 0, .int 0, .int 2] (gS (rg 0 18) I6)) (rg 0 18) I6 fun x7 I7 => if gz_eq x7 = true then some (.inl (some (.int (nI i))), I7) else some (.inl (some (.int 0)), I7)) hL hw hN
          rw [eX9_slotsToFull_81, cc, n245, hl, if_pos ((clt hlen (by omega)).mpr (by omega)), eX9_slotsToFull_98, g0, m_f0, i_e1]
          exact AG.ex 1 rfl rfl rfl gU_us ⟨hK.1, g2.thr, hw⟩
      have key : ∀ m i : Nat, i ≤ n → n - i + 1 < m → ∀ m2 : Nat, n - i < m2 → ∀ (σ : St) (K L : gM), AHc K a σ → AHm L a σ → Wa (n - i) σ → AG [eIA, eNS] (hX8_slotsToFull_28 N m (nI n) (nI w) (nI i) K) (hX9_slotsToFull_54 N m2 (nI n) (nI w) (nI i) L) := by
        intro m
        induction m with
        | zero => intro i _ h; omega
        | succ m ih =>
          intro i hi hm1 m2 hm2 σ K L hK hL hwa
          cases m2 with
          | zero => omega
          | succ m2 =>
            have hl : L 3 245 = nI σ.2.length := hL.2.2.1.2.1
            have hlen : σ.2.length < 2 ^ 31 := by
              have := hK.2.2.2.toq.P.2
              omega
            rw [eX8_slotsToFull_28, if_neg (fun z => by have := (cgt (by omega) (by omega)).mp z; omega), hK.pk, eX9_slotsToFull_54]
            by_cases hin : i = n
            · rw [hin, if_pos ((cge (by omega) (by omega)).mpr (Nat.le_refl _)), if_pos (show gc_ge (nI n) (nI n) = true from (cge (by omega) (by omega)).mpr (Nat.le_refl _))]
              by_cases hlt : σ.2.length < w
              · cases m with
                | zero => omega
                | succ m =>
                  rw [if_pos ((clt hlen (by omega)).mpr hlt), eX8_slotsToFull_65, l1, nI_add, eX8_slotsToFull_28, if_pos ((cgt (by omega) (by omega)).mpr (Nat.lt_succ_self _))]
                  exact (back n false K L σ (Nat.le_refl _) hK hL (decide_eq_false (by omega))).2 rfl
              · rw [if_neg (fun z => hlt ((clt hlen (by omega)).mp z))]
                exact (back n true K L σ (Nat.le_refl _) hK hL (decide_eq_true (by omega))).1 rfl
            · rw [if_neg (show ¬ gc_ge (nI i) (nI n) = true from fun z => hin (by have := (cge (by omega) (by omega)).mp z; omega)), if_neg (show ¬ gc_ge (nI i) (nI n) = true from fun z => hin (by have := (cge (by omega) (by omega)).mp z; omega)), cc, n245, hl]
              by_cases hlt : σ.2.length < w
              · have e : n - i = (n - (i + 1)) + 1 := by omega
                rw [e] at hwa
                obtain ⟨K2, L2, σ', s1, s2, s3, s4, s5, s6, s7⟩ := ah_slot (N := N) hK hL hwa hN
                rw [if_pos ((clt hlen (by omega)).mpr hlt), if_neg (fun z => by have := (cge hlen (by omega)).mp z; omega), s1, s2, eX8_slotsToFull_65, l1, nI_add]
                exact ih (i + 1) (by omega) (by omega) m2 (by omega) σ' K2 L2 s3 s4 s5
              · rw [if_neg (fun z => hlt ((clt hlen (by omega)).mp z)), if_pos ((cge hlen (by omega)).mpr (by omega))]
                exact (back i true K L σ hi hK hL (decide_eq_true (by omega))).1 rfl
      obtain ⟨C, c0, c1⟩ := ah_c (N := N) (K := fun I3 => hX8_slotsToFull_26 N (nI n) (nI w) I3) hc hw hN
      obtain ⟨D, e0, e1⟩ := ah_m (N := N) (K := fun I4 => hX9_slotsToFull_54 N N (nI n) (nI w) 0 I4) hm' gU_us hw hN
      rw [i_t, show gz_eq (b2 true) = gz_eq 1 from rfl, i_e1, eX9_slotsToFull_30, m_f1, i_e0, c0, e0, eX8_slotsToFull_26, l0]
      exact key N 0 (Nat.zero_le _) (by omega) N (by omega) a.1 C D c1 e1 (hw.wa (by omega))
