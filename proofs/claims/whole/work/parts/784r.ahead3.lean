/-! ===== trying settings: both sides ===== -/
theorem l_copyA {N B d s : Nat} {σ : St} {I : gM} (hc : STc (gS (rg s 20) I) σ) (hw : Wf B σ) (hds : d + 20 ≤ s ∨ s + 20 ≤ d) (hN : 1000 ≤ N) :
    ∃ J, (∀ K : gM → gO, hV (fX7_copyFrom N [.ref 0, .ref 20] (gS (rg d 20 ++ rg s 20) I)) (rg d 20 ++ rg s 20) I K = K J) ∧ STc (gS (rg d 20) J) σ ∧ ∀ k, (k < d ∨ d + 20 ≤ k) → J k = I k := by
  obtain ⟨J, j0, j1, j2⟩ := pX7_copyFrom (N := N) (I := gS (rg d 20 ++ rg s 20) I) (hc.congr (fun k hk => by rw [gS_b hk (by decide), gS_b hk (by decide), gS_ap2 hk (by decide)])) hw hN
  refine ⟨gMg (rg d 20 ++ rg s 20) I J, fun K => by rw [j0, hV_mk], j1.congr (fun k hk => by rw [gS_b hk (by decide), gM_ap1 hk]), fun k hk => ?_⟩
  by_cases h : s ≤ k ∧ k < s + 20
  · have e : k = s + (k - s) := by omega
    rw [e, gM_ap2 (by omega) hds, j2 _ (by omega), gS_ap2 (by omega) (by decide)]
  · exact gM_apo hk (by omega)
theorem m_copyA {N n1 n2 a b p q : Nat} {J : gM} (hab : a ≠ b) (h1 : p + 2746 ≤ n1) (h2 : q + 2746 ≤ n2) (hn1 : n1 < 2 ^ 31) (hn2 : n2 < 2 ^ 31) (hN : 20000 ≤ N) : ∃ J', (∀ K : gM → gO, hV (fX9_copy N n1 n2 [.ref 0, .int (nI p), .ref 1, .int (nI q)] (gS [a, b] J)) [a, b] J K = K J') ∧ (∀ k, k < 2746 → J' b (q + k) = J a (p + k)) ∧ (∀ x, (x < q ∨ q + 2746 ≤ x) → J' b x = J b x) ∧ ∀ k, k ≠ b → J' k = J k := by
  obtain ⟨C, c0, c1, c2, c3⟩ := pX9_copy (N := N) (n1 := n1) (n2 := n2) (a := p) (b := q) (I := gS [a, b] J) h1 h2 hn1 hn2 (by omega)
  obtain ⟨mb, mo⟩ := gM3x (J := J) (C := C) hab
  refine ⟨gMg [a, b] J C, fun K => by rw [c0, hV_mk], fun k hk => by rw [mb, c1 k hk]; rfl, fun x hx => by rw [mb, c2 x hx]; rfl, fun k hk => ?_⟩
  by_cases e : k = a
  · rw [e, gM3a, c3 0 (by decide)]; rfl
  · exact mo k e hk
theorem ah_backA {N : Nat} {a : AB} {σ : St} {J : gM} (h : AHm J a σ) (hw : INw a) (hN : 20000 ≤ N) : ∃ J', (∀ K : gM → gO, hV (fX9_copy N 2746 2746 [.ref 0, .int 0, .ref 1, .int 0] (gS [4, 3] J)) [4, 3] J K = K J') ∧ AHm J' a a.1 ∧ INm J' a := by
  obtain ⟨h1, h2, h3, h4⟩ := h
  obtain ⟨C, q0, q1, q2, q3⟩ := m_copyA (N := N) (n1 := 2746) (n2 := 2746) (a := 4) (b := 3) (p := 0) (q := 0) (J := J) (by decide) (by decide) (by decide) (by decide) (by decide) hN
  have hr : RowIs (C 3) a.1 := h2.congr (wfP hw.1.1.1).1 (fun k hk => by
    have := q1 k hk
    rwa [Nat.zero_add] at this)
  have hi : INm0 C a := h1.congr (fun j _ => by rw [q3 0 (by decide)]) (fun k hk => q3 k (by omega))
  exact ⟨C, q0, ⟨hi, by rw [q3 4 (by decide)]; exact h2, hr, by rw [q3 0 (by decide)]; exact h4⟩, hr, hi⟩
/-- one look ahead from changed settings -/
theorem ah_run {N n : Nat} {a : AB} {I M : gM} {σ2 : St} (fI fM : gM → gM) (hc : INc I a) (hm : AHm M a a.1) (hw : INw a) (hfI : ∀ X, AHc X a a.1 → AHc (fI X) a σ2) (hfM : AHm (fM M) a σ2) (hwa : Wa n σ2) (hn : n ≤ 50) (hN : 20000 ≤ N) :
    ∃ (I2 I3 M3 M5 : gM) (σ' : St), (∀ K : gM → gO, hV (fX7_copyFrom N [.ref 0, .ref 20] (gS (rg 41 20 ++ rg 1 20) I)) (rg 41 20 ++ rg 1 20) I K = K I2) ∧ (∀ K : gM → gO, hV (fX6_passSlots N [.ref 0, .ref 7, .int (nI n)] (gS (rg 194 7 ++ rg 41 20) (fI I2))) (rg 194 7 ++ rg 41 20) (fI I2) K = K I3) ∧ (∀ K : gM → gO, hV (fX9_slots N [.ref 0, .int (nI n)] (gS (rg 0 18) (fM M))) (rg 0 18) (fM M) K = K M3) ∧ (∀ K : gM → gO, hV (fX9_copy N 2746 2746 [.ref 0, .int 0, .ref 1, .int 0] (gS [4, 3] M3)) [4, 3] M3 K = K M5) ∧ AHc I3 a σ' ∧ AHm M3 a σ' ∧ AHm M5 a a.1 ∧ INm M5 a ∧ Wa 0 σ' ∧ keepN σ2.1 σ'.1 := by
  obtain ⟨C, c0, c1, c2⟩ := l_copyA (N := N) (d := 41) (s := 1) hc.1 hw.1.1.1 (Or.inr (by decide)) (by omega)
  have hC : AHc C a a.1 := AHc.of hc c1 (fun k hk => c2 k (by omega))
  obtain ⟨I3, M3, σ', s1, s2, s3, s4, s5, s6, -⟩ := ah_slots (N := N) (n := n) (hfI C hC) hfM hwa hn hN
  obtain ⟨M5, b0, b1, b2'⟩ := ah_backA (N := N) s4 hw hN
  exact ⟨C, I3, M3, M5, σ', c0, s1, s2, b0, s3, s4, b1, b2', s5, s6⟩
theorem gSUb {I : gM} {b p j : Nat} {x : Int32} : ∀ k, k < 20 → gS (rg b 20) (gU I (b + p) j x) k = gU (gS (rg b 20) I) p j x k := fun k hk => by
  rw [gS_b hk (by decide)]
  by_cases h : k = p
  · rw [h, gU_u3, gU_u3, gS_b (by omega) (by decide)]
  · rw [gU_ok (by omega), gU_ok h, gS_b hk (by decide)]
theorem AHc.set {I : gM} {a : AB} {σ : St} {k x : Nat} (h : AHc I a σ) (hk : k < 4) : AHc (gU I 48 k (nI x)) a (up1 σ.1 (3 + k) x, σ.2) := AHc.of h.1 ((STc.set (I := gS (rg 41 20) I) (r := σ.1) (ps := σ.2) h.2 hk).congr (fun q hq => gSUb (b := 41) (p := 7) q hq)) (fun q hq => gU_ok (by omega))
theorem AHm.set {M : gM} {a : AB} {σ : St} {k x : Nat} (h : AHm M a σ) (hk : k < 4) : AHm (gU M 3 (3 + k) (nI x)) a (up1 σ.1 (3 + k) x, σ.2) := ⟨h.1.congr (fun j _ => by rw [gU_ok (by decide)]) (fun q hq => gU_ok (by omega)), by rw [gU_ok (by decide)]; exact h.2.1, by rw [gU_u3]; exact h.2.2.1.put (by omega), by rw [gU_ok (by decide)]; exact h.2.2.2⟩
theorem Wt.wa {σ : St} {n : Nat} (h : Wt σ) (hn : n ≤ 101) : Wa n σ := ⟨h.1, by have := h.2; omega⟩
def sumF (σ : St) (w : Nat) : Int32 := (List.range (σ.1 2)).foldl (fun z f => z + nI (flp σ.1 f w)) 0
theorem foldl_congr {f g : Int32 → Nat → Int32} : ∀ (l : List Nat) (z : Int32), (∀ x ∈ l, ∀ z, f z x = g z x) → l.foldl f z = l.foldl g z
  | [], _, _ => rfl
  | x :: t, z, h => by
    show t.foldl f (f z x) = t.foldl g (g z x)
    rw [h x List.mem_cons_self z]
    exact foldl_congr t _ (fun y hy => h y (List.mem_cons_of_mem _ hy))
theorem c_sum {N w : Nat} {a : AB} {σ : St} {I : gM} {K : Int32 → gM → gO} (h : AHc I a σ) (h6 : σ.1 2 ≤ 6) (hw : w < 11) (hN : 1000 ≤ N) : hI (fX2_sumNumber N [.ref 0, .int (nI w)] (gS (rg 42 9) I)) (rg 42 9) I K = K (sumF σ w) I := by
  have e2 : gS (rg 42 9) I 0 2 = nI (σ.1 2) := by
    have := h.2.1.1.2.2
    rw [gS_b (by decide) (by decide)] at this ⊢; exact this
  rw [pX2_sumNumber N _ e2 h6 hw (by omega), hI_mk, gMg_same _ (by decide)]
  have : (List.range (σ.1 2)).foldl (fun z f => z + gS (rg 42 9) I 7 (f * 11 + w)) 0 = sumF σ w := foldl_congr _ _ (fun f hf z => by
    rw [gS_b (by decide) (by decide), h.fl (List.mem_range.mp hf) hw])
  rw [this]
theorem m_sum {N w : Nat} {σ : St} {M : gM} {K : Int32 → gM → gO} (h : RowIs (M 3) σ) (h6 : σ.1 2 ≤ 6) (hw : w < 11) (hN : 1000 ≤ N) : hI (fX9_sumOf N [.ref 0, .int (nI w)] (gS (rg 0 18) M)) (rg 0 18) M K = K (sumF σ w) M := by
  have l0 : (0 : Int32) = nI 0 := rfl
  have l1 : (1 : Int32) = nI 1 := rfl
  have l2 : (2 : Int32) = nI 2 := rfl
  have c2 : ∀ X : gO, ck 2746 2 X = X := fun X => by rw [l2, ckI (by decide) (by decide)]
  have n2 : (2 : Int32).toNatClampNeg = 2 := by decide
  have hS : RowIs (gS (rg 0 18) M 3) σ := by rw [gSm18 (by decide)]; exact h
  have key : ∀ m i : Nat, i ≤ σ.1 2 → σ.1 2 - i < m → hX9_sumOf_4 N m (nI w) ((List.range i).foldl (fun z f => z + nI (flp σ.1 f w)) 0) (nI i) (gS (rg 0 18) M) = some (.inl (some (.int (sumF σ w))), gS (rg 0 18) M) := by
    intro m
    induction m with
    | zero => intro i _ h; omega
    | succ m ih =>
      intro i hi hm
      rw [eX9_sumOf_4, c2, n2, hS.1 2 (by decide)]
      by_cases hin : i = σ.1 2
      · rw [hin, if_pos ((cge (by omega) (by omega)).mpr (Nat.le_refl _))]; rfl
      · have e : gS (rg 0 18) M 3 (65 + 11 * i + w) = nI (flp σ.1 i w) := hS.1 _ (by omega)
        rw [if_neg (fun z => hin (by have := (cge (by omega) (by omega)).mp z; omega)), r_flow (by omega), e, l1, nI_add]
        have := ih (i + 1) (by omega) (by omega)
        rw [List.range_succ, List.foldl_append] at this
        exact this
  rw [eX9_sumOf, eX9_sumOf_0]
  have := key N 0 (Nat.zero_le _) (by omega)
  rw [show ((List.range 0).foldl (fun z f => z + nI (flp σ.1 f w)) 0 : Int32) = 0 from rfl, show nI 0 = (0 : Int32) from rfl] at this
  rw [this, hI_mk, gMm18]
theorem bias_c : ∀ X : gO, (if gRng 1200 1201 1200 ∧ ¬ (2 < 0 ∨ 4 ≤ (2 : Int32).toNatClampNeg) then X else none) = X := fun X => by
  have hg : gRng 1200 1201 1200 := by unfold gRng; decide
  exact if_pos ⟨hg, by decide⟩
theorem gGS2 : gGS.getD (2 : Int32).toNatClampNeg 0 = nI 20 := rfl
theorem j_bestBias {N : Nat} {v : Int32} {I J : gM} {a : AB} (h : IN I J a) (hN : 20000 ≤ N) : AG [eIA] (fX8_bestBias N [.ref 0, .int v] I) (fX9_bestBias N [.ref 0, .int v] J) := by
  obtain ⟨hc, hm, hw⟩ := h
  have hm' := hm.thr (x := 0)
  have l0 : (0 : Int32) = nI 0 := rfl
  have l1 : (1 : Int32) = nI 1 := rfl
  have l2 : (2 : Int32) = nI 2 := rfl
  have l5 : (5 : Int32) = nI 5 := rfl
  have l8 : (8 : Int32) = nI 8 := rfl
  have l20 : (20 : Int32) = nI 20 := rfl
  have l245 : (245 : Int32) = nI 245 := rfl
  have lm : (-1 : Int32) = mI := rfl
  have c5 : ∀ X : gO, ck 2746 5 X = X := fun X => by rw [l5, ckI (by decide) (by decide)]
  have c245 : ∀ X : gO, ck 2746 245 X = X := fun X => by rw [l245, ckI (by decide) (by decide)]
  have c42 : ∀ X : gO, ck 4 2 X = X := fun X => by rw [l2, ckI (by decide) (by decide)]
  have n2 : (2 : Int32).toNatClampNeg = 2 := by decide
  have n5 : (5 : Int32).toNatClampNeg = 5 := by decide
  have n245 : (245 : Int32).toNatClampNeg = 245 := by decide
  have z1 : (fX8_checkRange N [.int v, .int 1, .int 50]) = fX8_checkRange N [.int v, .int (nI 1), .int (nI 50)] := rfl
  have w2 := hw.lt.2.2
  rw [eX8_bestBias, eX8_bestBias_0, z1, x_range, eX9_bestBias, eX9_bestBias_0, m_areS]
  cases hv : rgb v (nI 1) (nI 50) with
  | false =>
    rw [m_ff, i_f, i_e1]
    exact AG.ex 0 rfl rfl rfl gU_us ⟨hc, hm'.thr, hw⟩
  | true =>
    obtain ⟨n, n0, n1, nn⟩ := rgb_t (by decide) (by decide) hv
    subst nn
    obtain ⟨D, e0, e1⟩ := ah_m (N := N) (K := fun I3 => hX9_bestBias_39 N (nI n) (-1) 0 0 I3) hm' gU_us hw hN
    rw [m_ft, i_t, i_e0, e0, eX9_bestBias_39]
    -- one trial on both sides
    have trial : ∀ (i : Nat), i ≤ 20 → ∀ (K M : gM), INc K a → AHm M a a.1 → ∃ (K3 M5 : gM) (p : Nat) (s : Int32), p < 2 ^ 31 ∧ (∀ (m : Nat) (x y z : Int32), hX8_bestBias_17 N (m + 1) (nI n) x y z (nI i) K = hX8_bestBias_88 N m (nI n) x y z (nI i) (nI p) s K3) ∧
        (∀ (m : Nat) (x y z : Int32), ∃ M3 : gM, hX9_bestBias_42 N (m + 1) (nI n) x y z (nI i) M = (if gc_eq x (-1) = true then (hX9_bestBias_104 N m (nI n) (nI i) (nI p) s M3) else (if gc_lt (nI p) y = true then (hX9_bestBias_104 N m (nI n) (nI i) (nI p) s M3) else (if gc_ne (nI p) y = true then (hX9_bestBias_114 N m (nI n) x y z (nI i) M3) else (if gc_ge s z = true then (hX9_bestBias_114 N m (nI n) x y z (nI i) M3) else (hX9_bestBias_104 N m (nI n) (nI i) (nI p) s M3))))) ∧ ∀ x y z : Int32, hX9_bestBias_114 N m (nI n) x y z (nI i) M3 = hX9_bestBias_42 N m (nI n) x y z (nI (i + 1)) M5) ∧ INc K3 a ∧ AHm M5 a a.1 ∧ INm M5 a := by
      intro i hi K M hK hM
      obtain ⟨I2, I3, M3, M5, σ', s0, s1, s2, s3, s4, s5, s6, s7, s8, s9⟩ := ah_run (N := N) (n := n) (σ2 := (up1 a.1.1 5 i, a.1.2)) (fun X => gU X 48 2 (nI i)) (fun X => gU X 3 5 (nI i)) hK hM hw (fun X hX => hX.set (k := 2) (by decide)) (hM.set (k := 2) (by decide)) (((hw.1.set (k := 2) (by decide) (show i ≤ msz 2 from hi)) : Wt (up1 a.1.1 5 i, a.1.2)).wa (by omega)) (by omega) hN
      have h6 : σ'.1 2 ≤ 6 := by rw [s9.lo (by decide)]; show up1 a.1.1 5 i 2 ≤ 6; rw [up1_n (by decide)]; exact w2
      have hl : M3 3 245 = nI σ'.2.length := s5.2.2.1.2.1
      refine ⟨I3, M5, σ'.2.length, sumF σ' 8, by have := s4.2.2.2.toq.P.2; omega, fun m x y z => ?_, fun m x y z => ⟨M3, ?_, fun x y z => ?_⟩, s4.1, s6, s7⟩
      · rw [eX8_bestBias_17, bias_c, gGS2, if_neg (fun z => by have := (cgt (by omega) (by decide)).mp z; omega), s0, c42, n2, s1, l8, c_sum s4 h6 (by decide) (by omega), s4.pk]
      · rw [eX9_bestBias_42, l20, if_neg (fun z => by have := (cgt (by omega) (by decide)).mp z; omega), c5, n5, s2, c245, n245, hl, l8, m_sum s5.2.2.1 h6 (by decide) (by omega)]
      · rw [eX9_bestBias_114, s3, l1, nI_add]
    have loop : ∀ m i : Nat, 1 ≤ i → i ≤ 21 → 21 - i < m → ∀ m2 : Nat, 21 - i < m2 → ∀ (K M : gM) (b : Nat) (y z : Int32), b < 2 ^ 31 → INc K a → AHm M a a.1 → INm M a → AG [eIA] (hX8_bestBias_17 N m (nI n) (nI b) y z (nI i) K) (hX9_bestBias_42 N m2 (nI n) (nI b) y z (nI i) M) := by
      intro m
      induction m with
      | zero => intro i _ _ h; omega
      | succ m ih =>
        intro i hi1 hi hm1 m2 hm2 K M b y z hb hK hM hMi
        cases m2 with
        | zero => omega
        | succ m2 =>
          by_cases hin : i = 21
          · rw [eX8_bestBias_17, bias_c, gGS2, hin, if_pos (by decide), eX9_bestBias_42, if_pos (by decide)]
            exact AG.ok rfl rfl hM.2.2.2 ⟨hK, hMi, hw⟩
          · obtain ⟨K3, M5, p, s, hp, t1, t2, t3, t4, t5⟩ := trial i (by omega) K M hK hM
            obtain ⟨M3, t6, t7⟩ := t2 m2 (nI b) y z
            have yes : AG [eIA] (hX8_bestBias_114 N m (nI n) (nI i) (nI p) s K3) (hX9_bestBias_104 N m2 (nI n) (nI i) (nI p) s M3) := by
              rw [eX8_bestBias_114, eX8_bestBias_124, eX9_bestBias_104, t7, l1, nI_add]
              exact ih (i + 1) (by omega) (by omega) (by omega) m2 (by omega) K3 M5 i (nI p) s (by omega) t3 t4 t5
            have no : AG [eIA] (hX8_bestBias_124 N m (nI n) (nI b) y z (nI i) K3) (hX9_bestBias_114 N m2 (nI n) (nI b) y z (nI i) M3) := by
              rw [eX8_bestBias_124, t7, l1, nI_add]
              exact ih (i + 1) (by omega) (by omega) (by omega) m2 (by omega) K3 M5 b y z hb t3 t4 t5
            rw [t1, t6, eX8_bestBias_88, if_neg (fun q => by have := (zeq (by omega)).mp q; omega), lm, if_neg (ceqm (a := b) hb).mp]
            by_cases h1 : gc_lt (nI p) y = true
            · rw [if_pos h1, if_pos h1]; exact yes
            · rw [if_neg h1, if_neg h1]
              by_cases h2 : gc_ne (nI p) y = true
              · rw [if_pos h2, if_pos h2]; exact no
              · rw [if_neg h2, if_neg h2]
                by_cases h3 : gc_ge s z = true
                · rw [if_pos h3, if_pos h3]; exact no
                · rw [if_neg h3, if_neg h3]; exact yes
    obtain ⟨N', rfl⟩ : ∃ N', N = N' + 1 := ⟨N - 1, by omega⟩
    obtain ⟨K3, M5, p, s, hp, t1, t2, t3, t4, t5⟩ := trial 0 (by decide) I D hc e1
    obtain ⟨M3, t6, t7⟩ := t2 N' (-1) 0 0
    have u1 := t1 N' 0 0 0
    rw [show nI 0 = (0 : Int32) from rfl] at u1 t6
    rw [u1, t6, eX8_bestBias_88, i_e0, if_pos (by decide), eX8_bestBias_114, eX8_bestBias_124, eX9_bestBias_104]
    have t7' := t7 0 (nI p) s
    rw [show nI 0 = (0 : Int32) from rfl] at t7'
    rw [t7', l1, l0, nI_add]
    exact loop N' 1 (Nat.le_refl _) (by decide) (by omega) N' (by omega) K3 M5 0 (nI p) s (by decide) t3 t4 t5
