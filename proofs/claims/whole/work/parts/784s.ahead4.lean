/-! ===== bestExcess, bestSettings on both sides ===== -/
theorem sumF_6 {σ : St} (h : Wa 0 σ) : ∃ t, t < 2 ^ 31 ∧ sumF σ 6 = nI t := by
  obtain ⟨⟨hw, -⟩, h7⟩ := h
  have c2 := (wfC hw).2.2.1
  have key : ∀ n, n ≤ σ.1 2 → ∃ t, t ≤ n * 1111110 ∧ (List.range n).foldl (fun z f => z + nI (flp σ.1 f 6)) 0 = nI t := by
    intro n
    induction n with
    | zero => intro _; exact ⟨0, Nat.zero_le _, rfl⟩
    | succ n ih =>
      intro hn
      obtain ⟨t, t1, t2⟩ := ih (by omega)
      have h6 := (wfF hw n (by omega)).2.2.2.2.2.1
      refine ⟨t + flp σ.1 n 6, by omega, ?_⟩
      rw [List.range_succ, List.foldl_append, t2]
      exact nI_add _ _
  obtain ⟨t, t1, t2⟩ := key (σ.1 2) (Nat.le_refl _)
  exact ⟨t, by omega, t2⟩
theorem le_m {t : Nat} (h : t < 2 ^ 31) : ¬ gc_le (nI t) mI = true := fun z => by
  have h1 : mI < nI t := of_decide_eq_true (m_lt_nI h)
  exact absurd (of_decide_eq_true z) (Int32.not_le.mpr h1)
theorem exc_c : ∀ X : gO, (if gRng 1200 1201 1200 ∧ ¬ (1 < 0 ∨ 4 ≤ (1 : Int32).toNatClampNeg) then X else none) = X := fun X => by
  have hg : gRng 1200 1201 1200 := by unfold gRng; decide
  exact if_pos ⟨hg, by decide⟩
theorem gGS1 : gGS.getD (1 : Int32).toNatClampNeg 0 = nI 50 := rfl
theorem Wt.set2 {σ : St} {k x l y : Nat} (h : Wt σ) (hk : k < 4) (hx : x ≤ msz k) (hl : l < 4) (hy : y ≤ msz l) : Wt (up1 (up1 σ.1 (3 + k) x) (3 + l) y, σ.2) := Wt.set (σ := (up1 σ.1 (3 + k) x, σ.2)) (h.set hk hx) hl hy
theorem AHc.set2 {I : gM} {a : AB} {σ : St} {k x l y : Nat} (h : AHc I a σ) (hk : k < 4) (hl : l < 4) : AHc (gU (gU I 48 k (nI x)) 48 l (nI y)) a (up1 (up1 σ.1 (3 + k) x) (3 + l) y, σ.2) := (h.set hk).set (σ := (up1 σ.1 (3 + k) x, σ.2)) hl
theorem AHm.set2 {M : gM} {a : AB} {σ : St} {k x l y : Nat} (h : AHm M a σ) (hk : k < 4) (hl : l < 4) : AHm (gU (gU M 3 (3 + k) (nI x)) 3 (3 + l) (nI y)) a (up1 (up1 σ.1 (3 + k) x) (3 + l) y, σ.2) := (h.set hk).set (σ := (up1 σ.1 (3 + k) x, σ.2)) hl
theorem j_bestExcess {N : Nat} {v : Int32} {I J : gM} {a : AB} (h : IN I J a) (hN : 20000 ≤ N) : AG [eIA] (fX8_bestExcess N [.ref 0, .int v] I) (fX9_bestExcess N [.ref 0, .int v] J) := by
  obtain ⟨hc, hm, hw⟩ := h
  have hm' := hm.thr (x := 0)
  have l0 : (0 : Int32) = nI 0 := rfl
  have l1 : (1 : Int32) = nI 1 := rfl
  have l3 : (3 : Int32) = nI 3 := rfl
  have l4 : (4 : Int32) = nI 4 := rfl
  have l6 : (6 : Int32) = nI 6 := rfl
  have l10 : (10 : Int32) = nI 10 := rfl
  have l50 : (50 : Int32) = nI 50 := rfl
  have lm : (-1 : Int32) = mI := rfl
  have c3 : ∀ X : gO, ck 2746 3 X = X := fun X => by rw [l3, ckI (by decide) (by decide)]
  have c4 : ∀ X : gO, ck 2746 4 X = X := fun X => by rw [l4, ckI (by decide) (by decide)]
  have c40 : ∀ X : gO, ck 4 0 X = X := fun X => by rw [l0, ckI (by decide) (by decide)]
  have c41 : ∀ X : gO, ck 4 1 X = X := fun X => by rw [l1, ckI (by decide) (by decide)]
  have n0' : (0 : Int32).toNatClampNeg = 0 := by decide
  have n1' : (1 : Int32).toNatClampNeg = 1 := by decide
  have n3 : (3 : Int32).toNatClampNeg = 3 := by decide
  have n4 : (4 : Int32).toNatClampNeg = 4 := by decide
  have z1 : (fX8_checkRange N [.int v, .int 1, .int 50]) = fX8_checkRange N [.int v, .int (nI 1), .int (nI 50)] := rfl
  have w2 := hw.lt.2.2
  rw [eX8_bestExcess, eX8_bestExcess_0, z1, x_range, eX9_bestExcess, eX9_bestExcess_0, m_areS]
  cases hv : rgb v (nI 1) (nI 50) with
  | false =>
    rw [m_ff, i_f, i_e1]
    exact AG.ex 0 rfl rfl rfl gU_us ⟨hc, hm'.thr, hw⟩
  | true =>
    obtain ⟨n, n0, n1, nn⟩ := rgb_t (by decide) (by decide) hv
    subst nn
    obtain ⟨D, e0, e1⟩ := ah_m (N := N) (K := fun I3 => hX9_bestExcess_36 N (nI n) (-1) 0 I3) hm' gU_us hw hN
    rw [m_ft, i_t, i_e0, e0, eX9_bestExcess_36]
    have trial : ∀ (i : Nat), i ≤ 5 → ∀ (K M : gM), INc K a → AHm M a a.1 → ∃ (K3 M5 : gM) (t : Nat), t < 2 ^ 31 ∧ (∀ (m : Nat) (x y : Int32), hX8_bestExcess_14 N (m + 1) (nI n) x y (nI (10 * i)) K = hX8_bestExcess_86 N m (nI n) x y (nI (10 * i)) (nI t) K3) ∧
        (∀ (m : Nat) (x y : Int32), ∃ M3 : gM, hX9_bestExcess_39 N (m + 1) (nI n) x y (nI (10 * i)) M = (if gc_eq x (-1) = true then (hX9_bestExcess_85 N m (nI n) (nI (10 * i)) (nI t) M3) else (if gc_le (nI t) y = true then (hX9_bestExcess_91 N m (nI n) x y (nI (10 * i)) M3) else (hX9_bestExcess_85 N m (nI n) (nI (10 * i)) (nI t) M3))) ∧ ∀ x y : Int32, hX9_bestExcess_91 N m (nI n) x y (nI (10 * i)) M3 = hX9_bestExcess_39 N m (nI n) x y (nI (10 * (i + 1))) M5) ∧ INc K3 a ∧ AHm M5 a a.1 ∧ INm M5 a := by
      intro i hi K M hK hM
      obtain ⟨I2, I3, M3, M5, σ', s0, s1, s2, s3, s4, s5, s6, s7, s8, s9⟩ := ah_run (N := N) (n := n) (σ2 := (up1 (up1 a.1.1 3 1) 4 (10 * i), a.1.2)) (fun X => gU (gU X 48 0 (nI 1)) 48 1 (nI (10 * i))) (fun X => gU (gU X 3 3 (nI 1)) 3 4 (nI (10 * i))) hK hM hw (fun X hX => hX.set2 (k := 0) (l := 1) (by decide) (by decide)) (hM.set2 (k := 0) (l := 1) (by decide) (by decide)) (((hw.1.set2 (k := 0) (l := 1) (x := 1) (by decide) (show 1 ≤ msz 0 from Nat.le_refl _) (by decide) (show 10 * i ≤ msz 1 from (show 10 * i ≤ 50 by omega))) : Wt (up1 (up1 a.1.1 3 1) 4 (10 * i), a.1.2)).wa (by omega)) (by omega) hN
      have h6 : σ'.1 2 ≤ 6 := by rw [s9.lo (by decide)]; show up1 (up1 a.1.1 3 1) 4 (10 * i) 2 ≤ 6; rw [up1_n (by decide), up1_n (by decide)]; exact w2
      obtain ⟨t, t1, t2⟩ := sumF_6 s8
      refine ⟨I3, M5, t, t1, fun m x y => ?_, fun m x y => ⟨M3, ?_, fun x y => ?_⟩, s4.1, s6, s7⟩
      · rw [eX8_bestExcess_14, exc_c, gGS1, if_neg (fun z => by have := (cgt (by omega) (by decide)).mp z; omega), s0, c40, c41, n0', n1', l1, s1, l6, c_sum s4 h6 (by decide) (by omega), t2]
      · rw [eX9_bestExcess_39, l50, if_neg (fun z => by have := (cgt (by omega) (by decide)).mp z; omega), c3, c4, n3, n4, l1, s2, l6, m_sum s5.2.2.1 h6 (by decide) (by omega), t2]
      · have ea : nI (10 * i) + nI 10 = nI (10 * (i + 1)) := by rw [nI_add]; congr 1
        rw [eX9_bestExcess_91, s3, l10, ea]
    have loop : ∀ m i : Nat, 1 ≤ i → i ≤ 6 → 6 - i < m → ∀ m2 : Nat, 6 - i < m2 → ∀ (K M : gM) (b : Nat) (y : Int32), b < 2 ^ 31 → INc K a → AHm M a a.1 → INm M a → AG [eIA] (hX8_bestExcess_14 N m (nI n) (nI b) y (nI (10 * i)) K) (hX9_bestExcess_39 N m2 (nI n) (nI b) y (nI (10 * i)) M) := by
      intro m
      induction m with
      | zero => intro i _ _ h; omega
      | succ m ih =>
        intro i hi1 hi hm1 m2 hm2 K M b y hb hK hM hMi
        cases m2 with
        | zero => omega
        | succ m2 =>
          by_cases hin : i = 6
          · rw [eX8_bestExcess_14, exc_c, gGS1, hin, if_pos (by decide), eX9_bestExcess_39, if_pos (by decide)]
            exact AG.ok rfl rfl hM.2.2.2 ⟨hK, hMi, hw⟩
          · obtain ⟨K3, M5, t, ht, t1, t2, t3, t4, t5⟩ := trial i (by omega) K M hK hM
            obtain ⟨M3, t6, t7⟩ := t2 m2 (nI b) y
            have ea : nI (10 * i) + nI 10 = nI (10 * (i + 1)) := by rw [nI_add]; congr 1
            rw [t1, t6, eX8_bestExcess_86, lm, if_neg (ceqm (a := b) hb).mp]
            by_cases h1 : gc_le (nI t) y = true
            · rw [if_pos h1, if_pos h1, eX8_bestExcess_100, t7, l10, ea]
              exact ih (i + 1) (by omega) (by omega) (by omega) m2 (by omega) K3 M5 b y hb t3 t4 t5
            · rw [if_neg h1, if_neg h1, eX8_bestExcess_100, eX9_bestExcess_85, t7, l10, ea]
              exact ih (i + 1) (by omega) (by omega) (by omega) m2 (by omega) K3 M5 (10 * i) (nI t) (by omega) t3 t4 t5
    obtain ⟨N', rfl⟩ : ∃ N', N = N' + 1 := ⟨N - 1, by omega⟩
    obtain ⟨K3, M5, t, ht, t1, t2, t3, t4, t5⟩ := trial 0 (by decide) I D hc e1
    obtain ⟨M3, t6, t7⟩ := t2 N' (-1) 0
    have u1 := t1 N' 0 (-1)
    have t7' := t7 0 (nI t)
    rw [show nI (10 * 0) = (0 : Int32) from rfl] at u1 t6 t7'
    have ea : nI (10 * 0) + nI 10 = nI (10 * (0 + 1)) := by rw [nI_add]
    rw [u1, t6, eX8_bestExcess_86, lm, if_neg (le_m ht), if_pos (by decide), eX8_bestExcess_100, eX9_bestExcess_85, t7', l10, show (0 : Int32) = nI (10 * 0) from rfl, ea]
    exact loop N' 1 (Nat.le_refl _) (by decide) (by omega) N' (by omega) K3 M5 0 (nI t) (by decide) t3 t4 t5
theorem set_c0 : ∀ X : gO, (if gRng 1200 1201 1200 ∧ ¬ (0 < 0 ∨ 4 ≤ (0 : Int32).toNatClampNeg) then X else none) = X := fun X => by
  have hg : gRng 1200 1201 1200 := by unfold gRng; decide
  exact if_pos ⟨hg, by decide⟩
theorem gGS0 : gGS.getD (0 : Int32).toNatClampNeg 0 = nI 1 := rfl
theorem j_bestSettings {N : Nat} {v : Int32} {I J : gM} {a : AB} (h : IN I J a) (hN : 20000 ≤ N) : AG [eIA] (fX8_bestSettings N [.ref 0, .int v] I) (fX9_bestSettings N [.ref 0, .int v] J) := by
  obtain ⟨hc, hm, hw⟩ := h
  have hm' := hm.thr (x := 0)
  have l0 : (0 : Int32) = nI 0 := rfl
  have l1 : (1 : Int32) = nI 1 := rfl
  have l2 : (2 : Int32) = nI 2 := rfl
  have l3 : (3 : Int32) = nI 3 := rfl
  have l4 : (4 : Int32) = nI 4 := rfl
  have l6 : (6 : Int32) = nI 6 := rfl
  have l10 : (10 : Int32) = nI 10 := rfl
  have lm : (-1 : Int32) = mI := rfl
  have ne2 : ¬ (2 : Int32) = 0 := by decide
  have c3 : ∀ X : gO, ck 2746 3 X = X := fun X => by rw [l3, ckI (by decide) (by decide)]
  have c6 : ∀ X : gO, ck 2746 6 X = X := fun X => by rw [l6, ckI (by decide) (by decide)]
  have c40 : ∀ X : gO, ck 4 0 X = X := fun X => by rw [l0, ckI (by decide) (by decide)]
  have c43 : ∀ X : gO, ck 4 3 X = X := fun X => by rw [l3, ckI (by decide) (by decide)]
  have n0' : (0 : Int32).toNatClampNeg = 0 := by decide
  have n3 : (3 : Int32).toNatClampNeg = 3 := by decide
  have n6 : (6 : Int32).toNatClampNeg = 6 := by decide
  have z1 : (fX8_checkRange N [.int v, .int 1, .int 50]) = fX8_checkRange N [.int v, .int (nI 1), .int (nI 50)] := rfl
  have w2 := hw.lt.2.2
  rw [eX8_bestSettings, eX8_bestSettings_0, z1, x_range, eX9_bestSettings, eX9_bestSettings_0, m_areS]
  cases hv : rgb v (nI 1) (nI 50) with
  | false =>
    rw [m_ff, i_f, i_e1]
    exact AG.ex 0 rfl rfl rfl gU_us ⟨hc, hm'.thr, hw⟩
  | true =>
    obtain ⟨n, n0, n1, nn⟩ := rgb_t (by decide) (by decide) hv
    subst nn
    obtain ⟨D, e0, e1⟩ := ah_m (N := N) (K := fun I3 => hX9_bestSettings_36 N (nI n) (-1) 0 I3) hm' gU_us hw hN
    rw [m_ft, i_t, i_e0, e0, eX9_bestSettings_36]
    have trial : ∀ (i j : Nat), i ≤ 1 → j ≤ 1 → ∀ (K M : gM), INc K a → AHm M a a.1 → ∃ (K3 M5 : gM) (s : Int64), (∀ (n14 m : Nat) (x : Int32) (y : Int64), hX8_bestSettings_27 N n14 (m + 1) (nI n) x y (nI i) (nI j) K = hX8_bestSettings_101 N n14 m (nI n) x y (nI i) (nI j) s K3) ∧
        (∀ (m : Nat) (x : Int32) (y : Int64), ∃ M3 : gM, hX9_bestSettings_39 N (m + 1) (nI n) x y (nI (2 * i + j)) M = (if gc_eq x (-1) = true then (hX9_bestSettings_105 N m (nI n) (nI (10 * i + j)) s (nI (2 * i + j)) M3) else (if gz_ge (lg_cmp s y) = true then (hX9_bestSettings_105 N m (nI n) x y (nI (2 * i + j)) M3) else (hX9_bestSettings_105 N m (nI n) (nI (10 * i + j)) s (nI (2 * i + j)) M3))) ∧ ∀ (x : Int32) (y : Int64), hX9_bestSettings_105 N m (nI n) x y (nI (2 * i + j)) M3 = hX9_bestSettings_39 N m (nI n) x y (nI (2 * i + j + 1)) M5) ∧ INc K3 a ∧ AHm M5 a a.1 ∧ INm M5 a := by
      intro i j hi hj K M hK hM
      obtain ⟨I2, I3, M3, M5, σ', s0, s1, s2, s3, s4, s5, s6, s7, s8, s9⟩ := ah_run (N := N) (n := n) (σ2 := (up1 (up1 a.1.1 3 i) 6 j, a.1.2)) (fun X => gU (gU X 48 0 (nI i)) 48 3 (nI j)) (fun X => gU (gU X 3 3 (nI i)) 3 6 (nI j)) hK hM hw (fun X hX => hX.set2 (k := 0) (l := 3) (by decide) (by decide)) (hM.set2 (k := 0) (l := 3) (by decide) (by decide)) (((hw.1.set2 (k := 0) (l := 3) (by decide) (show i ≤ msz 0 from hi) (by decide) (show j ≤ msz 3 from hj)) : Wt (up1 (up1 a.1.1 3 i) 6 j, a.1.2)).wa (by omega)) (by omega) hN
      have ln : ∀ q, q < 100 → I3 54 q = nI (qsq σ' q).length ∧ (qsq σ' q).length < 2 ^ 31 := fun q hq => by
        have := s4.2.2.2.toq.len hq
        rw [gS10 (by decide), gS_b (by decide) (by decide)] at this
        exact ⟨this.1, by omega⟩
      have hsq := pX8_sumSq (N := N) (f := fun q => (qsq σ' q).length) (I := gS [54] I3) (fun q hq => ln q hq) (by omega)
      have hmq := pX9_squares (N := N) (σ := σ') (I := gS (rg 0 18) M3) (by rw [gSm18 (by decide)]; exact s5.2.2.1) s8.1.1 (by omega)
      have ed : gb_div (nI (2 * i + j)) (nI 2) = nI i := (pk_div (by omega) (by decide) (by decide)).trans (by congr 1; omega)
      have er : gb_rem (nI (2 * i + j)) (nI 2) = nI j := (pk_rem (by omega) (by decide) (by decide)).trans (by congr 1; omega)
      have em : gb_add (gb_mul (nI 10) (nI i)) (nI j) = nI (10 * i + j) := by
        simp only [gb_add, gb_mul, pk_mul, nI_add]
      refine ⟨I3, M5, lI (sq (fun q => (qsq σ' q).length * (qsq σ' q).length) 100), fun n14 m x y => ?_, fun m x y => ⟨M3, ?_, fun x y => ?_⟩, s4.1, s6, s7⟩
      · rw [eX8_bestSettings_27, sched_c, gGS3, if_neg (fun z => by have := (cgt (by omega) (by decide)).mp z; omega), s0, c40, c43, n0', n3, s1, hsq, hJ_mk, gMg_gS _ _ (by decide)]
      · have e89 : ∀ X : gM, hX9_bestSettings_89 N m (nI n) (nI (2 * i + j)) (lI (sq (fun q => (qsq σ' q).length * (qsq σ' q).length) 100)) X = hX9_bestSettings_105 N m (nI n) (nI (10 * i + j)) (lI (sq (fun q => (qsq σ' q).length * (qsq σ' q).length) 100)) (nI (2 * i + j)) X := fun X => by
          rw [eX9_bestSettings_89, if_neg ne2, if_neg ne2, l2, ed, er, l10, em]
        rw [eX9_bestSettings_39, l4, if_neg (fun z => by have := (cge (by omega) (by decide)).mp z; omega), if_neg ne2, if_neg ne2, c3, c6, n3, n6, l2, ed, er, s2, hmq, hJ_mk, gMm18, e89]
      · rw [eX9_bestSettings_105, s3, l1, nI_add]
    -- one round on both sides, the answers so far alike (or none at all)
    have step : ∀ (i j : Nat), i ≤ 1 → j ≤ 1 → ∀ (n14 m m2 : Nat) (K M : gM) (x : Int32) (y : Int64), (x = mI ∨ ∃ b, b < 2 ^ 31 ∧ x = nI b) → INc K a → AHm M a a.1 → (∀ (K' M' : gM) (x' : Int32) (y' : Int64), (∃ b, b < 2 ^ 31 ∧ x' = nI b) → INc K' a → AHm M' a a.1 → INm M' a → AG [eIA] (hX8_bestSettings_27 N n14 m (nI n) x' y' (nI i) (nI (j + 1)) K') (hX9_bestSettings_39 N m2 (nI n) x' y' (nI (2 * i + j + 1)) M')) → AG [eIA] (hX8_bestSettings_27 N n14 (m + 1) (nI n) x y (nI i) (nI j) K) (hX9_bestSettings_39 N (m2 + 1) (nI n) x y (nI (2 * i + j)) M) := by
      intro i j hi hj n14 m m2 K M x y hx hK hM nx
      obtain ⟨K3, M5, s, t1, t2, t3, t4, t5⟩ := trial i j hi hj K M hK hM
      obtain ⟨M3, t6, t7⟩ := t2 m2 x y
      have em : gb_add (gb_mul 10 (nI i)) (nI j) = nI (10 * i + j) := by
        simp only [gb_add, gb_mul, fa_lit, pk_mul, nI_add]
      have yes : AG [eIA] (hX8_bestSettings_115 N n14 m (nI n) (nI i) (nI j) s K3) (hX9_bestSettings_105 N m2 (nI n) (nI (10 * i + j)) s (nI (2 * i + j)) M3) := by
        rw [eX8_bestSettings_115, em, eX8_bestSettings_127, t7, l1, nI_add]
        exact nx K3 M5 _ s ⟨10 * i + j, by omega, rfl⟩ t3 t4 t5
      rw [t1, t6, eX8_bestSettings_101, lm]
      rcases hx with hx | ⟨b, hb, hx⟩
      · rw [hx, if_pos (ceqmm.mpr True.intro), if_pos (ceqmm.mpr True.intro)]
        exact yes
      · rw [hx, if_neg (ceqm (a := b) hb).mp, if_neg (ceqm (a := b) hb).mp]
        by_cases h1 : gz_ge (lg_cmp s y) = true
        · rw [if_pos h1, if_pos h1, eX8_bestSettings_127, t7, l1, nI_add]
          exact nx K3 M5 _ y ⟨b, hb, rfl⟩ t3 t4 t5
        · rw [if_neg h1, if_neg h1]; exact yes
    obtain ⟨N', rfl⟩ : ∃ N', N = N' + 1 + 1 + 1 + 1 + 1 := ⟨N - 5, by omega⟩
    have wrap : ∀ (n14 m : Nat) (x : Int32) (y : Int64) (i : Nat) (K : gM), hX8_bestSettings_27 (N' + 1 + 1 + 1 + 1 + 1) n14 (m + 1) (nI n) x y (nI i) (nI 2) K = hX8_bestSettings_14 (N' + 1 + 1 + 1 + 1 + 1) n14 (nI n) x y (nI (i + 1)) K := fun n14 m x y i K => by
      rw [eX8_bestSettings_27, sched_c, gGS3, if_pos (by decide), l1, nI_add]
    have open_ : ∀ (n14 : Nat) (x : Int32) (y : Int64) (i : Nat) (K : gM), i ≤ 1 → hX8_bestSettings_14 (N' + 1 + 1 + 1 + 1 + 1) (n14 + 1) (nI n) x y (nI i) K = hX8_bestSettings_27 (N' + 1 + 1 + 1 + 1 + 1) n14 (N' + 1 + 1 + 1 + 1 + 1) (nI n) x y (nI i) (nI 0) K := fun n14 x y i K hi => by
      rw [eX8_bestSettings_14, set_c0, gGS0, if_neg (fun z => by have := (cgt (by omega) (by decide)).mp z; omega)]
      rfl
    rw [show (0 : Int32) = nI 0 from rfl, open_ _ _ _ 0 _ (by decide)]
    refine step 0 0 (by decide) (by decide) _ _ _ I D (-1) 0 (Or.inl rfl) hc e1 (fun K1 M1 x1 y1 hx1 hK1 hM1 _ => ?_)
    refine step 0 1 (by decide) (by decide) _ _ _ K1 M1 x1 y1 (Or.inr hx1) hK1 hM1 (fun K2 M2 x2 y2 hx2 hK2 hM2 _ => ?_)
    rw [wrap, open_ _ _ _ 1 _ (by decide)]
    refine step 1 0 (by decide) (by decide) _ _ _ K2 M2 x2 y2 (Or.inr hx2) hK2 hM2 (fun K3 M3 x3 y3 hx3 hK3 hM3 _ => ?_)
    refine step 1 1 (by decide) (by decide) _ _ _ K3 M3 x3 y3 (Or.inr hx3) hK3 hM3 (fun K4 M4 x4 y4 hx4 hK4 hM4 hM4i => ?_)
    rw [wrap, eX8_bestSettings_14, set_c0, gGS0, if_pos (by decide), eX9_bestSettings_39, if_pos (by decide)]
    exact AG.ok rfl rfl hM4.2.2.2 ⟨hK4, hM4i, hw⟩
