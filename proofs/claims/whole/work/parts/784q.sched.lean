/-! ===== schedule, scheduleWeight, link on both sides ===== -/
theorem l_choose {N sc : Nat} {I J : gM} {a : AB} (hc : INc I a) (hm : INm J a) (hw : INw a) (hsc : sc ≤ 1) (hN : 20000 ≤ N) :
    ∃ (I' J' : gM) (S : Nat) (ds : Nat → Nat → Nat), (∀ K : Int32 → gM → gO, hI (fX3_choose N [.ref 0, .ref 3, .int (nI sc)] (gS (rg 195 3 ++ rg 1 20) I)) (rg 195 3 ++ rg 1 20) I K = K (nI S) I') ∧ (∀ K : Int32 → gM → gO, hI (fX9_scheduleBy N [.ref 0, .int (nI sc)] (gS (rg 0 18) J)) (rg 0 18) J K = K (nI S) J') ∧ sel a.1 ds sc S ∧ S < 2 ^ 14 ∧ (∀ x y, x < a.1.1 0 → y < a.1.1 0 → isD a.1.1 x y (ds x y)) ∧
      (∀ k, k < a.1.1 1 → I' 196 k = cmI a.1.1 (lvl a.1.1 (qsq a.1)) ds k ∧ I' 197 k = nI (wgZ a.1 ds k)) ∧ (∀ k, k < a.1.1 1 → J' 11 k = cmI a.1.1 (lvl a.1.1 (qsq a.1)) ds k ∧ J' 12 k = nI (wgZ a.1 ds k)) ∧ (∀ q, q < 100 → J' 10 q = nI (qln a.1 (q / 10) (q % 10))) ∧ INc I' a ∧ INm J' a ∧ J' 0 0 = J 0 0 ∧ ∀ k, k ≠ 196 → k ≠ 197 → I' k = I k := by
  have hw1 := hw.1.1.1
  have hB : 110 * a.1.1 7 ≤ 2000000 := by have := hw.1.2; omega
  obtain ⟨ds, hds⟩ := CN.ds hc.1.1
  have hds' : ∀ x y, x < a.1.1 0 → y < a.1.1 0 → isD a.1.1 x y (ds x y) := fun x y hx hy => (hds x y hx hy).1
  have hc3 : STc (gS (rg 3 20) (gS (rg 195 3 ++ rg 1 20) I)) a.1 := hc.1.congr (fun k hk => by
    rw [gS_b hk (by decide), gS_b hk (by decide), gS_aq2 hk (by decide)])
  obtain ⟨C, S, s0, s1, s2, s3⟩ := s_choose (N := N) hc3 hw1 hB hds' hsc (by omega)
  obtain ⟨D, T, t0, t1, t2, t3, t4, t5⟩ := pX9_scheduleBy (N := N) (M := gS (rg 0 18) J) (σ := a.1) (ds := ds) (by rw [gSm18 (by decide)]; exact hm.1) hw1 hB hds' hsc (by omega)
  have hST := sel_one hw1 hB hds' s1 t1
  subst hST
  have mI' : ∀ k, k ≠ 196 → k ≠ 197 → gMg (rg 195 3 ++ rg 1 20) I C k = I k := fun k h6 h7 => by
    by_cases h : 1 ≤ k ∧ k < 21
    · have e : k = 1 + (k - 1) := by omega
      rw [e, gM_aq2 (by omega) (by omega), s3 _ (by omega) (by omega), gS_aq2 (by omega) (by decide)]
    · by_cases h5 : k = 195
      · have : gMg (rg 195 3 ++ rg 1 20) I C (195 + 0) = C 0 := gM_aq1 (by decide)
        rw [h5]
        rw [Nat.add_zero] at this
        rw [this, s3 0 (by decide) (by decide)]
        have h2 : gS (rg 195 3 ++ rg 1 20) I 0 = I (195 + 0) := gS_aq1 (by decide) (by decide)
        exact h2
      · exact gM_aqo (by omega) (by omega)
  have m196 : gMg (rg 195 3 ++ rg 1 20) I C 196 = C 1 := gM_aq1 (d := 195) (k := 1) (by decide)
  have m197 : gMg (rg 195 3 ++ rg 1 20) I C 197 = C 2 := gM_aq1 (d := 195) (k := 2) (by decide)
  have hr := rlift (I := J) (J := D) (t := fun k => k = 0 ∨ ¬ (k < 8 ∨ 13 ≤ k)) (fun k hk => t4 k (fun e => hk (Or.inl e)) (Classical.not_not.mp (fun e => hk (Or.inr e))))
  refine ⟨gMg (rg 195 3 ++ rg 1 20) I C, gMg (rg 0 18) J D, S, ds, fun K => by rw [s0, hI_mk], fun K => by rw [t0, hI_mk], s1, sel_lt hw1 s1, hds', fun k hk => by rw [m196, m197]; exact s2 k hk, fun k hk => by rw [gM18 (by decide), gM18 (by decide)]; exact t2 k hk, fun q hq => by rw [gM18 (by decide)]; exact t3 q hq, hc.congr (by rw [mI' 0 (by decide) (by decide)]) (fun k _ hk => mI' k (by omega) (by omega)) (by rw [mI' 183 (by decide) (by decide)]), hm.congr (fun j hj => by rw [gM18 (by decide), t5 j (by omega) (by omega), gSm18 (by decide)]) (fun k hk => hr k (by omega)), by rw [gM18 (by decide), t5 0 (by decide) (by decide), gSm18 (by decide)], mI'⟩
theorem sched_c : ∀ X : gO, (if gRng 1200 1201 1200 ∧ ¬ (3 < 0 ∨ 4 ≤ (3 : Int32).toNatClampNeg) then X else none) = X := fun X => by
  have hg : gRng 1200 1201 1200 := by unfold gRng; decide
  exact if_pos ⟨hg, by decide⟩
theorem gGS3 : gGS.getD (3 : Int32).toNatClampNeg 0 = nI 1 := rfl
theorem j_schedule {N : Nat} {v : Int32} {I J : gM} {a : AB} (h : IN I J a) (hN : 20000 ≤ N) : AG [eIA] (fX8_schedule N [.ref 0, .int v] I) (fX9_schedule N [.ref 0, .int v] J) := by
  obtain ⟨hc, hm, hw⟩ := h
  have hm' := hm.thr (x := 0)
  have l0 : (0 : Int32) = nI 0 := rfl
  have d0 : (0 : Int64) = (nI 0).toInt64 := by decide
  have d1 : (1 : Int64) = (nI 1).toInt64 := by decide
  have z1 : (fX8_checkRange N [.int v, .int 0, .int (nI 1)]) = fX8_checkRange N [.int v, .int (nI 0), .int (nI 1)] := rfl
  rw [eX8_schedule, eX8_schedule_0, sched_c, gGS3, z1, x_range, eX9_schedule, eX9_schedule_0, d0, d1, m_in]
  cases hv : rgb v (nI 0) (nI 1) with
  | false =>
    rw [m_ff, i_f, i_e1]
    exact AG.ex 0 rfl rfl rfl gU_us ⟨hc, hm'.thr, hw⟩
  | true =>
    obtain ⟨k, -, k1, k2⟩ := rgb_t (by decide) (by decide) hv
    subst k2
    obtain ⟨I', J', S, ds, c0, e0, -, -, -, -, -, -, f1, f2, f3, -⟩ := l_choose (N := N) hc hm' hw k1 hN
    rw [m_ft, i_t, i_e0, c0, e0]
    exact AG.ok rfl rfl (by rw [f3]; exact gU_us) ⟨f1, f2, hw⟩
theorem j_scheduleWeight {N : Nat} {v : Int32} {I J : gM} {a : AB} (h : IN I J a) (hN : 20000 ≤ N) : AG [eIA] (fX8_scheduleWeight N [.ref 0, .int v] I) (fX9_scheduleWeight N [.ref 0, .int v] J) := by
  obtain ⟨hc, hm, hw⟩ := h
  have hm' := hm.thr (x := 0)
  have l0 : (0 : Int32) = nI 0 := rfl
  have l1 : (1 : Int32) = nI 1 := rfl
  have d0 : (0 : Int64) = (nI 0).toInt64 := by decide
  have d1 : (1 : Int64) = (nI 1).toInt64 := by decide
  have cc1 : ∀ X : gO, ck 2746 1 X = X := fun X => by rw [l1, ckI (by decide) (by decide)]
  have n1 : (1 : Int32).toNatClampNeg = 1 := by decide
  have z1 : (fX8_checkRange N [.int v, .int 0, .int (nI 1)]) = fX8_checkRange N [.int v, .int (nI 0), .int (nI 1)] := rfl
  rw [eX8_scheduleWeight, eX8_scheduleWeight_0, sched_c, gGS3, z1, x_range, eX9_scheduleWeight, eX9_scheduleWeight_0, d0, d1, m_in]
  cases hv : rgb v (nI 0) (nI 1) with
  | false =>
    rw [m_ff, i_f, i_e1]
    exact AG.ex 0 rfl rfl rfl gU_us ⟨hc, hm'.thr, hw⟩
  | true =>
    obtain ⟨k, -, k1, k2⟩ := rgb_t (by decide) (by decide) hv
    subst k2
    obtain ⟨I', J', S, ds, c0, e0, hs, hS, hds, c1, e1, -, f1, f2, f3, -⟩ := l_choose (N := N) hc hm' hw k1 hN
    have w1 := hw.lt.2.1
    have hsb := sel_sub hs
    have hSn : S < 2 ^ a.1.1 1 := by
      apply Nat.lt_pow_two_of_testBit
      intro j hj
      cases hb : S.testBit j with
      | false => rfl
      | true => have := (hsb j hb).1; omega
    have hsum := pX3_sumOfWeights (N := N) (s := S) (I := gS [197] I') (W := wgZ a.1 ds) (by omega) (fun j _ hb => (c1 j (hsb j hb).1).2) (by omega)
    rw [wsum_cut (wgZ a.1 ds) hSn 14 w1] at hsum
    have e31 : J' 3 1 = nI (a.1.1 1) := f2.1.1 1 (by decide)
    have key : ∀ m i : Nat, i ≤ a.1.1 1 → a.1.1 1 - i < m → hX9_scheduleWeight_33 N m (nI S) (nI (wsum (wgZ a.1 ds) S i)) (nI i) J' = some (.inl (some (.int (nI (wsum (wgZ a.1 ds) S (a.1.1 1))))), J') := by
      intro m
      induction m with
      | zero => intro i _ h; omega
      | succ m ih =>
        intro i hi hm
        rw [eX9_scheduleWeight_33, cc1, n1, e31]
        by_cases hin : i = a.1.1 1
        · rw [hin, if_pos ((cge (by omega) (by omega)).mpr (Nat.le_refl _))]
        · have nx : ∀ x, (if S.testBit i = true then wgZ a.1 ds i else 0) = x → hX9_scheduleWeight_65 N m (nI S) (nI i) (nI (wsum (wgZ a.1 ds) S i)) (nI x) J' = some (.inl (some (.int (nI (wsum (wgZ a.1 ds) S (a.1.1 1))))), J') := fun x hx => by
            have ea : gb_add (nI (wsum (wgZ a.1 ds) S i)) (nI x) = nI (wsum (wgZ a.1 ds) S (i + 1)) := by
              rw [← hx]; exact nI_add _ _
            rw [eX9_scheduleWeight_65, ea, l1, nI_add]
            exact ih (i + 1) (by omega) (by omega)
          rw [if_neg (fun z => hin (by have := (cge (by omega) (by omega)).mp z; omega)), r_has (by omega) (by omega)]
          cases hb : S.testBit i with
          | false => rw [if_pos (by decide)]; exact nx 0 (by rw [hb]; rfl)
          | true =>
            rw [if_neg (by decide), ckI (by omega) (by decide), nI_clamp (by omega), (e1 i (by omega)).2]
            exact nx _ (by rw [hb, if_pos rfl])
    rw [m_ft, i_t, i_e0, c0, hsum, hI_mk, gMg_gS _ _ (by decide), e0, eX9_scheduleWeight_27, l0]
    have hk := key N 0 (Nat.zero_le _) (by omega)
    rw [show wsum (wgZ a.1 ds) S 0 = 0 from rfl] at hk
    rw [hk]
    exact AG.ok rfl rfl (by rw [f3]; exact gU_us) ⟨f1, f2, hw⟩
/-- what the chosen links below i leave of a queue for a link -/
def lftN (σ : St) (cm : Nat → Int32) (S k l : Nat) : Nat → Nat
  | 0 => l
  | i + 1 => if S.testBit i = true ∧ lkp σ.1 i 0 = lkp σ.1 k 0 ∧ cm i = cm k then lftN σ cm S k l i - lkp σ.1 i 2 else lftN σ cm S k l i
theorem lftN_le (σ : St) (cm : Nat → Int32) (S k l : Nat) : ∀ i, lftN σ cm S k l i ≤ l
  | 0 => Nat.le_refl _
  | i + 1 => by
    have ih := lftN_le σ cm S k l i
    unfold lftN
    split <;> omega
theorem hT_lo {k lo n : Nat} {d : gO} {bs : List gO} (hn : bs.length = n + 1) (hlo : lo < 100) (hn2 : n < 100) (hk : k < 2 ^ 31) (hl : lo ≤ k) : hT (nI k) (lo : Int) ((lo + n : Nat) : Int) d bs = if h : k ≤ lo + n then bs[k - lo]'(by omega) else d := by
  have hi : (nI k).toInt = (k : Int) := by
    show (BitVec.ofNat 32 k).toInt = _
    rw [BitVec.toInt_eq_toNat_cond, BitVec.toNat_ofNat]
    split <;> omega
  unfold hT
  rw [hi]
  by_cases h : k ≤ lo + n
  · rw [dif_pos h, if_neg (by omega)]
    have e : ((k : Int) - (lo : Int)).toNat = k - lo := by omega
    rw [e, List.getElem?_eq_getElem (by omega)]
  · rw [dif_neg h, if_pos (by omega)]
theorem max_sub {x y : Nat} (hx : x < 2 ^ 31) (hy : y < 2 ^ 31) : gj_max (nI 0) (gb_sub (nI x) (nI y)) = nI (x - y) := by
  by_cases h : y ≤ x
  · have e : gb_sub (nI x) (nI y) = nI (x - y) := pk_sub h
    rw [e, jmax (by decide) (by omega), Nat.max_eq_right (Nat.zero_le _)]
  · have e : gj_max (nI 0) (gb_sub (nI x) (nI y)) = if nI 0 < nI x - nI y then nI x - nI y else nI 0 := rfl
    rw [e, if_neg (sub_neg (by omega) hy), show x - y = 0 by omega]
theorem c_carr {N S k g l : Nat} {σ : St} {cm : Nat → Int32} {X : gM} (hS : S < 2 ^ 14) (h14 : σ.1 1 ≤ 14) (hk : k < σ.1 1) (hb : S.testBit k = true) (hl : ∀ i, i < σ.1 1 → X 5 i = nI (lkp σ.1 i 0) ∧ X 7 i = nI (lkp σ.1 i 2) ∧ X 1 i = cm i ∧ lkp σ.1 i 0 < 10 ∧ lkp σ.1 i 2 ≤ 5) (hg : cm k = nI g) (hg10 : g < 10) (hq : X 16 (lkp σ.1 k 0 * 10 + g) = nI l) (hl5 : l ≤ 500) (hN : 1000 ≤ N) : fX3_countCarried N [.ref 0, .ref 3, .int (nI S), .int (nI k)] X = some (.inl (some (.int (nI (min (lftN σ cm S k l k) (lkp σ.1 k 2))))), X) := by
  have l0 : (0 : Int32) = nI 0 := rfl
  have l1 : (1 : Int32) = nI 1 := rfl
  obtain ⟨k5, k7, k1, k0, k2⟩ := hl k hk
  have ebt : ∀ i, i < 14 → gb_and (gb_shr (nI S) (nI i)) 1 = nI (bt S i) := fun i hi => btI (by omega) (by omega)
  have key : ∀ m i : Nat, i ≤ k → k - i < m → hX3_countCarried_45 N m (nI S) (nI k) (nI (lftN σ cm S k l i)) (nI i) X = some (.inl (some (.int (nI (min (lftN σ cm S k l k) (lkp σ.1 k 2))))), X) := by
    intro m
    induction m with
    | zero => intro i _ h; omega
    | succ m ih =>
      intro i hi hm
      have hle := lftN_le σ cm S k l i
      rw [eX3_countCarried_45]
      by_cases hin : i = k
      · have hlek := lftN_le σ cm S k l k
        rw [hin, if_pos ((cge (by omega) (by omega)).mpr (Nat.le_refl _)), ckI (by omega) (by decide), nI_clamp (by omega), k7, jmin (by omega) (by omega)]
      · obtain ⟨i5, i7, i1, i0, i2⟩ := hl i (by omega)
        have un : lftN σ cm S k l (i + 1) = (if S.testBit i = true ∧ lkp σ.1 i 0 = lkp σ.1 k 0 ∧ cm i = cm k then lftN σ cm S k l i - lkp σ.1 i 2 else lftN σ cm S k l i) := rfl
        have nx : ∀ z, lftN σ cm S k l (i + 1) = z → hX3_countCarried_112 N m (nI S) (nI k) (nI z) (nI i) X = some (.inl (some (.int (nI (min (lftN σ cm S k l k) (lkp σ.1 k 2))))), X) := fun z hz => by
          rw [eX3_countCarried_112, l1, nI_add, ← hz]
          exact ih (i + 1) (by omega) (by omega)
        rw [if_neg (fun z => hin (by have := (cge (by omega) (by omega)).mp z; omega)), ebt i (by omega)]
        cases hbi : S.testBit i with
        | false =>
          rw [if_pos (by rw [bt_b2, hbi]; decide)]
          exact nx _ (by rw [un, if_neg (fun z => by rw [hbi] at z; cases z.1)])
        | true =>
          rw [if_neg (by rw [bt_b2, hbi]; decide), ckI (by omega) (by decide), ckI (by omega) (by decide), nI_clamp (n := i) (by omega), nI_clamp (n := k) (by omega), i5, k5]
          by_cases hfr : lkp σ.1 i 0 = lkp σ.1 k 0
          · rw [if_neg (fun z => (cne (by omega) (by omega)).mp z hfr), ckI (by omega) (by decide), ckI (by omega) (by decide), i1, k1]
            by_cases hcm : cm i = cm k
            · rw [if_neg (fun z => (of_decide_eq_true z) hcm), ckI (by omega) (by decide), i7, l0, max_sub (by omega) (by omega)]
              exact nx _ (by rw [un, if_pos ⟨hbi, hfr, hcm⟩])
            · rw [if_pos (decide_eq_true hcm)]
              exact nx _ (by rw [un, if_neg (fun z => hcm z.2.2)])
          · rw [if_pos ((cne (by omega) (by omega)).mpr hfr)]
            exact nx _ (by rw [un, if_neg (fun z => hfr z.2.1)])
  rw [eX3_countCarried, eX3_countCarried_0, ebt k (by omega), if_pos (by rw [bt_b2, hb]; decide), ckI (by omega) (by decide), ckI (by omega) (by decide), nI_clamp (n := k) (by omega), k5, k1, hg, s_pair, ckI (by omega) (by decide), nI_clamp (by omega), hq, l0]
  exact key N 0 (Nat.zero_le _) (by omega)
theorem m_carr {N B sc S k g : Nat} {σ : St} {J : gM} {ds : Nat → Nat → Nat} (hr : RowIs (J 3) σ) (hw : Wf B σ) (hB : B ≤ 2000000) (hds : ∀ x y, x < σ.1 0 → y < σ.1 0 → isD σ.1 x y (ds x y)) (hsc : σ.1 6 = sc) (hs : sel σ ds sc S) (hk : k < σ.1 1) (hg : cmI σ.1 (lvl σ.1 (qsq σ)) ds k = nI g) (hg10 : g < 10) (hN : 1000 ≤ N) :
    ∃ J', (∀ K : Int32 → gM → gO, hI (fX9_carries N [.ref 0, .int (nI k)] (gS (rg 0 18) J)) (rg 0 18) J K = K (nI (min (lftN σ (cmI σ.1 (lvl σ.1 (qsq σ)) ds) S k (qln σ (lkp σ.1 k 0) g) k) (lkp σ.1 k 2))) J') ∧ (∀ k, k ≠ 0 → (k < 8 ∨ 13 ≤ k) → J' k = J k) ∧ ∀ j, j ≠ 23 → j ≠ 24 → J' 0 j = J 0 j := by
  have l0 : (0 : Int32) = nI 0 := rfl
  have l1 : (1 : Int32) = nI 1 := rfl
  have l2 : (2 : Int32) = nI 2 := rfl
  have l6 : (6 : Int32) = nI 6 := rfl
  have c6 : ∀ X : gO, ck 2746 6 X = X := fun X => by rw [l6, ckI (by decide) (by decide)]
  have n6 : (6 : Int32).toNatClampNeg = 6 := by decide
  obtain ⟨c0, c1, c2, c3, c4, c5, c6', c7, c8⟩ := wfC hw
  have hS := sel_lt hw hs
  obtain ⟨D, T, t0, t1, t2, t3, t4, t5⟩ := pX9_scheduleBy (N := N) (sc := sc) (M := gS (rg 0 18) (gS (rg 0 18) J)) (σ := σ) (ds := ds) (by rw [gSm18 (by decide), gSm18 (by decide)]; exact hr) hw hB hds (by omega) hN
  have hST := sel_one hw hB hds hs t1
  subst hST
  have hr1 : ∀ k, k ≠ 0 → (k < 8 ∨ 13 ≤ k) → gMg (rg 0 18) (gS (rg 0 18) J) D k = gS (rg 0 18) J k := fun k h0 hk => rlift (t := fun k => k = 0 ∨ ¬ (k < 8 ∨ 13 ≤ k)) (fun k hk => t4 k (fun e => hk (Or.inl e)) (Classical.not_not.mp (fun e => hk (Or.inr e)))) k (fun z => z.elim h0 (fun y => y hk))
  generalize hY : gMg (rg 0 18) (gS (rg 0 18) J) D = Y at hr1
  have hrY : RowIs (Y 3) σ := by rw [hr1 3 (by decide) (by omega), gSm18 (by decide)]; exact hr
  have hY11 : ∀ i, i < σ.1 1 → Y 11 i = cmI σ.1 (lvl σ.1 (qsq σ)) ds i := fun i hi => by rw [← hY, gM18 (by decide)]; exact (t2 i hi).1
  have hY10 : ∀ q, q < 100 → Y 10 q = nI (qln σ (q / 10) (q % 10)) := fun q hq => by rw [← hY, gM18 (by decide)]; exact t3 q hq
  have hl5 : qln σ (lkp σ.1 k 0) g ≤ 500 := Nat.le_trans (List.length_filter_le _ _) (wfP hw).1
  have hlk : ∀ i, i < σ.1 1 → lkp σ.1 i 0 < 10 ∧ lkp σ.1 i 2 ≤ 5 := fun i hi => by
    obtain ⟨z0, z1, z2, z3, z4⟩ := wfL hw i hi
    exact ⟨by omega, z4⟩
  obtain ⟨k0, k2⟩ := hlk k hk
  generalize hcm : cmI σ.1 (lvl σ.1 (qsq σ)) ds = cm at hg hY11
  have hL : ∀ i w, i < σ.1 1 → w < 4 → Y 3 (9 + 4 * i + w) = nI (lkp σ.1 i w) := fun i w hi hw4 => hrY.1 _ (by omega)
  have key : ∀ m i : Nat, i ≤ k → k - i < m → hX9_carries_37 N m (nI k) (nI S) (nI (lftN σ cm S k (qln σ (lkp σ.1 k 0) g) i)) (nI i) Y = some (.inl (some (.int (nI (min (lftN σ cm S k (qln σ (lkp σ.1 k 0) g) k) (lkp σ.1 k 2))))), Y) := by
    intro m
    induction m with
    | zero => intro i _ h; omega
    | succ m ih =>
      intro i hi hm
      have hle := lftN_le σ cm S k (qln σ (lkp σ.1 k 0) g) i
      rw [eX9_carries_37]
      by_cases hin : i = k
      · have hlek := lftN_le σ cm S k (qln σ (lkp σ.1 k 0) g) k
        rw [hin, if_pos ((cge (by omega) (by omega)).mpr (Nat.le_refl _)), l2, r_link (N := N) (k := k) (w := 2) (by omega), hL k 2 hk (by decide), jmin (by omega) (by omega)]
      · obtain ⟨i0, i2⟩ := hlk i (by omega)
        have un : lftN σ cm S k (qln σ (lkp σ.1 k 0) g) (i + 1) = (if S.testBit i = true ∧ lkp σ.1 i 0 = lkp σ.1 k 0 ∧ cm i = cm k then lftN σ cm S k (qln σ (lkp σ.1 k 0) g) i - lkp σ.1 i 2 else lftN σ cm S k (qln σ (lkp σ.1 k 0) g) i) := rfl
        generalize hx : lftN σ cm S k (qln σ (lkp σ.1 k 0) g) i = x at un hle ⊢
        have nx : ∀ d, d ≤ x → lftN σ cm S k (qln σ (lkp σ.1 k 0) g) (i + 1) = x - d → hX9_carries_112 N m (nI k) (nI S) (nI i) (nI x) (nI d) Y = some (.inl (some (.int (nI (min (lftN σ cm S k (qln σ (lkp σ.1 k 0) g) k) (lkp σ.1 k 2))))), Y) := fun d hd hz => by
          have es : gb_sub (nI x) (nI d) = nI (x - d) := pk_sub hd
          rw [eX9_carries_112, es, l1, nI_add, ← hz]
          exact ih (i + 1) (by omega) (by omega)
        have no : (¬ (S.testBit i = true ∧ lkp σ.1 i 0 = lkp σ.1 k 0 ∧ cm i = cm k)) → hX9_carries_111 N m (nI k) (nI S) (nI i) (nI x) Y = some (.inl (some (.int (nI (min (lftN σ cm S k (qln σ (lkp σ.1 k 0) g) k) (lkp σ.1 k 2))))), Y) := fun hn => by
          rw [eX9_carries_111, l0]
          exact nx 0 (Nat.zero_le _) (by rw [un, if_neg hn, Nat.sub_zero])
        have other : (¬ (lkp σ.1 i 0 = lkp σ.1 k 0 ∧ cm i = cm k)) → hX9_carries_79 N m (nI k) (nI S) (nI x) (nI i) Y = some (.inl (some (.int (nI (min (lftN σ cm S k (qln σ (lkp σ.1 k 0) g) k) (lkp σ.1 k 2))))), Y) := fun hn => by
          rw [eX9_carries_79, eX9_carries_80, r_has (by omega) (by omega)]
          cases hb : S.testBit i with
          | false => rw [if_pos (by decide)]; exact no (fun z => hn z.2)
          | true => rw [if_neg (by decide), i_e0]; exact no (fun z => hn z.2)
        rw [if_neg (fun z => hin (by have := (cge (by omega) (by omega)).mp z; omega)), l0, r_link (N := N) (k := i) (w := 0) (by omega), r_link (N := N) (k := k) (w := 0) (by omega), hL i 0 (by omega) (by decide), hL k 0 hk (by decide)]
        by_cases hfr : lkp σ.1 i 0 = lkp σ.1 k 0
        · rw [if_neg (fun z => (cne (by omega) (by omega)).mp z hfr), ckI (by omega) (by decide), ckI (by omega) (by decide), nI_clamp (n := i) (by omega), nI_clamp (n := k) (by omega), hY11 i (by omega), hY11 k hk]
          by_cases hcc : cm i = cm k
          · rw [if_neg (fun z => (of_decide_eq_true z) hcc), eX9_carries_80, r_has (by omega) (by omega)]
            cases hb : S.testBit i with
            | false =>
              rw [if_pos (by decide)]
              exact no (fun z => by rw [hb] at z; cases z.1)
            | true =>
              rw [if_neg (by decide), i_e1, l2, r_link (N := N) (k := i) (w := 2) (by omega), hL i 2 (by omega) (by decide), jmin (by omega) (by omega)]
              exact nx _ (Nat.min_le_left _ _) (by rw [un, if_pos ⟨hb, hfr, hcc⟩]; omega)
          · rw [if_pos (decide_eq_true hcc)]
            exact other (fun z => hcc z.2)
        · rw [if_pos ((cne (by omega) (by omega)).mpr hfr)]
          exact other (fun z => hfr z.1)
  have e36 : gS (rg 0 18) J 3 6 = nI sc := by rw [gSm18 (by decide), hr.1 6 (by decide), hsc]
  refine ⟨gMg (rg 0 18) J Y, fun K => ?_, fun k h0 hk2 => ?_, fun j h3 h4 => ?_⟩
  · rw [eX9_carries, eX9_carries_0, c6, n6, e36, t0, hI_mk, hY, l0, r_link (N := N) (k := k) (w := 0) (by omega), hL k 0 hk (by decide), ckI (by omega) (by decide), nI_clamp (n := k) (by omega), hY11 k hk, hg, idx10, ckI (by omega) (by decide), nI_clamp (by omega), hY10 _ (by omega), show (10 * lkp σ.1 k 0 + g) / 10 = lkp σ.1 k 0 by omega, show (10 * lkp σ.1 k 0 + g) % 10 = g by omega]
    have := key N 0 (Nat.zero_le _) (by omega)
    rw [show lftN σ cm S k (qln σ (lkp σ.1 k 0) g) 0 = qln σ (lkp σ.1 k 0) g from rfl] at this
    rw [this, hI_mk]
  · by_cases h18 : k < 18
    · rw [gM18 h18, hr1 k h0 hk2, gSm18 h18]
    · exact gM18o (by omega)
  · rw [gM18 (by decide), ← hY, gM18 (by decide), t5 j h3 h4, gSm18 (by decide), gSm18 (by decide)]
theorem j_link {N : Nat} {v u : Int32} {I J : gM} {a : AB} (h : IN I J a) (hN : 20000 ≤ N) : AG [eIO, eIA] (fX8_link N [.ref 0, .int v, .int u] I) (fX9_link N [.ref 0, .int v, .int u] J) := by
  obtain ⟨hc, hm, hw⟩ := h
  have hm' := hm.thr (x := 0)
  have l0 : (0 : Int32) = nI 0 := rfl
  have l1 : (1 : Int32) = nI 1 := rfl
  have l2 : (2 : Int32) = nI 2 := rfl
  have l3 : (3 : Int32) = nI 3 := rfl
  have l4 : (4 : Int32) = nI 4 := rfl
  have l6 : (6 : Int32) = nI 6 := rfl
  have d0 : (0 : Int64) = (nI 0).toInt64 := by decide
  have d7 : (7 : Int64) = (nI 7).toInt64 := by decide
  have z1 : (fX8_checkRange N [.int u, .int 0, .int 7]) = fX8_checkRange N [.int u, .int (nI 0), .int (nI 7)] := rfl
  have c6 : ∀ X : gO, ck 2746 6 X = X := fun X => by rw [l6, ckI (by decide) (by decide)]
  have n6 : (6 : Int32).toNatClampNeg = 6 := by decide
  obtain ⟨w0, w1, w2⟩ := hw.lt
  rw [eX8_link, eX8_link_0, x_link hc hw, z1, x_range, eX9_link, eX9_link_0, m_link hm'.1]
  cases hv : ndb v (a.1.1 1) with
  | false =>
    rw [m_ff, i_f, i_n1]
    exact AG.ex 0 rfl rfl rfl gU_us ⟨hc, hm'.thr, hw⟩
  | true =>
    obtain ⟨k, k1, k2⟩ := ndb_t (by omega) hv
    subst k2
    rw [m_ft, i_t, i_n0, d0, d7, m_in, eX9_link_28]
    cases hu : rgb u (nI 0) (nI 7) with
    | false =>
      rw [m_ff, i_f, i_e1]
      exact AG.ex 1 rfl rfl rfl gU_us ⟨hc, hm'.thr, hw⟩
    | true =>
      obtain ⟨w, -, y1, y2⟩ := rgb_t (by decide) (by decide) hu
      subst y2
      obtain ⟨p0, p1, p2, p3, p4⟩ := hc.lk k1
      have n_k : (nI k).toNatClampNeg = k := nI_clamp (by omega)
      rw [m_ft, i_t, i_e0, n_k, p0, p1, p2, p3]
      by_cases hw4 : w < 4
      · have r3 : gU J 0 0 0 3 (9 + 4 * k + w) = nI (lkp a.1.1 k w) := hm'.1.1 _ (by omega)
        rw [if_neg (fun z => by rw [l4] at z; have := (cge (by omega) (by omega)).mp z; omega), r_link (by omega), r3]
        refine AG.ok (v := nI (lkp a.1.1 k w)) ?_ rfl gU_us ⟨hc, hm', hw⟩
        refine (hT_at (k := w) (n := 3) rfl (by decide) (by omega)).trans ?_
        rw [dif_pos (by omega)]
        match w, hw4 with
        | 0, _ => exact ckI (by omega) (by decide)
        | 1, _ => exact ckI (by omega) (by decide)
        | 2, _ => exact ckI (by omega) (by decide)
        | 3, _ => exact ckI (by omega) (by decide)
        | w + 4, h => omega
      · have hsc : a.1.1 6 ≤ 1 := (wfC hw.1.1.1).2.2.2.2.2.2.1
        obtain ⟨I', J', S, ds, c0, e0, hs, hS, hds, c1, e1, e2, f1, f2, f3, f4⟩ := l_choose (N := N) (sc := a.1.1 6) (I := gS (rg 0 204) I) (hc.congr (by rw [gS204 (by decide)]) (fun k _ hk => by rw [gS204 (by omega)]) (by rw [gS204 (by decide)])) hm' hw hsc hN
        have e36 : gU J 0 0 0 3 6 = nI (a.1.1 6) := hm'.1.1 6 (by decide)
        have e83 : gS (rg 0 204) I 8 3 = nI (a.1.1 6) := by rw [gS204 (by decide)]; exact hc.st (by decide)
        have m204 : ∀ (X : gM) k, k < 204 → gMg (rg 0 204) I X k = X k := fun X k hk => by
          have := gMg_rgi (b := 0) (I := I) (J := X) hk
          rwa [Nat.zero_add] at this
        have fin : ∀ X : gM, INc X a → INc (gMg (rg 0 204) I X) a := fun X hX => hX.congr (by rw [m204 _ _ (by decide)]) (fun k _ hk => m204 _ _ (by omega)) (by rw [m204 _ _ (by decide)])
        have n3 : (nI 3).toNatClampNeg = 3 := nI_clamp (by decide)
        have hJ0 : J' 0 0 = nI 0 := by rw [f3]; exact gU_us
        -- the class's own way to the planned numbers
        have hcl : ∀ (x : Int32) (X : gM), fX8_plannedNumber N [.ref 0, .int (nI k), .int (nI w)] (gS (rg 0 204) I) = some (.inl (some (.int x)), X) → hT (nI w) 0 3 (hI (fX8_plannedNumber N [.ref 0, .int (nI k), .int (nI w)] (gS (rg 0 204) I)) (rg 0 204) I fun x3 I3 => some (.inl (some (.int x3)), I3)) [ck 14 (nI k) <| some (.inl (some (.int (nI (lkp a.1.1 k 0)))), I), ck 14 (nI k) <| some (.inl (some (.int (nI (lkp a.1.1 k 1)))), I), ck 14 (nI k) <| some (.inl (some (.int (nI (lkp a.1.1 k 2)))), I), ck 14 (nI k) <| some (.inl (some (.int (nI (lkp a.1.1 k 3)))), I)] = some (.inl (some (.int x)), gMg (rg 0 204) I X) := fun x X hX => by
          refine (hT_at (k := w) (n := 3) rfl (by decide) (by omega)).trans ?_
          rw [dif_neg (by omega), hX, hI_mk]
        have hplan : ∀ (x : Int32) (X : gM), (match w with
            | 4 => (some (.inl (some (.int (cmI a.1.1 (lvl a.1.1 (qsq a.1)) ds k))), I') : gO)
            | 5 => some (.inl (some (.int (nI (wgZ a.1 ds k)))), I')
            | 6 => some (.inl (some (.int (b2 (S.testBit k)))), I')
            | _ => hI (fX3_countCarried N [.ref 0, .ref 3, .int (nI S), .int (nI k)] (gS (rg 195 3 ++ rg 1 20) I')) (rg 195 3 ++ rg 1 20) I' fun x2 I2 => some (.inl (some (.int x2)), I2)) = some (.inl (some (.int x)), X) → fX8_plannedNumber N [.ref 0, .int (nI k), .int (nI w)] (gS (rg 0 204) I) = some (.inl (some (.int x)), X) := fun x X hX => by
          rw [eX8_plannedNumber, eX8_plannedNumber_0, l3, ckI (by decide) (by decide), n3, e83, c0]
          refine (hT_lo (k := w) (lo := 4) (n := 2) rfl (by decide) (by decide) (by omega) (by omega)).trans ?_
          obtain ⟨q1, q2⟩ := c1 k k1
          have ebt : gb_and (gb_shr (nI S) (nI k)) 1 = b2 (S.testBit k) := by
            have : gb_and (gb_shr (nI S) (nI k)) 1 = nI (bt S k) := btI (by omega) (by omega)
            rw [this, bt_b2]
          have hw7 : w = 4 ∨ w = 5 ∨ w = 6 ∨ w = 7 := by omega
          rcases hw7 with e | e | e | e <;> subst e
          · rw [dif_pos (by decide)]
            refine (ckI (by omega) (by decide)).trans ?_
            rw [n_k, q1]; exact hX
          · rw [dif_pos (by decide)]
            refine (ckI (by omega) (by decide)).trans ?_
            rw [n_k, q2]; exact hX
          · rw [dif_pos (by decide)]
            show (some (.inl (some (.int (gb_and (gb_shr (nI S) (nI k)) 1))), I') : gO) = _
            rw [ebt]; exact hX
          · rw [dif_neg (by decide)]; exact hX
        have hge : gc_ge (nI w) 4 = true := by rw [l4]; exact (cge (by omega) (by decide)).mpr (by omega)
        obtain ⟨q1, q2⟩ := c1 k k1
        obtain ⟨r1, r2⟩ := e1 k k1
        rw [if_pos hge, c6, n6, e36, e0, eX9_link_60]
        have hw7 : w = 4 ∨ w = 5 ∨ w = 6 ∨ w = 7 := by omega
        rcases hw7 with e | e | e | e <;> subst e
        · rw [if_neg (by decide), if_neg (by decide), n_k, r1]
          exact AG.ok (hcl _ _ (hplan _ _ rfl)) (ckI (by omega) (by decide)) hJ0 ⟨fin _ f1, f2, hw⟩
        · rw [if_neg (by decide), if_pos (by decide), n_k, r2]
          exact AG.ok (hcl _ _ (hplan _ _ rfl)) (ckI (by omega) (by decide)) hJ0 ⟨fin _ f1, f2, hw⟩
        · rw [if_pos (by decide), r_has (by omega) (by omega), if_neg (by decide)]
          have hc6 := hcl _ _ (hplan _ _ rfl)
          cases hb : S.testBit k with
          | false =>
            rw [hb] at hc6
            rw [if_pos (by decide)]
            exact AG.ok hc6 rfl hJ0 ⟨fin _ f1, f2, hw⟩
          | true =>
            rw [hb] at hc6
            rw [if_neg (by decide)]
            exact AG.ok hc6 rfl hJ0 ⟨fin _ f1, f2, hw⟩
        · rw [if_pos (by decide), r_has (by omega) (by omega), if_pos (by decide)]
          cases hb : S.testBit k with
          | false =>
            have hcc : fX3_countCarried N [.ref 0, .ref 3, .int (nI S), .int (nI k)] (gS (rg 195 3 ++ rg 1 20) I') = some (.inl (some (.int 0)), gS (rg 195 3 ++ rg 1 20) I') := by
              have ebt : gb_and (gb_shr (nI S) (nI k)) 1 = nI (bt S k) := btI (by omega) (by omega)
              rw [eX3_countCarried, eX3_countCarried_0, ebt, if_neg (by rw [bt_b2, hb]; decide)]
            have hc7 := hcl _ _ (hplan 0 I' (by
              show hI _ _ _ _ = _
              rw [hcc, hI_mk, gMg_gS _ _ (by decide)]))
            rw [if_pos (by decide)]
            exact AG.ok hc7 rfl hJ0 ⟨fin _ f1, f2, hw⟩
          | true =>
            obtain ⟨g1, g2⟩ := cm_sel hw.1.1.1 hs hb
            have hB : 110 * a.1.1 7 ≤ 2000000 := by have := hw.1.2; omega
            have e14 := (f1.ln (q := lkp a.1.1 k 0 * 10 + cmN a.1 ds k) (by have := (wfL hw.1.1.1 k k1).1; omega)).1
            rw [qsq_at a.1 (show cmN a.1 ds k < 10 by omega)] at e14
            have h16 : gS (rg 195 3 ++ rg 1 20) I' 16 = I' 14 := gS_aq2 (d := 195) (n := 3) (k := 13) (by decide) (by decide)
            have h5 : gS (rg 195 3 ++ rg 1 20) I' 5 = I' 3 := gS_aq2 (d := 195) (n := 3) (k := 2) (by decide) (by decide)
            have h7 : gS (rg 195 3 ++ rg 1 20) I' 7 = I' 5 := gS_aq2 (d := 195) (n := 3) (k := 4) (by decide) (by decide)
            have h1 : gS (rg 195 3 ++ rg 1 20) I' 1 = I' 196 := gS_aq1 (d := 195) (n := 3) (k := 1) (by decide) (by decide)
            have hcc := c_carr (N := N) (S := S) (k := k) (g := cmN a.1 ds k) (l := qln a.1 (lkp a.1.1 k 0) (cmN a.1 ds k)) (σ := a.1) (cm := cmI a.1.1 (lvl a.1.1 (qsq a.1)) ds) (X := gS (rg 195 3 ++ rg 1 20) I') hS w1 k1 hb (fun i hi => by
              obtain ⟨b0, b1, b2', b3, b4⟩ := f1.lk hi
              obtain ⟨z0, z1, z2, z3, z4⟩ := wfL hw.1.1.1 i hi
              rw [h5, h7, h1]
              exact ⟨b0, b2', (c1 i hi).1, by omega, z4⟩) g2 (by omega) (by rw [h16]; exact e14) (Nat.le_trans (List.length_filter_le _ _) (wfP hw.1.1.1).1) (by omega)
            obtain ⟨J2, m0, m1, m2⟩ := m_carr (N := N) (sc := a.1.1 6) (J := J') f2.1 hw.1.1.1 hB hds rfl hs k1 g2 (by omega) (by omega)
            have hc7 := hcl _ _ (hplan _ I' (by
              show hI _ _ _ _ = _
              rw [hcc, hI_mk, gMg_gS _ _ (by decide)]))
            rw [if_neg (by decide), m0]
            exact AG.ok hc7 rfl (by rw [m2 0 (by decide) (by decide)]; exact hJ0) ⟨fin _ f1, f2.congr (fun j hj => m2 j (by omega) (by omega)) (fun q hq => m1 q (by omega) (by omega)), hw⟩
