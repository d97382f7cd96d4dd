theorem i_any (x : Int32) : x = nI x.toBitVec.toNat := by
  apply Int32.toBitVec_inj.mp
  show x.toBitVec = BitVec.ofNat 32 x.toBitVec.toNat
  rw [BitVec.ofNat_toNat, BitVec.setWidth_eq]
/-- what is not negative is a number -/
theorem i_pos {x : Int32} (h : ¬ x < 0) : ∃ w, w < 2 ^ 31 ∧ x = nI w := by
  refine ⟨x.toBitVec.toNat, ?_, i_any x⟩
  have h1 : ¬ x.toInt < (0 : Int32).toInt := fun z => h (Int32.lt_iff_toInt_lt.mpr z)
  have h2 : (0 : Int32).toInt = 0 := by decide
  have h3 : x.toInt = x.toBitVec.toInt := rfl
  rw [h2, h3, BitVec.toInt_eq_toNat_cond] at h1
  have h4 := x.toBitVec.isLt
  split at h1
  · omega
  · omega
theorem max_pos (x : Int32) : ∃ w, w < 2 ^ 31 ∧ gj_max (nI 0) x = nI w := by
  refine i_pos (fun h => ?_)
  have e : gj_max (nI 0) x = if nI 0 < x then x else nI 0 := rfl
  rw [e] at h
  by_cases hx : nI 0 < x
  · rw [if_pos hx] at h
    exact absurd (Int32.lt_trans hx h) (by decide)
  · rw [if_neg hx] at h
    exact absurd h (by decide)
/-- the weights as numbers, the commodities -/
def wgN (r : Nat → Nat) (lv ds : Nat → Nat → Nat) (k : Nat) : Nat := (gj_max (nI 0) (nI (lkp r k 2) * (wfo lv ds (r 5) (lkp r k 0) (lkp r k 1) (r 0)).2)).toBitVec.toNat
def cmI (r : Nat → Nat) (lv ds : Nat → Nat → Nat) (k : Nat) : Int32 := (wfo lv ds (r 5) (lkp r k 0) (lkp r k 1) (r 0)).1
theorem wgN_eq (r : Nat → Nat) (lv ds : Nat → Nat → Nat) (k : Nat) : wgN r lv ds k < 2 ^ 31 ∧ gj_max (nI 0) (nI (lkp r k 2) * (wfo lv ds (r 5) (lkp r k 0) (lkp r k 1) (r 0)).2) = nI (wgN r lv ds k) := by
  obtain ⟨w, h1, h2⟩ := max_pos (nI (lkp r k 2) * (wfo lv ds (r 5) (lkp r k 0) (lkp r k 1) (r 0)).2)
  refine ⟨?_, i_any _⟩
  unfold wgN
  rw [h2]
  show (BitVec.ofNat 32 w).toNat < _
  rw [BitVec.toNat_ofNat, Nat.mod_eq_of_lt (by omega)]
  exact h1
/-- the links of some weight -/
def cnd (W : Nat → Nat) : Nat → Nat
  | 0 => 0
  | k + 1 => if 0 < W k then cnd W k ||| 2 ^ k else cnd W k
theorem cnd_lt (W : Nat → Nat) : ∀ k, cnd W k < 2 ^ k
  | 0 => by show 0 < 2 ^ 0; decide
  | k + 1 => by
    have ih := cnd_lt W k
    have h2 : 2 ^ k < 2 ^ (k + 1) := Nat.pow_lt_pow_right (by decide) (by omega)
    unfold cnd
    split
    · exact Nat.or_lt_two_pow (by omega) h2
    · omega
theorem cnd_tb (W : Nat → Nat) : ∀ n j, (cnd W n).testBit j = decide (j < n ∧ 0 < W j)
  | 0, j => by
    unfold cnd
    rw [Nat.zero_testBit, decide_eq_false (fun h => Nat.not_lt_zero _ h.1)]
  | n + 1, j => by
    have ih := cnd_tb W n j
    unfold cnd
    by_cases hw : 0 < W n
    · rw [if_pos hw, Nat.testBit_or, ih, Nat.testBit_two_pow]
      by_cases e : n = j
      · subst e
        rw [decide_eq_true (rfl : n = n), Bool.or_true, decide_eq_true ⟨by omega, hw⟩]
      · rw [decide_eq_false e, Bool.or_false, decide_eq_decide]
        exact ⟨fun h => ⟨by omega, h.2⟩, fun h => ⟨by omega, h.2⟩⟩
    · rw [if_neg hw, ih, decide_eq_decide]
      refine ⟨fun h => ⟨by omega, h.2⟩, fun h => ⟨?_, h.2⟩⟩
      by_cases e : j = n
      · exact absurd (e ▸ h.2) hw
      · omega
theorem gS23 {I : gM} {k : Nat} (h : k < 23) : gS (rg 0 23) I k = I k := by rw [gS_rg h (by decide), Nat.zero_add]
theorem gM23s (I : gM) : gMg (rg 0 23) I (gS (rg 0 23) I) = I := gMg_same I (by decide)
theorem gM23U {I J : gM} {k j : Nat} {x : Int32} (h : k < 23) : gMg (rg 0 23) I (gU J k j x) = gU (gMg (rg 0 23) I J) k j x := by
  rw [gMg_U h, Nat.zero_add]
/-- all links are weighed -/
theorem choose_weigh {N : Nat} {I : gM} {r : Nat → Nat} {qs : Nat → List Pk} {P : Nat} {ds : Nat → Nat → Nat} {sc : Int32} (h : CT (gS (rg 3 20) I) r qs [] P) (hds : ∀ a b, a < r 0 → b < r 0 → I 12 (a * 10 + b) = nI (ds a b)) (h0 : r 0 ≤ 10) (h14 : r 1 ≤ 14) (hlk : ∀ k, k < r 1 → lkp r k 0 < r 0 ∧ lkp r k 1 < r 0) (hm : r 3 ≤ 1) (hl : ∀ q, q < 100 → r (145 + q) < 2 ^ 31) (hN : 1000 ≤ N) :
    ∃ J, fX3_choose N [.ref 0, .ref 3, .int sc] I = (if gz_ne sc = true then (hI (fX3_heaviest N 16 [.int (nI (cnd (wgN r (lvl r qs) ds) (r 1))), .int 13, .ref 0, .ref 1] (gS [2, 9] J)) [2, 9] J fun x1 I1 => some (.inl (some (.int x1)), I1)) else (hI (fX3_greediest N [.ref 0, .int (nI (cnd (wgN r (lvl r qs) ds) (r 1))), .ref 3] (gS (rg 0 3 ++ rg 4 9) J)) (rg 0 3 ++ rg 4 9) J fun x2 I2 => some (.inl (some (.int x2)), I2))) ∧
      (∀ k, k < r 1 → J 1 k = cmI r (lvl r qs) ds k ∧ J 2 k = nI (wgN r (lvl r qs) ds k)) ∧ (∀ j, r 1 ≤ j → J 1 j = I 1 j ∧ J 2 j = I 2 j) ∧ ∀ j, j ≠ 1 → j ≠ 2 → J j = I j := by
  have l0 : (0 : Int32) = nI 0 := rfl
  have l1 : (1 : Int32) = nI 1 := rfl
  have key : ∀ m i : Nat, i ≤ r 1 → r 1 - i < m → ∀ K : gM, (∀ k, k < i → K 1 k = cmI r (lvl r qs) ds k ∧ K 2 k = nI (wgN r (lvl r qs) ds k)) → (∀ j, i ≤ j → K 1 j = I 1 j ∧ K 2 j = I 2 j) → (∀ j, j ≠ 1 → j ≠ 2 → K j = I j) →
      ∃ J, hX3_choose_5 N m sc (nI (cnd (wgN r (lvl r qs) ds) i)) (nI i) K = (if gz_ne sc = true then (hI (fX3_heaviest N 16 [.int (nI (cnd (wgN r (lvl r qs) ds) (r 1))), .int 13, .ref 0, .ref 1] (gS [2, 9] J)) [2, 9] J fun x1 I1 => some (.inl (some (.int x1)), I1)) else (hI (fX3_greediest N [.ref 0, .int (nI (cnd (wgN r (lvl r qs) ds) (r 1))), .ref 3] (gS (rg 0 3 ++ rg 4 9) J)) (rg 0 3 ++ rg 4 9) J fun x2 I2 => some (.inl (some (.int x2)), I2))) ∧
      (∀ k, k < r 1 → J 1 k = cmI r (lvl r qs) ds k ∧ J 2 k = nI (wgN r (lvl r qs) ds k)) ∧ (∀ j, r 1 ≤ j → J 1 j = I 1 j ∧ J 2 j = I 2 j) ∧ ∀ j, j ≠ 1 → j ≠ 2 → J j = I j := by
    intro m
    induction m with
    | zero => intro i _ h; omega
    | succ m ih =>
      intro i hi hm' K h1 h2 h3
      have hlinks : K 4 1 = nI (r 1) := by
        have := h.1.1.2.1
        rw [gS3 (by decide)] at this
        rw [h3 4 (by decide) (by decide)]; exact this
      rw [eX3_choose_5, hlinks, l1]
      by_cases hin : i = r 1
      · subst hin
        rw [if_pos ((cge (by omega) (by omega)).mpr (Nat.le_refl _))]
        exact ⟨K, rfl, h1, h2, h3⟩
      · have hir : i < r 1 := by omega
        have hCT : CT (gS (rg 3 20) (gS (rg 0 23) K)) r qs [] P := h.congr (fun k hk => by
          rw [gS3 hk, gS3 hk, gS23 (by omega), h3 _ (by omega) (by omega)])
        rw [if_neg (fun z => hin (by have := (cge (by omega) (by omega)).mp z; omega)), pX3_weigh (N := N) (k := i) hCT (fun a b ha hb => by rw [gS23 (by decide), h3 12 (by decide) (by decide)]; exact hds a b ha hb) h0 h14 hir (hlk i hir).1 (hlk i hir).2 hm hl hN, hV_mk, gM23U (by decide), gM23U (by decide), gM23s, ckI (by omega) (by decide), nI_clamp (n := i) (by omega), gU_us]
        obtain ⟨w1, w2⟩ := wgN_eq r (lvl r qs) ds i
        rw [w2]
        have e41 : ∀ (c : Nat) (K' : gM), hX3_choose_41 N m sc (nI c) (nI i) K' = hX3_choose_5 N m sc (nI c) (nI (i + 1)) K' := fun c K' => by
          rw [eX3_choose_41, l1, nI_add]
        have go := ih (i + 1) (by omega) (by omega) (gU (gU K 1 i (wfo (lvl r qs) ds (r 5) (lkp r i 0) (lkp r i 1) (r 0)).1) 2 i (nI (wgN r (lvl r qs) ds i))) (fun k hk => by
          by_cases e : k = i
          · rw [e, gU_un (Or.inl (by decide)), gU_us, gU_us]; exact ⟨rfl, rfl⟩
          · rw [gU_un (Or.inl (by decide)), gU_un (Or.inr e), gU_un (Or.inr e), gU_un (Or.inl (by decide))]
            exact h1 k (by omega)) (fun j hj => by
          rw [gU_un (Or.inl (by decide)), gU_un (Or.inr (by omega)), gU_un (Or.inr (by omega)), gU_un (Or.inl (by decide))]
          exact h2 j (by omega)) (fun j ha hb => by rw [gU_ok hb, gU_ok ha]; exact h3 j ha hb)
        by_cases hw : wgN r (lvl r qs) ds i = 0
        · rw [if_pos (by rw [zle (by omega)]; exact hw), e41]
          have ec : cnd (wgN r (lvl r qs) ds) (i + 1) = cnd (wgN r (lvl r qs) ds) i := if_neg (by omega)
          rw [ec] at go
          exact go
        · have ec : cnd (wgN r (lvl r qs) ds) (i + 1) = cnd (wgN r (lvl r qs) ds) i ||| 2 ^ i := if_pos (by omega)
          have eo : gb_or (nI (cnd (wgN r (lvl r qs) ds) i)) (gb_shl (nI 1) (nI i)) = nI (cnd (wgN r (lvl r qs) ds) i ||| 2 ^ i) := by
            rw [shl1 (by omega)]; exact nI_or _ _
          rw [if_neg (by rw [zle (by omega)]; exact hw), eo, e41, ← ec]
          exact go
  rw [eX3_choose, eX3_choose_0, l0]
  exact key N 0 (Nat.zero_le _) (by omega) I (fun k hk => absurd hk (Nat.not_lt_zero _)) (fun _ _ => ⟨rfl, rfl⟩) (fun _ _ _ => rfl)
