/-! ===== the weights of links ===== -/
theorem i_sub3 (a b c : Int32) : a - b - c = a - (b + c) := by
  apply Int32.toBitVec_inj.mp
  show a.toBitVec - b.toBitVec - c.toBitVec = a.toBitVec - (b.toBitVec + c.toBitVec)
  generalize a.toBitVec = x
  generalize b.toBitVec = y
  generalize c.toBitVec = z
  rw [BitVec.sub_eq_add_neg, BitVec.sub_eq_add_neg, BitVec.sub_eq_add_neg, BitVec.neg_add, BitVec.sub_eq_add_neg, BitVec.add_assoc]
theorem hAl_16 {x : Int32} {I : gM} {K : Int32 → gO} : hAl gyPS 16 0 x I K = ck 100 x (K (I 16 x.toNatClampNeg)) := rfl
theorem hAl_17 {x : Int32} {I : gM} {K : Int32 → gO} : hAl gyPS 17 0 x I K = ck 100 x (K (I 17 x.toNatClampNeg)) := rfl
/-- one goal more: what is best and how good it is -/
def wst (lv ds : Nat → Nat → Nat) (bias a b : Nat) (z : Int32 × Int32) (g : Nat) : Int32 × Int32 :=
  if 0 < lv a g then (if z.1 = mI ∨ z.2 < nI (lv a g + bias * ds a g) - nI (lv b g + bias * ds b g) then (nI g, nI (lv a g + bias * ds a g) - nI (lv b g + bias * ds b g)) else z) else z
def wfo (lv ds : Nat → Nat → Nat) (bias a b n : Nat) : Int32 × Int32 := (List.range n).foldl (wst lv ds bias a b) (mI, 0)
theorem wfo_s (lv ds : Nat → Nat → Nat) (bias a b n : Nat) : wfo lv ds bias a b (n + 1) = wst lv ds bias a b (wfo lv ds bias a b n) n := by
  unfold wfo; rw [List.range_succ, List.foldl_append]; rfl
theorem CN.ds {I : gM} {r : Nat → Nat} (h : CN I r) : ∃ ds : Nat → Nat → Nat, ∀ a b, a < r 0 → b < r 0 → isD r a b (ds a b) ∧ I 9 (a * 10 + b) = nI (ds a b) := by
  have h0 : ∀ q : Nat × Nat, ∃ d, q.1 < r 0 → q.2 < r 0 → isD r q.1 q.2 d ∧ I 9 (q.1 * 10 + q.2) = nI d := fun q => by
    by_cases ha : q.1 < r 0
    · by_cases hb : q.2 < r 0
      · obtain ⟨d, hd⟩ := h.2.2.2.2 q.1 q.2 ha hb
        exact ⟨d, fun _ _ => hd⟩
      · exact ⟨0, fun _ h => absurd h hb⟩
    · exact ⟨0, fun h => absurd h ha⟩
  obtain ⟨f, hf⟩ := Classical.axiomOfChoice h0
  exact ⟨fun a b => f (a, b), fun a b ha hb => hf (a, b) ha hb⟩
def lvl (r : Nat → Nat) (qs : Nat → List Pk) (a g : Nat) : Nat := if r 3 = 0 then (qs (a * 10 + g)).length else r (145 + (a * 10 + g))
theorem gS3 {I : gM} {k : Nat} (h : k < 20) : gS (rg 3 20) I k = I (3 + k) := gS_rg h (by decide)
theorem pX3_weigh {N : Nat} {I : gM} {r : Nat → Nat} {qs : Nat → List Pk} {P k : Nat} {ds : Nat → Nat → Nat} (h : CT (gS (rg 3 20) I) r qs [] P) (hds : ∀ a b, a < r 0 → b < r 0 → I 12 (a * 10 + b) = nI (ds a b)) (h0 : r 0 ≤ 10) (h14 : r 1 ≤ 14) (hk : k < r 1) (ha : lkp r k 0 < r 0) (hb : lkp r k 1 < r 0) (hm : r 3 ≤ 1) (hl : ∀ q, q < 100 → r (145 + q) < 2 ^ 31) (hN : 1000 ≤ N) :
    fX3_weigh N [.ref 0, .ref 3, .int (nI k)] I = some (.inl none, gU (gU I 1 k (wfo (lvl r qs) ds (r 5) (lkp r k 0) (lkp r k 1) (r 0)).1) 2 k (gj_max (nI 0) (nI (lkp r k 2) * (wfo (lvl r qs) ds (r 5) (lkp r k 0) (lkp r k 1) (r 0)).2))) := by
  have l0 : (0 : Int32) = nI 0 := rfl
  have l1 : (1 : Int32) = nI 1 := rfl
  have l2 : (2 : Int32) = nI 2 := rfl
  have lm : (-1 : Int32) = mI := rfl
  obtain ⟨w0, w1, w2, -, -⟩ := h.1.2.1 k hk
  rw [gS3 (by decide)] at w0 w1 w2
  have v0 : I 5 k = nI (lkp r k 0) := w0
  have v1 : I 6 k = nI (lkp r k 1) := w1
  have v2 : I 7 k = nI (lkp r k 2) := w2
  have s0 : I 10 0 = nI (r 3) := by
    have := h.1.2.2.1 0 (by decide)
    rw [gS3 (by decide)] at this; exact this
  have s2 : I 10 2 = nI (r 5) := by
    have := h.1.2.2.1 2 (by decide)
    rw [gS3 (by decide)] at this; exact this
  have hn0 : I 4 0 = nI (r 0) := by
    have := h.1.1.1
    rw [gS3 (by decide)] at this; exact this
  have len : ∀ q, q < 100 → I 16 q = nI (qs q).length ∧ (qs q).length ≤ 500 := fun q hq => by
    have := h.2.2.toq.len hq
    rw [gS10 (by decide), gS3 (by decide)] at this; exact this
  have shd : ∀ q, q < 100 → I 17 q = nI (r (145 + q)) := fun q hq => by
    have := h.2.1.2.2 q hq
    rw [gS3 (by decide)] at this; exact this
  -- the level's array
  have main : ∀ (ref : Nat), (∀ (x : Int32) (K : Int32 → gO), hAl gyPS ref 0 x I K = ck 100 x (K (I ref x.toNatClampNeg))) → (∀ a g, a < 10 → g < 10 → I ref (a * 10 + g) = nI (lvl r qs a g) ∧ lvl r qs a g < 2 ^ 31) → ∀ m i : Nat, i ≤ r 0 → r 0 - i < m → hX3_weigh_50 N m (nI k) ref (nI (r 5)) (wfo (lvl r qs) ds (r 5) (lkp r k 0) (lkp r k 1) i).1 (wfo (lvl r qs) ds (r 5) (lkp r k 0) (lkp r k 1) i).2 (nI i) I = some (.inl none, gU (gU I 1 k (wfo (lvl r qs) ds (r 5) (lkp r k 0) (lkp r k 1) (r 0)).1) 2 k (gj_max (nI 0) (nI (lkp r k 2) * (wfo (lvl r qs) ds (r 5) (lkp r k 0) (lkp r k 1) (r 0)).2))) := by
    intro ref hal hlv m
    induction m with
    | zero => intro i _ h; omega
    | succ m ih =>
      intro i hi hm
      rw [eX3_weigh_50, hn0, lm, l0]
      by_cases hin : i = r 0
      · subst hin
        rw [if_pos ((cge (by omega) (by omega)).mpr (Nat.le_refl _)), ckI (by omega) (by decide), ckI (by omega) (by decide), ckI (by omega) (by decide), nI_clamp (by omega), v2]
      · have hir : i < r 0 := by omega
        have qa : lkp r k 0 * 10 + i < 100 := by omega
        have qb : lkp r k 1 * 10 + i < 100 := by omega
        obtain ⟨la, la2⟩ := hlv (lkp r k 0) i (by omega) (by omega)
        obtain ⟨lb, lb2⟩ := hlv (lkp r k 1) i (by omega) (by omega)
        have da := hds (lkp r k 0) i ha hir
        have db := hds (lkp r k 1) i hb hir
        have e149 : ∀ z : Int32 × Int32, wfo (lvl r qs) ds (r 5) (lkp r k 0) (lkp r k 1) (i + 1) = z → hX3_weigh_149 N m (nI k) ref (nI (r 5)) z.1 z.2 (nI i) I = some (.inl none, gU (gU I 1 k (wfo (lvl r qs) ds (r 5) (lkp r k 0) (lkp r k 1) (r 0)).1) 2 k (gj_max (nI 0) (nI (lkp r k 2) * (wfo (lvl r qs) ds (r 5) (lkp r k 0) (lkp r k 1) (r 0)).2))) := fun z hz => by
          rw [eX3_weigh_149, l1, nI_add, ← hz]
          exact ih (i + 1) (by omega) (by omega)
        rw [if_neg (fun z => hin (by have := (cge (by omega) (by omega)).mp z; omega)), ckI (by omega) (by decide), nI_clamp (n := k) (by omega), v0, s_pair, ckI (by omega) (by decide), v1, s_pair, hal, ckI qa (by decide), nI_clamp (n := lkp r k 0 * 10 + i) (by omega), la]
        by_cases hz : lvl r qs (lkp r k 0) i = 0
        · rw [if_pos (by rw [zle (by omega)]; exact hz)]
          refine e149 _ ?_
          rw [wfo_s]; unfold wst; rw [if_neg (by omega)]
        · rw [if_neg (by rw [zle (by omega)]; exact hz), hal, ckI qa (by decide), nI_clamp (n := lkp r k 0 * 10 + i) (by omega), la, ckI qa (by decide), hal, ckI qb (by decide), nI_clamp (n := lkp r k 1 * 10 + i) (by omega), lb, ckI qb (by decide), da, db]
          have ed : gb_sub (gb_sub (gb_add (nI (lvl r qs (lkp r k 0) i)) (gb_mul (nI (r 5)) (nI (ds (lkp r k 0) i)))) (nI (lvl r qs (lkp r k 1) i))) (gb_mul (nI (r 5)) (nI (ds (lkp r k 1) i))) = nI (lvl r qs (lkp r k 0) i + r 5 * ds (lkp r k 0) i) - nI (lvl r qs (lkp r k 1) i + r 5 * ds (lkp r k 1) i) := by
            simp only [gb_sub, gb_add, gb_mul, pk_mul, nI_add]
            rw [i_sub3, nI_add]
          rw [ed]
          have hs := wfo_s (lvl r qs) ds (r 5) (lkp r k 0) (lkp r k 1) i
          unfold wst at hs
          rw [if_pos (by omega)] at hs
          generalize wfo (lvl r qs) ds (r 5) (lkp r k 0) (lkp r k 1) i = z at hs ⊢
          by_cases h1 : z.1 = mI
          · rw [if_pos (by rw [h1]; decide), eX3_weigh_141]
            rw [if_pos (Or.inl h1)] at hs
            exact e149 _ hs
          · rw [if_neg (by rw [decide_eq_true_eq]; exact h1)]
            by_cases h2 : z.2 < nI (lvl r qs (lkp r k 0) i + r 5 * ds (lkp r k 0) i) - nI (lvl r qs (lkp r k 1) i + r 5 * ds (lkp r k 1) i)
            · rw [if_neg (by rw [decide_eq_true_eq]; exact Int32.not_le.mpr h2), eX3_weigh_141]
              rw [if_pos (Or.inr h2)] at hs
              exact e149 _ hs
            · rw [if_pos (by rw [decide_eq_true_eq]; exact Int32.not_lt.mp h2)]
              rw [if_neg (fun e => e.elim h1 h2)] at hs
              exact e149 _ hs
  rw [eX3_weigh, eX3_weigh_0, l0, ckI (by decide) (by decide), nI_clamp (n := 0) (by decide), s0]
  by_cases hm0 : r 3 = 0
  · rw [if_neg (by rw [zne (by omega)]; exact fun z => z hm0), eX3_weigh_31, l0, l2, lm, ckI (by decide) (by decide), nI_clamp (n := 2) (by decide), s2]
    refine main 16 (fun _ _ => hAl_16) (fun a g ha hg => ?_) N 0 (Nat.zero_le _) (by omega)
    have hl := len (a * 10 + g) (by omega)
    unfold lvl
    rw [if_pos hm0]
    exact ⟨hl.1, by omega⟩
  · rw [if_pos (by rw [zne (by omega)]; exact hm0), eX3_weigh_31, l0, l2, lm, ckI (by decide) (by decide), nI_clamp (n := 2) (by decide), s2]
    refine main 17 (fun _ _ => hAl_17) (fun a g ha hg => ?_) N 0 (Nat.zero_le _) (by omega)
    unfold lvl
    rw [if_neg hm0]
    exact ⟨shd (a * 10 + g) (by omega), hl _ (by omega)⟩
