/-! ===== the reference begins a net anew ===== -/
theorem pX9_begin {N : Nat} {I : gM} (hN : 20000 ≤ N) : ∃ J, fX9_begin N [.ref 0] I = some (.inl none, J) ∧ RowIs (J 2) (rz 0, []) ∧ J 0 14 = 0 ∧ J 0 15 = 0 ∧ (∀ j, j ≠ 14 → j ≠ 15 → J 0 j = I 0 j) ∧ ∀ k, k ≠ 0 → k ≠ 2 → J k = I k := by
  have l4 : (4 : Int32) = nI 4 := rfl
  have l2746 : (2746 : Int32) = nI 2746 := rfl
  have c4 : ∀ X : gO, ck 2746 4 X = X := fun X => by rw [l4, ckI (by decide) (by decide)]
  have n4 : (4 : Int32).toNatClampNeg = 4 := by decide
  have key : ∀ m i : Nat, i ≤ 2746 → 2746 - i < m → ∀ K : gM, (∀ x, x < i → K 2 x = 0) → (∀ k, k ≠ 2 → K k = I k) → ∃ J, hX9_begin_2 N m (nI i) K = some (.inl none, J) ∧ (∀ x, x < 2746 → J 2 x = if x = 4 then 10 else 0) ∧ J 0 14 = 0 ∧ J 0 15 = 0 ∧ (∀ j, j ≠ 14 → j ≠ 15 → J 0 j = I 0 j) ∧ ∀ k, k ≠ 0 → k ≠ 2 → J k = I k := by
    intro m
    induction m with
    | zero => intro i _ h; omega
    | succ m ih =>
      intro i hi hm K hK ho
      rw [eX9_begin_2, l2746]
      by_cases hin : i = 2746
      · rw [if_pos ((cge (by omega) (by decide)).mpr (by omega)), c4, n4]
        refine ⟨_, rfl, fun x hx => ?_, ?_, by rw [gU_us], fun j h4 h5 => ?_, fun k h0 h2 => ?_⟩
        · rw [gU_ok (by decide), gU_ok (by decide)]
          by_cases e : x = 4
          · subst e; rw [gU_us, if_pos rfl]
          · rw [gU_un (Or.inr e), if_neg e]; exact hK x (by omega)
        · rw [gU_un (Or.inr (by decide)), gU_us]
        · rw [gU_un (Or.inr h5), gU_un (Or.inr h4), gU_ok (by decide), ho 0 (by decide)]
        · rw [gU_ok h0, gU_ok h0, gU_ok h2, ho k h2]
      · rw [if_neg (fun z => by have := (cge (a := i) (b := 2746) (by omega) (by decide)).mp z; omega), ckI (by omega) (by decide), nI_clamp (by omega), nI_s]
        refine ih (i + 1) (by omega) (by omega) _ (fun x hx => ?_) (fun k hk => by rw [gU_ok hk]; exact ho k hk)
        by_cases e : x = i
        · rw [e, gU_us]
        · rw [gU_un (Or.inr e)]; exact hK x (by omega)
  obtain ⟨J, j0, j1, j2, j3, j4, j5⟩ := key N 0 (Nat.zero_le _) (by omega) I (fun x hx => absurd hx (Nat.not_lt_zero _)) (fun _ _ => rfl)
  have j0' : hX9_begin_2 N N 0 I = some (.inl none, J) := j0
  rw [eX9_begin, eX9_begin_0]
  refine ⟨J, j0', ⟨fun k hk => ?_, ?_, fun i p hp => by cases hp⟩, j2, j3, j4, j5⟩
  · show J 2 k = nI (rz 0 k)
    rw [j1 k (by omega)]
    unfold rz
    by_cases e : k = 4
    · rw [if_pos e, if_neg (by omega), if_pos e]; rfl
    · rw [if_neg e, if_neg e]
      by_cases e0 : k = 0
      · rw [if_pos e0]; rfl
      · rw [if_neg e0]; rfl
  · show J 2 245 = nI 0
    rw [j1 245 (by decide)]; rfl
