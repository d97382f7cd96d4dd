/-! ===== the reference: a link in conflict with one of some weight ===== -/
def rvl (C : Nat) (W : Nat → Nat) (n : Nat) : Bool := (List.range n).any (fun k => C.testBit k && decide (0 < W k))
theorem rvl_s (C : Nat) (W : Nat → Nat) (n : Nat) : rvl C W (n + 1) = (rvl C W n || (C.testBit n && decide (0 < W n))) := by
  unfold rvl
  rw [List.range_succ, List.any_append]
  simp only [List.any_cons, List.any_nil, Bool.or_false]
theorem r_has {N s k : Nat} {I : gM} {K : Int32 → gM → gO} (hs : s < 2 ^ 31) (hk : k < 32) : hI (fX9_has N [.int (nI s), .int (nI k)] (gS [] I)) [] I K = K (b2 (s.testBit k)) I := by
  rw [pX9_has N _ hs hk, hI_mk, gS_nil]
theorem b2_or (a b : Bool) : gb_or (b2 a) (b2 b) = b2 (a || b) := by cases a <;> cases b <;> decide
theorem pX9_hasRival {N k n c : Nat} {W : Nat → Nat} {I : gM} (hn : I 3 1 = nI n) (hn14 : n ≤ 14) (hk : k < 14) (hc : I 3 (131 + k) = nI c) (hc2 : c < 2 ^ 31) (hW : ∀ j, j < n → I 12 j = nI (W j) ∧ W j < 2 ^ 31) (hN : 1000 ≤ N) :
    fX9_hasRival N [.ref 0, .int (nI k)] I = some (.inl (some (.int (b2 (rvl c W n)))), I) := by
  have l0 : (0 : Int32) = nI 0 := rfl
  have l1 : (1 : Int32) = nI 1 := rfl
  have l131 : (131 : Int32) = nI 131 := rfl
  have key : ∀ m i : Nat, i ≤ n → n - i < m → hX9_hasRival_4 N m (nI k) (b2 (rvl c W i)) (nI i) I = some (.inl (some (.int (b2 (rvl c W n)))), I) := by
    intro m
    induction m with
    | zero => intro i _ h; omega
    | succ m ih =>
      intro i hi hm
      have c1 : ∀ X : gO, ck 2746 1 X = X := fun X => by rw [l1, ckI (by decide) (by decide)]
      have n1 : (1 : Int32).toNatClampNeg = 1 := by decide
      rw [eX9_hasRival_4, c1, n1, hn]
      by_cases hin : i = n
      · subst hin
        rw [if_pos ((cge (by omega) (by omega)).mpr (Nat.le_refl _)), if_pos (b2_01 _)]
      · have hin2 : i < n := by omega
        obtain ⟨w1, w2⟩ := hW i hin2
        have ea : gb_add 131 (nI k) = nI (131 + k) := by rw [l131]; exact nI_add _ _
        have e46 : ∀ b : Bool, (c.testBit i && decide (0 < W i)) = b → hX9_hasRival_46 N m (nI k) (nI i) (b2 (rvl c W i)) (b2 b) I = some (.inl (some (.int (b2 (rvl c W n)))), I) := fun b hb => by
          have := ih (i + 1) (by omega) (by omega)
          rw [rvl_s, hb] at this
          rw [eX9_hasRival_46, b2_or, l1, nI_add]
          exact this
        rw [if_neg (fun z => hin (by have := (cge (by omega) (by omega)).mp z; omega)), ea, ckI (by omega) (by decide), nI_clamp (n := 131 + k) (by omega), hc, r_has hc2 (by omega)]
        cases hb : c.testBit i with
        | false =>
          rw [if_pos (by decide), eX9_hasRival_45]
          exact e46 false (by rw [hb]; rfl)
        | true =>
          rw [if_neg (by decide), ckI (by omega) (by decide), nI_clamp (n := i) (by omega), w1]
          by_cases hw : W i = 0
          · rw [if_pos (by rw [zle w2]; exact hw), eX9_hasRival_45]
            exact e46 false (by rw [hb, hw]; rfl)
          · rw [if_neg (by rw [zle w2]; exact hw)]
            exact e46 true (by rw [hb, decide_eq_true (show 0 < W i by omega)]; rfl)
  rw [eX9_hasRival, eX9_hasRival_0, l0]
  exact key N 0 (Nat.zero_le _) (by omega)
