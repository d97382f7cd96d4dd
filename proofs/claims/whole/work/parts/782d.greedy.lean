/-! ===== the greedy set: there is only one ===== -/
/-- j is looked at ahead of k -/
def ahd (W : Nat → Nat) (j k : Nat) : Prop := W k < W j ∨ (W j = W k ∧ j < k)
def grd (W C : Nat → Nat) (s G : Nat) : Prop := ∀ k, G.testBit k = true ↔ (s.testBit k = true ∧ ∀ j, G.testBit j = true → ahd W j k → (C k).testBit j = false)
theorem grd_one {W C : Nat → Nat} {s a b M : Nat} (hs : s < 2 ^ 14) (hM : ∀ k, k < 14 → W k ≤ M) (h1 : grd W C s a) (h2 : grd W C s b) : a = b := by
  have out : ∀ {g : Nat}, grd W C s g → ∀ k, g.testBit k = true → k < 14 := fun hg k hk => by
    have hsk := ((hg k).mp hk).1
    rcases Nat.lt_or_ge k 14 with h | h
    · exact h
    · rw [Nat.testBit_lt_two_pow (Nat.lt_of_lt_of_le hs (Nat.pow_le_pow_right (by decide) h))] at hsk
      cases hsk
  have key : ∀ n k, k < 14 → (M - W k) * 14 + k < n → (a.testBit k = true ↔ b.testBit k = true) := by
    intro n
    induction n with
    | zero => intro k _ h; omega
    | succ n ih =>
      intro k hk hn
      have step : ∀ j, j < 14 → ahd W j k → (a.testBit j = true ↔ b.testBit j = true) := fun j hj ha => by
        refine ih j hj ?_
        have h3 := hM j hj
        have h4 := hM k hk
        rcases ha with h | h
        · omega
        · rw [h.1]; omega
      rw [h1 k, h2 k]
      refine and_congr_right (fun _ => ⟨fun h j hj ha => h j ((step j (out h2 j hj) ha).mpr hj) ha, fun h j hj ha => h j ((step j (out h1 j hj) ha).mp hj) ha⟩)
  apply Nat.eq_of_testBit_eq
  intro k
  rw [Bool.eq_iff_iff]
  rcases Nat.lt_or_ge k 14 with h | h
  · exact key _ k h (Nat.lt_succ_self _)
  · exact ⟨fun z => absurd (out h1 k z) (by omega), fun z => absurd (out h2 k z) (by omega)⟩
