/-! ===== the first state is well formed ===== -/
theorem ab0_w : INw ab0 := by
  have e1 : r00 1 = 2 := rfl
  have e2 : r00 2 = 1 := rfl
  have c01 : ∀ k, k < r00 1 → k = 0 ∨ k = 1 := fun k hk => by omega
  refine ⟨⟨⟨⟨by decide, fun k hk => ?_, fun j k hj hk => ?_, fun k hk j hj => ?_, fun f hf => ?_, fun a d _ _ => ?_, Nat.zero_le _, fun p hp => absurd hp List.not_mem_nil⟩, fun f hf => ?_⟩, by decide⟩, fun τ hτ => absurd hτ List.not_mem_nil, fun τ hτ => (by cases hτ), Nat.zero_le _, Nat.zero_le _, fun x hx => absurd hx List.not_mem_nil⟩
  · rcases c01 k hk with h | h <;> subst h <;> decide
  · rcases c01 j hj with h | h <;> rcases c01 k hk with h' | h' <;> subst h <;> subst h' <;> decide
  · have z : cfp r00 k = 0 := by rcases c01 k hk with h | h <;> subst h <;> rfl
    have hj' : (cfp r00 k).testBit j = true := hj
    rw [z, Nat.zero_testBit] at hj'
    cases hj'
  · have hf' : f < r00 2 := hf
    have : f = 0 := by omega
    subst this
    decide
  · have z : shp r00 a d = 0 := r00_z (by omega)
    show shp r00 a d ≤ _ ∧ (a = d → shp r00 a d = 0)
    rw [z]; exact ⟨Nat.zero_le _, fun _ => rfl⟩
  · have h6 : ∀ f, f < 6 → flp r00 f 10 ≤ 10101 := by decide
    exact h6 f hf
theorem first_one {N : Nat} (hN : 20000 ≤ N) : ∃ J8 J9, fX8_init_k81 N [some (.ref 0)] [] jX8_8 = some (.inl none, J8) ∧ fX9_init_k148 N [some (.ref 0)] [] jX9_18 = some (.inl none, J9) ∧ IN J8 J9 ab0 := by
  obtain ⟨J8, a1, a2⟩ := first_c (N := N) (by omega)
  obtain ⟨J9, b1, b2'⟩ := first_m (N := N) j9_2 hN
  exact ⟨J8, J9, a1, b1, a2, b2', ab0_w⟩
