/-! ===== the best set without conflicts: greatest sum, then lowest number ===== -/
def sub2 (a b : Nat) : Prop := ∀ j, a.testBit j = true → b.testBit j = true
def ind (C : Nat → Nat) (h : Nat) : Prop := ∀ i j, h.testBit i = true → h.testBit j = true → i ≠ j → (C i).testBit j = false
def bst (W C : Nat → Nat) (s h : Nat) : Prop := sub2 h s ∧ ind C h ∧ ∀ h', sub2 h' s → ind C h' → wsum W h' 14 < wsum W h 14 ∨ (wsum W h' 14 = wsum W h 14 ∧ h ≤ h')
theorem bst_one {W C : Nat → Nat} {s a b : Nat} (h1 : bst W C s a) (h2 : bst W C s b) : a = b := by
  have x := h1.2.2 b h2.1 h2.2.1
  have y := h2.2.2 a h1.1 h1.2.1
  omega
theorem wsum_or (W : Nat → Nat) {h t : Nat} (hb : h.testBit t = false) : ∀ n, wsum W (2 ^ t ||| h) n = wsum W h n + (if t < n then W t else 0)
  | 0 => rfl
  | n + 1 => by
    have ih := wsum_or W hb n
    show wsum W (2 ^ t ||| h) n + (if (2 ^ t ||| h).testBit n = true then W n else 0) = wsum W h n + (if h.testBit n = true then W n else 0) + _
    rw [ih, Nat.testBit_or, Nat.testBit_two_pow]
    by_cases e : t = n
    · subst e
      rw [decide_eq_true (rfl : t = t), Bool.true_or, if_pos rfl, hb, if_neg (Nat.lt_irrefl _), if_neg (by decide), if_pos (by omega)]
    · rw [decide_eq_false e, Bool.false_or]
      by_cases h1 : t < n
      · rw [if_pos h1, if_pos (show t < n + 1 by omega)]; exact Nat.add_right_comm _ _ _
      · rw [if_neg h1, if_neg (show ¬ t < n + 1 by omega)]; rfl
theorem or_add {t h : Nat} (hl : h < 2 ^ t) : 2 ^ t ||| h = 2 ^ t + h := by
  have := Nat.two_pow_add_eq_or_of_lt hl 1
  rw [Nat.mul_one] at this
  exact this.symm
theorem lt_nobit {s t : Nat} (hs : s < 2 ^ (t + 1)) (hb : s.testBit t = false) : s < 2 ^ t := by
  apply Nat.lt_pow_two_of_testBit
  intro j hj
  by_cases e : j = t
  · rw [e]; exact hb
  · exact Nat.testBit_lt_two_pow (Nat.lt_of_lt_of_le hs (Nat.pow_le_pow_right (by decide) (by omega)))
theorem andn_not (s t : Nat) : (andn s (2 ^ t)).testBit t = false := by
  rw [andn_tb, Nat.testBit_two_pow, decide_eq_true (rfl : t = t)]
  cases s.testBit t <;> rfl
theorem andn_ne {s t j : Nat} (hj : j ≠ t) : (andn s (2 ^ t)).testBit j = s.testBit j := by
  rw [andn_tb, Nat.testBit_two_pow, decide_eq_false (fun e => hj e.symm)]
  cases s.testBit j <;> rfl
/-- a set with t, split -/
theorem split_t {h t : Nat} (hb : h.testBit t = true) : h = 2 ^ t ||| andn h (2 ^ t) := by
  apply Nat.eq_of_testBit_eq
  intro j
  rw [Nat.testBit_or, Nat.testBit_two_pow]
  by_cases e : t = j
  · subst e; rw [decide_eq_true (rfl : t = t), hb]; rfl
  · rw [decide_eq_false e, Bool.false_or, andn_ne (fun z => e z.symm)]
theorem sub2_le {a b : Nat} (hs : sub2 a b) {n : Nat} (hb : b < 2 ^ n) : a < 2 ^ n := lt_of_sub hb hs
theorem hvy_bst {W C : Nat → Nat} : ∀ (t s : Nat), t ≤ 14 → s < 2 ^ t → (∀ i j, s.testBit i = true → s.testBit j = true → (C i).testBit j = (C j).testBit i) → (∀ j, s.testBit j = true → 0 < W j) → bst W C s (hvy W C t s)
  | 0, s, _, hs, _, _ => by
    have hs0 : s = 0 := by
      have : (2 : Nat) ^ 0 = 1 := rfl
      omega
    subst hs0
    refine ⟨fun j h => h, fun i j h => ?_, fun h' hh _ => Or.inr ⟨?_, Nat.zero_le _⟩⟩
    · have h2 : (0 : Nat).testBit i = true := h
      rw [Nat.zero_testBit] at h2; cases h2
    · have h0 : h' < 2 ^ 0 := sub2_le hh (by decide)
      have e : h' = 0 := by
        have : (2 : Nat) ^ 0 = 1 := rfl
        omega
      rw [e]; rfl
  | t + 1, s, ht, hs, hsym, hpos => by
    unfold hvy
    by_cases hs0 : s = 0
    · rw [if_pos hs0]
      subst hs0
      refine ⟨fun j h => h, fun i j h => ?_, fun h' hh _ => Or.inr ⟨?_, Nat.zero_le _⟩⟩
      · rw [Nat.zero_testBit] at h; cases h
      · have h0 : h' < 2 ^ 0 := sub2_le hh (by decide)
        have e : h' = 0 := by
          have : (2 : Nat) ^ 0 = 1 := rfl
          omega
        rw [e]
    · rw [if_neg hs0]
      by_cases hA : andn s (2 ^ t) = s
      · rw [if_pos hA]
        have hb : s.testBit t = false := by rw [← hA]; exact andn_not s t
        exact hvy_bst t s (by omega) (lt_nobit hs hb) hsym hpos
      · rw [if_neg hA]
        have hbt := andn_two hA
        have hrs : sub2 (andn s (2 ^ t)) s := fun j h => andn_sub h
        have has : sub2 (andn (andn s (2 ^ t)) (C t)) s := fun j h => andn_sub (andn_sub h)
        have hrl : andn s (2 ^ t) < 2 ^ t := lt_nobit (andn_lt hs) (andn_not s t)
        have hal : andn (andn s (2 ^ t)) (C t) < 2 ^ t := andn_lt hrl
        have ih1 := hvy_bst t (andn (andn s (2 ^ t)) (C t)) (by omega) hal (fun i j h1 h2 => hsym i j (has i h1) (has j h2)) (fun j h => hpos j (has j h))
        have ih2 := hvy_bst t (andn s (2 ^ t)) (by omega) hrl (fun i j h1 h2 => hsym i j (hrs i h1) (hrs j h2)) (fun j h => hpos j (hrs j h))
        generalize hvy W C t (andn (andn s (2 ^ t)) (C t)) = h1 at ih1 ⊢
        generalize hvy W C t (andn s (2 ^ t)) = h2 at ih2 ⊢
        have hl1 : h1 < 2 ^ t := sub2_le ih1.1 hal
        have hl2 : h2 < 2 ^ t := sub2_le ih2.1 hrl
        have hn1 : h1.testBit t = false := Nat.testBit_lt_two_pow hl1
        have hW := hpos t hbt
        have ew : wsum W (2 ^ t ||| h1) 14 = wsum W h1 14 + W t := by rw [wsum_or W hn1, if_pos (by omega)]
        have hwb : ∀ j, (2 ^ t ||| h1).testBit j = true → j = t ∨ h1.testBit j = true := fun j h => by
          rw [Nat.testBit_or, Bool.or_eq_true, Nat.testBit_two_pow, decide_eq_true_eq] at h
          exact h.imp (fun e => e.symm) id
        have hws : sub2 (2 ^ t ||| h1) s := fun j h => (hwb j h).elim (fun e => e ▸ hbt) (fun e => has j (ih1.1 j e))
        have hct : ∀ j, h1.testBit j = true → (C t).testBit j = false := fun j h => by
          have := ih1.1 j h
          rw [andn_tb, Bool.and_eq_true, Bool.not_eq_true'] at this
          exact this.2
        have hwi : ind C (2 ^ t ||| h1) := fun i j a b e => by
          rcases hwb i a with e1 | e1
          · rcases hwb j b with e2 | e2
            · omega
            · rw [e1]; exact hct j e2
          · rcases hwb j b with e2 | e2
            · rw [e2, hsym i t (has i (ih1.1 i e1)) hbt]; exact hct i e1
            · exact ih1.2.1 i j e1 e2 e
        -- sets with t, and sets without
        have wt : ∀ h', sub2 h' s → ind C h' → h'.testBit t = true → wsum W h' 14 < wsum W (2 ^ t ||| h1) 14 ∨ (wsum W h' 14 = wsum W (2 ^ t ||| h1) 14 ∧ 2 ^ t ||| h1 ≤ h') := fun h' hs' hi' hb' => by
          have hsp := split_t hb'
          have hsub : sub2 (andn h' (2 ^ t)) (andn (andn s (2 ^ t)) (C t)) := fun j h => by
            have hjt : j ≠ t := fun e => by rw [e, andn_not] at h; cases h
            have hj := andn_sub h
            rw [andn_tb, Bool.and_eq_true, Bool.not_eq_true', andn_ne hjt]
            exact ⟨hs' j hj, hi' t j hb' hj (fun e => hjt e.symm)⟩
          have hin : ind C (andn h' (2 ^ t)) := fun i j a b e => hi' i j (andn_sub a) (andn_sub b) e
          have hx := ih1.2.2 _ hsub hin
          have e1 : wsum W h' 14 = wsum W (andn h' (2 ^ t)) 14 + W t := by
            conv => lhs; rw [hsp]
            rw [wsum_or W (andn_not h' t), if_pos (by omega)]
          have e2 : h' = 2 ^ t + andn h' (2 ^ t) := by
            conv => lhs; rw [hsp]
            exact or_add (sub2_le hsub hal)
          rw [ew, e1, or_add hl1]
          omega
        have wo : ∀ h', sub2 h' s → h'.testBit t = false → sub2 h' (andn s (2 ^ t)) := fun h' hs' hb' j hj => by
          have hjt : j ≠ t := fun e => by rw [e, hb'] at hj; cases hj
          rw [andn_ne hjt]; exact hs' j hj
        by_cases hD : andn (andn s (2 ^ t)) (C t) = andn s (2 ^ t)
        · rw [if_pos hD]
          refine ⟨hws, hwi, fun h' hs' hi' => ?_⟩
          cases hb' : h'.testBit t with
          | true => exact wt h' hs' hi' hb'
          | false =>
            have hx := ih1.2.2 h' (by rw [hD]; exact wo h' hs' hb') hi'
            rw [ew]; omega
        · rw [if_neg hD]
          by_cases hlt : wsum W h2 14 < wsum W (2 ^ t ||| h1) 14
          · rw [if_pos hlt]
            refine ⟨hws, hwi, fun h' hs' hi' => ?_⟩
            cases hb' : h'.testBit t with
            | true => exact wt h' hs' hi' hb'
            | false =>
              have hx := ih2.2.2 h' (wo h' hs' hb') hi'
              omega
          · rw [if_neg hlt]
            refine ⟨fun j h => hrs j (ih2.1 j h), ih2.2.1, fun h' hs' hi' => ?_⟩
            cases hb' : h'.testBit t with
            | true =>
              have hx := wt h' hs' hi' hb'
              have hge : 2 ^ t ≤ h' := Nat.le_of_not_lt (fun hl => by rw [Nat.testBit_lt_two_pow hl] at hb'; cases hb')
              omega
            | false => exact ih2.2.2 h' (wo h' hs' hb') hi'
