/-! ===== the exact schedule of the reference: what a search leaves ===== -/
def tot (W : Nat → Nat) : Nat → Nat
  | 0 => 0
  | t + 1 => tot W t + W t
/-- x may be added to the chosen links of number t and above -/
def ext (W C : Nat → Nat) (t ch x : Nat) : Prop := x < 2 ^ t ∧ ∀ j, x.testBit j = true → 0 < W j ∧ (∀ i, ch.testBit i = true → (C j).testBit i = false) ∧ ∀ i, x.testBit i = true → i ≠ j → (C j).testBit i = false
theorem wsum_zero (W : Nat → Nat) : ∀ n, wsum W 0 n = 0
  | 0 => rfl
  | n + 1 => by
    show wsum W 0 n + (if (0 : Nat).testBit n = true then W n else 0) = 0
    rw [wsum_zero W n, Nat.zero_testBit, if_neg (by decide)]
theorem wsum_tot (W : Nat → Nat) (x : Nat) : ∀ n, wsum W x n ≤ tot W n
  | 0 => Nat.le_refl _
  | n + 1 => by
    show wsum W x n + (if x.testBit n = true then W n else 0) ≤ tot W n + W n
    have := wsum_tot W x n
    by_cases h : x.testBit n = true
    · rw [if_pos h]; omega
    · rw [if_neg h]; omega
theorem wsum_cut (W : Nat → Nat) {x t : Nat} (hx : x < 2 ^ t) : ∀ n, t ≤ n → wsum W x n = wsum W x t
  | 0, h => by
    have : t = 0 := by omega
    rw [this]
  | n + 1, h => by
    by_cases e : t = n + 1
    · rw [e]
    · show wsum W x n + (if x.testBit n = true then W n else 0) = _
      rw [Nat.testBit_lt_two_pow (Nat.lt_of_lt_of_le hx (Nat.pow_le_pow_right (by decide) (show t ≤ n by omega))), if_neg (by decide), Nat.add_zero]
      exact wsum_cut W hx n (by omega)
theorem ext_w {W C : Nat → Nat} {t ch x : Nat} (h : ext W C t ch x) (ht : t ≤ 14) : wsum W x 14 ≤ tot W t := by
  rw [wsum_cut W h.1 14 ht]; exact wsum_tot W x t
theorem ext_lo {W C : Nat → Nat} {t ch x : Nat} (h : ext W C (t + 1) ch x) (hb : x.testBit t = false) : ext W C t ch x := ⟨lt_nobit h.1 hb, h.2⟩
theorem ext_mlo {W C : Nat → Nat} {t ch x : Nat} (h : ext W C t ch x) : ext W C (t + 1) ch x := ⟨Nat.lt_of_lt_of_le h.1 (Nat.pow_le_pow_right (by decide) (by omega)), h.2⟩
theorem tb_or (a b k : Nat) : (a ||| b).testBit k = true ↔ a.testBit k = true ∨ b.testBit k = true := by
  rw [Nat.testBit_or, Bool.or_eq_true]
theorem tb_pow (t k : Nat) : (2 ^ t).testBit k = true ↔ t = k := by
  rw [Nat.testBit_two_pow, decide_eq_true_eq]
theorem ext_hi {W C : Nat → Nat} {t ch x : Nat} (h : ext W C (t + 1) ch x) (hb : x.testBit t = true) : ext W C t (ch ||| 2 ^ t) (andn x (2 ^ t)) ∧ 0 < W t ∧ C t &&& ch = 0 := by
  have hs : ∀ j, (andn x (2 ^ t)).testBit j = true → x.testBit j = true ∧ j ≠ t := fun j hj => by
    refine ⟨andn_sub hj, fun e => ?_⟩
    rw [e, andn_not] at hj; cases hj
  refine ⟨⟨lt_nobit (andn_lt h.1) (andn_not x t), fun j hj => ?_⟩, (h.2 t hb).1, and_zero.mpr (fun i hi => (h.2 t hb).2.1 i hi)⟩
  obtain ⟨j1, j2⟩ := hs j hj
  obtain ⟨e1, e2, e3⟩ := h.2 j j1
  refine ⟨e1, fun i hi => ?_, fun i hi hij => e3 i (hs i hi).1 hij⟩
  rcases (tb_or _ _ _).mp hi with hi | hi
  · exact e2 i hi
  · have := (tb_pow t i).mp hi
    exact e3 i (this ▸ hb) (by omega)
theorem ext_mhi {W C : Nat → Nat} {n t ch x : Nat} (hC : ∀ i j, i < n → j < n → (C i).testBit j = (C j).testBit i) (ht : t < n) (h : ext W C t (ch ||| 2 ^ t) x) (h1 : 0 < W t) (h2 : C t &&& ch = 0) : ext W C (t + 1) ch (2 ^ t ||| x) := by
  have hlt : ∀ j, x.testBit j = true → j < t := fun j hj => by
    rcases Nat.lt_or_ge j t with h' | h'
    · exact h'
    · rw [Nat.testBit_lt_two_pow (Nat.lt_of_lt_of_le h.1 (Nat.pow_le_pow_right (by decide) h'))] at hj; cases hj
  have p2 : 2 ^ (t + 1) = 2 * 2 ^ t := by rw [Nat.pow_succ]; omega
  refine ⟨by rw [or_add h.1]; have := h.1; omega, fun j hj => ?_⟩
  rcases (tb_or _ _ _).mp hj with hj | hj
  · have e := (tb_pow t j).mp hj
    subst e
    refine ⟨h1, fun i hi => and_zero.mp h2 i hi, fun i hi hij => ?_⟩
    rcases (tb_or _ _ _).mp hi with hi | hi
    · exact absurd ((tb_pow t i).mp hi).symm hij
    · rw [hC t i ht (by have := hlt i hi; omega)]
      exact (h.2 i hi).2.1 t ((tb_or _ _ _).mpr (Or.inr ((tb_pow t t).mpr rfl)))
  · obtain ⟨e1, e2, e3⟩ := h.2 j hj
    refine ⟨e1, fun i hi => e2 i ((tb_or _ _ _).mpr (Or.inl hi)), fun i hi hij => ?_⟩
    rcases (tb_or _ _ _).mp hi with hi | hi
    · exact e2 i ((tb_or _ _ _).mpr (Or.inr hi))
    · exact e3 i hi hij
theorem ext_alone {W C : Nat → Nat} {n t ch x : Nat} (hC : ∀ i j, i < n → j < n → (C i).testBit j = (C j).testBit i) (ht : t < n) (hr : rvl (C t) W n = false) (h : ext W C t ch x) : ext W C t (ch ||| 2 ^ t) x := by
  have hlt : ∀ j, x.testBit j = true → j < t := fun j hj => by
    rcases Nat.lt_or_ge j t with h' | h'
    · exact h'
    · rw [Nat.testBit_lt_two_pow (Nat.lt_of_lt_of_le h.1 (Nat.pow_le_pow_right (by decide) h'))] at hj; cases hj
  refine ⟨h.1, fun j hj => ?_⟩
  obtain ⟨e1, e2, e3⟩ := h.2 j hj
  refine ⟨e1, fun i hi => ?_, e3⟩
  rcases (tb_or _ _ _).mp hi with hi | hi
  · exact e2 i hi
  · have e := (tb_pow t i).mp hi
    subst e
    have hjn : j < n := by have := hlt j hj; omega
    rw [hC j t hjn ht]
    cases hb : (C t).testBit j with
    | false => rfl
    | true =>
      unfold rvl at hr
      rw [List.any_eq_false] at hr
      have := hr j (List.mem_range.mpr hjn)
      rw [hb, decide_eq_true e1] at this
      exact absurd rfl this
def sQ (W C : Nat → Nat) (t ch sm b : Nat) (v : Option Nat) (b' : Nat) (v' : Option Nat) : Prop :=
  ((b' = b ∧ v' = v) ∨ ∃ x, ext W C t ch x ∧ b' = ch ||| x ∧ v' = some (sm + wsum W x 14) ∧ ∀ y, v = some y → y < sm + wsum W x 14) ∧
  ∀ x, ext W C t ch x → ∃ y', v' = some y' ∧ sm + wsum W x 14 ≤ y' ∧ (sm + wsum W x 14 = y' → (b' = b ∧ v' = v) ∨ b' ≤ ch ||| x)
theorem w_hi (W : Nat → Nat) {x t : Nat} (hb : x.testBit t = false) (ht : t < 14) : wsum W (2 ^ t ||| x) 14 = wsum W x 14 + W t := by
  rw [wsum_or W hb 14, if_pos ht]
theorem nb {x t : Nat} (h : x < 2 ^ t) : x.testBit t = false := Nat.testBit_lt_two_pow h
theorem or_mul {t c x : Nat} (h : x < 2 ^ t) : 2 ^ t * c ||| x = 2 ^ t * c + x := (Nat.two_pow_add_eq_or_of_lt h c).symm
theorem or_top (t c : Nat) : 2 ^ (t + 1) * c ||| 2 ^ t = 2 ^ t * (2 * c + 1) := by
  rw [or_mul (pow_lt (Nat.lt_succ_self t)), Nat.mul_add, Nat.mul_one, Nat.pow_succ, Nat.mul_assoc]
theorem num_le {t c x y : Nat} (hx : x < 2 ^ t) (hy : y < 2 ^ t) : 2 ^ (t + 1) * c ||| x ≤ 2 ^ (t + 1) * c ||| 2 ^ t ||| y := by
  have h2 : 2 ^ t < 2 ^ (t + 1) := pow_lt (Nat.lt_succ_self t)
  rw [or_top, or_mul hy, or_mul (show x < 2 ^ (t + 1) by omega), Nat.mul_add, Nat.mul_one, Nat.pow_succ, Nat.mul_assoc]
  omega
theorem sQ_not {W C : Nat → Nat} {t ch sm b b' : Nat} {v v' : Option Nat} (H : sQ W C t ch sm b v b' v') (hf : ¬ (0 < W t ∧ C t &&& ch = 0)) : sQ W C (t + 1) ch sm b v b' v' := by
  refine ⟨?_, fun x hx => ?_⟩
  · rcases H.1 with h | ⟨x, h1, h2⟩
    · exact Or.inl h
    · exact Or.inr ⟨x, ext_mlo h1, h2⟩
  · cases hb : x.testBit t with
    | false => exact H.2 x (ext_lo hx hb)
    | true => exact absurd (ext_hi hx hb).2 hf
theorem sQ_hi {W C : Nat → Nat} {n t c sm b b1 b' : Nat} {v v1 v' : Option Nat} (hC : ∀ i j, i < n → j < n → (C i).testBit j = (C j).testBit i) (ht : t < n) (hn : n ≤ 14) (h1 : 0 < W t) (h2 : C t &&& (2 ^ (t + 1) * c) = 0)
    (H2 : sQ W C t (2 ^ (t + 1) * c ||| 2 ^ t) (sm + W t) b1 v1 b' v') : (b' = b1 ∧ v' = v1 ∨ ∃ x, ext W C (t + 1) (2 ^ (t + 1) * c) x ∧ b' = 2 ^ (t + 1) * c ||| x ∧ v' = some (sm + wsum W x 14) ∧ ∀ y, v1 = some y → y < sm + wsum W x 14) ∧
      ∀ x, ext W C (t + 1) (2 ^ (t + 1) * c) x → x.testBit t = true → ∃ y', v' = some y' ∧ sm + wsum W x 14 ≤ y' ∧ (sm + wsum W x 14 = y' → (b' = b1 ∧ v' = v1) ∨ b' ≤ 2 ^ (t + 1) * c ||| x) := by
  refine ⟨?_, fun x hx hb => ?_⟩
  · rcases H2.1 with h | ⟨x, e1, e2, e3, e4⟩
    · exact Or.inl h
    · have hw := w_hi W (nb e1.1) (show t < 14 by omega)
      refine Or.inr ⟨2 ^ t ||| x, ext_mhi hC ht e1 h1 h2, by rw [e2, Nat.or_assoc], by rw [e3, hw]; congr 1; omega, fun y hy => ?_⟩
      have := e4 y hy
      rw [hw]; omega
  · obtain ⟨e1, -⟩ := ext_hi hx hb
    obtain ⟨y', f1, f2, f3⟩ := H2.2 _ e1
    have hw := w_hi W (nb e1.1) (show t < 14 by omega)
    rw [← split_t hb] at hw
    refine ⟨y', f1, by omega, fun e => ?_⟩
    rcases f3 (by omega) with h | h
    · exact Or.inl h
    · refine Or.inr ?_
      rw [Nat.or_assoc, ← split_t hb] at h
      exact h
theorem sQ_alone {W C : Nat → Nat} {n t c sm b b' : Nat} {v v' : Option Nat} (hC : ∀ i j, i < n → j < n → (C i).testBit j = (C j).testBit i) (ht : t < n) (hn : n ≤ 14) (h1 : 0 < W t) (h2 : C t &&& (2 ^ (t + 1) * c) = 0) (hr : rvl (C t) W n = false)
    (H2 : sQ W C t (2 ^ (t + 1) * c ||| 2 ^ t) (sm + W t) b v b' v') : sQ W C (t + 1) (2 ^ (t + 1) * c) sm b v b' v' := by
  obtain ⟨g1, g2⟩ := sQ_hi hC ht hn h1 h2 (b := b) (v := v) H2
  refine ⟨g1, fun x hx => ?_⟩
  cases hb : x.testBit t with
  | true => exact g2 x hx hb
  | false =>
    obtain ⟨y', f1, f2, -⟩ := H2.2 x (ext_alone hC ht hr (ext_lo hx hb))
    exact ⟨y', f1, by omega, fun e => by omega⟩
theorem sQ_both {W C : Nat → Nat} {n t c sm b b1 b' : Nat} {v v1 v' : Option Nat} (hC : ∀ i j, i < n → j < n → (C i).testBit j = (C j).testBit i) (ht : t < n) (hn : n ≤ 14) (h1 : 0 < W t) (h2 : C t &&& (2 ^ (t + 1) * c) = 0)
    (H1 : sQ W C t (2 ^ (t + 1) * c) sm b v b1 v1) (H2 : sQ W C t (2 ^ (t + 1) * c ||| 2 ^ t) (sm + W t) b1 v1 b' v') : sQ W C (t + 1) (2 ^ (t + 1) * c) sm b v b' v' := by
  obtain ⟨g1, g2⟩ := sQ_hi hC ht hn h1 h2 (b := b) (v := v) H2
  refine ⟨?_, fun x hx => ?_⟩
  · rcases g1 with ⟨e1, e2⟩ | ⟨x, e1, e2, e3, e4⟩
    · rw [e1, e2]
      rcases H1.1 with h | ⟨x, h1, h2⟩
      · exact Or.inl h
      · exact Or.inr ⟨x, ext_mlo h1, h2⟩
    · refine Or.inr ⟨x, e1, e2, e3, fun y hy => ?_⟩
      rcases H1.1 with ⟨-, h⟩ | ⟨x1, -, -, h, h'⟩
      · exact e4 y (h.trans hy)
      · have f1 := e4 _ h
        have f2 := h' y hy
        omega
  · cases hb : x.testBit t with
    | true =>
      obtain ⟨y', f1, f2, f3⟩ := g2 x hx hb
      refine ⟨y', f1, f2, fun e => ?_⟩
      rcases f3 e with ⟨h, h'⟩ | h
      · rw [h, h']
        rcases H1.1 with h3 | ⟨x1, h3, h4, -⟩
        · exact Or.inl h3
        · refine Or.inr ?_
          rw [h4]
          obtain ⟨e1, -⟩ := ext_hi hx hb
          have := num_le (c := c) h3.1 e1.1
          rw [Nat.or_assoc, ← split_t hb] at this
          exact this
      · exact Or.inr h
    | false =>
      obtain ⟨y1, f1, f2, f3⟩ := H1.2 x (ext_lo hx hb)
      rcases H2.1 with ⟨e1, e2⟩ | ⟨x0, -, -, e3, e4⟩
      · refine ⟨y1, by rw [e2, f1], f2, fun e => ?_⟩
        rw [e1, e2]; exact f3 e
      · have := e4 y1 f1
        exact ⟨_, e3, by omega, fun e => by omega⟩
