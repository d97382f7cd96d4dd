/-! ===== the class: the greedy schedule is the greedy set ===== -/
/-- the first of the heaviest that are still there -/
def gbst (W : Nat → Nat) (ok : Nat → Bool) : Nat → Option Nat
  | 0 => none
  | n + 1 => if ok n = true then (match gbst W ok n with
    | none => some n
    | some b => if W b < W n then some n else some b) else gbst W ok n
theorem gbst_none {W : Nat → Nat} {ok : Nat → Bool} : ∀ n, gbst W ok n = none → ∀ k, k < n → ok k = false
  | 0, _, k, hk => absurd hk (Nat.not_lt_zero _)
  | n + 1, h, k, hk => by
    have h' : (if ok n = true then (match gbst W ok n with
    | none => some n
    | some b => if W b < W n then some n else some b) else gbst W ok n) = none := h
    by_cases hn : ok n = true
    · rw [if_pos hn] at h'
      cases hg : gbst W ok n with
      | none => rw [hg] at h'; cases h'
      | some b =>
        rw [hg] at h'
        have h2 : (if W b < W n then some n else some b) = none := h'
        by_cases hw : W b < W n
        · rw [if_pos hw] at h2; cases h2
        · rw [if_neg hw] at h2; cases h2
    · rw [if_neg hn] at h'
      by_cases e : k = n
      · subst e
        cases hk2 : ok k with
        | false => rfl
        | true => exact absurd hk2 hn
      · exact gbst_none n h' k (by omega)
theorem gbst_some {W : Nat → Nat} {ok : Nat → Bool} : ∀ n b, gbst W ok n = some b → b < n ∧ ok b = true ∧ ∀ k, k < n → ok k = true → k ≠ b → ahd W b k
  | 0, b, h => by cases h
  | n + 1, b, h => by
    have h' : (if ok n = true then (match gbst W ok n with
    | none => some n
    | some b => if W b < W n then some n else some b) else gbst W ok n) = some b := h
    by_cases hn : ok n = true
    · rw [if_pos hn] at h'
      cases hg : gbst W ok n with
      | none =>
        rw [hg] at h'
        have h2 : some n = some b := h'
        cases h2
        refine ⟨Nat.lt_succ_self _, hn, fun k hk hok hkb => ?_⟩
        have := gbst_none n hg k (by omega)
        rw [this] at hok; cases hok
      | some c =>
        rw [hg] at h'
        obtain ⟨c1, c2, c3⟩ := gbst_some n c hg
        have h2 : (if W c < W n then some n else some c) = some b := h'
        by_cases hw : W c < W n
        · rw [if_pos hw] at h2
          cases h2
          refine ⟨Nat.lt_succ_self _, hn, fun k hk hok hkb => ?_⟩
          by_cases e : k = c
          · rw [e]; exact Or.inl hw
          · rcases c3 k (by omega) hok e with h | h
            · exact Or.inl (by omega)
            · exact Or.inl (by omega)
        · rw [if_neg hw] at h2
          cases h2
          refine ⟨by omega, c2, fun k hk hok hkb => ?_⟩
          by_cases e : k = n
          · rw [e]
            rcases Nat.lt_or_ge (W n) (W b) with h | h
            · exact Or.inl h
            · exact Or.inr ⟨by omega, c1⟩
          · exact c3 k (by omega) hok hkb
    · rw [if_neg hn] at h'
      obtain ⟨c1, c2, c3⟩ := gbst_some n b h'
      refine ⟨by omega, c2, fun k hk hok hkb => ?_⟩
      by_cases e : k = n
      · rw [e] at hok; exact absurd hok hn
      · exact c3 k (by omega) hok hkb
theorem ahd_asym {W : Nat → Nat} {j k : Nat} (h : ahd W j k) : ¬ ahd W k j := fun h2 => by
  rcases h with h | h <;> rcases h2 with h2 | h2 <;> omega
theorem ahd_irr {W : Nat → Nat} {j : Nat} : ¬ ahd W j j := fun h => by
  rcases h with h | h <;> omega
theorem ahd_tr {W : Nat → Nat} {i j k : Nat} (h : ahd W i j) (h2 : ahd W j k) : ahd W i k := by
  rcases h with h | h <;> rcases h2 with h2 | h2
  · exact Or.inl (by omega)
  · exact Or.inl (by omega)
  · exact Or.inl (by omega)
  · exact Or.inr ⟨by omega, by omega⟩
theorem tb_or2 (G b k : Nat) : (G ||| 2 ^ b).testBit k = (G.testBit k || decide (b = k)) := by
  rw [Nat.testBit_or, Nat.testBit_two_pow]
/-- what the greedy loops keep -/
def gInv (W C : Nat → Nat) (s G L : Nat) : Prop := (∀ k, G.testBit k = true → s.testBit k = true) ∧ (∀ k, L.testBit k = true → s.testBit k = true ∧ G.testBit k = false ∧ ∀ j, G.testBit j = true → (C k).testBit j = false ∧ ahd W j k) ∧
  (∀ k, s.testBit k = true → L.testBit k = false → G.testBit k = false → ∃ j, G.testBit j = true ∧ ahd W j k ∧ (C k).testBit j = true) ∧ ∀ j k, G.testBit j = true → G.testBit k = true → j ≠ k → (C k).testBit j = false
theorem gInv_0 (W C : Nat → Nat) (s : Nat) : gInv W C s 0 s := by
  have z : ∀ k, (0 : Nat).testBit k = true → False := fun k h => by rw [Nat.zero_testBit] at h; cases h
  refine ⟨fun k h => (z k h).elim, fun k h => ⟨h, Nat.zero_testBit k, fun j hj => (z j hj).elim⟩, fun k h h2 _ => ?_, fun j k hj => (z j hj).elim⟩
  rw [h] at h2; cases h2
theorem gInv_s {W C : Nat → Nat} {s G L b : Nat} (h : gInv W C s G L) (hC : ∀ i j, s.testBit i = true → s.testBit j = true → (C i).testBit j = (C j).testBit i) (hb : L.testBit b = true) (hbest : ∀ k, L.testBit k = true → k ≠ b → ahd W b k) : gInv W C s (G ||| 2 ^ b) (andn L (2 ^ b ||| C b)) := by
  obtain ⟨h1, h2, h3, h4⟩ := h
  obtain ⟨b1, b2, b3⟩ := h2 b hb
  have hG : ∀ k, (G ||| 2 ^ b).testBit k = true → G.testBit k = true ∨ k = b := fun k hk => by
    rw [tb_or2, Bool.or_eq_true, decide_eq_true_eq] at hk
    rcases hk with hk | hk
    · exact Or.inl hk
    · exact Or.inr hk.symm
  have hL : ∀ k, (andn L (2 ^ b ||| C b)).testBit k = true → L.testBit k = true ∧ k ≠ b ∧ (C b).testBit k = false := fun k hk => by
    rw [andn_tb, Nat.testBit_or, Nat.testBit_two_pow] at hk
    cases hl : L.testBit k <;> cases hc : (C b).testBit k <;> rw [hl, hc] at hk
    · cases hk
    · cases hk
    · refine ⟨rfl, fun e => ?_, rfl⟩
      rw [e, decide_eq_true rfl] at hk; cases hk
    · rw [Bool.or_true] at hk; cases hk
  refine ⟨fun k hk => ?_, fun k hk => ?_, fun k hs hl hg => ?_, fun j k hj hk hjk => ?_⟩
  · rcases hG k hk with h | h
    · exact h1 k h
    · rw [h]; exact b1
  · obtain ⟨k1, k2, k3⟩ := hL k hk
    obtain ⟨k4, k5, k6⟩ := h2 k k1
    refine ⟨k4, ?_, fun j hj => ?_⟩
    · rw [tb_or2, k5, decide_eq_false (fun e => k2 e.symm)]; rfl
    · rcases hG j hj with h | h
      · exact k6 j h
      · rw [h]
        exact ⟨by rw [hC k b k4 b1]; exact k3, hbest k k1 k2⟩
  · rw [tb_or2] at hg
    have hg1 : G.testBit k = false := by cases h : G.testBit k <;> rw [h] at hg <;> first | rfl | cases hg
    have hg2 : k ≠ b := fun e => by rw [e, decide_eq_true rfl, Bool.or_true] at hg; cases hg
    cases hlk : L.testBit k with
    | false =>
      obtain ⟨j, j1, j2, j3⟩ := h3 k hs hlk hg1
      exact ⟨j, by rw [tb_or2, j1]; rfl, j2, j3⟩
    | true =>
      refine ⟨b, by rw [tb_or2, decide_eq_true rfl, Bool.or_true], hbest k hlk hg2, ?_⟩
      rw [andn_tb, hlk, Nat.testBit_or, Nat.testBit_two_pow, decide_eq_false (fun e => hg2 e.symm), Bool.false_or, Bool.true_and] at hl
      rw [hC k b hs b1]
      cases hc : (C b).testBit k with
      | true => rfl
      | false => rw [hc] at hl; cases hl
  · rcases hG j hj with h | h <;> rcases hG k hk with h' | h'
    · exact h4 j k h h' hjk
    · rw [h']; exact (b3 j h).1
    · rw [h, hC k b (h1 k h') b1]; exact (b3 k h').1
    · exact absurd (h.trans h'.symm) hjk
theorem gInv_grd {W C : Nat → Nat} {s G L : Nat} (h : gInv W C s G L) (hL : L = 0) : grd W C s G := by
  obtain ⟨h1, h2, h3, h4⟩ := h
  intro k
  refine ⟨fun hk => ⟨h1 k hk, fun j hj ha => h4 j k hj hk (fun e => ahd_irr (e ▸ ha))⟩, fun hk => ?_⟩
  cases hg : G.testBit k with
  | true => rfl
  | false =>
    obtain ⟨j, j1, j2, j3⟩ := h3 k hk.1 (by rw [hL]; exact Nat.zero_testBit k) hg
    rw [hk.2 j j1 j2] at j3; cases j3
theorem wsum_mono (W : Nat → Nat) {a b : Nat} (h : ∀ j, a.testBit j = true → b.testBit j = true) : ∀ n, wsum W a n ≤ wsum W b n
  | 0 => Nat.le_refl _
  | n + 1 => by
    have ih := wsum_mono W h n
    show wsum W a n + (if a.testBit n = true then W n else 0) ≤ wsum W b n + (if b.testBit n = true then W n else 0)
    by_cases ha : a.testBit n = true
    · rw [if_pos ha, if_pos (h n ha)]; omega
    · rw [if_neg ha]; omega
theorem wsum_bit {W : Nat → Nat} {a j : Nat} (h : a.testBit j = true) : ∀ n, j < n → W j ≤ wsum W a n
  | 0, hj => absurd hj (Nat.not_lt_zero _)
  | n + 1, hj => by
    show W j ≤ wsum W a n + (if a.testBit n = true then W n else 0)
    by_cases e : j = n
    · subst e; rw [if_pos h]; omega
    · have := wsum_bit (W := W) h n (by omega)
      omega
theorem opt_z (z : Option Nat) (h : ∀ y, z = some y → y < 2 ^ 31) : (gc_eq (lsI z) mI = true) = (z = none) := by
  cases z with
  | none => exact (ceqmm).trans (eq_true rfl).symm
  | some y =>
    have := ceqm (h y rfl)
    exact this.trans (eq_false (fun e => by cases e)).symm
