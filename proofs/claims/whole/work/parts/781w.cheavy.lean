/-! ===== the class: the heaviest set ===== -/
def wsum (W : Nat → Nat) (s : Nat) : Nat → Nat
  | 0 => 0
  | k + 1 => wsum W s k + (if s.testBit k = true then W k else 0)
theorem pX3_sumOfWeights {N s : Nat} {I : gM} {W : Nat → Nat} (hs : s < 2 ^ 31) (hW : ∀ k, k < 14 → s.testBit k = true → I 0 k = nI (W k)) (hN : 1000 ≤ N) : fX3_sumOfWeights N [.int (nI s), .ref 0] I = some (.inl (some (.int (nI (wsum W s 14)))), I) := by
  have l0 : (0 : Int32) = nI 0 := rfl
  have l1 : (1 : Int32) = nI 1 := rfl
  have l14 : (14 : Int32) = nI 14 := rfl
  have key : ∀ m i : Nat, i ≤ 14 → 14 - i < m → hX3_sumOfWeights_4 N m (nI s) (nI (wsum W s i)) (nI i) I = some (.inl (some (.int (nI (wsum W s 14)))), I) := by
    intro m
    induction m with
    | zero => intro i _ h; omega
    | succ m ih =>
      intro i hi hm
      rw [eX3_sumOfWeights_4, l14, l1]
      by_cases hin : i = 14
      · subst hin
        rw [if_pos ((cge (by omega) (by omega)).mpr (Nat.le_refl _))]
      · have ebt : gb_and (gb_shr (nI s) (nI i)) (nI 1) = nI (bt s i) := btI (by omega) hs
        have hbl := bt_lt s i
        have e25 : ∀ x, hX3_sumOfWeights_25 N m (nI s) x (nI i) I = hX3_sumOfWeights_4 N m (nI s) x (nI (i + 1)) I := fun x => by
          rw [eX3_sumOfWeights_25, l1, nI_add]
        rw [if_neg (fun z => hin (by have := (cge (by omega) (by omega)).mp z; omega)), ebt]
        by_cases hb : s.testBit i = true
        · rw [(bt_one s i).mpr hb, if_neg (by rw [cne (by decide) (by decide)]; exact fun z => z rfl), ckI (by omega) (by decide), nI_clamp (n := i) (by omega), hW i (by omega) hb, e25]
          have e : gb_add (nI (wsum W s i)) (nI (W i)) = nI (wsum W s (i + 1)) := by
            show nI _ + nI _ = nI (wsum W s i + (if s.testBit i = true then W i else 0))
            rw [if_pos hb, nI_add]
          rw [e]
          exact ih (i + 1) (by omega) (by omega)
        · have hb0 : bt s i = 0 := by
            have : ¬ bt s i = 1 := fun z => hb ((bt_one s i).mp z)
            omega
          rw [hb0, if_pos (by rw [cne (by decide) (by decide)]; decide), e25]
          have e : wsum W s (i + 1) = wsum W s i := by
            show wsum W s i + (if s.testBit i = true then W i else 0) = _
            rw [if_neg hb]; rfl
          have := ih (i + 1) (by omega) (by omega)
          rw [e] at this
          exact this
  rw [eX3_sumOfWeights, eX3_sumOfWeights_0, l0]
  exact key N 0 (by decide) (by omega)
/-- the heaviest set without conflicts among the first t links of s; of several the lowest number -/
def hvy (W C : Nat → Nat) : Nat → Nat → Nat
  | 0, _ => 0
  | t + 1, s => if s = 0 then 0 else if andn s (2 ^ t) = s then hvy W C t s else if andn (andn s (2 ^ t)) (C t) = andn s (2 ^ t) then 2 ^ t ||| hvy W C t (andn (andn s (2 ^ t)) (C t)) else if wsum W (hvy W C t (andn s (2 ^ t))) 14 < wsum W (2 ^ t ||| hvy W C t (andn (andn s (2 ^ t)) (C t))) 14 then 2 ^ t ||| hvy W C t (andn (andn s (2 ^ t)) (C t)) else hvy W C t (andn s (2 ^ t))
theorem andn_sub {a b j : Nat} (h : (andn a b).testBit j = true) : a.testBit j = true := by
  rw [andn_tb, Bool.and_eq_true] at h; exact h.1
theorem andn_two {s t : Nat} (h : ¬ andn s (2 ^ t) = s) : s.testBit t = true := by
  cases hb : s.testBit t with
  | true => rfl
  | false =>
    exfalso
    refine h (Nat.eq_of_testBit_eq (fun j => ?_))
    rw [andn_tb, Nat.testBit_two_pow]
    by_cases e : t = j
    · rw [← e, hb]; rfl
    · rw [decide_eq_false e]; cases s.testBit j <;> rfl
theorem hvy_sub (W C : Nat → Nat) : ∀ t s j, (hvy W C t s).testBit j = true → s.testBit j = true
  | 0, s, j, h => by
    unfold hvy at h
    rw [Nat.zero_testBit] at h; cases h
  | t + 1, s, j, h => by
    have hwi : ∀ a, ¬ andn s (2 ^ t) = s → (∀ j, (a : Nat).testBit j = true → s.testBit j = true) → (2 ^ t ||| a).testBit j = true → s.testBit j = true := fun a hne ha h => by
      rw [Nat.testBit_or, Bool.or_eq_true, Nat.testBit_two_pow, decide_eq_true_eq] at h
      rcases h with e | e
      · rw [← e]; exact andn_two hne
      · exact ha j e
    unfold hvy at h
    split at h
    · rw [Nat.zero_testBit] at h; cases h
    · split at h
      · exact hvy_sub W C t s j h
      · rename_i hne
        have h1 : ∀ j, (hvy W C t (andn (andn s (2 ^ t)) (C t))).testBit j = true → s.testBit j = true := fun j hj => andn_sub (andn_sub (hvy_sub W C t _ j hj))
        split at h
        · exact hwi _ hne h1 h
        · split at h
          · exact hwi _ hne h1 h
          · exact andn_sub (hvy_sub W C t _ j h)
theorem lt_of_sub {a s n : Nat} (hs : s < 2 ^ n) (h : ∀ j, a.testBit j = true → s.testBit j = true) : a < 2 ^ n := by
  apply Nat.lt_pow_two_of_testBit
  intro j hj
  cases hb : a.testBit j with
  | false => rfl
  | true =>
    have h1 := h j hb
    rw [Nat.testBit_lt_two_pow (Nat.lt_of_lt_of_le hs (Nat.pow_le_pow_right (by decide) hj))] at h1
    cases h1
def topI : Nat → Int32
  | 0 => mI
  | t + 1 => nI t
theorem topI_sub (t : Nat) : gb_sub (nI t) (nI 1) = topI t := by
  cases t with
  | zero => decide
  | succ t => exact pk_sub (by omega)
theorem s_sumW {N s : Nat} {I : gM} {W : Nat → Nat} {K : Int32 → gM → gO} (hs : s < 2 ^ 31) (hW : ∀ k, k < 14 → s.testBit k = true → I 0 k = nI (W k)) (hN : 1000 ≤ N) : hI (fX3_sumOfWeights N [.int (nI s), .ref 0] (gS [0] I)) [0] I K = K (nI (wsum W s 14)) I := by
  have e : ([0] : List Nat) = rg 0 1 := rfl
  rw [e, pX3_sumOfWeights (W := W) hs (fun k hk hb => by rw [gS_rg (by decide) (by decide)]; exact hW k hk hb) hN, hI_mk, gMg_same I (by decide)]
theorem pX3_heaviest {N : Nat} {W C : Nat → Nat} (hN : 1000 ≤ N) (hB : ∀ s, s < 2 ^ 14 → wsum W s 14 < 2 ^ 31) : ∀ (t d s : Nat) (I : gM), t ≤ 14 → t < d → s < 2 ^ 14 → (∀ k, k < 14 → s.testBit k = true → I 0 k = nI (W k) ∧ I 1 k = nI (C k)) → fX3_heaviest N d [.int (nI s), .int (topI t), .ref 0, .ref 1] I = some (.inl (some (.int (nI (hvy W C t s)))), I) := by
  have l0 : (0 : Int32) = nI 0 := rfl
  have l1 : (1 : Int32) = nI 1 := rfl
  have l14 : (14 : Int32) = nI 14 := rfl
  have lm : (-1 : Int32) = mI := rfl
  intro t
  induction t with
  | zero =>
    intro d s I _ hd hs hm
    obtain ⟨d, rfl⟩ : ∃ k, d = k + 1 := ⟨d - 1, by omega⟩
    show fX3_heaviest N (d + 1) [.int (nI s), .int mI, .ref 0, .ref 1] I = _
    rw [eX3_heaviest, eX3_heaviest_0]
    by_cases hs0 : s = 0
    · rw [if_pos (by rw [zeq (by omega)]; exact hs0)]; rfl
    · rw [if_neg (by rw [zeq (by omega)]; exact hs0), if_pos (by decide)]; rfl
  | succ t ih =>
    intro d s I ht hd hs hm
    obtain ⟨d, rfl⟩ : ∃ k, d = k + 1 := ⟨d - 1, by omega⟩
    show fX3_heaviest N (d + 1) [.int (nI s), .int (nI t), .ref 0, .ref 1] I = _
    have hself : gMg (rg 0 2) I (gS (rg 0 2) I) = I := gMg_same I (by decide)
    have g2 : ∀ k, k < 2 → gS (rg 0 2) I k = I k := fun k hk => by rw [gS_rg hk (by decide), Nat.zero_add]
    -- a call on a smaller set
    have call : ∀ (s' : Nat) (K : Int32 → gM → gO), (∀ j, s'.testBit j = true → s.testBit j = true) → hI (fX3_heaviest N d [.int (nI s'), .int (topI t), .ref 0, .ref 1] (gS (rg 0 2) I)) (rg 0 2) I K = K (nI (hvy W C t s')) I := fun s' K h' => by
      have e0 := g2 0 (by decide)
      have e1 := g2 1 (by decide)
      rw [ih d s' (gS (rg 0 2) I) (by omega) (by omega) (lt_of_sub hs h') (fun k hk hb => by rw [e0, e1]; exact hm k hk (h' k hb)), hI_mk, hself]
    have eA : gb_and (nI s) (gb_xor (gb_shl (nI 1) (nI t)) mI) = nI (andn s (2 ^ t)) := by
      rw [shl1 (by omega)]; exact andnI _ _
    have hAs : andn s (2 ^ t) < 2 ^ 14 := andn_lt hs
    rw [eX3_heaviest, eX3_heaviest_0, lm, l0, l1, l14, topI_sub, eA]
    unfold hvy
    by_cases hs0 : s = 0
    · rw [if_pos (by rw [zeq (by omega)]; exact hs0), if_pos hs0]
    · rw [if_neg (by rw [zeq (by omega)]; exact hs0), if_neg hs0, if_neg (by rw [zlt (by omega)]; exact id), if_pos ((clt (by omega) (by omega)).mpr (by omega))]
      by_cases hA : andn s (2 ^ t) = s
      · rw [if_neg (by rw [cne (by omega) (by omega)]; exact fun z => z hA), if_pos hA, hA, call s _ (fun _ h => h)]
      · have hbt := andn_two hA
        have hC := (hm t (by omega) hbt).2
        have eB : gb_and (nI (andn s (2 ^ t))) (gb_xor (nI (C t)) mI) = nI (andn (andn s (2 ^ t)) (C t)) := andnI _ _
        have hBs : andn (andn s (2 ^ t)) (C t) < 2 ^ 14 := andn_lt hAs
        rw [if_pos (by rw [cne (by omega) (by omega)]; exact hA), if_neg hA, ckI (by omega) (by decide), nI_clamp (n := t) (by omega), hC, eB, call _ _ (fun j h => andn_sub (andn_sub h))]
        have eo : gb_or (gb_shl (nI 1) (nI t)) (nI (hvy W C t (andn (andn s (2 ^ t)) (C t)))) = nI (2 ^ t ||| hvy W C t (andn (andn s (2 ^ t)) (C t))) := by
          rw [shl1 (by omega)]; exact nI_or _ _
        rw [eo]
        by_cases hD : andn (andn s (2 ^ t)) (C t) = andn s (2 ^ t)
        · rw [if_neg (by rw [cne (by omega) (by omega)]; exact fun z => z hD), if_pos hD]
        · have w1 : ∀ j, (2 ^ t ||| hvy W C t (andn (andn s (2 ^ t)) (C t))).testBit j = true → s.testBit j = true := fun j h => by
            rw [Nat.testBit_or, Bool.or_eq_true, Nat.testBit_two_pow, decide_eq_true_eq] at h
            rcases h with e | e
            · rw [← e]; exact hbt
            · exact andn_sub (andn_sub (hvy_sub W C t _ j e))
          have w2 : ∀ j, (hvy W C t (andn s (2 ^ t))).testBit j = true → s.testBit j = true := fun j h => andn_sub (hvy_sub W C t _ j h)
          have b1 := lt_of_sub hs w1
          have b2 := lt_of_sub hs w2
          rw [if_pos (by rw [cne (by omega) (by omega)]; exact hD), if_neg hD, call _ _ (fun j h => andn_sub h), eX3_heaviest_88, s_sumW (W := W) (by omega) (fun k hk hb => (hm k hk (w1 k hb)).1) hN, s_sumW (W := W) (by omega) (fun k hk hb => (hm k hk (w2 k hb)).1) hN]
          have c1 := hB _ b1
          have c2 := hB _ b2
          by_cases hlt : wsum W (hvy W C t (andn s (2 ^ t))) 14 < wsum W (2 ^ t ||| hvy W C t (andn (andn s (2 ^ t)) (C t))) 14
          · rw [if_neg (by rw [cle c1 c2]; omega), if_pos hlt]
          · rw [if_pos (by rw [cle c1 c2]; omega), if_neg hlt]
