/-! ===== the class: the exact schedule ===== -/
theorem gMg29 (I : gM) : gMg [2, 9] I (gS [2, 9] I) = I := by
  funext p
  by_cases h2 : p = 2
  · subst h2; rfl
  · by_cases h9 : p = 9
    · subst h9; rfl
    · have e : gIx [2, 9] p = none := by
        show (if 2 = p then some 0 else match (if 9 = p then some 0 else match (none : Option Nat) with
          | some j => some (j + 1)
          | none => none) with
          | some j => some (j + 1)
          | none => none) = none
        rw [if_neg (fun z => h2 z.symm), if_neg (fun z => h9 z.symm)]
      unfold gMg
      rw [e]
theorem pX3_exact {N cand : Nat} {J : gM} {W C : Nat → Nat} (hc : cand < 2 ^ 14) (hW : ∀ k, k < 14 → cand.testBit k = true → J 2 k = nI (W k) ∧ J 9 k = nI (C k)) (hB : ∀ s, s < 2 ^ 14 → wsum W s 14 < 2 ^ 31) (hN : 1000 ≤ N) :
    (hI (fX3_heaviest N 16 [.int (nI cand), .int 13, .ref 0, .ref 1] (gS [2, 9] J)) [2, 9] J fun x1 I1 => some (.inl (some (.int x1)), I1)) = some (.inl (some (.int (nI (hvy W C 14 cand)))), J) := by
  have h := pX3_heaviest (N := N) (C := C) hN hB 14 16 cand (gS [2, 9] J) (Nat.le_refl _) (by decide) hc (fun k hk hb => hW k hk hb)
  have e : topI 14 = 13 := rfl
  rw [e] at h
  rw [h, hI_mk, gMg29]
