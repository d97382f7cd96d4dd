/-! ===== the class: conflicts of a link ===== -/
theorem pX2_inConflict {N k j c : Nat} {I : gM} (hk : k < 14) (hj : j < 32) (hc : I 5 k = nI c) (hc2 : c < 2 ^ 31) : fX2_inConflict N [.ref 0, .int (nI k), .int (nI j)] I = some (.inl (some (.int (b2 (c.testBit j)))), I) := by
  have l1 : (1 : Int32) = nI 1 := rfl
  have e : gb_and (gb_shr (nI c) (nI j)) 1 = nI (bt c j) := btI hj hc2
  rw [eX2_inConflict, eX2_inConflict_0, ckI hk (by decide), nI_clamp (n := k) (by omega), hc, e, bt_tb]
  cases c.testBit j
  · rw [if_pos (by decide)]; rfl
  · rw [if_neg (by decide)]; rfl
