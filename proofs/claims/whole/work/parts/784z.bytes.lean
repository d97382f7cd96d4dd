/-! ===== append: the bytes of a number ===== -/
def byt (v : Int32) (k : Nat) : Nat := v.toBitVec.toNat / 2 ^ k % 256
theorem and255 (x : BitVec 32) : x &&& 255#32 = BitVec.ofNat 32 (x.toNat % 256) := by
  apply BitVec.eq_of_toNat_eq
  rw [BitVec.toNat_and, BitVec.toNat_ofNat, BitVec.toNat_ofNat]
  have h1 : (255 : Nat) % 2 ^ 32 = 2 ^ 8 - 1 := by decide
  rw [h1, Nat.and_two_pow_sub_one_eq_mod]
  have h2 : x.toNat % 2 ^ 8 < 256 := Nat.mod_lt _ (by decide)
  exact (Nat.mod_eq_of_lt (by omega)).symm
theorem ush_byt {v : Int32} {k : Nat} (h : k = 24 ∨ k = 16 ∨ k = 8 ∨ k = 0) : gb_and (gb_ushr v (nI k)) 255 = nI (byt v k) := by
  have key : ∀ s : BitVec 32, s.toNat = k → (v.toBitVec >>> s) &&& 255#32 = BitVec.ofNat 32 (byt v k) := fun s hs => by
    rw [and255, BitVec.ushiftRight_eq', hs, BitVec.toNat_ushiftRight, Nat.shiftRight_eq_div_pow]
    rfl
  apply Int32.toBitVec_inj.mp
  rcases h with h | h | h | h
  · subst h; exact key 24#32 rfl
  · subst h; exact key 16#32 rfl
  · subst h; exact key 8#32 rfl
  · subst h; exact key 0#32 rfl
theorem shr_byt {v : Int32} {k : Nat} (h : k = 24 ∨ k = 16 ∨ k = 8 ∨ k = 0) : gb_and (gb_shr v (nI k)) 255 = nI (byt v k) := by
  have key : k ≤ 24 → BitVec.sshiftRight v.toBitVec k &&& 255#32 = BitVec.ofNat 32 (byt v k) := fun hk => by
    have e : BitVec.sshiftRight v.toBitVec k &&& 255#32 = (v.toBitVec >>> k) &&& 255#32 := by
      apply BitVec.eq_of_getLsbD_eq
      intro i hi
      rw [BitVec.getLsbD_and, BitVec.getLsbD_and, BitVec.getLsbD_sshiftRight, BitVec.getLsbD_ushiftRight]
      by_cases h8 : i < 8
      · rw [if_pos (by omega), decide_eq_false (by omega)]; rfl
      · have z : (255#32).getLsbD i = false := by
          show (255 % 2 ^ 32).testBit i = false
          exact Nat.testBit_lt_two_pow (Nat.lt_of_lt_of_le (show 255 % 2 ^ 32 < 2 ^ 8 by decide) (Nat.pow_le_pow_right (by decide) (by omega)))
        rw [z, Bool.and_false, Bool.and_false]
    rw [e, and255, BitVec.toNat_ushiftRight, Nat.shiftRight_eq_div_pow]
    rfl
  apply Int32.toBitVec_inj.mp
  rcases h with h | h | h | h
  · subst h; exact key (by decide)
  · subst h; exact key (by decide)
  · subst h; exact key (by decide)
  · subst h; exact key (by decide)
theorem byt_lt (v : Int32) (k : Nat) : byt v k < 256 := Nat.mod_lt _ (by decide)
/-- the bytes that are not zero, from place k on -/
def bys (v : Int32) (k : Nat) : List Nat := if byt v k = 0 then [] else [byt v k]
def byA (v : Int32) : List Nat := bys v 24 ++ (bys v 16 ++ (bys v 8 ++ bys v 0))
theorem bys_len (v : Int32) (k : Nat) : (bys v k).length = if byt v k = 0 then 0 else 1 := by
  unfold bys
  split <;> rfl
theorem pX8_countBytes {N : Nat} {v : Int32} {I : gM} (hN : 1000 ≤ N) : fX8_countBytes N [.int v] I = some (.inl (some (.int (nI (byA v).length))), I) := by
  have step : ∀ (m c k : Nat), (k = 24 ∨ k = 16 ∨ k = 8 ∨ k = 0) → hX8_countBytes_5 N (m + 1) v (nI c) (nI k) I = hX8_countBytes_5 N m v (nI (c + (bys v k).length)) (nI k + (-8)) I := fun m c k hk => by
    have hb := byt_lt v k
    have l255 : (255 : Int32) = nI 255 := rfl
    rw [eX8_countBytes_5, if_neg (zlt (a := k) (by omega)).mp, ush_byt hk, bys_len]
    by_cases hz : byt v k = 0
    · rw [if_pos ((zeq (by omega)).mpr hz), if_pos hz, eX8_countBytes_22]; rfl
    · rw [if_neg (fun z => hz ((zeq (by omega)).mp z)), if_neg hz, eX8_countBytes_22, nI_s]
  obtain ⟨N', rfl⟩ : ∃ N', N = N' + 1 + 1 + 1 + 1 + 1 := ⟨N - 5, by omega⟩
  rw [eX8_countBytes, eX8_countBytes_0]
  have s1 := step (N' + 1 + 1 + 1 + 1) 0 24 (by decide)
  have s2 := step (N' + 1 + 1 + 1) (0 + (bys v 24).length) 16 (by decide)
  have s3 := step (N' + 1 + 1) (0 + (bys v 24).length + (bys v 16).length) 8 (by decide)
  have s4 := step (N' + 1) (0 + (bys v 24).length + (bys v 16).length + (bys v 8).length) 0 (by decide)
  have e1 : nI 24 + (-8) = nI 16 := by decide
  have e2 : nI 16 + (-8) = nI 8 := by decide
  have e3 : nI 8 + (-8) = nI 0 := by decide
  have e4 : gz_lt (nI 0 + (-8)) = true := by decide
  rw [e1] at s1; rw [e2] at s2; rw [e3] at s3
  refine (s1.trans (s2.trans (s3.trans s4))).trans ?_
  rw [eX8_countBytes_5, if_pos e4]
  have el : (byA v).length = 0 + (bys v 24).length + (bys v 16).length + (bys v 8).length + (bys v 0).length := by
    unfold byA
    rw [List.length_append, List.length_append, List.length_append]; omega
  rw [el]
