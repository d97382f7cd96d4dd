def hX8_copyRow_0 (N : Nat) (n1 n2 : Nat) (v2 : Int32) (I : gM) : gO := fX8_copyRow_k0 N n1 n2 [some (.ref 0), some (.ref 1), some (.int v2)] [] I
theorem eX8_copyRow_0 (N : Nat) (n1 n2 : Nat) (v2 : Int32) (I : gM) : hX8_copyRow_0 N n1 n2 v2 I =
  if (0 = 0 ∧ 0 = 0) ∧ (¬ (0 : Int32) < 0 ∧ ¬ (0 : Int32) < 0 ∧ ¬ v2 < 0) ∧ (((0 : Int32)).toNatClampNeg + (v2).toNatClampNeg ≤ n1 ∧ ((0 : Int32)).toNatClampNeg + (v2).toNatClampNeg ≤ n2) ∧ ((([] : List Value)).map Value.category).sum ≤ 8 then some (.inl none, (fun q => if q = 1 then va_cpy (I 0) (I 1) ((0 : Int32)).toNatClampNeg ((0 : Int32)).toNatClampNeg (v2).toNatClampNeg else I q)) else none := rfl
theorem eX8_copyRow (N : Nat) (n1 n2 : Nat) (v2 : Int32) (I : gM) : fX8_copyRow N n1 n2 [.ref 0, .ref 1, .int v2] I = hX8_copyRow_0 N n1 n2 v2 I := rfl

def hX8_pair_0 (N : Nat) (v0 : Int32) (v1 : Int32) (I : gM) : gO := fX8_pair_k0 N [some (.int v0), some (.int v1)] [] I
theorem eX8_pair_0 (N : Nat) (v0 : Int32) (v1 : Int32) (I : gM) : hX8_pair_0 N v0 v1 I =
  some (.inl (some (.int (((v0 * 10) + v1)))), I) := rfl
theorem eX8_pair (N : Nat) (v0 : Int32) (v1 : Int32) (I : gM) : fX8_pair N [.int v0, .int v1] I = hX8_pair_0 N v0 v1 I := rfl

def hX8_sum_0 (N : Nat) (I : gM) : gO := fX8_sum_k0 N [some (.ref 0), none, none, none, none, none, none] [] I
def hX8_sum_11 (N : Nat) (n11 : Nat) (v1 : Int64) (v4 : Int32) (v5 : Int32) (I : gM) : gO := s_lp (fX8_sum_b11 N) n11 [none, some (.long v1), none, some (.ref 0), some (.int v4), some (.int v5), none] [] I
theorem eX8_sum_0 (N : Nat) (I : gM) : hX8_sum_0 N I =
  hX8_sum_11 N N 0 (Int32.ofNat 100) 0 I := rfl
theorem eX8_sum_11 (N : Nat) (n11 : Nat) (v1 : Int64) (v4 : Int32) (v5 : Int32) (I : gM) : hX8_sum_11 N (n11 + 1) v1 v4 v5 I =
  if gc_ge v5 v4 = true then (some (.inl (some (.long v1)), I)) else (ck 100 v5 <| hX8_sum_11 N n11 ((v1 + (((I 0 (nn v5))).toInt64))) v4 (v5 + 1) I) := rfl
theorem eX8_sum_11z (N : Nat) (v1 : Int64) (v4 : Int32) (v5 : Int32) (I : gM) : hX8_sum_11 N 0 v1 v4 v5 I = none := rfl
theorem eX8_sum (N : Nat) (I : gM) : fX8_sum N [.ref 0] I = hX8_sum_0 N I := rfl

def hX8_sumOfSquares_0 (N : Nat) (I : gM) : gO := fX8_sumOfSquares_k0 N [some (.ref 0), none, none, none, none, none, none] [] I
def hX8_sumOfSquares_11 (N : Nat) (n11 : Nat) (v1 : Int64) (v4 : Int32) (v5 : Int32) (I : gM) : gO := s_lp (fX8_sumOfSquares_b11 N) n11 [none, some (.long v1), none, some (.ref 0), some (.int v4), some (.int v5), none] [] I
theorem eX8_sumOfSquares_0 (N : Nat) (I : gM) : hX8_sumOfSquares_0 N I =
  hX8_sumOfSquares_11 N N 0 (Int32.ofNat 100) 0 I := rfl
theorem eX8_sumOfSquares_11 (N : Nat) (n11 : Nat) (v1 : Int64) (v4 : Int32) (v5 : Int32) (I : gM) : hX8_sumOfSquares_11 N (n11 + 1) v1 v4 v5 I =
  if gc_ge v5 v4 = true then (some (.inl (some (.long v1)), I)) else (ck 100 v5 <| hX8_sumOfSquares_11 N n11 ((v1 + (((((I 0 (nn v5))).toInt64) * (((I 0 (nn v5))).toInt64))))) v4 (v5 + 1) I) := rfl
theorem eX8_sumOfSquares_11z (N : Nat) (v1 : Int64) (v4 : Int32) (v5 : Int32) (I : gM) : hX8_sumOfSquares_11 N 0 v1 v4 v5 I = none := rfl
theorem eX8_sumOfSquares (N : Nat) (I : gM) : fX8_sumOfSquares N [.ref 0] I = hX8_sumOfSquares_0 N I := rfl

def hX8_countBytes_0 (N : Nat) (v0 : Int32) (I : gM) : gO := fX8_countBytes_k0 N [some (.int v0), none, none] [] I
def hX8_countBytes_5 (N : Nat) (n5 : Nat) (v0 : Int32) (v1 : Int32) (v2 : Int32) (I : gM) : gO := s_lp (fX8_countBytes_b5 N) n5 [some (.int v0), some (.int v1), some (.int v2)] [] I
def hX8_countBytes_22 (N : Nat) (n5 : Nat) (v0 : Int32) (v1 : Int32) (v2 : Int32) (I : gM) : gO := fX8_countBytes_k22 N (s_lp (fX8_countBytes_b5 N) n5) [some (.int v0), some (.int v1), some (.int v2)] [] I
theorem eX8_countBytes_0 (N : Nat) (v0 : Int32) (I : gM) : hX8_countBytes_0 N v0 I =
  hX8_countBytes_5 N N v0 0 24 I := rfl
theorem eX8_countBytes_5 (N : Nat) (n5 : Nat) (v0 : Int32) (v1 : Int32) (v2 : Int32) (I : gM) : hX8_countBytes_5 N (n5 + 1) v0 v1 v2 I =
  if gz_lt v2 = true then (some (.inl (some (.int v1)), I)) else (if gz_eq (((gb_ushr v0 v2) &&& 255)) = true then (hX8_countBytes_22 N n5 v0 v1 v2 I) else (hX8_countBytes_22 N n5 v0 (v1 + 1) v2 I)) := rfl
theorem eX8_countBytes_5z (N : Nat) (v0 : Int32) (v1 : Int32) (v2 : Int32) (I : gM) : hX8_countBytes_5 N 0 v0 v1 v2 I = none := rfl
theorem eX8_countBytes_22 (N : Nat) (n5 : Nat) (v0 : Int32) (v1 : Int32) (v2 : Int32) (I : gM) : hX8_countBytes_22 N n5 v0 v1 v2 I =
  hX8_countBytes_5 N n5 v0 v1 ((v2 + (-8))) I := rfl
theorem eX8_countBytes (N : Nat) (v0 : Int32) (I : gM) : fX8_countBytes N [.int v0] I = hX8_countBytes_0 N v0 I := rfl

def hX8_commonDivisor_0 (N : Nat) (v0 : Int32) (v1 : Int32) (I : gM) : gO := fX8_commonDivisor_k0 N [some (.int v0), some (.int v1), none, none, none, none] [] I
def hX8_commonDivisor_7 (N : Nat) (n7 : Nat) (v2 : Int32) (v3 : Int32) (v4 : Int32) (I : gM) : gO := s_lp (fX8_commonDivisor_b7 N) n7 [none, none, some (.int v2), some (.int v3), some (.int v4), none] [] I
theorem eX8_commonDivisor_0 (N : Nat) (v0 : Int32) (v1 : Int32) (I : gM) : hX8_commonDivisor_0 N v0 v1 I =
  hX8_commonDivisor_7 N N v0 v1 0 I := rfl
theorem eX8_commonDivisor_7 (N : Nat) (n7 : Nat) (v2 : Int32) (v3 : Int32) (v4 : Int32) (I : gM) : hX8_commonDivisor_7 N (n7 + 1) v2 v3 v4 I =
  if gc_ge v4 100 = true then (some (.inl (some (.int v2)), I)) else (if gz_eq v3 = true then (some (.inl (some (.int v2)), I)) else (if v3 = 0 then none else hX8_commonDivisor_7 N n7 v3 (gb_rem v2 v3) (v4 + 1) I)) := rfl
theorem eX8_commonDivisor_7z (N : Nat) (v2 : Int32) (v3 : Int32) (v4 : Int32) (I : gM) : hX8_commonDivisor_7 N 0 v2 v3 v4 I = none := rfl
theorem eX8_commonDivisor (N : Nat) (v0 : Int32) (v1 : Int32) (I : gM) : fX8_commonDivisor N [.int v0, .int v1] I = hX8_commonDivisor_0 N v0 v1 I := rfl

def hX8_append_0 (N : Nat) (v1 : Int32) (v2 : Int32) (v3 : Int32) (v4 : Int32) (v5 : Int32) (I : gM) : gO := fX8_append_k0 N [some (.ref 0), some (.int v1), some (.int v2), some (.int v3), some (.int v4), some (.int v5), none] [] I
theorem eX8_append_0 (N : Nat) (v1 : Int32) (v2 : Int32) (v3 : Int32) (v4 : Int32) (v5 : Int32) (I : gM) : hX8_append_0 N v1 v2 v3 v4 v5 I =
  hI (fX8_countBytes N [.int v1] (gS [] I)) [] I fun x1 I1 => hI (fX8_countBytes N [.int v2] (gS [] I1)) [] I1 fun x2 I2 => hI (fX8_countBytes N [.int v3] (gS [] I2)) [] I2 fun x3 I3 => hI (fX8_countBytes N [.int v4] (gS [] I3)) [] I3 fun x4 I4 => hI (fX8_countBytes N [.int v5] (gS [] I4)) [] I4 fun x5 I5 => if gc_le (((I5 183 2) + (((((((x1 + x2) + x3)) + x4)) + x5)))) 700 = true then (hV (fX5_putBytes N [.ref 0, .int v1] (gS (rg 183 11) I5)) (rg 183 11) I5 fun I6 => hV (fX5_putBytes N [.ref 0, .int v2] (gS (rg 183 11) I6)) (rg 183 11) I6 fun I7 => hV (fX5_putBytes N [.ref 0, .int v3] (gS (rg 183 11) I7)) (rg 183 11) I7 fun I8 => hV (fX5_putBytes N [.ref 0, .int v4] (gS (rg 183 11) I8)) (rg 183 11) I8 fun I9 => hV (fX5_putBytes N [.ref 0, .int v5] (gS (rg 183 11) I9)) (rg 183 11) I9 fun I10 => some (.inl (some (.int (I10 183 2))), I10)) else (some (.inr "java/lang/IllegalStateException", I5)) := rfl
theorem eX8_append (N : Nat) (v1 : Int32) (v2 : Int32) (v3 : Int32) (v4 : Int32) (v5 : Int32) (I : gM) : fX8_append N [.ref 0, .int v1, .int v2, .int v3, .int v4, .int v5] I = hX8_append_0 N v1 v2 v3 v4 v5 I := rfl

def hX8_checkRange_0 (N : Nat) (v0 : Int32) (v1 : Int32) (v2 : Int32) (I : gM) : gO := fX8_checkRange_k0 N [some (.int v0), some (.int v1), some (.int v2)] [] I
theorem eX8_checkRange_0 (N : Nat) (v0 : Int32) (v1 : Int32) (v2 : Int32) (I : gM) : hX8_checkRange_0 N v0 v1 v2 I =
  if gc_lt v0 v1 = true then (some (.inr "java/lang/IllegalArgumentException", I)) else (if gc_le v0 v2 = true then (some (.inl none, I)) else (some (.inr "java/lang/IllegalArgumentException", I))) := rfl
theorem eX8_checkRange (N : Nat) (v0 : Int32) (v1 : Int32) (v2 : Int32) (I : gM) : fX8_checkRange N [.int v0, .int v1, .int v2] I = hX8_checkRange_0 N v0 v1 v2 I := rfl

def hX8_truncate_0 (N : Nat) (v1 : Int32) (I : gM) : gO := fX8_truncate_k0 N [some (.ref 0), some (.int v1)] [] I
theorem eX8_truncate_0 (N : Nat) (v1 : Int32) (I : gM) : hX8_truncate_0 N v1 I =
  hXV (fX8_checkRange N [.int v1, .int 0, .int (I 183 2)] (gS [] I)) [] I fun I1 => some (.inl (some (.int v1)), (gU I1 183 2 v1)) := rfl
theorem eX8_truncate (N : Nat) (v1 : Int32) (I : gM) : fX8_truncate N [.ref 0, .int v1] I = hX8_truncate_0 N v1 I := rfl

def hX8_errorPosition_0 (N : Nat) (I : gM) : gO := fX8_errorPosition_k0 N [some (.ref 0)] [] I
theorem eX8_errorPosition_0 (N : Nat) (I : gM) : hX8_errorPosition_0 N I =
  hI (fX5_read N [.ref 0] (gS (rg 183 11) I)) (rg 183 11) I fun x1 I1 => some (.inl (some (.int x1)), I1) := rfl
theorem eX8_errorPosition (N : Nat) (I : gM) : fX8_errorPosition N [.ref 0] I = hX8_errorPosition_0 N I := rfl

def hX8_load_0 (N : Nat) (I : gM) : gO := fX8_load_k0 N [some (.ref 0)] [] I
theorem eX8_load_0 (N : Nat) (I : gM) : hX8_load_0 N I =
  hI (fX5_read N [.ref 0] (gS (rg 183 11) I)) (rg 183 11) I fun x1 I1 => if gc_eq x1 (-1) = true then (hV (fX7_begin N [.ref 0, .ref 20] (gS (rg 1 20 ++ rg 185 9) I1)) (rg 1 20 ++ rg 185 9) I1 fun I2 => some (.inl (some (.int (I2 2 1))), (gU (gU (gU I2 183 2 0) 61 1 0) 0 7 0))) else (some (.inr "java/lang/IllegalArgumentException", I1)) := rfl
theorem eX8_load (N : Nat) (I : gM) : fX8_load N [.ref 0] I = hX8_load_0 N I := rfl

def hX8_checkNode_0 (N : Nat) (v1 : Int32) (I : gM) : gO := fX8_checkNode_k0 N [some (.ref 0), some (.int v1)] [] I
theorem eX8_checkNode_0 (N : Nat) (v1 : Int32) (I : gM) : hX8_checkNode_0 N v1 I =
  if gz_lt v1 = true then (some (.inr "java/lang/IndexOutOfBoundsException", I)) else (if gc_lt v1 (I 2 0) = true then (some (.inl none, I)) else (some (.inr "java/lang/IndexOutOfBoundsException", I))) := rfl
theorem eX8_checkNode (N : Nat) (v1 : Int32) (I : gM) : fX8_checkNode N [.ref 0, .int v1] I = hX8_checkNode_0 N v1 I := rfl

def hX8_checkTwoNodes_0 (N : Nat) (v1 : Int32) (v2 : Int32) (I : gM) : gO := fX8_checkTwoNodes_k0 N [some (.ref 0), some (.int v1), some (.int v2)] [] I
theorem eX8_checkTwoNodes_0 (N : Nat) (v1 : Int32) (v2 : Int32) (I : gM) : hX8_checkTwoNodes_0 N v1 v2 I =
  hXV (fX8_checkNode N [.ref 0, .int v1] (gS (rg 0 204) I)) (rg 0 204) I fun I1 => hXV (fX8_checkNode N [.ref 0, .int v2] (gS (rg 0 204) I1)) (rg 0 204) I1 fun I2 => if gc_ne v1 v2 = true then (some (.inl none, I2)) else (some (.inr "java/lang/IllegalArgumentException", I2)) := rfl
theorem eX8_checkTwoNodes (N : Nat) (v1 : Int32) (v2 : Int32) (I : gM) : fX8_checkTwoNodes N [.ref 0, .int v1, .int v2] I = hX8_checkTwoNodes_0 N v1 v2 I := rfl

def hX8_addLink_0 (N : Nat) (v1 : Int32) (v2 : Int32) (v3 : Int32) (I : gM) : gO := fX8_addLink_k0 N [some (.ref 0), some (.int v1), some (.int v2), some (.int v3)] [] I
theorem eX8_addLink_0 (N : Nat) (v1 : Int32) (v2 : Int32) (v3 : Int32) (I : gM) : hX8_addLink_0 N v1 v2 v3 I =
  hXV (fX8_checkTwoNodes N [.ref 0, .int v1, .int v2] (gS (rg 0 204) I)) (rg 0 204) I fun I1 => hXV (fX8_checkRange N [.int v3, .int 1, .int 5] (gS [] I1)) [] I1 fun I2 => if gc_ge (I2 2 1) 14 = true then (some (.inr "java/lang/IllegalStateException", I2)) else (hI (fX2_findLink N [.ref 0, .int v1, .int v2] (gS (rg 2 9) I2)) (rg 2 9) I2 fun x3 I3 => if gc_eq x3 (-1) = true then (hV (fX1_remember N [.ref 0, .ref 122] (gS (rg 61 122 ++ rg 1 20) I3)) (rg 61 122 ++ rg 1 20) I3 fun I4 => hV (fX2_putLink N [.ref 0, .int v1, .int v2, .int v3] (gS (rg 2 9) I4)) (rg 2 9) I4 fun I5 => some (.inl (some (.int (((I5 2 1) - 1)))), I5)) else (some (.inr "java/lang/IllegalStateException", I3))) := rfl
theorem eX8_addLink (N : Nat) (v1 : Int32) (v2 : Int32) (v3 : Int32) (I : gM) : fX8_addLink N [.ref 0, .int v1, .int v2, .int v3] I = hX8_addLink_0 N v1 v2 v3 I := rfl

def hX8_checkLink_0 (N : Nat) (v1 : Int32) (I : gM) : gO := fX8_checkLink_k0 N [some (.ref 0), some (.int v1)] [] I
theorem eX8_checkLink_0 (N : Nat) (v1 : Int32) (I : gM) : hX8_checkLink_0 N v1 I =
  if gz_lt v1 = true then (some (.inr "java/lang/IndexOutOfBoundsException", I)) else (if gc_lt v1 (I 2 1) = true then (some (.inl none, I)) else (some (.inr "java/lang/IndexOutOfBoundsException", I))) := rfl
theorem eX8_checkLink (N : Nat) (v1 : Int32) (I : gM) : fX8_checkLink N [.ref 0, .int v1] I = hX8_checkLink_0 N v1 I := rfl

def hX8_setCapacity_0 (N : Nat) (v1 : Int32) (v2 : Int32) (I : gM) : gO := fX8_setCapacity_k0 N [some (.ref 0), some (.int v1), some (.int v2), none] [] I
theorem eX8_setCapacity_0 (N : Nat) (v1 : Int32) (v2 : Int32) (I : gM) : hX8_setCapacity_0 N v1 v2 I =
  hXV (fX8_checkLink N [.ref 0, .int v1] (gS (rg 0 204) I)) (rg 0 204) I fun I1 => hXV (fX8_checkRange N [.int v2, .int 1, .int 5] (gS [] I1)) [] I1 fun I2 => hV (fX1_remember N [.ref 0, .ref 122] (gS (rg 61 122 ++ rg 1 20) I2)) (rg 61 122 ++ rg 1 20) I2 fun I3 => ck 14 v1 <| ck 14 v1 <| some (.inl (some (.int ((I3 5 (nn v1))))), (gU I3 5 (nn v1) v2)) := rfl
theorem eX8_setCapacity (N : Nat) (v1 : Int32) (v2 : Int32) (I : gM) : fX8_setCapacity N [.ref 0, .int v1, .int v2] I = hX8_setCapacity_0 N v1 v2 I := rfl

def hX8_setConflict_0 (N : Nat) (v1 : Int32) (v2 : Int32) (v3 : Int32) (I : gM) : gO := fX8_setConflict_k0 N [some (.ref 0), some (.int v1), some (.int v2), some (.int v3), none] [] I
theorem eX8_setConflict_0 (N : Nat) (v1 : Int32) (v2 : Int32) (v3 : Int32) (I : gM) : hX8_setConflict_0 N v1 v2 v3 I =
  hXV (fX8_checkLink N [.ref 0, .int v1] (gS (rg 0 204) I)) (rg 0 204) I fun I1 => hXV (fX8_checkLink N [.ref 0, .int v2] (gS (rg 0 204) I1)) (rg 0 204) I1 fun I2 => if gc_ne v1 v2 = true then (hV (fX1_remember N [.ref 0, .ref 122] (gS (rg 61 122 ++ rg 1 20) I2)) (rg 61 122 ++ rg 1 20) I2 fun I3 => hI (fX2_inConflict N [.ref 0, .int v1, .int v2] (gS (rg 2 9) I3)) (rg 2 9) I3 fun x4 I4 => hV (fX2_putConflict N [.ref 0, .int v1, .int v2, .int v3] (gS (rg 2 9) I4)) (rg 2 9) I4 fun I5 => if x4 = 0 ∨ x4 = 1 then some (.inl (some (.int x4)), I5) else none) else (some (.inr "java/lang/IllegalArgumentException", I2)) := rfl
theorem eX8_setConflict (N : Nat) (v1 : Int32) (v2 : Int32) (v3 : Int32) (I : gM) : fX8_setConflict N [.ref 0, .int v1, .int v2, .int v3] I = hX8_setConflict_0 N v1 v2 v3 I := rfl

def hX8_addFlow_0 (N : Nat) (v1 : Int32) (v2 : Int32) (v3 : Int32) (v4 : Int32) (I : gM) : gO := fX8_addFlow_k0 N [some (.ref 0), some (.int v1), some (.int v2), some (.int v3), some (.int v4)] [] I
theorem eX8_addFlow_0 (N : Nat) (v1 : Int32) (v2 : Int32) (v3 : Int32) (v4 : Int32) (I : gM) : hX8_addFlow_0 N v1 v2 v3 v4 I =
  hXV (fX8_checkTwoNodes N [.ref 0, .int v1, .int v2] (gS (rg 0 204) I)) (rg 0 204) I fun I1 => hXV (fX8_checkRange N [.int v3, .int 0, .int 300] (gS [] I1)) [] I1 fun I2 => hXV (fX8_checkRange N [.int v4, .int 0, .int 200] (gS [] I2)) [] I2 fun I3 => if gc_lt (I3 2 2) 6 = true then (hV (fX1_remember N [.ref 0, .ref 122] (gS (rg 61 122 ++ rg 1 20) I3)) (rg 61 122 ++ rg 1 20) I3 fun I4 => hV (fX2_putFlow N [.ref 0, .int v1, .int v2, .int v3, .int v4] (gS (rg 2 9) I4)) (rg 2 9) I4 fun I5 => some (.inl (some (.int (((I5 2 2) - 1)))), I5)) else (some (.inr "java/lang/IllegalStateException", I3)) := rfl
theorem eX8_addFlow (N : Nat) (v1 : Int32) (v2 : Int32) (v3 : Int32) (v4 : Int32) (I : gM) : fX8_addFlow N [.ref 0, .int v1, .int v2, .int v3, .int v4] I = hX8_addFlow_0 N v1 v2 v3 v4 I := rfl

def hX8_checkFlow_0 (N : Nat) (v1 : Int32) (I : gM) : gO := fX8_checkFlow_k0 N [some (.ref 0), some (.int v1)] [] I
theorem eX8_checkFlow_0 (N : Nat) (v1 : Int32) (I : gM) : hX8_checkFlow_0 N v1 I =
  if gz_lt v1 = true then (some (.inr "java/lang/IndexOutOfBoundsException", I)) else (if gc_lt v1 (I 2 2) = true then (some (.inl none, I)) else (some (.inr "java/lang/IndexOutOfBoundsException", I))) := rfl
theorem eX8_checkFlow (N : Nat) (v1 : Int32) (I : gM) : fX8_checkFlow N [.ref 0, .int v1] I = hX8_checkFlow_0 N v1 I := rfl

def hX8_replaceNumber_0 (N : Nat) (v1 : Int32) (v2 : Int32) (v3 : Int32) (I : gM) : gO := fX8_replaceNumber_k0 N [some (.ref 0), some (.int v1), some (.int v2), some (.int v3), none] [] I
theorem eX8_replaceNumber_0 (N : Nat) (v1 : Int32) (v2 : Int32) (v3 : Int32) (I : gM) : hX8_replaceNumber_0 N v1 v2 v3 I =
  hV (fX1_remember N [.ref 0, .ref 122] (gS (rg 61 122 ++ rg 1 20) I)) (rg 61 122 ++ rg 1 20) I fun I1 => hI (fX2_getNumber N [.ref 0, .int v1, .int v2] (gS (rg 2 9) I1)) (rg 2 9) I1 fun x2 I2 => hV (fX2_putNumber N [.ref 0, .int v1, .int v2, .int v3] (gS (rg 2 9) I2)) (rg 2 9) I2 fun I3 => some (.inl (some (.int x2)), I3) := rfl
theorem eX8_replaceNumber (N : Nat) (v1 : Int32) (v2 : Int32) (v3 : Int32) (I : gM) : fX8_replaceNumber N [.ref 0, .int v1, .int v2, .int v3] I = hX8_replaceNumber_0 N v1 v2 v3 I := rfl

def hX8_setRate_0 (N : Nat) (v1 : Int32) (v2 : Int32) (I : gM) : gO := fX8_setRate_k0 N [some (.ref 0), some (.int v1), some (.int v2)] [] I
theorem eX8_setRate_0 (N : Nat) (v1 : Int32) (v2 : Int32) (I : gM) : hX8_setRate_0 N v1 v2 I =
  hXV (fX8_checkFlow N [.ref 0, .int v1] (gS (rg 0 204) I)) (rg 0 204) I fun I1 => hXV (fX8_checkRange N [.int v2, .int 0, .int 300] (gS [] I1)) [] I1 fun I2 => hI (fX8_replaceNumber N [.ref 0, .int v1, .int 2, .int v2] (gS (rg 0 204) I2)) (rg 0 204) I2 fun x3 I3 => some (.inl (some (.int x3)), I3) := rfl
theorem eX8_setRate (N : Nat) (v1 : Int32) (v2 : Int32) (I : gM) : fX8_setRate N [.ref 0, .int v1, .int v2] I = hX8_setRate_0 N v1 v2 I := rfl

def hX8_setBudget_0 (N : Nat) (v1 : Int32) (v2 : Int32) (I : gM) : gO := fX8_setBudget_k0 N [some (.ref 0), some (.int v1), some (.int v2)] [] I
theorem eX8_setBudget_0 (N : Nat) (v1 : Int32) (v2 : Int32) (I : gM) : hX8_setBudget_0 N v1 v2 I =
  hXV (fX8_checkFlow N [.ref 0, .int v1] (gS (rg 0 204) I)) (rg 0 204) I fun I1 => hXV (fX8_checkRange N [.int v2, .int 0, .int 200] (gS [] I1)) [] I1 fun I2 => hI (fX8_replaceNumber N [.ref 0, .int v1, .int 3, .int v2] (gS (rg 0 204) I2)) (rg 0 204) I2 fun x3 I3 => some (.inl (some (.int x3)), I3) := rfl
theorem eX8_setBudget (N : Nat) (v1 : Int32) (v2 : Int32) (I : gM) : fX8_setBudget N [.ref 0, .int v1, .int v2] I = hX8_setBudget_0 N v1 v2 I := rfl

def hX8_set_0 (N : Nat) (v1 : Int32) (v2 : Int32) (I : gM) : gO := fX8_set_k0 N [some (.ref 0), some (.int v1), some (.int v2), none] [] I
theorem eX8_set_0 (N : Nat) (v1 : Int32) (v2 : Int32) (I : gM) : hX8_set_0 N v1 v2 I =
  hXV (fX8_checkRange N [.int v1, .int 0, .int 3] (gS [] I)) [] I fun I1 => if gRng 1200 1201 1200 ∧ ¬ (v1 < 0 ∨ 4 ≤ (v1).toNatClampNeg) then hXV (fX8_checkRange N [.int v2, .int 0, .int ((gGS.getD (v1).toNatClampNeg 0))] (gS [] I1)) [] I1 fun I2 => hV (fX1_remember N [.ref 0, .ref 122] (gS (rg 61 122 ++ rg 1 20) I2)) (rg 61 122 ++ rg 1 20) I2 fun I3 => ck 4 v1 <| ck 4 v1 <| some (.inl (some (.int ((I3 8 (nn v1))))), (gU I3 8 (nn v1) v2)) else none := rfl
theorem eX8_set (N : Nat) (v1 : Int32) (v2 : Int32) (I : gM) : fX8_set N [.ref 0, .int v1, .int v2] I = hX8_set_0 N v1 v2 I := rfl

def hX8_inject_0 (N : Nat) (v1 : Int32) (v2 : Int32) (I : gM) : gO := fX8_inject_k0 N [some (.ref 0), some (.int v1), some (.int v2)] [] I
theorem eX8_inject_0 (N : Nat) (v1 : Int32) (v2 : Int32) (I : gM) : hX8_inject_0 N v1 v2 I =
  hXV (fX8_checkFlow N [.ref 0, .int v1] (gS (rg 0 204) I)) (rg 0 204) I fun I1 => hXV (fX8_checkRange N [.int v2, .int 1, .int 100] (gS [] I1)) [] I1 fun I2 => hV (fX1_remember N [.ref 0, .ref 122] (gS (rg 61 122 ++ rg 1 20) I2)) (rg 61 122 ++ rg 1 20) I2 fun I3 => hI (fX7_arrive N [.ref 0, .int v1, .int v2] (gS (rg 1 20) I3)) (rg 1 20) I3 fun x4 I4 => some (.inl (some (.int x4)), I4) := rfl
theorem eX8_inject (N : Nat) (v1 : Int32) (v2 : Int32) (I : gM) : fX8_inject N [.ref 0, .int v1, .int v2] I = hX8_inject_0 N v1 v2 I := rfl

def hX8_flush_0 (N : Nat) (v1 : Int32) (v2 : Int32) (I : gM) : gO := fX8_flush_k0 N [some (.ref 0), some (.int v1), some (.int v2)] [] I
theorem eX8_flush_0 (N : Nat) (v1 : Int32) (v2 : Int32) (I : gM) : hX8_flush_0 N v1 v2 I =
  hXV (fX8_checkTwoNodes N [.ref 0, .int v1, .int v2] (gS (rg 0 204) I)) (rg 0 204) I fun I1 => hV (fX1_remember N [.ref 0, .ref 122] (gS (rg 61 122 ++ rg 1 20) I1)) (rg 61 122 ++ rg 1 20) I1 fun I2 => hI (fX8_pair N [.int v1, .int v2] (gS [] I2)) [] I2 fun x3 I3 => hI (fX7_loseAll N [.ref 0, .int x3] (gS (rg 1 20) I3)) (rg 1 20) I3 fun x4 I4 => some (.inl (some (.int x4)), I4) := rfl
theorem eX8_flush (N : Nat) (v1 : Int32) (v2 : Int32) (I : gM) : fX8_flush N [.ref 0, .int v1, .int v2] I = hX8_flush_0 N v1 v2 I := rfl

def hX8_resetShadows_0 (N : Nat) (I : gM) : gO := fX8_resetShadows_k0 N [some (.ref 0), none] [] I
theorem eX8_resetShadows_0 (N : Nat) (I : gM) : hX8_resetShadows_0 N I =
  hV (fX1_remember N [.ref 0, .ref 122] (gS (rg 61 122 ++ rg 1 20) I)) (rg 61 122 ++ rg 1 20) I fun I1 => hJ (fX8_sum N [.ref 0] (gS [15] I1)) [15] I1 fun x2 I2 => hV (fJF_fill N 100 [.ref 0, .int 0] (gS [15] I2)) [15] I2 fun I3 => some (.inl (some (.int ((x2).toInt32))), I3) := rfl
theorem eX8_resetShadows (N : Nat) (I : gM) : fX8_resetShadows N [.ref 0] I = hX8_resetShadows_0 N I := rfl

def hX8_run_0 (N : Nat) (v1 : Int32) (I : gM) : gO := fX8_run_k0 N [some (.ref 0), some (.int v1)] [] I
theorem eX8_run_0 (N : Nat) (v1 : Int32) (I : gM) : hX8_run_0 N v1 I =
  hXV (fX8_checkRange N [.int v1, .int 1, .int 50] (gS [] I)) [] I fun I1 => if gc_le (((I1 1 2) + v1)) 9999 = true then (hV (fX1_remember N [.ref 0, .ref 122] (gS (rg 61 122 ++ rg 1 20) I1)) (rg 61 122 ++ rg 1 20) I1 fun I2 => hV (fX6_passSlots N [.ref 0, .ref 7, .int v1] (gS (rg 194 7 ++ rg 1 20) I2)) (rg 194 7 ++ rg 1 20) I2 fun I3 => some (.inl (some (.int (I3 11 11))), I3)) else (some (.inr "java/lang/IllegalArgumentException", I1)) := rfl
theorem eX8_run (N : Nat) (v1 : Int32) (I : gM) : fX8_run N [.ref 0, .int v1] I = hX8_run_0 N v1 I := rfl

def hX8_undo_0 (N : Nat) (I : gM) : gO := fX8_undo_k0 N [some (.ref 0)] [] I
theorem eX8_undo_0 (N : Nat) (I : gM) : hX8_undo_0 N I =
  if gz_ne (I 61 1) = true then (hV (fX1_takeBack N [.ref 0, .ref 122] (gS (rg 61 122 ++ rg 1 20) I)) (rg 61 122 ++ rg 1 20) I fun I1 => some (.inl (some (.int (I1 61 1))), I1)) else (some (.inr "java/lang/IllegalStateException", I)) := rfl
theorem eX8_undo (N : Nat) (I : gM) : fX8_undo N [.ref 0] I = hX8_undo_0 N I := rfl

def hX8_undoCount_0 (N : Nat) (I : gM) : gO := fX8_undoCount_k0 N [some (.ref 0)] [] I
theorem eX8_undoCount_0 (N : Nat) (I : gM) : hX8_undoCount_0 N I =
  some (.inl (some (.int (I 61 1))), I) := rfl
theorem eX8_undoCount (N : Nat) (I : gM) : fX8_undoCount N [.ref 0] I = hX8_undoCount_0 N I := rfl

def hX8_save_0 (N : Nat) (I : gM) : gO := fX8_save_k0 N [some (.ref 0)] [] I
theorem eX8_save_0 (N : Nat) (I : gM) : hX8_save_0 N I =
  hV (fX7_copyFrom N [.ref 0, .ref 20] (gS (rg 21 20 ++ rg 1 20) I)) (rg 21 20 ++ rg 1 20) I fun I1 => some (.inl (some (.int (I1 1 2))), (gU I1 0 7 1)) := rfl
theorem eX8_save (N : Nat) (I : gM) : fX8_save N [.ref 0] I = hX8_save_0 N I := rfl

def hX8_restore_0 (N : Nat) (I : gM) : gO := fX8_restore_k0 N [some (.ref 0)] [] I
theorem eX8_restore_0 (N : Nat) (I : gM) : hX8_restore_0 N I =
  if gz_ne (I 0 7) = true then (hV (fX7_copyFrom N [.ref 0, .ref 20] (gS (rg 1 40) I)) (rg 1 40) I fun I1 => some (.inl (some (.int (I1 1 2))), (gU I1 61 1 0))) else (some (.inr "java/lang/IllegalStateException", I)) := rfl
theorem eX8_restore (N : Nat) (I : gM) : fX8_restore N [.ref 0] I = hX8_restore_0 N I := rfl

def hX8_count_0 (N : Nat) (v1 : Int32) (I : gM) : gO := fX8_count_k0 N [some (.ref 0), some (.int v1)] [] I
theorem eX8_count_0 (N : Nat) (v1 : Int32) (I : gM) : hX8_count_0 N v1 I =
  hXV (fX8_checkRange N [.int v1, .int 0, .int 6] (gS [] I)) [] I fun I1 => hT v1 0 2 (ck 4 (v1 - 3) <| some (.inl (some (.int ((I1 8 ((nn (v1 - 3))))))), I1)) [some (.inl (some (.int (I1 2 0))), I1), some (.inl (some (.int (I1 2 1))), I1), some (.inl (some (.int (I1 2 2))), I1)] := rfl
theorem eX8_count (N : Nat) (v1 : Int32) (I : gM) : fX8_count N [.ref 0, .int v1] I = hX8_count_0 N v1 I := rfl

def hX8_plannedNumber_0 (N : Nat) (v1 : Int32) (v2 : Int32) (I : gM) : gO := fX8_plannedNumber_k0 N [some (.ref 0), some (.int v1), some (.int v2), none, none] [] I
theorem eX8_plannedNumber_0 (N : Nat) (v1 : Int32) (v2 : Int32) (I : gM) : hX8_plannedNumber_0 N v1 v2 I =
  ck 4 3 <| hI (fX3_choose N [.ref 0, .ref 3, .int ((I 8 (nn 3)))] (gS (rg 195 3 ++ rg 1 20) I)) (rg 195 3 ++ rg 1 20) I fun x1 I1 => hT v2 4 6 (hI (fX3_countCarried N [.ref 0, .ref 3, .int x1, .int v1] (gS (rg 195 3 ++ rg 1 20) I1)) (rg 195 3 ++ rg 1 20) I1 fun x2 I2 => some (.inl (some (.int x2)), I2)) [ck 14 v1 <| some (.inl (some (.int ((I1 196 (nn v1))))), I1), ck 14 v1 <| some (.inl (some (.int ((I1 197 (nn v1))))), I1), some (.inl (some (.int (((gb_shr x1 v1) &&& 1)))), I1)] := rfl
theorem eX8_plannedNumber (N : Nat) (v1 : Int32) (v2 : Int32) (I : gM) : fX8_plannedNumber N [.ref 0, .int v1, .int v2] I = hX8_plannedNumber_0 N v1 v2 I := rfl

def hX8_link_0 (N : Nat) (v1 : Int32) (v2 : Int32) (I : gM) : gO := fX8_link_k0 N [some (.ref 0), some (.int v1), some (.int v2)] [] I
theorem eX8_link_0 (N : Nat) (v1 : Int32) (v2 : Int32) (I : gM) : hX8_link_0 N v1 v2 I =
  hXV (fX8_checkLink N [.ref 0, .int v1] (gS (rg 0 204) I)) (rg 0 204) I fun I1 => hXV (fX8_checkRange N [.int v2, .int 0, .int 7] (gS [] I1)) [] I1 fun I2 => hT v2 0 3 (hI (fX8_plannedNumber N [.ref 0, .int v1, .int v2] (gS (rg 0 204) I2)) (rg 0 204) I2 fun x3 I3 => some (.inl (some (.int x3)), I3)) [ck 14 v1 <| some (.inl (some (.int ((I2 3 (nn v1))))), I2), ck 14 v1 <| some (.inl (some (.int ((I2 4 (nn v1))))), I2), ck 14 v1 <| some (.inl (some (.int ((I2 5 (nn v1))))), I2), ck 14 v1 <| some (.inl (some (.int ((I2 6 (nn v1))))), I2)] := rfl
theorem eX8_link (N : Nat) (v1 : Int32) (v2 : Int32) (I : gM) : fX8_link N [.ref 0, .int v1, .int v2] I = hX8_link_0 N v1 v2 I := rfl

def hX8_conflicts_0 (N : Nat) (v1 : Int32) (I : gM) : gO := fX8_conflicts_k0 N [some (.ref 0), some (.int v1)] [] I
theorem eX8_conflicts_0 (N : Nat) (v1 : Int32) (I : gM) : hX8_conflicts_0 N v1 I =
  hXV (fX8_checkLink N [.ref 0, .int v1] (gS (rg 0 204) I)) (rg 0 204) I fun I1 => ck 14 v1 <| some (.inl (some (.int ((I1 7 (nn v1))))), I1) := rfl
theorem eX8_conflicts (N : Nat) (v1 : Int32) (I : gM) : fX8_conflicts N [.ref 0, .int v1] I = hX8_conflicts_0 N v1 I := rfl

def hX8_flow_0 (N : Nat) (v1 : Int32) (v2 : Int32) (I : gM) : gO := fX8_flow_k0 N [some (.ref 0), some (.int v1), some (.int v2)] [] I
theorem eX8_flow_0 (N : Nat) (v1 : Int32) (v2 : Int32) (I : gM) : hX8_flow_0 N v1 v2 I =
  hXV (fX8_checkFlow N [.ref 0, .int v1] (gS (rg 0 204) I)) (rg 0 204) I fun I1 => hXV (fX8_checkRange N [.int v2, .int 0, .int 10] (gS [] I1)) [] I1 fun I2 => hI (fX2_getNumber N [.ref 0, .int v1, .int v2] (gS (rg 2 9) I2)) (rg 2 9) I2 fun x3 I3 => some (.inl (some (.int x3)), I3) := rfl
theorem eX8_flow (N : Nat) (v1 : Int32) (v2 : Int32) (I : gM) : fX8_flow N [.ref 0, .int v1, .int v2] I = hX8_flow_0 N v1 v2 I := rfl

def hX8_hops_0 (N : Nat) (v1 : Int32) (v2 : Int32) (I : gM) : gO := fX8_hops_k0 N [some (.ref 0), some (.int v1), some (.int v2)] [] I
theorem eX8_hops_0 (N : Nat) (v1 : Int32) (v2 : Int32) (I : gM) : hX8_hops_0 N v1 v2 I =
  hXV (fX8_checkNode N [.ref 0, .int v1] (gS (rg 0 204) I)) (rg 0 204) I fun I1 => hXV (fX8_checkNode N [.ref 0, .int v2] (gS (rg 0 204) I1)) (rg 0 204) I1 fun I2 => hI (fX8_pair N [.int v1, .int v2] (gS [] I2)) [] I2 fun x3 I3 => ck 100 x3 <| some (.inl (some (.int ((I3 10 (nn x3))))), I3) := rfl
theorem eX8_hops (N : Nat) (v1 : Int32) (v2 : Int32) (I : gM) : fX8_hops N [.ref 0, .int v1, .int v2] I = hX8_hops_0 N v1 v2 I := rfl

def hX8_maxFlow_0 (N : Nat) (v1 : Int32) (v2 : Int32) (I : gM) : gO := fX8_maxFlow_k0 N [some (.ref 0), some (.int v1), some (.int v2)] [] I
theorem eX8_maxFlow_0 (N : Nat) (v1 : Int32) (v2 : Int32) (I : gM) : hX8_maxFlow_0 N v1 v2 I =
  hXV (fX8_checkTwoNodes N [.ref 0, .int v1, .int v2] (gS (rg 0 204) I)) (rg 0 204) I fun I1 => hV (fX0_find N [.ref 0, .ref 3, .int v1, .int v2] (gS (rg 201 3 ++ rg 2 9) I1)) (rg 201 3 ++ rg 2 9) I1 fun I2 => some (.inl (some (.int (I2 201 2))), I2) := rfl
theorem eX8_maxFlow (N : Nat) (v1 : Int32) (v2 : Int32) (I : gM) : fX8_maxFlow N [.ref 0, .int v1, .int v2] I = hX8_maxFlow_0 N v1 v2 I := rfl

def hX8_cutSide_0 (N : Nat) (v1 : Int32) (v2 : Int32) (I : gM) : gO := fX8_cutSide_k0 N [some (.ref 0), some (.int v1), some (.int v2)] [] I
theorem eX8_cutSide_0 (N : Nat) (v1 : Int32) (v2 : Int32) (I : gM) : hX8_cutSide_0 N v1 v2 I =
  hXV (fX8_checkTwoNodes N [.ref 0, .int v1, .int v2] (gS (rg 0 204) I)) (rg 0 204) I fun I1 => hV (fX0_find N [.ref 0, .ref 3, .int v1, .int v2] (gS (rg 201 3 ++ rg 2 9) I1)) (rg 201 3 ++ rg 2 9) I1 fun I2 => some (.inl (some (.int (I2 201 3))), I2) := rfl
theorem eX8_cutSide (N : Nat) (v1 : Int32) (v2 : Int32) (I : gM) : fX8_cutSide N [.ref 0, .int v1, .int v2] I = hX8_cutSide_0 N v1 v2 I := rfl

def hX8_overloaded_0 (N : Nat) (I : gM) : gO := fX8_overloaded_k0 N [some (.ref 0), none, none, none] [] I
def hX8_overloaded_12 (N : Nat) (n12 : Nat) (v2 : Int32) (v3 : Int32) (I : gM) : gO := s_lp (fX8_overloaded_b12 N) n12 [some (.ref 0), some (.ref 2), some (.int v2), some (.int v3)] [] I
def hX8_overloaded_65 (N : Nat) (n12 : Nat) (v2 : Int32) (v3 : Int32) (I : gM) : gO := fX8_overloaded_k65 N (s_lp (fX8_overloaded_b12 N) n12) [some (.ref 0), some (.ref 2), some (.int v2), some (.int v3)] [] I
theorem eX8_overloaded_0 (N : Nat) (I : gM) : hX8_overloaded_0 N I =
  hX8_overloaded_12 N N 0 0 I := rfl
theorem eX8_overloaded_12 (N : Nat) (n12 : Nat) (v2 : Int32) (v3 : Int32) (I : gM) : hX8_overloaded_12 N (n12 + 1) v2 v3 I =
  if gc_ge v3 (I 2 2) = true then (some (.inl (some (.int v2)), I)) else (hI (fX2_getNumber N [.ref 0, .int v3, .int 0] (gS (rg 2 9) I)) (rg 2 9) I fun x1 I1 => hI (fX2_getNumber N [.ref 0, .int v3, .int 1] (gS (rg 2 9) I1)) (rg 2 9) I1 fun x2 I2 => hV (fX0_find N [.ref 0, .ref 3, .int x1, .int x2] (gS (rg 201 3 ++ rg 2 9) I2)) (rg 201 3 ++ rg 2 9) I2 fun I3 => hI (fX2_getNumber N [.ref 0, .int v3, .int 2] (gS (rg 2 9) I3)) (rg 2 9) I3 fun x4 I4 => if gc_le x4 ((100 * (I4 201 2))) = true then (hX8_overloaded_65 N n12 v2 v3 I4) else (hX8_overloaded_65 N n12 ((v2 ||| (gb_shl 1 v3))) v3 I4)) := rfl
theorem eX8_overloaded_12z (N : Nat) (v2 : Int32) (v3 : Int32) (I : gM) : hX8_overloaded_12 N 0 v2 v3 I = none := rfl
theorem eX8_overloaded_65 (N : Nat) (n12 : Nat) (v2 : Int32) (v3 : Int32) (I : gM) : hX8_overloaded_65 N n12 v2 v3 I =
  hX8_overloaded_12 N n12 v2 (v3 + 1) I := rfl
theorem eX8_overloaded (N : Nat) (I : gM) : fX8_overloaded N [.ref 0] I = hX8_overloaded_0 N I := rfl

def hX8_queue_0 (N : Nat) (v1 : Int32) (v2 : Int32) (I : gM) : gO := fX8_queue_k0 N [some (.ref 0), some (.int v1), some (.int v2)] [] I
theorem eX8_queue_0 (N : Nat) (v1 : Int32) (v2 : Int32) (I : gM) : hX8_queue_0 N v1 v2 I =
  hXV (fX8_checkTwoNodes N [.ref 0, .int v1, .int v2] (gS (rg 0 204) I)) (rg 0 204) I fun I1 => hI (fX8_pair N [.int v1, .int v2] (gS [] I1)) [] I1 fun x2 I2 => ck 100 x2 <| some (.inl (some (.int ((I2 14 (nn x2))))), I2) := rfl
theorem eX8_queue (N : Nat) (v1 : Int32) (v2 : Int32) (I : gM) : fX8_queue N [.ref 0, .int v1, .int v2] I = hX8_queue_0 N v1 v2 I := rfl

def hX8_shadow_0 (N : Nat) (v1 : Int32) (v2 : Int32) (I : gM) : gO := fX8_shadow_k0 N [some (.ref 0), some (.int v1), some (.int v2)] [] I
theorem eX8_shadow_0 (N : Nat) (v1 : Int32) (v2 : Int32) (I : gM) : hX8_shadow_0 N v1 v2 I =
  hXV (fX8_checkTwoNodes N [.ref 0, .int v1, .int v2] (gS (rg 0 204) I)) (rg 0 204) I fun I1 => hI (fX8_pair N [.int v1, .int v2] (gS [] I1)) [] I1 fun x2 I2 => ck 100 x2 <| some (.inl (some (.int ((I2 15 (nn x2))))), I2) := rfl
theorem eX8_shadow (N : Nat) (v1 : Int32) (v2 : Int32) (I : gM) : fX8_shadow N [.ref 0, .int v1, .int v2] I = hX8_shadow_0 N v1 v2 I := rfl

def hX8_packet_0 (N : Nat) (v1 : Int32) (v2 : Int32) (v3 : Int32) (v4 : Int32) (I : gM) : gO := fX8_packet_k0 N [some (.ref 0), some (.int v1), some (.int v2), some (.int v3), some (.int v4), none] [] I
theorem eX8_packet_0 (N : Nat) (v1 : Int32) (v2 : Int32) (v3 : Int32) (v4 : Int32) (I : gM) : hX8_packet_0 N v1 v2 v3 v4 I =
  hXV (fX8_checkTwoNodes N [.ref 0, .int v1, .int v2] (gS (rg 0 204) I)) (rg 0 204) I fun I1 => hXV (fX8_checkRange N [.int v4, .int 0, .int 3] (gS [] I1)) [] I1 fun I2 => hI (fX8_pair N [.int v1, .int v2] (gS [] I2)) [] I2 fun x3 I3 => hI (fX4_find N [.ref 0, .int x3, .int v3] (gS (rg 11 10) I3)) (rg 11 10) I3 fun x4 I4 => if gc_ne x4 (-1) = true then (hT v4 0 2 (ck 500 x4 <| some (.inl (some (.int ((I4 20 (nn x4))))), I4)) [ck 500 x4 <| some (.inl (some (.int ((I4 17 (nn x4))))), I4), ck 500 x4 <| some (.inl (some (.int ((I4 18 (nn x4))))), I4), ck 500 x4 <| some (.inl (some (.int ((I4 19 (nn x4))))), I4)]) else (some (.inr "java/util/NoSuchElementException", I4)) := rfl
theorem eX8_packet (N : Nat) (v1 : Int32) (v2 : Int32) (v3 : Int32) (v4 : Int32) (I : gM) : fX8_packet N [.ref 0, .int v1, .int v2, .int v3, .int v4] I = hX8_packet_0 N v1 v2 v3 v4 I := rfl

def hX8_totalOf_0 (N : Nat) (v1 : Int32) (I : gM) : gO := fX8_totalOf_k0 N [some (.ref 0), some (.int v1)] [] I
theorem eX8_totalOf_0 (N : Nat) (v1 : Int32) (I : gM) : hX8_totalOf_0 N v1 I =
  hT v1 0 4 (hJ (fX8_sumOfSquares N [.ref 0] (gS [14] I)) [14] I fun x1 I1 => some (.inl (some (.long x1)), I1)) [some (.inl (some (.long (((I 0 2)).toInt64))), I), some (.inl (some (.long (((I 10 11)).toInt64))), I), some (.inl (some (.long (((I 0 3)).toInt64))), I), hJ (fX8_sum N [.ref 0] (gS [14] I)) [14] I fun x2 I2 => some (.inl (some (.long x2)), I2), hJ (fX8_sumOfSquares N [.ref 0] (gS [13] I)) [13] I fun x3 I3 => some (.inl (some (.long x3)), I3)] := rfl
theorem eX8_totalOf (N : Nat) (v1 : Int32) (I : gM) : fX8_totalOf N [.ref 0, .int v1] I = hX8_totalOf_0 N v1 I := rfl

def hX8_total_0 (N : Nat) (v1 : Int32) (I : gM) : gO := fX8_total_k0 N [some (.ref 0), some (.int v1)] [] I
theorem eX8_total_0 (N : Nat) (v1 : Int32) (I : gM) : hX8_total_0 N v1 I =
  hXV (fX8_checkRange N [.int v1, .int 0, .int 5] (gS [] I)) [] I fun I1 => hJ (fX8_totalOf N [.ref 0, .int v1] (gS (rg 1 20) I1)) (rg 1 20) I1 fun x2 I2 => some (.inl (some (.long x2)), I2) := rfl
theorem eX8_total (N : Nat) (v1 : Int32) (I : gM) : fX8_total N [.ref 0, .int v1] I = hX8_total_0 N v1 I := rfl

def hX8_fullest_0 (N : Nat) (I : gM) : gO := fX8_fullest_k0 N [some (.ref 0), none, none, none] [] I
def hX8_fullest_15 (N : Nat) (n15 : Nat) (v2 : Int32) (v3 : Int32) (I : gM) : gO := s_lp (fX8_fullest_b15 N) n15 [none, some (.ref 14), some (.int v2), some (.int v3)] [] I
def hX8_fullest_32 (N : Nat) (n15 : Nat) (v2 : Int32) (v3 : Int32) (I : gM) : gO := fX8_fullest_k32 N (s_lp (fX8_fullest_b15 N) n15) [none, some (.ref 14), some (.int v2), some (.int v3)] [] I
theorem eX8_fullest_0 (N : Nat) (I : gM) : hX8_fullest_0 N I =
  hX8_fullest_15 N N 0 1 I := rfl
theorem eX8_fullest_15 (N : Nat) (n15 : Nat) (v2 : Int32) (v3 : Int32) (I : gM) : hX8_fullest_15 N (n15 + 1) v2 v3 I =
  if gc_ge v3 100 = true then (ck 100 v2 <| if gz_ne ((I 14 (nn v2))) = true then (if 10 = 0 then none else if 10 = 0 then none else some (.inl (some (.int ((((100 * (gb_div v2 10))) + (gb_rem v2 10))))), I)) else (some (.inr "java/util/NoSuchElementException", I))) else (ck 100 v3 <| ck 100 v2 <| if gc_le ((I 14 (nn v3))) ((I 14 (nn v2))) = true then (hX8_fullest_32 N n15 v2 v3 I) else (hX8_fullest_32 N n15 v3 v3 I)) := rfl
theorem eX8_fullest_15z (N : Nat) (v2 : Int32) (v3 : Int32) (I : gM) : hX8_fullest_15 N 0 v2 v3 I = none := rfl
theorem eX8_fullest_32 (N : Nat) (n15 : Nat) (v2 : Int32) (v3 : Int32) (I : gM) : hX8_fullest_32 N n15 v2 v3 I =
  hX8_fullest_15 N n15 v2 (v3 + 1) I := rfl
theorem eX8_fullest (N : Nat) (I : gM) : fX8_fullest N [.ref 0] I = hX8_fullest_0 N I := rfl

def hX8_urgent_0 (N : Nat) (I : gM) : gO := fX8_urgent_k0 N [some (.ref 0), none] [] I
theorem eX8_urgent_0 (N : Nat) (I : gM) : hX8_urgent_0 N I =
  hI (fX7_leastDeadline N [.ref 0] (gS (rg 1 20) I)) (rg 1 20) I fun x1 I1 => if gc_ne x1 (-1) = true then (some (.inl (some (.int ((gj_max 0 ((x1 - (I1 1 2))))))), I1)) else (some (.inr "java/util/NoSuchElementException", I1)) := rfl
theorem eX8_urgent (N : Nat) (I : gM) : fX8_urgent N [.ref 0] I = hX8_urgent_0 N I := rfl

def hX8_meanDelay_0 (N : Nat) (v1 : Int32) (v2 : Int32) (I : gM) : gO := fX8_meanDelay_k0 N [some (.ref 0), some (.int v1), some (.int v2), none, none, none] [] I
theorem eX8_meanDelay_0 (N : Nat) (v1 : Int32) (v2 : Int32) (I : gM) : hX8_meanDelay_0 N v1 v2 I =
  hXV (fX8_checkFlow N [.ref 0, .int v1] (gS (rg 0 204) I)) (rg 0 204) I fun I1 => hI (fX2_getNumber N [.ref 0, .int v1, .int 9] (gS (rg 2 9) I1)) (rg 2 9) I1 fun x2 I2 => hI (fX2_getNumber N [.ref 0, .int v1, .int 6] (gS (rg 2 9) I2)) (rg 2 9) I2 fun x3 I3 => hI (fX8_commonDivisor N [.int x2, .int x3] (gS [] I3)) [] I3 fun x4 I4 => if gz_eq x3 = true then (some (.inr "java/util/NoSuchElementException", I4)) else (if gz_ne x4 = true then (if gz_eq v2 = true then (if x4 = 0 then none else some (.inl (some (.int (gb_div x2 x4))), I4)) else (if x4 = 0 then none else some (.inl (some (.int (gb_div x3 x4))), I4))) else (some (.inr "java/util/NoSuchElementException", I4))) := rfl
theorem eX8_meanDelay (N : Nat) (v1 : Int32) (v2 : Int32) (I : gM) : fX8_meanDelay N [.ref 0, .int v1, .int v2] I = hX8_meanDelay_0 N v1 v2 I := rfl

def hX8_schedule_0 (N : Nat) (v1 : Int32) (I : gM) : gO := fX8_schedule_k0 N [some (.ref 0), some (.int v1)] [] I
theorem eX8_schedule_0 (N : Nat) (v1 : Int32) (I : gM) : hX8_schedule_0 N v1 I =
  if gRng 1200 1201 1200 ∧ ¬ (3 < 0 ∨ 4 ≤ (3 : Int32).toNatClampNeg) then hXV (fX8_checkRange N [.int v1, .int 0, .int ((gGS.getD (3 : Int32).toNatClampNeg 0))] (gS [] I)) [] I fun I1 => hI (fX3_choose N [.ref 0, .ref 3, .int v1] (gS (rg 195 3 ++ rg 1 20) I1)) (rg 195 3 ++ rg 1 20) I1 fun x2 I2 => some (.inl (some (.int x2)), I2) else none := rfl
theorem eX8_schedule (N : Nat) (v1 : Int32) (I : gM) : fX8_schedule N [.ref 0, .int v1] I = hX8_schedule_0 N v1 I := rfl

def hX8_scheduleWeight_0 (N : Nat) (v1 : Int32) (I : gM) : gO := fX8_scheduleWeight_k0 N [some (.ref 0), some (.int v1)] [] I
theorem eX8_scheduleWeight_0 (N : Nat) (v1 : Int32) (I : gM) : hX8_scheduleWeight_0 N v1 I =
  if gRng 1200 1201 1200 ∧ ¬ (3 < 0 ∨ 4 ≤ (3 : Int32).toNatClampNeg) then hXV (fX8_checkRange N [.int v1, .int 0, .int ((gGS.getD (3 : Int32).toNatClampNeg 0))] (gS [] I)) [] I fun I1 => hI (fX3_choose N [.ref 0, .ref 3, .int v1] (gS (rg 195 3 ++ rg 1 20) I1)) (rg 195 3 ++ rg 1 20) I1 fun x2 I2 => hI (fX3_sumOfWeights N [.int x2, .ref 0] (gS [197] I2)) [197] I2 fun x3 I3 => some (.inl (some (.int x3)), I3) else none := rfl
theorem eX8_scheduleWeight (N : Nat) (v1 : Int32) (I : gM) : fX8_scheduleWeight N [.ref 0, .int v1] I = hX8_scheduleWeight_0 N v1 I := rfl

def hX8_forecast_0 (N : Nat) (v1 : Int32) (v2 : Int32) (I : gM) : gO := fX8_forecast_k0 N [some (.ref 0), some (.int v1), some (.int v2)] [] I
theorem eX8_forecast_0 (N : Nat) (v1 : Int32) (v2 : Int32) (I : gM) : hX8_forecast_0 N v1 v2 I =
  hXV (fX8_checkRange N [.int v1, .int 1, .int 50] (gS [] I)) [] I fun I1 => hXV (fX8_checkRange N [.int v2, .int 0, .int 5] (gS [] I1)) [] I1 fun I2 => hV (fX7_copyFrom N [.ref 0, .ref 20] (gS (rg 41 20 ++ rg 1 20) I2)) (rg 41 20 ++ rg 1 20) I2 fun I3 => hV (fX6_passSlots N [.ref 0, .ref 7, .int v1] (gS (rg 194 7 ++ rg 41 20) I3)) (rg 194 7 ++ rg 41 20) I3 fun I4 => hJ (fX8_totalOf N [.ref 0, .int v2] (gS (rg 41 20) I4)) (rg 41 20) I4 fun x5 I5 => some (.inl (some (.long x5)), I5) := rfl
theorem eX8_forecast (N : Nat) (v1 : Int32) (v2 : Int32) (I : gM) : fX8_forecast N [.ref 0, .int v1, .int v2] I = hX8_forecast_0 N v1 v2 I := rfl

def hX8_forecastFlow_0 (N : Nat) (v1 : Int32) (v2 : Int32) (v3 : Int32) (I : gM) : gO := fX8_forecastFlow_k0 N [some (.ref 0), some (.int v1), some (.int v2), some (.int v3)] [] I
theorem eX8_forecastFlow_0 (N : Nat) (v1 : Int32) (v2 : Int32) (v3 : Int32) (I : gM) : hX8_forecastFlow_0 N v1 v2 v3 I =
  hXV (fX8_checkFlow N [.ref 0, .int v1] (gS (rg 0 204) I)) (rg 0 204) I fun I1 => hXV (fX8_checkRange N [.int v2, .int 1, .int 50] (gS [] I1)) [] I1 fun I2 => hXV (fX8_checkRange N [.int v3, .int 0, .int 10] (gS [] I2)) [] I2 fun I3 => hV (fX7_copyFrom N [.ref 0, .ref 20] (gS (rg 41 20 ++ rg 1 20) I3)) (rg 41 20 ++ rg 1 20) I3 fun I4 => hV (fX6_passSlots N [.ref 0, .ref 7, .int v2] (gS (rg 194 7 ++ rg 41 20) I4)) (rg 194 7 ++ rg 41 20) I4 fun I5 => hI (fX2_getNumber N [.ref 0, .int v1, .int v3] (gS (rg 42 9) I5)) (rg 42 9) I5 fun x6 I6 => some (.inl (some (.int x6)), I6) := rfl
theorem eX8_forecastFlow (N : Nat) (v1 : Int32) (v2 : Int32) (v3 : Int32) (I : gM) : fX8_forecastFlow N [.ref 0, .int v1, .int v2, .int v3] I = hX8_forecastFlow_0 N v1 v2 v3 I := rfl

def hX8_slotsToFull_0 (N : Nat) (v1 : Int32) (v2 : Int32) (I : gM) : gO := fX8_slotsToFull_k0 N [some (.ref 0), some (.int v1), some (.int v2), none] [] I
def hX8_slotsToFull_28 (N : Nat) (n28 : Nat) (v1 : Int32) (v2 : Int32) (v3 : Int32) (I : gM) : gO := s_lp (fX8_slotsToFull_b28 N) n28 [some (.ref 0), some (.int v1), some (.int v2), some (.int v3)] [] I
def hX8_slotsToFull_65 (N : Nat) (n28 : Nat) (v1 : Int32) (v2 : Int32) (v3 : Int32) (I : gM) : gO := fX8_slotsToFull_k65 N (s_lp (fX8_slotsToFull_b28 N) n28) [some (.ref 0), some (.int v1), some (.int v2), some (.int v3)] [] I
theorem eX8_slotsToFull_0 (N : Nat) (v1 : Int32) (v2 : Int32) (I : gM) : hX8_slotsToFull_0 N v1 v2 I =
  hXV (fX8_checkRange N [.int v1, .int 1, .int 50] (gS [] I)) [] I fun I1 => hXV (fX8_checkRange N [.int v2, .int 1, .int 500] (gS [] I1)) [] I1 fun I2 => hV (fX7_copyFrom N [.ref 0, .ref 20] (gS (rg 41 20 ++ rg 1 20) I2)) (rg 41 20 ++ rg 1 20) I2 fun I3 => hX8_slotsToFull_28 N N v1 v2 0 I3 := rfl
theorem eX8_slotsToFull_28 (N : Nat) (n28 : Nat) (v1 : Int32) (v2 : Int32) (v3 : Int32) (I : gM) : hX8_slotsToFull_28 N (n28 + 1) v1 v2 v3 I =
  if gc_gt v3 v1 = true then (some (.inr "java/util/NoSuchElementException", I)) else (if gc_lt (I 51 11) v2 = true then (if gc_ge v3 v1 = true then (hX8_slotsToFull_65 N n28 v1 v2 v3 I) else (hV (fX6_passSlot N [.ref 0, .ref 7] (gS (rg 194 7 ++ rg 41 20) I)) (rg 194 7 ++ rg 41 20) I fun I4 => hX8_slotsToFull_65 N n28 v1 v2 v3 I4)) else (some (.inl (some (.int v3)), I))) := rfl
theorem eX8_slotsToFull_28z (N : Nat) (v1 : Int32) (v2 : Int32) (v3 : Int32) (I : gM) : hX8_slotsToFull_28 N 0 v1 v2 v3 I = none := rfl
theorem eX8_slotsToFull_65 (N : Nat) (n28 : Nat) (v1 : Int32) (v2 : Int32) (v3 : Int32) (I : gM) : hX8_slotsToFull_65 N n28 v1 v2 v3 I =
  hX8_slotsToFull_28 N n28 v1 v2 (v3 + 1) I := rfl
theorem eX8_slotsToFull (N : Nat) (v1 : Int32) (v2 : Int32) (I : gM) : fX8_slotsToFull N [.ref 0, .int v1, .int v2] I = hX8_slotsToFull_0 N v1 v2 I := rfl

def hX8_bestBias_0 (N : Nat) (v1 : Int32) (I : gM) : gO := fX8_bestBias_k0 N [some (.ref 0), some (.int v1), none, none, none, none, none, none] [] I
def hX8_bestBias_17 (N : Nat) (n17 : Nat) (v1 : Int32) (v2 : Int32) (v3 : Int32) (v4 : Int32) (v5 : Int32) (I : gM) : gO := s_lp (fX8_bestBias_b17 N) n17 [some (.ref 0), some (.int v1), some (.int v2), some (.int v3), some (.int v4), some (.int v5), none, none] [] I
def hX8_bestBias_114 (N : Nat) (n17 : Nat) (v1 : Int32) (v5 : Int32) (v6 : Int32) (v7 : Int32) (I : gM) : gO := fX8_bestBias_k114 N (s_lp (fX8_bestBias_b17 N) n17) [some (.ref 0), some (.int v1), none, none, none, some (.int v5), some (.int v6), some (.int v7)] [] I
def hX8_bestBias_124 (N : Nat) (n17 : Nat) (v1 : Int32) (v2 : Int32) (v3 : Int32) (v4 : Int32) (v5 : Int32) (I : gM) : gO := fX8_bestBias_k124 N (s_lp (fX8_bestBias_b17 N) n17) [some (.ref 0), some (.int v1), some (.int v2), some (.int v3), some (.int v4), some (.int v5), none, none] [] I
theorem eX8_bestBias_0 (N : Nat) (v1 : Int32) (I : gM) : hX8_bestBias_0 N v1 I =
  hXV (fX8_checkRange N [.int v1, .int 1, .int 50] (gS [] I)) [] I fun I1 => hX8_bestBias_17 N N v1 0 0 0 0 I1 := rfl
theorem eX8_bestBias_17 (N : Nat) (n17 : Nat) (v1 : Int32) (v2 : Int32) (v3 : Int32) (v4 : Int32) (v5 : Int32) (I : gM) : hX8_bestBias_17 N (n17 + 1) v1 v2 v3 v4 v5 I =
  if gRng 1200 1201 1200 ∧ ¬ (2 < 0 ∨ 4 ≤ (2 : Int32).toNatClampNeg) then if gc_gt v5 ((gGS.getD (2 : Int32).toNatClampNeg 0)) = true then (some (.inl (some (.int v2)), I)) else (hV (fX7_copyFrom N [.ref 0, .ref 20] (gS (rg 41 20 ++ rg 1 20) I)) (rg 41 20 ++ rg 1 20) I fun I2 => ck 4 2 <| hV (fX6_passSlots N [.ref 0, .ref 7, .int v1] (gS (rg 194 7 ++ rg 41 20) (gU I2 48 (nn 2) v5))) (rg 194 7 ++ rg 41 20) (gU I2 48 (nn 2) v5) fun I3 => hI (fX2_sumNumber N [.ref 0, .int 8] (gS (rg 42 9) I3)) (rg 42 9) I3 fun x4 I4 => if gz_eq v5 = true then (hX8_bestBias_114 N n17 v1 v5 (I3 51 11) x4 I4) else (if gc_lt (I3 51 11) v3 = true then (hX8_bestBias_114 N n17 v1 v5 (I3 51 11) x4 I4) else (if gc_ne (I3 51 11) v3 = true then (hX8_bestBias_124 N n17 v1 v2 v3 v4 v5 I4) else (if gc_ge x4 v4 = true then (hX8_bestBias_124 N n17 v1 v2 v3 v4 v5 I4) else (hX8_bestBias_114 N n17 v1 v5 (I3 51 11) x4 I4))))) else none := rfl
theorem eX8_bestBias_17z (N : Nat) (v1 : Int32) (v2 : Int32) (v3 : Int32) (v4 : Int32) (v5 : Int32) (I : gM) : hX8_bestBias_17 N 0 v1 v2 v3 v4 v5 I = none := rfl
theorem eX8_bestBias_114 (N : Nat) (n17 : Nat) (v1 : Int32) (v5 : Int32) (v6 : Int32) (v7 : Int32) (I : gM) : hX8_bestBias_114 N n17 v1 v5 v6 v7 I =
  hX8_bestBias_124 N n17 v1 v5 v6 v7 v5 I := rfl
theorem eX8_bestBias_124 (N : Nat) (n17 : Nat) (v1 : Int32) (v2 : Int32) (v3 : Int32) (v4 : Int32) (v5 : Int32) (I : gM) : hX8_bestBias_124 N n17 v1 v2 v3 v4 v5 I =
  hX8_bestBias_17 N n17 v1 v2 v3 v4 (v5 + 1) I := rfl
theorem eX8_bestBias (N : Nat) (v1 : Int32) (I : gM) : fX8_bestBias N [.ref 0, .int v1] I = hX8_bestBias_0 N v1 I := rfl

def hX8_bestExcess_0 (N : Nat) (v1 : Int32) (I : gM) : gO := fX8_bestExcess_k0 N [some (.ref 0), some (.int v1), none, none, none, none] [] I
def hX8_bestExcess_14 (N : Nat) (n14 : Nat) (v1 : Int32) (v2 : Int32) (v3 : Int32) (v4 : Int32) (I : gM) : gO := s_lp (fX8_bestExcess_b14 N) n14 [some (.ref 0), some (.int v1), some (.int v2), some (.int v3), some (.int v4), none] [] I
def hX8_bestExcess_100 (N : Nat) (n14 : Nat) (v1 : Int32) (v2 : Int32) (v3 : Int32) (v4 : Int32) (I : gM) : gO := fX8_bestExcess_k100 N (s_lp (fX8_bestExcess_b14 N) n14) [some (.ref 0), some (.int v1), some (.int v2), some (.int v3), some (.int v4), none] [] I
theorem eX8_bestExcess_0 (N : Nat) (v1 : Int32) (I : gM) : hX8_bestExcess_0 N v1 I =
  hXV (fX8_checkRange N [.int v1, .int 1, .int 50] (gS [] I)) [] I fun I1 => hX8_bestExcess_14 N N v1 0 (-1) 0 I1 := rfl
theorem eX8_bestExcess_14 (N : Nat) (n14 : Nat) (v1 : Int32) (v2 : Int32) (v3 : Int32) (v4 : Int32) (I : gM) : hX8_bestExcess_14 N (n14 + 1) v1 v2 v3 v4 I =
  if gRng 1200 1201 1200 ∧ ¬ (1 < 0 ∨ 4 ≤ (1 : Int32).toNatClampNeg) then if gc_gt v4 ((gGS.getD (1 : Int32).toNatClampNeg 0)) = true then (some (.inl (some (.int v2)), I)) else (hV (fX7_copyFrom N [.ref 0, .ref 20] (gS (rg 41 20 ++ rg 1 20) I)) (rg 41 20 ++ rg 1 20) I fun I2 => ck 4 0 <| ck 4 1 <| hV (fX6_passSlots N [.ref 0, .ref 7, .int v1] (gS (rg 194 7 ++ rg 41 20) (gU (gU I2 48 (nn 0) 1) 48 (nn 1) v4))) (rg 194 7 ++ rg 41 20) (gU (gU I2 48 (nn 0) 1) 48 (nn 1) v4) fun I3 => hI (fX2_sumNumber N [.ref 0, .int 6] (gS (rg 42 9) I3)) (rg 42 9) I3 fun x4 I4 => if gc_le x4 v3 = true then (hX8_bestExcess_100 N n14 v1 v2 v3 v4 I4) else (hX8_bestExcess_100 N n14 v1 v4 x4 v4 I4)) else none := rfl
theorem eX8_bestExcess_14z (N : Nat) (v1 : Int32) (v2 : Int32) (v3 : Int32) (v4 : Int32) (I : gM) : hX8_bestExcess_14 N 0 v1 v2 v3 v4 I = none := rfl
theorem eX8_bestExcess_100 (N : Nat) (n14 : Nat) (v1 : Int32) (v2 : Int32) (v3 : Int32) (v4 : Int32) (I : gM) : hX8_bestExcess_100 N n14 v1 v2 v3 v4 I =
  hX8_bestExcess_14 N n14 v1 v2 v3 (v4 + 10) I := rfl
theorem eX8_bestExcess (N : Nat) (v1 : Int32) (I : gM) : fX8_bestExcess N [.ref 0, .int v1] I = hX8_bestExcess_0 N v1 I := rfl

def hX8_bestSettings_0 (N : Nat) (v1 : Int32) (I : gM) : gO := fX8_bestSettings_k0 N [some (.ref 0), some (.int v1), none, none, none, none, none, none, none] [] I
def hX8_bestSettings_14 (N : Nat) (n14 : Nat) (v1 : Int32) (v2 : Int32) (v3 : Int64) (v5 : Int32) (I : gM) : gO := s_lp (fX8_bestSettings_b14 N) n14 [some (.ref 0), some (.int v1), some (.int v2), some (.long v3), none, some (.int v5), none, none, none] [] I
def hX8_bestSettings_27 (N : Nat) (n14 : Nat) (n27 : Nat) (v1 : Int32) (v2 : Int32) (v3 : Int64) (v5 : Int32) (v6 : Int32) (I : gM) : gO := s_lp (fX8_bestSettings_b27 N (s_lp (fX8_bestSettings_b14 N) n14)) n27 [some (.ref 0), some (.int v1), some (.int v2), some (.long v3), none, some (.int v5), some (.int v6), none, none] [] I
def hX8_bestSettings_115 (N : Nat) (n14 : Nat) (n27 : Nat) (v1 : Int32) (v5 : Int32) (v6 : Int32) (v7 : Int64) (I : gM) : gO := fX8_bestSettings_k115 N (s_lp (fX8_bestSettings_b14 N) n14) (s_lp (fX8_bestSettings_b27 N (s_lp (fX8_bestSettings_b14 N) n14)) n27) [some (.ref 0), some (.int v1), none, none, none, some (.int v5), some (.int v6), some (.long v7), none] [] I
def hX8_bestSettings_127 (N : Nat) (n14 : Nat) (n27 : Nat) (v1 : Int32) (v2 : Int32) (v3 : Int64) (v5 : Int32) (v6 : Int32) (I : gM) : gO := fX8_bestSettings_k127 N (s_lp (fX8_bestSettings_b14 N) n14) (s_lp (fX8_bestSettings_b27 N (s_lp (fX8_bestSettings_b14 N) n14)) n27) [some (.ref 0), some (.int v1), some (.int v2), some (.long v3), none, some (.int v5), some (.int v6), none, none] [] I
theorem eX8_bestSettings_0 (N : Nat) (v1 : Int32) (I : gM) : hX8_bestSettings_0 N v1 I =
  hXV (fX8_checkRange N [.int v1, .int 1, .int 50] (gS [] I)) [] I fun I1 => hX8_bestSettings_14 N N v1 (-1) 0 0 I1 := rfl
theorem eX8_bestSettings_14 (N : Nat) (n14 : Nat) (v1 : Int32) (v2 : Int32) (v3 : Int64) (v5 : Int32) (I : gM) : hX8_bestSettings_14 N (n14 + 1) v1 v2 v3 v5 I =
  if gRng 1200 1201 1200 ∧ ¬ (0 < 0 ∨ 4 ≤ (0 : Int32).toNatClampNeg) then if gc_gt v5 ((gGS.getD (0 : Int32).toNatClampNeg 0)) = true then (some (.inl (some (.int v2)), I)) else (hX8_bestSettings_27 N n14 N v1 v2 v3 v5 0 I) else none := rfl
theorem eX8_bestSettings_14z (N : Nat) (v1 : Int32) (v2 : Int32) (v3 : Int64) (v5 : Int32) (I : gM) : hX8_bestSettings_14 N 0 v1 v2 v3 v5 I = none := rfl
theorem eX8_bestSettings_27 (N : Nat) (n14 : Nat) (n27 : Nat) (v1 : Int32) (v2 : Int32) (v3 : Int64) (v5 : Int32) (v6 : Int32) (I : gM) : hX8_bestSettings_27 N n14 (n27 + 1) v1 v2 v3 v5 v6 I =
  if gRng 1200 1201 1200 ∧ ¬ (3 < 0 ∨ 4 ≤ (3 : Int32).toNatClampNeg) then if gc_gt v6 ((gGS.getD (3 : Int32).toNatClampNeg 0)) = true then (hX8_bestSettings_14 N n14 v1 v2 v3 (v5 + 1) I) else (hV (fX7_copyFrom N [.ref 0, .ref 20] (gS (rg 41 20 ++ rg 1 20) I)) (rg 41 20 ++ rg 1 20) I fun I2 => ck 4 0 <| ck 4 3 <| hV (fX6_passSlots N [.ref 0, .ref 7, .int v1] (gS (rg 194 7 ++ rg 41 20) (gU (gU I2 48 (nn 0) v5) 48 (nn 3) v6))) (rg 194 7 ++ rg 41 20) (gU (gU I2 48 (nn 0) v5) 48 (nn 3) v6) fun I3 => hJ (fX8_sumOfSquares N [.ref 0] (gS [54] I3)) [54] I3 fun x4 I4 => if gc_eq v2 (-1) = true then (hX8_bestSettings_115 N n14 n27 v1 v5 v6 x4 I4) else (if gz_ge (lg_cmp x4 v3) = true then (hX8_bestSettings_127 N n14 n27 v1 v2 v3 v5 v6 I4) else (hX8_bestSettings_115 N n14 n27 v1 v5 v6 x4 I4))) else none := rfl
theorem eX8_bestSettings_27z (N : Nat) (n14 : Nat) (v1 : Int32) (v2 : Int32) (v3 : Int64) (v5 : Int32) (v6 : Int32) (I : gM) : hX8_bestSettings_27 N n14 0 v1 v2 v3 v5 v6 I = none := rfl
theorem eX8_bestSettings_115 (N : Nat) (n14 : Nat) (n27 : Nat) (v1 : Int32) (v5 : Int32) (v6 : Int32) (v7 : Int64) (I : gM) : hX8_bestSettings_115 N n14 n27 v1 v5 v6 v7 I =
  hX8_bestSettings_127 N n14 n27 v1 (((10 * v5) + v6)) v7 v5 v6 I := rfl
theorem eX8_bestSettings_127 (N : Nat) (n14 : Nat) (n27 : Nat) (v1 : Int32) (v2 : Int32) (v3 : Int64) (v5 : Int32) (v6 : Int32) (I : gM) : hX8_bestSettings_127 N n14 n27 v1 v2 v3 v5 v6 I =
  hX8_bestSettings_27 N n14 n27 v1 v2 v3 v5 (v6 + 1) I := rfl
theorem eX8_bestSettings (N : Nat) (v1 : Int32) (I : gM) : fX8_bestSettings N [.ref 0, .int v1] I = hX8_bestSettings_0 N v1 I := rfl

def hX8_staysSmall_0 (N : Nat) (v1 : Int32) (v2 : Int32) (v3 : Int32) (I : gM) : gO := fX8_staysSmall_k0 N [some (.ref 0), some (.int v1), some (.int v2), some (.int v3), none] [] I
def hX8_staysSmall_27 (N : Nat) (n27 : Nat) (v3 : Int32) (v4 : Int32) (I : gM) : gO := s_lp (fX8_staysSmall_b27 N) n27 [some (.ref 0), none, none, some (.int v3), some (.int v4)] [] I
theorem eX8_staysSmall_0 (N : Nat) (v1 : Int32) (v2 : Int32) (v3 : Int32) (I : gM) : hX8_staysSmall_0 N v1 v2 v3 I =
  hV (fX7_copyFrom N [.ref 0, .ref 20] (gS (rg 41 20 ++ rg 1 20) I)) (rg 41 20 ++ rg 1 20) I fun I1 => hV (fX2_putNumber N [.ref 0, .int v1, .int 2, .int v2] (gS (rg 42 9) I1)) (rg 42 9) I1 fun I2 => hX8_staysSmall_27 N N v3 0 I2 := rfl
theorem eX8_staysSmall_27 (N : Nat) (n27 : Nat) (v3 : Int32) (v4 : Int32) (I : gM) : hX8_staysSmall_27 N (n27 + 1) v3 v4 I =
  if gc_ge v4 v3 = true then (some (.inl (some (.int 1)), I)) else (hV (fX6_passSlot N [.ref 0, .ref 7] (gS (rg 194 7 ++ rg 41 20) I)) (rg 194 7 ++ rg 41 20) I fun I3 => if gc_le (I3 51 11) 100 = true then (hX8_staysSmall_27 N n27 v3 (v4 + 1) I3) else (some (.inl (some (.int 0)), I3))) := rfl
theorem eX8_staysSmall_27z (N : Nat) (v3 : Int32) (v4 : Int32) (I : gM) : hX8_staysSmall_27 N 0 v3 v4 I = none := rfl
theorem eX8_staysSmall (N : Nat) (v1 : Int32) (v2 : Int32) (v3 : Int32) (I : gM) : fX8_staysSmall N [.ref 0, .int v1, .int v2, .int v3] I = hX8_staysSmall_0 N v1 v2 v3 I := rfl

def hX8_sustainable_0 (N : Nat) (v1 : Int32) (v2 : Int32) (I : gM) : gO := fX8_sustainable_k0 N [some (.ref 0), some (.int v1), some (.int v2), none, none] [] I
def hX8_sustainable_17 (N : Nat) (n17 : Nat) (v1 : Int32) (v2 : Int32) (v3 : Int32) (v4 : Int32) (I : gM) : gO := s_lp (fX8_sustainable_b17 N) n17 [some (.ref 0), some (.int v1), some (.int v2), some (.int v3), some (.int v4)] [] I
theorem eX8_sustainable_0 (N : Nat) (v1 : Int32) (v2 : Int32) (I : gM) : hX8_sustainable_0 N v1 v2 I =
  hXV (fX8_checkFlow N [.ref 0, .int v1] (gS (rg 0 204) I)) (rg 0 204) I fun I1 => hXV (fX8_checkRange N [.int v2, .int 1, .int 20] (gS [] I1)) [] I1 fun I2 => hX8_sustainable_17 N N v1 v2 (-1) 0 I2 := rfl
theorem eX8_sustainable_17 (N : Nat) (n17 : Nat) (v1 : Int32) (v2 : Int32) (v3 : Int32) (v4 : Int32) (I : gM) : hX8_sustainable_17 N (n17 + 1) v1 v2 v3 v4 I =
  if gc_gt v4 300 = true then (some (.inl (some (.int v3)), I)) else (hI (fX8_staysSmall N [.ref 0, .int v1, .int v4, .int v2] (gS (rg 0 204) I)) (rg 0 204) I fun x3 I3 => if gz_ne x3 = true then (hX8_sustainable_17 N n17 v1 v2 v4 (v4 + 1) I3) else (some (.inl (some (.int v3)), I3))) := rfl
theorem eX8_sustainable_17z (N : Nat) (v1 : Int32) (v2 : Int32) (v3 : Int32) (v4 : Int32) (I : gM) : hX8_sustainable_17 N 0 v1 v2 v3 v4 I = none := rfl
theorem eX8_sustainable (N : Nat) (v1 : Int32) (v2 : Int32) (I : gM) : fX8_sustainable N [.ref 0, .int v1, .int v2] I = hX8_sustainable_0 N v1 v2 I := rfl

