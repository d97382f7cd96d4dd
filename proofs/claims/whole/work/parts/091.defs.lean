/-! ===== every method as a function of its arguments and its world ===== -/
def fJP_checkIndex_k0 (N : Nat) : gK :=
  s_iload 0 <| s_if gz_lt (s_none) (s_iload 0 <| s_iload 1 <| s_cmp gc_lt (s_iload 0 <| s_iret) (s_none))
def fJP_checkIndex (N : Nat) : List Value → gM → Option (gR × gM) := gFn 3 (fJP_checkIndex_k0 N)
def fJS_checkIndex_k0 (N : Nat) : gK :=
  s_iload 0 <| s_iload 1 <| s_chk
def fJS_checkIndex (N : Nat) : List Value → gM → Option (gR × gM) := gFn 2 (fJS_checkIndex_k0 N)
def fJS_coder_k0 (N : Nat) : gK :=
  s_const 1 <| s_if gz_eq (s_const 1 <| s_bret) (s_aload 0 <| s_scod <| s_bret)
def fJS_coder (N : Nat) : List Value → gM → Option (gR × gM) := gFn 1 (fJS_coder_k0 N)
def fJS_length_k0 (N : Nat) : gK :=
  s_aload 0 <| s_sval <| s_elen <| s_aload 0 <| s_cae gI (fJS_coder N) 1 <| s_bin gb_shr <| s_iret
def fJS_length (N : Nat) : List Value → gM → Option (gR × gM) := gFn 1 (fJS_length_k0 N)
def fJS_isLatin1_k0 (N : Nat) : gK :=
  s_const 1 <| s_if gz_eq (s_const 0 <| s_zret) (s_aload 0 <| s_scod <| s_if gz_ne (s_const 0 <| s_zret) (s_const 1 <| s_zret))
def fJS_isLatin1 (N : Nat) : List Value → gM → Option (gR × gM) := gFn 1 (fJS_isLatin1_k0 N)
def fJL_charAt_k0 (N : Nat) : gK :=
  s_iload 1 <| s_aload 0 <| s_elen <| s_ca gV (fJS_checkIndex N) 2 [] <| s_aload 0 <| s_iload 1 <| s_eald <| s_const 255 <| s_bin gb_and <| s_i2c <| s_cret
def fJL_charAt (N : Nat) : List Value → gM → Option (gR × gM) := gFn 2 (fJL_charAt_k0 N)
def fJS_charAt_k0 (N : Nat) : gK :=
  s_aload 0 <| s_cae gI (fJS_isLatin1 N) 1 <| s_if gz_eq (s_none) (s_aload 0 <| s_sval <| s_iload 1 <| s_ca gI (fJL_charAt N) 2 [] <| s_cret)
def fJS_charAt (N : Nat) : List Value → gM → Option (gR × gM) := gFn 2 (fJS_charAt_k0 N)
def fJF_fill_b5 (N : Nat) (n1 : Nat) : gK → gK := fun K5 =>
  s_iload 2 <| s_iload 3 <| s_cmp gc_ge (s_vret) (s_aload 0 <| s_iload 2 <| s_iload 1 <| s_ast (gyR1 n1) 0 <| s_iinc 2 1 <| s_mask [true, true, true, true] <| K5)
def fJF_fill_k5 (N : Nat) (n1 : Nat) : gK := s_lp (fJF_fill_b5 N n1) N
def fJF_fill_k0 (N : Nat) (n1 : Nat) : gK :=
  s_const 0 <| s_istore 2 <| s_aload 0 <| s_alen (gyR1 n1) <| s_istore 3 <| s_mask [true, true, true, true] <| fJF_fill_k5 N n1
def fJF_fill (N : Nat) (n1 : Nat) : List Value → gM → Option (gR × gM) := gFn 4 (fJF_fill_k0 N n1)
def fX8_copyRow_k0 (N : Nat) (n1 n2 : Nat) : gK :=
  s_aload 0 <| s_const 0 <| s_aload 1 <| s_const 0 <| s_iload 2 <| s_copy (gyR2 n1 n2) <| s_vret
def fX8_copyRow (N : Nat) (n1 n2 : Nat) : List Value → gM → Option (gR × gM) := gFn 3 (fX8_copyRow_k0 N n1 n2)
def fX8_pair_k0 (N : Nat) : gK :=
  s_iload 0 <| s_const 10 <| s_bin gb_mul <| s_iload 1 <| s_bin gb_add <| s_iret
def fX8_pair (N : Nat) : List Value → gM → Option (gR × gM) := gFn 2 (fX8_pair_k0 N)
def fX8_sum_b11 (N : Nat) : gK → gK := fun K11 =>
  s_iload 5 <| s_iload 4 <| s_cmp gc_ge (s_lload 1 <| s_lret) (s_aload 3 <| s_iload 5 <| s_ald gyA100 0 <| s_istore 6 <| s_lload 1 <| s_iload 6 <| s_i2l <| s_lbin gb_ladd <| s_lstore 1 <| s_iinc 5 1 <| s_mask [false, true, false, true, true, true, false] <| K11)
def fX8_sum_k11 (N : Nat) : gK := s_lp (fX8_sum_b11 N) N
def fX8_sum_k0 (N : Nat) : gK :=
  s_lconst 0 <| s_lstore 1 <| s_aload 0 <| s_astore 3 <| s_aload 3 <| s_alen gyA100 <| s_istore 4 <| s_const 0 <| s_istore 5 <| s_mask [false, true, false, true, true, true, false] <| fX8_sum_k11 N
def fX8_sum (N : Nat) : List Value → gM → Option (gR × gM) := gFn 7 (fX8_sum_k0 N)
def fX8_sumOfSquares_b11 (N : Nat) : gK → gK := fun K11 =>
  s_iload 5 <| s_iload 4 <| s_cmp gc_ge (s_lload 1 <| s_lret) (s_aload 3 <| s_iload 5 <| s_ald gyA100 0 <| s_istore 6 <| s_lload 1 <| s_iload 6 <| s_i2l <| s_iload 6 <| s_i2l <| s_lbin gb_lmul <| s_lbin gb_ladd <| s_lstore 1 <| s_iinc 5 1 <| s_mask [false, true, false, true, true, true, false] <| K11)
def fX8_sumOfSquares_k11 (N : Nat) : gK := s_lp (fX8_sumOfSquares_b11 N) N
def fX8_sumOfSquares_k0 (N : Nat) : gK :=
  s_lconst 0 <| s_lstore 1 <| s_aload 0 <| s_astore 3 <| s_aload 3 <| s_alen gyA100 <| s_istore 4 <| s_const 0 <| s_istore 5 <| s_mask [false, true, false, true, true, true, false] <| fX8_sumOfSquares_k11 N
def fX8_sumOfSquares (N : Nat) : List Value → gM → Option (gR × gM) := gFn 7 (fX8_sumOfSquares_k0 N)
def fX8_countBytes_k22 (N : Nat) (K5 : gK) : gK :=
  s_iinc 2 (-8) <| s_mask [true, true, true] <| K5
def fX8_countBytes_b5 (N : Nat) : gK → gK := fun K5 =>
  s_iload 2 <| s_if gz_lt (s_iload 1 <| s_iret) (s_iload 0 <| s_iload 2 <| s_bin gb_ushr <| s_const 255 <| s_bin gb_and <| s_if gz_eq (s_mask [true, true, true] <| fX8_countBytes_k22 N K5) (s_iinc 1 1 <| s_mask [true, true, true] <| fX8_countBytes_k22 N K5))
def fX8_countBytes_k5 (N : Nat) : gK := s_lp (fX8_countBytes_b5 N) N
def fX8_countBytes_k0 (N : Nat) : gK :=
  s_const 0 <| s_istore 1 <| s_const 24 <| s_istore 2 <| s_mask [true, true, true] <| fX8_countBytes_k5 N
def fX8_countBytes (N : Nat) : List Value → gM → Option (gR × gM) := gFn 3 (fX8_countBytes_k0 N)
def fX8_commonDivisor_b7 (N : Nat) : gK → gK := fun K7 =>
  s_iload 4 <| s_const 100 <| s_cmp gc_ge (s_iload 2 <| s_iret) (s_iload 3 <| s_if gz_eq (s_iload 2 <| s_iret) (s_iload 2 <| s_iload 3 <| s_div gb_rem <| s_istore 5 <| s_iload 3 <| s_istore 2 <| s_iload 5 <| s_istore 3 <| s_iinc 4 1 <| s_mask [false, false, true, true, true, false] <| K7))
def fX8_commonDivisor_k7 (N : Nat) : gK := s_lp (fX8_commonDivisor_b7 N) N
def fX8_commonDivisor_k0 (N : Nat) : gK :=
  s_iload 0 <| s_istore 2 <| s_iload 1 <| s_istore 3 <| s_const 0 <| s_istore 4 <| s_mask [false, false, true, true, true, false] <| fX8_commonDivisor_k7 N
def fX8_commonDivisor (N : Nat) : List Value → gM → Option (gR × gM) := gFn 6 (fX8_commonDivisor_k0 N)
def fX2_findLink_k32 (N : Nat) (K2 : gK) : gK :=
  s_iinc 3 1 <| s_mask [true, true, true, true] <| K2
def fX2_findLink_b2 (N : Nat) : gK → gK := fun K2 =>
  s_iload 3 <| s_aload 0 <| s_get gyNet 2 1 <| s_cmp gc_ge (s_const (-1) <| s_iret) (s_aload 0 <| s_get gyNet 2 3 <| s_iload 3 <| s_ald gyNet 0 <| s_iload 1 <| s_cmp gc_ne (s_mask [true, true, true, true] <| fX2_findLink_k32 N K2) (s_aload 0 <| s_get gyNet 2 4 <| s_iload 3 <| s_ald gyNet 0 <| s_iload 2 <| s_cmp gc_ne (s_mask [true, true, true, true] <| fX2_findLink_k32 N K2) (s_iload 3 <| s_iret)))
def fX2_findLink_k2 (N : Nat) : gK := s_lp (fX2_findLink_b2 N) N
def fX2_findLink_k0 (N : Nat) : gK :=
  s_const 0 <| s_istore 3 <| s_mask [true, true, true, true] <| fX2_findLink_k2 N
def fX2_findLink (N : Nat) : List Value → gM → Option (gR × gM) := gFn 4 (fX2_findLink_k0 N)
def fX2_shortenDistances_k81 (N : Nat) (K2 : gK) (K25 : gK) : gK :=
  s_iinc 5 1 <| s_mask [true, true, true, true, true, true, false] <| K25
def fX2_shortenDistances_k78 (N : Nat) (K2 : gK) (K25 : gK) : gK :=
  s_iload 6 <| s_ast gyNet 0 <| s_mask [true, true, true, true, true, true, false] <| fX2_shortenDistances_k81 N K2 K25
def fX2_shortenDistances_b25 (N : Nat) (K2 : gK) : gK → gK := fun K25 =>
  s_iload 5 <| s_aload 0 <| s_get gyNet 2 0 <| s_cmp gc_ge (s_iinc 3 1 <| s_mask [true, true, true, true, false, false, false] <| K2) (s_iload 4 <| s_const 1 <| s_bin gb_add <| s_aload 0 <| s_get gyNet 2 10 <| s_iload 2 <| s_iload 5 <| s_ca gI (fX8_pair N) 2 [] <| s_ald gyNet 0 <| s_bin gb_add <| s_istore 6 <| s_iload 6 <| s_aload 0 <| s_get gyNet 2 10 <| s_iload 3 <| s_iload 5 <| s_ca gI (fX8_pair N) 2 [] <| s_ald gyNet 0 <| s_cmp gc_ge (s_mask [true, true, true, true, true, true, false] <| fX2_shortenDistances_k81 N K2 K25) (s_aload 0 <| s_get gyNet 2 10 <| s_iload 3 <| s_iload 5 <| s_ca gI (fX8_pair N) 2 [] <| s_mask [true, true, true, true, true, true, true] <| fX2_shortenDistances_k78 N K2 K25))
def fX2_shortenDistances_k25 (N : Nat) (K2 : gK) : gK := s_lp (fX2_shortenDistances_b25 N K2) N
def fX2_shortenDistances_b2 (N : Nat) : gK → gK := fun K2 =>
  s_iload 3 <| s_aload 0 <| s_get gyNet 2 0 <| s_cmp gc_ge (s_vret) (s_aload 0 <| s_get gyNet 2 10 <| s_iload 3 <| s_iload 1 <| s_ca gI (fX8_pair N) 2 [] <| s_ald gyNet 0 <| s_istore 4 <| s_const 0 <| s_istore 5 <| s_mask [true, true, true, true, true, true, false] <| fX2_shortenDistances_k25 N K2)
def fX2_shortenDistances_k2 (N : Nat) : gK := s_lp (fX2_shortenDistances_b2 N) N
def fX2_shortenDistances_k0 (N : Nat) : gK :=
  s_const 0 <| s_istore 3 <| s_mask [true, true, true, true, false, false, false] <| fX2_shortenDistances_k2 N
def fX2_shortenDistances (N : Nat) : List Value → gM → Option (gR × gM) := gFn 7 (fX2_shortenDistances_k0 N)
def fX2_putLink_k0 (N : Nat) : gK :=
  s_aload 0 <| s_get gyNet 2 1 <| s_const 14 <| s_cmp gc_lt (s_aload 0 <| s_get gyNet 2 3 <| s_aload 0 <| s_get gyNet 2 1 <| s_iload 1 <| s_ast gyNet 0 <| s_aload 0 <| s_get gyNet 2 4 <| s_aload 0 <| s_get gyNet 2 1 <| s_iload 2 <| s_ast gyNet 0 <| s_aload 0 <| s_get gyNet 2 5 <| s_aload 0 <| s_get gyNet 2 1 <| s_iload 3 <| s_ast gyNet 0 <| s_aload 0 <| s_get gyNet 2 6 <| s_aload 0 <| s_get gyNet 2 1 <| s_const 0 <| s_ast gyNet 0 <| s_aload 0 <| s_get gyNet 2 7 <| s_aload 0 <| s_get gyNet 2 1 <| s_const 0 <| s_ast gyNet 0 <| s_aload 0 <| s_dup <| s_get gyNet 2 1 <| s_const 1 <| s_bin gb_add <| s_put gyNet 2 1 <| s_aload 0 <| s_iload 1 <| s_iload 2 <| s_cav gV (fX2_shortenDistances N) 3 [0, 1, 2, 3, 4, 5, 6, 7, 8] <| s_vret) (s_vret)
def fX2_putLink (N : Nat) : List Value → gM → Option (gR × gM) := gFn 4 (fX2_putLink_k0 N)
def fX2_inConflict_k0 (N : Nat) : gK :=
  s_aload 0 <| s_get gyNet 2 7 <| s_iload 1 <| s_ald gyNet 0 <| s_iload 2 <| s_bin gb_shr <| s_const 1 <| s_bin gb_and <| s_const 1 <| s_cmp gc_ne (s_const 0 <| s_zret) (s_const 1 <| s_zret)
def fX2_inConflict (N : Nat) : List Value → gM → Option (gR × gM) := gFn 3 (fX2_inConflict_k0 N)
def fX2_putConflict_k0 (N : Nat) : gK :=
  s_iload 3 <| s_if gz_eq (s_aload 0 <| s_get gyNet 2 7 <| s_iload 1 <| s_dup2 <| s_ald gyNet 0 <| s_const 1 <| s_iload 2 <| s_bin gb_shl <| s_const (-1) <| s_bin gb_xor <| s_bin gb_and <| s_ast gyNet 0 <| s_aload 0 <| s_get gyNet 2 7 <| s_iload 2 <| s_dup2 <| s_ald gyNet 0 <| s_const 1 <| s_iload 1 <| s_bin gb_shl <| s_const (-1) <| s_bin gb_xor <| s_bin gb_and <| s_ast gyNet 0 <| s_vret) (s_aload 0 <| s_get gyNet 2 7 <| s_iload 1 <| s_dup2 <| s_ald gyNet 0 <| s_const 1 <| s_iload 2 <| s_bin gb_shl <| s_bin gb_or <| s_ast gyNet 0 <| s_aload 0 <| s_get gyNet 2 7 <| s_iload 2 <| s_dup2 <| s_ald gyNet 0 <| s_const 1 <| s_iload 1 <| s_bin gb_shl <| s_bin gb_or <| s_ast gyNet 0 <| s_vret)
def fX2_putConflict (N : Nat) : List Value → gM → Option (gR × gM) := gFn 4 (fX2_putConflict_k0 N)
def fX2_getNumber_k0 (N : Nat) : gK :=
  s_aload 0 <| s_get gyNet 2 9 <| s_iload 1 <| s_const 11 <| s_bin gb_mul <| s_iload 2 <| s_bin gb_add <| s_ald gyNet 0 <| s_iret
def fX2_getNumber (N : Nat) : List Value → gM → Option (gR × gM) := gFn 3 (fX2_getNumber_k0 N)
def fX2_putNumber_k0 (N : Nat) : gK :=
  s_aload 0 <| s_get gyNet 2 9 <| s_iload 1 <| s_const 11 <| s_bin gb_mul <| s_iload 2 <| s_bin gb_add <| s_iload 3 <| s_ast gyNet 0 <| s_vret
def fX2_putNumber (N : Nat) : List Value → gM → Option (gR × gM) := gFn 4 (fX2_putNumber_k0 N)
def fX2_addNumber_k0 (N : Nat) : gK :=
  s_aload 0 <| s_get gyNet 2 9 <| s_iload 1 <| s_const 11 <| s_bin gb_mul <| s_iload 2 <| s_bin gb_add <| s_dup2 <| s_ald gyNet 0 <| s_iload 3 <| s_bin gb_add <| s_ast gyNet 0 <| s_vret
def fX2_addNumber (N : Nat) : List Value → gM → Option (gR × gM) := gFn 4 (fX2_addNumber_k0 N)
def fX2_putFlow_k67 (N : Nat) : gK :=
  s_aload 0 <| s_iload 5 <| s_const 2 <| s_iload 3 <| s_cav gV (fX2_putNumber N) 4 [0, 1, 2, 3, 4, 5, 6, 7, 8] <| s_aload 0 <| s_iload 5 <| s_const 3 <| s_iload 4 <| s_cav gV (fX2_putNumber N) 4 [0, 1, 2, 3, 4, 5, 6, 7, 8] <| s_vret
def fX2_putFlow_b29 (N : Nat) : gK → gK := fun K29 =>
  s_iload 6 <| s_const 11 <| s_cmp gc_ge (s_aload 0 <| s_iload 5 <| s_const 0 <| s_iload 1 <| s_cav gV (fX2_putNumber N) 4 [0, 1, 2, 3, 4, 5, 6, 7, 8] <| s_aload 0 <| s_iload 5 <| s_const 1 <| s_iload 2 <| s_cav gV (fX2_putNumber N) 4 [0, 1, 2, 3, 4, 5, 6, 7, 8] <| s_mask [true, false, false, true, true, true, false] <| fX2_putFlow_k67 N) (s_aload 0 <| s_iload 5 <| s_iload 6 <| s_const 0 <| s_cav gV (fX2_putNumber N) 4 [0, 1, 2, 3, 4, 5, 6, 7, 8] <| s_iinc 6 1 <| s_mask [true, true, true, true, true, true, true] <| K29)
def fX2_putFlow_k29 (N : Nat) : gK := s_lp (fX2_putFlow_b29 N) N
def fX2_putFlow_k0 (N : Nat) : gK :=
  s_aload 0 <| s_get gyNet 2 2 <| s_const 6 <| s_cmp gc_lt (s_aload 0 <| s_get gyNet 2 2 <| s_istore 5 <| s_aload 0 <| s_dup <| s_get gyNet 2 2 <| s_const 1 <| s_bin gb_add <| s_put gyNet 2 2 <| s_const 0 <| s_istore 6 <| s_mask [true, true, true, true, true, true, true] <| fX2_putFlow_k29 N) (s_vret)
def fX2_putFlow (N : Nat) : List Value → gM → Option (gR × gM) := gFn 7 (fX2_putFlow_k0 N)
def fX2_sumNumber_b4 (N : Nat) : gK → gK := fun K4 =>
  s_iload 3 <| s_aload 0 <| s_get gyNet 2 2 <| s_cmp gc_ge (s_iload 2 <| s_iret) (s_iload 2 <| s_aload 0 <| s_iload 3 <| s_iload 1 <| s_cav gI (fX2_getNumber N) 3 [0, 1, 2, 3, 4, 5, 6, 7, 8] <| s_bin gb_add <| s_istore 2 <| s_iinc 3 1 <| s_mask [true, true, true, true] <| K4)
def fX2_sumNumber_k4 (N : Nat) : gK := s_lp (fX2_sumNumber_b4 N) N
def fX2_sumNumber_k0 (N : Nat) : gK :=
  s_const 0 <| s_istore 2 <| s_const 0 <| s_istore 3 <| s_mask [true, true, true, true] <| fX2_sumNumber_k4 N
def fX2_sumNumber (N : Nat) : List Value → gM → Option (gR × gM) := gFn 4 (fX2_sumNumber_k0 N)
def fX2_hasBudget_b2 (N : Nat) : gK → gK := fun K2 =>
  s_iload 1 <| s_aload 0 <| s_get gyNet 2 2 <| s_cmp gc_ge (s_const 0 <| s_zret) (s_aload 0 <| s_iload 1 <| s_const 3 <| s_cav gI (fX2_getNumber N) 3 [0, 1, 2, 3, 4, 5, 6, 7, 8] <| s_if gz_le (s_iinc 1 1 <| s_mask [true, true] <| K2) (s_const 1 <| s_zret))
def fX2_hasBudget_k2 (N : Nat) : gK := s_lp (fX2_hasBudget_b2 N) N
def fX2_hasBudget_k0 (N : Nat) : gK :=
  s_const 0 <| s_istore 1 <| s_mask [true, true] <| fX2_hasBudget_k2 N
def fX2_hasBudget (N : Nat) : List Value → gM → Option (gR × gM) := gFn 2 (fX2_hasBudget_k0 N)
def fX2_clear_b41 (N : Nat) : gK → gK := fun K41 =>
  s_iload 2 <| s_iload 1 <| s_cmp gc_ge (s_vret) (s_aload 0 <| s_get gyNet 2 10 <| s_iload 2 <| s_iload 2 <| s_ca gI (fX8_pair N) 2 [] <| s_const 0 <| s_ast gyNet 0 <| s_iinc 2 1 <| s_mask [true, true, true] <| K41)
def fX2_clear_k41 (N : Nat) : gK := s_lp (fX2_clear_b41 N) N
def fX2_clear_k0 (N : Nat) : gK :=
  s_aload 0 <| s_iload 1 <| s_put gyNet 2 0 <| s_aload 0 <| s_const 0 <| s_put gyNet 2 1 <| s_aload 0 <| s_const 0 <| s_put gyNet 2 2 <| s_aload 0 <| s_get gyNet 2 8 <| s_const 0 <| s_ca gV (fJF_fill N 4) 2 [6] <| s_aload 0 <| s_get gyNet 2 8 <| s_const 1 <| s_const 10 <| s_ast gyNet 0 <| s_aload 0 <| s_get gyNet 2 10 <| s_iload 1 <| s_ca gV (fJF_fill N 100) 2 [8] <| s_const 0 <| s_istore 2 <| s_mask [true, true, true] <| fX2_clear_k41 N
def fX2_clear (N : Nat) : List Value → gM → Option (gR × gM) := gFn 3 (fX2_clear_k0 N)
def fX2_copyFrom_k101 (N : Nat) : gK :=
  s_aload 1 <| s_get gyNet2 2 9 <| s_aload 0 <| s_get gyNet2 2 9 <| s_const 66 <| s_ca gV (fX8_copyRow N 66 66) 3 [16, 7] <| s_aload 1 <| s_get gyNet2 2 10 <| s_aload 0 <| s_get gyNet2 2 10 <| s_const 100 <| s_ca gV (fX8_copyRow N 100 100) 3 [17, 8] <| s_vret
def fX2_copyFrom_k63 (N : Nat) : gK :=
  s_aload 1 <| s_get gyNet2 2 6 <| s_aload 0 <| s_get gyNet2 2 6 <| s_const 14 <| s_ca gV (fX8_copyRow N 14 14) 3 [13, 4] <| s_aload 1 <| s_get gyNet2 2 7 <| s_aload 0 <| s_get gyNet2 2 7 <| s_const 14 <| s_ca gV (fX8_copyRow N 14 14) 3 [14, 5] <| s_aload 1 <| s_get gyNet2 2 8 <| s_aload 0 <| s_get gyNet2 2 8 <| s_const 4 <| s_ca gV (fX8_copyRow N 4 4) 3 [15, 6] <| s_mask [true, true] <| fX2_copyFrom_k101 N
def fX2_copyFrom_k0 (N : Nat) : gK :=
  s_aload 0 <| s_aload 1 <| s_get gyNet2 2 0 <| s_put gyNet2 2 0 <| s_aload 0 <| s_aload 1 <| s_get gyNet2 2 1 <| s_put gyNet2 2 1 <| s_aload 0 <| s_aload 1 <| s_get gyNet2 2 2 <| s_put gyNet2 2 2 <| s_aload 1 <| s_get gyNet2 2 3 <| s_aload 0 <| s_get gyNet2 2 3 <| s_const 14 <| s_ca gV (fX8_copyRow N 14 14) 3 [10, 1] <| s_aload 1 <| s_get gyNet2 2 4 <| s_aload 0 <| s_get gyNet2 2 4 <| s_const 14 <| s_ca gV (fX8_copyRow N 14 14) 3 [11, 2] <| s_aload 1 <| s_get gyNet2 2 5 <| s_aload 0 <| s_get gyNet2 2 5 <| s_const 14 <| s_ca gV (fX8_copyRow N 14 14) 3 [12, 3] <| s_mask [true, true] <| fX2_copyFrom_k63 N
def fX2_copyFrom (N : Nat) : List Value → gM → Option (gR × gM) := gFn 2 (fX2_copyFrom_k0 N)
def fX4_clear_k0 (N : Nat) : gK :=
  s_aload 0 <| s_get gyQ 4 2 <| s_const 0 <| s_ca gV (fJF_fill N 100) 2 [3] <| s_aload 0 <| s_get gyQ 4 3 <| s_const 0 <| s_ca gV (fJF_fill N 100) 2 [4] <| s_aload 0 <| s_const 0 <| s_put gyQ 4 9 <| s_aload 0 <| s_const (-1) <| s_put gyQ 4 10 <| s_aload 0 <| s_const 0 <| s_put gyQ 4 11 <| s_vret
def fX4_clear (N : Nat) : List Value → gM → Option (gR × gM) := gFn 1 (fX4_clear_k0 N)
def fX4_putLast_k38 (N : Nat) : gK :=
  s_aload 0 <| s_get gyQ 4 1 <| s_iload 1 <| s_iload 2 <| s_ast gyQ 0 <| s_aload 0 <| s_get gyQ 4 2 <| s_iload 1 <| s_dup2 <| s_ald gyQ 0 <| s_const 1 <| s_bin gb_add <| s_ast gyQ 0 <| s_vret
def fX4_putLast_k0 (N : Nat) : gK :=
  s_aload 0 <| s_get gyQ 4 4 <| s_iload 2 <| s_const (-1) <| s_ast gyQ 0 <| s_aload 0 <| s_get gyQ 4 2 <| s_iload 1 <| s_ald gyQ 0 <| s_if gz_ne (s_aload 0 <| s_get gyQ 4 4 <| s_aload 0 <| s_get gyQ 4 1 <| s_iload 1 <| s_ald gyQ 0 <| s_iload 2 <| s_ast gyQ 0 <| s_mask [true, true, true] <| fX4_putLast_k38 N) (s_aload 0 <| s_get gyQ 4 0 <| s_iload 1 <| s_iload 2 <| s_ast gyQ 0 <| s_mask [true, true, true] <| fX4_putLast_k38 N)
def fX4_putLast (N : Nat) : List Value → gM → Option (gR × gM) := gFn 3 (fX4_putLast_k0 N)
def fX4_enter_k72 (N : Nat) : gK :=
  s_aload 0 <| s_get gyQ 4 5 <| s_iload 5 <| s_iload 2 <| s_ast gyQ 0 <| s_aload 0 <| s_get gyQ 4 6 <| s_iload 5 <| s_iload 3 <| s_ast gyQ 0 <| s_aload 0 <| s_get gyQ 4 7 <| s_iload 5 <| s_const 0 <| s_ast gyQ 0 <| s_aload 0 <| s_get gyQ 4 8 <| s_iload 5 <| s_const 1 <| s_iload 4 <| s_bin gb_shl <| s_ast gyQ 0 <| s_aload 0 <| s_dup <| s_get gyQ 4 11 <| s_const 1 <| s_bin gb_add <| s_put gyQ 4 11 <| s_aload 0 <| s_iload 1 <| s_iload 5 <| s_cav gV (fX4_putLast N) 3 [0, 1, 2, 3, 4, 5, 6, 7, 8, 9] <| s_const 1 <| s_zret
def fX4_enter_k30 (N : Nat) : gK :=
  s_aload 0 <| s_get gyQ 4 10 <| s_istore 5 <| s_iload 5 <| s_const (-1) <| s_cmp gc_eq (s_aload 0 <| s_get gyQ 4 9 <| s_istore 5 <| s_aload 0 <| s_dup <| s_get gyQ 4 9 <| s_const 1 <| s_bin gb_add <| s_put gyQ 4 9 <| s_mask [true, true, true, true, true, true] <| fX4_enter_k72 N) (s_aload 0 <| s_aload 0 <| s_get gyQ 4 4 <| s_iload 5 <| s_ald gyQ 0 <| s_put gyQ 4 10 <| s_mask [true, true, true, true, true, true] <| fX4_enter_k72 N)
def fX4_enter_k0 (N : Nat) : gK :=
  s_aload 0 <| s_get gyQ 4 11 <| s_const 500 <| s_cmp gc_ge (s_const 0 <| s_zret) (s_aload 0 <| s_get gyQ 4 10 <| s_const (-1) <| s_cmp gc_ne (s_mask [true, true, true, true, true, false] <| fX4_enter_k30 N) (s_aload 0 <| s_get gyQ 4 9 <| s_const 500 <| s_cmp gc_lt (s_mask [true, true, true, true, true, false] <| fX4_enter_k30 N) (s_const 0 <| s_zret)))
def fX4_enter (N : Nat) : List Value → gM → Option (gR × gM) := gFn 6 (fX4_enter_k0 N)
def fX4_takeBehind_k88 (N : Nat) : gK :=
  s_aload 0 <| s_get gyQ 4 2 <| s_iload 1 <| s_dup2 <| s_ald gyQ 0 <| s_const 1 <| s_bin gb_sub <| s_ast gyQ 0 <| s_iload 3 <| s_iret
def fX4_takeBehind_k71 (N : Nat) : gK :=
  s_aload 0 <| s_get gyQ 4 4 <| s_iload 3 <| s_ald gyQ 0 <| s_const (-1) <| s_cmp gc_ne (s_mask [true, true, false, true] <| fX4_takeBehind_k88 N) (s_aload 0 <| s_get gyQ 4 1 <| s_iload 1 <| s_iload 2 <| s_ast gyQ 0 <| s_mask [true, true, false, true] <| fX4_takeBehind_k88 N)
def fX4_takeBehind_k31 (N : Nat) : gK :=
  s_istore 3 <| s_iload 3 <| s_const (-1) <| s_cmp gc_ne (s_iload 2 <| s_const (-1) <| s_cmp gc_ne (s_aload 0 <| s_get gyQ 4 4 <| s_iload 2 <| s_aload 0 <| s_get gyQ 4 4 <| s_iload 3 <| s_ald gyQ 0 <| s_ast gyQ 0 <| s_mask [true, true, true, true] <| fX4_takeBehind_k71 N) (s_aload 0 <| s_get gyQ 4 0 <| s_iload 1 <| s_aload 0 <| s_get gyQ 4 4 <| s_iload 3 <| s_ald gyQ 0 <| s_ast gyQ 0 <| s_mask [true, true, true, true] <| fX4_takeBehind_k71 N)) (s_const (-1) <| s_iret)
def fX4_takeBehind_k0 (N : Nat) : gK :=
  s_aload 0 <| s_get gyQ 4 2 <| s_iload 1 <| s_ald gyQ 0 <| s_if gz_ne (s_iload 2 <| s_const (-1) <| s_cmp gc_ne (s_aload 0 <| s_get gyQ 4 4 <| s_iload 2 <| s_ald gyQ 0 <| s_mask [true, true, true, false] <| fX4_takeBehind_k31 N) (s_aload 0 <| s_get gyQ 4 0 <| s_iload 1 <| s_ald gyQ 0 <| s_mask [true, true, true, false] <| fX4_takeBehind_k31 N)) (s_const (-1) <| s_iret)
def fX4_takeBehind (N : Nat) : List Value → gM → Option (gR × gM) := gFn 4 (fX4_takeBehind_k0 N)
def fX4_release_k0 (N : Nat) : gK :=
  s_aload 0 <| s_get gyQ 4 4 <| s_iload 1 <| s_aload 0 <| s_get gyQ 4 10 <| s_ast gyQ 0 <| s_aload 0 <| s_iload 1 <| s_put gyQ 4 10 <| s_aload 0 <| s_dup <| s_get gyQ 4 11 <| s_const 1 <| s_bin gb_sub <| s_put gyQ 4 11 <| s_vret
def fX4_release (N : Nat) : List Value → gM → Option (gR × gM) := gFn 2 (fX4_release_k0 N)
def fX4_find_b26 (N : Nat) : gK → gK := fun K26 =>
  s_iload 4 <| s_iload 2 <| s_cmp gc_ge (s_iload 3 <| s_iret) (s_iload 3 <| s_const (-1) <| s_cmp gc_eq (s_iload 3 <| s_iret) (s_aload 0 <| s_get gyQ 4 4 <| s_iload 3 <| s_ald gyQ 0 <| s_istore 3 <| s_iinc 4 1 <| s_mask [true, false, true, true, true] <| K26))
def fX4_find_k26 (N : Nat) : gK := s_lp (fX4_find_b26 N) N
def fX4_find_k0 (N : Nat) : gK :=
  s_iload 2 <| s_if gz_lt (s_const (-1) <| s_iret) (s_iload 2 <| s_aload 0 <| s_get gyQ 4 2 <| s_iload 1 <| s_ald gyQ 0 <| s_cmp gc_lt (s_aload 0 <| s_get gyQ 4 0 <| s_iload 1 <| s_ald gyQ 0 <| s_istore 3 <| s_const 0 <| s_istore 4 <| s_mask [true, false, true, true, true] <| fX4_find_k26 N) (s_const (-1) <| s_iret))
def fX4_find (N : Nat) : List Value → gM → Option (gR × gM) := gFn 5 (fX4_find_k0 N)
def fX4_copyFrom_k106 (N : Nat) : gK :=
  s_aload 1 <| s_get gyQ2 4 6 <| s_aload 0 <| s_get gyQ2 4 6 <| s_aload 0 <| s_get gyQ2 4 9 <| s_ca gV (fX8_copyRow N 500 500) 3 [17, 7] <| s_aload 1 <| s_get gyQ2 4 7 <| s_aload 0 <| s_get gyQ2 4 7 <| s_aload 0 <| s_get gyQ2 4 9 <| s_ca gV (fX8_copyRow N 500 500) 3 [18, 8] <| s_aload 1 <| s_get gyQ2 4 8 <| s_aload 0 <| s_get gyQ2 4 8 <| s_aload 0 <| s_get gyQ2 4 9 <| s_ca gV (fX8_copyRow N 500 500) 3 [19, 9] <| s_vret
def fX4_copyFrom_k39 (N : Nat) : gK :=
  s_aload 1 <| s_get gyQ2 4 3 <| s_aload 0 <| s_get gyQ2 4 3 <| s_const 100 <| s_ca gV (fX8_copyRow N 100 100) 3 [14, 4] <| s_aload 0 <| s_aload 1 <| s_get gyQ2 4 9 <| s_put gyQ2 4 9 <| s_aload 0 <| s_aload 1 <| s_get gyQ2 4 10 <| s_put gyQ2 4 10 <| s_aload 0 <| s_aload 1 <| s_get gyQ2 4 11 <| s_put gyQ2 4 11 <| s_aload 1 <| s_get gyQ2 4 4 <| s_aload 0 <| s_get gyQ2 4 4 <| s_aload 0 <| s_get gyQ2 4 9 <| s_ca gV (fX8_copyRow N 500 500) 3 [15, 5] <| s_aload 1 <| s_get gyQ2 4 5 <| s_aload 0 <| s_get gyQ2 4 5 <| s_aload 0 <| s_get gyQ2 4 9 <| s_ca gV (fX8_copyRow N 500 500) 3 [16, 6] <| s_mask [true, true] <| fX4_copyFrom_k106 N
def fX4_copyFrom_k0 (N : Nat) : gK :=
  s_aload 1 <| s_get gyQ2 4 0 <| s_aload 0 <| s_get gyQ2 4 0 <| s_const 100 <| s_ca gV (fX8_copyRow N 100 100) 3 [11, 1] <| s_aload 1 <| s_get gyQ2 4 1 <| s_aload 0 <| s_get gyQ2 4 1 <| s_const 100 <| s_ca gV (fX8_copyRow N 100 100) 3 [12, 2] <| s_aload 1 <| s_get gyQ2 4 2 <| s_aload 0 <| s_get gyQ2 4 2 <| s_const 100 <| s_ca gV (fX8_copyRow N 100 100) 3 [13, 3] <| s_mask [true, true] <| fX4_copyFrom_k39 N
def fX4_copyFrom (N : Nat) : List Value → gM → Option (gR × gM) := gFn 2 (fX4_copyFrom_k0 N)
def fX7_begin_k0 (N : Nat) : gK :=
  s_aload 0 <| s_get gySN 7 0 <| s_aload 1 <| s_cav gV (fX2_copyFrom N) 2 [1, 2, 3, 4, 5, 6, 7, 8, 9, 20, 21, 22, 23, 24, 25, 26, 27, 28] <| s_aload 0 <| s_get gySN 7 1 <| s_cav gV (fX4_clear N) 1 [10, 11, 12, 13, 14, 15, 16, 17, 18, 19] <| s_aload 0 <| s_const 0 <| s_put gySN 7 2 <| s_aload 0 <| s_const 0 <| s_put gySN 7 3 <| s_vret
def fX7_begin (N : Nat) : List Value → gM → Option (gR × gM) := gFn 2 (fX7_begin_k0 N)
def fX7_copyFrom_k0 (N : Nat) : gK :=
  s_aload 0 <| s_get gyS2 7 0 <| s_aload 1 <| s_get gyS2 7 0 <| s_cav gV (fX2_copyFrom N) 2 [1, 2, 3, 4, 5, 6, 7, 8, 9, 21, 22, 23, 24, 25, 26, 27, 28, 29] <| s_aload 0 <| s_get gyS2 7 1 <| s_aload 1 <| s_get gyS2 7 1 <| s_cav gV (fX4_copyFrom N) 2 [10, 11, 12, 13, 14, 15, 16, 17, 18, 19, 30, 31, 32, 33, 34, 35, 36, 37, 38, 39] <| s_aload 0 <| s_aload 1 <| s_get gyS2 7 2 <| s_put gyS2 7 2 <| s_aload 0 <| s_aload 1 <| s_get gyS2 7 3 <| s_put gyS2 7 3 <| s_vret
def fX7_copyFrom (N : Nat) : List Value → gM → Option (gR × gM) := gFn 2 (fX7_copyFrom_k0 N)
def fX7_arrive_k58 (N : Nat) (K31 : gK) : gK :=
  s_iinc 6 1 <| s_mask [true, true, true, true, true, true, true] <| K31
def fX7_arrive_b31 (N : Nat) : gK → gK := fun K31 =>
  s_iload 6 <| s_iload 2 <| s_cmp gc_ge (s_aload 0 <| s_get gyS 7 0 <| s_iload 1 <| s_const 4 <| s_iload 2 <| s_cav gV (fX2_addNumber N) 4 [1, 2, 3, 4, 5, 6, 7, 8, 9] <| s_aload 0 <| s_get gyS 7 0 <| s_iload 1 <| s_const 5 <| s_iload 2 <| s_iload 5 <| s_bin gb_sub <| s_cav gV (fX2_addNumber N) 4 [1, 2, 3, 4, 5, 6, 7, 8, 9] <| s_iload 5 <| s_iret) (s_aload 0 <| s_get gyS 7 1 <| s_iload 4 <| s_iload 1 <| s_aload 0 <| s_get gyS 7 2 <| s_iload 3 <| s_cav gI (fX4_enter N) 5 [10, 11, 12, 13, 14, 15, 16, 17, 18, 19] <| s_if gz_eq (s_mask [true, true, true, true, true, true, true] <| fX7_arrive_k58 N K31) (s_iinc 5 1 <| s_mask [true, true, true, true, true, true, true] <| fX7_arrive_k58 N K31))
def fX7_arrive_k31 (N : Nat) : gK := s_lp (fX7_arrive_b31 N) N
def fX7_arrive_k23 (N : Nat) : gK :=
  s_istore 4 <| s_const 0 <| s_istore 5 <| s_const 0 <| s_istore 6 <| s_mask [true, true, true, true, true, true, true] <| fX7_arrive_k31 N
def fX7_arrive_k0 (N : Nat) : gK :=
  s_aload 0 <| s_get gyS 7 0 <| s_iload 1 <| s_const 0 <| s_cav gI (fX2_getNumber N) 3 [1, 2, 3, 4, 5, 6, 7, 8, 9] <| s_istore 3 <| s_iload 3 <| s_aload 0 <| s_get gyS 7 0 <| s_iload 1 <| s_const 1 <| s_cav gI (fX2_getNumber N) 3 [1, 2, 3, 4, 5, 6, 7, 8, 9] <| s_ca gI (fX8_pair N) 2 [] <| s_mask [true, true, true, true, false, false, false] <| fX7_arrive_k23 N
def fX7_arrive (N : Nat) : List Value → gM → Option (gR × gM) := gFn 7 (fX7_arrive_k0 N)
def fX7_loseAll_k62 (N : Nat) (K12 : gK) : gK :=
  s_iinc 3 1 <| s_mask [true, true, true, true, false] <| K12
def fX7_loseAll_b12 (N : Nat) : gK → gK := fun K12 =>
  s_iload 3 <| s_iload 2 <| s_cmp gc_ge (s_iload 2 <| s_iret) (s_aload 0 <| s_get gyS 7 1 <| s_iload 1 <| s_const (-1) <| s_cav gI (fX4_takeBehind N) 3 [10, 11, 12, 13, 14, 15, 16, 17, 18, 19] <| s_istore 4 <| s_iload 4 <| s_const (-1) <| s_cmp gc_eq (s_mask [true, true, true, true, false] <| fX7_loseAll_k62 N K12) (s_aload 0 <| s_get gyS 7 0 <| s_aload 0 <| s_get gyS 7 1 <| s_get gyS 4 5 <| s_iload 4 <| s_ald gyS 0 <| s_const 5 <| s_const 1 <| s_cav gV (fX2_addNumber N) 4 [1, 2, 3, 4, 5, 6, 7, 8, 9] <| s_aload 0 <| s_get gyS 7 1 <| s_iload 4 <| s_cav gV (fX4_release N) 2 [10, 11, 12, 13, 14, 15, 16, 17, 18, 19] <| s_mask [true, true, true, true, false] <| fX7_loseAll_k62 N K12))
def fX7_loseAll_k12 (N : Nat) : gK := s_lp (fX7_loseAll_b12 N) N
def fX7_loseAll_k0 (N : Nat) : gK :=
  s_aload 0 <| s_get gyS 7 1 <| s_get gyS 4 2 <| s_iload 1 <| s_ald gyS 0 <| s_istore 2 <| s_const 0 <| s_istore 3 <| s_mask [true, true, true, true, false] <| fX7_loseAll_k12 N
def fX7_loseAll (N : Nat) : List Value → gM → Option (gR × gM) := gFn 5 (fX7_loseAll_k0 N)
def fX7_deadline_k0 (N : Nat) : gK :=
  s_aload 0 <| s_get gyS 7 0 <| s_aload 0 <| s_get gyS 7 1 <| s_get gyS 4 5 <| s_iload 1 <| s_ald gyS 0 <| s_const 3 <| s_cav gI (fX2_getNumber N) 3 [1, 2, 3, 4, 5, 6, 7, 8, 9] <| s_istore 2 <| s_iload 2 <| s_if gz_ne (s_aload 0 <| s_get gyS 7 1 <| s_get gyS 4 6 <| s_iload 1 <| s_ald gyS 0 <| s_iload 2 <| s_bin gb_add <| s_iret) (s_const (-1) <| s_iret)
def fX7_deadline (N : Nat) : List Value → gM → Option (gR × gM) := gFn 3 (fX7_deadline_k0 N)
def fX7_leastDeadline_k92 (N : Nat) (K4 : gK) : gK :=
  s_iinc 2 1 <| s_mask [true, true, true, false, false, false, false] <| K4
def fX7_leastDeadline_k74 (N : Nat) (K4 : gK) (K34 : gK) : gK :=
  s_aload 0 <| s_get gyS 7 1 <| s_get gyS 4 4 <| s_iload 4 <| s_ald gyS 0 <| s_istore 4 <| s_iinc 5 1 <| s_mask [true, true, true, true, true, true, false] <| K34
def fX7_leastDeadline_k71 (N : Nat) (K4 : gK) (K34 : gK) : gK :=
  s_iload 6 <| s_istore 1 <| s_mask [true, true, true, true, true, true, false] <| fX7_leastDeadline_k74 N K4 K34
def fX7_leastDeadline_b34 (N : Nat) (K4 : gK) : gK → gK := fun K34 =>
  s_iload 5 <| s_iload 3 <| s_cmp gc_ge (s_mask [true, true, true, false, false, false, false] <| fX7_leastDeadline_k92 N K4) (s_iload 4 <| s_const (-1) <| s_cmp gc_eq (s_mask [true, true, true, false, false, false, false] <| fX7_leastDeadline_k92 N K4) (s_aload 0 <| s_iload 4 <| s_cav gI (fX7_deadline N) 2 [0, 1, 2, 3, 4, 5, 6, 7, 8, 9, 10, 11, 12, 13, 14, 15, 16, 17, 18, 19] <| s_istore 6 <| s_iload 6 <| s_const (-1) <| s_cmp gc_eq (s_mask [true, true, true, true, true, true, false] <| fX7_leastDeadline_k74 N K4 K34) (s_iload 1 <| s_const (-1) <| s_cmp gc_eq (s_mask [true, false, true, true, true, true, true] <| fX7_leastDeadline_k71 N K4 K34) (s_iload 6 <| s_iload 1 <| s_cmp gc_ge (s_mask [true, true, true, true, true, true, false] <| fX7_leastDeadline_k74 N K4 K34) (s_mask [true, false, true, true, true, true, true] <| fX7_leastDeadline_k71 N K4 K34)))))
def fX7_leastDeadline_k34 (N : Nat) (K4 : gK) : gK := s_lp (fX7_leastDeadline_b34 N K4) N
def fX7_leastDeadline_b4 (N : Nat) : gK → gK := fun K4 =>
  s_iload 2 <| s_const 100 <| s_cmp gc_ge (s_iload 1 <| s_iret) (s_aload 0 <| s_get gyS 7 1 <| s_get gyS 4 2 <| s_iload 2 <| s_ald gyS 0 <| s_istore 3 <| s_aload 0 <| s_get gyS 7 1 <| s_get gyS 4 0 <| s_iload 2 <| s_ald gyS 0 <| s_istore 4 <| s_const 0 <| s_istore 5 <| s_mask [true, true, true, true, true, true, false] <| fX7_leastDeadline_k34 N K4)
def fX7_leastDeadline_k4 (N : Nat) : gK := s_lp (fX7_leastDeadline_b4 N) N
def fX7_leastDeadline_k0 (N : Nat) : gK :=
  s_const (-1) <| s_istore 1 <| s_const 0 <| s_istore 2 <| s_mask [true, true, true, false, false, false, false] <| fX7_leastDeadline_k4 N
def fX7_leastDeadline (N : Nat) : List Value → gM → Option (gR × gM) := gFn 7 (fX7_leastDeadline_k0 N)
def fX7_expireIn_k120 (N : Nat) (K26 : gK) : gK :=
  s_iload 6 <| s_istore 4 <| s_iinc 5 1 <| s_mask [true, true, true, true, true, true, false, false] <| K26
def fX7_expireIn_k117 (N : Nat) (K26 : gK) : gK :=
  s_iload 4 <| s_istore 3 <| s_mask [true, true, true, true, false, true, true, false] <| fX7_expireIn_k120 N K26
def fX7_expireIn_k105 (N : Nat) (K26 : gK) : gK :=
  s_aload 0 <| s_get gyS 7 1 <| s_iload 4 <| s_cav gV (fX4_release N) 2 [10, 11, 12, 13, 14, 15, 16, 17, 18, 19] <| s_mask [true, true, true, true, false, true, true, false] <| fX7_expireIn_k120 N K26
def fX7_expireIn_b26 (N : Nat) : gK → gK := fun K26 =>
  s_iload 5 <| s_iload 2 <| s_cmp gc_ge (s_vret) (s_iload 4 <| s_const (-1) <| s_cmp gc_eq (s_vret) (s_aload 0 <| s_get gyS 7 1 <| s_get gyS 4 4 <| s_iload 4 <| s_ald gyS 0 <| s_istore 6 <| s_aload 0 <| s_iload 4 <| s_cav gI (fX7_deadline N) 2 [0, 1, 2, 3, 4, 5, 6, 7, 8, 9, 10, 11, 12, 13, 14, 15, 16, 17, 18, 19] <| s_istore 7 <| s_iload 7 <| s_const (-1) <| s_cmp gc_eq (s_mask [true, true, true, false, true, true, true, false] <| fX7_expireIn_k117 N K26) (s_aload 0 <| s_get gyS 7 2 <| s_const 1 <| s_bin gb_add <| s_iload 7 <| s_cmp gc_lt (s_mask [true, true, true, false, true, true, true, false] <| fX7_expireIn_k117 N K26) (s_aload 0 <| s_get gyS 7 1 <| s_iload 1 <| s_iload 3 <| s_cav gI (fX4_takeBehind N) 3 [10, 11, 12, 13, 14, 15, 16, 17, 18, 19] <| s_pop <| s_aload 0 <| s_get gyS 7 0 <| s_aload 0 <| s_get gyS 7 1 <| s_get gyS 4 5 <| s_iload 4 <| s_ald gyS 0 <| s_const 7 <| s_const 1 <| s_cav gV (fX2_addNumber N) 4 [1, 2, 3, 4, 5, 6, 7, 8, 9] <| s_mask [true, true, true, true, true, true, true, false] <| fX7_expireIn_k105 N K26))))
def fX7_expireIn_k26 (N : Nat) : gK := s_lp (fX7_expireIn_b26 N) N
def fX7_expireIn_k0 (N : Nat) : gK :=
  s_aload 0 <| s_get gyS 7 1 <| s_get gyS 4 2 <| s_iload 1 <| s_ald gyS 0 <| s_istore 2 <| s_const (-1) <| s_istore 3 <| s_aload 0 <| s_get gyS 7 1 <| s_get gyS 4 0 <| s_iload 1 <| s_ald gyS 0 <| s_istore 4 <| s_const 0 <| s_istore 5 <| s_mask [true, true, true, true, true, true, false, false] <| fX7_expireIn_k26 N
def fX7_expireIn (N : Nat) : List Value → gM → Option (gR × gM) := gFn 8 (fX7_expireIn_k0 N)
def fX7_expireAll_k46 (N : Nat) (K23 : gK) : gK :=
  s_iinc 1 1 <| s_mask [true, true] <| K23
def fX7_expireAll_b23 (N : Nat) : gK → gK := fun K23 =>
  s_iload 1 <| s_const 100 <| s_cmp gc_ge (s_vret) (s_aload 0 <| s_get gyS 7 1 <| s_get gyS 4 2 <| s_iload 1 <| s_ald gyS 0 <| s_if gz_le (s_mask [true, true] <| fX7_expireAll_k46 N K23) (s_aload 0 <| s_iload 1 <| s_cav gV (fX7_expireIn N) 2 [0, 1, 2, 3, 4, 5, 6, 7, 8, 9, 10, 11, 12, 13, 14, 15, 16, 17, 18, 19] <| s_mask [true, true] <| fX7_expireAll_k46 N K23))
def fX7_expireAll_k23 (N : Nat) : gK := s_lp (fX7_expireAll_b23 N) N
def fX7_expireAll_k0 (N : Nat) : gK :=
  s_aload 0 <| s_get gyS 7 1 <| s_get gyS 4 11 <| s_if gz_eq (s_vret) (s_aload 0 <| s_get gyS 7 0 <| s_cav gI (fX2_hasBudget N) 1 [1, 2, 3, 4, 5, 6, 7, 8, 9] <| s_if gz_ne (s_const 0 <| s_istore 1 <| s_mask [true, true] <| fX7_expireAll_k23 N) (s_vret))
def fX7_expireAll (N : Nat) : List Value → gM → Option (gR × gM) := gFn 2 (fX7_expireAll_k0 N)
def fX3_sumOfWeights_k25 (N : Nat) (K4 : gK) : gK :=
  s_iinc 3 1 <| s_mask [true, true, true, true] <| K4
def fX3_sumOfWeights_b4 (N : Nat) : gK → gK := fun K4 =>
  s_iload 3 <| s_const 14 <| s_cmp gc_ge (s_iload 2 <| s_iret) (s_iload 0 <| s_iload 3 <| s_bin gb_shr <| s_const 1 <| s_bin gb_and <| s_const 1 <| s_cmp gc_ne (s_mask [true, true, true, true] <| fX3_sumOfWeights_k25 N K4) (s_iload 2 <| s_aload 1 <| s_iload 3 <| s_ald gyW 0 <| s_bin gb_add <| s_istore 2 <| s_mask [true, true, true, true] <| fX3_sumOfWeights_k25 N K4))
def fX3_sumOfWeights_k4 (N : Nat) : gK := s_lp (fX3_sumOfWeights_b4 N) N
def fX3_sumOfWeights_k0 (N : Nat) : gK :=
  s_const 0 <| s_istore 2 <| s_const 0 <| s_istore 3 <| s_mask [true, true, true, true] <| fX3_sumOfWeights_k4 N
def fX3_sumOfWeights (N : Nat) : List Value → gM → Option (gR × gM) := gFn 4 (fX3_sumOfWeights_k0 N)
def fX3_weigh_k149 (N : Nat) (K50 : gK) : gK :=
  s_iinc 8 1 <| s_mask [true, false, true, true, true, true, true, true, true, false, false, false] <| K50
def fX3_weigh_k141 (N : Nat) (K50 : gK) : gK :=
  s_iload 8 <| s_istore 6 <| s_iload 11 <| s_istore 7 <| s_mask [true, false, true, true, true, true, true, true, true, false, false, false] <| fX3_weigh_k149 N K50
def fX3_weigh_b50 (N : Nat) : gK → gK := fun K50 =>
  s_iload 8 <| s_aload 3 <| s_get gyPS 2 0 <| s_cmp gc_ge (s_aload 0 <| s_get gyPS 3 0 <| s_iload 2 <| s_iload 6 <| s_ast gyPS 0 <| s_aload 0 <| s_get gyPS 3 1 <| s_iload 2 <| s_const 0 <| s_aload 3 <| s_get gyPS 2 5 <| s_iload 2 <| s_ald gyPS 0 <| s_iload 7 <| s_bin gb_mul <| s_jmath gj_max <| s_ast gyPS 0 <| s_vret) (s_aload 3 <| s_get gyPS 2 3 <| s_iload 2 <| s_ald gyPS 0 <| s_iload 8 <| s_ca gI (fX8_pair N) 2 [] <| s_istore 9 <| s_aload 3 <| s_get gyPS 2 4 <| s_iload 2 <| s_ald gyPS 0 <| s_iload 8 <| s_ca gI (fX8_pair N) 2 [] <| s_istore 10 <| s_aload 4 <| s_iload 9 <| s_ald gyPS 0 <| s_if gz_le (s_mask [true, false, true, true, true, true, true, true, true, false, false, false] <| fX3_weigh_k149 N K50) (s_aload 4 <| s_iload 9 <| s_ald gyPS 0 <| s_iload 5 <| s_aload 3 <| s_get gyPS 2 10 <| s_iload 9 <| s_ald gyPS 0 <| s_bin gb_mul <| s_bin gb_add <| s_aload 4 <| s_iload 10 <| s_ald gyPS 0 <| s_bin gb_sub <| s_iload 5 <| s_aload 3 <| s_get gyPS 2 10 <| s_iload 10 <| s_ald gyPS 0 <| s_bin gb_mul <| s_bin gb_sub <| s_istore 11 <| s_iload 6 <| s_const (-1) <| s_cmp gc_eq (s_mask [true, false, true, true, true, true, false, false, true, false, false, true] <| fX3_weigh_k141 N K50) (s_iload 11 <| s_iload 7 <| s_cmp gc_le (s_mask [true, false, true, true, true, true, true, true, true, false, false, false] <| fX3_weigh_k149 N K50) (s_mask [true, false, true, true, true, true, false, false, true, false, false, true] <| fX3_weigh_k141 N K50))))
def fX3_weigh_k50 (N : Nat) : gK := s_lp (fX3_weigh_b50 N) N
def fX3_weigh_k31 (N : Nat) : gK :=
  s_astore 4 <| s_aload 3 <| s_get gyPS 2 8 <| s_const 2 <| s_ald gyPS 0 <| s_istore 5 <| s_const (-1) <| s_istore 6 <| s_const 0 <| s_istore 7 <| s_const 0 <| s_istore 8 <| s_mask [true, false, true, true, true, true, true, true, true, false, false, false] <| fX3_weigh_k50 N
def fX3_weigh_k0 (N : Nat) : gK :=
  s_aload 1 <| s_get gyPS 7 0 <| s_astore 3 <| s_aload 3 <| s_get gyPS 2 8 <| s_const 0 <| s_ald gyPS 0 <| s_if gz_ne (s_aload 1 <| s_get gyPS 7 1 <| s_get gyPS 4 3 <| s_mask [true, false, true, true, false, false, false, false, false, false, false, false] <| fX3_weigh_k31 N) (s_aload 1 <| s_get gyPS 7 1 <| s_get gyPS 4 2 <| s_mask [true, false, true, true, false, false, false, false, false, false, false, false] <| fX3_weigh_k31 N)
def fX3_weigh (N : Nat) : List Value → gM → Option (gR × gM) := gFn 12 (fX3_weigh_k0 N)
def fX3_greediest_k111 (N : Nat) (K8 : gK) : gK :=
  s_iinc 5 1 <| s_mask [true, false, true, true, true, true, false, false] <| K8
def fX3_greediest_k73 (N : Nat) (K8 : gK) (K26 : gK) : gK :=
  s_iinc 7 1 <| s_mask [true, false, true, true, true, true, true, true] <| K26
def fX3_greediest_k69 (N : Nat) (K8 : gK) (K26 : gK) : gK :=
  s_iload 7 <| s_istore 6 <| s_mask [true, false, true, true, true, true, true, true] <| fX3_greediest_k73 N K8 K26
def fX3_greediest_b26 (N : Nat) (K8 : gK) : gK → gK := fun K26 =>
  s_iload 7 <| s_aload 2 <| s_get gyPN 2 1 <| s_cmp gc_ge (s_iload 6 <| s_const (-1) <| s_cmp gc_eq (s_mask [true, false, true, true, true, true, false, false] <| fX3_greediest_k111 N K8) (s_iload 3 <| s_const 1 <| s_iload 6 <| s_bin gb_shl <| s_bin gb_or <| s_istore 3 <| s_iload 4 <| s_const 1 <| s_iload 6 <| s_bin gb_shl <| s_aload 2 <| s_get gyPN 2 7 <| s_iload 6 <| s_ald gyPN 0 <| s_bin gb_or <| s_const (-1) <| s_bin gb_xor <| s_bin gb_and <| s_istore 4 <| s_mask [true, false, true, true, true, true, false, false] <| fX3_greediest_k111 N K8)) (s_iload 4 <| s_iload 7 <| s_bin gb_shr <| s_const 1 <| s_bin gb_and <| s_const 1 <| s_cmp gc_ne (s_mask [true, false, true, true, true, true, true, true] <| fX3_greediest_k73 N K8 K26) (s_iload 6 <| s_const (-1) <| s_cmp gc_eq (s_mask [true, false, true, true, true, true, false, true] <| fX3_greediest_k69 N K8 K26) (s_aload 0 <| s_get gyPN 3 1 <| s_iload 7 <| s_ald gyPN 0 <| s_aload 0 <| s_get gyPN 3 1 <| s_iload 6 <| s_ald gyPN 0 <| s_cmp gc_le (s_mask [true, false, true, true, true, true, true, true] <| fX3_greediest_k73 N K8 K26) (s_mask [true, false, true, true, true, true, false, true] <| fX3_greediest_k69 N K8 K26))))
def fX3_greediest_k26 (N : Nat) (K8 : gK) : gK := s_lp (fX3_greediest_b26 N K8) N
def fX3_greediest_b8 (N : Nat) : gK → gK := fun K8 =>
  s_iload 5 <| s_const 14 <| s_cmp gc_ge (s_iload 3 <| s_iret) (s_iload 4 <| s_if gz_eq (s_iload 3 <| s_iret) (s_const (-1) <| s_istore 6 <| s_const 0 <| s_istore 7 <| s_mask [true, false, true, true, true, true, true, true] <| fX3_greediest_k26 N K8))
def fX3_greediest_k8 (N : Nat) : gK := s_lp (fX3_greediest_b8 N) N
def fX3_greediest_k0 (N : Nat) : gK :=
  s_const 0 <| s_istore 3 <| s_iload 1 <| s_istore 4 <| s_const 0 <| s_istore 5 <| s_mask [true, false, true, true, true, true, false, false] <| fX3_greediest_k8 N
def fX3_greediest (N : Nat) : List Value → gM → Option (gR × gM) := gFn 8 (fX3_greediest_k0 N)
def fX3_countCarried_k112 (N : Nat) (K45 : gK) : gK :=
  s_iinc 6 1 <| s_mask [true, false, true, true, true, true, true] <| K45
def fX3_countCarried_b45 (N : Nat) : gK → gK := fun K45 =>
  s_iload 6 <| s_iload 3 <| s_cmp gc_ge (s_iload 5 <| s_aload 4 <| s_get gyPS 2 5 <| s_iload 3 <| s_ald gyPS 0 <| s_jmath gj_min <| s_iret) (s_iload 2 <| s_iload 6 <| s_bin gb_shr <| s_const 1 <| s_bin gb_and <| s_const 1 <| s_cmp gc_ne (s_mask [true, false, true, true, true, true, true] <| fX3_countCarried_k112 N K45) (s_aload 4 <| s_get gyPS 2 3 <| s_iload 6 <| s_ald gyPS 0 <| s_aload 4 <| s_get gyPS 2 3 <| s_iload 3 <| s_ald gyPS 0 <| s_cmp gc_ne (s_mask [true, false, true, true, true, true, true] <| fX3_countCarried_k112 N K45) (s_aload 0 <| s_get gyPS 3 0 <| s_iload 6 <| s_ald gyPS 0 <| s_aload 0 <| s_get gyPS 3 0 <| s_iload 3 <| s_ald gyPS 0 <| s_cmp gc_ne (s_mask [true, false, true, true, true, true, true] <| fX3_countCarried_k112 N K45) (s_const 0 <| s_iload 5 <| s_aload 4 <| s_get gyPS 2 5 <| s_iload 6 <| s_ald gyPS 0 <| s_bin gb_sub <| s_jmath gj_max <| s_istore 5 <| s_mask [true, false, true, true, true, true, true] <| fX3_countCarried_k112 N K45))))
def fX3_countCarried_k45 (N : Nat) : gK := s_lp (fX3_countCarried_b45 N) N
def fX3_countCarried_k0 (N : Nat) : gK :=
  s_iload 2 <| s_iload 3 <| s_bin gb_shr <| s_const 1 <| s_bin gb_and <| s_if gz_ne (s_aload 1 <| s_get gyPS 7 0 <| s_astore 4 <| s_aload 1 <| s_get gyPS 7 1 <| s_get gyPS 4 2 <| s_aload 4 <| s_get gyPS 2 3 <| s_iload 3 <| s_ald gyPS 0 <| s_aload 0 <| s_get gyPS 3 0 <| s_iload 3 <| s_ald gyPS 0 <| s_ca gI (fX8_pair N) 2 [] <| s_ald gyPS 0 <| s_istore 5 <| s_const 0 <| s_istore 6 <| s_mask [true, false, true, true, true, true, true] <| fX3_countCarried_k45 N) (s_const 0 <| s_iret)
def fX3_countCarried (N : Nat) : List Value → gM → Option (gR × gM) := gFn 7 (fX3_countCarried_k0 N)
def fX6_growth_k0 (N : Nat) : gK :=
  s_iload 0 <| s_const 1 <| s_bin gb_add <| s_iload 1 <| s_bin gb_mul <| s_const 10000 <| s_div gb_div <| s_iload 0 <| s_iload 1 <| s_bin gb_mul <| s_const 10000 <| s_div gb_div <| s_bin gb_sub <| s_iret
def fX6_growth (N : Nat) : List Value → gM → Option (gR × gM) := gFn 2 (fX6_growth_k0 N)
def fX6_letArrive_k44 (N : Nat) : gK :=
  s_istore 4 <| s_aload 0 <| s_get gyS 7 1 <| s_get gyS 4 3 <| s_iload 4 <| s_dup2 <| s_ald gyS 0 <| s_aload 0 <| s_get gyS 7 2 <| s_iload 3 <| s_const 100 <| s_aload 2 <| s_get gyS 2 8 <| s_const 1 <| s_ald gyS 0 <| s_bin gb_add <| s_bin gb_mul <| s_ca gI (fX6_growth N) 2 [] <| s_bin gb_add <| s_ast gyS 0 <| s_vret
def fX6_letArrive_k28 (N : Nat) : gK :=
  s_pop <| s_aload 2 <| s_iload 1 <| s_const 0 <| s_cav gI (fX2_getNumber N) 3 [1, 2, 3, 4, 5, 6, 7, 8, 9] <| s_aload 2 <| s_iload 1 <| s_const 1 <| s_cav gI (fX2_getNumber N) 3 [1, 2, 3, 4, 5, 6, 7, 8, 9] <| s_ca gI (fX8_pair N) 2 [] <| s_mask [true, false, true, true, false] <| fX6_letArrive_k44 N
def fX6_letArrive_k0 (N : Nat) : gK :=
  s_aload 0 <| s_get gyS 7 0 <| s_astore 2 <| s_aload 2 <| s_iload 1 <| s_const 2 <| s_cav gI (fX2_getNumber N) 3 [1, 2, 3, 4, 5, 6, 7, 8, 9] <| s_istore 3 <| s_aload 0 <| s_iload 1 <| s_aload 0 <| s_get gyS 7 2 <| s_iload 3 <| s_const 100 <| s_bin gb_mul <| s_ca gI (fX6_growth N) 2 [] <| s_cav gI (fX7_arrive N) 3 [0, 1, 2, 3, 4, 5, 6, 7, 8, 9, 10, 11, 12, 13, 14, 15, 16, 17, 18, 19] <| s_mask [true, true, true, true, false] <| fX6_letArrive_k28 N
def fX6_letArrive (N : Nat) : List Value → gM → Option (gR × gM) := gFn 5 (fX6_letArrive_k0 N)
def fX6_deliver_k63 (N : Nat) : gK :=
  s_jmath gj_max <| s_cav gV (fX2_putNumber N) 4 [1, 2, 3, 4, 5, 6, 7, 8, 9] <| s_aload 0 <| s_get gyS 7 1 <| s_iload 1 <| s_cav gV (fX4_release N) 2 [10, 11, 12, 13, 14, 15, 16, 17, 18, 19] <| s_vret
def fX6_deliver_k0 (N : Nat) : gK :=
  s_aload 0 <| s_get gyS 7 0 <| s_astore 2 <| s_aload 0 <| s_get gyS 7 1 <| s_get gyS 4 5 <| s_iload 1 <| s_ald gyS 0 <| s_istore 3 <| s_aload 0 <| s_get gyS 7 2 <| s_const 1 <| s_bin gb_add <| s_aload 0 <| s_get gyS 7 1 <| s_get gyS 4 6 <| s_iload 1 <| s_ald gyS 0 <| s_bin gb_sub <| s_istore 4 <| s_aload 2 <| s_iload 3 <| s_const 6 <| s_const 1 <| s_cav gV (fX2_addNumber N) 4 [1, 2, 3, 4, 5, 6, 7, 8, 9] <| s_aload 2 <| s_iload 3 <| s_const 9 <| s_iload 4 <| s_cav gV (fX2_addNumber N) 4 [1, 2, 3, 4, 5, 6, 7, 8, 9] <| s_aload 2 <| s_iload 3 <| s_const 10 <| s_iload 4 <| s_aload 2 <| s_iload 3 <| s_const 10 <| s_cav gI (fX2_getNumber N) 3 [1, 2, 3, 4, 5, 6, 7, 8, 9] <| s_mask [true, true, false, false, false] <| fX6_deliver_k63 N
def fX6_deliver (N : Nat) : List Value → gM → Option (gR × gM) := gFn 5 (fX6_deliver_k0 N)
def fX6_pass_k49 (N : Nat) : gK :=
  s_aload 4 <| s_get gyS 4 8 <| s_iload 1 <| s_dup2 <| s_ald gyS 0 <| s_const 1 <| s_iload 3 <| s_bin gb_shl <| s_bin gb_or <| s_ast gyS 0 <| s_aload 4 <| s_iload 2 <| s_iload 1 <| s_cav gV (fX4_putLast N) 3 [10, 11, 12, 13, 14, 15, 16, 17, 18, 19] <| s_vret
def fX6_pass_k0 (N : Nat) : gK :=
  s_aload 0 <| s_get gyS 7 1 <| s_astore 4 <| s_aload 4 <| s_get gyS 4 7 <| s_iload 1 <| s_dup2 <| s_ald gyS 0 <| s_const 1 <| s_bin gb_add <| s_ast gyS 0 <| s_aload 4 <| s_get gyS 4 8 <| s_iload 1 <| s_ald gyS 0 <| s_iload 3 <| s_bin gb_shr <| s_const 1 <| s_bin gb_and <| s_const 1 <| s_cmp gc_ne (s_mask [false, true, true, true, true] <| fX6_pass_k49 N) (s_aload 0 <| s_get gyS 7 0 <| s_aload 4 <| s_get gyS 4 5 <| s_iload 1 <| s_ald gyS 0 <| s_const 8 <| s_const 1 <| s_cav gV (fX2_addNumber N) 4 [1, 2, 3, 4, 5, 6, 7, 8, 9] <| s_mask [false, true, true, true, true] <| fX6_pass_k49 N)
def fX6_pass (N : Nat) : List Value → gM → Option (gR × gM) := gFn 5 (fX6_pass_k0 N)
def fX6_takeFor_b52 (N : Nat) : gK → gK := fun K52 =>
  s_iload 6 <| s_iload 5 <| s_cmp gc_ge (s_aload 0 <| s_get gyRS 6 2 <| s_iload 2 <| s_iload 5 <| s_ast gyRS 0 <| s_aload 1 <| s_get gyRS 7 0 <| s_get gyRS 2 6 <| s_iload 2 <| s_dup2 <| s_ald gyRS 0 <| s_iload 5 <| s_bin gb_add <| s_ast gyRS 0 <| s_aload 0 <| s_get gyRS 6 3 <| s_iload 2 <| s_iload 3 <| s_aload 1 <| s_get gyRS 7 1 <| s_get gyRS 4 3 <| s_iload 4 <| s_ald gyRS 0 <| s_jmath gj_min <| s_ast gyRS 0 <| s_aload 1 <| s_get gyRS 7 1 <| s_get gyRS 4 3 <| s_iload 4 <| s_dup2 <| s_ald gyRS 0 <| s_aload 0 <| s_get gyRS 6 3 <| s_iload 2 <| s_ald gyRS 0 <| s_bin gb_sub <| s_ast gyRS 0 <| s_vret) (s_aload 0 <| s_get gyRS 6 1 <| s_iload 2 <| s_const 5 <| s_bin gb_mul <| s_iload 6 <| s_bin gb_add <| s_aload 1 <| s_get gyRS 7 1 <| s_iload 4 <| s_const (-1) <| s_cav gI (fX4_takeBehind N) 3 [17, 18, 19, 20, 21, 22, 23, 24, 25, 26] <| s_ast gyRS 0 <| s_iinc 6 1 <| s_mask [true, true, true, true, true, true, true] <| K52)
def fX6_takeFor_k52 (N : Nat) : gK := s_lp (fX6_takeFor_b52 N) N
def fX6_takeFor_k0 (N : Nat) : gK :=
  s_aload 1 <| s_get gyRS 7 0 <| s_get gyRS 2 5 <| s_iload 2 <| s_ald gyRS 0 <| s_istore 3 <| s_aload 1 <| s_get gyRS 7 0 <| s_get gyRS 2 3 <| s_iload 2 <| s_ald gyRS 0 <| s_aload 0 <| s_get gyRS 6 0 <| s_get gyRS 3 0 <| s_iload 2 <| s_ald gyRS 0 <| s_ca gI (fX8_pair N) 2 [] <| s_istore 4 <| s_iload 3 <| s_aload 1 <| s_get gyRS 7 1 <| s_get gyRS 4 2 <| s_iload 4 <| s_ald gyRS 0 <| s_jmath gj_min <| s_istore 5 <| s_const 0 <| s_istore 6 <| s_mask [true, true, true, true, true, true, true] <| fX6_takeFor_k52 N
def fX6_takeFor (N : Nat) : List Value → gM → Option (gR × gM) := gFn 7 (fX6_takeFor_k0 N)
def fX6_bringOver_k107 (N : Nat) (K48 : gK) : gK :=
  s_iinc 6 1 <| s_mask [true, true, true, true, true, true, true, false] <| K48
def fX6_bringOver_k92 (N : Nat) (K48 : gK) : gK :=
  s_iload 7 <| s_const (-1) <| s_cmp gc_eq (s_mask [true, true, true, true, true, true, true, false] <| fX6_bringOver_k107 N K48) (s_aload 1 <| s_iload 7 <| s_iload 5 <| s_iload 3 <| s_ca gV (fX6_pass N) 4 [7, 8, 9, 10, 11, 12, 13, 14, 15, 16, 17, 18, 19, 20, 21, 22, 23, 24, 25, 26] <| s_mask [true, true, true, true, true, true, true, false] <| fX6_bringOver_k107 N K48)
def fX6_bringOver_b48 (N : Nat) : gK → gK := fun K48 =>
  s_iload 6 <| s_aload 0 <| s_get gyRS 6 2 <| s_iload 2 <| s_ald gyRS 0 <| s_cmp gc_ge (s_iload 4 <| s_if gz_ne (s_vret) (s_aload 1 <| s_get gyRS 7 1 <| s_get gyRS 4 3 <| s_iload 5 <| s_dup2 <| s_ald gyRS 0 <| s_aload 0 <| s_get gyRS 6 3 <| s_iload 2 <| s_ald gyRS 0 <| s_bin gb_add <| s_ast gyRS 0 <| s_vret)) (s_aload 0 <| s_get gyRS 6 1 <| s_iload 2 <| s_const 5 <| s_bin gb_mul <| s_iload 6 <| s_bin gb_add <| s_ald gyRS 0 <| s_istore 7 <| s_iload 7 <| s_const (-1) <| s_cmp gc_eq (s_mask [true, true, true, true, true, true, true, true] <| fX6_bringOver_k92 N K48) (s_iload 4 <| s_if gz_eq (s_mask [true, true, true, true, true, true, true, true] <| fX6_bringOver_k92 N K48) (s_aload 1 <| s_iload 7 <| s_ca gV (fX6_deliver N) 2 [7, 8, 9, 10, 11, 12, 13, 14, 15, 16, 17, 18, 19, 20, 21, 22, 23, 24, 25, 26] <| s_mask [true, true, true, true, true, true, true, false] <| fX6_bringOver_k107 N K48)))
def fX6_bringOver_k48 (N : Nat) : gK := s_lp (fX6_bringOver_b48 N) N
def fX6_bringOver_k28 (N : Nat) : gK :=
  s_istore 4 <| s_iload 3 <| s_aload 0 <| s_get gyRS 6 0 <| s_get gyRS 3 0 <| s_iload 2 <| s_ald gyRS 0 <| s_ca gI (fX8_pair N) 2 [] <| s_istore 5 <| s_const 0 <| s_istore 6 <| s_mask [true, true, true, true, true, true, true, false] <| fX6_bringOver_k48 N
def fX6_bringOver_k0 (N : Nat) : gK :=
  s_aload 1 <| s_get gyRS 7 0 <| s_get gyRS 2 4 <| s_iload 2 <| s_ald gyRS 0 <| s_istore 3 <| s_iload 3 <| s_aload 0 <| s_get gyRS 6 0 <| s_get gyRS 3 0 <| s_iload 2 <| s_ald gyRS 0 <| s_cmp gc_ne (s_const 0 <| s_mask [true, true, true, true, false, false, false, false] <| fX6_bringOver_k28 N) (s_const 1 <| s_mask [true, true, true, true, false, false, false, false] <| fX6_bringOver_k28 N)
def fX6_bringOver (N : Nat) : List Value → gM → Option (gR × gM) := gFn 8 (fX6_bringOver_k0 N)
def fX6_transmit_k62 (N : Nat) (K36 : gK) : gK :=
  s_iinc 3 1 <| s_mask [true, true, true, true] <| K36
def fX6_transmit_b36 (N : Nat) : gK → gK := fun K36 =>
  s_iload 3 <| s_aload 1 <| s_get gyRS 7 0 <| s_get gyRS 2 1 <| s_cmp gc_ge (s_vret) (s_iload 2 <| s_iload 3 <| s_bin gb_shr <| s_const 1 <| s_bin gb_and <| s_const 1 <| s_cmp gc_ne (s_mask [true, true, true, true] <| fX6_transmit_k62 N K36) (s_aload 0 <| s_aload 1 <| s_iload 3 <| s_cav gV (fX6_bringOver N) 3 [0, 1, 2, 3, 4, 5, 6, 7, 8, 9, 10, 11, 12, 13, 14, 15, 16, 17, 18, 19, 20, 21, 22, 23, 24, 25, 26] <| s_mask [true, true, true, true] <| fX6_transmit_k62 N K36))
def fX6_transmit_k36 (N : Nat) : gK := s_lp (fX6_transmit_b36 N) N
def fX6_transmit_k28 (N : Nat) (K2 : gK) : gK :=
  s_iinc 3 1 <| s_mask [true, true, true, true] <| K2
def fX6_transmit_b2 (N : Nat) : gK → gK := fun K2 =>
  s_iload 3 <| s_aload 1 <| s_get gyRS 7 0 <| s_get gyRS 2 1 <| s_cmp gc_ge (s_const 0 <| s_istore 3 <| s_mask [true, true, true, true] <| fX6_transmit_k36 N) (s_iload 2 <| s_iload 3 <| s_bin gb_shr <| s_const 1 <| s_bin gb_and <| s_const 1 <| s_cmp gc_ne (s_mask [true, true, true, true] <| fX6_transmit_k28 N K2) (s_aload 0 <| s_aload 1 <| s_iload 3 <| s_cav gV (fX6_takeFor N) 3 [0, 1, 2, 3, 4, 5, 6, 7, 8, 9, 10, 11, 12, 13, 14, 15, 16, 17, 18, 19, 20, 21, 22, 23, 24, 25, 26] <| s_mask [true, true, true, true] <| fX6_transmit_k28 N K2))
def fX6_transmit_k2 (N : Nat) : gK := s_lp (fX6_transmit_b2 N) N
def fX6_transmit_k0 (N : Nat) : gK :=
  s_const 0 <| s_istore 3 <| s_mask [true, true, true, true] <| fX6_transmit_k2 N
def fX6_transmit (N : Nat) : List Value → gM → Option (gR × gM) := gFn 4 (fX6_transmit_k0 N)
def fX5_putBytes_k49 (N : Nat) (K3 : gK) : gK :=
  s_iinc 2 (-8) <| s_mask [true, true, true, false] <| K3
def fX5_putBytes_b3 (N : Nat) : gK → gK := fun K3 =>
  s_iload 2 <| s_if gz_lt (s_vret) (s_iload 1 <| s_iload 2 <| s_bin gb_ushr <| s_const 255 <| s_bin gb_and <| s_istore 3 <| s_iload 3 <| s_if gz_eq (s_mask [true, true, true, false] <| fX5_putBytes_k49 N K3) (s_aload 0 <| s_get gyT 5 2 <| s_const 700 <| s_cmp gc_ge (s_mask [true, true, true, false] <| fX5_putBytes_k49 N K3) (s_aload 0 <| s_get gyT 5 0 <| s_aload 0 <| s_get gyT 5 2 <| s_iload 3 <| s_ast gyT 0 <| s_aload 0 <| s_dup <| s_get gyT 5 2 <| s_const 1 <| s_bin gb_add <| s_put gyT 5 2 <| s_mask [true, true, true, false] <| fX5_putBytes_k49 N K3)))
def fX5_putBytes_k3 (N : Nat) : gK := s_lp (fX5_putBytes_b3 N) N
def fX5_putBytes_k0 (N : Nat) : gK :=
  s_const 24 <| s_istore 2 <| s_mask [true, true, true, false] <| fX5_putBytes_k3 N
def fX5_putBytes (N : Nat) : List Value → gM → Option (gR × gM) := gFn 4 (fX5_putBytes_k0 N)
def fX5_kindOf_k14 (N : Nat) : gK :=
  s_iload 0 <| s_const 48 <| s_cmp gc_lt (s_const 3 <| s_iret) (s_iload 0 <| s_const 57 <| s_cmp gc_gt (s_const 3 <| s_iret) (s_const 2 <| s_iret))
def fX5_kindOf_k0 (N : Nat) : gK :=
  s_iload 0 <| s_const 97 <| s_cmp gc_lt (s_mask [true] <| fX5_kindOf_k14 N) (s_iload 0 <| s_const 122 <| s_cmp gc_gt (s_mask [true] <| fX5_kindOf_k14 N) (s_const 1 <| s_iret))
def fX5_kindOf (N : Nat) : List Value → gM → Option (gR × gM) := gFn 1 (fX5_kindOf_k0 N)
def fX5_nextToken_k205 (N : Nat) (K114 : gK) : gK :=
  s_aload 0 <| s_dup <| s_get gyT 5 3 <| s_const 1 <| s_bin gb_add <| s_put gyT 5 3 <| s_mask [true, false] <| K114
def fX5_nextToken_k202 (N : Nat) (K114 : gK) : gK :=
  s_put gyT 5 6 <| s_mask [true, false] <| fX5_nextToken_k205 N K114
def fX5_nextToken_k170 (N : Nat) (K114 : gK) : gK :=
  s_istore 1 <| s_aload 0 <| s_iload 1 <| s_if gz_eq (s_const 1000 <| s_mask [true, false] <| fX5_nextToken_k202 N K114) (s_const 10 <| s_aload 0 <| s_get gyT 5 6 <| s_bin gb_mul <| s_aload 0 <| s_get gyT 5 0 <| s_aload 0 <| s_get gyT 5 3 <| s_ald gyT 0 <| s_bin gb_add <| s_const 48 <| s_bin gb_sub <| s_mask [true, false] <| fX5_nextToken_k202 N K114)
def fX5_nextToken_b114 (N : Nat) : gK → gK := fun K114 =>
  s_aload 0 <| s_get gyT 5 3 <| s_aload 0 <| s_get gyT 5 2 <| s_cmp gc_ge (s_vret) (s_aload 0 <| s_get gyT 5 0 <| s_aload 0 <| s_get gyT 5 3 <| s_ald gyT 0 <| s_ca gI (fX5_kindOf N) 1 [] <| s_aload 0 <| s_get gyT 5 4 <| s_cmp gc_ne (s_vret) (s_aload 0 <| s_get gyT 5 4 <| s_const 2 <| s_cmp gc_ne (s_mask [true, false] <| fX5_nextToken_k205 N K114) (s_aload 0 <| s_get gyT 5 3 <| s_aload 0 <| s_get gyT 5 5 <| s_bin gb_sub <| s_const 3 <| s_cmp gc_ge (s_const 0 <| s_mask [true, false] <| fX5_nextToken_k170 N K114) (s_const 1 <| s_mask [true, false] <| fX5_nextToken_k170 N K114))))
def fX5_nextToken_k114 (N : Nat) : gK := s_lp (fX5_nextToken_b114 N) N
def fX5_nextToken_k79 (N : Nat) : gK :=
  s_put gyT 5 4 <| s_aload 0 <| s_get gyT 5 4 <| s_const 3 <| s_cmp gc_ne (s_mask [true, false] <| fX5_nextToken_k114 N) (s_aload 0 <| s_aload 0 <| s_get gyT 5 0 <| s_aload 0 <| s_get gyT 5 3 <| s_ald gyT 0 <| s_put gyT 5 6 <| s_aload 0 <| s_dup <| s_get gyT 5 3 <| s_const 1 <| s_bin gb_add <| s_put gyT 5 3 <| s_vret)
def fX5_nextToken_k38 (N : Nat) : gK :=
  s_aload 0 <| s_aload 0 <| s_get gyT 5 3 <| s_put gyT 5 5 <| s_aload 0 <| s_const 0 <| s_put gyT 5 6 <| s_aload 0 <| s_aload 0 <| s_get gyT 5 3 <| s_aload 0 <| s_get gyT 5 2 <| s_cmp gc_ge (s_const 0 <| s_mask [true, false] <| fX5_nextToken_k79 N) (s_aload 0 <| s_get gyT 5 0 <| s_aload 0 <| s_get gyT 5 3 <| s_ald gyT 0 <| s_ca gI (fX5_kindOf N) 1 [] <| s_mask [true, false] <| fX5_nextToken_k79 N)
def fX5_nextToken_b0 (N : Nat) : gK → gK := fun K0 =>
  s_aload 0 <| s_get gyT 5 3 <| s_aload 0 <| s_get gyT 5 2 <| s_cmp gc_ge (s_mask [true, false] <| fX5_nextToken_k38 N) (s_aload 0 <| s_get gyT 5 0 <| s_aload 0 <| s_get gyT 5 3 <| s_ald gyT 0 <| s_const 32 <| s_cmp gc_ne (s_mask [true, false] <| fX5_nextToken_k38 N) (s_aload 0 <| s_dup <| s_get gyT 5 3 <| s_const 1 <| s_bin gb_add <| s_put gyT 5 3 <| s_mask [true, false] <| K0))
def fX5_nextToken_k0 (N : Nat) : gK := s_lp (fX5_nextToken_b0 N) N
def fX5_nextToken (N : Nat) : List Value → gM → Option (gR × gM) := gFn 2 (fX5_nextToken_k0 N)
def fX5_isSemicolon_k0 (N : Nat) : gK :=
  s_aload 0 <| s_get gyT 5 4 <| s_const 3 <| s_cmp gc_ne (s_const 0 <| s_zret) (s_aload 0 <| s_get gyT 5 6 <| s_const 59 <| s_cmp gc_ne (s_const 0 <| s_zret) (s_const 1 <| s_zret))
def fX5_isSemicolon (N : Nat) : List Value → gM → Option (gR × gM) := gFn 1 (fX5_isSemicolon_k0 N)
def fX5_isNumber_k0 (N : Nat) : gK :=
  s_aload 0 <| s_get gyT 5 4 <| s_const 2 <| s_cmp gc_ne (s_const 0 <| s_zret) (s_aload 0 <| s_get gyT 5 6 <| s_iload 1 <| s_cmp gc_lt (s_const 0 <| s_zret) (s_aload 0 <| s_get gyT 5 6 <| s_iload 2 <| s_cmp gc_gt (s_const 0 <| s_zret) (s_const 1 <| s_zret)))
def fX5_isNumber (N : Nat) : List Value → gM → Option (gR × gM) := gFn 3 (fX5_isNumber_k0 N)
def fX5_isWord_b28 (N : Nat) : gK → gK := fun K28 =>
  s_iload 2 <| s_aload 1 <| s_cae gI (fJS_length N) 1 <| s_cmp gc_ge (s_const 1 <| s_zret) (s_aload 0 <| s_get gyT 5 5 <| s_iload 2 <| s_bin gb_add <| s_aload 0 <| s_get gyT 5 2 <| s_cmp gc_ge (s_const 1 <| s_zret) (s_aload 0 <| s_get gyT 5 0 <| s_aload 0 <| s_get gyT 5 5 <| s_iload 2 <| s_bin gb_add <| s_ald gyT 0 <| s_aload 1 <| s_iload 2 <| s_cae gI (fJS_charAt N) 2 <| s_cmp gc_eq (s_iinc 2 1 <| s_mask [true, true, true] <| K28) (s_const 0 <| s_zret)))
def fX5_isWord_k28 (N : Nat) : gK := s_lp (fX5_isWord_b28 N) N
def fX5_isWord_k0 (N : Nat) : gK :=
  s_aload 0 <| s_get gyT 5 4 <| s_const 1 <| s_cmp gc_ne (s_const 0 <| s_zret) (s_aload 0 <| s_get gyT 5 3 <| s_aload 0 <| s_get gyT 5 5 <| s_bin gb_sub <| s_aload 1 <| s_cae gI (fJS_length N) 1 <| s_cmp gc_eq (s_const 0 <| s_istore 2 <| s_mask [true, true, true] <| fX5_isWord_k28 N) (s_const 0 <| s_zret))
def fX5_isWord (N : Nat) : List Value → gM → Option (gR × gM) := gFn 3 (fX5_isWord_k0 N)
def fX5_readNodes_k22 (N : Nat) : gK :=
  s_if gz_ne (s_aload 0 <| s_get gyT 5 1 <| s_aload 0 <| s_get gyT 5 6 <| s_cav gV (fX2_clear N) 2 [2, 3, 4, 5, 6, 7, 8, 9, 10] <| s_aload 0 <| s_cav gV (fX5_nextToken N) 1 [0, 1, 2, 3, 4, 5, 6, 7, 8, 9, 10] <| s_const 1 <| s_zret) (s_const 0 <| s_zret)
def fX5_readNodes_k0 (N : Nat) : gK :=
  s_aload 0 <| s_pref (1000 + 0) <| s_cav gI (fX5_isWord N) 2 [0, 1, 2, 3, 4, 5, 6, 7, 8, 9, 10] <| s_if gz_ne (s_aload 0 <| s_cav gV (fX5_nextToken N) 1 [0, 1, 2, 3, 4, 5, 6, 7, 8, 9, 10] <| s_aload 0 <| s_const 2 <| s_const 10 <| s_cav gI (fX5_isNumber N) 3 [0, 1, 2, 3, 4, 5, 6, 7, 8, 9, 10] <| s_mask [true] <| fX5_readNodes_k22 N) (s_const 0 <| s_zret)
def fX5_readNodes (N : Nat) : List Value → gM → Option (gR × gM) := gFn 1 (fX5_readNodes_k0 N)
def fX5_readLink_k98 (N : Nat) : gK :=
  s_aload 0 <| s_const 1 <| s_const 5 <| s_cav gI (fX5_isNumber N) 3 [0, 1, 2, 3, 4, 5, 6, 7, 8, 9, 10] <| s_if gz_ne (s_aload 0 <| s_get gyT 5 1 <| s_iload 1 <| s_iload 2 <| s_aload 0 <| s_get gyT 5 6 <| s_cav gV (fX2_putLink N) 4 [2, 3, 4, 5, 6, 7, 8, 9, 10] <| s_aload 0 <| s_cav gV (fX5_nextToken N) 1 [0, 1, 2, 3, 4, 5, 6, 7, 8, 9, 10] <| s_const 1 <| s_zret) (s_const 0 <| s_zret)
def fX5_readLink_k46 (N : Nat) : gK :=
  s_aload 0 <| s_const 0 <| s_aload 0 <| s_get gyT 5 1 <| s_get gyT 2 0 <| s_const 1 <| s_bin gb_sub <| s_cav gI (fX5_isNumber N) 3 [0, 1, 2, 3, 4, 5, 6, 7, 8, 9, 10] <| s_if gz_eq (s_const 0 <| s_zret) (s_aload 0 <| s_get gyT 5 6 <| s_iload 1 <| s_cmp gc_eq (s_const 0 <| s_zret) (s_aload 0 <| s_get gyT 5 1 <| s_iload 1 <| s_aload 0 <| s_get gyT 5 6 <| s_cav gI (fX2_findLink N) 3 [2, 3, 4, 5, 6, 7, 8, 9, 10] <| s_const (-1) <| s_cmp gc_eq (s_aload 0 <| s_get gyT 5 6 <| s_istore 2 <| s_aload 0 <| s_cav gV (fX5_nextToken N) 1 [0, 1, 2, 3, 4, 5, 6, 7, 8, 9, 10] <| s_mask [true, true, true] <| fX5_readLink_k98 N) (s_const 0 <| s_zret)))
def fX5_readLink_k0 (N : Nat) : gK :=
  s_aload 0 <| s_get gyT 5 1 <| s_get gyT 2 1 <| s_const 14 <| s_cmp gc_lt (s_aload 0 <| s_cav gV (fX5_nextToken N) 1 [0, 1, 2, 3, 4, 5, 6, 7, 8, 9, 10] <| s_aload 0 <| s_const 0 <| s_aload 0 <| s_get gyT 5 1 <| s_get gyT 2 0 <| s_const 1 <| s_bin gb_sub <| s_cav gI (fX5_isNumber N) 3 [0, 1, 2, 3, 4, 5, 6, 7, 8, 9, 10] <| s_if gz_ne (s_aload 0 <| s_get gyT 5 6 <| s_istore 1 <| s_aload 0 <| s_cav gV (fX5_nextToken N) 1 [0, 1, 2, 3, 4, 5, 6, 7, 8, 9, 10] <| s_mask [true, true, false] <| fX5_readLink_k46 N) (s_const 0 <| s_zret)) (s_const 0 <| s_zret)
def fX5_readLink (N : Nat) : List Value → gM → Option (gR × gM) := gFn 3 (fX5_readLink_k0 N)
def fX5_readConflict_k119 (N : Nat) : gK :=
  s_aload 0 <| s_cav gV (fX5_nextToken N) 1 [0, 1, 2, 3, 4, 5, 6, 7, 8, 9, 10] <| s_const 1 <| s_zret
def fX5_readConflict_k64 (N : Nat) : gK :=
  s_aload 0 <| s_const 0 <| s_aload 0 <| s_get gyT 5 1 <| s_get gyT 2 1 <| s_const 1 <| s_bin gb_sub <| s_cav gI (fX5_isNumber N) 3 [0, 1, 2, 3, 4, 5, 6, 7, 8, 9, 10] <| s_if gz_eq (s_const 0 <| s_zret) (s_aload 0 <| s_get gyT 5 6 <| s_iload 1 <| s_cmp gc_eq (s_const 0 <| s_zret) (s_aload 0 <| s_get gyT 5 1 <| s_iload 1 <| s_aload 0 <| s_get gyT 5 6 <| s_cav gI (fX2_inConflict N) 3 [2, 3, 4, 5, 6, 7, 8, 9, 10] <| s_if gz_eq (s_aload 0 <| s_get gyT 5 1 <| s_iload 1 <| s_aload 0 <| s_get gyT 5 6 <| s_const 1 <| s_cav gV (fX2_putConflict N) 4 [2, 3, 4, 5, 6, 7, 8, 9, 10] <| s_mask [true, false] <| fX5_readConflict_k119 N) (s_const 0 <| s_zret)))
def fX5_readConflict_k0 (N : Nat) : gK :=
  s_aload 0 <| s_get gyT 5 7 <| s_const 40 <| s_cmp gc_ge (s_const 0 <| s_zret) (s_aload 0 <| s_get gyT 5 1 <| s_get gyT 2 1 <| s_const 2 <| s_cmp gc_ge (s_aload 0 <| s_dup <| s_get gyT 5 7 <| s_const 1 <| s_bin gb_add <| s_put gyT 5 7 <| s_aload 0 <| s_cav gV (fX5_nextToken N) 1 [0, 1, 2, 3, 4, 5, 6, 7, 8, 9, 10] <| s_aload 0 <| s_const 0 <| s_aload 0 <| s_get gyT 5 1 <| s_get gyT 2 1 <| s_const 1 <| s_bin gb_sub <| s_cav gI (fX5_isNumber N) 3 [0, 1, 2, 3, 4, 5, 6, 7, 8, 9, 10] <| s_if gz_ne (s_aload 0 <| s_get gyT 5 6 <| s_istore 1 <| s_aload 0 <| s_cav gV (fX5_nextToken N) 1 [0, 1, 2, 3, 4, 5, 6, 7, 8, 9, 10] <| s_mask [true, true] <| fX5_readConflict_k64 N) (s_const 0 <| s_zret)) (s_const 0 <| s_zret))
def fX5_readConflict (N : Nat) : List Value → gM → Option (gR × gM) := gFn 2 (fX5_readConflict_k0 N)
def fX5_readBudget_k30 (N : Nat) : gK :=
  s_aload 0 <| s_cav gV (fX5_nextToken N) 1 [0, 1, 2, 3, 4, 5, 6, 7, 8, 9, 10] <| s_const 1 <| s_zret
def fX5_readBudget_k0 (N : Nat) : gK :=
  s_aload 0 <| s_cav gV (fX5_nextToken N) 1 [0, 1, 2, 3, 4, 5, 6, 7, 8, 9, 10] <| s_aload 0 <| s_const 0 <| s_const 200 <| s_cav gI (fX5_isNumber N) 3 [0, 1, 2, 3, 4, 5, 6, 7, 8, 9, 10] <| s_if gz_ne (s_aload 0 <| s_get gyT 5 1 <| s_iload 1 <| s_const 3 <| s_aload 0 <| s_get gyT 5 6 <| s_cav gV (fX2_putNumber N) 4 [2, 3, 4, 5, 6, 7, 8, 9, 10] <| s_mask [true, false] <| fX5_readBudget_k30 N) (s_const 0 <| s_zret)
def fX5_readBudget (N : Nat) : List Value → gM → Option (gR × gM) := gFn 2 (fX5_readBudget_k0 N)
def fX5_readFlow_k138 (N : Nat) : gK :=
  s_const 1 <| s_zret
def fX5_readFlow_k127 (N : Nat) : gK :=
  s_if gz_eq (s_mask [false, false, false, false] <| fX5_readFlow_k138 N) (s_aload 0 <| s_iload 3 <| s_cav gI (fX5_readBudget N) 2 [0, 1, 2, 3, 4, 5, 6, 7, 8, 9, 10] <| s_if gz_eq (s_const 0 <| s_zret) (s_mask [false, false, false, false] <| fX5_readFlow_k138 N))
def fX5_readFlow_k90 (N : Nat) : gK :=
  s_if gz_ne (s_aload 0 <| s_get gyT 5 1 <| s_get gyT 2 2 <| s_istore 3 <| s_aload 0 <| s_get gyT 5 1 <| s_iload 1 <| s_iload 2 <| s_aload 0 <| s_get gyT 5 6 <| s_const 0 <| s_cav gV (fX2_putFlow N) 5 [2, 3, 4, 5, 6, 7, 8, 9, 10] <| s_aload 0 <| s_cav gV (fX5_nextToken N) 1 [0, 1, 2, 3, 4, 5, 6, 7, 8, 9, 10] <| s_aload 0 <| s_pref (1000 + 4) <| s_cav gI (fX5_isWord N) 2 [0, 1, 2, 3, 4, 5, 6, 7, 8, 9, 10] <| s_mask [true, false, false, true] <| fX5_readFlow_k127 N) (s_const 0 <| s_zret)
def fX5_readFlow_k46 (N : Nat) : gK :=
  s_aload 0 <| s_const 0 <| s_aload 0 <| s_get gyT 5 1 <| s_get gyT 2 0 <| s_const 1 <| s_bin gb_sub <| s_cav gI (fX5_isNumber N) 3 [0, 1, 2, 3, 4, 5, 6, 7, 8, 9, 10] <| s_if gz_eq (s_const 0 <| s_zret) (s_aload 0 <| s_get gyT 5 6 <| s_iload 1 <| s_cmp gc_ne (s_aload 0 <| s_get gyT 5 6 <| s_istore 2 <| s_aload 0 <| s_cav gV (fX5_nextToken N) 1 [0, 1, 2, 3, 4, 5, 6, 7, 8, 9, 10] <| s_aload 0 <| s_const 0 <| s_const 300 <| s_cav gI (fX5_isNumber N) 3 [0, 1, 2, 3, 4, 5, 6, 7, 8, 9, 10] <| s_mask [true, true, true, false] <| fX5_readFlow_k90 N) (s_const 0 <| s_zret))
def fX5_readFlow_k0 (N : Nat) : gK :=
  s_aload 0 <| s_get gyT 5 1 <| s_get gyT 2 2 <| s_const 6 <| s_cmp gc_lt (s_aload 0 <| s_cav gV (fX5_nextToken N) 1 [0, 1, 2, 3, 4, 5, 6, 7, 8, 9, 10] <| s_aload 0 <| s_const 0 <| s_aload 0 <| s_get gyT 5 1 <| s_get gyT 2 0 <| s_const 1 <| s_bin gb_sub <| s_cav gI (fX5_isNumber N) 3 [0, 1, 2, 3, 4, 5, 6, 7, 8, 9, 10] <| s_if gz_ne (s_aload 0 <| s_get gyT 5 6 <| s_istore 1 <| s_aload 0 <| s_cav gV (fX5_nextToken N) 1 [0, 1, 2, 3, 4, 5, 6, 7, 8, 9, 10] <| s_mask [true, true, false, false] <| fX5_readFlow_k46 N) (s_const 0 <| s_zret)) (s_const 0 <| s_zret)
def fX5_readFlow (N : Nat) : List Value → gM → Option (gR × gM) := gFn 4 (fX5_readFlow_k0 N)
def fX5_beginSetting_k0 (N : Nat) : gK :=
  s_aload 0 <| s_get gyT 5 8 <| s_iload 1 <| s_bin gb_shr <| s_const 1 <| s_bin gb_and <| s_const 1 <| s_cmp gc_ne (s_aload 0 <| s_dup <| s_get gyT 5 8 <| s_const 1 <| s_iload 1 <| s_bin gb_shl <| s_bin gb_or <| s_put gyT 5 8 <| s_aload 0 <| s_cav gV (fX5_nextToken N) 1 [0, 1, 2, 3, 4, 5, 6, 7, 8, 9, 10] <| s_const 1 <| s_zret) (s_const 0 <| s_zret)
def fX5_beginSetting (N : Nat) : List Value → gM → Option (gR × gM) := gFn 2 (fX5_beginSetting_k0 N)
def fX5_readChoice_k47 (N : Nat) : gK :=
  s_ast gyT 0 <| s_aload 0 <| s_cav gV (fX5_nextToken N) 1 [0, 1, 2, 3, 4, 5, 6, 7, 8, 9, 10] <| s_const 1 <| s_zret
def fX5_readChoice_k26 (N : Nat) : gK :=
  s_aload 0 <| s_get gyT 5 1 <| s_get gyT 2 8 <| s_iload 1 <| s_aload 0 <| s_aload 3 <| s_cav gI (fX5_isWord N) 2 [0, 1, 2, 3, 4, 5, 6, 7, 8, 9, 10] <| s_if gz_eq (s_const 0 <| s_mask [true, false, false, false] <| fX5_readChoice_k47 N) (s_const 1 <| s_mask [true, false, false, false] <| fX5_readChoice_k47 N)
def fX5_readChoice_k21 (N : Nat) : gK :=
  s_if gz_ne (s_mask [true, true, false, true] <| fX5_readChoice_k26 N) (s_const 0 <| s_zret)
def fX5_readChoice_k0 (N : Nat) : gK :=
  s_aload 0 <| s_iload 1 <| s_cav gI (fX5_beginSetting N) 2 [0, 1, 2, 3, 4, 5, 6, 7, 8, 9, 10] <| s_if gz_eq (s_const 0 <| s_zret) (s_aload 0 <| s_aload 2 <| s_cav gI (fX5_isWord N) 2 [0, 1, 2, 3, 4, 5, 6, 7, 8, 9, 10] <| s_if gz_ne (s_mask [true, true, false, true] <| fX5_readChoice_k26 N) (s_aload 0 <| s_aload 3 <| s_cav gI (fX5_isWord N) 2 [0, 1, 2, 3, 4, 5, 6, 7, 8, 9, 10] <| s_mask [true, true, false, true] <| fX5_readChoice_k21 N))
def fX5_readChoice (N : Nat) : List Value → gM → Option (gR × gM) := gFn 4 (fX5_readChoice_k0 N)
def fX5_readSetting_k0 (N : Nat) : gK :=
  s_aload 0 <| s_iload 1 <| s_cav gI (fX5_beginSetting N) 2 [0, 1, 2, 3, 4, 5, 6, 7, 8, 9, 10] <| s_if gz_eq (s_const 0 <| s_zret) (s_aload 0 <| s_const 0 <| s_pref 1200 <| s_iload 1 <| s_tld <| s_cav gI (fX5_isNumber N) 3 [0, 1, 2, 3, 4, 5, 6, 7, 8, 9, 10] <| s_if gz_ne (s_aload 0 <| s_get gyT 5 1 <| s_get gyT 2 8 <| s_iload 1 <| s_aload 0 <| s_get gyT 5 6 <| s_ast gyT 0 <| s_aload 0 <| s_cav gV (fX5_nextToken N) 1 [0, 1, 2, 3, 4, 5, 6, 7, 8, 9, 10] <| s_const 1 <| s_zret) (s_const 0 <| s_zret))
def fX5_readSetting (N : Nat) : List Value → gM → Option (gR × gM) := gFn 2 (fX5_readSetting_k0 N)
def fX5_readStatement_k82 (N : Nat) : gK :=
  s_if gz_eq (s_aload 0 <| s_pref (1000 + 10) <| s_cav gI (fX5_isWord N) 2 [0, 1, 2, 3, 4, 5, 6, 7, 8, 9, 10] <| s_if gz_eq (s_const 0 <| s_zret) (s_aload 0 <| s_const 3 <| s_pref (1000 + 11) <| s_pref (1000 + 12) <| s_cav gI (fX5_readChoice N) 4 [0, 1, 2, 3, 4, 5, 6, 7, 8, 9, 10] <| s_zret)) (s_aload 0 <| s_const 2 <| s_cav gI (fX5_readSetting N) 2 [0, 1, 2, 3, 4, 5, 6, 7, 8, 9, 10] <| s_zret)
def fX5_readStatement_k48 (N : Nat) : gK :=
  s_if gz_eq (s_aload 0 <| s_pref (1000 + 8) <| s_cav gI (fX5_isWord N) 2 [0, 1, 2, 3, 4, 5, 6, 7, 8, 9, 10] <| s_if gz_eq (s_aload 0 <| s_pref (1000 + 9) <| s_cav gI (fX5_isWord N) 2 [0, 1, 2, 3, 4, 5, 6, 7, 8, 9, 10] <| s_mask [true] <| fX5_readStatement_k82 N) (s_aload 0 <| s_const 1 <| s_cav gI (fX5_readSetting N) 2 [0, 1, 2, 3, 4, 5, 6, 7, 8, 9, 10] <| s_zret)) (s_aload 0 <| s_const 0 <| s_pref (1000 + 6) <| s_pref (1000 + 7) <| s_cav gI (fX5_readChoice N) 4 [0, 1, 2, 3, 4, 5, 6, 7, 8, 9, 10] <| s_zret)
def fX5_readStatement_k20 (N : Nat) : gK :=
  s_if gz_eq (s_aload 0 <| s_pref (1000 + 3) <| s_cav gI (fX5_isWord N) 2 [0, 1, 2, 3, 4, 5, 6, 7, 8, 9, 10] <| s_if gz_eq (s_aload 0 <| s_pref (1000 + 5) <| s_cav gI (fX5_isWord N) 2 [0, 1, 2, 3, 4, 5, 6, 7, 8, 9, 10] <| s_mask [true] <| fX5_readStatement_k48 N) (s_aload 0 <| s_cav gI (fX5_readFlow N) 1 [0, 1, 2, 3, 4, 5, 6, 7, 8, 9, 10] <| s_zret)) (s_aload 0 <| s_cav gI (fX5_readConflict N) 1 [0, 1, 2, 3, 4, 5, 6, 7, 8, 9, 10] <| s_zret)
def fX5_readStatement_k0 (N : Nat) : gK :=
  s_aload 0 <| s_pref (1000 + 1) <| s_cav gI (fX5_isWord N) 2 [0, 1, 2, 3, 4, 5, 6, 7, 8, 9, 10] <| s_if gz_eq (s_aload 0 <| s_pref (1000 + 2) <| s_cav gI (fX5_isWord N) 2 [0, 1, 2, 3, 4, 5, 6, 7, 8, 9, 10] <| s_mask [true] <| fX5_readStatement_k20 N) (s_aload 0 <| s_cav gI (fX5_readLink N) 1 [0, 1, 2, 3, 4, 5, 6, 7, 8, 9, 10] <| s_zret)
def fX5_readStatement (N : Nat) : List Value → gM → Option (gR × gM) := gFn 1 (fX5_readStatement_k0 N)
def fX5_read_k69 (N : Nat) : gK :=
  s_aload 0 <| s_get gyT 5 4 <| s_if gz_ne (s_aload 0 <| s_get gyT 5 5 <| s_iret) (s_const (-1) <| s_iret)
def fX5_read_k55 (N : Nat) (K33 : gK) : gK :=
  s_if gz_ne (s_iinc 1 1 <| s_mask [true, true] <| K33) (s_aload 0 <| s_get gyT 5 5 <| s_iret)
def fX5_read_b33 (N : Nat) : gK → gK := fun K33 =>
  s_iload 1 <| s_const 700 <| s_cmp gc_ge (s_mask [true, false] <| fX5_read_k69 N) (s_aload 0 <| s_cav gI (fX5_isSemicolon N) 1 [0, 1, 2, 3, 4, 5, 6, 7, 8, 9, 10] <| s_if gz_eq (s_mask [true, false] <| fX5_read_k69 N) (s_aload 0 <| s_cav gV (fX5_nextToken N) 1 [0, 1, 2, 3, 4, 5, 6, 7, 8, 9, 10] <| s_aload 0 <| s_cav gI (fX5_readStatement N) 1 [0, 1, 2, 3, 4, 5, 6, 7, 8, 9, 10] <| s_mask [true, true] <| fX5_read_k55 N K33))
def fX5_read_k33 (N : Nat) : gK := s_lp (fX5_read_b33 N) N
def fX5_read_k0 (N : Nat) : gK :=
  s_aload 0 <| s_const 0 <| s_put gyT 5 3 <| s_aload 0 <| s_const 0 <| s_put gyT 5 7 <| s_aload 0 <| s_const 0 <| s_put gyT 5 8 <| s_aload 0 <| s_cav gV (fX5_nextToken N) 1 [0, 1, 2, 3, 4, 5, 6, 7, 8, 9, 10] <| s_aload 0 <| s_cav gI (fX5_readNodes N) 1 [0, 1, 2, 3, 4, 5, 6, 7, 8, 9, 10] <| s_if gz_ne (s_const 0 <| s_istore 1 <| s_mask [true, true] <| fX5_read_k33 N) (s_aload 0 <| s_get gyT 5 5 <| s_iret)
def fX5_read (N : Nat) : List Value → gM → Option (gR × gM) := gFn 2 (fX5_read_k0 N)
def fX0_reachOver_k88 (N : Nat) : gK :=
  s_iload 7 <| s_if gz_eq (s_const 0 <| s_iret) (s_iload 6 <| s_if gz_ne (s_const 0 <| s_iret) (s_aload 0 <| s_get gyCN 0 0 <| s_iload 2 <| s_ald gyCN 0 <| s_if gz_le (s_const 0 <| s_iret) (s_aload 0 <| s_get gyCN 0 1 <| s_iload 4 <| s_iload 2 <| s_ast gyCN 0 <| s_const 1 <| s_iload 4 <| s_bin gb_shl <| s_iret)))
def fX0_reachOver_k48 (N : Nat) : gK :=
  s_istore 7 <| s_iload 6 <| s_if gz_eq (s_mask [true, false, true, false, true, false, true, true] <| fX0_reachOver_k88 N) (s_iload 7 <| s_if gz_ne (s_mask [true, false, true, false, true, false, true, true] <| fX0_reachOver_k88 N) (s_aload 0 <| s_get gyCN 0 0 <| s_iload 2 <| s_ald gyCN 0 <| s_aload 1 <| s_get gyCN 2 5 <| s_iload 2 <| s_ald gyCN 0 <| s_cmp gc_ge (s_mask [true, false, true, false, true, false, true, true] <| fX0_reachOver_k88 N) (s_aload 0 <| s_get gyCN 0 1 <| s_iload 5 <| s_iload 2 <| s_ast gyCN 0 <| s_const 1 <| s_iload 5 <| s_bin gb_shl <| s_iret)))
def fX0_reachOver_k31 (N : Nat) : gK :=
  s_istore 6 <| s_iload 3 <| s_iload 5 <| s_bin gb_shr <| s_const 1 <| s_bin gb_and <| s_const 1 <| s_cmp gc_ne (s_const 0 <| s_mask [true, true, true, false, true, true, true, false] <| fX0_reachOver_k48 N) (s_const 1 <| s_mask [true, true, true, false, true, true, true, false] <| fX0_reachOver_k48 N)
def fX0_reachOver_k0 (N : Nat) : gK :=
  s_aload 1 <| s_get gyCN 2 3 <| s_iload 2 <| s_ald gyCN 0 <| s_istore 4 <| s_aload 1 <| s_get gyCN 2 4 <| s_iload 2 <| s_ald gyCN 0 <| s_istore 5 <| s_iload 3 <| s_iload 4 <| s_bin gb_shr <| s_const 1 <| s_bin gb_and <| s_const 1 <| s_cmp gc_ne (s_const 0 <| s_mask [true, true, true, true, true, true, false, false] <| fX0_reachOver_k31 N) (s_const 1 <| s_mask [true, true, true, true, true, true, false, false] <| fX0_reachOver_k31 N)
def fX0_reachOver (N : Nat) : List Value → gM → Option (gR × gM) := gFn 8 (fX0_reachOver_k0 N)
def fX0_reach_b19 (N : Nat) (K7 : gK) : gK → gK := fun K19 =>
  s_iload 5 <| s_aload 1 <| s_get gyCN 2 1 <| s_cmp gc_ge (s_iinc 4 1 <| s_mask [true, true, false, true, true, false] <| K7) (s_iload 3 <| s_aload 0 <| s_aload 1 <| s_iload 5 <| s_iload 3 <| s_cav gI (fX0_reachOver N) 4 [0, 1, 2, 3, 4, 5, 6, 7, 8, 9, 10, 11] <| s_bin gb_or <| s_istore 3 <| s_iinc 5 1 <| s_mask [true, true, false, true, true, true] <| K19)
def fX0_reach_k19 (N : Nat) (K7 : gK) : gK := s_lp (fX0_reach_b19 N K7) N
def fX0_reach_b7 (N : Nat) : gK → gK := fun K7 =>
  s_iload 4 <| s_aload 1 <| s_get gyCN 2 0 <| s_cmp gc_ge (s_iload 3 <| s_iret) (s_const 0 <| s_istore 5 <| s_mask [true, true, false, true, true, true] <| fX0_reach_k19 N K7)
def fX0_reach_k7 (N : Nat) : gK := s_lp (fX0_reach_b7 N) N
def fX0_reach_k0 (N : Nat) : gK :=
  s_const 1 <| s_iload 2 <| s_bin gb_shl <| s_istore 3 <| s_const 1 <| s_istore 4 <| s_mask [true, true, false, true, true, false] <| fX0_reach_k7 N
def fX0_reach (N : Nat) : List Value → gM → Option (gR × gM) := gFn 6 (fX0_reach_k0 N)
def fX0_sendOne_k83 (N : Nat) (K6 : gK) : gK :=
  s_iinc 5 1 <| s_mask [true, true, true, false, true, true, false] <| K6
def fX0_sendOne_b6 (N : Nat) : gK → gK := fun K6 =>
  s_iload 5 <| s_const 10 <| s_cmp gc_ge (s_vret) (s_iload 4 <| s_iload 2 <| s_cmp gc_eq (s_vret) (s_aload 0 <| s_get gyCN 0 1 <| s_iload 4 <| s_ald gyCN 0 <| s_istore 6 <| s_aload 1 <| s_get gyCN 2 4 <| s_iload 6 <| s_ald gyCN 0 <| s_iload 4 <| s_cmp gc_ne (s_aload 0 <| s_get gyCN 0 0 <| s_iload 6 <| s_dup2 <| s_ald gyCN 0 <| s_const 1 <| s_bin gb_sub <| s_ast gyCN 0 <| s_aload 1 <| s_get gyCN 2 4 <| s_iload 6 <| s_ald gyCN 0 <| s_istore 4 <| s_mask [true, true, true, false, true, true, false] <| fX0_sendOne_k83 N K6) (s_aload 0 <| s_get gyCN 0 0 <| s_iload 6 <| s_dup2 <| s_ald gyCN 0 <| s_const 1 <| s_bin gb_add <| s_ast gyCN 0 <| s_aload 1 <| s_get gyCN 2 3 <| s_iload 6 <| s_ald gyCN 0 <| s_istore 4 <| s_mask [true, true, true, false, true, true, false] <| fX0_sendOne_k83 N K6)))
def fX0_sendOne_k6 (N : Nat) : gK := s_lp (fX0_sendOne_b6 N) N
def fX0_sendOne_k0 (N : Nat) : gK :=
  s_iload 3 <| s_istore 4 <| s_const 0 <| s_istore 5 <| s_mask [true, true, true, false, true, true, false] <| fX0_sendOne_k6 N
def fX0_sendOne (N : Nat) : List Value → gM → Option (gR × gM) := gFn 7 (fX0_sendOne_k0 N)
def fX0_find_b26 (N : Nat) : gK → gK := fun K26 =>
  s_iload 4 <| s_const 70 <| s_cmp gc_ge (s_vret) (s_aload 0 <| s_get gyCN 0 3 <| s_iload 3 <| s_bin gb_shr <| s_const 1 <| s_bin gb_and <| s_const 1 <| s_cmp gc_ne (s_vret) (s_aload 0 <| s_aload 1 <| s_iload 2 <| s_iload 3 <| s_cav gV (fX0_sendOne N) 4 [0, 1, 2, 3, 4, 5, 6, 7, 8, 9, 10, 11] <| s_aload 0 <| s_dup <| s_get gyCN 0 2 <| s_const 1 <| s_bin gb_add <| s_put gyCN 0 2 <| s_aload 0 <| s_aload 0 <| s_aload 1 <| s_iload 2 <| s_cav gI (fX0_reach N) 3 [0, 1, 2, 3, 4, 5, 6, 7, 8, 9, 10, 11] <| s_put gyCN 0 3 <| s_iinc 4 1 <| s_mask [true, true, true, true, true] <| K26))
def fX0_find_k26 (N : Nat) : gK := s_lp (fX0_find_b26 N) N
def fX0_find_k0 (N : Nat) : gK :=
  s_aload 0 <| s_get gyCN 0 0 <| s_const 0 <| s_ca gV (fJF_fill N 14) 2 [1] <| s_aload 0 <| s_const 0 <| s_put gyCN 0 2 <| s_aload 0 <| s_aload 0 <| s_aload 1 <| s_iload 2 <| s_cav gI (fX0_reach N) 3 [0, 1, 2, 3, 4, 5, 6, 7, 8, 9, 10, 11] <| s_put gyCN 0 3 <| s_const 0 <| s_istore 4 <| s_mask [true, true, true, true, true] <| fX0_find_k26 N
def fX0_find (N : Nat) : List Value → gM → Option (gR × gM) := gFn 5 (fX0_find_k0 N)
def fX3_heaviest_k88 (N : Nat) (g : List Value → gM → Option (gR × gM)) : gK :=
  s_istore 7 <| s_iload 6 <| s_aload 2 <| s_ca gI (fX3_sumOfWeights N) 2 [0] <| s_iload 7 <| s_aload 2 <| s_ca gI (fX3_sumOfWeights N) 2 [0] <| s_cmp gc_le (s_iload 7 <| s_iret) (s_iload 6 <| s_iret)
def fX3_heaviest_k0 (N : Nat) (g : List Value → gM → Option (gR × gM)) : gK :=
  s_iload 0 <| s_if gz_eq (s_const 0 <| s_iret) (s_iload 1 <| s_if gz_lt (s_const 0 <| s_iret) (s_iload 1 <| s_const 14 <| s_cmp gc_lt (s_iload 0 <| s_const 1 <| s_iload 1 <| s_bin gb_shl <| s_const (-1) <| s_bin gb_xor <| s_bin gb_and <| s_istore 4 <| s_iload 4 <| s_iload 0 <| s_cmp gc_ne (s_iload 4 <| s_aload 3 <| s_iload 1 <| s_ald gyWC 0 <| s_const (-1) <| s_bin gb_xor <| s_bin gb_and <| s_istore 5 <| s_const 1 <| s_iload 1 <| s_bin gb_shl <| s_iload 5 <| s_iload 1 <| s_const 1 <| s_bin gb_sub <| s_aload 2 <| s_aload 3 <| s_ca gI (g) 4 [0, 1] <| s_bin gb_or <| s_istore 6 <| s_iload 5 <| s_iload 4 <| s_cmp gc_ne (s_iload 4 <| s_iload 1 <| s_const 1 <| s_bin gb_sub <| s_aload 2 <| s_aload 3 <| s_ca gI (g) 4 [0, 1] <| s_mask [false, false, true, false, false, false, true, false] <| fX3_heaviest_k88 N g) (s_iload 6 <| s_iret)) (s_iload 4 <| s_iload 1 <| s_const 1 <| s_bin gb_sub <| s_aload 2 <| s_aload 3 <| s_ca gI (g) 4 [0, 1] <| s_iret)) (s_const 0 <| s_iret)))
def fX3_heaviest (N : Nat) : Nat → List Value → gM → Option (gR × gM)
  | 0 => fun _ _ => none
  | d + 1 => gFn 8 (fX3_heaviest_k0 N (fX3_heaviest N d))
def fX3_choose_k41 (N : Nat) (K5 : gK) : gK :=
  s_iinc 4 1 <| s_mask [true, true, true, true, true] <| K5
def fX3_choose_b5 (N : Nat) : gK → gK := fun K5 =>
  s_iload 4 <| s_aload 1 <| s_get gyPS 7 0 <| s_get gyPS 2 1 <| s_cmp gc_ge (s_iload 2 <| s_if gz_ne (s_iload 3 <| s_const 13 <| s_aload 0 <| s_get gyPS 3 1 <| s_aload 1 <| s_get gyPS 7 0 <| s_get gyPS 2 7 <| s_ca gI (fX3_heaviest N 16) 4 [2, 9] <| s_iret) (s_aload 0 <| s_iload 3 <| s_aload 1 <| s_get gyPS 7 0 <| s_cav gI (fX3_greediest N) 3 [0, 1, 2, 4, 5, 6, 7, 8, 9, 10, 11, 12] <| s_iret)) (s_aload 0 <| s_aload 1 <| s_iload 4 <| s_cav gV (fX3_weigh N) 3 [0, 1, 2, 3, 4, 5, 6, 7, 8, 9, 10, 11, 12, 13, 14, 15, 16, 17, 18, 19, 20, 21, 22] <| s_aload 0 <| s_get gyPS 3 1 <| s_iload 4 <| s_ald gyPS 0 <| s_if gz_le (s_mask [true, true, true, true, true] <| fX3_choose_k41 N K5) (s_iload 3 <| s_const 1 <| s_iload 4 <| s_bin gb_shl <| s_bin gb_or <| s_istore 3 <| s_mask [true, true, true, true, true] <| fX3_choose_k41 N K5))
def fX3_choose_k5 (N : Nat) : gK := s_lp (fX3_choose_b5 N) N
def fX3_choose_k0 (N : Nat) : gK :=
  s_const 0 <| s_istore 3 <| s_const 0 <| s_istore 4 <| s_mask [true, true, true, true, true] <| fX3_choose_k5 N
def fX3_choose (N : Nat) : List Value → gM → Option (gR × gM) := gFn 5 (fX3_choose_k0 N)
def fX6_passSlot_k46 (N : Nat) : gK :=
  s_aload 1 <| s_cav gV (fX7_expireAll N) 1 [7, 8, 9, 10, 11, 12, 13, 14, 15, 16, 17, 18, 19, 20, 21, 22, 23, 24, 25, 26] <| s_aload 1 <| s_dup <| s_get gyRS 7 2 <| s_const 1 <| s_bin gb_add <| s_put gyRS 7 2 <| s_aload 1 <| s_aload 1 <| s_get gyRS 7 3 <| s_aload 1 <| s_get gyRS 7 1 <| s_get gyRS 4 11 <| s_jmath gj_max <| s_put gyRS 7 3 <| s_vret
def fX6_passSlot_b2 (N : Nat) : gK → gK := fun K2 =>
  s_iload 2 <| s_aload 1 <| s_get gyRS 7 0 <| s_get gyRS 2 2 <| s_cmp gc_ge (s_aload 0 <| s_aload 1 <| s_aload 0 <| s_get gyRS 6 0 <| s_aload 1 <| s_aload 1 <| s_get gyRS 7 0 <| s_get gyRS 2 8 <| s_const 3 <| s_ald gyRS 0 <| s_cav gI (fX3_choose N) 3 [1, 2, 3, 7, 8, 9, 10, 11, 12, 13, 14, 15, 16, 17, 18, 19, 20, 21, 22, 23, 24, 25, 26] <| s_cav gV (fX6_transmit N) 3 [0, 1, 2, 3, 4, 5, 6, 7, 8, 9, 10, 11, 12, 13, 14, 15, 16, 17, 18, 19, 20, 21, 22, 23, 24, 25, 26] <| s_mask [false, true, false] <| fX6_passSlot_k46 N) (s_aload 1 <| s_iload 2 <| s_ca gV (fX6_letArrive N) 2 [7, 8, 9, 10, 11, 12, 13, 14, 15, 16, 17, 18, 19, 20, 21, 22, 23, 24, 25, 26] <| s_iinc 2 1 <| s_mask [true, true, true] <| K2)
def fX6_passSlot_k2 (N : Nat) : gK := s_lp (fX6_passSlot_b2 N) N
def fX6_passSlot_k0 (N : Nat) : gK :=
  s_const 0 <| s_istore 2 <| s_mask [true, true, true] <| fX6_passSlot_k2 N
def fX6_passSlot (N : Nat) : List Value → gM → Option (gR × gM) := gFn 3 (fX6_passSlot_k0 N)
def fX6_passSlots_b2 (N : Nat) : gK → gK := fun K2 =>
  s_iload 3 <| s_iload 2 <| s_cmp gc_ge (s_vret) (s_aload 0 <| s_aload 1 <| s_cav gV (fX6_passSlot N) 2 [0, 1, 2, 3, 4, 5, 6, 7, 8, 9, 10, 11, 12, 13, 14, 15, 16, 17, 18, 19, 20, 21, 22, 23, 24, 25, 26] <| s_iinc 3 1 <| s_mask [true, true, true, true] <| K2)
def fX6_passSlots_k2 (N : Nat) : gK := s_lp (fX6_passSlots_b2 N) N
def fX6_passSlots_k0 (N : Nat) : gK :=
  s_const 0 <| s_istore 3 <| s_mask [true, true, true, true] <| fX6_passSlots_k2 N
def fX6_passSlots (N : Nat) : List Value → gM → Option (gR × gM) := gFn 4 (fX6_passSlots_k0 N)
def fX9_thrown_k0 (N : Nat) : gK :=
  s_aload 0 <| s_get gyM 9 0 <| s_iret
def fX9_thrown (N : Nat) : List Value → gM → Option (gR × gM) := gFn 1 (fX9_thrown_k0 N)
def fX9_in_k0 (N : Nat) : gK :=
  s_lload 0 <| s_lload 2 <| s_lcmp <| s_if gz_lt (s_const 0 <| s_zret) (s_lload 0 <| s_lload 4 <| s_lcmp <| s_if gz_gt (s_const 0 <| s_zret) (s_const 1 <| s_zret))
def fX9_in (N : Nat) : List Value → gM → Option (gR × gM) := gFn 6 (fX9_in_k0 N)
def fX9_fails_k9 (N : Nat) : gK :=
  s_iload 1 <| s_if gz_ne (s_const 0 <| s_zret) (s_const 1 <| s_zret)
def fX9_fails_k0 (N : Nat) : gK :=
  s_iload 1 <| s_if gz_ne (s_mask [false, true, false] <| fX9_fails_k9 N) (s_aload 0 <| s_iload 2 <| s_put gyM 9 0 <| s_mask [false, true, false] <| fX9_fails_k9 N)
def fX9_fails (N : Nat) : List Value → gM → Option (gR × gM) := gFn 3 (fX9_fails_k0 N)
def fX9_has_k0 (N : Nat) : gK :=
  s_iload 0 <| s_iload 1 <| s_bin gb_shr <| s_const 1 <| s_bin gb_and <| s_const 1 <| s_cmp gc_ne (s_const 0 <| s_zret) (s_const 1 <| s_zret)
def fX9_has (N : Nat) : List Value → gM → Option (gR × gM) := gFn 2 (fX9_has_k0 N)
def fX9_byteOf_k45 (N : Nat) : gK :=
  s_istore 6 <| s_iload 6 <| s_const 24 <| s_const 8 <| s_iload 5 <| s_const 4 <| s_div gb_rem <| s_bin gb_mul <| s_bin gb_sub <| s_bin gb_shr <| s_const 255 <| s_bin gb_and <| s_iret
def fX9_byteOf_k0 (N : Nat) : gK :=
  s_iload 5 <| s_const 4 <| s_cmp gc_ge (s_iload 5 <| s_const 8 <| s_cmp gc_ge (s_iload 5 <| s_const 12 <| s_cmp gc_ge (s_iload 5 <| s_const 16 <| s_cmp gc_ge (s_iload 4 <| s_mask [false, false, false, false, false, true, false] <| fX9_byteOf_k45 N) (s_iload 3 <| s_mask [false, false, false, false, false, true, false] <| fX9_byteOf_k45 N)) (s_iload 2 <| s_mask [false, false, false, false, false, true, false] <| fX9_byteOf_k45 N)) (s_iload 1 <| s_mask [false, false, false, false, false, true, false] <| fX9_byteOf_k45 N)) (s_iload 0 <| s_mask [false, false, false, false, false, true, false] <| fX9_byteOf_k45 N)
def fX9_byteOf (N : Nat) : List Value → gM → Option (gR × gM) := gFn 7 (fX9_byteOf_k0 N)
def fX9_append_k127 (N : Nat) (K80 : gK) : gK :=
  s_iinc 7 1 <| s_mask [true, true, true, true, true, true, false, true, false] <| K80
def fX9_append_b80 (N : Nat) : gK → gK := fun K80 =>
  s_iload 7 <| s_const 20 <| s_cmp gc_ge (s_aload 0 <| s_get gyM 9 2 <| s_iret) (s_iload 1 <| s_iload 2 <| s_iload 3 <| s_iload 4 <| s_iload 5 <| s_iload 7 <| s_ca gI (fX9_byteOf N) 6 [] <| s_istore 8 <| s_iload 8 <| s_if gz_eq (s_mask [true, true, true, true, true, true, false, true, false] <| fX9_append_k127 N K80) (s_aload 0 <| s_get gyM 9 1 <| s_aload 0 <| s_get gyM 9 2 <| s_iload 8 <| s_ast gyM 0 <| s_aload 0 <| s_dup <| s_get gyM 9 2 <| s_const 1 <| s_bin gb_add <| s_put gyM 9 2 <| s_mask [true, true, true, true, true, true, false, true, false] <| fX9_append_k127 N K80))
def fX9_append_k80 (N : Nat) : gK := s_lp (fX9_append_b80 N) N
def fX9_append_k68 (N : Nat) : gK :=
  s_const 1 <| s_cav gI (fX9_fails N) 3 [0, 1, 2, 3, 4, 5, 6, 7, 8, 9, 10, 11, 12, 13, 14, 15, 16, 17] <| s_if gz_eq (s_const 0 <| s_istore 7 <| s_mask [true, true, true, true, true, true, false, true, false] <| fX9_append_k80 N) (s_const 0 <| s_iret)
def fX9_append_k40 (N : Nat) (K11 : gK) : gK :=
  s_bin gb_add <| s_istore 6 <| s_iinc 7 1 <| s_mask [true, true, true, true, true, true, true, true, false] <| K11
def fX9_append_b11 (N : Nat) : gK → gK := fun K11 =>
  s_iload 7 <| s_const 20 <| s_cmp gc_ge (s_aload 0 <| s_aload 0 <| s_get gyM 9 2 <| s_iload 6 <| s_bin gb_add <| s_const 700 <| s_cmp gc_gt (s_const 0 <| s_mask [true, true, true, true, true, true, false, false, false] <| fX9_append_k68 N) (s_const 1 <| s_mask [true, true, true, true, true, true, false, false, false] <| fX9_append_k68 N)) (s_iload 6 <| s_iload 1 <| s_iload 2 <| s_iload 3 <| s_iload 4 <| s_iload 5 <| s_iload 7 <| s_ca gI (fX9_byteOf N) 6 [] <| s_if gz_eq (s_const 0 <| s_mask [true, true, true, true, true, true, false, true, false] <| fX9_append_k40 N K11) (s_const 1 <| s_mask [true, true, true, true, true, true, false, true, false] <| fX9_append_k40 N K11))
def fX9_append_k11 (N : Nat) : gK := s_lp (fX9_append_b11 N) N
def fX9_append_k0 (N : Nat) : gK :=
  s_aload 0 <| s_const 0 <| s_put gyM 9 0 <| s_const 0 <| s_istore 6 <| s_const 0 <| s_istore 7 <| s_mask [true, true, true, true, true, true, true, true, false] <| fX9_append_k11 N
def fX9_append (N : Nat) : List Value → gM → Option (gR × gM) := gFn 9 (fX9_append_k0 N)
def fX9_truncate_k0 (N : Nat) : gK :=
  s_aload 0 <| s_const 0 <| s_put gyM 9 0 <| s_aload 0 <| s_iload 1 <| s_i2l <| s_lconst 0 <| s_aload 0 <| s_get gyM 9 2 <| s_i2l <| s_ca gI (fX9_in N) 3 [] <| s_const 1 <| s_cav gI (fX9_fails N) 3 [0, 1, 2, 3, 4, 5, 6, 7, 8, 9, 10, 11, 12, 13, 14, 15, 16, 17] <| s_if gz_eq (s_aload 0 <| s_iload 1 <| s_put gyM 9 2 <| s_iload 1 <| s_iret) (s_const 0 <| s_iret)
def fX9_truncate (N : Nat) : List Value → gM → Option (gR × gM) := gFn 2 (fX9_truncate_k0 N)
def fX9_peek_k0 (N : Nat) : gK :=
  s_iload 1 <| s_aload 0 <| s_get gyM 9 2 <| s_cmp gc_ge (s_const (-1) <| s_iret) (s_aload 0 <| s_get gyM 9 1 <| s_iload 1 <| s_ald gyM 0 <| s_iret)
def fX9_peek (N : Nat) : List Value → gM → Option (gR × gM) := gFn 2 (fX9_peek_k0 N)
def fX9_isLetter_k0 (N : Nat) : gK :=
  s_iload 0 <| s_const 97 <| s_cmp gc_lt (s_const 0 <| s_zret) (s_iload 0 <| s_const 122 <| s_cmp gc_gt (s_const 0 <| s_zret) (s_const 1 <| s_zret))
def fX9_isLetter (N : Nat) : List Value → gM → Option (gR × gM) := gFn 1 (fX9_isLetter_k0 N)
def fX9_isDigit_k0 (N : Nat) : gK :=
  s_iload 0 <| s_const 48 <| s_cmp gc_lt (s_const 0 <| s_zret) (s_iload 0 <| s_const 57 <| s_cmp gc_gt (s_const 0 <| s_zret) (s_const 1 <| s_zret))
def fX9_isDigit (N : Nat) : List Value → gM → Option (gR × gM) := gFn 1 (fX9_isDigit_k0 N)
def fX9_step_k177 (N : Nat) (K136 : gK) : gK :=
  s_bin gb_add <| s_const 48 <| s_bin gb_sub <| s_jmath gj_min <| s_put gyM 9 6 <| s_aload 0 <| s_dup <| s_get gyM 9 3 <| s_const 1 <| s_bin gb_add <| s_put gyM 9 3 <| s_mask [true, false] <| K136
def fX9_step_b136 (N : Nat) : gK → gK := fun K136 =>
  s_aload 0 <| s_get gyM 9 5 <| s_const 2 <| s_cmp gc_ne (s_vret) (s_aload 0 <| s_aload 0 <| s_get gyM 9 3 <| s_cav gI (fX9_peek N) 2 [0, 1, 2, 3, 4, 5, 6, 7, 8, 9, 10, 11, 12, 13, 14, 15, 16, 17] <| s_ca gI (fX9_isDigit N) 1 [] <| s_if gz_eq (s_vret) (s_aload 0 <| s_const 10000 <| s_const 10 <| s_aload 0 <| s_get gyM 9 6 <| s_bin gb_mul <| s_aload 0 <| s_aload 0 <| s_get gyM 9 3 <| s_cav gI (fX9_peek N) 2 [0, 1, 2, 3, 4, 5, 6, 7, 8, 9, 10, 11, 12, 13, 14, 15, 16, 17] <| s_mask [true, false] <| fX9_step_k177 N K136))
def fX9_step_k136 (N : Nat) : gK := s_lp (fX9_step_b136 N) N
def fX9_step_b101 (N : Nat) : gK → gK := fun K101 =>
  s_aload 0 <| s_get gyM 9 5 <| s_const 1 <| s_cmp gc_ne (s_mask [true, false] <| fX9_step_k136 N) (s_aload 0 <| s_aload 0 <| s_get gyM 9 3 <| s_cav gI (fX9_peek N) 2 [0, 1, 2, 3, 4, 5, 6, 7, 8, 9, 10, 11, 12, 13, 14, 15, 16, 17] <| s_ca gI (fX9_isLetter N) 1 [] <| s_if gz_eq (s_mask [true, false] <| fX9_step_k136 N) (s_aload 0 <| s_dup <| s_get gyM 9 3 <| s_const 1 <| s_bin gb_add <| s_put gyM 9 3 <| s_mask [true, false] <| K101))
def fX9_step_k101 (N : Nat) : gK := s_lp (fX9_step_b101 N) N
def fX9_step_k75 (N : Nat) : gK :=
  s_put gyM 9 5 <| s_aload 0 <| s_const 0 <| s_put gyM 9 6 <| s_aload 0 <| s_get gyM 9 5 <| s_const 3 <| s_cmp gc_ne (s_mask [true, false] <| fX9_step_k101 N) (s_aload 0 <| s_dup <| s_get gyM 9 3 <| s_const 1 <| s_bin gb_add <| s_put gyM 9 3 <| s_mask [true, false] <| fX9_step_k101 N)
def fX9_step_k56 (N : Nat) : gK :=
  s_if gz_eq (s_iload 1 <| s_ca gI (fX9_isDigit N) 1 [] <| s_if gz_eq (s_const 3 <| s_mask [true, false] <| fX9_step_k75 N) (s_const 2 <| s_mask [true, false] <| fX9_step_k75 N)) (s_const 1 <| s_mask [true, false] <| fX9_step_k75 N)
def fX9_step_b0 (N : Nat) : gK → gK := fun K0 =>
  s_aload 0 <| s_aload 0 <| s_get gyM 9 3 <| s_cav gI (fX9_peek N) 2 [0, 1, 2, 3, 4, 5, 6, 7, 8, 9, 10, 11, 12, 13, 14, 15, 16, 17] <| s_const 32 <| s_cmp gc_ne (s_aload 0 <| s_aload 0 <| s_get gyM 9 3 <| s_put gyM 9 4 <| s_aload 0 <| s_aload 0 <| s_get gyM 9 3 <| s_cav gI (fX9_peek N) 2 [0, 1, 2, 3, 4, 5, 6, 7, 8, 9, 10, 11, 12, 13, 14, 15, 16, 17] <| s_istore 1 <| s_aload 0 <| s_iload 1 <| s_if gz_ge (s_iload 1 <| s_ca gI (fX9_isLetter N) 1 [] <| s_mask [true, true] <| fX9_step_k56 N) (s_const 0 <| s_mask [true, false] <| fX9_step_k75 N)) (s_aload 0 <| s_dup <| s_get gyM 9 3 <| s_const 1 <| s_bin gb_add <| s_put gyM 9 3 <| s_mask [true, false] <| K0)
def fX9_step_k0 (N : Nat) : gK := s_lp (fX9_step_b0 N) N
def fX9_step (N : Nat) : List Value → gM → Option (gR × gM) := gFn 2 (fX9_step_k0 N)
def fX9_fail_k0 (N : Nat) : gK :=
  s_aload 0 <| s_aload 0 <| s_get gyM 9 7 <| s_if gz_ge (s_aload 0 <| s_get gyM 9 7 <| s_put gyM 9 7 <| s_vret) (s_aload 0 <| s_get gyM 9 4 <| s_put gyM 9 7 <| s_vret)
def fX9_fail (N : Nat) : List Value → gM → Option (gR × gM) := gFn 1 (fX9_fail_k0 N)
def fX9_isGood_k0 (N : Nat) : gK :=
  s_aload 0 <| s_get gyM 9 7 <| s_if gz_ge (s_const 0 <| s_zret) (s_const 1 <| s_zret)
def fX9_isGood (N : Nat) : List Value → gM → Option (gR × gM) := gFn 1 (fX9_isGood_k0 N)
def fX9_isWord_k75 (N : Nat) (K39 : gK) : gK :=
  s_istore 2 <| s_iinc 3 1 <| s_mask [true, true, true, true] <| K39
def fX9_isWord_b39 (N : Nat) : gK → gK := fun K39 =>
  s_iload 2 <| s_if gz_eq (s_iload 2 <| s_zret) (s_iload 3 <| s_aload 1 <| s_cae gI (fJS_length N) 1 <| s_cmp gc_ge (s_iload 2 <| s_zret) (s_aload 0 <| s_get gyM 9 1 <| s_aload 0 <| s_get gyM 9 4 <| s_iload 3 <| s_bin gb_add <| s_ald gyM 0 <| s_aload 1 <| s_iload 3 <| s_cae gI (fJS_charAt N) 2 <| s_cmp gc_ne (s_const 0 <| s_mask [true, true, false, true] <| fX9_isWord_k75 N K39) (s_const 1 <| s_mask [true, true, false, true] <| fX9_isWord_k75 N K39)))
def fX9_isWord_k39 (N : Nat) : gK := s_lp (fX9_isWord_b39 N) N
def fX9_isWord_k36 (N : Nat) : gK :=
  s_istore 2 <| s_const 0 <| s_istore 3 <| s_mask [true, true, true, true] <| fX9_isWord_k39 N
def fX9_isWord_k35 (N : Nat) : gK :=
  s_const 0 <| s_mask [true, true, false, false] <| fX9_isWord_k36 N
def fX9_isWord_k0 (N : Nat) : gK :=
  s_aload 0 <| s_cav gI (fX9_isGood N) 1 [0, 1, 2, 3, 4, 5, 6, 7, 8, 9, 10, 11, 12, 13, 14, 15, 16, 17] <| s_if gz_eq (s_mask [true, true, false, false] <| fX9_isWord_k35 N) (s_aload 0 <| s_get gyM 9 5 <| s_const 1 <| s_cmp gc_ne (s_mask [true, true, false, false] <| fX9_isWord_k35 N) (s_aload 0 <| s_get gyM 9 3 <| s_aload 0 <| s_get gyM 9 4 <| s_bin gb_sub <| s_aload 1 <| s_cae gI (fJS_length N) 1 <| s_cmp gc_ne (s_mask [true, true, false, false] <| fX9_isWord_k35 N) (s_const 1 <| s_mask [true, true, false, false] <| fX9_isWord_k36 N)))
def fX9_isWord (N : Nat) : List Value → gM → Option (gR × gM) := gFn 4 (fX9_isWord_k0 N)
def fX9_isNumber_k0 (N : Nat) : gK :=
  s_aload 0 <| s_cav gI (fX9_isGood N) 1 [0, 1, 2, 3, 4, 5, 6, 7, 8, 9, 10, 11, 12, 13, 14, 15, 16, 17] <| s_if gz_eq (s_const 0 <| s_zret) (s_aload 0 <| s_get gyM 9 5 <| s_const 2 <| s_cmp gc_ne (s_const 0 <| s_zret) (s_aload 0 <| s_get gyM 9 3 <| s_aload 0 <| s_get gyM 9 4 <| s_bin gb_sub <| s_const 3 <| s_cmp gc_gt (s_const 0 <| s_zret) (s_aload 0 <| s_get gyM 9 6 <| s_i2l <| s_iload 1 <| s_i2l <| s_iload 2 <| s_i2l <| s_ca gI (fX9_in N) 3 [] <| s_if gz_eq (s_const 0 <| s_zret) (s_const 1 <| s_zret))))
def fX9_isNumber (N : Nat) : List Value → gM → Option (gR × gM) := gFn 3 (fX9_isNumber_k0 N)
def fX9_takeNumber_k0 (N : Nat) : gK :=
  s_aload 0 <| s_iload 1 <| s_iload 2 <| s_cav gI (fX9_isNumber N) 3 [0, 1, 2, 3, 4, 5, 6, 7, 8, 9, 10, 11, 12, 13, 14, 15, 16, 17] <| s_if gz_ne (s_aload 0 <| s_get gyM 9 6 <| s_istore 3 <| s_aload 0 <| s_cav gV (fX9_step N) 1 [0, 1, 2, 3, 4, 5, 6, 7, 8, 9, 10, 11, 12, 13, 14, 15, 16, 17] <| s_iload 3 <| s_iret) (s_aload 0 <| s_cav gV (fX9_fail N) 1 [0, 1, 2, 3, 4, 5, 6, 7, 8, 9, 10, 11, 12, 13, 14, 15, 16, 17] <| s_iload 1 <| s_iret)
def fX9_takeNumber (N : Nat) : List Value → gM → Option (gR × gM) := gFn 4 (fX9_takeNumber_k0 N)
def fX9_begin_b2 (N : Nat) : gK → gK := fun K2 =>
  s_iload 1 <| s_const 2746 <| s_cmp gc_ge (s_aload 0 <| s_get gyM 9 8 <| s_const 4 <| s_const 10 <| s_ast gyM 0 <| s_aload 0 <| s_const 0 <| s_put gyM 9 14 <| s_aload 0 <| s_const 0 <| s_put gyM 9 15 <| s_vret) (s_aload 0 <| s_get gyM 9 8 <| s_iload 1 <| s_const 0 <| s_ast gyM 0 <| s_iinc 1 1 <| s_mask [true, true] <| K2)
def fX9_begin_k2 (N : Nat) : gK := s_lp (fX9_begin_b2 N) N
def fX9_begin_k0 (N : Nat) : gK :=
  s_const 0 <| s_istore 1 <| s_mask [true, true] <| fX9_begin_k2 N
def fX9_begin (N : Nat) : List Value → gM → Option (gR × gM) := gFn 2 (fX9_begin_k0 N)
def fX9_linkIn_k39 (N : Nat) (K2 : gK) : gK :=
  s_iinc 3 1 <| s_mask [true, true, true, true] <| K2
def fX9_linkIn_b2 (N : Nat) : gK → gK := fun K2 =>
  s_iload 3 <| s_aload 0 <| s_const 1 <| s_ald gyMrow 0 <| s_cmp gc_ge (s_const (-1) <| s_iret) (s_aload 0 <| s_const 9 <| s_const 4 <| s_iload 3 <| s_bin gb_mul <| s_bin gb_add <| s_const 0 <| s_bin gb_add <| s_ald gyMrow 0 <| s_iload 1 <| s_cmp gc_ne (s_mask [true, true, true, true] <| fX9_linkIn_k39 N K2) (s_aload 0 <| s_const 9 <| s_const 4 <| s_iload 3 <| s_bin gb_mul <| s_bin gb_add <| s_const 1 <| s_bin gb_add <| s_ald gyMrow 0 <| s_iload 2 <| s_cmp gc_ne (s_mask [true, true, true, true] <| fX9_linkIn_k39 N K2) (s_iload 3 <| s_iret)))
def fX9_linkIn_k2 (N : Nat) : gK := s_lp (fX9_linkIn_b2 N) N
def fX9_linkIn_k0 (N : Nat) : gK :=
  s_const 0 <| s_istore 3 <| s_mask [true, true, true, true] <| fX9_linkIn_k2 N
def fX9_linkIn (N : Nat) : List Value → gM → Option (gR × gM) := gFn 4 (fX9_linkIn_k0 N)
def fX9_layLink_k0 (N : Nat) : gK :=
  s_const 9 <| s_const 4 <| s_aload 0 <| s_const 1 <| s_ald gyMrow 0 <| s_bin gb_mul <| s_bin gb_add <| s_istore 4 <| s_aload 0 <| s_iload 4 <| s_const 0 <| s_bin gb_add <| s_iload 1 <| s_ast gyMrow 0 <| s_aload 0 <| s_iload 4 <| s_const 1 <| s_bin gb_add <| s_iload 2 <| s_ast gyMrow 0 <| s_aload 0 <| s_iload 4 <| s_const 2 <| s_bin gb_add <| s_iload 3 <| s_ast gyMrow 0 <| s_aload 0 <| s_iload 4 <| s_const 3 <| s_bin gb_add <| s_const 0 <| s_ast gyMrow 0 <| s_aload 0 <| s_const 131 <| s_aload 0 <| s_const 1 <| s_ald gyMrow 0 <| s_bin gb_add <| s_const 0 <| s_ast gyMrow 0 <| s_aload 0 <| s_const 1 <| s_dup2 <| s_ald gyMrow 0 <| s_const 1 <| s_bin gb_add <| s_ast gyMrow 0 <| s_vret
def fX9_layLink (N : Nat) : List Value → gM → Option (gR × gM) := gFn 5 (fX9_layLink_k0 N)
def fX9_layFlow_b14 (N : Nat) : gK → gK := fun K14 =>
  s_iload 6 <| s_const 11 <| s_cmp gc_ge (s_aload 0 <| s_iload 5 <| s_const 0 <| s_bin gb_add <| s_iload 1 <| s_ast gyMrow 0 <| s_aload 0 <| s_iload 5 <| s_const 1 <| s_bin gb_add <| s_iload 2 <| s_ast gyMrow 0 <| s_aload 0 <| s_iload 5 <| s_const 2 <| s_bin gb_add <| s_iload 3 <| s_ast gyMrow 0 <| s_aload 0 <| s_iload 5 <| s_const 3 <| s_bin gb_add <| s_iload 4 <| s_ast gyMrow 0 <| s_aload 0 <| s_const 2 <| s_dup2 <| s_ald gyMrow 0 <| s_const 1 <| s_bin gb_add <| s_ast gyMrow 0 <| s_vret) (s_aload 0 <| s_iload 5 <| s_iload 6 <| s_bin gb_add <| s_const 0 <| s_ast gyMrow 0 <| s_iinc 6 1 <| s_mask [true, true, true, true, true, true, true] <| K14)
def fX9_layFlow_k14 (N : Nat) : gK := s_lp (fX9_layFlow_b14 N) N
def fX9_layFlow_k0 (N : Nat) : gK :=
  s_const 65 <| s_const 11 <| s_aload 0 <| s_const 2 <| s_ald gyMrow 0 <| s_bin gb_mul <| s_bin gb_add <| s_istore 5 <| s_const 0 <| s_istore 6 <| s_mask [true, true, true, true, true, true, true] <| fX9_layFlow_k14 N
def fX9_layFlow (N : Nat) : List Value → gM → Option (gR × gM) := gFn 7 (fX9_layFlow_k0 N)
def fX9_takeOther_k21 (N : Nat) : gK :=
  s_aload 0 <| s_iload 1 <| s_iload 2 <| s_cav gI (fX9_takeNumber N) 3 [0, 1, 2, 3, 4, 5, 6, 7, 8, 9, 10, 11, 12, 13, 14, 15, 16, 17] <| s_iret
def fX9_takeOther_k0 (N : Nat) : gK :=
  s_aload 0 <| s_iload 1 <| s_iload 2 <| s_cav gI (fX9_isNumber N) 3 [0, 1, 2, 3, 4, 5, 6, 7, 8, 9, 10, 11, 12, 13, 14, 15, 16, 17] <| s_if gz_eq (s_mask [true, true, true, false] <| fX9_takeOther_k21 N) (s_aload 0 <| s_get gyM 9 6 <| s_iload 3 <| s_cmp gc_ne (s_mask [true, true, true, false] <| fX9_takeOther_k21 N) (s_aload 0 <| s_cav gV (fX9_fail N) 1 [0, 1, 2, 3, 4, 5, 6, 7, 8, 9, 10, 11, 12, 13, 14, 15, 16, 17] <| s_mask [true, true, true, false] <| fX9_takeOther_k21 N))
def fX9_takeOther (N : Nat) : List Value → gM → Option (gR × gM) := gFn 4 (fX9_takeOther_k0 N)
def fX9_takeNode_k0 (N : Nat) : gK :=
  s_aload 0 <| s_const 0 <| s_aload 0 <| s_get gyM 9 8 <| s_const 0 <| s_ald gyM 0 <| s_const 1 <| s_bin gb_sub <| s_cav gI (fX9_takeNumber N) 3 [0, 1, 2, 3, 4, 5, 6, 7, 8, 9, 10, 11, 12, 13, 14, 15, 16, 17] <| s_iret
def fX9_takeNode (N : Nat) : List Value → gM → Option (gR × gM) := gFn 1 (fX9_takeNode_k0 N)
def fX9_linkStatement_k61 (N : Nat) : gK :=
  s_aload 0 <| s_const 0 <| s_aload 0 <| s_get gyM 9 8 <| s_const 0 <| s_ald gyM 0 <| s_const 1 <| s_bin gb_sub <| s_iload 1 <| s_cav gI (fX9_takeOther N) 4 [0, 1, 2, 3, 4, 5, 6, 7, 8, 9, 10, 11, 12, 13, 14, 15, 16, 17] <| s_istore 2 <| s_aload 0 <| s_get gyM 9 8 <| s_iload 1 <| s_iload 2 <| s_aload 0 <| s_const 1 <| s_const 5 <| s_cav gI (fX9_takeNumber N) 3 [0, 1, 2, 3, 4, 5, 6, 7, 8, 9, 10, 11, 12, 13, 14, 15, 16, 17] <| s_ca gV (fX9_layLink N) 4 [2] <| s_vret
def fX9_linkStatement_k24 (N : Nat) : gK :=
  s_istore 1 <| s_aload 0 <| s_const 0 <| s_aload 0 <| s_get gyM 9 8 <| s_const 0 <| s_ald gyM 0 <| s_const 1 <| s_bin gb_sub <| s_cav gI (fX9_isNumber N) 3 [0, 1, 2, 3, 4, 5, 6, 7, 8, 9, 10, 11, 12, 13, 14, 15, 16, 17] <| s_if gz_eq (s_mask [true, true, false] <| fX9_linkStatement_k61 N) (s_aload 0 <| s_get gyM 9 8 <| s_iload 1 <| s_aload 0 <| s_get gyM 9 6 <| s_ca gI (fX9_linkIn N) 3 [2] <| s_const (-1) <| s_cmp gc_eq (s_mask [true, true, false] <| fX9_linkStatement_k61 N) (s_aload 0 <| s_cav gV (fX9_fail N) 1 [0, 1, 2, 3, 4, 5, 6, 7, 8, 9, 10, 11, 12, 13, 14, 15, 16, 17] <| s_mask [true, true, false] <| fX9_linkStatement_k61 N))
def fX9_linkStatement_k0 (N : Nat) : gK :=
  s_aload 0 <| s_get gyM 9 8 <| s_const 1 <| s_ald gyM 0 <| s_const 14 <| s_cmp gc_ne (s_aload 0 <| s_cav gV (fX9_step N) 1 [0, 1, 2, 3, 4, 5, 6, 7, 8, 9, 10, 11, 12, 13, 14, 15, 16, 17] <| s_aload 0 <| s_cav gI (fX9_takeNode N) 1 [0, 1, 2, 3, 4, 5, 6, 7, 8, 9, 10, 11, 12, 13, 14, 15, 16, 17] <| s_mask [true, false, false] <| fX9_linkStatement_k24 N) (s_aload 0 <| s_cav gV (fX9_fail N) 1 [0, 1, 2, 3, 4, 5, 6, 7, 8, 9, 10, 11, 12, 13, 14, 15, 16, 17] <| s_vret)
def fX9_linkStatement (N : Nat) : List Value → gM → Option (gR × gM) := gFn 3 (fX9_linkStatement_k0 N)
def fX9_conflictStatement_k19 (N : Nat) : gK :=
  s_aload 0 <| s_cav gV (fX9_fail N) 1 [0, 1, 2, 3, 4, 5, 6, 7, 8, 9, 10, 11, 12, 13, 14, 15, 16, 17] <| s_vret
def fX9_conflictStatement_k82 (N : Nat) : gK :=
  s_aload 0 <| s_const 0 <| s_aload 0 <| s_get gyM 9 8 <| s_const 1 <| s_ald gyM 0 <| s_const 1 <| s_bin gb_sub <| s_iload 1 <| s_cav gI (fX9_takeOther N) 4 [0, 1, 2, 3, 4, 5, 6, 7, 8, 9, 10, 11, 12, 13, 14, 15, 16, 17] <| s_istore 2 <| s_aload 0 <| s_get gyM 9 8 <| s_const 131 <| s_iload 1 <| s_bin gb_add <| s_dup2 <| s_ald gyM 0 <| s_const 1 <| s_iload 2 <| s_bin gb_shl <| s_bin gb_or <| s_ast gyM 0 <| s_aload 0 <| s_get gyM 9 8 <| s_const 131 <| s_iload 2 <| s_bin gb_add <| s_dup2 <| s_ald gyM 0 <| s_const 1 <| s_iload 1 <| s_bin gb_shl <| s_bin gb_or <| s_ast gyM 0 <| s_aload 0 <| s_dup <| s_get gyM 9 15 <| s_const 1 <| s_bin gb_add <| s_put gyM 9 15 <| s_vret
def fX9_conflictStatement_k41 (N : Nat) : gK :=
  s_istore 1 <| s_aload 0 <| s_const 0 <| s_aload 0 <| s_get gyM 9 8 <| s_const 1 <| s_ald gyM 0 <| s_const 1 <| s_bin gb_sub <| s_cav gI (fX9_isNumber N) 3 [0, 1, 2, 3, 4, 5, 6, 7, 8, 9, 10, 11, 12, 13, 14, 15, 16, 17] <| s_if gz_eq (s_mask [true, true, false] <| fX9_conflictStatement_k82 N) (s_aload 0 <| s_get gyM 9 8 <| s_const 131 <| s_iload 1 <| s_bin gb_add <| s_ald gyM 0 <| s_aload 0 <| s_get gyM 9 6 <| s_ca gI (fX9_has N) 2 [] <| s_if gz_eq (s_mask [true, true, false] <| fX9_conflictStatement_k82 N) (s_aload 0 <| s_cav gV (fX9_fail N) 1 [0, 1, 2, 3, 4, 5, 6, 7, 8, 9, 10, 11, 12, 13, 14, 15, 16, 17] <| s_mask [true, true, false] <| fX9_conflictStatement_k82 N))
def fX9_conflictStatement_k0 (N : Nat) : gK :=
  s_aload 0 <| s_get gyM 9 8 <| s_const 1 <| s_ald gyM 0 <| s_const 2 <| s_cmp gc_lt (s_mask [true, false, false] <| fX9_conflictStatement_k19 N) (s_aload 0 <| s_get gyM 9 15 <| s_const 40 <| s_cmp gc_ne (s_aload 0 <| s_cav gV (fX9_step N) 1 [0, 1, 2, 3, 4, 5, 6, 7, 8, 9, 10, 11, 12, 13, 14, 15, 16, 17] <| s_aload 0 <| s_const 0 <| s_aload 0 <| s_get gyM 9 8 <| s_const 1 <| s_ald gyM 0 <| s_const 1 <| s_bin gb_sub <| s_cav gI (fX9_takeNumber N) 3 [0, 1, 2, 3, 4, 5, 6, 7, 8, 9, 10, 11, 12, 13, 14, 15, 16, 17] <| s_mask [true, false, false] <| fX9_conflictStatement_k41 N) (s_mask [true, false, false] <| fX9_conflictStatement_k19 N))
def fX9_conflictStatement (N : Nat) : List Value → gM → Option (gR × gM) := gFn 3 (fX9_conflictStatement_k0 N)
def fX9_flowStatement_k75 (N : Nat) : gK :=
  s_aload 0 <| s_get gyM 9 8 <| s_iload 1 <| s_iload 2 <| s_iload 3 <| s_iload 4 <| s_ca gV (fX9_layFlow N) 5 [2] <| s_vret
def fX9_flowStatement_k58 (N : Nat) : gK :=
  s_if gz_eq (s_mask [true, true, true, true, true] <| fX9_flowStatement_k75 N) (s_aload 0 <| s_cav gV (fX9_step N) 1 [0, 1, 2, 3, 4, 5, 6, 7, 8, 9, 10, 11, 12, 13, 14, 15, 16, 17] <| s_aload 0 <| s_const 0 <| s_const 200 <| s_cav gI (fX9_takeNumber N) 3 [0, 1, 2, 3, 4, 5, 6, 7, 8, 9, 10, 11, 12, 13, 14, 15, 16, 17] <| s_istore 4 <| s_mask [true, true, true, true, true] <| fX9_flowStatement_k75 N)
def fX9_flowStatement_k24 (N : Nat) : gK :=
  s_istore 1 <| s_aload 0 <| s_const 0 <| s_aload 0 <| s_get gyM 9 8 <| s_const 0 <| s_ald gyM 0 <| s_const 1 <| s_bin gb_sub <| s_iload 1 <| s_cav gI (fX9_takeOther N) 4 [0, 1, 2, 3, 4, 5, 6, 7, 8, 9, 10, 11, 12, 13, 14, 15, 16, 17] <| s_istore 2 <| s_aload 0 <| s_const 0 <| s_const 300 <| s_cav gI (fX9_takeNumber N) 3 [0, 1, 2, 3, 4, 5, 6, 7, 8, 9, 10, 11, 12, 13, 14, 15, 16, 17] <| s_istore 3 <| s_const 0 <| s_istore 4 <| s_aload 0 <| s_pref (1000 + 17) <| s_cav gI (fX9_isWord N) 2 [0, 1, 2, 3, 4, 5, 6, 7, 8, 9, 10, 11, 12, 13, 14, 15, 16, 17] <| s_mask [true, true, true, true, true] <| fX9_flowStatement_k58 N
def fX9_flowStatement_k0 (N : Nat) : gK :=
  s_aload 0 <| s_get gyM 9 8 <| s_const 2 <| s_ald gyM 0 <| s_const 6 <| s_cmp gc_ne (s_aload 0 <| s_cav gV (fX9_step N) 1 [0, 1, 2, 3, 4, 5, 6, 7, 8, 9, 10, 11, 12, 13, 14, 15, 16, 17] <| s_aload 0 <| s_cav gI (fX9_takeNode N) 1 [0, 1, 2, 3, 4, 5, 6, 7, 8, 9, 10, 11, 12, 13, 14, 15, 16, 17] <| s_mask [true, false, false, false, false] <| fX9_flowStatement_k24 N) (s_aload 0 <| s_cav gV (fX9_fail N) 1 [0, 1, 2, 3, 4, 5, 6, 7, 8, 9, 10, 11, 12, 13, 14, 15, 16, 17] <| s_vret)
def fX9_flowStatement (N : Nat) : List Value → gM → Option (gR × gM) := gFn 5 (fX9_flowStatement_k0 N)
def fX9_once_k25 (N : Nat) : gK :=
  s_aload 0 <| s_dup <| s_get gyM 9 14 <| s_const 1 <| s_iload 2 <| s_bin gb_shl <| s_bin gb_or <| s_put gyM 9 14 <| s_aload 0 <| s_cav gI (fX9_isGood N) 1 [0, 1, 2, 3, 4, 5, 6, 7, 8, 9, 10, 11, 12, 13, 14, 15, 16, 17] <| s_if gz_eq (s_const 1 <| s_zret) (s_aload 0 <| s_cav gV (fX9_step N) 1 [0, 1, 2, 3, 4, 5, 6, 7, 8, 9, 10, 11, 12, 13, 14, 15, 16, 17] <| s_const 1 <| s_zret)
def fX9_once_k0 (N : Nat) : gK :=
  s_aload 0 <| s_aload 1 <| s_cav gI (fX9_isWord N) 2 [0, 1, 2, 3, 4, 5, 6, 7, 8, 9, 10, 11, 12, 13, 14, 15, 16, 17] <| s_if gz_ne (s_aload 0 <| s_get gyM 9 14 <| s_iload 2 <| s_ca gI (fX9_has N) 2 [] <| s_if gz_eq (s_mask [true, false, true] <| fX9_once_k25 N) (s_aload 0 <| s_cav gV (fX9_fail N) 1 [0, 1, 2, 3, 4, 5, 6, 7, 8, 9, 10, 11, 12, 13, 14, 15, 16, 17] <| s_mask [true, false, true] <| fX9_once_k25 N)) (s_const 0 <| s_zret)
def fX9_once (N : Nat) : List Value → gM → Option (gR × gM) := gFn 3 (fX9_once_k0 N)
def fX9_takeWord_k27 (N : Nat) : gK :=
  s_aload 0 <| s_cav gV (fX9_step N) 1 [0, 1, 2, 3, 4, 5, 6, 7, 8, 9, 10, 11, 12, 13, 14, 15, 16, 17] <| s_iload 3 <| s_iret
def fX9_takeWord_k13 (N : Nat) : gK :=
  s_istore 3 <| s_iload 3 <| s_const 1 <| s_cmp gc_eq (s_mask [true, false, false, true] <| fX9_takeWord_k27 N) (s_aload 0 <| s_aload 1 <| s_cav gI (fX9_isWord N) 2 [0, 1, 2, 3, 4, 5, 6, 7, 8, 9, 10, 11, 12, 13, 14, 15, 16, 17] <| s_if gz_eq (s_aload 0 <| s_cav gV (fX9_fail N) 1 [0, 1, 2, 3, 4, 5, 6, 7, 8, 9, 10, 11, 12, 13, 14, 15, 16, 17] <| s_iload 3 <| s_iret) (s_mask [true, false, false, true] <| fX9_takeWord_k27 N))
def fX9_takeWord_k0 (N : Nat) : gK :=
  s_aload 0 <| s_aload 2 <| s_cav gI (fX9_isWord N) 2 [0, 1, 2, 3, 4, 5, 6, 7, 8, 9, 10, 11, 12, 13, 14, 15, 16, 17] <| s_if gz_eq (s_const 0 <| s_mask [true, true, false, false] <| fX9_takeWord_k13 N) (s_const 1 <| s_mask [true, true, false, false] <| fX9_takeWord_k13 N)
def fX9_takeWord (N : Nat) : List Value → gM → Option (gR × gM) := gFn 4 (fX9_takeWord_k0 N)
def fX9_readStatement_k123 (N : Nat) : gK :=
  s_ast gyM 0 <| s_vret
def fX9_readStatement_k82 (N : Nat) : gK :=
  s_if gz_eq (s_aload 0 <| s_pref (1000 + 22) <| s_const 2 <| s_cav gI (fX9_once N) 3 [0, 1, 2, 3, 4, 5, 6, 7, 8, 9, 10, 11, 12, 13, 14, 15, 16, 17] <| s_if gz_eq (s_aload 0 <| s_pref (1000 + 23) <| s_const 3 <| s_cav gI (fX9_once N) 3 [0, 1, 2, 3, 4, 5, 6, 7, 8, 9, 10, 11, 12, 13, 14, 15, 16, 17] <| s_if gz_eq (s_aload 0 <| s_cav gV (fX9_fail N) 1 [0, 1, 2, 3, 4, 5, 6, 7, 8, 9, 10, 11, 12, 13, 14, 15, 16, 17] <| s_vret) (s_aload 0 <| s_get gyM 9 8 <| s_const 6 <| s_aload 0 <| s_pref (1000 + 24) <| s_pref (1000 + 25) <| s_cav gI (fX9_takeWord N) 3 [0, 1, 2, 3, 4, 5, 6, 7, 8, 9, 10, 11, 12, 13, 14, 15, 16, 17] <| s_ast gyM 0 <| s_vret)) (s_aload 0 <| s_get gyM 9 8 <| s_const 5 <| s_aload 0 <| s_const 0 <| s_const 20 <| s_cav gI (fX9_takeNumber N) 3 [0, 1, 2, 3, 4, 5, 6, 7, 8, 9, 10, 11, 12, 13, 14, 15, 16, 17] <| s_mask [false] <| fX9_readStatement_k123 N)) (s_aload 0 <| s_get gyM 9 8 <| s_const 4 <| s_aload 0 <| s_const 0 <| s_const 50 <| s_cav gI (fX9_takeNumber N) 3 [0, 1, 2, 3, 4, 5, 6, 7, 8, 9, 10, 11, 12, 13, 14, 15, 16, 17] <| s_ast gyM 0 <| s_vret)
def fX9_readStatement_k45 (N : Nat) : gK :=
  s_vret
def fX9_readStatement_k22 (N : Nat) : gK :=
  s_if gz_eq (s_aload 0 <| s_pref (1000 + 16) <| s_cav gI (fX9_isWord N) 2 [0, 1, 2, 3, 4, 5, 6, 7, 8, 9, 10, 11, 12, 13, 14, 15, 16, 17] <| s_if gz_eq (s_aload 0 <| s_pref (1000 + 18) <| s_const 0 <| s_cav gI (fX9_once N) 3 [0, 1, 2, 3, 4, 5, 6, 7, 8, 9, 10, 11, 12, 13, 14, 15, 16, 17] <| s_if gz_eq (s_aload 0 <| s_pref (1000 + 21) <| s_const 1 <| s_cav gI (fX9_once N) 3 [0, 1, 2, 3, 4, 5, 6, 7, 8, 9, 10, 11, 12, 13, 14, 15, 16, 17] <| s_mask [true] <| fX9_readStatement_k82 N) (s_aload 0 <| s_get gyM 9 8 <| s_const 3 <| s_aload 0 <| s_pref (1000 + 19) <| s_pref (1000 + 20) <| s_cav gI (fX9_takeWord N) 3 [0, 1, 2, 3, 4, 5, 6, 7, 8, 9, 10, 11, 12, 13, 14, 15, 16, 17] <| s_ast gyM 0 <| s_vret)) (s_aload 0 <| s_cav gV (fX9_flowStatement N) 1 [0, 1, 2, 3, 4, 5, 6, 7, 8, 9, 10, 11, 12, 13, 14, 15, 16, 17] <| s_mask [false] <| fX9_readStatement_k45 N)) (s_aload 0 <| s_cav gV (fX9_conflictStatement N) 1 [0, 1, 2, 3, 4, 5, 6, 7, 8, 9, 10, 11, 12, 13, 14, 15, 16, 17] <| s_vret)
def fX9_readStatement_k0 (N : Nat) : gK :=
  s_aload 0 <| s_pref (1000 + 14) <| s_cav gI (fX9_isWord N) 2 [0, 1, 2, 3, 4, 5, 6, 7, 8, 9, 10, 11, 12, 13, 14, 15, 16, 17] <| s_if gz_eq (s_aload 0 <| s_pref (1000 + 15) <| s_cav gI (fX9_isWord N) 2 [0, 1, 2, 3, 4, 5, 6, 7, 8, 9, 10, 11, 12, 13, 14, 15, 16, 17] <| s_mask [true] <| fX9_readStatement_k22 N) (s_aload 0 <| s_cav gV (fX9_linkStatement N) 1 [0, 1, 2, 3, 4, 5, 6, 7, 8, 9, 10, 11, 12, 13, 14, 15, 16, 17] <| s_vret)
def fX9_readStatement (N : Nat) : List Value → gM → Option (gR × gM) := gFn 1 (fX9_readStatement_k0 N)
def fX9_parse_k91 (N : Nat) : gK :=
  s_aload 0 <| s_cav gI (fX9_isGood N) 1 [0, 1, 2, 3, 4, 5, 6, 7, 8, 9, 10, 11, 12, 13, 14, 15, 16, 17] <| s_if gz_eq (s_aload 0 <| s_get gyM 9 7 <| s_iret) (s_aload 0 <| s_get gyM 9 5 <| s_if gz_eq (s_aload 0 <| s_get gyM 9 7 <| s_iret) (s_aload 0 <| s_cav gV (fX9_fail N) 1 [0, 1, 2, 3, 4, 5, 6, 7, 8, 9, 10, 11, 12, 13, 14, 15, 16, 17] <| s_aload 0 <| s_get gyM 9 7 <| s_iret))
def fX9_parse_k88 (N : Nat) (K51 : gK) : gK :=
  s_mask [true] <| K51
def fX9_parse_b51 (N : Nat) : gK → gK := fun K51 =>
  s_aload 0 <| s_cav gI (fX9_isGood N) 1 [0, 1, 2, 3, 4, 5, 6, 7, 8, 9, 10, 11, 12, 13, 14, 15, 16, 17] <| s_if gz_eq (s_mask [true] <| fX9_parse_k91 N) (s_aload 0 <| s_get gyM 9 5 <| s_const 3 <| s_cmp gc_ne (s_mask [true] <| fX9_parse_k91 N) (s_aload 0 <| s_get gyM 9 1 <| s_aload 0 <| s_get gyM 9 4 <| s_ald gyM 0 <| s_const 59 <| s_cmp gc_ne (s_mask [true] <| fX9_parse_k91 N) (s_aload 0 <| s_cav gV (fX9_step N) 1 [0, 1, 2, 3, 4, 5, 6, 7, 8, 9, 10, 11, 12, 13, 14, 15, 16, 17] <| s_aload 0 <| s_cav gV (fX9_readStatement N) 1 [0, 1, 2, 3, 4, 5, 6, 7, 8, 9, 10, 11, 12, 13, 14, 15, 16, 17] <| s_mask [true] <| fX9_parse_k88 N K51)))
def fX9_parse_k51 (N : Nat) : gK := s_lp (fX9_parse_b51 N) N
def fX9_parse_k24 (N : Nat) : gK :=
  s_if gz_eq (s_aload 0 <| s_cav gV (fX9_fail N) 1 [0, 1, 2, 3, 4, 5, 6, 7, 8, 9, 10, 11, 12, 13, 14, 15, 16, 17] <| s_mask [true] <| fX9_parse_k51 N) (s_aload 0 <| s_cav gV (fX9_step N) 1 [0, 1, 2, 3, 4, 5, 6, 7, 8, 9, 10, 11, 12, 13, 14, 15, 16, 17] <| s_aload 0 <| s_get gyM 9 8 <| s_const 0 <| s_aload 0 <| s_const 2 <| s_const 10 <| s_cav gI (fX9_takeNumber N) 3 [0, 1, 2, 3, 4, 5, 6, 7, 8, 9, 10, 11, 12, 13, 14, 15, 16, 17] <| s_ast gyM 0 <| s_mask [true] <| fX9_parse_k51 N)
def fX9_parse_k0 (N : Nat) : gK :=
  s_aload 0 <| s_const 0 <| s_put gyM 9 3 <| s_aload 0 <| s_const (-1) <| s_put gyM 9 7 <| s_aload 0 <| s_cav gV (fX9_begin N) 1 [0, 1, 2, 3, 4, 5, 6, 7, 8, 9, 10, 11, 12, 13, 14, 15, 16, 17] <| s_aload 0 <| s_cav gV (fX9_step N) 1 [0, 1, 2, 3, 4, 5, 6, 7, 8, 9, 10, 11, 12, 13, 14, 15, 16, 17] <| s_aload 0 <| s_pref (1000 + 13) <| s_cav gI (fX9_isWord N) 2 [0, 1, 2, 3, 4, 5, 6, 7, 8, 9, 10, 11, 12, 13, 14, 15, 16, 17] <| s_mask [true] <| fX9_parse_k24 N
def fX9_parse (N : Nat) : List Value → gM → Option (gR × gM) := gFn 1 (fX9_parse_k0 N)
def fX9_errorPosition_k0 (N : Nat) : gK :=
  s_aload 0 <| s_const 0 <| s_put gyM 9 0 <| s_aload 0 <| s_cav gI (fX9_parse N) 1 [0, 1, 2, 3, 4, 5, 6, 7, 8, 9, 10, 11, 12, 13, 14, 15, 16, 17] <| s_iret
def fX9_errorPosition (N : Nat) : List Value → gM → Option (gR × gM) := gFn 1 (fX9_errorPosition_k0 N)
def fX9_copy_b3 (N : Nat) (n1 n2 : Nat) : gK → gK := fun K3 =>
  s_iload 4 <| s_const 2746 <| s_cmp gc_ge (s_vret) (s_aload 2 <| s_iload 3 <| s_iload 4 <| s_bin gb_add <| s_aload 0 <| s_iload 1 <| s_iload 4 <| s_bin gb_add <| s_ald (gyR2 n1 n2) 0 <| s_ast (gyR2 n1 n2) 0 <| s_iinc 4 1 <| s_mask [true, true, true, true, true] <| K3)
def fX9_copy_k3 (N : Nat) (n1 n2 : Nat) : gK := s_lp (fX9_copy_b3 N n1 n2) N
def fX9_copy_k0 (N : Nat) (n1 n2 : Nat) : gK :=
  s_const 0 <| s_istore 4 <| s_mask [true, true, true, true, true] <| fX9_copy_k3 N n1 n2
def fX9_copy (N : Nat) (n1 n2 : Nat) : List Value → gM → Option (gR × gM) := gFn 5 (fX9_copy_k0 N n1 n2)
def fX9_takeRead_k0 (N : Nat) : gK :=
  s_aload 0 <| s_get gyM 9 8 <| s_const 0 <| s_aload 0 <| s_get gyM 9 9 <| s_const 0 <| s_ca gV (fX9_copy N 2746 2746) 4 [2, 3] <| s_aload 0 <| s_const 0 <| s_put gyM 9 13 <| s_aload 0 <| s_const 0 <| s_putz gyM 9 16 <| s_vret
def fX9_takeRead (N : Nat) : List Value → gM → Option (gR × gM) := gFn 1 (fX9_takeRead_k0 N)
def fX9_load_k18 (N : Nat) : gK :=
  s_const 1 <| s_cav gI (fX9_fails N) 3 [0, 1, 2, 3, 4, 5, 6, 7, 8, 9, 10, 11, 12, 13, 14, 15, 16, 17] <| s_if gz_eq (s_aload 0 <| s_cav gV (fX9_takeRead N) 1 [0, 1, 2, 3, 4, 5, 6, 7, 8, 9, 10, 11, 12, 13, 14, 15, 16, 17] <| s_aload 0 <| s_const 0 <| s_put gyM 9 2 <| s_aload 0 <| s_get gyM 9 9 <| s_const 1 <| s_ald gyM 0 <| s_iret) (s_const 0 <| s_iret)
def fX9_load_k0 (N : Nat) : gK :=
  s_aload 0 <| s_const 0 <| s_put gyM 9 0 <| s_aload 0 <| s_aload 0 <| s_cav gI (fX9_parse N) 1 [0, 1, 2, 3, 4, 5, 6, 7, 8, 9, 10, 11, 12, 13, 14, 15, 16, 17] <| s_if gz_ge (s_const 0 <| s_mask [true] <| fX9_load_k18 N) (s_const 1 <| s_mask [true] <| fX9_load_k18 N)
def fX9_load (N : Nat) : List Value → gM → Option (gR × gM) := gFn 1 (fX9_load_k0 N)
def fX9_record_k52 (N : Nat) : gK :=
  s_aload 0 <| s_get gyM 9 9 <| s_const 0 <| s_aload 0 <| s_get gyM 9 12 <| s_const 2746 <| s_aload 0 <| s_get gyM 9 13 <| s_bin gb_mul <| s_ca gV (fX9_copy N 2746 16476) 4 [3, 6] <| s_aload 0 <| s_dup <| s_get gyM 9 13 <| s_const 1 <| s_bin gb_add <| s_put gyM 9 13 <| s_vret
def fX9_record_b13 (N : Nat) : gK → gK := fun K13 =>
  s_iload 1 <| s_const 16476 <| s_cmp gc_ge (s_aload 0 <| s_dup <| s_get gyM 9 13 <| s_const 1 <| s_bin gb_sub <| s_put gyM 9 13 <| s_mask [true, false] <| fX9_record_k52 N) (s_aload 0 <| s_get gyM 9 12 <| s_iload 1 <| s_const 2746 <| s_bin gb_sub <| s_aload 0 <| s_get gyM 9 12 <| s_iload 1 <| s_ald gyM 0 <| s_ast gyM 0 <| s_iinc 1 1 <| s_mask [true, true] <| K13)
def fX9_record_k13 (N : Nat) : gK := s_lp (fX9_record_b13 N) N
def fX9_record_k0 (N : Nat) : gK :=
  s_aload 0 <| s_get gyM 9 13 <| s_const 6 <| s_cmp gc_ne (s_mask [true, false] <| fX9_record_k52 N) (s_const 2746 <| s_istore 1 <| s_mask [true, true] <| fX9_record_k13 N)
def fX9_record (N : Nat) : List Value → gM → Option (gR × gM) := gFn 2 (fX9_record_k0 N)
def fX9_undo_k18 (N : Nat) : gK :=
  s_const 1 <| s_cav gI (fX9_fails N) 3 [0, 1, 2, 3, 4, 5, 6, 7, 8, 9, 10, 11, 12, 13, 14, 15, 16, 17] <| s_if gz_eq (s_aload 0 <| s_dup <| s_get gyM 9 13 <| s_const 1 <| s_bin gb_sub <| s_put gyM 9 13 <| s_aload 0 <| s_get gyM 9 12 <| s_const 2746 <| s_aload 0 <| s_get gyM 9 13 <| s_bin gb_mul <| s_aload 0 <| s_get gyM 9 9 <| s_const 0 <| s_ca gV (fX9_copy N 16476 2746) 4 [6, 3] <| s_aload 0 <| s_get gyM 9 13 <| s_iret) (s_const 0 <| s_iret)
def fX9_undo_k0 (N : Nat) : gK :=
  s_aload 0 <| s_const 0 <| s_put gyM 9 0 <| s_aload 0 <| s_aload 0 <| s_get gyM 9 13 <| s_if gz_le (s_const 0 <| s_mask [true] <| fX9_undo_k18 N) (s_const 1 <| s_mask [true] <| fX9_undo_k18 N)
def fX9_undo (N : Nat) : List Value → gM → Option (gR × gM) := gFn 1 (fX9_undo_k0 N)
def fX9_undoCount_k0 (N : Nat) : gK :=
  s_aload 0 <| s_const 0 <| s_put gyM 9 0 <| s_aload 0 <| s_get gyM 9 13 <| s_iret
def fX9_undoCount (N : Nat) : List Value → gM → Option (gR × gM) := gFn 1 (fX9_undoCount_k0 N)
def fX9_save_k0 (N : Nat) : gK :=
  s_aload 0 <| s_const 0 <| s_put gyM 9 0 <| s_aload 0 <| s_get gyM 9 9 <| s_const 0 <| s_aload 0 <| s_get gyM 9 11 <| s_const 0 <| s_ca gV (fX9_copy N 2746 2746) 4 [3, 5] <| s_aload 0 <| s_const 1 <| s_putz gyM 9 16 <| s_aload 0 <| s_get gyM 9 9 <| s_const 7 <| s_ald gyM 0 <| s_iret
def fX9_save (N : Nat) : List Value → gM → Option (gR × gM) := gFn 1 (fX9_save_k0 N)
def fX9_restore_k0 (N : Nat) : gK :=
  s_aload 0 <| s_const 0 <| s_put gyM 9 0 <| s_aload 0 <| s_aload 0 <| s_get gyM 9 16 <| s_const 1 <| s_cav gI (fX9_fails N) 3 [0, 1, 2, 3, 4, 5, 6, 7, 8, 9, 10, 11, 12, 13, 14, 15, 16, 17] <| s_if gz_eq (s_aload 0 <| s_get gyM 9 11 <| s_const 0 <| s_aload 0 <| s_get gyM 9 9 <| s_const 0 <| s_ca gV (fX9_copy N 2746 2746) 4 [5, 3] <| s_aload 0 <| s_const 0 <| s_put gyM 9 13 <| s_aload 0 <| s_get gyM 9 9 <| s_const 7 <| s_ald gyM 0 <| s_iret) (s_const 0 <| s_iret)
def fX9_restore (N : Nat) : List Value → gM → Option (gR × gM) := gFn 1 (fX9_restore_k0 N)
def fX9_linkPart_k0 (N : Nat) : gK :=
  s_aload 0 <| s_get gyM 9 9 <| s_const 9 <| s_const 4 <| s_iload 1 <| s_bin gb_mul <| s_bin gb_add <| s_iload 2 <| s_bin gb_add <| s_ald gyM 0 <| s_iret
def fX9_linkPart (N : Nat) : List Value → gM → Option (gR × gM) := gFn 3 (fX9_linkPart_k0 N)
def fX9_flowPart_k0 (N : Nat) : gK :=
  s_aload 0 <| s_get gyM 9 9 <| s_const 65 <| s_const 11 <| s_iload 1 <| s_bin gb_mul <| s_bin gb_add <| s_iload 2 <| s_bin gb_add <| s_ald gyM 0 <| s_iret
def fX9_flowPart (N : Nat) : List Value → gM → Option (gR × gM) := gFn 3 (fX9_flowPart_k0 N)
def fX9_count_k0 (N : Nat) : gK :=
  s_aload 0 <| s_get gyM 9 9 <| s_const 65 <| s_const 11 <| s_iload 1 <| s_bin gb_mul <| s_bin gb_add <| s_iload 2 <| s_bin gb_add <| s_dup2 <| s_ald gyM 0 <| s_iload 3 <| s_bin gb_add <| s_ast gyM 0 <| s_vret
def fX9_count (N : Nat) : List Value → gM → Option (gR × gM) := gFn 4 (fX9_count_k0 N)
def fX9_packetPart_k0 (N : Nat) : gK :=
  s_aload 0 <| s_get gyM 9 9 <| s_const 246 <| s_const 5 <| s_iload 1 <| s_bin gb_mul <| s_bin gb_add <| s_iload 2 <| s_bin gb_add <| s_ald gyM 0 <| s_iret
def fX9_packetPart (N : Nat) : List Value → gM → Option (gR × gM) := gFn 3 (fX9_packetPart_k0 N)
def fX9_goalOf_k0 (N : Nat) : gK :=
  s_aload 0 <| s_aload 0 <| s_iload 1 <| s_const 0 <| s_cav gI (fX9_packetPart N) 3 [0, 1, 2, 3, 4, 5, 6, 7, 8, 9, 10, 11, 12, 13, 14, 15, 16, 17] <| s_const 1 <| s_cav gI (fX9_flowPart N) 3 [0, 1, 2, 3, 4, 5, 6, 7, 8, 9, 10, 11, 12, 13, 14, 15, 16, 17] <| s_iret
def fX9_goalOf (N : Nat) : List Value → gM → Option (gR × gM) := gFn 2 (fX9_goalOf_k0 N)
def fX9_isQueued_k0 (N : Nat) : gK :=
  s_aload 0 <| s_iload 1 <| s_const 4 <| s_cav gI (fX9_packetPart N) 3 [0, 1, 2, 3, 4, 5, 6, 7, 8, 9, 10, 11, 12, 13, 14, 15, 16, 17] <| s_iload 2 <| s_cmp gc_ne (s_const 0 <| s_zret) (s_aload 0 <| s_iload 1 <| s_cav gI (fX9_goalOf N) 2 [0, 1, 2, 3, 4, 5, 6, 7, 8, 9, 10, 11, 12, 13, 14, 15, 16, 17] <| s_iload 3 <| s_cmp gc_ne (s_const 0 <| s_zret) (s_const 1 <| s_zret))
def fX9_isQueued (N : Nat) : List Value → gM → Option (gR × gM) := gFn 4 (fX9_isQueued_k0 N)
def fX9_queued_k35 (N : Nat) (K5 : gK) : gK :=
  s_bin gb_add <| s_istore 3 <| s_iinc 4 1 <| s_mask [true, true, true, true, true] <| K5
def fX9_queued_b5 (N : Nat) : gK → gK := fun K5 =>
  s_iload 4 <| s_aload 0 <| s_get gyM 9 9 <| s_const 245 <| s_ald gyM 0 <| s_cmp gc_ge (s_iload 3 <| s_iret) (s_iload 3 <| s_aload 0 <| s_iload 4 <| s_iload 1 <| s_iload 2 <| s_cav gI (fX9_isQueued N) 4 [0, 1, 2, 3, 4, 5, 6, 7, 8, 9, 10, 11, 12, 13, 14, 15, 16, 17] <| s_if gz_eq (s_const 0 <| s_mask [true, true, true, false, true] <| fX9_queued_k35 N K5) (s_const 1 <| s_mask [true, true, true, false, true] <| fX9_queued_k35 N K5))
def fX9_queued_k5 (N : Nat) : gK := s_lp (fX9_queued_b5 N) N
def fX9_queued_k0 (N : Nat) : gK :=
  s_const 0 <| s_istore 3 <| s_const 0 <| s_istore 4 <| s_mask [true, true, true, true, true] <| fX9_queued_k5 N
def fX9_queued (N : Nat) : List Value → gM → Option (gR × gM) := gFn 5 (fX9_queued_k0 N)
def fX9_shadowOf_k0 (N : Nat) : gK :=
  s_aload 0 <| s_get gyM 9 9 <| s_const 145 <| s_const 10 <| s_iload 1 <| s_bin gb_mul <| s_bin gb_add <| s_iload 2 <| s_bin gb_add <| s_ald gyM 0 <| s_iret
def fX9_shadowOf (N : Nat) : List Value → gM → Option (gR × gM) := gFn 3 (fX9_shadowOf_k0 N)
def fX9_stayAll_b2 (N : Nat) : gK → gK := fun K2 =>
  s_iload 1 <| s_const 500 <| s_cmp gc_ge (s_vret) (s_aload 0 <| s_get gyM 9 17 <| s_iload 1 <| s_const 0 <| s_ast gyM 1 <| s_iinc 1 1 <| s_mask [true, true] <| K2)
def fX9_stayAll_k2 (N : Nat) : gK := s_lp (fX9_stayAll_b2 N) N
def fX9_stayAll_k0 (N : Nat) : gK :=
  s_const 0 <| s_istore 1 <| s_mask [true, true] <| fX9_stayAll_k2 N
def fX9_stayAll (N : Nat) : List Value → gM → Option (gR × gM) := gFn 2 (fX9_stayAll_k0 N)
def fX9_closeUp_k73 (N : Nat) (K4 : gK) : gK :=
  s_bin gb_add <| s_istore 1 <| s_iinc 2 1 <| s_mask [true, true, true, false] <| K4
def fX9_closeUp_k58 (N : Nat) (K4 : gK) : gK :=
  s_iload 1 <| s_aload 0 <| s_get gyM 9 17 <| s_iload 2 <| s_ald gyM 1 <| s_if gz_eq (s_const 1 <| s_mask [true, false, true, false] <| fX9_closeUp_k73 N K4) (s_const 0 <| s_mask [true, false, true, false] <| fX9_closeUp_k73 N K4)
def fX9_closeUp_b18 (N : Nat) (K4 : gK) : gK → gK := fun K18 =>
  s_iload 3 <| s_const 5 <| s_cmp gc_ge (s_mask [true, true, true, false] <| fX9_closeUp_k58 N K4) (s_aload 0 <| s_get gyM 9 17 <| s_iload 2 <| s_ald gyM 1 <| s_if gz_ne (s_mask [true, true, true, false] <| fX9_closeUp_k58 N K4) (s_aload 0 <| s_get gyM 9 9 <| s_const 246 <| s_const 5 <| s_iload 1 <| s_bin gb_mul <| s_bin gb_add <| s_iload 3 <| s_bin gb_add <| s_aload 0 <| s_iload 2 <| s_iload 3 <| s_cav gI (fX9_packetPart N) 3 [0, 1, 2, 3, 4, 5, 6, 7, 8, 9, 10, 11, 12, 13, 14, 15, 16, 17] <| s_ast gyM 0 <| s_iinc 3 1 <| s_mask [true, true, true, true] <| K18))
def fX9_closeUp_k18 (N : Nat) (K4 : gK) : gK := s_lp (fX9_closeUp_b18 N K4) N
def fX9_closeUp_b4 (N : Nat) : gK → gK := fun K4 =>
  s_iload 2 <| s_aload 0 <| s_get gyM 9 9 <| s_const 245 <| s_ald gyM 0 <| s_cmp gc_ge (s_aload 0 <| s_get gyM 9 9 <| s_const 245 <| s_ald gyM 0 <| s_iload 1 <| s_bin gb_sub <| s_istore 2 <| s_aload 0 <| s_get gyM 9 9 <| s_const 245 <| s_iload 1 <| s_ast gyM 0 <| s_iload 2 <| s_iret) (s_const 0 <| s_istore 3 <| s_mask [true, true, true, true] <| fX9_closeUp_k18 N K4)
def fX9_closeUp_k4 (N : Nat) : gK := s_lp (fX9_closeUp_b4 N) N
def fX9_closeUp_k0 (N : Nat) : gK :=
  s_const 0 <| s_istore 1 <| s_const 0 <| s_istore 2 <| s_mask [true, true, true, false] <| fX9_closeUp_k4 N
def fX9_closeUp (N : Nat) : List Value → gM → Option (gR × gM) := gFn 4 (fX9_closeUp_k0 N)
def fX9_come_k0 (N : Nat) : gK :=
  s_const 246 <| s_const 5 <| s_aload 0 <| s_get gyM 9 9 <| s_const 245 <| s_ald gyM 0 <| s_bin gb_mul <| s_bin gb_add <| s_istore 6 <| s_aload 0 <| s_get gyM 9 9 <| s_iload 6 <| s_const 0 <| s_bin gb_add <| s_iload 1 <| s_ast gyM 0 <| s_aload 0 <| s_get gyM 9 9 <| s_iload 6 <| s_const 1 <| s_bin gb_add <| s_iload 2 <| s_ast gyM 0 <| s_aload 0 <| s_get gyM 9 9 <| s_iload 6 <| s_const 2 <| s_bin gb_add <| s_iload 3 <| s_ast gyM 0 <| s_aload 0 <| s_get gyM 9 9 <| s_iload 6 <| s_const 3 <| s_bin gb_add <| s_iload 4 <| s_ast gyM 0 <| s_aload 0 <| s_get gyM 9 9 <| s_iload 6 <| s_const 4 <| s_bin gb_add <| s_iload 5 <| s_ast gyM 0 <| s_aload 0 <| s_get gyM 9 9 <| s_const 245 <| s_dup2 <| s_ald gyM 0 <| s_const 1 <| s_bin gb_add <| s_ast gyM 0 <| s_vret
def fX9_come (N : Nat) : List Value → gM → Option (gR × gM) := gFn 7 (fX9_come_k0 N)
def fX9_layHops_b65 (N : Nat) (K45 : gK) (K52 : gK) : gK → gK := fun K65 =>
  s_iload 4 <| s_iload 1 <| s_cmp gc_ge (s_iinc 3 1 <| s_mask [true, true, true, true, false, false, false] <| K52) (s_aload 0 <| s_get gyM 9 18 <| s_const 10 <| s_aload 0 <| s_iload 3 <| s_const 1 <| s_cav gI (fX9_linkPart N) 3 [0, 1, 2, 3, 4, 5, 6, 7, 8, 9, 10, 11, 12, 13, 14, 15, 16, 17] <| s_bin gb_mul <| s_iload 4 <| s_bin gb_add <| s_ald gyM 0 <| s_const 1 <| s_bin gb_add <| s_istore 5 <| s_const 10 <| s_aload 0 <| s_iload 3 <| s_const 0 <| s_cav gI (fX9_linkPart N) 3 [0, 1, 2, 3, 4, 5, 6, 7, 8, 9, 10, 11, 12, 13, 14, 15, 16, 17] <| s_bin gb_mul <| s_iload 4 <| s_bin gb_add <| s_istore 6 <| s_aload 0 <| s_get gyM 9 18 <| s_iload 6 <| s_aload 0 <| s_get gyM 9 18 <| s_iload 6 <| s_ald gyM 0 <| s_iload 5 <| s_jmath gj_min <| s_ast gyM 0 <| s_iinc 4 1 <| s_mask [true, true, true, true, true, false, false] <| K65)
def fX9_layHops_k65 (N : Nat) (K45 : gK) (K52 : gK) : gK := s_lp (fX9_layHops_b65 N K45 K52) N
def fX9_layHops_b52 (N : Nat) (K45 : gK) : gK → gK := fun K52 =>
  s_iload 3 <| s_aload 0 <| s_get gyM 9 9 <| s_const 1 <| s_ald gyM 0 <| s_cmp gc_ge (s_iinc 2 1 <| s_mask [true, true, true, false, false, false, false] <| K45) (s_const 0 <| s_istore 4 <| s_mask [true, true, true, true, true, false, false] <| fX9_layHops_k65 N K45 K52)
def fX9_layHops_k52 (N : Nat) (K45 : gK) : gK := s_lp (fX9_layHops_b52 N K45) N
def fX9_layHops_b45 (N : Nat) : gK → gK := fun K45 =>
  s_iload 2 <| s_iload 1 <| s_cmp gc_ge (s_vret) (s_const 0 <| s_istore 3 <| s_mask [true, true, true, true, false, false, false] <| fX9_layHops_k52 N K45)
def fX9_layHops_k45 (N : Nat) : gK := s_lp (fX9_layHops_b45 N) N
def fX9_layHops_k36 (N : Nat) (K9 : gK) : gK :=
  s_ast gyM 0 <| s_iinc 2 1 <| s_mask [true, true, true, false, false, false, false] <| K9
def fX9_layHops_b9 (N : Nat) : gK → gK := fun K9 =>
  s_iload 2 <| s_const 100 <| s_cmp gc_ge (s_const 0 <| s_istore 2 <| s_mask [true, true, true, false, false, false, false] <| fX9_layHops_k45 N) (s_aload 0 <| s_get gyM 9 18 <| s_iload 2 <| s_iload 2 <| s_const 10 <| s_div gb_div <| s_iload 2 <| s_const 10 <| s_div gb_rem <| s_cmp gc_ne (s_iload 1 <| s_mask [true, true, true, false, false, false, false] <| fX9_layHops_k36 N K9) (s_const 0 <| s_mask [true, true, true, false, false, false, false] <| fX9_layHops_k36 N K9))
def fX9_layHops_k9 (N : Nat) : gK := s_lp (fX9_layHops_b9 N) N
def fX9_layHops_k0 (N : Nat) : gK :=
  s_aload 0 <| s_get gyM 9 9 <| s_const 0 <| s_ald gyM 0 <| s_istore 1 <| s_const 0 <| s_istore 2 <| s_mask [true, true, true, false, false, false, false] <| fX9_layHops_k9 N
def fX9_layHops (N : Nat) : List Value → gM → Option (gR × gM) := gFn 7 (fX9_layHops_k0 N)
def fX9_layPressures_k141 (N : Nat) (K71 : gK) : gK :=
  s_ast gyM 0 <| s_iinc 1 1 <| s_mask [true, true, false] <| K71
def fX9_layPressures_k105 (N : Nat) (K71 : gK) : gK :=
  s_istore 2 <| s_aload 0 <| s_get gyM 9 19 <| s_iload 1 <| s_iload 1 <| s_const 10 <| s_div gb_div <| s_iload 1 <| s_const 10 <| s_div gb_rem <| s_cmp gc_ne (s_iload 2 <| s_aload 0 <| s_get gyM 9 9 <| s_const 5 <| s_ald gyM 0 <| s_aload 0 <| s_get gyM 9 18 <| s_iload 1 <| s_ald gyM 0 <| s_bin gb_mul <| s_bin gb_add <| s_mask [true, true, false] <| fX9_layPressures_k141 N K71) (s_const 0 <| s_mask [true, true, false] <| fX9_layPressures_k141 N K71)
def fX9_layPressures_b71 (N : Nat) : gK → gK := fun K71 =>
  s_iload 1 <| s_const 100 <| s_cmp gc_ge (s_vret) (s_aload 0 <| s_get gyM 9 9 <| s_const 3 <| s_ald gyM 0 <| s_if gz_ne (s_aload 0 <| s_get gyM 9 9 <| s_const 145 <| s_iload 1 <| s_bin gb_add <| s_ald gyM 0 <| s_mask [true, true, false] <| fX9_layPressures_k105 N K71) (s_aload 0 <| s_get gyM 9 20 <| s_iload 1 <| s_ald gyM 0 <| s_mask [true, true, false] <| fX9_layPressures_k105 N K71))
def fX9_layPressures_k71 (N : Nat) : gK := s_lp (fX9_layPressures_b71 N) N
def fX9_layPressures_b27 (N : Nat) : gK → gK := fun K27 =>
  s_iload 1 <| s_aload 0 <| s_get gyM 9 9 <| s_const 245 <| s_ald gyM 0 <| s_cmp gc_ge (s_const 0 <| s_istore 1 <| s_mask [true, true, false] <| fX9_layPressures_k71 N) (s_aload 0 <| s_get gyM 9 20 <| s_const 10 <| s_aload 0 <| s_iload 1 <| s_const 4 <| s_cav gI (fX9_packetPart N) 3 [0, 1, 2, 3, 4, 5, 6, 7, 8, 9, 10, 11, 12, 13, 14, 15, 16, 17] <| s_bin gb_mul <| s_aload 0 <| s_iload 1 <| s_cav gI (fX9_goalOf N) 2 [0, 1, 2, 3, 4, 5, 6, 7, 8, 9, 10, 11, 12, 13, 14, 15, 16, 17] <| s_bin gb_add <| s_dup2 <| s_ald gyM 0 <| s_const 1 <| s_bin gb_add <| s_ast gyM 0 <| s_iinc 1 1 <| s_mask [true, true, false] <| K27)
def fX9_layPressures_k27 (N : Nat) : gK := s_lp (fX9_layPressures_b27 N) N
def fX9_layPressures_b6 (N : Nat) : gK → gK := fun K6 =>
  s_iload 1 <| s_const 100 <| s_cmp gc_ge (s_const 0 <| s_istore 1 <| s_mask [true, true, false] <| fX9_layPressures_k27 N) (s_aload 0 <| s_get gyM 9 20 <| s_iload 1 <| s_const 0 <| s_ast gyM 0 <| s_iinc 1 1 <| s_mask [true, true, false] <| K6)
def fX9_layPressures_k6 (N : Nat) : gK := s_lp (fX9_layPressures_b6 N) N
def fX9_layPressures_k0 (N : Nat) : gK :=
  s_aload 0 <| s_cav gV (fX9_layHops N) 1 [0, 1, 2, 3, 4, 5, 6, 7, 8, 9, 10, 11, 12, 13, 14, 15, 16, 17] <| s_const 0 <| s_istore 1 <| s_mask [true, true, false] <| fX9_layPressures_k6 N
def fX9_layPressures (N : Nat) : List Value → gM → Option (gR × gM) := gFn 3 (fX9_layPressures_k0 N)
def fX9_isPossible_k46 (N : Nat) : gK :=
  s_const 1 <| s_zret
def fX9_isPossible_k0 (N : Nat) : gK :=
  s_const 10 <| s_iload 1 <| s_bin gb_mul <| s_iload 2 <| s_bin gb_add <| s_istore 3 <| s_iload 2 <| s_iload 1 <| s_cmp gc_eq (s_const 0 <| s_zret) (s_aload 0 <| s_get gyM 9 9 <| s_const 3 <| s_ald gyM 0 <| s_if gz_ne (s_aload 0 <| s_get gyM 9 9 <| s_const 145 <| s_iload 3 <| s_bin gb_add <| s_ald gyM 0 <| s_if gz_le (s_const 0 <| s_zret) (s_mask [false, false, false, false] <| fX9_isPossible_k46 N)) (s_aload 0 <| s_get gyM 9 20 <| s_iload 3 <| s_ald gyM 0 <| s_if gz_le (s_const 0 <| s_zret) (s_mask [false, false, false, false] <| fX9_isPossible_k46 N)))
def fX9_isPossible (N : Nat) : List Value → gM → Option (gR × gM) := gFn 4 (fX9_isPossible_k0 N)
def fX9_layWeight_k92 (N : Nat) (K23 : gK) : gK :=
  s_iinc 6 1 <| s_mask [true, true, true, true, true, true, true, false] <| K23
def fX9_layWeight_k84 (N : Nat) (K23 : gK) : gK :=
  s_iload 6 <| s_istore 4 <| s_iload 7 <| s_istore 5 <| s_mask [true, true, true, true, true, true, true, false] <| fX9_layWeight_k92 N K23
def fX9_layWeight_b23 (N : Nat) : gK → gK := fun K23 =>
  s_iload 6 <| s_aload 0 <| s_get gyM 9 9 <| s_const 0 <| s_ald gyM 0 <| s_cmp gc_ge (s_aload 0 <| s_get gyM 9 21 <| s_iload 1 <| s_iload 4 <| s_ast gyM 0 <| s_aload 0 <| s_get gyM 9 22 <| s_iload 1 <| s_iload 4 <| s_const (-1) <| s_cmp gc_ne (s_const 0 <| s_aload 0 <| s_iload 1 <| s_const 2 <| s_cav gI (fX9_linkPart N) 3 [0, 1, 2, 3, 4, 5, 6, 7, 8, 9, 10, 11, 12, 13, 14, 15, 16, 17] <| s_iload 5 <| s_bin gb_mul <| s_jmath gj_max <| s_ast gyM 0 <| s_vret) (s_const 0 <| s_ast gyM 0 <| s_vret)) (s_aload 0 <| s_get gyM 9 19 <| s_const 10 <| s_iload 2 <| s_bin gb_mul <| s_iload 6 <| s_bin gb_add <| s_ald gyM 0 <| s_aload 0 <| s_get gyM 9 19 <| s_const 10 <| s_iload 3 <| s_bin gb_mul <| s_iload 6 <| s_bin gb_add <| s_ald gyM 0 <| s_bin gb_sub <| s_istore 7 <| s_aload 0 <| s_iload 2 <| s_iload 6 <| s_cav gI (fX9_isPossible N) 3 [0, 1, 2, 3, 4, 5, 6, 7, 8, 9, 10, 11, 12, 13, 14, 15, 16, 17] <| s_if gz_eq (s_mask [true, true, true, true, true, true, true, false] <| fX9_layWeight_k92 N K23) (s_iload 4 <| s_const (-1) <| s_cmp gc_eq (s_mask [true, true, true, true, false, false, true, true] <| fX9_layWeight_k84 N K23) (s_iload 7 <| s_iload 5 <| s_cmp gc_le (s_mask [true, true, true, true, true, true, true, false] <| fX9_layWeight_k92 N K23) (s_mask [true, true, true, true, false, false, true, true] <| fX9_layWeight_k84 N K23))))
def fX9_layWeight_k23 (N : Nat) : gK := s_lp (fX9_layWeight_b23 N) N
def fX9_layWeight_k0 (N : Nat) : gK :=
  s_aload 0 <| s_iload 1 <| s_const 0 <| s_cav gI (fX9_linkPart N) 3 [0, 1, 2, 3, 4, 5, 6, 7, 8, 9, 10, 11, 12, 13, 14, 15, 16, 17] <| s_istore 2 <| s_aload 0 <| s_iload 1 <| s_const 1 <| s_cav gI (fX9_linkPart N) 3 [0, 1, 2, 3, 4, 5, 6, 7, 8, 9, 10, 11, 12, 13, 14, 15, 16, 17] <| s_istore 3 <| s_const (-1) <| s_istore 4 <| s_const 0 <| s_istore 5 <| s_const 0 <| s_istore 6 <| s_mask [true, true, true, true, true, true, true, false] <| fX9_layWeight_k23 N
def fX9_layWeight (N : Nat) : List Value → gM → Option (gR × gM) := gFn 8 (fX9_layWeight_k0 N)
def fX9_layWeights_b6 (N : Nat) : gK → gK := fun K6 =>
  s_iload 1 <| s_aload 0 <| s_get gyM 9 9 <| s_const 1 <| s_ald gyM 0 <| s_cmp gc_ge (s_vret) (s_aload 0 <| s_iload 1 <| s_cav gV (fX9_layWeight N) 2 [0, 1, 2, 3, 4, 5, 6, 7, 8, 9, 10, 11, 12, 13, 14, 15, 16, 17] <| s_iinc 1 1 <| s_mask [true, true] <| K6)
def fX9_layWeights_k6 (N : Nat) : gK := s_lp (fX9_layWeights_b6 N) N
def fX9_layWeights_k0 (N : Nat) : gK :=
  s_aload 0 <| s_cav gV (fX9_layPressures N) 1 [0, 1, 2, 3, 4, 5, 6, 7, 8, 9, 10, 11, 12, 13, 14, 15, 16, 17] <| s_const 0 <| s_istore 1 <| s_mask [true, true] <| fX9_layWeights_k6 N
def fX9_layWeights (N : Nat) : List Value → gM → Option (gR × gM) := gFn 2 (fX9_layWeights_k0 N)
def fX9_greedy_k120 (N : Nat) (K6 : gK) : gK :=
  s_iinc 3 1 <| s_mask [true, true, true, true, false, false] <| K6
def fX9_greedy_k72 (N : Nat) (K6 : gK) (K22 : gK) : gK :=
  s_istore 4 <| s_iinc 5 1 <| s_mask [true, true, true, true, true, true] <| K22
def fX9_greedy_k70 (N : Nat) (K6 : gK) (K22 : gK) : gK :=
  s_iload 4 <| s_mask [true, true, true, true, false, true] <| fX9_greedy_k72 N K6 K22
def fX9_greedy_k65 (N : Nat) (K6 : gK) (K22 : gK) : gK :=
  s_iload 5 <| s_mask [true, true, true, true, false, true] <| fX9_greedy_k72 N K6 K22
def fX9_greedy_b22 (N : Nat) (K6 : gK) : gK → gK := fun K22 =>
  s_iload 5 <| s_aload 0 <| s_get gyM 9 9 <| s_const 1 <| s_ald gyM 0 <| s_cmp gc_ge (s_iload 2 <| s_const 1 <| s_iload 4 <| s_bin gb_shl <| s_bin gb_or <| s_istore 2 <| s_aload 0 <| s_get gyM 9 22 <| s_iload 4 <| s_ald gyM 0 <| s_if gz_le (s_mask [true, true, true, true, false, false] <| fX9_greedy_k120 N K6) (s_aload 0 <| s_get gyM 9 9 <| s_const 131 <| s_iload 4 <| s_bin gb_add <| s_ald gyM 0 <| s_iload 1 <| s_bin gb_and <| s_if gz_ne (s_mask [true, true, true, true, false, false] <| fX9_greedy_k120 N K6) (s_iload 1 <| s_const 1 <| s_iload 4 <| s_bin gb_shl <| s_bin gb_or <| s_istore 1 <| s_mask [true, true, true, true, false, false] <| fX9_greedy_k120 N K6))) (s_iload 2 <| s_iload 5 <| s_ca gI (fX9_has N) 2 [] <| s_if gz_ne (s_mask [true, true, true, true, true, true] <| fX9_greedy_k70 N K6 K22) (s_iload 4 <| s_const (-1) <| s_cmp gc_eq (s_mask [true, true, true, true, false, true] <| fX9_greedy_k65 N K6 K22) (s_aload 0 <| s_get gyM 9 22 <| s_iload 5 <| s_ald gyM 0 <| s_aload 0 <| s_get gyM 9 22 <| s_iload 4 <| s_ald gyM 0 <| s_cmp gc_le (s_mask [true, true, true, true, true, true] <| fX9_greedy_k70 N K6 K22) (s_mask [true, true, true, true, false, true] <| fX9_greedy_k65 N K6 K22))))
def fX9_greedy_k22 (N : Nat) (K6 : gK) : gK := s_lp (fX9_greedy_b22 N K6) N
def fX9_greedy_b6 (N : Nat) : gK → gK := fun K6 =>
  s_iload 3 <| s_aload 0 <| s_get gyM 9 9 <| s_const 1 <| s_ald gyM 0 <| s_cmp gc_ge (s_iload 1 <| s_iret) (s_const (-1) <| s_istore 4 <| s_const 0 <| s_istore 5 <| s_mask [true, true, true, true, true, true] <| fX9_greedy_k22 N K6)
def fX9_greedy_k6 (N : Nat) : gK := s_lp (fX9_greedy_b6 N) N
def fX9_greedy_k0 (N : Nat) : gK :=
  s_const 0 <| s_istore 1 <| s_const 0 <| s_istore 2 <| s_const 0 <| s_istore 3 <| s_mask [true, true, true, true, false, false] <| fX9_greedy_k6 N
def fX9_greedy (N : Nat) : List Value → gM → Option (gR × gM) := gFn 6 (fX9_greedy_k0 N)
def fX9_hasRival_k46 (N : Nat) (K4 : gK) : gK :=
  s_bin gb_or <| s_istore 2 <| s_iinc 3 1 <| s_mask [true, true, true, true] <| K4
def fX9_hasRival_k45 (N : Nat) (K4 : gK) : gK :=
  s_const 0 <| s_mask [true, true, false, true] <| fX9_hasRival_k46 N K4
def fX9_hasRival_b4 (N : Nat) : gK → gK := fun K4 =>
  s_iload 3 <| s_aload 0 <| s_get gyM 9 9 <| s_const 1 <| s_ald gyM 0 <| s_cmp gc_ge (s_iload 2 <| s_zret) (s_iload 2 <| s_aload 0 <| s_get gyM 9 9 <| s_const 131 <| s_iload 1 <| s_bin gb_add <| s_ald gyM 0 <| s_iload 3 <| s_ca gI (fX9_has N) 2 [] <| s_if gz_eq (s_mask [true, true, false, true] <| fX9_hasRival_k45 N K4) (s_aload 0 <| s_get gyM 9 22 <| s_iload 3 <| s_ald gyM 0 <| s_if gz_le (s_mask [true, true, false, true] <| fX9_hasRival_k45 N K4) (s_const 1 <| s_mask [true, true, false, true] <| fX9_hasRival_k46 N K4)))
def fX9_hasRival_k4 (N : Nat) : gK := s_lp (fX9_hasRival_b4 N) N
def fX9_hasRival_k0 (N : Nat) : gK :=
  s_const 0 <| s_istore 2 <| s_const 0 <| s_istore 3 <| s_mask [true, true, true, true] <| fX9_hasRival_k4 N
def fX9_hasRival (N : Nat) : List Value → gM → Option (gR × gM) := gFn 4 (fX9_hasRival_k0 N)
def fX9_grown_k0 (N : Nat) : gK :=
  s_iload 0 <| s_const 1 <| s_bin gb_add <| s_iload 1 <| s_bin gb_mul <| s_iload 2 <| s_div gb_div <| s_iload 0 <| s_iload 1 <| s_bin gb_mul <| s_iload 2 <| s_div gb_div <| s_bin gb_sub <| s_iret
def fX9_grown (N : Nat) : List Value → gM → Option (gR × gM) := gFn 3 (fX9_grown_k0 N)
def fX9_arrive_k72 (N : Nat) (K5 : gK) : gK :=
  s_iinc 4 1 <| s_mask [true, true, true, true, true] <| K5
def fX9_arrive_k59 (N : Nat) (K5 : gK) : gK :=
  s_bin gb_shl <| s_aload 0 <| s_iload 1 <| s_const 0 <| s_cav gI (fX9_flowPart N) 3 [0, 1, 2, 3, 4, 5, 6, 7, 8, 9, 10, 11, 12, 13, 14, 15, 16, 17] <| s_cav gV (fX9_come N) 6 [0, 1, 2, 3, 4, 5, 6, 7, 8, 9, 10, 11, 12, 13, 14, 15, 16, 17] <| s_iinc 3 1 <| s_mask [true, true, true, true, true] <| fX9_arrive_k72 N K5
def fX9_arrive_b5 (N : Nat) : gK → gK := fun K5 =>
  s_iload 4 <| s_iload 2 <| s_cmp gc_ge (s_iload 3 <| s_iret) (s_aload 0 <| s_iload 1 <| s_const 4 <| s_const 1 <| s_cav gV (fX9_count N) 4 [0, 1, 2, 3, 4, 5, 6, 7, 8, 9, 10, 11, 12, 13, 14, 15, 16, 17] <| s_aload 0 <| s_get gyM 9 9 <| s_const 245 <| s_ald gyM 0 <| s_const 500 <| s_cmp gc_ne (s_aload 0 <| s_iload 1 <| s_aload 0 <| s_get gyM 9 9 <| s_const 7 <| s_ald gyM 0 <| s_const 0 <| s_const 1 <| s_aload 0 <| s_iload 1 <| s_const 0 <| s_cav gI (fX9_flowPart N) 3 [0, 1, 2, 3, 4, 5, 6, 7, 8, 9, 10, 11, 12, 13, 14, 15, 16, 17] <| s_mask [true, true, true, true, true] <| fX9_arrive_k59 N K5) (s_aload 0 <| s_iload 1 <| s_const 5 <| s_const 1 <| s_cav gV (fX9_count N) 4 [0, 1, 2, 3, 4, 5, 6, 7, 8, 9, 10, 11, 12, 13, 14, 15, 16, 17] <| s_mask [true, true, true, true, true] <| fX9_arrive_k72 N K5))
def fX9_arrive_k5 (N : Nat) : gK := s_lp (fX9_arrive_b5 N) N
def fX9_arrive_k0 (N : Nat) : gK :=
  s_const 0 <| s_istore 3 <| s_const 0 <| s_istore 4 <| s_mask [true, true, true, true, true] <| fX9_arrive_k5 N
def fX9_arrive (N : Nat) : List Value → gM → Option (gR × gM) := gFn 5 (fX9_arrive_k0 N)
def fX9_arrivals_k77 (N : Nat) (K2 : gK) : gK :=
  s_const 100 <| s_aload 0 <| s_get gyM 9 9 <| s_const 4 <| s_ald gyM 0 <| s_bin gb_add <| s_bin gb_mul <| s_const 10000 <| s_ca gI (fX9_grown N) 3 [] <| s_bin gb_add <| s_ast gyM 0 <| s_iinc 1 1 <| s_mask [true, true, false, false] <| K2
def fX9_arrivals_k35 (N : Nat) (K2 : gK) : gK :=
  s_istore 2 <| s_const 145 <| s_const 10 <| s_aload 0 <| s_iload 1 <| s_const 0 <| s_cav gI (fX9_flowPart N) 3 [0, 1, 2, 3, 4, 5, 6, 7, 8, 9, 10, 11, 12, 13, 14, 15, 16, 17] <| s_bin gb_mul <| s_bin gb_add <| s_aload 0 <| s_iload 1 <| s_const 1 <| s_cav gI (fX9_flowPart N) 3 [0, 1, 2, 3, 4, 5, 6, 7, 8, 9, 10, 11, 12, 13, 14, 15, 16, 17] <| s_bin gb_add <| s_istore 3 <| s_aload 0 <| s_get gyM 9 9 <| s_iload 3 <| s_dup2 <| s_ald gyM 0 <| s_aload 0 <| s_get gyM 9 9 <| s_const 7 <| s_ald gyM 0 <| s_aload 0 <| s_iload 1 <| s_const 2 <| s_cav gI (fX9_flowPart N) 3 [0, 1, 2, 3, 4, 5, 6, 7, 8, 9, 10, 11, 12, 13, 14, 15, 16, 17] <| s_mask [true, true, false, false] <| fX9_arrivals_k77 N K2
def fX9_arrivals_b2 (N : Nat) : gK → gK := fun K2 =>
  s_iload 1 <| s_aload 0 <| s_get gyM 9 9 <| s_const 2 <| s_ald gyM 0 <| s_cmp gc_ge (s_vret) (s_aload 0 <| s_iload 1 <| s_aload 0 <| s_get gyM 9 9 <| s_const 7 <| s_ald gyM 0 <| s_aload 0 <| s_iload 1 <| s_const 2 <| s_cav gI (fX9_flowPart N) 3 [0, 1, 2, 3, 4, 5, 6, 7, 8, 9, 10, 11, 12, 13, 14, 15, 16, 17] <| s_const 100 <| s_ca gI (fX9_grown N) 3 [] <| s_cav gI (fX9_arrive N) 3 [0, 1, 2, 3, 4, 5, 6, 7, 8, 9, 10, 11, 12, 13, 14, 15, 16, 17] <| s_mask [true, true, false, false] <| fX9_arrivals_k35 N K2)
def fX9_arrivals_k2 (N : Nat) : gK := s_lp (fX9_arrivals_b2 N) N
def fX9_arrivals_k0 (N : Nat) : gK :=
  s_const 0 <| s_istore 1 <| s_mask [true, true, false, false] <| fX9_arrivals_k2 N
def fX9_arrivals (N : Nat) : List Value → gM → Option (gR × gM) := gFn 4 (fX9_arrivals_k0 N)
def fX9_take_k141 (N : Nat) : gK :=
  s_const 145 <| s_const 10 <| s_iload 2 <| s_bin gb_mul <| s_bin gb_add <| s_iload 3 <| s_bin gb_add <| s_istore 5 <| s_aload 0 <| s_get gyM 9 27 <| s_iload 1 <| s_aload 0 <| s_iload 1 <| s_const 2 <| s_cav gI (fX9_linkPart N) 3 [0, 1, 2, 3, 4, 5, 6, 7, 8, 9, 10, 11, 12, 13, 14, 15, 16, 17] <| s_aload 0 <| s_get gyM 9 9 <| s_iload 5 <| s_ald gyM 0 <| s_jmath gj_min <| s_ast gyM 0 <| s_aload 0 <| s_get gyM 9 9 <| s_iload 5 <| s_dup2 <| s_ald gyM 0 <| s_aload 0 <| s_get gyM 9 27 <| s_iload 1 <| s_ald gyM 0 <| s_bin gb_sub <| s_ast gyM 0 <| s_vret
def fX9_take_k135 (N : Nat) (K25 : gK) : gK :=
  s_iinc 5 1 <| s_mask [true, true, true, true, true, true, false] <| K25
def fX9_take_b70 (N : Nat) (K25 : gK) : gK → gK := fun K70 =>
  s_iload 6 <| s_const 5 <| s_cmp gc_ge (s_aload 0 <| s_get gyM 9 26 <| s_aload 0 <| s_get gyM 9 28 <| s_iload 1 <| s_ast gyM 0 <| s_aload 0 <| s_dup <| s_get gyM 9 28 <| s_const 1 <| s_bin gb_add <| s_put gyM 9 28 <| s_aload 0 <| s_get gyM 9 17 <| s_iload 5 <| s_const 1 <| s_ast gyM 1 <| s_iinc 4 (-1) <| s_mask [true, true, true, true, true, true, false] <| fX9_take_k135 N K25) (s_aload 0 <| s_get gyM 9 25 <| s_const 5 <| s_aload 0 <| s_get gyM 9 28 <| s_bin gb_mul <| s_iload 6 <| s_bin gb_add <| s_aload 0 <| s_iload 5 <| s_iload 6 <| s_cav gI (fX9_packetPart N) 3 [0, 1, 2, 3, 4, 5, 6, 7, 8, 9, 10, 11, 12, 13, 14, 15, 16, 17] <| s_ast gyM 0 <| s_iinc 6 1 <| s_mask [true, true, true, true, true, true, true] <| K70)
def fX9_take_k70 (N : Nat) (K25 : gK) : gK := s_lp (fX9_take_b70 N K25) N
def fX9_take_b25 (N : Nat) : gK → gK := fun K25 =>
  s_iload 5 <| s_aload 0 <| s_get gyM 9 9 <| s_const 245 <| s_ald gyM 0 <| s_cmp gc_ge (s_mask [true, true, true, true, false, false, false] <| fX9_take_k141 N) (s_iload 4 <| s_if gz_le (s_mask [true, true, true, true, false, false, false] <| fX9_take_k141 N) (s_aload 0 <| s_get gyM 9 17 <| s_iload 5 <| s_ald gyM 1 <| s_if gz_ne (s_mask [true, true, true, true, true, true, false] <| fX9_take_k135 N K25) (s_aload 0 <| s_iload 5 <| s_iload 2 <| s_iload 3 <| s_cav gI (fX9_isQueued N) 4 [0, 1, 2, 3, 4, 5, 6, 7, 8, 9, 10, 11, 12, 13, 14, 15, 16, 17] <| s_if gz_ne (s_const 0 <| s_istore 6 <| s_mask [true, true, true, true, true, true, true] <| fX9_take_k70 N K25) (s_mask [true, true, true, true, true, true, false] <| fX9_take_k135 N K25))))
def fX9_take_k25 (N : Nat) : gK := s_lp (fX9_take_b25 N) N
def fX9_take_k0 (N : Nat) : gK :=
  s_aload 0 <| s_iload 1 <| s_const 0 <| s_cav gI (fX9_linkPart N) 3 [0, 1, 2, 3, 4, 5, 6, 7, 8, 9, 10, 11, 12, 13, 14, 15, 16, 17] <| s_istore 2 <| s_aload 0 <| s_get gyM 9 21 <| s_iload 1 <| s_ald gyM 0 <| s_istore 3 <| s_aload 0 <| s_iload 1 <| s_const 2 <| s_cav gI (fX9_linkPart N) 3 [0, 1, 2, 3, 4, 5, 6, 7, 8, 9, 10, 11, 12, 13, 14, 15, 16, 17] <| s_istore 4 <| s_const 0 <| s_istore 5 <| s_mask [true, true, true, true, true, true, false] <| fX9_take_k25 N
def fX9_take (N : Nat) : List Value → gM → Option (gR × gM) := gFn 7 (fX9_take_k0 N)
def fX9_deliver_k37 (N : Nat) : gK :=
  s_iload 2 <| s_jmath gj_max <| s_ast gyM 0 <| s_vret
def fX9_deliver_k0 (N : Nat) : gK :=
  s_aload 0 <| s_iload 1 <| s_const 6 <| s_const 1 <| s_cav gV (fX9_count N) 4 [0, 1, 2, 3, 4, 5, 6, 7, 8, 9, 10, 11, 12, 13, 14, 15, 16, 17] <| s_aload 0 <| s_iload 1 <| s_const 9 <| s_iload 2 <| s_cav gV (fX9_count N) 4 [0, 1, 2, 3, 4, 5, 6, 7, 8, 9, 10, 11, 12, 13, 14, 15, 16, 17] <| s_aload 0 <| s_get gyM 9 9 <| s_const 65 <| s_const 11 <| s_iload 1 <| s_bin gb_mul <| s_bin gb_add <| s_const 10 <| s_bin gb_add <| s_aload 0 <| s_iload 1 <| s_const 10 <| s_cav gI (fX9_flowPart N) 3 [0, 1, 2, 3, 4, 5, 6, 7, 8, 9, 10, 11, 12, 13, 14, 15, 16, 17] <| s_mask [false, false, true] <| fX9_deliver_k37 N
def fX9_deliver (N : Nat) : List Value → gM → Option (gR × gM) := gFn 3 (fX9_deliver_k0 N)
def fX9_land_k108 (N : Nat) : gK :=
  s_cav gV (fX9_count N) 4 [0, 1, 2, 3, 4, 5, 6, 7, 8, 9, 10, 11, 12, 13, 14, 15, 16, 17] <| s_aload 0 <| s_iload 3 <| s_aload 0 <| s_get gyM 9 25 <| s_iload 2 <| s_const 1 <| s_bin gb_add <| s_ald gyM 0 <| s_aload 0 <| s_get gyM 9 25 <| s_iload 2 <| s_const 2 <| s_bin gb_add <| s_ald gyM 0 <| s_const 1 <| s_bin gb_add <| s_aload 0 <| s_get gyM 9 25 <| s_iload 2 <| s_const 3 <| s_bin gb_add <| s_ald gyM 0 <| s_const 1 <| s_iload 4 <| s_bin gb_shl <| s_bin gb_or <| s_iload 4 <| s_cav gV (fX9_come N) 6 [0, 1, 2, 3, 4, 5, 6, 7, 8, 9, 10, 11, 12, 13, 14, 15, 16, 17] <| s_vret
def fX9_land_k100 (N : Nat) : gK :=
  s_if gz_eq (s_const 0 <| s_mask [true, false, true, true, true] <| fX9_land_k108 N) (s_const 1 <| s_mask [true, false, true, true, true] <| fX9_land_k108 N)
def fX9_land_k0 (N : Nat) : gK :=
  s_const 5 <| s_iload 1 <| s_bin gb_mul <| s_istore 2 <| s_aload 0 <| s_get gyM 9 25 <| s_iload 2 <| s_const 0 <| s_bin gb_add <| s_ald gyM 0 <| s_istore 3 <| s_aload 0 <| s_aload 0 <| s_get gyM 9 26 <| s_iload 1 <| s_ald gyM 0 <| s_const 1 <| s_cav gI (fX9_linkPart N) 3 [0, 1, 2, 3, 4, 5, 6, 7, 8, 9, 10, 11, 12, 13, 14, 15, 16, 17] <| s_istore 4 <| s_aload 0 <| s_get gyM 9 9 <| s_const 9 <| s_const 4 <| s_aload 0 <| s_get gyM 9 26 <| s_iload 1 <| s_ald gyM 0 <| s_bin gb_mul <| s_bin gb_add <| s_const 3 <| s_bin gb_add <| s_dup2 <| s_ald gyM 0 <| s_const 1 <| s_bin gb_add <| s_ast gyM 0 <| s_iload 4 <| s_aload 0 <| s_iload 3 <| s_const 1 <| s_cav gI (fX9_flowPart N) 3 [0, 1, 2, 3, 4, 5, 6, 7, 8, 9, 10, 11, 12, 13, 14, 15, 16, 17] <| s_cmp gc_ne (s_aload 0 <| s_iload 3 <| s_const 8 <| s_aload 0 <| s_get gyM 9 25 <| s_iload 2 <| s_const 3 <| s_bin gb_add <| s_ald gyM 0 <| s_iload 4 <| s_ca gI (fX9_has N) 2 [] <| s_mask [true, false, true, true, true] <| fX9_land_k100 N) (s_aload 0 <| s_iload 3 <| s_aload 0 <| s_get gyM 9 9 <| s_const 7 <| s_ald gyM 0 <| s_const 1 <| s_bin gb_add <| s_aload 0 <| s_get gyM 9 25 <| s_iload 2 <| s_const 1 <| s_bin gb_add <| s_ald gyM 0 <| s_bin gb_sub <| s_cav gV (fX9_deliver N) 3 [0, 1, 2, 3, 4, 5, 6, 7, 8, 9, 10, 11, 12, 13, 14, 15, 16, 17] <| s_vret)
def fX9_land (N : Nat) : List Value → gM → Option (gR × gM) := gFn 5 (fX9_land_k0 N)
def fX9_transmit_k135 (N : Nat) (K68 : gK) : gK :=
  s_iinc 3 1 <| s_mask [true, true, false, true] <| K68
def fX9_transmit_k116 (N : Nat) (K68 : gK) : gK :=
  s_bin gb_mul <| s_bin gb_add <| s_aload 0 <| s_get gyM 9 21 <| s_iload 3 <| s_ald gyM 0 <| s_bin gb_add <| s_dup2 <| s_ald gyM 0 <| s_aload 0 <| s_get gyM 9 27 <| s_iload 3 <| s_ald gyM 0 <| s_bin gb_add <| s_ast gyM 0 <| s_mask [true, true, false, true] <| fX9_transmit_k135 N K68
def fX9_transmit_b68 (N : Nat) : gK → gK := fun K68 =>
  s_iload 3 <| s_aload 0 <| s_get gyM 9 9 <| s_const 1 <| s_ald gyM 0 <| s_cmp gc_ge (s_vret) (s_iload 1 <| s_iload 3 <| s_ca gI (fX9_has N) 2 [] <| s_if gz_eq (s_mask [true, true, false, true] <| fX9_transmit_k135 N K68) (s_aload 0 <| s_iload 3 <| s_const 1 <| s_cav gI (fX9_linkPart N) 3 [0, 1, 2, 3, 4, 5, 6, 7, 8, 9, 10, 11, 12, 13, 14, 15, 16, 17] <| s_aload 0 <| s_get gyM 9 21 <| s_iload 3 <| s_ald gyM 0 <| s_cmp gc_eq (s_mask [true, true, false, true] <| fX9_transmit_k135 N K68) (s_aload 0 <| s_get gyM 9 9 <| s_const 145 <| s_const 10 <| s_aload 0 <| s_iload 3 <| s_const 1 <| s_cav gI (fX9_linkPart N) 3 [0, 1, 2, 3, 4, 5, 6, 7, 8, 9, 10, 11, 12, 13, 14, 15, 16, 17] <| s_mask [true, true, false, true] <| fX9_transmit_k116 N K68)))
def fX9_transmit_k68 (N : Nat) : gK := s_lp (fX9_transmit_b68 N) N
def fX9_transmit_b47 (N : Nat) : gK → gK := fun K47 =>
  s_iload 3 <| s_aload 0 <| s_get gyM 9 28 <| s_cmp gc_ge (s_const 0 <| s_istore 3 <| s_mask [true, true, false, true] <| fX9_transmit_k68 N) (s_aload 0 <| s_iload 3 <| s_cav gV (fX9_land N) 2 [0, 1, 2, 3, 4, 5, 6, 7, 8, 9, 10, 11, 12, 13, 14, 15, 16, 17] <| s_iinc 3 1 <| s_mask [true, true, false, true] <| K47)
def fX9_transmit_k47 (N : Nat) : gK := s_lp (fX9_transmit_b47 N) N
def fX9_transmit_k34 (N : Nat) (K11 : gK) : gK :=
  s_iinc 2 1 <| s_mask [true, true, true, false] <| K11
def fX9_transmit_b11 (N : Nat) : gK → gK := fun K11 =>
  s_iload 2 <| s_aload 0 <| s_get gyM 9 9 <| s_const 1 <| s_ald gyM 0 <| s_cmp gc_ge (s_aload 0 <| s_cav gI (fX9_closeUp N) 1 [0, 1, 2, 3, 4, 5, 6, 7, 8, 9, 10, 11, 12, 13, 14, 15, 16, 17] <| s_istore 2 <| s_const 0 <| s_istore 3 <| s_mask [true, true, false, true] <| fX9_transmit_k47 N) (s_iload 1 <| s_iload 2 <| s_ca gI (fX9_has N) 2 [] <| s_if gz_eq (s_mask [true, true, true, false] <| fX9_transmit_k34 N K11) (s_aload 0 <| s_iload 2 <| s_cav gV (fX9_take N) 2 [0, 1, 2, 3, 4, 5, 6, 7, 8, 9, 10, 11, 12, 13, 14, 15, 16, 17] <| s_mask [true, true, true, false] <| fX9_transmit_k34 N K11))
def fX9_transmit_k11 (N : Nat) : gK := s_lp (fX9_transmit_b11 N) N
def fX9_transmit_k0 (N : Nat) : gK :=
  s_aload 0 <| s_const 0 <| s_put gyM 9 28 <| s_aload 0 <| s_cav gV (fX9_stayAll N) 1 [0, 1, 2, 3, 4, 5, 6, 7, 8, 9, 10, 11, 12, 13, 14, 15, 16, 17] <| s_const 0 <| s_istore 2 <| s_mask [true, true, true, false] <| fX9_transmit_k11 N
def fX9_transmit (N : Nat) : List Value → gM → Option (gR × gM) := gFn 4 (fX9_transmit_k0 N)
def fX9_expire_k85 (N : Nat) (K6 : gK) : gK :=
  s_cav gV (fX9_count N) 4 [0, 1, 2, 3, 4, 5, 6, 7, 8, 9, 10, 11, 12, 13, 14, 15, 16, 17] <| s_iinc 1 1 <| s_mask [true, true, false, false] <| K6
def fX9_expire_k66 (N : Nat) (K6 : gK) : gK :=
  s_ast gyM 1 <| s_aload 0 <| s_iload 2 <| s_const 7 <| s_aload 0 <| s_get gyM 9 17 <| s_iload 1 <| s_ald gyM 1 <| s_if gz_eq (s_const 0 <| s_mask [true, true, false, false] <| fX9_expire_k85 N K6) (s_const 1 <| s_mask [true, true, false, false] <| fX9_expire_k85 N K6)
def fX9_expire_k65 (N : Nat) (K6 : gK) : gK :=
  s_const 0 <| s_mask [true, true, true, false] <| fX9_expire_k66 N K6
def fX9_expire_k56 (N : Nat) (K6 : gK) : gK :=
  s_bin gb_sub <| s_iload 3 <| s_cmp gc_lt (s_mask [true, true, true, false] <| fX9_expire_k65 N K6) (s_const 1 <| s_mask [true, true, true, false] <| fX9_expire_k66 N K6)
def fX9_expire_b6 (N : Nat) : gK → gK := fun K6 =>
  s_iload 1 <| s_aload 0 <| s_get gyM 9 9 <| s_const 245 <| s_ald gyM 0 <| s_cmp gc_ge (s_aload 0 <| s_cav gI (fX9_closeUp N) 1 [0, 1, 2, 3, 4, 5, 6, 7, 8, 9, 10, 11, 12, 13, 14, 15, 16, 17] <| s_istore 1 <| s_vret) (s_aload 0 <| s_iload 1 <| s_const 0 <| s_cav gI (fX9_packetPart N) 3 [0, 1, 2, 3, 4, 5, 6, 7, 8, 9, 10, 11, 12, 13, 14, 15, 16, 17] <| s_istore 2 <| s_aload 0 <| s_iload 2 <| s_const 3 <| s_cav gI (fX9_flowPart N) 3 [0, 1, 2, 3, 4, 5, 6, 7, 8, 9, 10, 11, 12, 13, 14, 15, 16, 17] <| s_istore 3 <| s_aload 0 <| s_get gyM 9 17 <| s_iload 1 <| s_iload 3 <| s_if gz_le (s_mask [true, true, true, false] <| fX9_expire_k65 N K6) (s_aload 0 <| s_get gyM 9 9 <| s_const 7 <| s_ald gyM 0 <| s_const 1 <| s_bin gb_add <| s_aload 0 <| s_iload 1 <| s_const 1 <| s_cav gI (fX9_packetPart N) 3 [0, 1, 2, 3, 4, 5, 6, 7, 8, 9, 10, 11, 12, 13, 14, 15, 16, 17] <| s_mask [true, true, true, true] <| fX9_expire_k56 N K6))
def fX9_expire_k6 (N : Nat) : gK := s_lp (fX9_expire_b6 N) N
def fX9_expire_k0 (N : Nat) : gK :=
  s_aload 0 <| s_cav gV (fX9_stayAll N) 1 [0, 1, 2, 3, 4, 5, 6, 7, 8, 9, 10, 11, 12, 13, 14, 15, 16, 17] <| s_const 0 <| s_istore 1 <| s_mask [true, true, false, false] <| fX9_expire_k6 N
def fX9_expire (N : Nat) : List Value → gM → Option (gR × gM) := gFn 4 (fX9_expire_k0 N)
def fX9_isNode_k0 (N : Nat) : gK :=
  s_iload 1 <| s_i2l <| s_lconst 0 <| s_aload 0 <| s_get gyM 9 9 <| s_const 0 <| s_ald gyM 0 <| s_const 1 <| s_bin gb_sub <| s_i2l <| s_ca gI (fX9_in N) 3 [] <| s_zret
def fX9_isNode (N : Nat) : List Value → gM → Option (gR × gM) := gFn 2 (fX9_isNode_k0 N)
def fX9_isLink_k0 (N : Nat) : gK :=
  s_iload 1 <| s_i2l <| s_lconst 0 <| s_aload 0 <| s_get gyM 9 9 <| s_const 1 <| s_ald gyM 0 <| s_const 1 <| s_bin gb_sub <| s_i2l <| s_ca gI (fX9_in N) 3 [] <| s_zret
def fX9_isLink (N : Nat) : List Value → gM → Option (gR × gM) := gFn 2 (fX9_isLink_k0 N)
def fX9_isFlow_k0 (N : Nat) : gK :=
  s_iload 1 <| s_i2l <| s_lconst 0 <| s_aload 0 <| s_get gyM 9 9 <| s_const 2 <| s_ald gyM 0 <| s_const 1 <| s_bin gb_sub <| s_i2l <| s_ca gI (fX9_in N) 3 [] <| s_zret
def fX9_isFlow (N : Nat) : List Value → gM → Option (gR × gM) := gFn 2 (fX9_isFlow_k0 N)
def fX9_areNodes_k0 (N : Nat) : gK :=
  s_aload 0 <| s_iload 1 <| s_cav gI (fX9_isNode N) 2 [0, 1, 2, 3, 4, 5, 6, 7, 8, 9, 10, 11, 12, 13, 14, 15, 16, 17] <| s_if gz_eq (s_const 0 <| s_zret) (s_aload 0 <| s_iload 2 <| s_cav gI (fX9_isNode N) 2 [0, 1, 2, 3, 4, 5, 6, 7, 8, 9, 10, 11, 12, 13, 14, 15, 16, 17] <| s_if gz_eq (s_const 0 <| s_zret) (s_const 1 <| s_zret))
def fX9_areNodes (N : Nat) : List Value → gM → Option (gR × gM) := gFn 3 (fX9_areNodes_k0 N)
def fX9_addLink_k104 (N : Nat) : gK :=
  s_aload 0 <| s_get gyM 9 9 <| s_const 1 <| s_ald gyM 0 <| s_const 1 <| s_bin gb_sub <| s_iret
def fX9_addLink_k81 (N : Nat) : gK :=
  s_const 3 <| s_cav gI (fX9_fails N) 3 [0, 1, 2, 3, 4, 5, 6, 7, 8, 9, 10, 11, 12, 13, 14, 15, 16, 17] <| s_if gz_eq (s_aload 0 <| s_cav gV (fX9_record N) 1 [0, 1, 2, 3, 4, 5, 6, 7, 8, 9, 10, 11, 12, 13, 14, 15, 16, 17] <| s_aload 0 <| s_get gyM 9 9 <| s_iload 1 <| s_iload 2 <| s_iload 3 <| s_ca gV (fX9_layLink N) 4 [3] <| s_mask [true, false, false, false] <| fX9_addLink_k104 N) (s_const 0 <| s_iret)
def fX9_addLink_k80 (N : Nat) : gK :=
  s_const 0 <| s_mask [true, true, true, true] <| fX9_addLink_k81 N
def fX9_addLink_k42 (N : Nat) : gK :=
  s_const 2 <| s_cav gI (fX9_fails N) 3 [0, 1, 2, 3, 4, 5, 6, 7, 8, 9, 10, 11, 12, 13, 14, 15, 16, 17] <| s_if gz_eq (s_aload 0 <| s_aload 0 <| s_get gyM 9 9 <| s_iload 1 <| s_iload 2 <| s_ca gI (fX9_linkIn N) 3 [3] <| s_const (-1) <| s_cmp gc_ne (s_mask [true, true, true, true] <| fX9_addLink_k80 N) (s_aload 0 <| s_get gyM 9 9 <| s_const 1 <| s_ald gyM 0 <| s_const 14 <| s_cmp gc_ge (s_mask [true, true, true, true] <| fX9_addLink_k80 N) (s_const 1 <| s_mask [true, true, true, true] <| fX9_addLink_k81 N))) (s_const 0 <| s_iret)
def fX9_addLink_k41 (N : Nat) : gK :=
  s_const 0 <| s_mask [true, true, true, true] <| fX9_addLink_k42 N
def fX9_addLink_k34 (N : Nat) : gK :=
  s_if gz_eq (s_mask [true, true, true, true] <| fX9_addLink_k41 N) (s_const 1 <| s_mask [true, true, true, true] <| fX9_addLink_k42 N)
def fX9_addLink_k0 (N : Nat) : gK :=
  s_aload 0 <| s_const 0 <| s_put gyM 9 0 <| s_aload 0 <| s_aload 0 <| s_iload 1 <| s_iload 2 <| s_cav gI (fX9_areNodes N) 3 [0, 1, 2, 3, 4, 5, 6, 7, 8, 9, 10, 11, 12, 13, 14, 15, 16, 17] <| s_const 1 <| s_cav gI (fX9_fails N) 3 [0, 1, 2, 3, 4, 5, 6, 7, 8, 9, 10, 11, 12, 13, 14, 15, 16, 17] <| s_if gz_ne (s_const 0 <| s_iret) (s_aload 0 <| s_iload 1 <| s_iload 2 <| s_cmp gc_eq (s_mask [true, true, true, true] <| fX9_addLink_k41 N) (s_iload 3 <| s_i2l <| s_lconst 1 <| s_lconst 5 <| s_ca gI (fX9_in N) 3 [] <| s_mask [true, true, true, true] <| fX9_addLink_k34 N))
def fX9_addLink (N : Nat) : List Value → gM → Option (gR × gM) := gFn 4 (fX9_addLink_k0 N)
def fX9_become_k0 (N : Nat) : gK :=
  s_aload 0 <| s_cav gV (fX9_record N) 1 [0, 1, 2, 3, 4, 5, 6, 7, 8, 9, 10, 11, 12, 13, 14, 15, 16, 17] <| s_aload 0 <| s_get gyM 9 9 <| s_iload 1 <| s_ald gyM 0 <| s_istore 3 <| s_aload 0 <| s_get gyM 9 9 <| s_iload 1 <| s_iload 2 <| s_ast gyM 0 <| s_iload 3 <| s_iret
def fX9_become (N : Nat) : List Value → gM → Option (gR × gM) := gFn 4 (fX9_become_k0 N)
def fX9_setCapacity_k28 (N : Nat) : gK :=
  s_const 2 <| s_cav gI (fX9_fails N) 3 [0, 1, 2, 3, 4, 5, 6, 7, 8, 9, 10, 11, 12, 13, 14, 15, 16, 17] <| s_if gz_eq (s_aload 0 <| s_const 9 <| s_const 4 <| s_iload 1 <| s_bin gb_mul <| s_bin gb_add <| s_const 2 <| s_bin gb_add <| s_iload 2 <| s_cav gI (fX9_become N) 3 [0, 1, 2, 3, 4, 5, 6, 7, 8, 9, 10, 11, 12, 13, 14, 15, 16, 17] <| s_iret) (s_const 0 <| s_iret)
def fX9_setCapacity_k0 (N : Nat) : gK :=
  s_aload 0 <| s_const 0 <| s_put gyM 9 0 <| s_aload 0 <| s_aload 0 <| s_iload 1 <| s_cav gI (fX9_isLink N) 2 [0, 1, 2, 3, 4, 5, 6, 7, 8, 9, 10, 11, 12, 13, 14, 15, 16, 17] <| s_const 1 <| s_cav gI (fX9_fails N) 3 [0, 1, 2, 3, 4, 5, 6, 7, 8, 9, 10, 11, 12, 13, 14, 15, 16, 17] <| s_if gz_ne (s_const 0 <| s_iret) (s_aload 0 <| s_iload 2 <| s_i2l <| s_lconst 1 <| s_lconst 5 <| s_ca gI (fX9_in N) 3 [] <| s_mask [true, true, true] <| fX9_setCapacity_k28 N)
def fX9_setCapacity (N : Nat) : List Value → gM → Option (gR × gM) := gFn 3 (fX9_setCapacity_k0 N)
def fX9_setConflict_k72 (N : Nat) : gK :=
  s_istore 4 <| s_const 1 <| s_iload 1 <| s_bin gb_shl <| s_const 1 <| s_iload 2 <| s_bin gb_shl <| s_bin gb_or <| s_istore 5 <| s_iload 4 <| s_iload 3 <| s_cmp gc_eq (s_iload 4 <| s_zret) (s_aload 0 <| s_get gyM 9 9 <| s_const 131 <| s_iload 1 <| s_bin gb_add <| s_dup2 <| s_ald gyM 0 <| s_iload 5 <| s_const 1 <| s_iload 1 <| s_bin gb_shl <| s_const (-1) <| s_bin gb_xor <| s_bin gb_and <| s_bin gb_xor <| s_ast gyM 0 <| s_aload 0 <| s_get gyM 9 9 <| s_const 131 <| s_iload 2 <| s_bin gb_add <| s_dup2 <| s_ald gyM 0 <| s_iload 5 <| s_const 1 <| s_iload 2 <| s_bin gb_shl <| s_const (-1) <| s_bin gb_xor <| s_bin gb_and <| s_bin gb_xor <| s_ast gyM 0 <| s_iload 4 <| s_zret)
def fX9_setConflict_k45 (N : Nat) : gK :=
  s_const 2 <| s_cav gI (fX9_fails N) 3 [0, 1, 2, 3, 4, 5, 6, 7, 8, 9, 10, 11, 12, 13, 14, 15, 16, 17] <| s_if gz_eq (s_aload 0 <| s_cav gV (fX9_record N) 1 [0, 1, 2, 3, 4, 5, 6, 7, 8, 9, 10, 11, 12, 13, 14, 15, 16, 17] <| s_aload 0 <| s_get gyM 9 9 <| s_const 131 <| s_iload 1 <| s_bin gb_add <| s_ald gyM 0 <| s_iload 2 <| s_ca gI (fX9_has N) 2 [] <| s_mask [true, true, true, true, false, false] <| fX9_setConflict_k72 N) (s_const 0 <| s_zret)
def fX9_setConflict_k27 (N : Nat) : gK :=
  s_const 1 <| s_cav gI (fX9_fails N) 3 [0, 1, 2, 3, 4, 5, 6, 7, 8, 9, 10, 11, 12, 13, 14, 15, 16, 17] <| s_if gz_ne (s_const 0 <| s_zret) (s_aload 0 <| s_iload 1 <| s_iload 2 <| s_cmp gc_eq (s_const 0 <| s_mask [true, true, true, true, false, false] <| fX9_setConflict_k45 N) (s_const 1 <| s_mask [true, true, true, true, false, false] <| fX9_setConflict_k45 N))
def fX9_setConflict_k26 (N : Nat) : gK :=
  s_const 0 <| s_mask [true, true, true, true, false, false] <| fX9_setConflict_k27 N
def fX9_setConflict_k0 (N : Nat) : gK :=
  s_aload 0 <| s_const 0 <| s_put gyM 9 0 <| s_aload 0 <| s_aload 0 <| s_iload 1 <| s_cav gI (fX9_isLink N) 2 [0, 1, 2, 3, 4, 5, 6, 7, 8, 9, 10, 11, 12, 13, 14, 15, 16, 17] <| s_if gz_eq (s_mask [true, true, true, true, false, false] <| fX9_setConflict_k26 N) (s_aload 0 <| s_iload 2 <| s_cav gI (fX9_isLink N) 2 [0, 1, 2, 3, 4, 5, 6, 7, 8, 9, 10, 11, 12, 13, 14, 15, 16, 17] <| s_if gz_eq (s_mask [true, true, true, true, false, false] <| fX9_setConflict_k26 N) (s_const 1 <| s_mask [true, true, true, true, false, false] <| fX9_setConflict_k27 N))
def fX9_setConflict (N : Nat) : List Value → gM → Option (gR × gM) := gFn 6 (fX9_setConflict_k0 N)
def fX9_addFlow_k106 (N : Nat) : gK :=
  s_aload 0 <| s_get gyM 9 9 <| s_const 2 <| s_ald gyM 0 <| s_const 1 <| s_bin gb_sub <| s_iret
def fX9_addFlow_k81 (N : Nat) : gK :=
  s_const 3 <| s_cav gI (fX9_fails N) 3 [0, 1, 2, 3, 4, 5, 6, 7, 8, 9, 10, 11, 12, 13, 14, 15, 16, 17] <| s_if gz_eq (s_aload 0 <| s_cav gV (fX9_record N) 1 [0, 1, 2, 3, 4, 5, 6, 7, 8, 9, 10, 11, 12, 13, 14, 15, 16, 17] <| s_aload 0 <| s_get gyM 9 9 <| s_iload 1 <| s_iload 2 <| s_iload 3 <| s_iload 4 <| s_ca gV (fX9_layFlow N) 5 [3] <| s_mask [true, false, false, false, false] <| fX9_addFlow_k106 N) (s_const 0 <| s_iret)
def fX9_addFlow_k57 (N : Nat) : gK :=
  s_const 2 <| s_cav gI (fX9_fails N) 3 [0, 1, 2, 3, 4, 5, 6, 7, 8, 9, 10, 11, 12, 13, 14, 15, 16, 17] <| s_if gz_ne (s_const 0 <| s_iret) (s_aload 0 <| s_aload 0 <| s_get gyM 9 9 <| s_const 2 <| s_ald gyM 0 <| s_const 6 <| s_cmp gc_ge (s_const 0 <| s_mask [true, true, true, true, true] <| fX9_addFlow_k81 N) (s_const 1 <| s_mask [true, true, true, true, true] <| fX9_addFlow_k81 N))
def fX9_addFlow_k56 (N : Nat) : gK :=
  s_const 0 <| s_mask [true, true, true, true, true] <| fX9_addFlow_k57 N
def fX9_addFlow_k36 (N : Nat) : gK :=
  s_if gz_eq (s_mask [true, true, true, true, true] <| fX9_addFlow_k56 N) (s_iload 4 <| s_i2l <| s_lconst 0 <| s_lconst 200 <| s_ca gI (fX9_in N) 3 [] <| s_if gz_eq (s_mask [true, true, true, true, true] <| fX9_addFlow_k56 N) (s_const 1 <| s_mask [true, true, true, true, true] <| fX9_addFlow_k57 N))
def fX9_addFlow_k0 (N : Nat) : gK :=
  s_aload 0 <| s_const 0 <| s_put gyM 9 0 <| s_aload 0 <| s_aload 0 <| s_iload 1 <| s_iload 2 <| s_cav gI (fX9_areNodes N) 3 [0, 1, 2, 3, 4, 5, 6, 7, 8, 9, 10, 11, 12, 13, 14, 15, 16, 17] <| s_const 1 <| s_cav gI (fX9_fails N) 3 [0, 1, 2, 3, 4, 5, 6, 7, 8, 9, 10, 11, 12, 13, 14, 15, 16, 17] <| s_if gz_eq (s_aload 0 <| s_iload 1 <| s_iload 2 <| s_cmp gc_eq (s_mask [true, true, true, true, true] <| fX9_addFlow_k56 N) (s_iload 3 <| s_i2l <| s_lconst 0 <| s_lconst 300 <| s_ca gI (fX9_in N) 3 [] <| s_mask [true, true, true, true, true] <| fX9_addFlow_k36 N)) (s_const 0 <| s_iret)
def fX9_addFlow (N : Nat) : List Value → gM → Option (gR × gM) := gFn 5 (fX9_addFlow_k0 N)
def fX9_setRate_k28 (N : Nat) : gK :=
  s_const 2 <| s_cav gI (fX9_fails N) 3 [0, 1, 2, 3, 4, 5, 6, 7, 8, 9, 10, 11, 12, 13, 14, 15, 16, 17] <| s_if gz_eq (s_aload 0 <| s_const 65 <| s_const 11 <| s_iload 1 <| s_bin gb_mul <| s_bin gb_add <| s_const 2 <| s_bin gb_add <| s_iload 2 <| s_cav gI (fX9_become N) 3 [0, 1, 2, 3, 4, 5, 6, 7, 8, 9, 10, 11, 12, 13, 14, 15, 16, 17] <| s_iret) (s_const 0 <| s_iret)
def fX9_setRate_k0 (N : Nat) : gK :=
  s_aload 0 <| s_const 0 <| s_put gyM 9 0 <| s_aload 0 <| s_aload 0 <| s_iload 1 <| s_cav gI (fX9_isFlow N) 2 [0, 1, 2, 3, 4, 5, 6, 7, 8, 9, 10, 11, 12, 13, 14, 15, 16, 17] <| s_const 1 <| s_cav gI (fX9_fails N) 3 [0, 1, 2, 3, 4, 5, 6, 7, 8, 9, 10, 11, 12, 13, 14, 15, 16, 17] <| s_if gz_ne (s_const 0 <| s_iret) (s_aload 0 <| s_iload 2 <| s_i2l <| s_lconst 0 <| s_lconst 300 <| s_ca gI (fX9_in N) 3 [] <| s_mask [true, true, true] <| fX9_setRate_k28 N)
def fX9_setRate (N : Nat) : List Value → gM → Option (gR × gM) := gFn 3 (fX9_setRate_k0 N)
def fX9_setBudget_k28 (N : Nat) : gK :=
  s_const 2 <| s_cav gI (fX9_fails N) 3 [0, 1, 2, 3, 4, 5, 6, 7, 8, 9, 10, 11, 12, 13, 14, 15, 16, 17] <| s_if gz_eq (s_aload 0 <| s_const 65 <| s_const 11 <| s_iload 1 <| s_bin gb_mul <| s_bin gb_add <| s_const 3 <| s_bin gb_add <| s_iload 2 <| s_cav gI (fX9_become N) 3 [0, 1, 2, 3, 4, 5, 6, 7, 8, 9, 10, 11, 12, 13, 14, 15, 16, 17] <| s_iret) (s_const 0 <| s_iret)
def fX9_setBudget_k0 (N : Nat) : gK :=
  s_aload 0 <| s_const 0 <| s_put gyM 9 0 <| s_aload 0 <| s_aload 0 <| s_iload 1 <| s_cav gI (fX9_isFlow N) 2 [0, 1, 2, 3, 4, 5, 6, 7, 8, 9, 10, 11, 12, 13, 14, 15, 16, 17] <| s_const 1 <| s_cav gI (fX9_fails N) 3 [0, 1, 2, 3, 4, 5, 6, 7, 8, 9, 10, 11, 12, 13, 14, 15, 16, 17] <| s_if gz_ne (s_const 0 <| s_iret) (s_aload 0 <| s_iload 2 <| s_i2l <| s_lconst 0 <| s_lconst 200 <| s_ca gI (fX9_in N) 3 [] <| s_mask [true, true, true] <| fX9_setBudget_k28 N)
def fX9_setBudget (N : Nat) : List Value → gM → Option (gR × gM) := gFn 3 (fX9_setBudget_k0 N)
def fX9_mostOf_k0 (N : Nat) : gK :=
  s_iload 0 <| s_const 1 <| s_cmp gc_ne (s_iload 0 <| s_const 2 <| s_cmp gc_ne (s_const 1 <| s_iret) (s_const 20 <| s_iret)) (s_const 50 <| s_iret)
def fX9_mostOf (N : Nat) : List Value → gM → Option (gR × gM) := gFn 1 (fX9_mostOf_k0 N)
def fX9_set_k37 (N : Nat) : gK :=
  s_const 1 <| s_cav gI (fX9_fails N) 3 [0, 1, 2, 3, 4, 5, 6, 7, 8, 9, 10, 11, 12, 13, 14, 15, 16, 17] <| s_if gz_eq (s_aload 0 <| s_const 3 <| s_iload 1 <| s_bin gb_add <| s_iload 2 <| s_cav gI (fX9_become N) 3 [0, 1, 2, 3, 4, 5, 6, 7, 8, 9, 10, 11, 12, 13, 14, 15, 16, 17] <| s_iret) (s_const 0 <| s_iret)
def fX9_set_k36 (N : Nat) : gK :=
  s_const 0 <| s_mask [true, true, true] <| fX9_set_k37 N
def fX9_set_k29 (N : Nat) : gK :=
  s_if gz_eq (s_mask [true, true, true] <| fX9_set_k36 N) (s_const 1 <| s_mask [true, true, true] <| fX9_set_k37 N)
def fX9_set_k0 (N : Nat) : gK :=
  s_aload 0 <| s_const 0 <| s_put gyM 9 0 <| s_aload 0 <| s_iload 1 <| s_i2l <| s_lconst 0 <| s_lconst 3 <| s_ca gI (fX9_in N) 3 [] <| s_if gz_eq (s_mask [true, true, true] <| fX9_set_k36 N) (s_iload 2 <| s_i2l <| s_lconst 0 <| s_iload 1 <| s_ca gI (fX9_mostOf N) 1 [] <| s_i2l <| s_ca gI (fX9_in N) 3 [] <| s_mask [true, true, true] <| fX9_set_k29 N)
def fX9_set (N : Nat) : List Value → gM → Option (gR × gM) := gFn 3 (fX9_set_k0 N)
def fX9_inject_k28 (N : Nat) : gK :=
  s_const 2 <| s_cav gI (fX9_fails N) 3 [0, 1, 2, 3, 4, 5, 6, 7, 8, 9, 10, 11, 12, 13, 14, 15, 16, 17] <| s_if gz_eq (s_aload 0 <| s_cav gV (fX9_record N) 1 [0, 1, 2, 3, 4, 5, 6, 7, 8, 9, 10, 11, 12, 13, 14, 15, 16, 17] <| s_aload 0 <| s_iload 1 <| s_iload 2 <| s_cav gI (fX9_arrive N) 3 [0, 1, 2, 3, 4, 5, 6, 7, 8, 9, 10, 11, 12, 13, 14, 15, 16, 17] <| s_iret) (s_const 0 <| s_iret)
def fX9_inject_k0 (N : Nat) : gK :=
  s_aload 0 <| s_const 0 <| s_put gyM 9 0 <| s_aload 0 <| s_aload 0 <| s_iload 1 <| s_cav gI (fX9_isFlow N) 2 [0, 1, 2, 3, 4, 5, 6, 7, 8, 9, 10, 11, 12, 13, 14, 15, 16, 17] <| s_const 1 <| s_cav gI (fX9_fails N) 3 [0, 1, 2, 3, 4, 5, 6, 7, 8, 9, 10, 11, 12, 13, 14, 15, 16, 17] <| s_if gz_ne (s_const 0 <| s_iret) (s_aload 0 <| s_iload 2 <| s_i2l <| s_lconst 1 <| s_lconst 100 <| s_ca gI (fX9_in N) 3 [] <| s_mask [true, true, true] <| fX9_inject_k28 N)
def fX9_inject (N : Nat) : List Value → gM → Option (gR × gM) := gFn 3 (fX9_inject_k0 N)
def fX9_flush_k96 (N : Nat) (K49 : gK) : gK :=
  s_cav gV (fX9_count N) 4 [0, 1, 2, 3, 4, 5, 6, 7, 8, 9, 10, 11, 12, 13, 14, 15, 16, 17] <| s_iinc 3 1 <| s_mask [true, true, true, true] <| K49
def fX9_flush_b49 (N : Nat) : gK → gK := fun K49 =>
  s_iload 3 <| s_aload 0 <| s_get gyM 9 9 <| s_const 245 <| s_ald gyM 0 <| s_cmp gc_ge (s_aload 0 <| s_cav gI (fX9_closeUp N) 1 [0, 1, 2, 3, 4, 5, 6, 7, 8, 9, 10, 11, 12, 13, 14, 15, 16, 17] <| s_iret) (s_aload 0 <| s_get gyM 9 17 <| s_iload 3 <| s_aload 0 <| s_iload 3 <| s_iload 1 <| s_iload 2 <| s_cav gI (fX9_isQueued N) 4 [0, 1, 2, 3, 4, 5, 6, 7, 8, 9, 10, 11, 12, 13, 14, 15, 16, 17] <| s_ast gyM 1 <| s_aload 0 <| s_aload 0 <| s_iload 3 <| s_const 0 <| s_cav gI (fX9_packetPart N) 3 [0, 1, 2, 3, 4, 5, 6, 7, 8, 9, 10, 11, 12, 13, 14, 15, 16, 17] <| s_const 5 <| s_aload 0 <| s_get gyM 9 17 <| s_iload 3 <| s_ald gyM 1 <| s_if gz_eq (s_const 0 <| s_mask [true, true, true, true] <| fX9_flush_k96 N K49) (s_const 1 <| s_mask [true, true, true, true] <| fX9_flush_k96 N K49))
def fX9_flush_k49 (N : Nat) : gK := s_lp (fX9_flush_b49 N) N
def fX9_flush_k47 (N : Nat) : gK :=
  s_const 0 <| s_istore 3 <| s_mask [true, true, true, true] <| fX9_flush_k49 N
def fX9_flush_k30 (N : Nat) : gK :=
  s_const 2 <| s_cav gI (fX9_fails N) 3 [0, 1, 2, 3, 4, 5, 6, 7, 8, 9, 10, 11, 12, 13, 14, 15, 16, 17] <| s_if gz_eq (s_aload 0 <| s_cav gV (fX9_record N) 1 [0, 1, 2, 3, 4, 5, 6, 7, 8, 9, 10, 11, 12, 13, 14, 15, 16, 17] <| s_aload 0 <| s_cav gV (fX9_stayAll N) 1 [0, 1, 2, 3, 4, 5, 6, 7, 8, 9, 10, 11, 12, 13, 14, 15, 16, 17] <| s_mask [true, true, true, false] <| fX9_flush_k47 N) (s_const 0 <| s_iret)
def fX9_flush_k0 (N : Nat) : gK :=
  s_aload 0 <| s_const 0 <| s_put gyM 9 0 <| s_aload 0 <| s_aload 0 <| s_iload 1 <| s_iload 2 <| s_cav gI (fX9_areNodes N) 3 [0, 1, 2, 3, 4, 5, 6, 7, 8, 9, 10, 11, 12, 13, 14, 15, 16, 17] <| s_const 1 <| s_cav gI (fX9_fails N) 3 [0, 1, 2, 3, 4, 5, 6, 7, 8, 9, 10, 11, 12, 13, 14, 15, 16, 17] <| s_if gz_ne (s_const 0 <| s_iret) (s_aload 0 <| s_iload 1 <| s_iload 2 <| s_cmp gc_eq (s_const 0 <| s_mask [true, true, true, false] <| fX9_flush_k30 N) (s_const 1 <| s_mask [true, true, true, false] <| fX9_flush_k30 N))
def fX9_flush (N : Nat) : List Value → gM → Option (gR × gM) := gFn 4 (fX9_flush_k0 N)
def fX9_shadows_k41 (N : Nat) (K5 : gK) : gK :=
  s_lbin gb_ladd <| s_lstore 2 <| s_iinc 4 1 <| s_mask [true, true, true, false, true, false, false] <| K5
def fX9_shadows_b5 (N : Nat) : gK → gK := fun K5 =>
  s_iload 4 <| s_const 100 <| s_cmp gc_ge (s_lload 2 <| s_lret) (s_aload 0 <| s_get gyM 9 9 <| s_const 145 <| s_iload 4 <| s_bin gb_add <| s_ald gyM 0 <| s_i2l <| s_lstore 5 <| s_lload 2 <| s_iload 1 <| s_if gz_eq (s_lload 5 <| s_mask [true, true, false, false, true, false, false] <| fX9_shadows_k41 N K5) (s_lload 5 <| s_lload 5 <| s_lbin gb_lmul <| s_mask [true, true, false, false, true, false, false] <| fX9_shadows_k41 N K5))
def fX9_shadows_k5 (N : Nat) : gK := s_lp (fX9_shadows_b5 N) N
def fX9_shadows_k0 (N : Nat) : gK :=
  s_lconst 0 <| s_lstore 2 <| s_const 0 <| s_istore 4 <| s_mask [true, true, true, false, true, false, false] <| fX9_shadows_k5 N
def fX9_shadows (N : Nat) : List Value → gM → Option (gR × gM) := gFn 7 (fX9_shadows_k0 N)
def fX9_resetShadows_b18 (N : Nat) : gK → gK := fun K18 =>
  s_iload 2 <| s_const 100 <| s_cmp gc_ge (s_iload 1 <| s_iret) (s_aload 0 <| s_get gyM 9 9 <| s_const 145 <| s_iload 2 <| s_bin gb_add <| s_const 0 <| s_ast gyM 0 <| s_iinc 2 1 <| s_mask [true, true, true] <| K18)
def fX9_resetShadows_k18 (N : Nat) : gK := s_lp (fX9_resetShadows_b18 N) N
def fX9_resetShadows_k0 (N : Nat) : gK :=
  s_aload 0 <| s_const 0 <| s_put gyM 9 0 <| s_aload 0 <| s_cav gV (fX9_record N) 1 [0, 1, 2, 3, 4, 5, 6, 7, 8, 9, 10, 11, 12, 13, 14, 15, 16, 17] <| s_aload 0 <| s_const 0 <| s_cav gJ (fX9_shadows N) 2 [0, 1, 2, 3, 4, 5, 6, 7, 8, 9, 10, 11, 12, 13, 14, 15, 16, 17] <| s_l2i <| s_istore 1 <| s_const 0 <| s_istore 2 <| s_mask [true, true, true] <| fX9_resetShadows_k18 N
def fX9_resetShadows (N : Nat) : List Value → gM → Option (gR × gM) := gFn 3 (fX9_resetShadows_k0 N)
def fX9_areSlots_k0 (N : Nat) : gK :=
  s_iload 0 <| s_i2l <| s_lconst 1 <| s_lconst 50 <| s_ca gI (fX9_in N) 3 [] <| s_zret
def fX9_areSlots (N : Nat) : List Value → gM → Option (gR × gM) := gFn 1 (fX9_areSlots_k0 N)
def fX9_count__k0 (N : Nat) : gK :=
  s_aload 0 <| s_const 0 <| s_put gyM 9 0 <| s_aload 0 <| s_iload 1 <| s_i2l <| s_lconst 0 <| s_lconst 6 <| s_ca gI (fX9_in N) 3 [] <| s_const 1 <| s_cav gI (fX9_fails N) 3 [0, 1, 2, 3, 4, 5, 6, 7, 8, 9, 10, 11, 12, 13, 14, 15, 16, 17] <| s_if gz_eq (s_aload 0 <| s_get gyM 9 9 <| s_iload 1 <| s_ald gyM 0 <| s_iret) (s_const 0 <| s_iret)
def fX9_count_ (N : Nat) : List Value → gM → Option (gR × gM) := gFn 2 (fX9_count__k0 N)
def fX9_conflicts_k0 (N : Nat) : gK :=
  s_aload 0 <| s_const 0 <| s_put gyM 9 0 <| s_aload 0 <| s_aload 0 <| s_iload 1 <| s_cav gI (fX9_isLink N) 2 [0, 1, 2, 3, 4, 5, 6, 7, 8, 9, 10, 11, 12, 13, 14, 15, 16, 17] <| s_const 1 <| s_cav gI (fX9_fails N) 3 [0, 1, 2, 3, 4, 5, 6, 7, 8, 9, 10, 11, 12, 13, 14, 15, 16, 17] <| s_if gz_eq (s_aload 0 <| s_get gyM 9 9 <| s_const 131 <| s_iload 1 <| s_bin gb_add <| s_ald gyM 0 <| s_iret) (s_const 0 <| s_iret)
def fX9_conflicts (N : Nat) : List Value → gM → Option (gR × gM) := gFn 2 (fX9_conflicts_k0 N)
def fX9_flow_k28 (N : Nat) : gK :=
  s_const 2 <| s_cav gI (fX9_fails N) 3 [0, 1, 2, 3, 4, 5, 6, 7, 8, 9, 10, 11, 12, 13, 14, 15, 16, 17] <| s_if gz_eq (s_aload 0 <| s_iload 1 <| s_iload 2 <| s_cav gI (fX9_flowPart N) 3 [0, 1, 2, 3, 4, 5, 6, 7, 8, 9, 10, 11, 12, 13, 14, 15, 16, 17] <| s_iret) (s_const 0 <| s_iret)
def fX9_flow_k0 (N : Nat) : gK :=
  s_aload 0 <| s_const 0 <| s_put gyM 9 0 <| s_aload 0 <| s_aload 0 <| s_iload 1 <| s_cav gI (fX9_isFlow N) 2 [0, 1, 2, 3, 4, 5, 6, 7, 8, 9, 10, 11, 12, 13, 14, 15, 16, 17] <| s_const 1 <| s_cav gI (fX9_fails N) 3 [0, 1, 2, 3, 4, 5, 6, 7, 8, 9, 10, 11, 12, 13, 14, 15, 16, 17] <| s_if gz_ne (s_const 0 <| s_iret) (s_aload 0 <| s_iload 2 <| s_i2l <| s_lconst 0 <| s_lconst 10 <| s_ca gI (fX9_in N) 3 [] <| s_mask [true, true, true] <| fX9_flow_k28 N)
def fX9_flow (N : Nat) : List Value → gM → Option (gR × gM) := gFn 3 (fX9_flow_k0 N)
def fX9_hops_k25 (N : Nat) : gK :=
  s_aload 0 <| s_get gyM 9 18 <| s_const 10 <| s_iload 1 <| s_bin gb_mul <| s_iload 2 <| s_bin gb_add <| s_ald gyM 0 <| s_iret
def fX9_hops_k0 (N : Nat) : gK :=
  s_aload 0 <| s_const 0 <| s_put gyM 9 0 <| s_aload 0 <| s_aload 0 <| s_iload 1 <| s_iload 2 <| s_cav gI (fX9_areNodes N) 3 [0, 1, 2, 3, 4, 5, 6, 7, 8, 9, 10, 11, 12, 13, 14, 15, 16, 17] <| s_const 1 <| s_cav gI (fX9_fails N) 3 [0, 1, 2, 3, 4, 5, 6, 7, 8, 9, 10, 11, 12, 13, 14, 15, 16, 17] <| s_if gz_eq (s_aload 0 <| s_cav gV (fX9_layHops N) 1 [0, 1, 2, 3, 4, 5, 6, 7, 8, 9, 10, 11, 12, 13, 14, 15, 16, 17] <| s_mask [true, true, true] <| fX9_hops_k25 N) (s_const 0 <| s_iret)
def fX9_hops (N : Nat) : List Value → gM → Option (gR × gM) := gFn 3 (fX9_hops_k0 N)
def fX9_reach_k90 (N : Nat) (K9 : gK) (K17 : gK) : gK :=
  s_iinc 3 1 <| s_mask [true, false, true, true] <| K17
def fX9_reach_b17 (N : Nat) (K9 : gK) : gK → gK := fun K17 =>
  s_iload 3 <| s_const 100 <| s_cmp gc_ge (s_mask [true, false, true, false] <| K9) (s_aload 0 <| s_get gyM 9 29 <| s_iload 3 <| s_ald gyM 0 <| s_if gz_le (s_mask [true, false, true, true] <| fX9_reach_k90 N K9 K17) (s_aload 0 <| s_get gyM 9 30 <| s_iload 3 <| s_const 10 <| s_div gb_div <| s_ca gI (fX9_has N) 2 [] <| s_if gz_eq (s_mask [true, false, true, true] <| fX9_reach_k90 N K9 K17) (s_aload 0 <| s_get gyM 9 30 <| s_iload 3 <| s_const 10 <| s_div gb_rem <| s_ca gI (fX9_has N) 2 [] <| s_if gz_ne (s_mask [true, false, true, true] <| fX9_reach_k90 N K9 K17) (s_aload 0 <| s_dup <| s_get gyM 9 30 <| s_const 1 <| s_iload 3 <| s_const 10 <| s_div gb_rem <| s_bin gb_shl <| s_bin gb_or <| s_put gyM 9 30 <| s_aload 0 <| s_get gyM 9 31 <| s_iload 3 <| s_const 10 <| s_div gb_rem <| s_iload 3 <| s_const 10 <| s_div gb_div <| s_ast gyM 0 <| s_const 1 <| s_istore 2 <| s_mask [true, false, true, true] <| fX9_reach_k90 N K9 K17))))
def fX9_reach_k17 (N : Nat) (K9 : gK) : gK := s_lp (fX9_reach_b17 N K9) N
def fX9_reach_b9 (N : Nat) : gK → gK := fun K9 =>
  s_iload 2 <| s_if gz_eq (s_vret) (s_const 0 <| s_istore 2 <| s_const 0 <| s_istore 3 <| s_mask [true, false, true, true] <| fX9_reach_k17 N K9)
def fX9_reach_k9 (N : Nat) : gK := s_lp (fX9_reach_b9 N) N
def fX9_reach_k0 (N : Nat) : gK :=
  s_aload 0 <| s_const 1 <| s_iload 1 <| s_bin gb_shl <| s_put gyM 9 30 <| s_const 1 <| s_istore 2 <| s_mask [true, false, true, false] <| fX9_reach_k9 N
def fX9_reach (N : Nat) : List Value → gM → Option (gR × gM) := gFn 4 (fX9_reach_k0 N)
def fX9_greatestFlow_b87 (N : Nat) (K73 : gK) : gK → gK := fun K87 =>
  s_iload 4 <| s_iload 1 <| s_cmp gc_eq (s_iinc 3 1 <| s_aload 0 <| s_iload 1 <| s_cav gV (fX9_reach N) 2 [0, 1, 2, 3, 4, 5, 6, 7, 8, 9, 10, 11, 12, 13, 14, 15, 16, 17] <| s_mask [true, true, true, true, false] <| K73) (s_aload 0 <| s_get gyM 9 29 <| s_const 10 <| s_aload 0 <| s_get gyM 9 31 <| s_iload 4 <| s_ald gyM 0 <| s_bin gb_mul <| s_iload 4 <| s_bin gb_add <| s_dup2 <| s_ald gyM 0 <| s_const 1 <| s_bin gb_sub <| s_ast gyM 0 <| s_aload 0 <| s_get gyM 9 29 <| s_const 10 <| s_iload 4 <| s_bin gb_mul <| s_aload 0 <| s_get gyM 9 31 <| s_iload 4 <| s_ald gyM 0 <| s_bin gb_add <| s_dup2 <| s_ald gyM 0 <| s_const 1 <| s_bin gb_add <| s_ast gyM 0 <| s_aload 0 <| s_get gyM 9 31 <| s_iload 4 <| s_ald gyM 0 <| s_istore 4 <| s_mask [true, true, true, true, true] <| K87)
def fX9_greatestFlow_k87 (N : Nat) (K73 : gK) : gK := s_lp (fX9_greatestFlow_b87 N K73) N
def fX9_greatestFlow_b73 (N : Nat) : gK → gK := fun K73 =>
  s_aload 0 <| s_get gyM 9 30 <| s_iload 2 <| s_ca gI (fX9_has N) 2 [] <| s_if gz_eq (s_iload 3 <| s_iret) (s_iload 2 <| s_istore 4 <| s_mask [true, true, true, true, true] <| fX9_greatestFlow_k87 N K73)
def fX9_greatestFlow_k73 (N : Nat) : gK := s_lp (fX9_greatestFlow_b73 N) N
def fX9_greatestFlow_k59 (N : Nat) (K23 : gK) : gK :=
  s_ast gyM 0 <| s_iinc 3 1 <| s_mask [true, true, true, true, false] <| K23
def fX9_greatestFlow_b23 (N : Nat) : gK → gK := fun K23 =>
  s_iload 3 <| s_aload 0 <| s_get gyM 9 9 <| s_const 1 <| s_ald gyM 0 <| s_cmp gc_ge (s_const 0 <| s_istore 3 <| s_aload 0 <| s_iload 1 <| s_cav gV (fX9_reach N) 2 [0, 1, 2, 3, 4, 5, 6, 7, 8, 9, 10, 11, 12, 13, 14, 15, 16, 17] <| s_mask [true, true, true, true, false] <| fX9_greatestFlow_k73 N) (s_aload 0 <| s_get gyM 9 29 <| s_const 10 <| s_aload 0 <| s_iload 3 <| s_const 0 <| s_cav gI (fX9_linkPart N) 3 [0, 1, 2, 3, 4, 5, 6, 7, 8, 9, 10, 11, 12, 13, 14, 15, 16, 17] <| s_bin gb_mul <| s_aload 0 <| s_iload 3 <| s_const 1 <| s_cav gI (fX9_linkPart N) 3 [0, 1, 2, 3, 4, 5, 6, 7, 8, 9, 10, 11, 12, 13, 14, 15, 16, 17] <| s_bin gb_add <| s_aload 0 <| s_iload 3 <| s_const 2 <| s_cav gI (fX9_linkPart N) 3 [0, 1, 2, 3, 4, 5, 6, 7, 8, 9, 10, 11, 12, 13, 14, 15, 16, 17] <| s_mask [true, true, true, true, false] <| fX9_greatestFlow_k59 N K23)
def fX9_greatestFlow_k23 (N : Nat) : gK := s_lp (fX9_greatestFlow_b23 N) N
def fX9_greatestFlow_b2 (N : Nat) : gK → gK := fun K2 =>
  s_iload 3 <| s_const 100 <| s_cmp gc_ge (s_const 0 <| s_istore 3 <| s_mask [true, true, true, true, false] <| fX9_greatestFlow_k23 N) (s_aload 0 <| s_get gyM 9 29 <| s_iload 3 <| s_const 0 <| s_ast gyM 0 <| s_iinc 3 1 <| s_mask [true, true, true, true, false] <| K2)
def fX9_greatestFlow_k2 (N : Nat) : gK := s_lp (fX9_greatestFlow_b2 N) N
def fX9_greatestFlow_k0 (N : Nat) : gK :=
  s_const 0 <| s_istore 3 <| s_mask [true, true, true, true, false] <| fX9_greatestFlow_k2 N
def fX9_greatestFlow (N : Nat) : List Value → gM → Option (gR × gM) := gFn 5 (fX9_greatestFlow_k0 N)
def fX9_maxFlow_k37 (N : Nat) : gK :=
  s_const 0 <| s_iret
def fX9_maxFlow_k30 (N : Nat) : gK :=
  s_const 2 <| s_cav gI (fX9_fails N) 3 [0, 1, 2, 3, 4, 5, 6, 7, 8, 9, 10, 11, 12, 13, 14, 15, 16, 17] <| s_if gz_eq (s_aload 0 <| s_iload 1 <| s_iload 2 <| s_cav gI (fX9_greatestFlow N) 3 [0, 1, 2, 3, 4, 5, 6, 7, 8, 9, 10, 11, 12, 13, 14, 15, 16, 17] <| s_iret) (s_mask [false, false, false] <| fX9_maxFlow_k37 N)
def fX9_maxFlow_k0 (N : Nat) : gK :=
  s_aload 0 <| s_const 0 <| s_put gyM 9 0 <| s_aload 0 <| s_aload 0 <| s_iload 1 <| s_iload 2 <| s_cav gI (fX9_areNodes N) 3 [0, 1, 2, 3, 4, 5, 6, 7, 8, 9, 10, 11, 12, 13, 14, 15, 16, 17] <| s_const 1 <| s_cav gI (fX9_fails N) 3 [0, 1, 2, 3, 4, 5, 6, 7, 8, 9, 10, 11, 12, 13, 14, 15, 16, 17] <| s_if gz_ne (s_mask [false, false, false] <| fX9_maxFlow_k37 N) (s_aload 0 <| s_iload 1 <| s_iload 2 <| s_cmp gc_eq (s_const 0 <| s_mask [true, true, true] <| fX9_maxFlow_k30 N) (s_const 1 <| s_mask [true, true, true] <| fX9_maxFlow_k30 N))
def fX9_maxFlow (N : Nat) : List Value → gM → Option (gR × gM) := gFn 3 (fX9_maxFlow_k0 N)
def fX9_cutSide_k30 (N : Nat) : gK :=
  s_const 2 <| s_cav gI (fX9_fails N) 3 [0, 1, 2, 3, 4, 5, 6, 7, 8, 9, 10, 11, 12, 13, 14, 15, 16, 17] <| s_if gz_eq (s_aload 0 <| s_iload 1 <| s_iload 2 <| s_cav gI (fX9_greatestFlow N) 3 [0, 1, 2, 3, 4, 5, 6, 7, 8, 9, 10, 11, 12, 13, 14, 15, 16, 17] <| s_istore 3 <| s_aload 0 <| s_get gyM 9 30 <| s_iret) (s_const 0 <| s_iret)
def fX9_cutSide_k0 (N : Nat) : gK :=
  s_aload 0 <| s_const 0 <| s_put gyM 9 0 <| s_aload 0 <| s_aload 0 <| s_iload 1 <| s_iload 2 <| s_cav gI (fX9_areNodes N) 3 [0, 1, 2, 3, 4, 5, 6, 7, 8, 9, 10, 11, 12, 13, 14, 15, 16, 17] <| s_const 1 <| s_cav gI (fX9_fails N) 3 [0, 1, 2, 3, 4, 5, 6, 7, 8, 9, 10, 11, 12, 13, 14, 15, 16, 17] <| s_if gz_ne (s_const 0 <| s_iret) (s_aload 0 <| s_iload 1 <| s_iload 2 <| s_cmp gc_eq (s_const 0 <| s_mask [true, true, true, false] <| fX9_cutSide_k30 N) (s_const 1 <| s_mask [true, true, true, false] <| fX9_cutSide_k30 N))
def fX9_cutSide (N : Nat) : List Value → gM → Option (gR × gM) := gFn 4 (fX9_cutSide_k0 N)
def fX9_overloaded_k55 (N : Nat) (K9 : gK) : gK :=
  s_bin gb_or <| s_istore 1 <| s_iinc 2 1 <| s_mask [true, true, true] <| K9
def fX9_overloaded_k41 (N : Nat) (K9 : gK) : gK :=
  s_cav gI (fX9_greatestFlow N) 3 [0, 1, 2, 3, 4, 5, 6, 7, 8, 9, 10, 11, 12, 13, 14, 15, 16, 17] <| s_bin gb_mul <| s_cmp gc_le (s_const 0 <| s_mask [true, false, true] <| fX9_overloaded_k55 N K9) (s_const 1 <| s_iload 2 <| s_bin gb_shl <| s_mask [true, false, true] <| fX9_overloaded_k55 N K9)
def fX9_overloaded_b9 (N : Nat) : gK → gK := fun K9 =>
  s_iload 2 <| s_aload 0 <| s_get gyM 9 9 <| s_const 2 <| s_ald gyM 0 <| s_cmp gc_ge (s_iload 1 <| s_iret) (s_iload 1 <| s_aload 0 <| s_iload 2 <| s_const 2 <| s_cav gI (fX9_flowPart N) 3 [0, 1, 2, 3, 4, 5, 6, 7, 8, 9, 10, 11, 12, 13, 14, 15, 16, 17] <| s_const 100 <| s_aload 0 <| s_aload 0 <| s_iload 2 <| s_const 0 <| s_cav gI (fX9_flowPart N) 3 [0, 1, 2, 3, 4, 5, 6, 7, 8, 9, 10, 11, 12, 13, 14, 15, 16, 17] <| s_aload 0 <| s_iload 2 <| s_const 1 <| s_cav gI (fX9_flowPart N) 3 [0, 1, 2, 3, 4, 5, 6, 7, 8, 9, 10, 11, 12, 13, 14, 15, 16, 17] <| s_mask [true, false, true] <| fX9_overloaded_k41 N K9)
def fX9_overloaded_k9 (N : Nat) : gK := s_lp (fX9_overloaded_b9 N) N
def fX9_overloaded_k0 (N : Nat) : gK :=
  s_aload 0 <| s_const 0 <| s_put gyM 9 0 <| s_const 0 <| s_istore 1 <| s_const 0 <| s_istore 2 <| s_mask [true, true, true] <| fX9_overloaded_k9 N
def fX9_overloaded (N : Nat) : List Value → gM → Option (gR × gM) := gFn 3 (fX9_overloaded_k0 N)
def fX9_queue_k37 (N : Nat) : gK :=
  s_const 0 <| s_iret
def fX9_queue_k30 (N : Nat) : gK :=
  s_const 2 <| s_cav gI (fX9_fails N) 3 [0, 1, 2, 3, 4, 5, 6, 7, 8, 9, 10, 11, 12, 13, 14, 15, 16, 17] <| s_if gz_eq (s_aload 0 <| s_iload 1 <| s_iload 2 <| s_cav gI (fX9_queued N) 3 [0, 1, 2, 3, 4, 5, 6, 7, 8, 9, 10, 11, 12, 13, 14, 15, 16, 17] <| s_iret) (s_mask [false, false, false] <| fX9_queue_k37 N)
def fX9_queue_k0 (N : Nat) : gK :=
  s_aload 0 <| s_const 0 <| s_put gyM 9 0 <| s_aload 0 <| s_aload 0 <| s_iload 1 <| s_iload 2 <| s_cav gI (fX9_areNodes N) 3 [0, 1, 2, 3, 4, 5, 6, 7, 8, 9, 10, 11, 12, 13, 14, 15, 16, 17] <| s_const 1 <| s_cav gI (fX9_fails N) 3 [0, 1, 2, 3, 4, 5, 6, 7, 8, 9, 10, 11, 12, 13, 14, 15, 16, 17] <| s_if gz_ne (s_mask [false, false, false] <| fX9_queue_k37 N) (s_aload 0 <| s_iload 1 <| s_iload 2 <| s_cmp gc_eq (s_const 0 <| s_mask [true, true, true] <| fX9_queue_k30 N) (s_const 1 <| s_mask [true, true, true] <| fX9_queue_k30 N))
def fX9_queue (N : Nat) : List Value → gM → Option (gR × gM) := gFn 3 (fX9_queue_k0 N)
def fX9_shadow_k37 (N : Nat) : gK :=
  s_const 0 <| s_iret
def fX9_shadow_k30 (N : Nat) : gK :=
  s_const 2 <| s_cav gI (fX9_fails N) 3 [0, 1, 2, 3, 4, 5, 6, 7, 8, 9, 10, 11, 12, 13, 14, 15, 16, 17] <| s_if gz_eq (s_aload 0 <| s_iload 1 <| s_iload 2 <| s_cav gI (fX9_shadowOf N) 3 [0, 1, 2, 3, 4, 5, 6, 7, 8, 9, 10, 11, 12, 13, 14, 15, 16, 17] <| s_iret) (s_mask [false, false, false] <| fX9_shadow_k37 N)
def fX9_shadow_k0 (N : Nat) : gK :=
  s_aload 0 <| s_const 0 <| s_put gyM 9 0 <| s_aload 0 <| s_aload 0 <| s_iload 1 <| s_iload 2 <| s_cav gI (fX9_areNodes N) 3 [0, 1, 2, 3, 4, 5, 6, 7, 8, 9, 10, 11, 12, 13, 14, 15, 16, 17] <| s_const 1 <| s_cav gI (fX9_fails N) 3 [0, 1, 2, 3, 4, 5, 6, 7, 8, 9, 10, 11, 12, 13, 14, 15, 16, 17] <| s_if gz_ne (s_mask [false, false, false] <| fX9_shadow_k37 N) (s_aload 0 <| s_iload 1 <| s_iload 2 <| s_cmp gc_eq (s_const 0 <| s_mask [true, true, true] <| fX9_shadow_k30 N) (s_const 1 <| s_mask [true, true, true] <| fX9_shadow_k30 N))
def fX9_shadow (N : Nat) : List Value → gM → Option (gR × gM) := gFn 3 (fX9_shadow_k0 N)
def fX9_packet_k109 (N : Nat) : gK :=
  s_aload 0 <| s_const 3 <| s_put gyM 9 0 <| s_const 0 <| s_iret
def fX9_packet_k103 (N : Nat) (K58 : gK) : gK :=
  s_iinc 6 1 <| s_mask [true, true, true, true, true, true, true] <| K58
def fX9_packet_b58 (N : Nat) : gK → gK := fun K58 =>
  s_iload 6 <| s_aload 0 <| s_get gyM 9 9 <| s_const 245 <| s_ald gyM 0 <| s_cmp gc_ge (s_mask [true, false, false, false, false, false, false] <| fX9_packet_k109 N) (s_iload 3 <| s_if gz_lt (s_mask [true, false, false, false, false, false, false] <| fX9_packet_k109 N) (s_aload 0 <| s_iload 6 <| s_iload 1 <| s_iload 2 <| s_cav gI (fX9_isQueued N) 4 [0, 1, 2, 3, 4, 5, 6, 7, 8, 9, 10, 11, 12, 13, 14, 15, 16, 17] <| s_if gz_eq (s_mask [true, true, true, true, true, true, true] <| fX9_packet_k103 N K58) (s_iload 5 <| s_if gz_ne (s_iinc 5 (-1) <| s_mask [true, true, true, true, true, true, true] <| fX9_packet_k103 N K58) (s_aload 0 <| s_iload 6 <| s_iload 4 <| s_cav gI (fX9_packetPart N) 3 [0, 1, 2, 3, 4, 5, 6, 7, 8, 9, 10, 11, 12, 13, 14, 15, 16, 17] <| s_iret))))
def fX9_packet_k58 (N : Nat) : gK := s_lp (fX9_packet_b58 N) N
def fX9_packet_k43 (N : Nat) : gK :=
  s_const 2 <| s_cav gI (fX9_fails N) 3 [0, 1, 2, 3, 4, 5, 6, 7, 8, 9, 10, 11, 12, 13, 14, 15, 16, 17] <| s_if gz_eq (s_iload 3 <| s_istore 5 <| s_const 0 <| s_istore 6 <| s_mask [true, true, true, true, true, true, true] <| fX9_packet_k58 N) (s_const 0 <| s_iret)
def fX9_packet_k42 (N : Nat) : gK :=
  s_const 0 <| s_mask [true, true, true, true, true, false, false] <| fX9_packet_k43 N
def fX9_packet_k35 (N : Nat) : gK :=
  s_if gz_eq (s_mask [true, true, true, true, true, false, false] <| fX9_packet_k42 N) (s_const 1 <| s_mask [true, true, true, true, true, false, false] <| fX9_packet_k43 N)
def fX9_packet_k0 (N : Nat) : gK :=
  s_aload 0 <| s_const 0 <| s_put gyM 9 0 <| s_aload 0 <| s_aload 0 <| s_iload 1 <| s_iload 2 <| s_cav gI (fX9_areNodes N) 3 [0, 1, 2, 3, 4, 5, 6, 7, 8, 9, 10, 11, 12, 13, 14, 15, 16, 17] <| s_const 1 <| s_cav gI (fX9_fails N) 3 [0, 1, 2, 3, 4, 5, 6, 7, 8, 9, 10, 11, 12, 13, 14, 15, 16, 17] <| s_if gz_ne (s_const 0 <| s_iret) (s_aload 0 <| s_iload 1 <| s_iload 2 <| s_cmp gc_eq (s_mask [true, true, true, true, true, false, false] <| fX9_packet_k42 N) (s_iload 4 <| s_i2l <| s_lconst 0 <| s_lconst 3 <| s_ca gI (fX9_in N) 3 [] <| s_mask [true, true, true, true, true, false, false] <| fX9_packet_k35 N))
def fX9_packet (N : Nat) : List Value → gM → Option (gR × gM) := gFn 7 (fX9_packet_k0 N)
def fX9_squares_b17 (N : Nat) (K4 : gK) : gK → gK := fun K17 =>
  s_iload 4 <| s_aload 0 <| s_get gyM 9 9 <| s_const 0 <| s_ald gyM 0 <| s_cmp gc_ge (s_iinc 3 1 <| s_mask [true, true, false, true, false, false, false] <| K4) (s_aload 0 <| s_iload 3 <| s_iload 4 <| s_cav gI (fX9_queued N) 3 [0, 1, 2, 3, 4, 5, 6, 7, 8, 9, 10, 11, 12, 13, 14, 15, 16, 17] <| s_i2l <| s_lstore 5 <| s_lload 1 <| s_lload 5 <| s_lload 5 <| s_lbin gb_lmul <| s_lbin gb_ladd <| s_lstore 1 <| s_iinc 4 1 <| s_mask [true, true, false, true, true, false, false] <| K17)
def fX9_squares_k17 (N : Nat) (K4 : gK) : gK := s_lp (fX9_squares_b17 N K4) N
def fX9_squares_b4 (N : Nat) : gK → gK := fun K4 =>
  s_iload 3 <| s_aload 0 <| s_get gyM 9 9 <| s_const 0 <| s_ald gyM 0 <| s_cmp gc_ge (s_lload 1 <| s_lret) (s_const 0 <| s_istore 4 <| s_mask [true, true, false, true, true, false, false] <| fX9_squares_k17 N K4)
def fX9_squares_k4 (N : Nat) : gK := s_lp (fX9_squares_b4 N) N
def fX9_squares_k0 (N : Nat) : gK :=
  s_lconst 0 <| s_lstore 1 <| s_const 0 <| s_istore 3 <| s_mask [true, true, false, true, false, false, false] <| fX9_squares_k4 N
def fX9_squares (N : Nat) : List Value → gM → Option (gR × gM) := gFn 7 (fX9_squares_k0 N)
def fX9_totalOf_k0 (N : Nat) : gK :=
  s_iload 1 <| s_tab 0 4 (s_aload 0 <| s_const 1 <| s_cav gJ (fX9_shadows N) 2 [0, 1, 2, 3, 4, 5, 6, 7, 8, 9, 10, 11, 12, 13, 14, 15, 16, 17] <| s_lret) [s_aload 0 <| s_get gyM 9 9 <| s_const 7 <| s_ald gyM 0 <| s_i2l <| s_lret, s_aload 0 <| s_get gyM 9 9 <| s_const 245 <| s_ald gyM 0 <| s_i2l <| s_lret, s_aload 0 <| s_get gyM 9 9 <| s_const 8 <| s_ald gyM 0 <| s_i2l <| s_lret, s_aload 0 <| s_const 0 <| s_cav gJ (fX9_shadows N) 2 [0, 1, 2, 3, 4, 5, 6, 7, 8, 9, 10, 11, 12, 13, 14, 15, 16, 17] <| s_lret, s_aload 0 <| s_cav gJ (fX9_squares N) 1 [0, 1, 2, 3, 4, 5, 6, 7, 8, 9, 10, 11, 12, 13, 14, 15, 16, 17] <| s_lret]
def fX9_totalOf (N : Nat) : List Value → gM → Option (gR × gM) := gFn 2 (fX9_totalOf_k0 N)
def fX9_total_k0 (N : Nat) : gK :=
  s_aload 0 <| s_const 0 <| s_put gyM 9 0 <| s_aload 0 <| s_iload 1 <| s_i2l <| s_lconst 0 <| s_lconst 5 <| s_ca gI (fX9_in N) 3 [] <| s_const 1 <| s_cav gI (fX9_fails N) 3 [0, 1, 2, 3, 4, 5, 6, 7, 8, 9, 10, 11, 12, 13, 14, 15, 16, 17] <| s_if gz_eq (s_aload 0 <| s_iload 1 <| s_cav gJ (fX9_totalOf N) 2 [0, 1, 2, 3, 4, 5, 6, 7, 8, 9, 10, 11, 12, 13, 14, 15, 16, 17] <| s_lret) (s_lconst 0 <| s_lret)
def fX9_total (N : Nat) : List Value → gM → Option (gR × gM) := gFn 2 (fX9_total_k0 N)
def fX9_fullest_k92 (N : Nat) : gK :=
  s_const 1 <| s_cav gI (fX9_fails N) 3 [0, 1, 2, 3, 4, 5, 6, 7, 8, 9, 10, 11, 12, 13, 14, 15, 16, 17] <| s_if gz_eq (s_iload 1 <| s_iret) (s_const 0 <| s_iret)
def fX9_fullest_k61 (N : Nat) (K11 : gK) (K24 : gK) : gK :=
  s_istore 1 <| s_iload 2 <| s_iload 5 <| s_jmath gj_max <| s_istore 2 <| s_iinc 4 1 <| s_mask [true, true, true, true, true, false] <| K24
def fX9_fullest_b24 (N : Nat) (K11 : gK) : gK → gK := fun K24 =>
  s_iload 4 <| s_aload 0 <| s_get gyM 9 9 <| s_const 0 <| s_ald gyM 0 <| s_cmp gc_ge (s_iinc 3 1 <| s_mask [true, true, true, true, false, false] <| K11) (s_aload 0 <| s_iload 3 <| s_iload 4 <| s_cav gI (fX9_queued N) 3 [0, 1, 2, 3, 4, 5, 6, 7, 8, 9, 10, 11, 12, 13, 14, 15, 16, 17] <| s_istore 5 <| s_iload 5 <| s_iload 2 <| s_cmp gc_le (s_iload 1 <| s_mask [true, false, true, true, true, true] <| fX9_fullest_k61 N K11 K24) (s_const 100 <| s_iload 3 <| s_bin gb_mul <| s_iload 4 <| s_bin gb_add <| s_mask [true, false, true, true, true, true] <| fX9_fullest_k61 N K11 K24))
def fX9_fullest_k24 (N : Nat) (K11 : gK) : gK := s_lp (fX9_fullest_b24 N K11) N
def fX9_fullest_b11 (N : Nat) : gK → gK := fun K11 =>
  s_iload 3 <| s_aload 0 <| s_get gyM 9 9 <| s_const 0 <| s_ald gyM 0 <| s_cmp gc_ge (s_aload 0 <| s_iload 1 <| s_const (-1) <| s_cmp gc_eq (s_const 0 <| s_mask [false, true, false, false, false, false] <| fX9_fullest_k92 N) (s_const 1 <| s_mask [false, true, false, false, false, false] <| fX9_fullest_k92 N)) (s_const 0 <| s_istore 4 <| s_mask [true, true, true, true, true, false] <| fX9_fullest_k24 N K11)
def fX9_fullest_k11 (N : Nat) : gK := s_lp (fX9_fullest_b11 N) N
def fX9_fullest_k0 (N : Nat) : gK :=
  s_aload 0 <| s_const 0 <| s_put gyM 9 0 <| s_const (-1) <| s_istore 1 <| s_const 0 <| s_istore 2 <| s_const 0 <| s_istore 3 <| s_mask [true, true, true, true, false, false] <| fX9_fullest_k11 N
def fX9_fullest (N : Nat) : List Value → gM → Option (gR × gM) := gFn 6 (fX9_fullest_k0 N)
def fX9_urgent_k94 (N : Nat) : gK :=
  s_const 1 <| s_cav gI (fX9_fails N) 3 [0, 1, 2, 3, 4, 5, 6, 7, 8, 9, 10, 11, 12, 13, 14, 15, 16, 17] <| s_if gz_eq (s_iload 1 <| s_iret) (s_const 0 <| s_iret)
def fX9_urgent_k76 (N : Nat) (K9 : gK) : gK :=
  s_istore 1 <| s_iinc 2 1 <| s_mask [true, true, true, false, false] <| K9
def fX9_urgent_k75 (N : Nat) (K9 : gK) : gK :=
  s_iload 1 <| s_mask [true, false, true, false, false] <| fX9_urgent_k76 N K9
def fX9_urgent_k70 (N : Nat) (K9 : gK) : gK :=
  s_iload 4 <| s_mask [true, false, true, false, false] <| fX9_urgent_k76 N K9
def fX9_urgent_k40 (N : Nat) (K9 : gK) : gK :=
  s_iload 3 <| s_bin gb_add <| s_aload 0 <| s_get gyM 9 9 <| s_const 7 <| s_ald gyM 0 <| s_bin gb_sub <| s_jmath gj_max <| s_istore 4 <| s_iload 3 <| s_if gz_le (s_mask [true, true, true, false, false] <| fX9_urgent_k75 N K9) (s_iload 1 <| s_const (-1) <| s_cmp gc_eq (s_mask [true, false, true, false, true] <| fX9_urgent_k70 N K9) (s_iload 4 <| s_iload 1 <| s_cmp gc_ge (s_mask [true, true, true, false, false] <| fX9_urgent_k75 N K9) (s_mask [true, false, true, false, true] <| fX9_urgent_k70 N K9)))
def fX9_urgent_b9 (N : Nat) : gK → gK := fun K9 =>
  s_iload 2 <| s_aload 0 <| s_get gyM 9 9 <| s_const 245 <| s_ald gyM 0 <| s_cmp gc_ge (s_aload 0 <| s_iload 1 <| s_const (-1) <| s_cmp gc_eq (s_const 0 <| s_mask [false, true, false, false, false] <| fX9_urgent_k94 N) (s_const 1 <| s_mask [false, true, false, false, false] <| fX9_urgent_k94 N)) (s_aload 0 <| s_aload 0 <| s_iload 2 <| s_const 0 <| s_cav gI (fX9_packetPart N) 3 [0, 1, 2, 3, 4, 5, 6, 7, 8, 9, 10, 11, 12, 13, 14, 15, 16, 17] <| s_const 3 <| s_cav gI (fX9_flowPart N) 3 [0, 1, 2, 3, 4, 5, 6, 7, 8, 9, 10, 11, 12, 13, 14, 15, 16, 17] <| s_istore 3 <| s_const 0 <| s_aload 0 <| s_iload 2 <| s_const 1 <| s_cav gI (fX9_packetPart N) 3 [0, 1, 2, 3, 4, 5, 6, 7, 8, 9, 10, 11, 12, 13, 14, 15, 16, 17] <| s_mask [true, true, true, true, false] <| fX9_urgent_k40 N K9)
def fX9_urgent_k9 (N : Nat) : gK := s_lp (fX9_urgent_b9 N) N
def fX9_urgent_k0 (N : Nat) : gK :=
  s_aload 0 <| s_const 0 <| s_put gyM 9 0 <| s_const (-1) <| s_istore 1 <| s_const 0 <| s_istore 2 <| s_mask [true, true, true, false, false] <| fX9_urgent_k9 N
def fX9_urgent (N : Nat) : List Value → gM → Option (gR × gM) := gFn 5 (fX9_urgent_k0 N)
def fX9_sumOf_b4 (N : Nat) : gK → gK := fun K4 =>
  s_iload 3 <| s_aload 0 <| s_get gyM 9 9 <| s_const 2 <| s_ald gyM 0 <| s_cmp gc_ge (s_iload 2 <| s_iret) (s_iload 2 <| s_aload 0 <| s_iload 3 <| s_iload 1 <| s_cav gI (fX9_flowPart N) 3 [0, 1, 2, 3, 4, 5, 6, 7, 8, 9, 10, 11, 12, 13, 14, 15, 16, 17] <| s_bin gb_add <| s_istore 2 <| s_iinc 3 1 <| s_mask [true, true, true, true] <| K4)
def fX9_sumOf_k4 (N : Nat) : gK := s_lp (fX9_sumOf_b4 N) N
def fX9_sumOf_k0 (N : Nat) : gK :=
  s_const 0 <| s_istore 2 <| s_const 0 <| s_istore 3 <| s_mask [true, true, true, true] <| fX9_sumOf_k4 N
def fX9_sumOf (N : Nat) : List Value → gM → Option (gR × gM) := gFn 4 (fX9_sumOf_k0 N)
def fX9_search_k112 (N : Nat) (g : List Value → gM → Option (gR × gM)) : gK :=
  s_iload 5 <| s_if gz_eq (s_vret) (s_aload 0 <| s_iload 1 <| s_const 1 <| s_bin gb_sub <| s_iload 2 <| s_const 1 <| s_iload 1 <| s_bin gb_shl <| s_bin gb_or <| s_iload 3 <| s_aload 0 <| s_get gyM 9 22 <| s_iload 1 <| s_ald gyM 0 <| s_bin gb_add <| s_iload 6 <| s_cav gV (g) 5 [0, 1, 2, 3, 4, 5, 6, 7, 8, 9, 10, 11, 12, 13, 14, 15, 16, 17] <| s_vret)
def fX9_search_k94 (N : Nat) (g : List Value → gM → Option (gR × gM)) : gK :=
  s_istore 7 <| s_iload 7 <| s_if gz_ne (s_mask [true, true, true, true, false, true, true, false] <| fX9_search_k112 N g) (s_aload 0 <| s_iload 1 <| s_const 1 <| s_bin gb_sub <| s_iload 2 <| s_iload 3 <| s_iload 6 <| s_cav gV (g) 5 [0, 1, 2, 3, 4, 5, 6, 7, 8, 9, 10, 11, 12, 13, 14, 15, 16, 17] <| s_mask [true, true, true, true, false, true, true, false] <| fX9_search_k112 N g)
def fX9_search_k93 (N : Nat) (g : List Value → gM → Option (gR × gM)) : gK :=
  s_const 0 <| s_mask [true, true, true, true, false, true, true, false] <| fX9_search_k94 N g
def fX9_search_k63 (N : Nat) (g : List Value → gM → Option (gR × gM)) : gK :=
  s_istore 5 <| s_iload 4 <| s_aload 0 <| s_get gyM 9 22 <| s_iload 1 <| s_ald gyM 0 <| s_bin gb_sub <| s_istore 6 <| s_iload 5 <| s_if gz_eq (s_mask [true, true, true, true, false, true, true, false] <| fX9_search_k93 N g) (s_aload 0 <| s_iload 1 <| s_cav gI (fX9_hasRival N) 2 [0, 1, 2, 3, 4, 5, 6, 7, 8, 9, 10, 11, 12, 13, 14, 15, 16, 17] <| s_if gz_ne (s_mask [true, true, true, true, false, true, true, false] <| fX9_search_k93 N g) (s_const 1 <| s_mask [true, true, true, true, false, true, true, false] <| fX9_search_k94 N g))
def fX9_search_k62 (N : Nat) (g : List Value → gM → Option (gR × gM)) : gK :=
  s_const 0 <| s_mask [true, true, true, true, true, false, false, false] <| fX9_search_k63 N g
def fX9_search_k19 (N : Nat) (g : List Value → gM → Option (gR × gM)) : gK :=
  s_iload 1 <| s_if gz_ge (s_aload 0 <| s_get gyM 9 22 <| s_iload 1 <| s_ald gyM 0 <| s_if gz_le (s_mask [true, true, true, true, true, false, false, false] <| fX9_search_k62 N g) (s_aload 0 <| s_get gyM 9 9 <| s_const 131 <| s_iload 1 <| s_bin gb_add <| s_ald gyM 0 <| s_iload 2 <| s_bin gb_and <| s_if gz_ne (s_mask [true, true, true, true, true, false, false, false] <| fX9_search_k62 N g) (s_const 1 <| s_mask [true, true, true, true, true, false, false, false] <| fX9_search_k63 N g))) (s_aload 0 <| s_iload 2 <| s_put gyM 9 23 <| s_aload 0 <| s_iload 3 <| s_put gyM 9 24 <| s_vret)
def fX9_search_k0 (N : Nat) (g : List Value → gM → Option (gR × gM)) : gK :=
  s_iload 3 <| s_iload 4 <| s_bin gb_add <| s_aload 0 <| s_get gyM 9 24 <| s_cmp gc_gt (s_mask [true, true, true, true, true, false, false, false] <| fX9_search_k19 N g) (s_aload 0 <| s_get gyM 9 24 <| s_if gz_lt (s_mask [true, true, true, true, true, false, false, false] <| fX9_search_k19 N g) (s_vret))
def fX9_search (N : Nat) : Nat → List Value → gM → Option (gR × gM)
  | 0 => fun _ _ => none
  | d + 1 => gFn 8 (fX9_search_k0 N (fX9_search N d))
def fX9_exact_b4 (N : Nat) : gK → gK := fun K4 =>
  s_iload 2 <| s_aload 0 <| s_get gyM 9 9 <| s_const 1 <| s_ald gyM 0 <| s_cmp gc_ge (s_aload 0 <| s_const 0 <| s_put gyM 9 23 <| s_aload 0 <| s_const (-1) <| s_put gyM 9 24 <| s_aload 0 <| s_aload 0 <| s_get gyM 9 9 <| s_const 1 <| s_ald gyM 0 <| s_const 1 <| s_bin gb_sub <| s_const 0 <| s_const 0 <| s_iload 1 <| s_cav gV (fX9_search N 16) 5 [0, 1, 2, 3, 4, 5, 6, 7, 8, 9, 10, 11, 12, 13, 14, 15, 16, 17] <| s_aload 0 <| s_get gyM 9 23 <| s_iret) (s_iload 1 <| s_aload 0 <| s_get gyM 9 22 <| s_iload 2 <| s_ald gyM 0 <| s_bin gb_add <| s_istore 1 <| s_iinc 2 1 <| s_mask [true, true, true] <| K4)
def fX9_exact_k4 (N : Nat) : gK := s_lp (fX9_exact_b4 N) N
def fX9_exact_k0 (N : Nat) : gK :=
  s_const 0 <| s_istore 1 <| s_const 0 <| s_istore 2 <| s_mask [true, true, true] <| fX9_exact_k4 N
def fX9_exact (N : Nat) : List Value → gM → Option (gR × gM) := gFn 3 (fX9_exact_k0 N)
def fX9_scheduleBy_k0 (N : Nat) : gK :=
  s_aload 0 <| s_cav gV (fX9_layWeights N) 1 [0, 1, 2, 3, 4, 5, 6, 7, 8, 9, 10, 11, 12, 13, 14, 15, 16, 17] <| s_iload 1 <| s_if gz_ne (s_aload 0 <| s_cav gI (fX9_exact N) 1 [0, 1, 2, 3, 4, 5, 6, 7, 8, 9, 10, 11, 12, 13, 14, 15, 16, 17] <| s_iret) (s_aload 0 <| s_cav gI (fX9_greedy N) 1 [0, 1, 2, 3, 4, 5, 6, 7, 8, 9, 10, 11, 12, 13, 14, 15, 16, 17] <| s_iret)
def fX9_scheduleBy (N : Nat) : List Value → gM → Option (gR × gM) := gFn 2 (fX9_scheduleBy_k0 N)
def fX9_slot_k19 (N : Nat) : gK :=
  s_aload 0 <| s_cav gV (fX9_expire N) 1 [0, 1, 2, 3, 4, 5, 6, 7, 8, 9, 10, 11, 12, 13, 14, 15, 16, 17] <| s_aload 0 <| s_get gyM 9 9 <| s_const 7 <| s_dup2 <| s_ald gyM 0 <| s_const 1 <| s_bin gb_add <| s_ast gyM 0 <| s_aload 0 <| s_get gyM 9 9 <| s_const 8 <| s_aload 0 <| s_get gyM 9 9 <| s_const 8 <| s_ald gyM 0 <| s_aload 0 <| s_get gyM 9 9 <| s_const 245 <| s_ald gyM 0 <| s_jmath gj_max <| s_ast gyM 0 <| s_vret
def fX9_slot_k0 (N : Nat) : gK :=
  s_aload 0 <| s_cav gV (fX9_arrivals N) 1 [0, 1, 2, 3, 4, 5, 6, 7, 8, 9, 10, 11, 12, 13, 14, 15, 16, 17] <| s_aload 0 <| s_aload 0 <| s_aload 0 <| s_get gyM 9 9 <| s_const 6 <| s_ald gyM 0 <| s_cav gI (fX9_scheduleBy N) 2 [0, 1, 2, 3, 4, 5, 6, 7, 8, 9, 10, 11, 12, 13, 14, 15, 16, 17] <| s_cav gV (fX9_transmit N) 2 [0, 1, 2, 3, 4, 5, 6, 7, 8, 9, 10, 11, 12, 13, 14, 15, 16, 17] <| s_mask [true] <| fX9_slot_k19 N
def fX9_slot (N : Nat) : List Value → gM → Option (gR × gM) := gFn 1 (fX9_slot_k0 N)
def fX9_slots_b2 (N : Nat) : gK → gK := fun K2 =>
  s_iload 2 <| s_iload 1 <| s_cmp gc_ge (s_vret) (s_aload 0 <| s_cav gV (fX9_slot N) 1 [0, 1, 2, 3, 4, 5, 6, 7, 8, 9, 10, 11, 12, 13, 14, 15, 16, 17] <| s_iinc 2 1 <| s_mask [true, true, true] <| K2)
def fX9_slots_k2 (N : Nat) : gK := s_lp (fX9_slots_b2 N) N
def fX9_slots_k0 (N : Nat) : gK :=
  s_const 0 <| s_istore 2 <| s_mask [true, true, true] <| fX9_slots_k2 N
def fX9_slots (N : Nat) : List Value → gM → Option (gR × gM) := gFn 3 (fX9_slots_k0 N)
def fX9_run_k51 (N : Nat) : gK :=
  s_aload 0 <| s_get gyM 9 9 <| s_const 245 <| s_ald gyM 0 <| s_iret
def fX9_run_k33 (N : Nat) : gK :=
  s_const 1 <| s_cav gI (fX9_fails N) 3 [0, 1, 2, 3, 4, 5, 6, 7, 8, 9, 10, 11, 12, 13, 14, 15, 16, 17] <| s_if gz_eq (s_aload 0 <| s_cav gV (fX9_record N) 1 [0, 1, 2, 3, 4, 5, 6, 7, 8, 9, 10, 11, 12, 13, 14, 15, 16, 17] <| s_aload 0 <| s_iload 1 <| s_cav gV (fX9_slots N) 2 [0, 1, 2, 3, 4, 5, 6, 7, 8, 9, 10, 11, 12, 13, 14, 15, 16, 17] <| s_mask [true, false] <| fX9_run_k51 N) (s_const 0 <| s_iret)
def fX9_run_k32 (N : Nat) : gK :=
  s_const 0 <| s_mask [true, true] <| fX9_run_k33 N
def fX9_run_k0 (N : Nat) : gK :=
  s_aload 0 <| s_const 0 <| s_put gyM 9 0 <| s_aload 0 <| s_iload 1 <| s_ca gI (fX9_areSlots N) 1 [] <| s_if gz_eq (s_mask [true, true] <| fX9_run_k32 N) (s_aload 0 <| s_get gyM 9 9 <| s_const 7 <| s_ald gyM 0 <| s_iload 1 <| s_bin gb_add <| s_const 9999 <| s_cmp gc_gt (s_mask [true, true] <| fX9_run_k32 N) (s_const 1 <| s_mask [true, true] <| fX9_run_k33 N))
def fX9_run (N : Nat) : List Value → gM → Option (gR × gM) := gFn 2 (fX9_run_k0 N)
def fX9_carries_k112 (N : Nat) (K37 : gK) : gK :=
  s_bin gb_sub <| s_istore 3 <| s_iinc 4 1 <| s_mask [true, true, true, true, true, false] <| K37
def fX9_carries_k111 (N : Nat) (K37 : gK) : gK :=
  s_const 0 <| s_mask [true, true, true, false, true, false] <| fX9_carries_k112 N K37
def fX9_carries_k80 (N : Nat) (K37 : gK) : gK :=
  s_istore 5 <| s_iload 3 <| s_iload 2 <| s_iload 4 <| s_ca gI (fX9_has N) 2 [] <| s_if gz_eq (s_mask [true, true, true, false, true, false] <| fX9_carries_k111 N K37) (s_iload 5 <| s_if gz_eq (s_mask [true, true, true, false, true, false] <| fX9_carries_k111 N K37) (s_iload 3 <| s_aload 0 <| s_iload 4 <| s_const 2 <| s_cav gI (fX9_linkPart N) 3 [0, 1, 2, 3, 4, 5, 6, 7, 8, 9, 10, 11, 12, 13, 14, 15, 16, 17] <| s_jmath gj_min <| s_mask [true, true, true, false, true, false] <| fX9_carries_k112 N K37))
def fX9_carries_k79 (N : Nat) (K37 : gK) : gK :=
  s_const 0 <| s_mask [true, true, true, true, true, false] <| fX9_carries_k80 N K37
def fX9_carries_b37 (N : Nat) : gK → gK := fun K37 =>
  s_iload 4 <| s_iload 1 <| s_cmp gc_ge (s_iload 3 <| s_aload 0 <| s_iload 1 <| s_const 2 <| s_cav gI (fX9_linkPart N) 3 [0, 1, 2, 3, 4, 5, 6, 7, 8, 9, 10, 11, 12, 13, 14, 15, 16, 17] <| s_jmath gj_min <| s_iret) (s_aload 0 <| s_iload 4 <| s_const 0 <| s_cav gI (fX9_linkPart N) 3 [0, 1, 2, 3, 4, 5, 6, 7, 8, 9, 10, 11, 12, 13, 14, 15, 16, 17] <| s_aload 0 <| s_iload 1 <| s_const 0 <| s_cav gI (fX9_linkPart N) 3 [0, 1, 2, 3, 4, 5, 6, 7, 8, 9, 10, 11, 12, 13, 14, 15, 16, 17] <| s_cmp gc_ne (s_mask [true, true, true, true, true, false] <| fX9_carries_k79 N K37) (s_aload 0 <| s_get gyM 9 21 <| s_iload 4 <| s_ald gyM 0 <| s_aload 0 <| s_get gyM 9 21 <| s_iload 1 <| s_ald gyM 0 <| s_cmp gc_ne (s_mask [true, true, true, true, true, false] <| fX9_carries_k79 N K37) (s_const 1 <| s_mask [true, true, true, true, true, false] <| fX9_carries_k80 N K37)))
def fX9_carries_k37 (N : Nat) : gK := s_lp (fX9_carries_b37 N) N
def fX9_carries_k0 (N : Nat) : gK :=
  s_aload 0 <| s_aload 0 <| s_get gyM 9 9 <| s_const 6 <| s_ald gyM 0 <| s_cav gI (fX9_scheduleBy N) 2 [0, 1, 2, 3, 4, 5, 6, 7, 8, 9, 10, 11, 12, 13, 14, 15, 16, 17] <| s_istore 2 <| s_aload 0 <| s_get gyM 9 20 <| s_const 10 <| s_aload 0 <| s_iload 1 <| s_const 0 <| s_cav gI (fX9_linkPart N) 3 [0, 1, 2, 3, 4, 5, 6, 7, 8, 9, 10, 11, 12, 13, 14, 15, 16, 17] <| s_bin gb_mul <| s_aload 0 <| s_get gyM 9 21 <| s_iload 1 <| s_ald gyM 0 <| s_bin gb_add <| s_ald gyM 0 <| s_istore 3 <| s_const 0 <| s_istore 4 <| s_mask [true, true, true, true, true, false] <| fX9_carries_k37 N
def fX9_carries (N : Nat) : List Value → gM → Option (gR × gM) := gFn 6 (fX9_carries_k0 N)
def fX9_link_k60 (N : Nat) : gK :=
  s_istore 3 <| s_iload 2 <| s_const 6 <| s_cmp gc_ge (s_iload 3 <| s_iload 1 <| s_ca gI (fX9_has N) 2 [] <| s_istore 4 <| s_iload 2 <| s_const 6 <| s_cmp gc_ne (s_iload 4 <| s_if gz_eq (s_const 0 <| s_iret) (s_aload 0 <| s_iload 1 <| s_cav gI (fX9_carries N) 2 [0, 1, 2, 3, 4, 5, 6, 7, 8, 9, 10, 11, 12, 13, 14, 15, 16, 17] <| s_iret)) (s_iload 4 <| s_if gz_eq (s_const 0 <| s_iret) (s_const 1 <| s_iret))) (s_iload 2 <| s_const 4 <| s_cmp gc_ne (s_aload 0 <| s_get gyM 9 22 <| s_iload 1 <| s_ald gyM 0 <| s_iret) (s_aload 0 <| s_get gyM 9 21 <| s_iload 1 <| s_ald gyM 0 <| s_iret))
def fX9_link_k28 (N : Nat) : gK :=
  s_const 2 <| s_cav gI (fX9_fails N) 3 [0, 1, 2, 3, 4, 5, 6, 7, 8, 9, 10, 11, 12, 13, 14, 15, 16, 17] <| s_if gz_eq (s_iload 2 <| s_const 4 <| s_cmp gc_ge (s_aload 0 <| s_aload 0 <| s_get gyM 9 9 <| s_const 6 <| s_ald gyM 0 <| s_cav gI (fX9_scheduleBy N) 2 [0, 1, 2, 3, 4, 5, 6, 7, 8, 9, 10, 11, 12, 13, 14, 15, 16, 17] <| s_mask [true, true, true, false, false] <| fX9_link_k60 N) (s_aload 0 <| s_iload 1 <| s_iload 2 <| s_cav gI (fX9_linkPart N) 3 [0, 1, 2, 3, 4, 5, 6, 7, 8, 9, 10, 11, 12, 13, 14, 15, 16, 17] <| s_iret)) (s_const 0 <| s_iret)
def fX9_link_k0 (N : Nat) : gK :=
  s_aload 0 <| s_const 0 <| s_put gyM 9 0 <| s_aload 0 <| s_aload 0 <| s_iload 1 <| s_cav gI (fX9_isLink N) 2 [0, 1, 2, 3, 4, 5, 6, 7, 8, 9, 10, 11, 12, 13, 14, 15, 16, 17] <| s_const 1 <| s_cav gI (fX9_fails N) 3 [0, 1, 2, 3, 4, 5, 6, 7, 8, 9, 10, 11, 12, 13, 14, 15, 16, 17] <| s_if gz_ne (s_const 0 <| s_iret) (s_aload 0 <| s_iload 2 <| s_i2l <| s_lconst 0 <| s_lconst 7 <| s_ca gI (fX9_in N) 3 [] <| s_mask [true, true, true, false, false] <| fX9_link_k28 N)
def fX9_link (N : Nat) : List Value → gM → Option (gR × gM) := gFn 5 (fX9_link_k0 N)
def fX9_common_k0 (N : Nat) (g : List Value → gM → Option (gR × gM)) : gK :=
  s_iload 1 <| s_if gz_ne (s_iload 1 <| s_iload 0 <| s_iload 1 <| s_div gb_rem <| s_ca gI (g) 2 [] <| s_iret) (s_iload 0 <| s_iret)
def fX9_common (N : Nat) : Nat → List Value → gM → Option (gR × gM)
  | 0 => fun _ _ => none
  | d + 1 => gFn 2 (fX9_common_k0 N (fX9_common N d))
def fX9_meanDelay_k74 (N : Nat) : gK :=
  s_cav gI (fX9_flowPart N) 3 [0, 1, 2, 3, 4, 5, 6, 7, 8, 9, 10, 11, 12, 13, 14, 15, 16, 17] <| s_iload 3 <| s_div gb_div <| s_iret
def fX9_meanDelay_k57 (N : Nat) : gK :=
  s_ca gI (fX9_common N 70) 2 [] <| s_istore 3 <| s_aload 0 <| s_iload 1 <| s_iload 2 <| s_if gz_eq (s_const 9 <| s_mask [false, false, false, true] <| fX9_meanDelay_k74 N) (s_const 6 <| s_mask [false, false, false, true] <| fX9_meanDelay_k74 N)
def fX9_meanDelay_k34 (N : Nat) : gK :=
  s_const 2 <| s_cav gI (fX9_fails N) 3 [0, 1, 2, 3, 4, 5, 6, 7, 8, 9, 10, 11, 12, 13, 14, 15, 16, 17] <| s_if gz_eq (s_aload 0 <| s_iload 1 <| s_const 9 <| s_cav gI (fX9_flowPart N) 3 [0, 1, 2, 3, 4, 5, 6, 7, 8, 9, 10, 11, 12, 13, 14, 15, 16, 17] <| s_aload 0 <| s_iload 1 <| s_const 6 <| s_cav gI (fX9_flowPart N) 3 [0, 1, 2, 3, 4, 5, 6, 7, 8, 9, 10, 11, 12, 13, 14, 15, 16, 17] <| s_mask [true, true, true, false] <| fX9_meanDelay_k57 N) (s_const 0 <| s_iret)
def fX9_meanDelay_k26 (N : Nat) : gK :=
  s_if gz_le (s_const 0 <| s_mask [true, true, true, false] <| fX9_meanDelay_k34 N) (s_const 1 <| s_mask [true, true, true, false] <| fX9_meanDelay_k34 N)
def fX9_meanDelay_k0 (N : Nat) : gK :=
  s_aload 0 <| s_const 0 <| s_put gyM 9 0 <| s_aload 0 <| s_aload 0 <| s_iload 1 <| s_cav gI (fX9_isFlow N) 2 [0, 1, 2, 3, 4, 5, 6, 7, 8, 9, 10, 11, 12, 13, 14, 15, 16, 17] <| s_const 1 <| s_cav gI (fX9_fails N) 3 [0, 1, 2, 3, 4, 5, 6, 7, 8, 9, 10, 11, 12, 13, 14, 15, 16, 17] <| s_if gz_ne (s_const 0 <| s_iret) (s_aload 0 <| s_aload 0 <| s_iload 1 <| s_const 6 <| s_cav gI (fX9_flowPart N) 3 [0, 1, 2, 3, 4, 5, 6, 7, 8, 9, 10, 11, 12, 13, 14, 15, 16, 17] <| s_mask [true, true, true, false] <| fX9_meanDelay_k26 N)
def fX9_meanDelay (N : Nat) : List Value → gM → Option (gR × gM) := gFn 4 (fX9_meanDelay_k0 N)
def fX9_schedule_k0 (N : Nat) : gK :=
  s_aload 0 <| s_const 0 <| s_put gyM 9 0 <| s_aload 0 <| s_iload 1 <| s_i2l <| s_lconst 0 <| s_lconst 1 <| s_ca gI (fX9_in N) 3 [] <| s_const 1 <| s_cav gI (fX9_fails N) 3 [0, 1, 2, 3, 4, 5, 6, 7, 8, 9, 10, 11, 12, 13, 14, 15, 16, 17] <| s_if gz_eq (s_aload 0 <| s_iload 1 <| s_cav gI (fX9_scheduleBy N) 2 [0, 1, 2, 3, 4, 5, 6, 7, 8, 9, 10, 11, 12, 13, 14, 15, 16, 17] <| s_iret) (s_const 0 <| s_iret)
def fX9_schedule (N : Nat) : List Value → gM → Option (gR × gM) := gFn 2 (fX9_schedule_k0 N)
def fX9_scheduleWeight_k65 (N : Nat) (K33 : gK) : gK :=
  s_bin gb_add <| s_istore 3 <| s_iinc 4 1 <| s_mask [true, false, true, true, true] <| K33
def fX9_scheduleWeight_b33 (N : Nat) : gK → gK := fun K33 =>
  s_iload 4 <| s_aload 0 <| s_get gyM 9 9 <| s_const 1 <| s_ald gyM 0 <| s_cmp gc_ge (s_iload 3 <| s_iret) (s_iload 3 <| s_iload 2 <| s_iload 4 <| s_ca gI (fX9_has N) 2 [] <| s_if gz_eq (s_const 0 <| s_mask [true, false, true, false, true] <| fX9_scheduleWeight_k65 N K33) (s_aload 0 <| s_get gyM 9 22 <| s_iload 4 <| s_ald gyM 0 <| s_mask [true, false, true, false, true] <| fX9_scheduleWeight_k65 N K33))
def fX9_scheduleWeight_k33 (N : Nat) : gK := s_lp (fX9_scheduleWeight_b33 N) N
def fX9_scheduleWeight_k27 (N : Nat) : gK :=
  s_istore 2 <| s_const 0 <| s_istore 3 <| s_const 0 <| s_istore 4 <| s_mask [true, false, true, true, true] <| fX9_scheduleWeight_k33 N
def fX9_scheduleWeight_k0 (N : Nat) : gK :=
  s_aload 0 <| s_const 0 <| s_put gyM 9 0 <| s_aload 0 <| s_iload 1 <| s_i2l <| s_lconst 0 <| s_lconst 1 <| s_ca gI (fX9_in N) 3 [] <| s_const 1 <| s_cav gI (fX9_fails N) 3 [0, 1, 2, 3, 4, 5, 6, 7, 8, 9, 10, 11, 12, 13, 14, 15, 16, 17] <| s_if gz_eq (s_aload 0 <| s_iload 1 <| s_cav gI (fX9_scheduleBy N) 2 [0, 1, 2, 3, 4, 5, 6, 7, 8, 9, 10, 11, 12, 13, 14, 15, 16, 17] <| s_mask [true, false, false, false, false] <| fX9_scheduleWeight_k27 N) (s_const 0 <| s_iret)
def fX9_scheduleWeight (N : Nat) : List Value → gM → Option (gR × gM) := gFn 5 (fX9_scheduleWeight_k0 N)
def fX9_forecast_k57 (N : Nat) : gK :=
  s_aload 0 <| s_iload 2 <| s_cav gJ (fX9_totalOf N) 2 [0, 1, 2, 3, 4, 5, 6, 7, 8, 9, 10, 11, 12, 13, 14, 15, 16, 17] <| s_lstore 3 <| s_aload 0 <| s_get gyM 9 10 <| s_const 0 <| s_aload 0 <| s_get gyM 9 9 <| s_const 0 <| s_ca gV (fX9_copy N 2746 2746) 4 [4, 3] <| s_lload 3 <| s_lret
def fX9_forecast_k30 (N : Nat) : gK :=
  s_const 1 <| s_cav gI (fX9_fails N) 3 [0, 1, 2, 3, 4, 5, 6, 7, 8, 9, 10, 11, 12, 13, 14, 15, 16, 17] <| s_if gz_eq (s_aload 0 <| s_get gyM 9 9 <| s_const 0 <| s_aload 0 <| s_get gyM 9 10 <| s_const 0 <| s_ca gV (fX9_copy N 2746 2746) 4 [3, 4] <| s_aload 0 <| s_iload 1 <| s_cav gV (fX9_slots N) 2 [0, 1, 2, 3, 4, 5, 6, 7, 8, 9, 10, 11, 12, 13, 14, 15, 16, 17] <| s_mask [true, false, true, false, false] <| fX9_forecast_k57 N) (s_lconst 0 <| s_lret)
def fX9_forecast_k29 (N : Nat) : gK :=
  s_const 0 <| s_mask [true, true, true, false, false] <| fX9_forecast_k30 N
def fX9_forecast_k0 (N : Nat) : gK :=
  s_aload 0 <| s_const 0 <| s_put gyM 9 0 <| s_aload 0 <| s_iload 1 <| s_ca gI (fX9_areSlots N) 1 [] <| s_if gz_eq (s_mask [true, true, true, false, false] <| fX9_forecast_k29 N) (s_iload 2 <| s_i2l <| s_lconst 0 <| s_lconst 5 <| s_ca gI (fX9_in N) 3 [] <| s_if gz_eq (s_mask [true, true, true, false, false] <| fX9_forecast_k29 N) (s_const 1 <| s_mask [true, true, true, false, false] <| fX9_forecast_k30 N))
def fX9_forecast (N : Nat) : List Value → gM → Option (gR × gM) := gFn 5 (fX9_forecast_k0 N)
def fX9_forecastFlow_k70 (N : Nat) : gK :=
  s_aload 0 <| s_iload 1 <| s_iload 3 <| s_cav gI (fX9_flowPart N) 3 [0, 1, 2, 3, 4, 5, 6, 7, 8, 9, 10, 11, 12, 13, 14, 15, 16, 17] <| s_istore 4 <| s_aload 0 <| s_get gyM 9 10 <| s_const 0 <| s_aload 0 <| s_get gyM 9 9 <| s_const 0 <| s_ca gV (fX9_copy N 2746 2746) 4 [4, 3] <| s_iload 4 <| s_iret
def fX9_forecastFlow_k43 (N : Nat) : gK :=
  s_const 2 <| s_cav gI (fX9_fails N) 3 [0, 1, 2, 3, 4, 5, 6, 7, 8, 9, 10, 11, 12, 13, 14, 15, 16, 17] <| s_if gz_eq (s_aload 0 <| s_get gyM 9 9 <| s_const 0 <| s_aload 0 <| s_get gyM 9 10 <| s_const 0 <| s_ca gV (fX9_copy N 2746 2746) 4 [3, 4] <| s_aload 0 <| s_iload 2 <| s_cav gV (fX9_slots N) 2 [0, 1, 2, 3, 4, 5, 6, 7, 8, 9, 10, 11, 12, 13, 14, 15, 16, 17] <| s_mask [true, true, false, true, false] <| fX9_forecastFlow_k70 N) (s_const 0 <| s_iret)
def fX9_forecastFlow_k42 (N : Nat) : gK :=
  s_const 0 <| s_mask [true, true, true, true, false] <| fX9_forecastFlow_k43 N
def fX9_forecastFlow_k23 (N : Nat) : gK :=
  s_if gz_eq (s_mask [true, true, true, true, false] <| fX9_forecastFlow_k42 N) (s_iload 3 <| s_i2l <| s_lconst 0 <| s_lconst 10 <| s_ca gI (fX9_in N) 3 [] <| s_if gz_eq (s_mask [true, true, true, true, false] <| fX9_forecastFlow_k42 N) (s_const 1 <| s_mask [true, true, true, true, false] <| fX9_forecastFlow_k43 N))
def fX9_forecastFlow_k0 (N : Nat) : gK :=
  s_aload 0 <| s_const 0 <| s_put gyM 9 0 <| s_aload 0 <| s_aload 0 <| s_iload 1 <| s_cav gI (fX9_isFlow N) 2 [0, 1, 2, 3, 4, 5, 6, 7, 8, 9, 10, 11, 12, 13, 14, 15, 16, 17] <| s_const 1 <| s_cav gI (fX9_fails N) 3 [0, 1, 2, 3, 4, 5, 6, 7, 8, 9, 10, 11, 12, 13, 14, 15, 16, 17] <| s_if gz_ne (s_const 0 <| s_iret) (s_aload 0 <| s_iload 2 <| s_ca gI (fX9_areSlots N) 1 [] <| s_mask [true, true, true, true, false] <| fX9_forecastFlow_k23 N)
def fX9_forecastFlow (N : Nat) : List Value → gM → Option (gR × gM) := gFn 5 (fX9_forecastFlow_k0 N)
def fX9_slotsToFull_k98 (N : Nat) : gK :=
  s_istore 4 <| s_aload 0 <| s_get gyM 9 10 <| s_const 0 <| s_aload 0 <| s_get gyM 9 9 <| s_const 0 <| s_ca gV (fX9_copy N 2746 2746) 4 [4, 3] <| s_aload 0 <| s_iload 4 <| s_const 2 <| s_cav gI (fX9_fails N) 3 [0, 1, 2, 3, 4, 5, 6, 7, 8, 9, 10, 11, 12, 13, 14, 15, 16, 17] <| s_if gz_eq (s_iload 3 <| s_iret) (s_const 0 <| s_iret)
def fX9_slotsToFull_k81 (N : Nat) : gK :=
  s_aload 0 <| s_get gyM 9 9 <| s_const 245 <| s_ald gyM 0 <| s_iload 2 <| s_cmp gc_lt (s_const 0 <| s_mask [true, false, false, true, false] <| fX9_slotsToFull_k98 N) (s_const 1 <| s_mask [true, false, false, true, false] <| fX9_slotsToFull_k98 N)
def fX9_slotsToFull_b54 (N : Nat) : gK → gK := fun K54 =>
  s_iload 3 <| s_iload 1 <| s_cmp gc_ge (s_mask [true, false, true, true, false] <| fX9_slotsToFull_k81 N) (s_aload 0 <| s_get gyM 9 9 <| s_const 245 <| s_ald gyM 0 <| s_iload 2 <| s_cmp gc_ge (s_mask [true, false, true, true, false] <| fX9_slotsToFull_k81 N) (s_aload 0 <| s_cav gV (fX9_slot N) 1 [0, 1, 2, 3, 4, 5, 6, 7, 8, 9, 10, 11, 12, 13, 14, 15, 16, 17] <| s_iinc 3 1 <| s_mask [true, true, true, true, false] <| K54))
def fX9_slotsToFull_k54 (N : Nat) : gK := s_lp (fX9_slotsToFull_b54 N) N
def fX9_slotsToFull_k30 (N : Nat) : gK :=
  s_const 1 <| s_cav gI (fX9_fails N) 3 [0, 1, 2, 3, 4, 5, 6, 7, 8, 9, 10, 11, 12, 13, 14, 15, 16, 17] <| s_if gz_eq (s_aload 0 <| s_get gyM 9 9 <| s_const 0 <| s_aload 0 <| s_get gyM 9 10 <| s_const 0 <| s_ca gV (fX9_copy N 2746 2746) 4 [3, 4] <| s_const 0 <| s_istore 3 <| s_mask [true, true, true, true, false] <| fX9_slotsToFull_k54 N) (s_const 0 <| s_iret)
def fX9_slotsToFull_k29 (N : Nat) : gK :=
  s_const 0 <| s_mask [true, true, true, false, false] <| fX9_slotsToFull_k30 N
def fX9_slotsToFull_k0 (N : Nat) : gK :=
  s_aload 0 <| s_const 0 <| s_put gyM 9 0 <| s_aload 0 <| s_iload 1 <| s_ca gI (fX9_areSlots N) 1 [] <| s_if gz_eq (s_mask [true, true, true, false, false] <| fX9_slotsToFull_k29 N) (s_iload 2 <| s_i2l <| s_lconst 1 <| s_lconst 500 <| s_ca gI (fX9_in N) 3 [] <| s_if gz_eq (s_mask [true, true, true, false, false] <| fX9_slotsToFull_k29 N) (s_const 1 <| s_mask [true, true, true, false, false] <| fX9_slotsToFull_k30 N))
def fX9_slotsToFull (N : Nat) : List Value → gM → Option (gR × gM) := gFn 5 (fX9_slotsToFull_k0 N)
def fX9_bestBias_k114 (N : Nat) (K42 : gK) : gK :=
  s_aload 0 <| s_get gyM 9 10 <| s_const 0 <| s_aload 0 <| s_get gyM 9 9 <| s_const 0 <| s_ca gV (fX9_copy N 2746 2746) 4 [4, 3] <| s_iinc 5 1 <| s_mask [true, true, true, true, true, true, false, false] <| K42
def fX9_bestBias_k104 (N : Nat) (K42 : gK) : gK :=
  s_iload 5 <| s_istore 2 <| s_iload 6 <| s_istore 3 <| s_iload 7 <| s_istore 4 <| s_mask [true, true, true, true, true, true, false, false] <| fX9_bestBias_k114 N K42
def fX9_bestBias_b42 (N : Nat) : gK → gK := fun K42 =>
  s_iload 5 <| s_const 20 <| s_cmp gc_gt (s_iload 2 <| s_iret) (s_aload 0 <| s_get gyM 9 9 <| s_const 5 <| s_iload 5 <| s_ast gyM 0 <| s_aload 0 <| s_iload 1 <| s_cav gV (fX9_slots N) 2 [0, 1, 2, 3, 4, 5, 6, 7, 8, 9, 10, 11, 12, 13, 14, 15, 16, 17] <| s_aload 0 <| s_get gyM 9 9 <| s_const 245 <| s_ald gyM 0 <| s_istore 6 <| s_aload 0 <| s_const 8 <| s_cav gI (fX9_sumOf N) 2 [0, 1, 2, 3, 4, 5, 6, 7, 8, 9, 10, 11, 12, 13, 14, 15, 16, 17] <| s_istore 7 <| s_iload 2 <| s_const (-1) <| s_cmp gc_eq (s_mask [true, true, false, false, false, true, true, true] <| fX9_bestBias_k104 N K42) (s_iload 6 <| s_iload 3 <| s_cmp gc_lt (s_mask [true, true, false, false, false, true, true, true] <| fX9_bestBias_k104 N K42) (s_iload 6 <| s_iload 3 <| s_cmp gc_ne (s_mask [true, true, true, true, true, true, false, false] <| fX9_bestBias_k114 N K42) (s_iload 7 <| s_iload 4 <| s_cmp gc_ge (s_mask [true, true, true, true, true, true, false, false] <| fX9_bestBias_k114 N K42) (s_mask [true, true, false, false, false, true, true, true] <| fX9_bestBias_k104 N K42)))))
def fX9_bestBias_k42 (N : Nat) : gK := s_lp (fX9_bestBias_b42 N) N
def fX9_bestBias_k39 (N : Nat) : gK :=
  s_const 0 <| s_istore 5 <| s_mask [true, true, true, true, true, true, false, false] <| fX9_bestBias_k42 N
def fX9_bestBias_k0 (N : Nat) : gK :=
  s_aload 0 <| s_const 0 <| s_put gyM 9 0 <| s_aload 0 <| s_iload 1 <| s_ca gI (fX9_areSlots N) 1 [] <| s_const 1 <| s_cav gI (fX9_fails N) 3 [0, 1, 2, 3, 4, 5, 6, 7, 8, 9, 10, 11, 12, 13, 14, 15, 16, 17] <| s_if gz_eq (s_const (-1) <| s_istore 2 <| s_const 0 <| s_istore 3 <| s_const 0 <| s_istore 4 <| s_aload 0 <| s_get gyM 9 9 <| s_const 0 <| s_aload 0 <| s_get gyM 9 10 <| s_const 0 <| s_ca gV (fX9_copy N 2746 2746) 4 [3, 4] <| s_mask [true, true, true, true, true, false, false, false] <| fX9_bestBias_k39 N) (s_const 0 <| s_iret)
def fX9_bestBias (N : Nat) : List Value → gM → Option (gR × gM) := gFn 8 (fX9_bestBias_k0 N)
def fX9_bestExcess_k91 (N : Nat) (K39 : gK) : gK :=
  s_aload 0 <| s_get gyM 9 10 <| s_const 0 <| s_aload 0 <| s_get gyM 9 9 <| s_const 0 <| s_ca gV (fX9_copy N 2746 2746) 4 [4, 3] <| s_iinc 4 10 <| s_mask [true, true, true, true, true, false] <| K39
def fX9_bestExcess_k85 (N : Nat) (K39 : gK) : gK :=
  s_iload 4 <| s_istore 2 <| s_iload 5 <| s_istore 3 <| s_mask [true, true, true, true, true, false] <| fX9_bestExcess_k91 N K39
def fX9_bestExcess_b39 (N : Nat) : gK → gK := fun K39 =>
  s_iload 4 <| s_const 50 <| s_cmp gc_gt (s_iload 2 <| s_iret) (s_aload 0 <| s_get gyM 9 9 <| s_const 3 <| s_const 1 <| s_ast gyM 0 <| s_aload 0 <| s_get gyM 9 9 <| s_const 4 <| s_iload 4 <| s_ast gyM 0 <| s_aload 0 <| s_iload 1 <| s_cav gV (fX9_slots N) 2 [0, 1, 2, 3, 4, 5, 6, 7, 8, 9, 10, 11, 12, 13, 14, 15, 16, 17] <| s_aload 0 <| s_const 6 <| s_cav gI (fX9_sumOf N) 2 [0, 1, 2, 3, 4, 5, 6, 7, 8, 9, 10, 11, 12, 13, 14, 15, 16, 17] <| s_istore 5 <| s_iload 2 <| s_const (-1) <| s_cmp gc_eq (s_mask [true, true, false, false, true, true] <| fX9_bestExcess_k85 N K39) (s_iload 5 <| s_iload 3 <| s_cmp gc_le (s_mask [true, true, true, true, true, false] <| fX9_bestExcess_k91 N K39) (s_mask [true, true, false, false, true, true] <| fX9_bestExcess_k85 N K39)))
def fX9_bestExcess_k39 (N : Nat) : gK := s_lp (fX9_bestExcess_b39 N) N
def fX9_bestExcess_k36 (N : Nat) : gK :=
  s_const 0 <| s_istore 4 <| s_mask [true, true, true, true, true, false] <| fX9_bestExcess_k39 N
def fX9_bestExcess_k0 (N : Nat) : gK :=
  s_aload 0 <| s_const 0 <| s_put gyM 9 0 <| s_aload 0 <| s_iload 1 <| s_ca gI (fX9_areSlots N) 1 [] <| s_const 1 <| s_cav gI (fX9_fails N) 3 [0, 1, 2, 3, 4, 5, 6, 7, 8, 9, 10, 11, 12, 13, 14, 15, 16, 17] <| s_if gz_eq (s_const (-1) <| s_istore 2 <| s_const 0 <| s_istore 3 <| s_aload 0 <| s_get gyM 9 9 <| s_const 0 <| s_aload 0 <| s_get gyM 9 10 <| s_const 0 <| s_ca gV (fX9_copy N 2746 2746) 4 [3, 4] <| s_mask [true, true, true, true, false, false] <| fX9_bestExcess_k36 N) (s_const 0 <| s_iret)
def fX9_bestExcess (N : Nat) : List Value → gM → Option (gR × gM) := gFn 6 (fX9_bestExcess_k0 N)
def fX9_bestSettings_k105 (N : Nat) (K39 : gK) : gK :=
  s_aload 0 <| s_get gyM 9 10 <| s_const 0 <| s_aload 0 <| s_get gyM 9 9 <| s_const 0 <| s_ca gV (fX9_copy N 2746 2746) 4 [4, 3] <| s_iinc 5 1 <| s_mask [true, true, true, true, false, true, false, false] <| K39
def fX9_bestSettings_k89 (N : Nat) (K39 : gK) : gK :=
  s_const 10 <| s_iload 5 <| s_const 2 <| s_div gb_div <| s_bin gb_mul <| s_iload 5 <| s_const 2 <| s_div gb_rem <| s_bin gb_add <| s_istore 2 <| s_lload 6 <| s_lstore 3 <| s_mask [true, true, true, true, false, true, false, false] <| fX9_bestSettings_k105 N K39
def fX9_bestSettings_b39 (N : Nat) : gK → gK := fun K39 =>
  s_iload 5 <| s_const 4 <| s_cmp gc_ge (s_iload 2 <| s_iret) (s_aload 0 <| s_get gyM 9 9 <| s_const 3 <| s_iload 5 <| s_const 2 <| s_div gb_div <| s_ast gyM 0 <| s_aload 0 <| s_get gyM 9 9 <| s_const 6 <| s_iload 5 <| s_const 2 <| s_div gb_rem <| s_ast gyM 0 <| s_aload 0 <| s_iload 1 <| s_cav gV (fX9_slots N) 2 [0, 1, 2, 3, 4, 5, 6, 7, 8, 9, 10, 11, 12, 13, 14, 15, 16, 17] <| s_aload 0 <| s_cav gJ (fX9_squares N) 1 [0, 1, 2, 3, 4, 5, 6, 7, 8, 9, 10, 11, 12, 13, 14, 15, 16, 17] <| s_lstore 6 <| s_iload 2 <| s_const (-1) <| s_cmp gc_eq (s_mask [true, true, false, false, false, true, true, false] <| fX9_bestSettings_k89 N K39) (s_lload 6 <| s_lload 3 <| s_lcmp <| s_if gz_ge (s_mask [true, true, true, true, false, true, false, false] <| fX9_bestSettings_k105 N K39) (s_mask [true, true, false, false, false, true, true, false] <| fX9_bestSettings_k89 N K39)))
def fX9_bestSettings_k39 (N : Nat) : gK := s_lp (fX9_bestSettings_b39 N) N
def fX9_bestSettings_k36 (N : Nat) : gK :=
  s_const 0 <| s_istore 5 <| s_mask [true, true, true, true, false, true, false, false] <| fX9_bestSettings_k39 N
def fX9_bestSettings_k0 (N : Nat) : gK :=
  s_aload 0 <| s_const 0 <| s_put gyM 9 0 <| s_aload 0 <| s_iload 1 <| s_ca gI (fX9_areSlots N) 1 [] <| s_const 1 <| s_cav gI (fX9_fails N) 3 [0, 1, 2, 3, 4, 5, 6, 7, 8, 9, 10, 11, 12, 13, 14, 15, 16, 17] <| s_if gz_eq (s_const (-1) <| s_istore 2 <| s_lconst 0 <| s_lstore 3 <| s_aload 0 <| s_get gyM 9 9 <| s_const 0 <| s_aload 0 <| s_get gyM 9 10 <| s_const 0 <| s_ca gV (fX9_copy N 2746 2746) 4 [3, 4] <| s_mask [true, true, true, true, false, false, false, false] <| fX9_bestSettings_k36 N) (s_const 0 <| s_iret)
def fX9_bestSettings (N : Nat) : List Value → gM → Option (gR × gM) := gFn 8 (fX9_bestSettings_k0 N)
def fX9_holds_k54 (N : Nat) (K21 : gK) : gK :=
  s_istore 4 <| s_iinc 5 1 <| s_mask [true, false, false, true, true, true] <| K21
def fX9_holds_b21 (N : Nat) : gK → gK := fun K21 =>
  s_iload 5 <| s_iload 3 <| s_cmp gc_ge (s_iload 4 <| s_zret) (s_iload 4 <| s_if gz_eq (s_iload 4 <| s_zret) (s_aload 0 <| s_cav gV (fX9_slot N) 1 [0, 1, 2, 3, 4, 5, 6, 7, 8, 9, 10, 11, 12, 13, 14, 15, 16, 17] <| s_aload 0 <| s_get gyM 9 9 <| s_const 245 <| s_ald gyM 0 <| s_const 100 <| s_cmp gc_gt (s_const 0 <| s_mask [true, false, false, true, false, true] <| fX9_holds_k54 N K21) (s_const 1 <| s_mask [true, false, false, true, false, true] <| fX9_holds_k54 N K21)))
def fX9_holds_k21 (N : Nat) : gK := s_lp (fX9_holds_b21 N) N
def fX9_holds_k0 (N : Nat) : gK :=
  s_aload 0 <| s_get gyM 9 9 <| s_const 65 <| s_const 11 <| s_iload 1 <| s_bin gb_mul <| s_bin gb_add <| s_const 2 <| s_bin gb_add <| s_iload 2 <| s_ast gyM 0 <| s_const 1 <| s_istore 4 <| s_const 0 <| s_istore 5 <| s_mask [true, false, false, true, true, true] <| fX9_holds_k21 N
def fX9_holds (N : Nat) : List Value → gM → Option (gR × gM) := gFn 6 (fX9_holds_k0 N)
def fX9_sustainable_k89 (N : Nat) (K55 : gK) : gK :=
  s_bin gb_add <| s_istore 3 <| s_aload 0 <| s_get gyM 9 10 <| s_const 0 <| s_aload 0 <| s_get gyM 9 9 <| s_const 0 <| s_ca gV (fX9_copy N 2746 2746) 4 [4, 3] <| s_mask [true, true, true, true, true] <| K55
def fX9_sustainable_b55 (N : Nat) : gK → gK := fun K55 =>
  s_iload 4 <| s_if gz_eq (s_iload 3 <| s_iret) (s_iload 3 <| s_const 300 <| s_cmp gc_ge (s_iload 3 <| s_iret) (s_aload 0 <| s_iload 1 <| s_iload 3 <| s_const 1 <| s_bin gb_add <| s_iload 2 <| s_cav gI (fX9_holds N) 4 [0, 1, 2, 3, 4, 5, 6, 7, 8, 9, 10, 11, 12, 13, 14, 15, 16, 17] <| s_istore 4 <| s_iload 3 <| s_iload 4 <| s_if gz_eq (s_const 0 <| s_mask [true, true, true, false, true] <| fX9_sustainable_k89 N K55) (s_const 1 <| s_mask [true, true, true, false, true] <| fX9_sustainable_k89 N K55)))
def fX9_sustainable_k55 (N : Nat) : gK := s_lp (fX9_sustainable_b55 N) N
def fX9_sustainable_k28 (N : Nat) : gK :=
  s_const 2 <| s_cav gI (fX9_fails N) 3 [0, 1, 2, 3, 4, 5, 6, 7, 8, 9, 10, 11, 12, 13, 14, 15, 16, 17] <| s_if gz_eq (s_const (-1) <| s_istore 3 <| s_aload 0 <| s_get gyM 9 9 <| s_const 0 <| s_aload 0 <| s_get gyM 9 10 <| s_const 0 <| s_ca gV (fX9_copy N 2746 2746) 4 [3, 4] <| s_const 1 <| s_istore 4 <| s_mask [true, true, true, true, true] <| fX9_sustainable_k55 N) (s_const 0 <| s_iret)
def fX9_sustainable_k0 (N : Nat) : gK :=
  s_aload 0 <| s_const 0 <| s_put gyM 9 0 <| s_aload 0 <| s_aload 0 <| s_iload 1 <| s_cav gI (fX9_isFlow N) 2 [0, 1, 2, 3, 4, 5, 6, 7, 8, 9, 10, 11, 12, 13, 14, 15, 16, 17] <| s_const 1 <| s_cav gI (fX9_fails N) 3 [0, 1, 2, 3, 4, 5, 6, 7, 8, 9, 10, 11, 12, 13, 14, 15, 16, 17] <| s_if gz_ne (s_const 0 <| s_iret) (s_aload 0 <| s_iload 2 <| s_i2l <| s_lconst 1 <| s_lconst 20 <| s_ca gI (fX9_in N) 3 [] <| s_mask [true, true, true, false, false] <| fX9_sustainable_k28 N)
def fX9_sustainable (N : Nat) : List Value → gM → Option (gR × gM) := gFn 5 (fX9_sustainable_k0 N)
def fX1_remember_k56 (N : Nat) : gK :=
  s_aload 0 <| s_get gyH 1 0 <| s_aload 0 <| s_get gyH 1 1 <| s_qld gyH <| s_aload 1 <| s_dy 1 [(2, s_cav gV (fX7_copyFrom N) 2 [2, 3, 4, 5, 6, 7, 8, 9, 10, 11, 12, 13, 14, 15, 16, 17, 18, 19, 20, 21, 122, 123, 124, 125, 126, 127, 128, 129, 130, 131, 132, 133, 134, 135, 136, 137, 138, 139, 140, 141] <| s_aload 0 <| s_dup <| s_get gyH 1 1 <| s_const 1 <| s_bin gb_add <| s_put gyH 1 1 <| s_vret), (22, s_cav gV (fX7_copyFrom N) 2 [22, 23, 24, 25, 26, 27, 28, 29, 30, 31, 32, 33, 34, 35, 36, 37, 38, 39, 40, 41, 122, 123, 124, 125, 126, 127, 128, 129, 130, 131, 132, 133, 134, 135, 136, 137, 138, 139, 140, 141] <| s_aload 0 <| s_dup <| s_get gyH 1 1 <| s_const 1 <| s_bin gb_add <| s_put gyH 1 1 <| s_vret), (42, s_cav gV (fX7_copyFrom N) 2 [42, 43, 44, 45, 46, 47, 48, 49, 50, 51, 52, 53, 54, 55, 56, 57, 58, 59, 60, 61, 122, 123, 124, 125, 126, 127, 128, 129, 130, 131, 132, 133, 134, 135, 136, 137, 138, 139, 140, 141] <| s_aload 0 <| s_dup <| s_get gyH 1 1 <| s_const 1 <| s_bin gb_add <| s_put gyH 1 1 <| s_vret), (62, s_cav gV (fX7_copyFrom N) 2 [62, 63, 64, 65, 66, 67, 68, 69, 70, 71, 72, 73, 74, 75, 76, 77, 78, 79, 80, 81, 122, 123, 124, 125, 126, 127, 128, 129, 130, 131, 132, 133, 134, 135, 136, 137, 138, 139, 140, 141] <| s_aload 0 <| s_dup <| s_get gyH 1 1 <| s_const 1 <| s_bin gb_add <| s_put gyH 1 1 <| s_vret), (82, s_cav gV (fX7_copyFrom N) 2 [82, 83, 84, 85, 86, 87, 88, 89, 90, 91, 92, 93, 94, 95, 96, 97, 98, 99, 100, 101, 122, 123, 124, 125, 126, 127, 128, 129, 130, 131, 132, 133, 134, 135, 136, 137, 138, 139, 140, 141] <| s_aload 0 <| s_dup <| s_get gyH 1 1 <| s_const 1 <| s_bin gb_add <| s_put gyH 1 1 <| s_vret), (102, s_cav gV (fX7_copyFrom N) 2 [102, 103, 104, 105, 106, 107, 108, 109, 110, 111, 112, 113, 114, 115, 116, 117, 118, 119, 120, 121, 122, 123, 124, 125, 126, 127, 128, 129, 130, 131, 132, 133, 134, 135, 136, 137, 138, 139, 140, 141] <| s_aload 0 <| s_dup <| s_get gyH 1 1 <| s_const 1 <| s_bin gb_add <| s_put gyH 1 1 <| s_vret)]
def fX1_remember_b18 (N : Nat) : gK → gK := fun K18 =>
  s_iload 3 <| s_const 6 <| s_cmp gc_ge (s_aload 0 <| s_get gyH 1 0 <| s_const 5 <| s_aload 2 <| s_qst gyH <| s_aload 0 <| s_const 5 <| s_put gyH 1 1 <| s_mask [true, true, false, false] <| fX1_remember_k56 N) (s_aload 0 <| s_get gyH 1 0 <| s_iload 3 <| s_const 1 <| s_bin gb_sub <| s_aload 0 <| s_get gyH 1 0 <| s_iload 3 <| s_qld gyH <| s_qst gyH <| s_iinc 3 1 <| s_mask [true, true, true, true] <| K18)
def fX1_remember_k18 (N : Nat) : gK := s_lp (fX1_remember_b18 N) N
def fX1_remember_k0 (N : Nat) : gK :=
  s_aload 0 <| s_get gyH 1 1 <| s_const 6 <| s_cmp gc_lt (s_mask [true, true, false, false] <| fX1_remember_k56 N) (s_aload 0 <| s_get gyH 1 0 <| s_const 0 <| s_qld gyH <| s_astore 2 <| s_const 1 <| s_istore 3 <| s_mask [true, true, true, true] <| fX1_remember_k18 N)
def fX1_remember (N : Nat) : List Value → gM → Option (gR × gM) := gFn 4 (fX1_remember_k0 N)
def fX1_takeBack_k0 (N : Nat) : gK :=
  s_aload 0 <| s_get gyH 1 1 <| s_if gz_le (s_vret) (s_aload 0 <| s_dup <| s_get gyH 1 1 <| s_const 1 <| s_bin gb_sub <| s_put gyH 1 1 <| s_aload 1 <| s_aload 0 <| s_get gyH 1 0 <| s_aload 0 <| s_get gyH 1 1 <| s_qld gyH <| s_dy 0 [(2, s_cav gV (fX7_copyFrom N) 2 [122, 123, 124, 125, 126, 127, 128, 129, 130, 131, 132, 133, 134, 135, 136, 137, 138, 139, 140, 141, 2, 3, 4, 5, 6, 7, 8, 9, 10, 11, 12, 13, 14, 15, 16, 17, 18, 19, 20, 21] <| s_vret), (22, s_cav gV (fX7_copyFrom N) 2 [122, 123, 124, 125, 126, 127, 128, 129, 130, 131, 132, 133, 134, 135, 136, 137, 138, 139, 140, 141, 22, 23, 24, 25, 26, 27, 28, 29, 30, 31, 32, 33, 34, 35, 36, 37, 38, 39, 40, 41] <| s_vret), (42, s_cav gV (fX7_copyFrom N) 2 [122, 123, 124, 125, 126, 127, 128, 129, 130, 131, 132, 133, 134, 135, 136, 137, 138, 139, 140, 141, 42, 43, 44, 45, 46, 47, 48, 49, 50, 51, 52, 53, 54, 55, 56, 57, 58, 59, 60, 61] <| s_vret), (62, s_cav gV (fX7_copyFrom N) 2 [122, 123, 124, 125, 126, 127, 128, 129, 130, 131, 132, 133, 134, 135, 136, 137, 138, 139, 140, 141, 62, 63, 64, 65, 66, 67, 68, 69, 70, 71, 72, 73, 74, 75, 76, 77, 78, 79, 80, 81] <| s_vret), (82, s_cav gV (fX7_copyFrom N) 2 [122, 123, 124, 125, 126, 127, 128, 129, 130, 131, 132, 133, 134, 135, 136, 137, 138, 139, 140, 141, 82, 83, 84, 85, 86, 87, 88, 89, 90, 91, 92, 93, 94, 95, 96, 97, 98, 99, 100, 101] <| s_vret), (102, s_cav gV (fX7_copyFrom N) 2 [122, 123, 124, 125, 126, 127, 128, 129, 130, 131, 132, 133, 134, 135, 136, 137, 138, 139, 140, 141, 102, 103, 104, 105, 106, 107, 108, 109, 110, 111, 112, 113, 114, 115, 116, 117, 118, 119, 120, 121] <| s_vret)])
def fX1_takeBack (N : Nat) : List Value → gM → Option (gR × gM) := gFn 2 (fX1_takeBack_k0 N)
def fX8_append_k87 (N : Nat) : gK :=
  s_aload 0 <| s_get gyX 8 4 <| s_iload 5 <| s_cav gV (fX5_putBytes N) 2 [183, 184, 185, 186, 187, 188, 189, 190, 191, 192, 193] <| s_aload 0 <| s_get gyX 8 4 <| s_get gyX 5 2 <| s_iret
def fX8_append_k62 (N : Nat) : gK :=
  s_aload 0 <| s_get gyX 8 4 <| s_iload 2 <| s_cav gV (fX5_putBytes N) 2 [183, 184, 185, 186, 187, 188, 189, 190, 191, 192, 193] <| s_aload 0 <| s_get gyX 8 4 <| s_iload 3 <| s_cav gV (fX5_putBytes N) 2 [183, 184, 185, 186, 187, 188, 189, 190, 191, 192, 193] <| s_aload 0 <| s_get gyX 8 4 <| s_iload 4 <| s_cav gV (fX5_putBytes N) 2 [183, 184, 185, 186, 187, 188, 189, 190, 191, 192, 193] <| s_mask [true, false, false, false, false, true, false] <| fX8_append_k87 N
def fX8_append_k13 (N : Nat) : gK :=
  s_bin gb_add <| s_iload 4 <| s_ca gI (fX8_countBytes N) 1 [] <| s_bin gb_add <| s_iload 5 <| s_ca gI (fX8_countBytes N) 1 [] <| s_bin gb_add <| s_istore 6 <| s_aload 0 <| s_get gyX 8 4 <| s_get gyX 5 2 <| s_iload 6 <| s_bin gb_add <| s_const 700 <| s_cmp gc_le (s_aload 0 <| s_get gyX 8 4 <| s_iload 1 <| s_cav gV (fX5_putBytes N) 2 [183, 184, 185, 186, 187, 188, 189, 190, 191, 192, 193] <| s_mask [true, false, true, true, true, true, false] <| fX8_append_k62 N) (s_throw "java/lang/IllegalStateException")
def fX8_append_k0 (N : Nat) : gK :=
  s_iload 1 <| s_ca gI (fX8_countBytes N) 1 [] <| s_iload 2 <| s_ca gI (fX8_countBytes N) 1 [] <| s_bin gb_add <| s_iload 3 <| s_ca gI (fX8_countBytes N) 1 [] <| s_mask [true, true, true, true, true, true, false] <| fX8_append_k13 N
def fX8_append (N : Nat) : List Value → gM → Option (gR × gM) := gFn 7 (fX8_append_k0 N)
def fX8_checkRange_k0 (N : Nat) : gK :=
  s_iload 0 <| s_iload 1 <| s_cmp gc_lt (s_throw "java/lang/IllegalArgumentException") (s_iload 0 <| s_iload 2 <| s_cmp gc_le (s_vret) (s_throw "java/lang/IllegalArgumentException"))
def fX8_checkRange (N : Nat) : List Value → gM → Option (gR × gM) := gFn 3 (fX8_checkRange_k0 N)
def fX8_truncate_k0 (N : Nat) : gK :=
  s_iload 1 <| s_const 0 <| s_aload 0 <| s_get gyX 8 4 <| s_get gyX 5 2 <| s_ca gXV (fX8_checkRange N) 3 [] <| s_aload 0 <| s_get gyX 8 4 <| s_iload 1 <| s_put gyX 5 2 <| s_iload 1 <| s_iret
def fX8_truncate (N : Nat) : List Value → gM → Option (gR × gM) := gFn 2 (fX8_truncate_k0 N)
def fX8_errorPosition_k0 (N : Nat) : gK :=
  s_aload 0 <| s_get gyX 8 4 <| s_cav gI (fX5_read N) 1 [183, 184, 185, 186, 187, 188, 189, 190, 191, 192, 193] <| s_iret
def fX8_errorPosition (N : Nat) : List Value → gM → Option (gR × gM) := gFn 1 (fX8_errorPosition_k0 N)
def fX8_load_k0 (N : Nat) : gK :=
  s_aload 0 <| s_get gyX 8 4 <| s_cav gI (fX5_read N) 1 [183, 184, 185, 186, 187, 188, 189, 190, 191, 192, 193] <| s_const (-1) <| s_cmp gc_eq (s_aload 0 <| s_get gyX 8 0 <| s_aload 0 <| s_get gyX 8 4 <| s_get gyX 5 1 <| s_cav gV (fX7_begin N) 2 [1, 2, 3, 4, 5, 6, 7, 8, 9, 10, 11, 12, 13, 14, 15, 16, 17, 18, 19, 20, 185, 186, 187, 188, 189, 190, 191, 192, 193] <| s_aload 0 <| s_get gyX 8 4 <| s_const 0 <| s_put gyX 5 2 <| s_aload 0 <| s_get gyX 8 3 <| s_const 0 <| s_put gyX 1 1 <| s_aload 0 <| s_const 0 <| s_putz gyX 8 7 <| s_aload 0 <| s_get gyX 8 0 <| s_get gyX 7 0 <| s_get gyX 2 1 <| s_iret) (s_throw "java/lang/IllegalArgumentException")
def fX8_load (N : Nat) : List Value → gM → Option (gR × gM) := gFn 1 (fX8_load_k0 N)
def fX8_checkNode_k0 (N : Nat) : gK :=
  s_iload 1 <| s_if gz_lt (s_throw "java/lang/IndexOutOfBoundsException") (s_iload 1 <| s_aload 0 <| s_get gyX 8 0 <| s_get gyX 7 0 <| s_get gyX 2 0 <| s_cmp gc_lt (s_vret) (s_throw "java/lang/IndexOutOfBoundsException"))
def fX8_checkNode (N : Nat) : List Value → gM → Option (gR × gM) := gFn 2 (fX8_checkNode_k0 N)
def fX8_checkTwoNodes_k0 (N : Nat) : gK :=
  s_aload 0 <| s_iload 1 <| s_cav gXV (fX8_checkNode N) 2 [0, 1, 2, 3, 4, 5, 6, 7, 8, 9, 10, 11, 12, 13, 14, 15, 16, 17, 18, 19, 20, 21, 22, 23, 24, 25, 26, 27, 28, 29, 30, 31, 32, 33, 34, 35, 36, 37, 38, 39, 40, 41, 42, 43, 44, 45, 46, 47, 48, 49, 50, 51, 52, 53, 54, 55, 56, 57, 58, 59, 60, 61, 62, 63, 64, 65, 66, 67, 68, 69, 70, 71, 72, 73, 74, 75, 76, 77, 78, 79, 80, 81, 82, 83, 84, 85, 86, 87, 88, 89, 90, 91, 92, 93, 94, 95, 96, 97, 98, 99, 100, 101, 102, 103, 104, 105, 106, 107, 108, 109, 110, 111, 112, 113, 114, 115, 116, 117, 118, 119, 120, 121, 122, 123, 124, 125, 126, 127, 128, 129, 130, 131, 132, 133, 134, 135, 136, 137, 138, 139, 140, 141, 142, 143, 144, 145, 146, 147, 148, 149, 150, 151, 152, 153, 154, 155, 156, 157, 158, 159, 160, 161, 162, 163, 164, 165, 166, 167, 168, 169, 170, 171, 172, 173, 174, 175, 176, 177, 178, 179, 180, 181, 182, 183, 184, 185, 186, 187, 188, 189, 190, 191, 192, 193, 194, 195, 196, 197, 198, 199, 200, 201, 202, 203] <| s_aload 0 <| s_iload 2 <| s_cav gXV (fX8_checkNode N) 2 [0, 1, 2, 3, 4, 5, 6, 7, 8, 9, 10, 11, 12, 13, 14, 15, 16, 17, 18, 19, 20, 21, 22, 23, 24, 25, 26, 27, 28, 29, 30, 31, 32, 33, 34, 35, 36, 37, 38, 39, 40, 41, 42, 43, 44, 45, 46, 47, 48, 49, 50, 51, 52, 53, 54, 55, 56, 57, 58, 59, 60, 61, 62, 63, 64, 65, 66, 67, 68, 69, 70, 71, 72, 73, 74, 75, 76, 77, 78, 79, 80, 81, 82, 83, 84, 85, 86, 87, 88, 89, 90, 91, 92, 93, 94, 95, 96, 97, 98, 99, 100, 101, 102, 103, 104, 105, 106, 107, 108, 109, 110, 111, 112, 113, 114, 115, 116, 117, 118, 119, 120, 121, 122, 123, 124, 125, 126, 127, 128, 129, 130, 131, 132, 133, 134, 135, 136, 137, 138, 139, 140, 141, 142, 143, 144, 145, 146, 147, 148, 149, 150, 151, 152, 153, 154, 155, 156, 157, 158, 159, 160, 161, 162, 163, 164, 165, 166, 167, 168, 169, 170, 171, 172, 173, 174, 175, 176, 177, 178, 179, 180, 181, 182, 183, 184, 185, 186, 187, 188, 189, 190, 191, 192, 193, 194, 195, 196, 197, 198, 199, 200, 201, 202, 203] <| s_iload 1 <| s_iload 2 <| s_cmp gc_ne (s_vret) (s_throw "java/lang/IllegalArgumentException")
def fX8_checkTwoNodes (N : Nat) : List Value → gM → Option (gR × gM) := gFn 3 (fX8_checkTwoNodes_k0 N)
def fX8_addLink_k39 (N : Nat) : gK :=
  s_const (-1) <| s_cmp gc_eq (s_aload 0 <| s_get gyX 8 3 <| s_aload 0 <| s_get gyX 8 0 <| s_cav gV (fX1_remember N) 2 [61, 62, 63, 64, 65, 66, 67, 68, 69, 70, 71, 72, 73, 74, 75, 76, 77, 78, 79, 80, 81, 82, 83, 84, 85, 86, 87, 88, 89, 90, 91, 92, 93, 94, 95, 96, 97, 98, 99, 100, 101, 102, 103, 104, 105, 106, 107, 108, 109, 110, 111, 112, 113, 114, 115, 116, 117, 118, 119, 120, 121, 122, 123, 124, 125, 126, 127, 128, 129, 130, 131, 132, 133, 134, 135, 136, 137, 138, 139, 140, 141, 142, 143, 144, 145, 146, 147, 148, 149, 150, 151, 152, 153, 154, 155, 156, 157, 158, 159, 160, 161, 162, 163, 164, 165, 166, 167, 168, 169, 170, 171, 172, 173, 174, 175, 176, 177, 178, 179, 180, 181, 182, 1, 2, 3, 4, 5, 6, 7, 8, 9, 10, 11, 12, 13, 14, 15, 16, 17, 18, 19, 20] <| s_aload 0 <| s_get gyX 8 0 <| s_get gyX 7 0 <| s_iload 1 <| s_iload 2 <| s_iload 3 <| s_cav gV (fX2_putLink N) 4 [2, 3, 4, 5, 6, 7, 8, 9, 10] <| s_aload 0 <| s_get gyX 8 0 <| s_get gyX 7 0 <| s_get gyX 2 1 <| s_const 1 <| s_bin gb_sub <| s_iret) (s_throw "java/lang/IllegalStateException")
def fX8_addLink_k0 (N : Nat) : gK :=
  s_aload 0 <| s_iload 1 <| s_iload 2 <| s_cav gXV (fX8_checkTwoNodes N) 3 [0, 1, 2, 3, 4, 5, 6, 7, 8, 9, 10, 11, 12, 13, 14, 15, 16, 17, 18, 19, 20, 21, 22, 23, 24, 25, 26, 27, 28, 29, 30, 31, 32, 33, 34, 35, 36, 37, 38, 39, 40, 41, 42, 43, 44, 45, 46, 47, 48, 49, 50, 51, 52, 53, 54, 55, 56, 57, 58, 59, 60, 61, 62, 63, 64, 65, 66, 67, 68, 69, 70, 71, 72, 73, 74, 75, 76, 77, 78, 79, 80, 81, 82, 83, 84, 85, 86, 87, 88, 89, 90, 91, 92, 93, 94, 95, 96, 97, 98, 99, 100, 101, 102, 103, 104, 105, 106, 107, 108, 109, 110, 111, 112, 113, 114, 115, 116, 117, 118, 119, 120, 121, 122, 123, 124, 125, 126, 127, 128, 129, 130, 131, 132, 133, 134, 135, 136, 137, 138, 139, 140, 141, 142, 143, 144, 145, 146, 147, 148, 149, 150, 151, 152, 153, 154, 155, 156, 157, 158, 159, 160, 161, 162, 163, 164, 165, 166, 167, 168, 169, 170, 171, 172, 173, 174, 175, 176, 177, 178, 179, 180, 181, 182, 183, 184, 185, 186, 187, 188, 189, 190, 191, 192, 193, 194, 195, 196, 197, 198, 199, 200, 201, 202, 203] <| s_iload 3 <| s_const 1 <| s_const 5 <| s_ca gXV (fX8_checkRange N) 3 [] <| s_aload 0 <| s_get gyX 8 0 <| s_get gyX 7 0 <| s_get gyX 2 1 <| s_const 14 <| s_cmp gc_ge (s_throw "java/lang/IllegalStateException") (s_aload 0 <| s_get gyX 8 0 <| s_get gyX 7 0 <| s_iload 1 <| s_iload 2 <| s_cav gI (fX2_findLink N) 3 [2, 3, 4, 5, 6, 7, 8, 9, 10] <| s_mask [true, true, true, true] <| fX8_addLink_k39 N)
def fX8_addLink (N : Nat) : List Value → gM → Option (gR × gM) := gFn 4 (fX8_addLink_k0 N)
def fX8_checkLink_k0 (N : Nat) : gK :=
  s_iload 1 <| s_if gz_lt (s_throw "java/lang/IndexOutOfBoundsException") (s_iload 1 <| s_aload 0 <| s_get gyX 8 0 <| s_get gyX 7 0 <| s_get gyX 2 1 <| s_cmp gc_lt (s_vret) (s_throw "java/lang/IndexOutOfBoundsException"))
def fX8_checkLink (N : Nat) : List Value → gM → Option (gR × gM) := gFn 2 (fX8_checkLink_k0 N)
def fX8_setCapacity_k22 (N : Nat) : gK :=
  s_aload 0 <| s_get gyX 8 0 <| s_get gyX 7 0 <| s_get gyX 2 5 <| s_iload 1 <| s_ald gyX 0 <| s_istore 3 <| s_aload 0 <| s_get gyX 8 0 <| s_get gyX 7 0 <| s_get gyX 2 5 <| s_iload 1 <| s_iload 2 <| s_ast gyX 0 <| s_iload 3 <| s_iret
def fX8_setCapacity_k0 (N : Nat) : gK :=
  s_aload 0 <| s_iload 1 <| s_cav gXV (fX8_checkLink N) 2 [0, 1, 2, 3, 4, 5, 6, 7, 8, 9, 10, 11, 12, 13, 14, 15, 16, 17, 18, 19, 20, 21, 22, 23, 24, 25, 26, 27, 28, 29, 30, 31, 32, 33, 34, 35, 36, 37, 38, 39, 40, 41, 42, 43, 44, 45, 46, 47, 48, 49, 50, 51, 52, 53, 54, 55, 56, 57, 58, 59, 60, 61, 62, 63, 64, 65, 66, 67, 68, 69, 70, 71, 72, 73, 74, 75, 76, 77, 78, 79, 80, 81, 82, 83, 84, 85, 86, 87, 88, 89, 90, 91, 92, 93, 94, 95, 96, 97, 98, 99, 100, 101, 102, 103, 104, 105, 106, 107, 108, 109, 110, 111, 112, 113, 114, 115, 116, 117, 118, 119, 120, 121, 122, 123, 124, 125, 126, 127, 128, 129, 130, 131, 132, 133, 134, 135, 136, 137, 138, 139, 140, 141, 142, 143, 144, 145, 146, 147, 148, 149, 150, 151, 152, 153, 154, 155, 156, 157, 158, 159, 160, 161, 162, 163, 164, 165, 166, 167, 168, 169, 170, 171, 172, 173, 174, 175, 176, 177, 178, 179, 180, 181, 182, 183, 184, 185, 186, 187, 188, 189, 190, 191, 192, 193, 194, 195, 196, 197, 198, 199, 200, 201, 202, 203] <| s_iload 2 <| s_const 1 <| s_const 5 <| s_ca gXV (fX8_checkRange N) 3 [] <| s_aload 0 <| s_get gyX 8 3 <| s_aload 0 <| s_get gyX 8 0 <| s_cav gV (fX1_remember N) 2 [61, 62, 63, 64, 65, 66, 67, 68, 69, 70, 71, 72, 73, 74, 75, 76, 77, 78, 79, 80, 81, 82, 83, 84, 85, 86, 87, 88, 89, 90, 91, 92, 93, 94, 95, 96, 97, 98, 99, 100, 101, 102, 103, 104, 105, 106, 107, 108, 109, 110, 111, 112, 113, 114, 115, 116, 117, 118, 119, 120, 121, 122, 123, 124, 125, 126, 127, 128, 129, 130, 131, 132, 133, 134, 135, 136, 137, 138, 139, 140, 141, 142, 143, 144, 145, 146, 147, 148, 149, 150, 151, 152, 153, 154, 155, 156, 157, 158, 159, 160, 161, 162, 163, 164, 165, 166, 167, 168, 169, 170, 171, 172, 173, 174, 175, 176, 177, 178, 179, 180, 181, 182, 1, 2, 3, 4, 5, 6, 7, 8, 9, 10, 11, 12, 13, 14, 15, 16, 17, 18, 19, 20] <| s_mask [true, true, true, false] <| fX8_setCapacity_k22 N
def fX8_setCapacity (N : Nat) : List Value → gM → Option (gR × gM) := gFn 4 (fX8_setCapacity_k0 N)
def fX8_setConflict_k36 (N : Nat) : gK :=
  s_aload 0 <| s_get gyX 8 0 <| s_get gyX 7 0 <| s_iload 1 <| s_iload 2 <| s_cav gI (fX2_inConflict N) 3 [2, 3, 4, 5, 6, 7, 8, 9, 10] <| s_istore 4 <| s_aload 0 <| s_get gyX 8 0 <| s_get gyX 7 0 <| s_iload 1 <| s_iload 2 <| s_iload 3 <| s_cav gV (fX2_putConflict N) 4 [2, 3, 4, 5, 6, 7, 8, 9, 10] <| s_iload 4 <| s_zret
def fX8_setConflict_k0 (N : Nat) : gK :=
  s_aload 0 <| s_iload 1 <| s_cav gXV (fX8_checkLink N) 2 [0, 1, 2, 3, 4, 5, 6, 7, 8, 9, 10, 11, 12, 13, 14, 15, 16, 17, 18, 19, 20, 21, 22, 23, 24, 25, 26, 27, 28, 29, 30, 31, 32, 33, 34, 35, 36, 37, 38, 39, 40, 41, 42, 43, 44, 45, 46, 47, 48, 49, 50, 51, 52, 53, 54, 55, 56, 57, 58, 59, 60, 61, 62, 63, 64, 65, 66, 67, 68, 69, 70, 71, 72, 73, 74, 75, 76, 77, 78, 79, 80, 81, 82, 83, 84, 85, 86, 87, 88, 89, 90, 91, 92, 93, 94, 95, 96, 97, 98, 99, 100, 101, 102, 103, 104, 105, 106, 107, 108, 109, 110, 111, 112, 113, 114, 115, 116, 117, 118, 119, 120, 121, 122, 123, 124, 125, 126, 127, 128, 129, 130, 131, 132, 133, 134, 135, 136, 137, 138, 139, 140, 141, 142, 143, 144, 145, 146, 147, 148, 149, 150, 151, 152, 153, 154, 155, 156, 157, 158, 159, 160, 161, 162, 163, 164, 165, 166, 167, 168, 169, 170, 171, 172, 173, 174, 175, 176, 177, 178, 179, 180, 181, 182, 183, 184, 185, 186, 187, 188, 189, 190, 191, 192, 193, 194, 195, 196, 197, 198, 199, 200, 201, 202, 203] <| s_aload 0 <| s_iload 2 <| s_cav gXV (fX8_checkLink N) 2 [0, 1, 2, 3, 4, 5, 6, 7, 8, 9, 10, 11, 12, 13, 14, 15, 16, 17, 18, 19, 20, 21, 22, 23, 24, 25, 26, 27, 28, 29, 30, 31, 32, 33, 34, 35, 36, 37, 38, 39, 40, 41, 42, 43, 44, 45, 46, 47, 48, 49, 50, 51, 52, 53, 54, 55, 56, 57, 58, 59, 60, 61, 62, 63, 64, 65, 66, 67, 68, 69, 70, 71, 72, 73, 74, 75, 76, 77, 78, 79, 80, 81, 82, 83, 84, 85, 86, 87, 88, 89, 90, 91, 92, 93, 94, 95, 96, 97, 98, 99, 100, 101, 102, 103, 104, 105, 106, 107, 108, 109, 110, 111, 112, 113, 114, 115, 116, 117, 118, 119, 120, 121, 122, 123, 124, 125, 126, 127, 128, 129, 130, 131, 132, 133, 134, 135, 136, 137, 138, 139, 140, 141, 142, 143, 144, 145, 146, 147, 148, 149, 150, 151, 152, 153, 154, 155, 156, 157, 158, 159, 160, 161, 162, 163, 164, 165, 166, 167, 168, 169, 170, 171, 172, 173, 174, 175, 176, 177, 178, 179, 180, 181, 182, 183, 184, 185, 186, 187, 188, 189, 190, 191, 192, 193, 194, 195, 196, 197, 198, 199, 200, 201, 202, 203] <| s_iload 1 <| s_iload 2 <| s_cmp gc_ne (s_aload 0 <| s_get gyX 8 3 <| s_aload 0 <| s_get gyX 8 0 <| s_cav gV (fX1_remember N) 2 [61, 62, 63, 64, 65, 66, 67, 68, 69, 70, 71, 72, 73, 74, 75, 76, 77, 78, 79, 80, 81, 82, 83, 84, 85, 86, 87, 88, 89, 90, 91, 92, 93, 94, 95, 96, 97, 98, 99, 100, 101, 102, 103, 104, 105, 106, 107, 108, 109, 110, 111, 112, 113, 114, 115, 116, 117, 118, 119, 120, 121, 122, 123, 124, 125, 126, 127, 128, 129, 130, 131, 132, 133, 134, 135, 136, 137, 138, 139, 140, 141, 142, 143, 144, 145, 146, 147, 148, 149, 150, 151, 152, 153, 154, 155, 156, 157, 158, 159, 160, 161, 162, 163, 164, 165, 166, 167, 168, 169, 170, 171, 172, 173, 174, 175, 176, 177, 178, 179, 180, 181, 182, 1, 2, 3, 4, 5, 6, 7, 8, 9, 10, 11, 12, 13, 14, 15, 16, 17, 18, 19, 20] <| s_mask [true, true, true, true, false] <| fX8_setConflict_k36 N) (s_throw "java/lang/IllegalArgumentException")
def fX8_setConflict (N : Nat) : List Value → gM → Option (gR × gM) := gFn 5 (fX8_setConflict_k0 N)
def fX8_addFlow_k23 (N : Nat) : gK :=
  s_aload 0 <| s_get gyX 8 0 <| s_get gyX 7 0 <| s_get gyX 2 2 <| s_const 6 <| s_cmp gc_lt (s_aload 0 <| s_get gyX 8 3 <| s_aload 0 <| s_get gyX 8 0 <| s_cav gV (fX1_remember N) 2 [61, 62, 63, 64, 65, 66, 67, 68, 69, 70, 71, 72, 73, 74, 75, 76, 77, 78, 79, 80, 81, 82, 83, 84, 85, 86, 87, 88, 89, 90, 91, 92, 93, 94, 95, 96, 97, 98, 99, 100, 101, 102, 103, 104, 105, 106, 107, 108, 109, 110, 111, 112, 113, 114, 115, 116, 117, 118, 119, 120, 121, 122, 123, 124, 125, 126, 127, 128, 129, 130, 131, 132, 133, 134, 135, 136, 137, 138, 139, 140, 141, 142, 143, 144, 145, 146, 147, 148, 149, 150, 151, 152, 153, 154, 155, 156, 157, 158, 159, 160, 161, 162, 163, 164, 165, 166, 167, 168, 169, 170, 171, 172, 173, 174, 175, 176, 177, 178, 179, 180, 181, 182, 1, 2, 3, 4, 5, 6, 7, 8, 9, 10, 11, 12, 13, 14, 15, 16, 17, 18, 19, 20] <| s_aload 0 <| s_get gyX 8 0 <| s_get gyX 7 0 <| s_iload 1 <| s_iload 2 <| s_iload 3 <| s_iload 4 <| s_cav gV (fX2_putFlow N) 5 [2, 3, 4, 5, 6, 7, 8, 9, 10] <| s_aload 0 <| s_get gyX 8 0 <| s_get gyX 7 0 <| s_get gyX 2 2 <| s_const 1 <| s_bin gb_sub <| s_iret) (s_throw "java/lang/IllegalStateException")
def fX8_addFlow_k0 (N : Nat) : gK :=
  s_aload 0 <| s_iload 1 <| s_iload 2 <| s_cav gXV (fX8_checkTwoNodes N) 3 [0, 1, 2, 3, 4, 5, 6, 7, 8, 9, 10, 11, 12, 13, 14, 15, 16, 17, 18, 19, 20, 21, 22, 23, 24, 25, 26, 27, 28, 29, 30, 31, 32, 33, 34, 35, 36, 37, 38, 39, 40, 41, 42, 43, 44, 45, 46, 47, 48, 49, 50, 51, 52, 53, 54, 55, 56, 57, 58, 59, 60, 61, 62, 63, 64, 65, 66, 67, 68, 69, 70, 71, 72, 73, 74, 75, 76, 77, 78, 79, 80, 81, 82, 83, 84, 85, 86, 87, 88, 89, 90, 91, 92, 93, 94, 95, 96, 97, 98, 99, 100, 101, 102, 103, 104, 105, 106, 107, 108, 109, 110, 111, 112, 113, 114, 115, 116, 117, 118, 119, 120, 121, 122, 123, 124, 125, 126, 127, 128, 129, 130, 131, 132, 133, 134, 135, 136, 137, 138, 139, 140, 141, 142, 143, 144, 145, 146, 147, 148, 149, 150, 151, 152, 153, 154, 155, 156, 157, 158, 159, 160, 161, 162, 163, 164, 165, 166, 167, 168, 169, 170, 171, 172, 173, 174, 175, 176, 177, 178, 179, 180, 181, 182, 183, 184, 185, 186, 187, 188, 189, 190, 191, 192, 193, 194, 195, 196, 197, 198, 199, 200, 201, 202, 203] <| s_iload 3 <| s_const 0 <| s_const 300 <| s_ca gXV (fX8_checkRange N) 3 [] <| s_iload 4 <| s_const 0 <| s_const 200 <| s_ca gXV (fX8_checkRange N) 3 [] <| s_mask [true, true, true, true, true] <| fX8_addFlow_k23 N
def fX8_addFlow (N : Nat) : List Value → gM → Option (gR × gM) := gFn 5 (fX8_addFlow_k0 N)
def fX8_checkFlow_k0 (N : Nat) : gK :=
  s_iload 1 <| s_if gz_lt (s_throw "java/lang/IndexOutOfBoundsException") (s_iload 1 <| s_aload 0 <| s_get gyX 8 0 <| s_get gyX 7 0 <| s_get gyX 2 2 <| s_cmp gc_lt (s_vret) (s_throw "java/lang/IndexOutOfBoundsException"))
def fX8_checkFlow (N : Nat) : List Value → gM → Option (gR × gM) := gFn 2 (fX8_checkFlow_k0 N)
def fX8_replaceNumber_k0 (N : Nat) : gK :=
  s_aload 0 <| s_get gyX 8 3 <| s_aload 0 <| s_get gyX 8 0 <| s_cav gV (fX1_remember N) 2 [61, 62, 63, 64, 65, 66, 67, 68, 69, 70, 71, 72, 73, 74, 75, 76, 77, 78, 79, 80, 81, 82, 83, 84, 85, 86, 87, 88, 89, 90, 91, 92, 93, 94, 95, 96, 97, 98, 99, 100, 101, 102, 103, 104, 105, 106, 107, 108, 109, 110, 111, 112, 113, 114, 115, 116, 117, 118, 119, 120, 121, 122, 123, 124, 125, 126, 127, 128, 129, 130, 131, 132, 133, 134, 135, 136, 137, 138, 139, 140, 141, 142, 143, 144, 145, 146, 147, 148, 149, 150, 151, 152, 153, 154, 155, 156, 157, 158, 159, 160, 161, 162, 163, 164, 165, 166, 167, 168, 169, 170, 171, 172, 173, 174, 175, 176, 177, 178, 179, 180, 181, 182, 1, 2, 3, 4, 5, 6, 7, 8, 9, 10, 11, 12, 13, 14, 15, 16, 17, 18, 19, 20] <| s_aload 0 <| s_get gyX 8 0 <| s_get gyX 7 0 <| s_iload 1 <| s_iload 2 <| s_cav gI (fX2_getNumber N) 3 [2, 3, 4, 5, 6, 7, 8, 9, 10] <| s_istore 4 <| s_aload 0 <| s_get gyX 8 0 <| s_get gyX 7 0 <| s_iload 1 <| s_iload 2 <| s_iload 3 <| s_cav gV (fX2_putNumber N) 4 [2, 3, 4, 5, 6, 7, 8, 9, 10] <| s_iload 4 <| s_iret
def fX8_replaceNumber (N : Nat) : List Value → gM → Option (gR × gM) := gFn 5 (fX8_replaceNumber_k0 N)
def fX8_setRate_k0 (N : Nat) : gK :=
  s_aload 0 <| s_iload 1 <| s_cav gXV (fX8_checkFlow N) 2 [0, 1, 2, 3, 4, 5, 6, 7, 8, 9, 10, 11, 12, 13, 14, 15, 16, 17, 18, 19, 20, 21, 22, 23, 24, 25, 26, 27, 28, 29, 30, 31, 32, 33, 34, 35, 36, 37, 38, 39, 40, 41, 42, 43, 44, 45, 46, 47, 48, 49, 50, 51, 52, 53, 54, 55, 56, 57, 58, 59, 60, 61, 62, 63, 64, 65, 66, 67, 68, 69, 70, 71, 72, 73, 74, 75, 76, 77, 78, 79, 80, 81, 82, 83, 84, 85, 86, 87, 88, 89, 90, 91, 92, 93, 94, 95, 96, 97, 98, 99, 100, 101, 102, 103, 104, 105, 106, 107, 108, 109, 110, 111, 112, 113, 114, 115, 116, 117, 118, 119, 120, 121, 122, 123, 124, 125, 126, 127, 128, 129, 130, 131, 132, 133, 134, 135, 136, 137, 138, 139, 140, 141, 142, 143, 144, 145, 146, 147, 148, 149, 150, 151, 152, 153, 154, 155, 156, 157, 158, 159, 160, 161, 162, 163, 164, 165, 166, 167, 168, 169, 170, 171, 172, 173, 174, 175, 176, 177, 178, 179, 180, 181, 182, 183, 184, 185, 186, 187, 188, 189, 190, 191, 192, 193, 194, 195, 196, 197, 198, 199, 200, 201, 202, 203] <| s_iload 2 <| s_const 0 <| s_const 300 <| s_ca gXV (fX8_checkRange N) 3 [] <| s_aload 0 <| s_iload 1 <| s_const 2 <| s_iload 2 <| s_cav gI (fX8_replaceNumber N) 4 [0, 1, 2, 3, 4, 5, 6, 7, 8, 9, 10, 11, 12, 13, 14, 15, 16, 17, 18, 19, 20, 21, 22, 23, 24, 25, 26, 27, 28, 29, 30, 31, 32, 33, 34, 35, 36, 37, 38, 39, 40, 41, 42, 43, 44, 45, 46, 47, 48, 49, 50, 51, 52, 53, 54, 55, 56, 57, 58, 59, 60, 61, 62, 63, 64, 65, 66, 67, 68, 69, 70, 71, 72, 73, 74, 75, 76, 77, 78, 79, 80, 81, 82, 83, 84, 85, 86, 87, 88, 89, 90, 91, 92, 93, 94, 95, 96, 97, 98, 99, 100, 101, 102, 103, 104, 105, 106, 107, 108, 109, 110, 111, 112, 113, 114, 115, 116, 117, 118, 119, 120, 121, 122, 123, 124, 125, 126, 127, 128, 129, 130, 131, 132, 133, 134, 135, 136, 137, 138, 139, 140, 141, 142, 143, 144, 145, 146, 147, 148, 149, 150, 151, 152, 153, 154, 155, 156, 157, 158, 159, 160, 161, 162, 163, 164, 165, 166, 167, 168, 169, 170, 171, 172, 173, 174, 175, 176, 177, 178, 179, 180, 181, 182, 183, 184, 185, 186, 187, 188, 189, 190, 191, 192, 193, 194, 195, 196, 197, 198, 199, 200, 201, 202, 203] <| s_iret
def fX8_setRate (N : Nat) : List Value → gM → Option (gR × gM) := gFn 3 (fX8_setRate_k0 N)
def fX8_setBudget_k0 (N : Nat) : gK :=
  s_aload 0 <| s_iload 1 <| s_cav gXV (fX8_checkFlow N) 2 [0, 1, 2, 3, 4, 5, 6, 7, 8, 9, 10, 11, 12, 13, 14, 15, 16, 17, 18, 19, 20, 21, 22, 23, 24, 25, 26, 27, 28, 29, 30, 31, 32, 33, 34, 35, 36, 37, 38, 39, 40, 41, 42, 43, 44, 45, 46, 47, 48, 49, 50, 51, 52, 53, 54, 55, 56, 57, 58, 59, 60, 61, 62, 63, 64, 65, 66, 67, 68, 69, 70, 71, 72, 73, 74, 75, 76, 77, 78, 79, 80, 81, 82, 83, 84, 85, 86, 87, 88, 89, 90, 91, 92, 93, 94, 95, 96, 97, 98, 99, 100, 101, 102, 103, 104, 105, 106, 107, 108, 109, 110, 111, 112, 113, 114, 115, 116, 117, 118, 119, 120, 121, 122, 123, 124, 125, 126, 127, 128, 129, 130, 131, 132, 133, 134, 135, 136, 137, 138, 139, 140, 141, 142, 143, 144, 145, 146, 147, 148, 149, 150, 151, 152, 153, 154, 155, 156, 157, 158, 159, 160, 161, 162, 163, 164, 165, 166, 167, 168, 169, 170, 171, 172, 173, 174, 175, 176, 177, 178, 179, 180, 181, 182, 183, 184, 185, 186, 187, 188, 189, 190, 191, 192, 193, 194, 195, 196, 197, 198, 199, 200, 201, 202, 203] <| s_iload 2 <| s_const 0 <| s_const 200 <| s_ca gXV (fX8_checkRange N) 3 [] <| s_aload 0 <| s_iload 1 <| s_const 3 <| s_iload 2 <| s_cav gI (fX8_replaceNumber N) 4 [0, 1, 2, 3, 4, 5, 6, 7, 8, 9, 10, 11, 12, 13, 14, 15, 16, 17, 18, 19, 20, 21, 22, 23, 24, 25, 26, 27, 28, 29, 30, 31, 32, 33, 34, 35, 36, 37, 38, 39, 40, 41, 42, 43, 44, 45, 46, 47, 48, 49, 50, 51, 52, 53, 54, 55, 56, 57, 58, 59, 60, 61, 62, 63, 64, 65, 66, 67, 68, 69, 70, 71, 72, 73, 74, 75, 76, 77, 78, 79, 80, 81, 82, 83, 84, 85, 86, 87, 88, 89, 90, 91, 92, 93, 94, 95, 96, 97, 98, 99, 100, 101, 102, 103, 104, 105, 106, 107, 108, 109, 110, 111, 112, 113, 114, 115, 116, 117, 118, 119, 120, 121, 122, 123, 124, 125, 126, 127, 128, 129, 130, 131, 132, 133, 134, 135, 136, 137, 138, 139, 140, 141, 142, 143, 144, 145, 146, 147, 148, 149, 150, 151, 152, 153, 154, 155, 156, 157, 158, 159, 160, 161, 162, 163, 164, 165, 166, 167, 168, 169, 170, 171, 172, 173, 174, 175, 176, 177, 178, 179, 180, 181, 182, 183, 184, 185, 186, 187, 188, 189, 190, 191, 192, 193, 194, 195, 196, 197, 198, 199, 200, 201, 202, 203] <| s_iret
def fX8_setBudget (N : Nat) : List Value → gM → Option (gR × gM) := gFn 3 (fX8_setBudget_k0 N)
def fX8_set_k27 (N : Nat) : gK :=
  s_aload 0 <| s_get gyX 8 0 <| s_get gyX 7 0 <| s_get gyX 2 8 <| s_iload 1 <| s_ald gyX 0 <| s_istore 3 <| s_aload 0 <| s_get gyX 8 0 <| s_get gyX 7 0 <| s_get gyX 2 8 <| s_iload 1 <| s_iload 2 <| s_ast gyX 0 <| s_iload 3 <| s_iret
def fX8_set_k0 (N : Nat) : gK :=
  s_iload 1 <| s_const 0 <| s_const 3 <| s_ca gXV (fX8_checkRange N) 3 [] <| s_iload 2 <| s_const 0 <| s_pref 1200 <| s_iload 1 <| s_tld <| s_ca gXV (fX8_checkRange N) 3 [] <| s_aload 0 <| s_get gyX 8 3 <| s_aload 0 <| s_get gyX 8 0 <| s_cav gV (fX1_remember N) 2 [61, 62, 63, 64, 65, 66, 67, 68, 69, 70, 71, 72, 73, 74, 75, 76, 77, 78, 79, 80, 81, 82, 83, 84, 85, 86, 87, 88, 89, 90, 91, 92, 93, 94, 95, 96, 97, 98, 99, 100, 101, 102, 103, 104, 105, 106, 107, 108, 109, 110, 111, 112, 113, 114, 115, 116, 117, 118, 119, 120, 121, 122, 123, 124, 125, 126, 127, 128, 129, 130, 131, 132, 133, 134, 135, 136, 137, 138, 139, 140, 141, 142, 143, 144, 145, 146, 147, 148, 149, 150, 151, 152, 153, 154, 155, 156, 157, 158, 159, 160, 161, 162, 163, 164, 165, 166, 167, 168, 169, 170, 171, 172, 173, 174, 175, 176, 177, 178, 179, 180, 181, 182, 1, 2, 3, 4, 5, 6, 7, 8, 9, 10, 11, 12, 13, 14, 15, 16, 17, 18, 19, 20] <| s_mask [true, true, true, false] <| fX8_set_k27 N
def fX8_set (N : Nat) : List Value → gM → Option (gR × gM) := gFn 4 (fX8_set_k0 N)
def fX8_inject_k23 (N : Nat) : gK :=
  s_aload 0 <| s_get gyX 8 0 <| s_iload 1 <| s_iload 2 <| s_cav gI (fX7_arrive N) 3 [1, 2, 3, 4, 5, 6, 7, 8, 9, 10, 11, 12, 13, 14, 15, 16, 17, 18, 19, 20] <| s_iret
def fX8_inject_k0 (N : Nat) : gK :=
  s_aload 0 <| s_iload 1 <| s_cav gXV (fX8_checkFlow N) 2 [0, 1, 2, 3, 4, 5, 6, 7, 8, 9, 10, 11, 12, 13, 14, 15, 16, 17, 18, 19, 20, 21, 22, 23, 24, 25, 26, 27, 28, 29, 30, 31, 32, 33, 34, 35, 36, 37, 38, 39, 40, 41, 42, 43, 44, 45, 46, 47, 48, 49, 50, 51, 52, 53, 54, 55, 56, 57, 58, 59, 60, 61, 62, 63, 64, 65, 66, 67, 68, 69, 70, 71, 72, 73, 74, 75, 76, 77, 78, 79, 80, 81, 82, 83, 84, 85, 86, 87, 88, 89, 90, 91, 92, 93, 94, 95, 96, 97, 98, 99, 100, 101, 102, 103, 104, 105, 106, 107, 108, 109, 110, 111, 112, 113, 114, 115, 116, 117, 118, 119, 120, 121, 122, 123, 124, 125, 126, 127, 128, 129, 130, 131, 132, 133, 134, 135, 136, 137, 138, 139, 140, 141, 142, 143, 144, 145, 146, 147, 148, 149, 150, 151, 152, 153, 154, 155, 156, 157, 158, 159, 160, 161, 162, 163, 164, 165, 166, 167, 168, 169, 170, 171, 172, 173, 174, 175, 176, 177, 178, 179, 180, 181, 182, 183, 184, 185, 186, 187, 188, 189, 190, 191, 192, 193, 194, 195, 196, 197, 198, 199, 200, 201, 202, 203] <| s_iload 2 <| s_const 1 <| s_const 100 <| s_ca gXV (fX8_checkRange N) 3 [] <| s_aload 0 <| s_get gyX 8 3 <| s_aload 0 <| s_get gyX 8 0 <| s_cav gV (fX1_remember N) 2 [61, 62, 63, 64, 65, 66, 67, 68, 69, 70, 71, 72, 73, 74, 75, 76, 77, 78, 79, 80, 81, 82, 83, 84, 85, 86, 87, 88, 89, 90, 91, 92, 93, 94, 95, 96, 97, 98, 99, 100, 101, 102, 103, 104, 105, 106, 107, 108, 109, 110, 111, 112, 113, 114, 115, 116, 117, 118, 119, 120, 121, 122, 123, 124, 125, 126, 127, 128, 129, 130, 131, 132, 133, 134, 135, 136, 137, 138, 139, 140, 141, 142, 143, 144, 145, 146, 147, 148, 149, 150, 151, 152, 153, 154, 155, 156, 157, 158, 159, 160, 161, 162, 163, 164, 165, 166, 167, 168, 169, 170, 171, 172, 173, 174, 175, 176, 177, 178, 179, 180, 181, 182, 1, 2, 3, 4, 5, 6, 7, 8, 9, 10, 11, 12, 13, 14, 15, 16, 17, 18, 19, 20] <| s_mask [true, true, true] <| fX8_inject_k23 N
def fX8_inject (N : Nat) : List Value → gM → Option (gR × gM) := gFn 3 (fX8_inject_k0 N)
def fX8_flush_k26 (N : Nat) : gK :=
  s_cav gI (fX7_loseAll N) 2 [1, 2, 3, 4, 5, 6, 7, 8, 9, 10, 11, 12, 13, 14, 15, 16, 17, 18, 19, 20] <| s_iret
def fX8_flush_k0 (N : Nat) : gK :=
  s_aload 0 <| s_iload 1 <| s_iload 2 <| s_cav gXV (fX8_checkTwoNodes N) 3 [0, 1, 2, 3, 4, 5, 6, 7, 8, 9, 10, 11, 12, 13, 14, 15, 16, 17, 18, 19, 20, 21, 22, 23, 24, 25, 26, 27, 28, 29, 30, 31, 32, 33, 34, 35, 36, 37, 38, 39, 40, 41, 42, 43, 44, 45, 46, 47, 48, 49, 50, 51, 52, 53, 54, 55, 56, 57, 58, 59, 60, 61, 62, 63, 64, 65, 66, 67, 68, 69, 70, 71, 72, 73, 74, 75, 76, 77, 78, 79, 80, 81, 82, 83, 84, 85, 86, 87, 88, 89, 90, 91, 92, 93, 94, 95, 96, 97, 98, 99, 100, 101, 102, 103, 104, 105, 106, 107, 108, 109, 110, 111, 112, 113, 114, 115, 116, 117, 118, 119, 120, 121, 122, 123, 124, 125, 126, 127, 128, 129, 130, 131, 132, 133, 134, 135, 136, 137, 138, 139, 140, 141, 142, 143, 144, 145, 146, 147, 148, 149, 150, 151, 152, 153, 154, 155, 156, 157, 158, 159, 160, 161, 162, 163, 164, 165, 166, 167, 168, 169, 170, 171, 172, 173, 174, 175, 176, 177, 178, 179, 180, 181, 182, 183, 184, 185, 186, 187, 188, 189, 190, 191, 192, 193, 194, 195, 196, 197, 198, 199, 200, 201, 202, 203] <| s_aload 0 <| s_get gyX 8 3 <| s_aload 0 <| s_get gyX 8 0 <| s_cav gV (fX1_remember N) 2 [61, 62, 63, 64, 65, 66, 67, 68, 69, 70, 71, 72, 73, 74, 75, 76, 77, 78, 79, 80, 81, 82, 83, 84, 85, 86, 87, 88, 89, 90, 91, 92, 93, 94, 95, 96, 97, 98, 99, 100, 101, 102, 103, 104, 105, 106, 107, 108, 109, 110, 111, 112, 113, 114, 115, 116, 117, 118, 119, 120, 121, 122, 123, 124, 125, 126, 127, 128, 129, 130, 131, 132, 133, 134, 135, 136, 137, 138, 139, 140, 141, 142, 143, 144, 145, 146, 147, 148, 149, 150, 151, 152, 153, 154, 155, 156, 157, 158, 159, 160, 161, 162, 163, 164, 165, 166, 167, 168, 169, 170, 171, 172, 173, 174, 175, 176, 177, 178, 179, 180, 181, 182, 1, 2, 3, 4, 5, 6, 7, 8, 9, 10, 11, 12, 13, 14, 15, 16, 17, 18, 19, 20] <| s_aload 0 <| s_get gyX 8 0 <| s_iload 1 <| s_iload 2 <| s_ca gI (fX8_pair N) 2 [] <| s_mask [false, false, false] <| fX8_flush_k26 N
def fX8_flush (N : Nat) : List Value → gM → Option (gR × gM) := gFn 3 (fX8_flush_k0 N)
def fX8_resetShadows_k0 (N : Nat) : gK :=
  s_aload 0 <| s_get gyX 8 3 <| s_aload 0 <| s_get gyX 8 0 <| s_cav gV (fX1_remember N) 2 [61, 62, 63, 64, 65, 66, 67, 68, 69, 70, 71, 72, 73, 74, 75, 76, 77, 78, 79, 80, 81, 82, 83, 84, 85, 86, 87, 88, 89, 90, 91, 92, 93, 94, 95, 96, 97, 98, 99, 100, 101, 102, 103, 104, 105, 106, 107, 108, 109, 110, 111, 112, 113, 114, 115, 116, 117, 118, 119, 120, 121, 122, 123, 124, 125, 126, 127, 128, 129, 130, 131, 132, 133, 134, 135, 136, 137, 138, 139, 140, 141, 142, 143, 144, 145, 146, 147, 148, 149, 150, 151, 152, 153, 154, 155, 156, 157, 158, 159, 160, 161, 162, 163, 164, 165, 166, 167, 168, 169, 170, 171, 172, 173, 174, 175, 176, 177, 178, 179, 180, 181, 182, 1, 2, 3, 4, 5, 6, 7, 8, 9, 10, 11, 12, 13, 14, 15, 16, 17, 18, 19, 20] <| s_aload 0 <| s_get gyX 8 0 <| s_get gyX 7 1 <| s_get gyX 4 3 <| s_ca gJ (fX8_sum N) 1 [15] <| s_l2i <| s_istore 1 <| s_aload 0 <| s_get gyX 8 0 <| s_get gyX 7 1 <| s_get gyX 4 3 <| s_const 0 <| s_ca gV (fJF_fill N 100) 2 [15] <| s_iload 1 <| s_iret
def fX8_resetShadows (N : Nat) : List Value → gM → Option (gR × gM) := gFn 2 (fX8_resetShadows_k0 N)
def fX8_run_k55 (N : Nat) : gK :=
  s_aload 0 <| s_get gyX 8 0 <| s_get gyX 7 1 <| s_get gyX 4 11 <| s_iret
def fX8_run_k0 (N : Nat) : gK :=
  s_iload 1 <| s_const 1 <| s_const 50 <| s_ca gXV (fX8_checkRange N) 3 [] <| s_aload 0 <| s_get gyX 8 0 <| s_get gyX 7 2 <| s_iload 1 <| s_bin gb_add <| s_const 9999 <| s_cmp gc_le (s_aload 0 <| s_get gyX 8 3 <| s_aload 0 <| s_get gyX 8 0 <| s_cav gV (fX1_remember N) 2 [61, 62, 63, 64, 65, 66, 67, 68, 69, 70, 71, 72, 73, 74, 75, 76, 77, 78, 79, 80, 81, 82, 83, 84, 85, 86, 87, 88, 89, 90, 91, 92, 93, 94, 95, 96, 97, 98, 99, 100, 101, 102, 103, 104, 105, 106, 107, 108, 109, 110, 111, 112, 113, 114, 115, 116, 117, 118, 119, 120, 121, 122, 123, 124, 125, 126, 127, 128, 129, 130, 131, 132, 133, 134, 135, 136, 137, 138, 139, 140, 141, 142, 143, 144, 145, 146, 147, 148, 149, 150, 151, 152, 153, 154, 155, 156, 157, 158, 159, 160, 161, 162, 163, 164, 165, 166, 167, 168, 169, 170, 171, 172, 173, 174, 175, 176, 177, 178, 179, 180, 181, 182, 1, 2, 3, 4, 5, 6, 7, 8, 9, 10, 11, 12, 13, 14, 15, 16, 17, 18, 19, 20] <| s_aload 0 <| s_get gyX 8 5 <| s_aload 0 <| s_get gyX 8 0 <| s_iload 1 <| s_cav gV (fX6_passSlots N) 3 [194, 195, 196, 197, 198, 199, 200, 1, 2, 3, 4, 5, 6, 7, 8, 9, 10, 11, 12, 13, 14, 15, 16, 17, 18, 19, 20] <| s_mask [true, false] <| fX8_run_k55 N) (s_throw "java/lang/IllegalArgumentException")
def fX8_run (N : Nat) : List Value → gM → Option (gR × gM) := gFn 2 (fX8_run_k0 N)
def fX8_undo_k0 (N : Nat) : gK :=
  s_aload 0 <| s_get gyX 8 3 <| s_get gyX 1 1 <| s_if gz_ne (s_aload 0 <| s_get gyX 8 3 <| s_aload 0 <| s_get gyX 8 0 <| s_cav gV (fX1_takeBack N) 2 [61, 62, 63, 64, 65, 66, 67, 68, 69, 70, 71, 72, 73, 74, 75, 76, 77, 78, 79, 80, 81, 82, 83, 84, 85, 86, 87, 88, 89, 90, 91, 92, 93, 94, 95, 96, 97, 98, 99, 100, 101, 102, 103, 104, 105, 106, 107, 108, 109, 110, 111, 112, 113, 114, 115, 116, 117, 118, 119, 120, 121, 122, 123, 124, 125, 126, 127, 128, 129, 130, 131, 132, 133, 134, 135, 136, 137, 138, 139, 140, 141, 142, 143, 144, 145, 146, 147, 148, 149, 150, 151, 152, 153, 154, 155, 156, 157, 158, 159, 160, 161, 162, 163, 164, 165, 166, 167, 168, 169, 170, 171, 172, 173, 174, 175, 176, 177, 178, 179, 180, 181, 182, 1, 2, 3, 4, 5, 6, 7, 8, 9, 10, 11, 12, 13, 14, 15, 16, 17, 18, 19, 20] <| s_aload 0 <| s_get gyX 8 3 <| s_get gyX 1 1 <| s_iret) (s_throw "java/lang/IllegalStateException")
def fX8_undo (N : Nat) : List Value → gM → Option (gR × gM) := gFn 1 (fX8_undo_k0 N)
def fX8_undoCount_k0 (N : Nat) : gK :=
  s_aload 0 <| s_get gyX 8 3 <| s_get gyX 1 1 <| s_iret
def fX8_undoCount (N : Nat) : List Value → gM → Option (gR × gM) := gFn 1 (fX8_undoCount_k0 N)
def fX8_save_k0 (N : Nat) : gK :=
  s_aload 0 <| s_get gyX 8 1 <| s_aload 0 <| s_get gyX 8 0 <| s_cav gV (fX7_copyFrom N) 2 [21, 22, 23, 24, 25, 26, 27, 28, 29, 30, 31, 32, 33, 34, 35, 36, 37, 38, 39, 40, 1, 2, 3, 4, 5, 6, 7, 8, 9, 10, 11, 12, 13, 14, 15, 16, 17, 18, 19, 20] <| s_aload 0 <| s_const 1 <| s_putz gyX 8 7 <| s_aload 0 <| s_get gyX 8 0 <| s_get gyX 7 2 <| s_iret
def fX8_save (N : Nat) : List Value → gM → Option (gR × gM) := gFn 1 (fX8_save_k0 N)
def fX8_restore_k0 (N : Nat) : gK :=
  s_aload 0 <| s_get gyX 8 7 <| s_if gz_ne (s_aload 0 <| s_get gyX 8 0 <| s_aload 0 <| s_get gyX 8 1 <| s_cav gV (fX7_copyFrom N) 2 [1, 2, 3, 4, 5, 6, 7, 8, 9, 10, 11, 12, 13, 14, 15, 16, 17, 18, 19, 20, 21, 22, 23, 24, 25, 26, 27, 28, 29, 30, 31, 32, 33, 34, 35, 36, 37, 38, 39, 40] <| s_aload 0 <| s_get gyX 8 3 <| s_const 0 <| s_put gyX 1 1 <| s_aload 0 <| s_get gyX 8 0 <| s_get gyX 7 2 <| s_iret) (s_throw "java/lang/IllegalStateException")
def fX8_restore (N : Nat) : List Value → gM → Option (gR × gM) := gFn 1 (fX8_restore_k0 N)
def fX8_count_k0 (N : Nat) : gK :=
  s_iload 1 <| s_const 0 <| s_const 6 <| s_ca gXV (fX8_checkRange N) 3 [] <| s_iload 1 <| s_tab 0 2 (s_aload 0 <| s_get gyX 8 0 <| s_get gyX 7 0 <| s_get gyX 2 8 <| s_iload 1 <| s_const 3 <| s_bin gb_sub <| s_ald gyX 0 <| s_iret) [s_aload 0 <| s_get gyX 8 0 <| s_get gyX 7 0 <| s_get gyX 2 0 <| s_iret, s_aload 0 <| s_get gyX 8 0 <| s_get gyX 7 0 <| s_get gyX 2 1 <| s_iret, s_aload 0 <| s_get gyX 8 0 <| s_get gyX 7 0 <| s_get gyX 2 2 <| s_iret]
def fX8_count (N : Nat) : List Value → gM → Option (gR × gM) := gFn 2 (fX8_count_k0 N)
def fX8_plannedNumber_k0 (N : Nat) : gK :=
  s_aload 0 <| s_get gyX 8 5 <| s_get gyX 6 0 <| s_astore 3 <| s_aload 3 <| s_aload 0 <| s_get gyX 8 0 <| s_aload 0 <| s_get gyX 8 0 <| s_get gyX 7 0 <| s_get gyX 2 8 <| s_const 3 <| s_ald gyX 0 <| s_cav gI (fX3_choose N) 3 [195, 196, 197, 1, 2, 3, 4, 5, 6, 7, 8, 9, 10, 11, 12, 13, 14, 15, 16, 17, 18, 19, 20] <| s_istore 4 <| s_iload 2 <| s_tab 4 6 (s_aload 3 <| s_aload 0 <| s_get gyX 8 0 <| s_iload 4 <| s_iload 1 <| s_cav gI (fX3_countCarried N) 4 [195, 196, 197, 1, 2, 3, 4, 5, 6, 7, 8, 9, 10, 11, 12, 13, 14, 15, 16, 17, 18, 19, 20] <| s_iret) [s_aload 3 <| s_get gyX 3 0 <| s_iload 1 <| s_ald gyX 0 <| s_iret, s_aload 3 <| s_get gyX 3 1 <| s_iload 1 <| s_ald gyX 0 <| s_iret, s_iload 4 <| s_iload 1 <| s_bin gb_shr <| s_const 1 <| s_bin gb_and <| s_iret]
def fX8_plannedNumber (N : Nat) : List Value → gM → Option (gR × gM) := gFn 5 (fX8_plannedNumber_k0 N)
def fX8_link_k0 (N : Nat) : gK :=
  s_aload 0 <| s_iload 1 <| s_cav gXV (fX8_checkLink N) 2 [0, 1, 2, 3, 4, 5, 6, 7, 8, 9, 10, 11, 12, 13, 14, 15, 16, 17, 18, 19, 20, 21, 22, 23, 24, 25, 26, 27, 28, 29, 30, 31, 32, 33, 34, 35, 36, 37, 38, 39, 40, 41, 42, 43, 44, 45, 46, 47, 48, 49, 50, 51, 52, 53, 54, 55, 56, 57, 58, 59, 60, 61, 62, 63, 64, 65, 66, 67, 68, 69, 70, 71, 72, 73, 74, 75, 76, 77, 78, 79, 80, 81, 82, 83, 84, 85, 86, 87, 88, 89, 90, 91, 92, 93, 94, 95, 96, 97, 98, 99, 100, 101, 102, 103, 104, 105, 106, 107, 108, 109, 110, 111, 112, 113, 114, 115, 116, 117, 118, 119, 120, 121, 122, 123, 124, 125, 126, 127, 128, 129, 130, 131, 132, 133, 134, 135, 136, 137, 138, 139, 140, 141, 142, 143, 144, 145, 146, 147, 148, 149, 150, 151, 152, 153, 154, 155, 156, 157, 158, 159, 160, 161, 162, 163, 164, 165, 166, 167, 168, 169, 170, 171, 172, 173, 174, 175, 176, 177, 178, 179, 180, 181, 182, 183, 184, 185, 186, 187, 188, 189, 190, 191, 192, 193, 194, 195, 196, 197, 198, 199, 200, 201, 202, 203] <| s_iload 2 <| s_const 0 <| s_const 7 <| s_ca gXV (fX8_checkRange N) 3 [] <| s_iload 2 <| s_tab 0 3 (s_aload 0 <| s_iload 1 <| s_iload 2 <| s_cav gI (fX8_plannedNumber N) 3 [0, 1, 2, 3, 4, 5, 6, 7, 8, 9, 10, 11, 12, 13, 14, 15, 16, 17, 18, 19, 20, 21, 22, 23, 24, 25, 26, 27, 28, 29, 30, 31, 32, 33, 34, 35, 36, 37, 38, 39, 40, 41, 42, 43, 44, 45, 46, 47, 48, 49, 50, 51, 52, 53, 54, 55, 56, 57, 58, 59, 60, 61, 62, 63, 64, 65, 66, 67, 68, 69, 70, 71, 72, 73, 74, 75, 76, 77, 78, 79, 80, 81, 82, 83, 84, 85, 86, 87, 88, 89, 90, 91, 92, 93, 94, 95, 96, 97, 98, 99, 100, 101, 102, 103, 104, 105, 106, 107, 108, 109, 110, 111, 112, 113, 114, 115, 116, 117, 118, 119, 120, 121, 122, 123, 124, 125, 126, 127, 128, 129, 130, 131, 132, 133, 134, 135, 136, 137, 138, 139, 140, 141, 142, 143, 144, 145, 146, 147, 148, 149, 150, 151, 152, 153, 154, 155, 156, 157, 158, 159, 160, 161, 162, 163, 164, 165, 166, 167, 168, 169, 170, 171, 172, 173, 174, 175, 176, 177, 178, 179, 180, 181, 182, 183, 184, 185, 186, 187, 188, 189, 190, 191, 192, 193, 194, 195, 196, 197, 198, 199, 200, 201, 202, 203] <| s_iret) [s_aload 0 <| s_get gyX 8 0 <| s_get gyX 7 0 <| s_get gyX 2 3 <| s_iload 1 <| s_ald gyX 0 <| s_iret, s_aload 0 <| s_get gyX 8 0 <| s_get gyX 7 0 <| s_get gyX 2 4 <| s_iload 1 <| s_ald gyX 0 <| s_iret, s_aload 0 <| s_get gyX 8 0 <| s_get gyX 7 0 <| s_get gyX 2 5 <| s_iload 1 <| s_ald gyX 0 <| s_iret, s_aload 0 <| s_get gyX 8 0 <| s_get gyX 7 0 <| s_get gyX 2 6 <| s_iload 1 <| s_ald gyX 0 <| s_iret]
def fX8_link (N : Nat) : List Value → gM → Option (gR × gM) := gFn 3 (fX8_link_k0 N)
def fX8_conflicts_k0 (N : Nat) : gK :=
  s_aload 0 <| s_iload 1 <| s_cav gXV (fX8_checkLink N) 2 [0, 1, 2, 3, 4, 5, 6, 7, 8, 9, 10, 11, 12, 13, 14, 15, 16, 17, 18, 19, 20, 21, 22, 23, 24, 25, 26, 27, 28, 29, 30, 31, 32, 33, 34, 35, 36, 37, 38, 39, 40, 41, 42, 43, 44, 45, 46, 47, 48, 49, 50, 51, 52, 53, 54, 55, 56, 57, 58, 59, 60, 61, 62, 63, 64, 65, 66, 67, 68, 69, 70, 71, 72, 73, 74, 75, 76, 77, 78, 79, 80, 81, 82, 83, 84, 85, 86, 87, 88, 89, 90, 91, 92, 93, 94, 95, 96, 97, 98, 99, 100, 101, 102, 103, 104, 105, 106, 107, 108, 109, 110, 111, 112, 113, 114, 115, 116, 117, 118, 119, 120, 121, 122, 123, 124, 125, 126, 127, 128, 129, 130, 131, 132, 133, 134, 135, 136, 137, 138, 139, 140, 141, 142, 143, 144, 145, 146, 147, 148, 149, 150, 151, 152, 153, 154, 155, 156, 157, 158, 159, 160, 161, 162, 163, 164, 165, 166, 167, 168, 169, 170, 171, 172, 173, 174, 175, 176, 177, 178, 179, 180, 181, 182, 183, 184, 185, 186, 187, 188, 189, 190, 191, 192, 193, 194, 195, 196, 197, 198, 199, 200, 201, 202, 203] <| s_aload 0 <| s_get gyX 8 0 <| s_get gyX 7 0 <| s_get gyX 2 7 <| s_iload 1 <| s_ald gyX 0 <| s_iret
def fX8_conflicts (N : Nat) : List Value → gM → Option (gR × gM) := gFn 2 (fX8_conflicts_k0 N)
def fX8_flow_k0 (N : Nat) : gK :=
  s_aload 0 <| s_iload 1 <| s_cav gXV (fX8_checkFlow N) 2 [0, 1, 2, 3, 4, 5, 6, 7, 8, 9, 10, 11, 12, 13, 14, 15, 16, 17, 18, 19, 20, 21, 22, 23, 24, 25, 26, 27, 28, 29, 30, 31, 32, 33, 34, 35, 36, 37, 38, 39, 40, 41, 42, 43, 44, 45, 46, 47, 48, 49, 50, 51, 52, 53, 54, 55, 56, 57, 58, 59, 60, 61, 62, 63, 64, 65, 66, 67, 68, 69, 70, 71, 72, 73, 74, 75, 76, 77, 78, 79, 80, 81, 82, 83, 84, 85, 86, 87, 88, 89, 90, 91, 92, 93, 94, 95, 96, 97, 98, 99, 100, 101, 102, 103, 104, 105, 106, 107, 108, 109, 110, 111, 112, 113, 114, 115, 116, 117, 118, 119, 120, 121, 122, 123, 124, 125, 126, 127, 128, 129, 130, 131, 132, 133, 134, 135, 136, 137, 138, 139, 140, 141, 142, 143, 144, 145, 146, 147, 148, 149, 150, 151, 152, 153, 154, 155, 156, 157, 158, 159, 160, 161, 162, 163, 164, 165, 166, 167, 168, 169, 170, 171, 172, 173, 174, 175, 176, 177, 178, 179, 180, 181, 182, 183, 184, 185, 186, 187, 188, 189, 190, 191, 192, 193, 194, 195, 196, 197, 198, 199, 200, 201, 202, 203] <| s_iload 2 <| s_const 0 <| s_const 10 <| s_ca gXV (fX8_checkRange N) 3 [] <| s_aload 0 <| s_get gyX 8 0 <| s_get gyX 7 0 <| s_iload 1 <| s_iload 2 <| s_cav gI (fX2_getNumber N) 3 [2, 3, 4, 5, 6, 7, 8, 9, 10] <| s_iret
def fX8_flow (N : Nat) : List Value → gM → Option (gR × gM) := gFn 3 (fX8_flow_k0 N)
def fX8_hops_k0 (N : Nat) : gK :=
  s_aload 0 <| s_iload 1 <| s_cav gXV (fX8_checkNode N) 2 [0, 1, 2, 3, 4, 5, 6, 7, 8, 9, 10, 11, 12, 13, 14, 15, 16, 17, 18, 19, 20, 21, 22, 23, 24, 25, 26, 27, 28, 29, 30, 31, 32, 33, 34, 35, 36, 37, 38, 39, 40, 41, 42, 43, 44, 45, 46, 47, 48, 49, 50, 51, 52, 53, 54, 55, 56, 57, 58, 59, 60, 61, 62, 63, 64, 65, 66, 67, 68, 69, 70, 71, 72, 73, 74, 75, 76, 77, 78, 79, 80, 81, 82, 83, 84, 85, 86, 87, 88, 89, 90, 91, 92, 93, 94, 95, 96, 97, 98, 99, 100, 101, 102, 103, 104, 105, 106, 107, 108, 109, 110, 111, 112, 113, 114, 115, 116, 117, 118, 119, 120, 121, 122, 123, 124, 125, 126, 127, 128, 129, 130, 131, 132, 133, 134, 135, 136, 137, 138, 139, 140, 141, 142, 143, 144, 145, 146, 147, 148, 149, 150, 151, 152, 153, 154, 155, 156, 157, 158, 159, 160, 161, 162, 163, 164, 165, 166, 167, 168, 169, 170, 171, 172, 173, 174, 175, 176, 177, 178, 179, 180, 181, 182, 183, 184, 185, 186, 187, 188, 189, 190, 191, 192, 193, 194, 195, 196, 197, 198, 199, 200, 201, 202, 203] <| s_aload 0 <| s_iload 2 <| s_cav gXV (fX8_checkNode N) 2 [0, 1, 2, 3, 4, 5, 6, 7, 8, 9, 10, 11, 12, 13, 14, 15, 16, 17, 18, 19, 20, 21, 22, 23, 24, 25, 26, 27, 28, 29, 30, 31, 32, 33, 34, 35, 36, 37, 38, 39, 40, 41, 42, 43, 44, 45, 46, 47, 48, 49, 50, 51, 52, 53, 54, 55, 56, 57, 58, 59, 60, 61, 62, 63, 64, 65, 66, 67, 68, 69, 70, 71, 72, 73, 74, 75, 76, 77, 78, 79, 80, 81, 82, 83, 84, 85, 86, 87, 88, 89, 90, 91, 92, 93, 94, 95, 96, 97, 98, 99, 100, 101, 102, 103, 104, 105, 106, 107, 108, 109, 110, 111, 112, 113, 114, 115, 116, 117, 118, 119, 120, 121, 122, 123, 124, 125, 126, 127, 128, 129, 130, 131, 132, 133, 134, 135, 136, 137, 138, 139, 140, 141, 142, 143, 144, 145, 146, 147, 148, 149, 150, 151, 152, 153, 154, 155, 156, 157, 158, 159, 160, 161, 162, 163, 164, 165, 166, 167, 168, 169, 170, 171, 172, 173, 174, 175, 176, 177, 178, 179, 180, 181, 182, 183, 184, 185, 186, 187, 188, 189, 190, 191, 192, 193, 194, 195, 196, 197, 198, 199, 200, 201, 202, 203] <| s_aload 0 <| s_get gyX 8 0 <| s_get gyX 7 0 <| s_get gyX 2 10 <| s_iload 1 <| s_iload 2 <| s_ca gI (fX8_pair N) 2 [] <| s_ald gyX 0 <| s_iret
def fX8_hops (N : Nat) : List Value → gM → Option (gR × gM) := gFn 3 (fX8_hops_k0 N)
def fX8_maxFlow_k0 (N : Nat) : gK :=
  s_aload 0 <| s_iload 1 <| s_iload 2 <| s_cav gXV (fX8_checkTwoNodes N) 3 [0, 1, 2, 3, 4, 5, 6, 7, 8, 9, 10, 11, 12, 13, 14, 15, 16, 17, 18, 19, 20, 21, 22, 23, 24, 25, 26, 27, 28, 29, 30, 31, 32, 33, 34, 35, 36, 37, 38, 39, 40, 41, 42, 43, 44, 45, 46, 47, 48, 49, 50, 51, 52, 53, 54, 55, 56, 57, 58, 59, 60, 61, 62, 63, 64, 65, 66, 67, 68, 69, 70, 71, 72, 73, 74, 75, 76, 77, 78, 79, 80, 81, 82, 83, 84, 85, 86, 87, 88, 89, 90, 91, 92, 93, 94, 95, 96, 97, 98, 99, 100, 101, 102, 103, 104, 105, 106, 107, 108, 109, 110, 111, 112, 113, 114, 115, 116, 117, 118, 119, 120, 121, 122, 123, 124, 125, 126, 127, 128, 129, 130, 131, 132, 133, 134, 135, 136, 137, 138, 139, 140, 141, 142, 143, 144, 145, 146, 147, 148, 149, 150, 151, 152, 153, 154, 155, 156, 157, 158, 159, 160, 161, 162, 163, 164, 165, 166, 167, 168, 169, 170, 171, 172, 173, 174, 175, 176, 177, 178, 179, 180, 181, 182, 183, 184, 185, 186, 187, 188, 189, 190, 191, 192, 193, 194, 195, 196, 197, 198, 199, 200, 201, 202, 203] <| s_aload 0 <| s_get gyX 8 6 <| s_aload 0 <| s_get gyX 8 0 <| s_get gyX 7 0 <| s_iload 1 <| s_iload 2 <| s_cav gV (fX0_find N) 4 [201, 202, 203, 2, 3, 4, 5, 6, 7, 8, 9, 10] <| s_aload 0 <| s_get gyX 8 6 <| s_get gyX 0 2 <| s_iret
def fX8_maxFlow (N : Nat) : List Value → gM → Option (gR × gM) := gFn 3 (fX8_maxFlow_k0 N)
def fX8_cutSide_k0 (N : Nat) : gK :=
  s_aload 0 <| s_iload 1 <| s_iload 2 <| s_cav gXV (fX8_checkTwoNodes N) 3 [0, 1, 2, 3, 4, 5, 6, 7, 8, 9, 10, 11, 12, 13, 14, 15, 16, 17, 18, 19, 20, 21, 22, 23, 24, 25, 26, 27, 28, 29, 30, 31, 32, 33, 34, 35, 36, 37, 38, 39, 40, 41, 42, 43, 44, 45, 46, 47, 48, 49, 50, 51, 52, 53, 54, 55, 56, 57, 58, 59, 60, 61, 62, 63, 64, 65, 66, 67, 68, 69, 70, 71, 72, 73, 74, 75, 76, 77, 78, 79, 80, 81, 82, 83, 84, 85, 86, 87, 88, 89, 90, 91, 92, 93, 94, 95, 96, 97, 98, 99, 100, 101, 102, 103, 104, 105, 106, 107, 108, 109, 110, 111, 112, 113, 114, 115, 116, 117, 118, 119, 120, 121, 122, 123, 124, 125, 126, 127, 128, 129, 130, 131, 132, 133, 134, 135, 136, 137, 138, 139, 140, 141, 142, 143, 144, 145, 146, 147, 148, 149, 150, 151, 152, 153, 154, 155, 156, 157, 158, 159, 160, 161, 162, 163, 164, 165, 166, 167, 168, 169, 170, 171, 172, 173, 174, 175, 176, 177, 178, 179, 180, 181, 182, 183, 184, 185, 186, 187, 188, 189, 190, 191, 192, 193, 194, 195, 196, 197, 198, 199, 200, 201, 202, 203] <| s_aload 0 <| s_get gyX 8 6 <| s_aload 0 <| s_get gyX 8 0 <| s_get gyX 7 0 <| s_iload 1 <| s_iload 2 <| s_cav gV (fX0_find N) 4 [201, 202, 203, 2, 3, 4, 5, 6, 7, 8, 9, 10] <| s_aload 0 <| s_get gyX 8 6 <| s_get gyX 0 3 <| s_iret
def fX8_cutSide (N : Nat) : List Value → gM → Option (gR × gM) := gFn 3 (fX8_cutSide_k0 N)
def fX8_overloaded_k65 (N : Nat) (K12 : gK) : gK :=
  s_iinc 3 1 <| s_mask [true, true, true, true] <| K12
def fX8_overloaded_k40 (N : Nat) (K12 : gK) : gK :=
  s_aload 1 <| s_iload 3 <| s_const 2 <| s_cav gI (fX2_getNumber N) 3 [2, 3, 4, 5, 6, 7, 8, 9, 10] <| s_const 100 <| s_aload 0 <| s_get gyX 8 6 <| s_get gyX 0 2 <| s_bin gb_mul <| s_cmp gc_le (s_mask [true, true, true, true] <| fX8_overloaded_k65 N K12) (s_iload 2 <| s_const 1 <| s_iload 3 <| s_bin gb_shl <| s_bin gb_or <| s_istore 2 <| s_mask [true, true, true, true] <| fX8_overloaded_k65 N K12)
def fX8_overloaded_b12 (N : Nat) : gK → gK := fun K12 =>
  s_iload 3 <| s_aload 1 <| s_get gyX 2 2 <| s_cmp gc_ge (s_iload 2 <| s_iret) (s_aload 0 <| s_get gyX 8 6 <| s_aload 1 <| s_aload 1 <| s_iload 3 <| s_const 0 <| s_cav gI (fX2_getNumber N) 3 [2, 3, 4, 5, 6, 7, 8, 9, 10] <| s_aload 1 <| s_iload 3 <| s_const 1 <| s_cav gI (fX2_getNumber N) 3 [2, 3, 4, 5, 6, 7, 8, 9, 10] <| s_cav gV (fX0_find N) 4 [201, 202, 203, 2, 3, 4, 5, 6, 7, 8, 9, 10] <| s_mask [true, true, true, true] <| fX8_overloaded_k40 N K12)
def fX8_overloaded_k12 (N : Nat) : gK := s_lp (fX8_overloaded_b12 N) N
def fX8_overloaded_k0 (N : Nat) : gK :=
  s_aload 0 <| s_get gyX 8 0 <| s_get gyX 7 0 <| s_astore 1 <| s_const 0 <| s_istore 2 <| s_const 0 <| s_istore 3 <| s_mask [true, true, true, true] <| fX8_overloaded_k12 N
def fX8_overloaded (N : Nat) : List Value → gM → Option (gR × gM) := gFn 4 (fX8_overloaded_k0 N)
def fX8_queue_k0 (N : Nat) : gK :=
  s_aload 0 <| s_iload 1 <| s_iload 2 <| s_cav gXV (fX8_checkTwoNodes N) 3 [0, 1, 2, 3, 4, 5, 6, 7, 8, 9, 10, 11, 12, 13, 14, 15, 16, 17, 18, 19, 20, 21, 22, 23, 24, 25, 26, 27, 28, 29, 30, 31, 32, 33, 34, 35, 36, 37, 38, 39, 40, 41, 42, 43, 44, 45, 46, 47, 48, 49, 50, 51, 52, 53, 54, 55, 56, 57, 58, 59, 60, 61, 62, 63, 64, 65, 66, 67, 68, 69, 70, 71, 72, 73, 74, 75, 76, 77, 78, 79, 80, 81, 82, 83, 84, 85, 86, 87, 88, 89, 90, 91, 92, 93, 94, 95, 96, 97, 98, 99, 100, 101, 102, 103, 104, 105, 106, 107, 108, 109, 110, 111, 112, 113, 114, 115, 116, 117, 118, 119, 120, 121, 122, 123, 124, 125, 126, 127, 128, 129, 130, 131, 132, 133, 134, 135, 136, 137, 138, 139, 140, 141, 142, 143, 144, 145, 146, 147, 148, 149, 150, 151, 152, 153, 154, 155, 156, 157, 158, 159, 160, 161, 162, 163, 164, 165, 166, 167, 168, 169, 170, 171, 172, 173, 174, 175, 176, 177, 178, 179, 180, 181, 182, 183, 184, 185, 186, 187, 188, 189, 190, 191, 192, 193, 194, 195, 196, 197, 198, 199, 200, 201, 202, 203] <| s_aload 0 <| s_get gyX 8 0 <| s_get gyX 7 1 <| s_get gyX 4 2 <| s_iload 1 <| s_iload 2 <| s_ca gI (fX8_pair N) 2 [] <| s_ald gyX 0 <| s_iret
def fX8_queue (N : Nat) : List Value → gM → Option (gR × gM) := gFn 3 (fX8_queue_k0 N)
def fX8_shadow_k0 (N : Nat) : gK :=
  s_aload 0 <| s_iload 1 <| s_iload 2 <| s_cav gXV (fX8_checkTwoNodes N) 3 [0, 1, 2, 3, 4, 5, 6, 7, 8, 9, 10, 11, 12, 13, 14, 15, 16, 17, 18, 19, 20, 21, 22, 23, 24, 25, 26, 27, 28, 29, 30, 31, 32, 33, 34, 35, 36, 37, 38, 39, 40, 41, 42, 43, 44, 45, 46, 47, 48, 49, 50, 51, 52, 53, 54, 55, 56, 57, 58, 59, 60, 61, 62, 63, 64, 65, 66, 67, 68, 69, 70, 71, 72, 73, 74, 75, 76, 77, 78, 79, 80, 81, 82, 83, 84, 85, 86, 87, 88, 89, 90, 91, 92, 93, 94, 95, 96, 97, 98, 99, 100, 101, 102, 103, 104, 105, 106, 107, 108, 109, 110, 111, 112, 113, 114, 115, 116, 117, 118, 119, 120, 121, 122, 123, 124, 125, 126, 127, 128, 129, 130, 131, 132, 133, 134, 135, 136, 137, 138, 139, 140, 141, 142, 143, 144, 145, 146, 147, 148, 149, 150, 151, 152, 153, 154, 155, 156, 157, 158, 159, 160, 161, 162, 163, 164, 165, 166, 167, 168, 169, 170, 171, 172, 173, 174, 175, 176, 177, 178, 179, 180, 181, 182, 183, 184, 185, 186, 187, 188, 189, 190, 191, 192, 193, 194, 195, 196, 197, 198, 199, 200, 201, 202, 203] <| s_aload 0 <| s_get gyX 8 0 <| s_get gyX 7 1 <| s_get gyX 4 3 <| s_iload 1 <| s_iload 2 <| s_ca gI (fX8_pair N) 2 [] <| s_ald gyX 0 <| s_iret
def fX8_shadow (N : Nat) : List Value → gM → Option (gR × gM) := gFn 3 (fX8_shadow_k0 N)
def fX8_packet_k25 (N : Nat) : gK :=
  s_iload 3 <| s_cav gI (fX4_find N) 3 [11, 12, 13, 14, 15, 16, 17, 18, 19, 20] <| s_istore 5 <| s_iload 5 <| s_const (-1) <| s_cmp gc_ne (s_iload 4 <| s_tab 0 2 (s_aload 0 <| s_get gyX 8 0 <| s_get gyX 7 1 <| s_get gyX 4 8 <| s_iload 5 <| s_ald gyX 0 <| s_iret) [s_aload 0 <| s_get gyX 8 0 <| s_get gyX 7 1 <| s_get gyX 4 5 <| s_iload 5 <| s_ald gyX 0 <| s_iret, s_aload 0 <| s_get gyX 8 0 <| s_get gyX 7 1 <| s_get gyX 4 6 <| s_iload 5 <| s_ald gyX 0 <| s_iret, s_aload 0 <| s_get gyX 8 0 <| s_get gyX 7 1 <| s_get gyX 4 7 <| s_iload 5 <| s_ald gyX 0 <| s_iret]) (s_throw "java/util/NoSuchElementException")
def fX8_packet_k0 (N : Nat) : gK :=
  s_aload 0 <| s_iload 1 <| s_iload 2 <| s_cav gXV (fX8_checkTwoNodes N) 3 [0, 1, 2, 3, 4, 5, 6, 7, 8, 9, 10, 11, 12, 13, 14, 15, 16, 17, 18, 19, 20, 21, 22, 23, 24, 25, 26, 27, 28, 29, 30, 31, 32, 33, 34, 35, 36, 37, 38, 39, 40, 41, 42, 43, 44, 45, 46, 47, 48, 49, 50, 51, 52, 53, 54, 55, 56, 57, 58, 59, 60, 61, 62, 63, 64, 65, 66, 67, 68, 69, 70, 71, 72, 73, 74, 75, 76, 77, 78, 79, 80, 81, 82, 83, 84, 85, 86, 87, 88, 89, 90, 91, 92, 93, 94, 95, 96, 97, 98, 99, 100, 101, 102, 103, 104, 105, 106, 107, 108, 109, 110, 111, 112, 113, 114, 115, 116, 117, 118, 119, 120, 121, 122, 123, 124, 125, 126, 127, 128, 129, 130, 131, 132, 133, 134, 135, 136, 137, 138, 139, 140, 141, 142, 143, 144, 145, 146, 147, 148, 149, 150, 151, 152, 153, 154, 155, 156, 157, 158, 159, 160, 161, 162, 163, 164, 165, 166, 167, 168, 169, 170, 171, 172, 173, 174, 175, 176, 177, 178, 179, 180, 181, 182, 183, 184, 185, 186, 187, 188, 189, 190, 191, 192, 193, 194, 195, 196, 197, 198, 199, 200, 201, 202, 203] <| s_iload 4 <| s_const 0 <| s_const 3 <| s_ca gXV (fX8_checkRange N) 3 [] <| s_aload 0 <| s_get gyX 8 0 <| s_get gyX 7 1 <| s_iload 1 <| s_iload 2 <| s_ca gI (fX8_pair N) 2 [] <| s_mask [true, false, false, true, true, false] <| fX8_packet_k25 N
def fX8_packet (N : Nat) : List Value → gM → Option (gR × gM) := gFn 6 (fX8_packet_k0 N)
def fX8_totalOf_k0 (N : Nat) : gK :=
  s_iload 1 <| s_tab 0 4 (s_aload 0 <| s_get gyS 7 1 <| s_get gyS 4 3 <| s_ca gJ (fX8_sumOfSquares N) 1 [14] <| s_lret) [s_aload 0 <| s_get gyS 7 2 <| s_i2l <| s_lret, s_aload 0 <| s_get gyS 7 1 <| s_get gyS 4 11 <| s_i2l <| s_lret, s_aload 0 <| s_get gyS 7 3 <| s_i2l <| s_lret, s_aload 0 <| s_get gyS 7 1 <| s_get gyS 4 3 <| s_ca gJ (fX8_sum N) 1 [14] <| s_lret, s_aload 0 <| s_get gyS 7 1 <| s_get gyS 4 2 <| s_ca gJ (fX8_sumOfSquares N) 1 [13] <| s_lret]
def fX8_totalOf (N : Nat) : List Value → gM → Option (gR × gM) := gFn 2 (fX8_totalOf_k0 N)
def fX8_total_k0 (N : Nat) : gK :=
  s_iload 1 <| s_const 0 <| s_const 5 <| s_ca gXV (fX8_checkRange N) 3 [] <| s_aload 0 <| s_get gyX 8 0 <| s_iload 1 <| s_ca gJ (fX8_totalOf N) 2 [1, 2, 3, 4, 5, 6, 7, 8, 9, 10, 11, 12, 13, 14, 15, 16, 17, 18, 19, 20] <| s_lret
def fX8_total (N : Nat) : List Value → gM → Option (gR × gM) := gFn 2 (fX8_total_k0 N)
def fX8_fullest_k32 (N : Nat) (K15 : gK) : gK :=
  s_iinc 3 1 <| s_mask [false, true, true, true] <| K15
def fX8_fullest_b15 (N : Nat) : gK → gK := fun K15 =>
  s_iload 3 <| s_const 100 <| s_cmp gc_ge (s_aload 1 <| s_iload 2 <| s_ald gyX 0 <| s_if gz_ne (s_const 100 <| s_iload 2 <| s_const 10 <| s_div gb_div <| s_bin gb_mul <| s_iload 2 <| s_const 10 <| s_div gb_rem <| s_bin gb_add <| s_iret) (s_throw "java/util/NoSuchElementException")) (s_aload 1 <| s_iload 3 <| s_ald gyX 0 <| s_aload 1 <| s_iload 2 <| s_ald gyX 0 <| s_cmp gc_le (s_mask [false, true, true, true] <| fX8_fullest_k32 N K15) (s_iload 3 <| s_istore 2 <| s_mask [false, true, true, true] <| fX8_fullest_k32 N K15))
def fX8_fullest_k15 (N : Nat) : gK := s_lp (fX8_fullest_b15 N) N
def fX8_fullest_k0 (N : Nat) : gK :=
  s_aload 0 <| s_get gyX 8 0 <| s_get gyX 7 1 <| s_get gyX 4 2 <| s_astore 1 <| s_const 0 <| s_istore 2 <| s_const 1 <| s_istore 3 <| s_mask [false, true, true, true] <| fX8_fullest_k15 N
def fX8_fullest (N : Nat) : List Value → gM → Option (gR × gM) := gFn 4 (fX8_fullest_k0 N)
def fX8_urgent_k0 (N : Nat) : gK :=
  s_aload 0 <| s_get gyX 8 0 <| s_cav gI (fX7_leastDeadline N) 1 [1, 2, 3, 4, 5, 6, 7, 8, 9, 10, 11, 12, 13, 14, 15, 16, 17, 18, 19, 20] <| s_istore 1 <| s_iload 1 <| s_const (-1) <| s_cmp gc_ne (s_const 0 <| s_iload 1 <| s_aload 0 <| s_get gyX 8 0 <| s_get gyX 7 2 <| s_bin gb_sub <| s_jmath gj_max <| s_iret) (s_throw "java/util/NoSuchElementException")
def fX8_urgent (N : Nat) : List Value → gM → Option (gR × gM) := gFn 2 (fX8_urgent_k0 N)
def fX8_meanDelay_k32 (N : Nat) : gK :=
  s_istore 4 <| s_iload 3 <| s_iload 4 <| s_ca gI (fX8_commonDivisor N) 2 [] <| s_istore 5 <| s_iload 4 <| s_if gz_eq (s_throw "java/util/NoSuchElementException") (s_iload 5 <| s_if gz_ne (s_iload 2 <| s_if gz_eq (s_iload 3 <| s_iload 5 <| s_div gb_div <| s_iret) (s_iload 4 <| s_iload 5 <| s_div gb_div <| s_iret)) (s_throw "java/util/NoSuchElementException"))
def fX8_meanDelay_k0 (N : Nat) : gK :=
  s_aload 0 <| s_iload 1 <| s_cav gXV (fX8_checkFlow N) 2 [0, 1, 2, 3, 4, 5, 6, 7, 8, 9, 10, 11, 12, 13, 14, 15, 16, 17, 18, 19, 20, 21, 22, 23, 24, 25, 26, 27, 28, 29, 30, 31, 32, 33, 34, 35, 36, 37, 38, 39, 40, 41, 42, 43, 44, 45, 46, 47, 48, 49, 50, 51, 52, 53, 54, 55, 56, 57, 58, 59, 60, 61, 62, 63, 64, 65, 66, 67, 68, 69, 70, 71, 72, 73, 74, 75, 76, 77, 78, 79, 80, 81, 82, 83, 84, 85, 86, 87, 88, 89, 90, 91, 92, 93, 94, 95, 96, 97, 98, 99, 100, 101, 102, 103, 104, 105, 106, 107, 108, 109, 110, 111, 112, 113, 114, 115, 116, 117, 118, 119, 120, 121, 122, 123, 124, 125, 126, 127, 128, 129, 130, 131, 132, 133, 134, 135, 136, 137, 138, 139, 140, 141, 142, 143, 144, 145, 146, 147, 148, 149, 150, 151, 152, 153, 154, 155, 156, 157, 158, 159, 160, 161, 162, 163, 164, 165, 166, 167, 168, 169, 170, 171, 172, 173, 174, 175, 176, 177, 178, 179, 180, 181, 182, 183, 184, 185, 186, 187, 188, 189, 190, 191, 192, 193, 194, 195, 196, 197, 198, 199, 200, 201, 202, 203] <| s_aload 0 <| s_get gyX 8 0 <| s_get gyX 7 0 <| s_iload 1 <| s_const 9 <| s_cav gI (fX2_getNumber N) 3 [2, 3, 4, 5, 6, 7, 8, 9, 10] <| s_istore 3 <| s_aload 0 <| s_get gyX 8 0 <| s_get gyX 7 0 <| s_iload 1 <| s_const 6 <| s_cav gI (fX2_getNumber N) 3 [2, 3, 4, 5, 6, 7, 8, 9, 10] <| s_mask [false, false, true, true, false, false] <| fX8_meanDelay_k32 N
def fX8_meanDelay (N : Nat) : List Value → gM → Option (gR × gM) := gFn 6 (fX8_meanDelay_k0 N)
def fX8_schedule_k0 (N : Nat) : gK :=
  s_iload 1 <| s_const 0 <| s_pref 1200 <| s_const 3 <| s_tld <| s_ca gXV (fX8_checkRange N) 3 [] <| s_aload 0 <| s_get gyX 8 5 <| s_get gyX 6 0 <| s_aload 0 <| s_get gyX 8 0 <| s_iload 1 <| s_cav gI (fX3_choose N) 3 [195, 196, 197, 1, 2, 3, 4, 5, 6, 7, 8, 9, 10, 11, 12, 13, 14, 15, 16, 17, 18, 19, 20] <| s_iret
def fX8_schedule (N : Nat) : List Value → gM → Option (gR × gM) := gFn 2 (fX8_schedule_k0 N)
def fX8_scheduleWeight_k0 (N : Nat) : gK :=
  s_iload 1 <| s_const 0 <| s_pref 1200 <| s_const 3 <| s_tld <| s_ca gXV (fX8_checkRange N) 3 [] <| s_aload 0 <| s_get gyX 8 5 <| s_get gyX 6 0 <| s_aload 0 <| s_get gyX 8 0 <| s_iload 1 <| s_cav gI (fX3_choose N) 3 [195, 196, 197, 1, 2, 3, 4, 5, 6, 7, 8, 9, 10, 11, 12, 13, 14, 15, 16, 17, 18, 19, 20] <| s_aload 0 <| s_get gyX 8 5 <| s_get gyX 6 0 <| s_get gyX 3 1 <| s_ca gI (fX3_sumOfWeights N) 2 [197] <| s_iret
def fX8_scheduleWeight (N : Nat) : List Value → gM → Option (gR × gM) := gFn 2 (fX8_scheduleWeight_k0 N)
def fX8_forecast_k24 (N : Nat) : gK :=
  s_aload 0 <| s_get gyX 8 5 <| s_aload 0 <| s_get gyX 8 2 <| s_iload 1 <| s_cav gV (fX6_passSlots N) 3 [194, 195, 196, 197, 198, 199, 200, 41, 42, 43, 44, 45, 46, 47, 48, 49, 50, 51, 52, 53, 54, 55, 56, 57, 58, 59, 60] <| s_aload 0 <| s_get gyX 8 2 <| s_iload 2 <| s_ca gJ (fX8_totalOf N) 2 [41, 42, 43, 44, 45, 46, 47, 48, 49, 50, 51, 52, 53, 54, 55, 56, 57, 58, 59, 60] <| s_lret
def fX8_forecast_k0 (N : Nat) : gK :=
  s_iload 1 <| s_const 1 <| s_const 50 <| s_ca gXV (fX8_checkRange N) 3 [] <| s_iload 2 <| s_const 0 <| s_const 5 <| s_ca gXV (fX8_checkRange N) 3 [] <| s_aload 0 <| s_get gyX 8 2 <| s_aload 0 <| s_get gyX 8 0 <| s_cav gV (fX7_copyFrom N) 2 [41, 42, 43, 44, 45, 46, 47, 48, 49, 50, 51, 52, 53, 54, 55, 56, 57, 58, 59, 60, 1, 2, 3, 4, 5, 6, 7, 8, 9, 10, 11, 12, 13, 14, 15, 16, 17, 18, 19, 20] <| s_mask [true, true, true] <| fX8_forecast_k24 N
def fX8_forecast (N : Nat) : List Value → gM → Option (gR × gM) := gFn 3 (fX8_forecast_k0 N)
def fX8_forecastFlow_k19 (N : Nat) : gK :=
  s_aload 0 <| s_get gyX 8 2 <| s_aload 0 <| s_get gyX 8 0 <| s_cav gV (fX7_copyFrom N) 2 [41, 42, 43, 44, 45, 46, 47, 48, 49, 50, 51, 52, 53, 54, 55, 56, 57, 58, 59, 60, 1, 2, 3, 4, 5, 6, 7, 8, 9, 10, 11, 12, 13, 14, 15, 16, 17, 18, 19, 20] <| s_aload 0 <| s_get gyX 8 5 <| s_aload 0 <| s_get gyX 8 2 <| s_iload 2 <| s_cav gV (fX6_passSlots N) 3 [194, 195, 196, 197, 198, 199, 200, 41, 42, 43, 44, 45, 46, 47, 48, 49, 50, 51, 52, 53, 54, 55, 56, 57, 58, 59, 60] <| s_aload 0 <| s_get gyX 8 2 <| s_get gyX 7 0 <| s_iload 1 <| s_iload 3 <| s_cav gI (fX2_getNumber N) 3 [42, 43, 44, 45, 46, 47, 48, 49, 50] <| s_iret
def fX8_forecastFlow_k0 (N : Nat) : gK :=
  s_aload 0 <| s_iload 1 <| s_cav gXV (fX8_checkFlow N) 2 [0, 1, 2, 3, 4, 5, 6, 7, 8, 9, 10, 11, 12, 13, 14, 15, 16, 17, 18, 19, 20, 21, 22, 23, 24, 25, 26, 27, 28, 29, 30, 31, 32, 33, 34, 35, 36, 37, 38, 39, 40, 41, 42, 43, 44, 45, 46, 47, 48, 49, 50, 51, 52, 53, 54, 55, 56, 57, 58, 59, 60, 61, 62, 63, 64, 65, 66, 67, 68, 69, 70, 71, 72, 73, 74, 75, 76, 77, 78, 79, 80, 81, 82, 83, 84, 85, 86, 87, 88, 89, 90, 91, 92, 93, 94, 95, 96, 97, 98, 99, 100, 101, 102, 103, 104, 105, 106, 107, 108, 109, 110, 111, 112, 113, 114, 115, 116, 117, 118, 119, 120, 121, 122, 123, 124, 125, 126, 127, 128, 129, 130, 131, 132, 133, 134, 135, 136, 137, 138, 139, 140, 141, 142, 143, 144, 145, 146, 147, 148, 149, 150, 151, 152, 153, 154, 155, 156, 157, 158, 159, 160, 161, 162, 163, 164, 165, 166, 167, 168, 169, 170, 171, 172, 173, 174, 175, 176, 177, 178, 179, 180, 181, 182, 183, 184, 185, 186, 187, 188, 189, 190, 191, 192, 193, 194, 195, 196, 197, 198, 199, 200, 201, 202, 203] <| s_iload 2 <| s_const 1 <| s_const 50 <| s_ca gXV (fX8_checkRange N) 3 [] <| s_iload 3 <| s_const 0 <| s_const 10 <| s_ca gXV (fX8_checkRange N) 3 [] <| s_mask [true, true, true, true] <| fX8_forecastFlow_k19 N
def fX8_forecastFlow (N : Nat) : List Value → gM → Option (gR × gM) := gFn 4 (fX8_forecastFlow_k0 N)
def fX8_slotsToFull_k65 (N : Nat) (K28 : gK) : gK :=
  s_iinc 3 1 <| s_mask [true, true, true, true] <| K28
def fX8_slotsToFull_b28 (N : Nat) : gK → gK := fun K28 =>
  s_iload 3 <| s_iload 1 <| s_cmp gc_gt (s_throw "java/util/NoSuchElementException") (s_aload 0 <| s_get gyX 8 2 <| s_get gyX 7 1 <| s_get gyX 4 11 <| s_iload 2 <| s_cmp gc_lt (s_iload 3 <| s_iload 1 <| s_cmp gc_ge (s_mask [true, true, true, true] <| fX8_slotsToFull_k65 N K28) (s_aload 0 <| s_get gyX 8 5 <| s_aload 0 <| s_get gyX 8 2 <| s_cav gV (fX6_passSlot N) 2 [194, 195, 196, 197, 198, 199, 200, 41, 42, 43, 44, 45, 46, 47, 48, 49, 50, 51, 52, 53, 54, 55, 56, 57, 58, 59, 60] <| s_mask [true, true, true, true] <| fX8_slotsToFull_k65 N K28)) (s_iload 3 <| s_iret))
def fX8_slotsToFull_k28 (N : Nat) : gK := s_lp (fX8_slotsToFull_b28 N) N
def fX8_slotsToFull_k26 (N : Nat) : gK :=
  s_const 0 <| s_istore 3 <| s_mask [true, true, true, true] <| fX8_slotsToFull_k28 N
def fX8_slotsToFull_k0 (N : Nat) : gK :=
  s_iload 1 <| s_const 1 <| s_const 50 <| s_ca gXV (fX8_checkRange N) 3 [] <| s_iload 2 <| s_const 1 <| s_const 500 <| s_ca gXV (fX8_checkRange N) 3 [] <| s_aload 0 <| s_get gyX 8 2 <| s_aload 0 <| s_get gyX 8 0 <| s_cav gV (fX7_copyFrom N) 2 [41, 42, 43, 44, 45, 46, 47, 48, 49, 50, 51, 52, 53, 54, 55, 56, 57, 58, 59, 60, 1, 2, 3, 4, 5, 6, 7, 8, 9, 10, 11, 12, 13, 14, 15, 16, 17, 18, 19, 20] <| s_mask [true, true, true, false] <| fX8_slotsToFull_k26 N
def fX8_slotsToFull (N : Nat) : List Value → gM → Option (gR × gM) := gFn 4 (fX8_slotsToFull_k0 N)
def fX8_bestBias_k124 (N : Nat) (K17 : gK) : gK :=
  s_iinc 5 1 <| s_mask [true, true, true, true, true, true, false, false] <| K17
def fX8_bestBias_k114 (N : Nat) (K17 : gK) : gK :=
  s_iload 5 <| s_istore 2 <| s_iload 6 <| s_istore 3 <| s_iload 7 <| s_istore 4 <| s_mask [true, true, true, true, true, true, false, false] <| fX8_bestBias_k124 N K17
def fX8_bestBias_k88 (N : Nat) (K17 : gK) : gK :=
  s_istore 7 <| s_iload 5 <| s_if gz_eq (s_mask [true, true, false, false, false, true, true, true] <| fX8_bestBias_k114 N K17) (s_iload 6 <| s_iload 3 <| s_cmp gc_lt (s_mask [true, true, false, false, false, true, true, true] <| fX8_bestBias_k114 N K17) (s_iload 6 <| s_iload 3 <| s_cmp gc_ne (s_mask [true, true, true, true, true, true, false, false] <| fX8_bestBias_k124 N K17) (s_iload 7 <| s_iload 4 <| s_cmp gc_ge (s_mask [true, true, true, true, true, true, false, false] <| fX8_bestBias_k124 N K17) (s_mask [true, true, false, false, false, true, true, true] <| fX8_bestBias_k114 N K17))))
def fX8_bestBias_b17 (N : Nat) : gK → gK := fun K17 =>
  s_iload 5 <| s_pref 1200 <| s_const 2 <| s_tld <| s_cmp gc_gt (s_iload 2 <| s_iret) (s_aload 0 <| s_get gyX 8 2 <| s_aload 0 <| s_get gyX 8 0 <| s_cav gV (fX7_copyFrom N) 2 [41, 42, 43, 44, 45, 46, 47, 48, 49, 50, 51, 52, 53, 54, 55, 56, 57, 58, 59, 60, 1, 2, 3, 4, 5, 6, 7, 8, 9, 10, 11, 12, 13, 14, 15, 16, 17, 18, 19, 20] <| s_aload 0 <| s_get gyX 8 2 <| s_get gyX 7 0 <| s_get gyX 2 8 <| s_const 2 <| s_iload 5 <| s_ast gyX 0 <| s_aload 0 <| s_get gyX 8 5 <| s_aload 0 <| s_get gyX 8 2 <| s_iload 1 <| s_cav gV (fX6_passSlots N) 3 [194, 195, 196, 197, 198, 199, 200, 41, 42, 43, 44, 45, 46, 47, 48, 49, 50, 51, 52, 53, 54, 55, 56, 57, 58, 59, 60] <| s_aload 0 <| s_get gyX 8 2 <| s_get gyX 7 1 <| s_get gyX 4 11 <| s_istore 6 <| s_aload 0 <| s_get gyX 8 2 <| s_get gyX 7 0 <| s_const 8 <| s_cav gI (fX2_sumNumber N) 2 [42, 43, 44, 45, 46, 47, 48, 49, 50] <| s_mask [true, true, true, true, true, true, true, false] <| fX8_bestBias_k88 N K17)
def fX8_bestBias_k17 (N : Nat) : gK := s_lp (fX8_bestBias_b17 N) N
def fX8_bestBias_k0 (N : Nat) : gK :=
  s_iload 1 <| s_const 1 <| s_const 50 <| s_ca gXV (fX8_checkRange N) 3 [] <| s_const 0 <| s_istore 2 <| s_const 0 <| s_istore 3 <| s_const 0 <| s_istore 4 <| s_const 0 <| s_istore 5 <| s_mask [true, true, true, true, true, true, false, false] <| fX8_bestBias_k17 N
def fX8_bestBias (N : Nat) : List Value → gM → Option (gR × gM) := gFn 8 (fX8_bestBias_k0 N)
def fX8_bestExcess_k100 (N : Nat) (K14 : gK) : gK :=
  s_iinc 4 10 <| s_mask [true, true, true, true, true, false] <| K14
def fX8_bestExcess_k86 (N : Nat) (K14 : gK) : gK :=
  s_istore 5 <| s_iload 5 <| s_iload 3 <| s_cmp gc_le (s_mask [true, true, true, true, true, false] <| fX8_bestExcess_k100 N K14) (s_iload 4 <| s_istore 2 <| s_iload 5 <| s_istore 3 <| s_mask [true, true, true, true, true, false] <| fX8_bestExcess_k100 N K14)
def fX8_bestExcess_b14 (N : Nat) : gK → gK := fun K14 =>
  s_iload 4 <| s_pref 1200 <| s_const 1 <| s_tld <| s_cmp gc_gt (s_iload 2 <| s_iret) (s_aload 0 <| s_get gyX 8 2 <| s_aload 0 <| s_get gyX 8 0 <| s_cav gV (fX7_copyFrom N) 2 [41, 42, 43, 44, 45, 46, 47, 48, 49, 50, 51, 52, 53, 54, 55, 56, 57, 58, 59, 60, 1, 2, 3, 4, 5, 6, 7, 8, 9, 10, 11, 12, 13, 14, 15, 16, 17, 18, 19, 20] <| s_aload 0 <| s_get gyX 8 2 <| s_get gyX 7 0 <| s_get gyX 2 8 <| s_const 0 <| s_const 1 <| s_ast gyX 0 <| s_aload 0 <| s_get gyX 8 2 <| s_get gyX 7 0 <| s_get gyX 2 8 <| s_const 1 <| s_iload 4 <| s_ast gyX 0 <| s_aload 0 <| s_get gyX 8 5 <| s_aload 0 <| s_get gyX 8 2 <| s_iload 1 <| s_cav gV (fX6_passSlots N) 3 [194, 195, 196, 197, 198, 199, 200, 41, 42, 43, 44, 45, 46, 47, 48, 49, 50, 51, 52, 53, 54, 55, 56, 57, 58, 59, 60] <| s_aload 0 <| s_get gyX 8 2 <| s_get gyX 7 0 <| s_const 6 <| s_cav gI (fX2_sumNumber N) 2 [42, 43, 44, 45, 46, 47, 48, 49, 50] <| s_mask [true, true, true, true, true, false] <| fX8_bestExcess_k86 N K14)
def fX8_bestExcess_k14 (N : Nat) : gK := s_lp (fX8_bestExcess_b14 N) N
def fX8_bestExcess_k0 (N : Nat) : gK :=
  s_iload 1 <| s_const 1 <| s_const 50 <| s_ca gXV (fX8_checkRange N) 3 [] <| s_const 0 <| s_istore 2 <| s_const (-1) <| s_istore 3 <| s_const 0 <| s_istore 4 <| s_mask [true, true, true, true, true, false] <| fX8_bestExcess_k14 N
def fX8_bestExcess (N : Nat) : List Value → gM → Option (gR × gM) := gFn 6 (fX8_bestExcess_k0 N)
def fX8_bestSettings_k127 (N : Nat) (K14 : gK) (K27 : gK) : gK :=
  s_iinc 6 1 <| s_mask [true, true, true, true, false, true, true, false, false] <| K27
def fX8_bestSettings_k115 (N : Nat) (K14 : gK) (K27 : gK) : gK :=
  s_const 10 <| s_iload 5 <| s_bin gb_mul <| s_iload 6 <| s_bin gb_add <| s_istore 2 <| s_lload 7 <| s_lstore 3 <| s_mask [true, true, true, true, false, true, true, false, false] <| fX8_bestSettings_k127 N K14 K27
def fX8_bestSettings_k101 (N : Nat) (K14 : gK) (K27 : gK) : gK :=
  s_lstore 7 <| s_iload 2 <| s_const (-1) <| s_cmp gc_eq (s_mask [true, true, false, false, false, true, true, true, false] <| fX8_bestSettings_k115 N K14 K27) (s_lload 7 <| s_lload 3 <| s_lcmp <| s_if gz_ge (s_mask [true, true, true, true, false, true, true, false, false] <| fX8_bestSettings_k127 N K14 K27) (s_mask [true, true, false, false, false, true, true, true, false] <| fX8_bestSettings_k115 N K14 K27))
def fX8_bestSettings_b27 (N : Nat) (K14 : gK) : gK → gK := fun K27 =>
  s_iload 6 <| s_pref 1200 <| s_const 3 <| s_tld <| s_cmp gc_gt (s_iinc 5 1 <| s_mask [true, true, true, true, false, true, false, false, false] <| K14) (s_aload 0 <| s_get gyX 8 2 <| s_aload 0 <| s_get gyX 8 0 <| s_cav gV (fX7_copyFrom N) 2 [41, 42, 43, 44, 45, 46, 47, 48, 49, 50, 51, 52, 53, 54, 55, 56, 57, 58, 59, 60, 1, 2, 3, 4, 5, 6, 7, 8, 9, 10, 11, 12, 13, 14, 15, 16, 17, 18, 19, 20] <| s_aload 0 <| s_get gyX 8 2 <| s_get gyX 7 0 <| s_get gyX 2 8 <| s_const 0 <| s_iload 5 <| s_ast gyX 0 <| s_aload 0 <| s_get gyX 8 2 <| s_get gyX 7 0 <| s_get gyX 2 8 <| s_const 3 <| s_iload 6 <| s_ast gyX 0 <| s_aload 0 <| s_get gyX 8 5 <| s_aload 0 <| s_get gyX 8 2 <| s_iload 1 <| s_cav gV (fX6_passSlots N) 3 [194, 195, 196, 197, 198, 199, 200, 41, 42, 43, 44, 45, 46, 47, 48, 49, 50, 51, 52, 53, 54, 55, 56, 57, 58, 59, 60] <| s_aload 0 <| s_get gyX 8 2 <| s_get gyX 7 1 <| s_get gyX 4 2 <| s_ca gJ (fX8_sumOfSquares N) 1 [54] <| s_mask [true, true, true, true, false, true, true, false, false] <| fX8_bestSettings_k101 N K14 K27)
def fX8_bestSettings_k27 (N : Nat) (K14 : gK) : gK := s_lp (fX8_bestSettings_b27 N K14) N
def fX8_bestSettings_b14 (N : Nat) : gK → gK := fun K14 =>
  s_iload 5 <| s_pref 1200 <| s_const 0 <| s_tld <| s_cmp gc_gt (s_iload 2 <| s_iret) (s_const 0 <| s_istore 6 <| s_mask [true, true, true, true, false, true, true, false, false] <| fX8_bestSettings_k27 N K14)
def fX8_bestSettings_k14 (N : Nat) : gK := s_lp (fX8_bestSettings_b14 N) N
def fX8_bestSettings_k0 (N : Nat) : gK :=
  s_iload 1 <| s_const 1 <| s_const 50 <| s_ca gXV (fX8_checkRange N) 3 [] <| s_const (-1) <| s_istore 2 <| s_lconst 0 <| s_lstore 3 <| s_const 0 <| s_istore 5 <| s_mask [true, true, true, true, false, true, false, false, false] <| fX8_bestSettings_k14 N
def fX8_bestSettings (N : Nat) : List Value → gM → Option (gR × gM) := gFn 9 (fX8_bestSettings_k0 N)
def fX8_staysSmall_b27 (N : Nat) : gK → gK := fun K27 =>
  s_iload 4 <| s_iload 3 <| s_cmp gc_ge (s_const 1 <| s_zret) (s_aload 0 <| s_get gyX 8 5 <| s_aload 0 <| s_get gyX 8 2 <| s_cav gV (fX6_passSlot N) 2 [194, 195, 196, 197, 198, 199, 200, 41, 42, 43, 44, 45, 46, 47, 48, 49, 50, 51, 52, 53, 54, 55, 56, 57, 58, 59, 60] <| s_aload 0 <| s_get gyX 8 2 <| s_get gyX 7 1 <| s_get gyX 4 11 <| s_const 100 <| s_cmp gc_le (s_iinc 4 1 <| s_mask [true, false, false, true, true] <| K27) (s_const 0 <| s_zret))
def fX8_staysSmall_k27 (N : Nat) : gK := s_lp (fX8_staysSmall_b27 N) N
def fX8_staysSmall_k0 (N : Nat) : gK :=
  s_aload 0 <| s_get gyX 8 2 <| s_aload 0 <| s_get gyX 8 0 <| s_cav gV (fX7_copyFrom N) 2 [41, 42, 43, 44, 45, 46, 47, 48, 49, 50, 51, 52, 53, 54, 55, 56, 57, 58, 59, 60, 1, 2, 3, 4, 5, 6, 7, 8, 9, 10, 11, 12, 13, 14, 15, 16, 17, 18, 19, 20] <| s_aload 0 <| s_get gyX 8 2 <| s_get gyX 7 0 <| s_iload 1 <| s_const 2 <| s_iload 2 <| s_cav gV (fX2_putNumber N) 4 [42, 43, 44, 45, 46, 47, 48, 49, 50] <| s_const 0 <| s_istore 4 <| s_mask [true, false, false, true, true] <| fX8_staysSmall_k27 N
def fX8_staysSmall (N : Nat) : List Value → gM → Option (gR × gM) := gFn 5 (fX8_staysSmall_k0 N)
def fX8_sustainable_b17 (N : Nat) : gK → gK := fun K17 =>
  s_iload 4 <| s_const 300 <| s_cmp gc_gt (s_iload 3 <| s_iret) (s_aload 0 <| s_iload 1 <| s_iload 4 <| s_iload 2 <| s_cav gI (fX8_staysSmall N) 4 [0, 1, 2, 3, 4, 5, 6, 7, 8, 9, 10, 11, 12, 13, 14, 15, 16, 17, 18, 19, 20, 21, 22, 23, 24, 25, 26, 27, 28, 29, 30, 31, 32, 33, 34, 35, 36, 37, 38, 39, 40, 41, 42, 43, 44, 45, 46, 47, 48, 49, 50, 51, 52, 53, 54, 55, 56, 57, 58, 59, 60, 61, 62, 63, 64, 65, 66, 67, 68, 69, 70, 71, 72, 73, 74, 75, 76, 77, 78, 79, 80, 81, 82, 83, 84, 85, 86, 87, 88, 89, 90, 91, 92, 93, 94, 95, 96, 97, 98, 99, 100, 101, 102, 103, 104, 105, 106, 107, 108, 109, 110, 111, 112, 113, 114, 115, 116, 117, 118, 119, 120, 121, 122, 123, 124, 125, 126, 127, 128, 129, 130, 131, 132, 133, 134, 135, 136, 137, 138, 139, 140, 141, 142, 143, 144, 145, 146, 147, 148, 149, 150, 151, 152, 153, 154, 155, 156, 157, 158, 159, 160, 161, 162, 163, 164, 165, 166, 167, 168, 169, 170, 171, 172, 173, 174, 175, 176, 177, 178, 179, 180, 181, 182, 183, 184, 185, 186, 187, 188, 189, 190, 191, 192, 193, 194, 195, 196, 197, 198, 199, 200, 201, 202, 203] <| s_if gz_ne (s_iload 4 <| s_istore 3 <| s_iinc 4 1 <| s_mask [true, true, true, true, true] <| K17) (s_iload 3 <| s_iret))
def fX8_sustainable_k17 (N : Nat) : gK := s_lp (fX8_sustainable_b17 N) N
def fX8_sustainable_k0 (N : Nat) : gK :=
  s_aload 0 <| s_iload 1 <| s_cav gXV (fX8_checkFlow N) 2 [0, 1, 2, 3, 4, 5, 6, 7, 8, 9, 10, 11, 12, 13, 14, 15, 16, 17, 18, 19, 20, 21, 22, 23, 24, 25, 26, 27, 28, 29, 30, 31, 32, 33, 34, 35, 36, 37, 38, 39, 40, 41, 42, 43, 44, 45, 46, 47, 48, 49, 50, 51, 52, 53, 54, 55, 56, 57, 58, 59, 60, 61, 62, 63, 64, 65, 66, 67, 68, 69, 70, 71, 72, 73, 74, 75, 76, 77, 78, 79, 80, 81, 82, 83, 84, 85, 86, 87, 88, 89, 90, 91, 92, 93, 94, 95, 96, 97, 98, 99, 100, 101, 102, 103, 104, 105, 106, 107, 108, 109, 110, 111, 112, 113, 114, 115, 116, 117, 118, 119, 120, 121, 122, 123, 124, 125, 126, 127, 128, 129, 130, 131, 132, 133, 134, 135, 136, 137, 138, 139, 140, 141, 142, 143, 144, 145, 146, 147, 148, 149, 150, 151, 152, 153, 154, 155, 156, 157, 158, 159, 160, 161, 162, 163, 164, 165, 166, 167, 168, 169, 170, 171, 172, 173, 174, 175, 176, 177, 178, 179, 180, 181, 182, 183, 184, 185, 186, 187, 188, 189, 190, 191, 192, 193, 194, 195, 196, 197, 198, 199, 200, 201, 202, 203] <| s_iload 2 <| s_const 1 <| s_const 20 <| s_ca gXV (fX8_checkRange N) 3 [] <| s_const (-1) <| s_istore 3 <| s_const 0 <| s_istore 4 <| s_mask [true, true, true, true, true] <| fX8_sustainable_k17 N
def fX8_sustainable (N : Nat) : List Value → gM → Option (gR × gM) := gFn 5 (fX8_sustainable_k0 N)
