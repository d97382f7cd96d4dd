def hJF_fill_0 (N : Nat) (n1 : Nat) (v1 : Int32) (I : gM) : gO := fJF_fill_k0 N n1 [some (.ref 0), some (.int v1), none, none] [] I
def hJF_fill_5 (N : Nat) (n1 : Nat) (n5 : Nat) (v1 : Int32) (v2 : Int32) (v3 : Int32) (I : gM) : gO := s_lp (fJF_fill_b5 N n1) n5 [some (.ref 0), some (.int v1), some (.int v2), some (.int v3)] [] I
set_option maxRecDepth 100000 in
theorem eJF_fill_0 (N : Nat) (n1 : Nat) (v1 : Int32) (I : gM) : hJF_fill_0 N n1 v1 I =
  (hJF_fill_5 N n1 N v1 0 (Int32.ofNat n1) I) := by
  show (fJF_fill_k0 N n1) [some (.ref 0), some (.int v1), none, none] [] I = _
  unfold fJF_fill_k0
  refine tt_const ?_
  refine tt_istore (L2 := [some (.ref 0), some (.int v1), some (.int 0), none]) (tt_lt rfl) rfl ?_
  refine tt_aload rfl ?_
  refine tt_alen rfl ?_
  refine tt_istore (L2 := [some (.ref 0), some (.int v1), some (.int 0), some (.int (Int32.ofNat n1))]) (tt_lt rfl) rfl ?_
  refine tt_mask rfl ?_
  exact rfl
set_option maxRecDepth 100000 in
theorem eJF_fill_5 (N : Nat) (n1 : Nat) (n5 : Nat) (v1 : Int32) (v2 : Int32) (v3 : Int32) (I : gM) : hJF_fill_5 N n1 (n5 + 1) v1 v2 v3 I =
  (if gc_ge v2 v3 = true then (some (.inl none, I)) else (ck n1 v2 <| hJF_fill_5 N n1 n5 v1 (v2 + 1) v3 (gU I 0 (Int32.toNatClampNeg v2) v1))) := by
  show (fJF_fill_b5 N n1 (s_lp (fJF_fill_b5 N n1) n5)) [some (.ref 0), some (.int v1), some (.int v2), some (.int v3)] [] I = _
  unfold fJF_fill_b5
  refine tt_iload rfl ?_
  refine tt_iload rfl ?_
  refine tt_cmp ?_ ?_
  · skip
    exact rfl
  · skip
    refine tt_aload rfl ?_
    refine tt_iload rfl ?_
    refine tt_iload rfl ?_
    refine tt_ast (v := v1) rfl rfl ?_
    refine tt_iinc (L2 := [some (.ref 0), some (.int v1), some (.int (v2 + 1)), some (.int v3)]) rfl rfl ?_
    refine tt_mask rfl ?_
    exact rfl
theorem eJF_fill_5z (N : Nat) (n1 : Nat) (v1 : Int32) (v2 : Int32) (v3 : Int32) (I : gM) : hJF_fill_5 N n1 0 v1 v2 v3 I = none := (rfl)
set_option maxRecDepth 100000 in
theorem eJF_fill (N : Nat) (n1 : Nat) (v1 : Int32) (I : gM) : fJF_fill N n1 [.ref 0, .int v1] I = hJF_fill_0 N n1 v1 I := by
  show gFn 4 (fJF_fill_k0 N n1) [.ref 0, .int v1] I = (fJF_fill_k0 N n1) [some (.ref 0), some (.int v1), none, none] [] I
  exact tt_fn rfl rfl

def hX8_copyRow_0 (N : Nat) (n1 n2 : Nat) (v2 : Int32) (I : gM) : gO := fX8_copyRow_k0 N n1 n2 [some (.ref 0), some (.ref 1), some (.int v2)] [] I
set_option maxRecDepth 100000 in
theorem eX8_copyRow_0 (N : Nat) (n1 n2 : Nat) (v2 : Int32) (I : gM) : hX8_copyRow_0 N n1 n2 v2 I =
  (hCk n1 n2 (0 : Int32) (0 : Int32) v2 <| some (.inl none, (hCp 0 1 (0 : Int32) (0 : Int32) v2 I))) := by
  show (fX8_copyRow_k0 N n1 n2) [some (.ref 0), some (.ref 1), some (.int v2)] [] I = _
  unfold fX8_copyRow_k0
  refine tt_aload rfl ?_
  refine tt_const ?_
  refine tt_aload rfl ?_
  refine tt_const ?_
  refine tt_iload rfl ?_
  refine tt_copy rfl rfl ?_
  exact rfl
set_option maxRecDepth 100000 in
theorem eX8_copyRow (N : Nat) (n1 n2 : Nat) (v2 : Int32) (I : gM) : fX8_copyRow N n1 n2 [.ref 0, .ref 1, .int v2] I = hX8_copyRow_0 N n1 n2 v2 I := by
  show gFn 3 (fX8_copyRow_k0 N n1 n2) [.ref 0, .ref 1, .int v2] I = (fX8_copyRow_k0 N n1 n2) [some (.ref 0), some (.ref 1), some (.int v2)] [] I
  exact tt_fn rfl rfl

def hX8_pair_0 (N : Nat) (v0 : Int32) (v1 : Int32) (I : gM) : gO := fX8_pair_k0 N [some (.int v0), some (.int v1)] [] I
set_option maxRecDepth 100000 in
theorem eX8_pair_0 (N : Nat) (v0 : Int32) (v1 : Int32) (I : gM) : hX8_pair_0 N v0 v1 I =
  (some (.inl (some (.int ((gb_add (gb_mul v0 10) v1)))), I)) := by
  show (fX8_pair_k0 N) [some (.int v0), some (.int v1)] [] I = _
  unfold fX8_pair_k0
  refine tt_iload rfl ?_
  refine tt_const ?_
  refine tt_bin ?_
  refine tt_iload rfl ?_
  refine tt_bin ?_
  exact rfl
set_option maxRecDepth 100000 in
theorem eX8_pair (N : Nat) (v0 : Int32) (v1 : Int32) (I : gM) : fX8_pair N [.int v0, .int v1] I = hX8_pair_0 N v0 v1 I := by
  show gFn 2 (fX8_pair_k0 N) [.int v0, .int v1] I = (fX8_pair_k0 N) [some (.int v0), some (.int v1)] [] I
  exact tt_fn rfl rfl

def hX8_sum_0 (N : Nat) (I : gM) : gO := fX8_sum_k0 N [some (.ref 0), none, none, none, none, none, none] [] I
def hX8_sum_11 (N : Nat) (n11 : Nat) (v1 : Int64) (v4 : Int32) (v5 : Int32) (I : gM) : gO := s_lp (fX8_sum_b11 N) n11 [none, some (.long v1), none, some (.ref 0), some (.int v4), some (.int v5), none] [] I
set_option maxRecDepth 100000 in
theorem eX8_sum_0 (N : Nat) (I : gM) : hX8_sum_0 N I =
  (hX8_sum_11 N N 0 (Int32.ofNat 100) 0 I) := by
  show (fX8_sum_k0 N) [some (.ref 0), none, none, none, none, none, none] [] I = _
  unfold fX8_sum_k0
  refine tt_lconst ?_
  refine tt_lstore (L2 := [some (.ref 0), some (.long 0), none, none, none, none, none]) (tt_lt rfl) rfl ?_
  refine tt_aload rfl ?_
  refine tt_astore (L2 := [some (.ref 0), some (.long 0), none, some (.ref 0), none, none, none]) (tt_lt rfl) rfl ?_
  refine tt_aload rfl ?_
  refine tt_alen rfl ?_
  refine tt_istore (L2 := [some (.ref 0), some (.long 0), none, some (.ref 0), some (.int (Int32.ofNat 100)), none, none]) (tt_lt rfl) rfl ?_
  refine tt_const ?_
  refine tt_istore (L2 := [some (.ref 0), some (.long 0), none, some (.ref 0), some (.int (Int32.ofNat 100)), some (.int 0), none]) (tt_lt rfl) rfl ?_
  refine tt_mask rfl ?_
  exact rfl
set_option maxRecDepth 100000 in
theorem eX8_sum_11 (N : Nat) (n11 : Nat) (v1 : Int64) (v4 : Int32) (v5 : Int32) (I : gM) : hX8_sum_11 N (n11 + 1) v1 v4 v5 I =
  (if gc_ge v5 v4 = true then (some (.inl (some (.long v1)), I)) else (ck 100 v5 <| hX8_sum_11 N n11 ((gb_ladd v1 (((I 0 (Int32.toNatClampNeg v5))).toInt64))) v4 (v5 + 1) I)) := by
  show (fX8_sum_b11 N (s_lp (fX8_sum_b11 N) n11)) [none, some (.long v1), none, some (.ref 0), some (.int v4), some (.int v5), none] [] I = _
  unfold fX8_sum_b11
  refine tt_iload rfl ?_
  refine tt_iload rfl ?_
  refine tt_cmp ?_ ?_
  · skip
    refine tt_lload rfl ?_
    exact rfl
  · skip
    refine tt_aload rfl ?_
    refine tt_iload rfl ?_
    refine tt_ald (x := (I 0 (Int32.toNatClampNeg v5))) rfl rfl ?_
    refine tt_istore (L2 := [none, some (.long v1), none, some (.ref 0), some (.int v4), some (.int v5), some (.int ((I 0 (Int32.toNatClampNeg v5))))]) (tt_lt rfl) rfl ?_
    refine tt_lload rfl ?_
    refine tt_iload rfl ?_
    refine tt_i2l ?_
    refine tt_lbin ?_
    refine tt_lstore (L2 := [none, some (.long ((gb_ladd v1 (((I 0 (Int32.toNatClampNeg v5))).toInt64)))), none, some (.ref 0), some (.int v4), some (.int v5), some (.int ((I 0 (Int32.toNatClampNeg v5))))]) (tt_lt rfl) rfl ?_
    refine tt_iinc (L2 := [none, some (.long ((gb_ladd v1 (((I 0 (Int32.toNatClampNeg v5))).toInt64)))), none, some (.ref 0), some (.int v4), some (.int (v5 + 1)), some (.int ((I 0 (Int32.toNatClampNeg v5))))]) rfl rfl ?_
    refine tt_mask rfl ?_
    exact rfl
theorem eX8_sum_11z (N : Nat) (v1 : Int64) (v4 : Int32) (v5 : Int32) (I : gM) : hX8_sum_11 N 0 v1 v4 v5 I = none := (rfl)
set_option maxRecDepth 100000 in
theorem eX8_sum (N : Nat) (I : gM) : fX8_sum N [.ref 0] I = hX8_sum_0 N I := by
  show gFn 7 (fX8_sum_k0 N) [.ref 0] I = (fX8_sum_k0 N) [some (.ref 0), none, none, none, none, none, none] [] I
  exact tt_fn rfl rfl

def hX8_sumOfSquares_0 (N : Nat) (I : gM) : gO := fX8_sumOfSquares_k0 N [some (.ref 0), none, none, none, none, none, none] [] I
def hX8_sumOfSquares_11 (N : Nat) (n11 : Nat) (v1 : Int64) (v4 : Int32) (v5 : Int32) (I : gM) : gO := s_lp (fX8_sumOfSquares_b11 N) n11 [none, some (.long v1), none, some (.ref 0), some (.int v4), some (.int v5), none] [] I
set_option maxRecDepth 100000 in
theorem eX8_sumOfSquares_0 (N : Nat) (I : gM) : hX8_sumOfSquares_0 N I =
  (hX8_sumOfSquares_11 N N 0 (Int32.ofNat 100) 0 I) := by
  show (fX8_sumOfSquares_k0 N) [some (.ref 0), none, none, none, none, none, none] [] I = _
  unfold fX8_sumOfSquares_k0
  refine tt_lconst ?_
  refine tt_lstore (L2 := [some (.ref 0), some (.long 0), none, none, none, none, none]) (tt_lt rfl) rfl ?_
  refine tt_aload rfl ?_
  refine tt_astore (L2 := [some (.ref 0), some (.long 0), none, some (.ref 0), none, none, none]) (tt_lt rfl) rfl ?_
  refine tt_aload rfl ?_
  refine tt_alen rfl ?_
  refine tt_istore (L2 := [some (.ref 0), some (.long 0), none, some (.ref 0), some (.int (Int32.ofNat 100)), none, none]) (tt_lt rfl) rfl ?_
  refine tt_const ?_
  refine tt_istore (L2 := [some (.ref 0), some (.long 0), none, some (.ref 0), some (.int (Int32.ofNat 100)), some (.int 0), none]) (tt_lt rfl) rfl ?_
  refine tt_mask rfl ?_
  exact rfl
set_option maxRecDepth 100000 in
theorem eX8_sumOfSquares_11 (N : Nat) (n11 : Nat) (v1 : Int64) (v4 : Int32) (v5 : Int32) (I : gM) : hX8_sumOfSquares_11 N (n11 + 1) v1 v4 v5 I =
  (if gc_ge v5 v4 = true then (some (.inl (some (.long v1)), I)) else (ck 100 v5 <| hX8_sumOfSquares_11 N n11 ((gb_ladd v1 ((gb_lmul (((I 0 (Int32.toNatClampNeg v5))).toInt64) (((I 0 (Int32.toNatClampNeg v5))).toInt64))))) v4 (v5 + 1) I)) := by
  show (fX8_sumOfSquares_b11 N (s_lp (fX8_sumOfSquares_b11 N) n11)) [none, some (.long v1), none, some (.ref 0), some (.int v4), some (.int v5), none] [] I = _
  unfold fX8_sumOfSquares_b11
  refine tt_iload rfl ?_
  refine tt_iload rfl ?_
  refine tt_cmp ?_ ?_
  · skip
    refine tt_lload rfl ?_
    exact rfl
  · skip
    refine tt_aload rfl ?_
    refine tt_iload rfl ?_
    refine tt_ald (x := (I 0 (Int32.toNatClampNeg v5))) rfl rfl ?_
    refine tt_istore (L2 := [none, some (.long v1), none, some (.ref 0), some (.int v4), some (.int v5), some (.int ((I 0 (Int32.toNatClampNeg v5))))]) (tt_lt rfl) rfl ?_
    refine tt_lload rfl ?_
    refine tt_iload rfl ?_
    refine tt_i2l ?_
    refine tt_iload rfl ?_
    refine tt_i2l ?_
    refine tt_lbin ?_
    refine tt_lbin ?_
    refine tt_lstore (L2 := [none, some (.long ((gb_ladd v1 ((gb_lmul (((I 0 (Int32.toNatClampNeg v5))).toInt64) (((I 0 (Int32.toNatClampNeg v5))).toInt64)))))), none, some (.ref 0), some (.int v4), some (.int v5), some (.int ((I 0 (Int32.toNatClampNeg v5))))]) (tt_lt rfl) rfl ?_
    refine tt_iinc (L2 := [none, some (.long ((gb_ladd v1 ((gb_lmul (((I 0 (Int32.toNatClampNeg v5))).toInt64) (((I 0 (Int32.toNatClampNeg v5))).toInt64)))))), none, some (.ref 0), some (.int v4), some (.int (v5 + 1)), some (.int ((I 0 (Int32.toNatClampNeg v5))))]) rfl rfl ?_
    refine tt_mask rfl ?_
    exact rfl
theorem eX8_sumOfSquares_11z (N : Nat) (v1 : Int64) (v4 : Int32) (v5 : Int32) (I : gM) : hX8_sumOfSquares_11 N 0 v1 v4 v5 I = none := (rfl)
set_option maxRecDepth 100000 in
theorem eX8_sumOfSquares (N : Nat) (I : gM) : fX8_sumOfSquares N [.ref 0] I = hX8_sumOfSquares_0 N I := by
  show gFn 7 (fX8_sumOfSquares_k0 N) [.ref 0] I = (fX8_sumOfSquares_k0 N) [some (.ref 0), none, none, none, none, none, none] [] I
  exact tt_fn rfl rfl

def hX8_countBytes_0 (N : Nat) (v0 : Int32) (I : gM) : gO := fX8_countBytes_k0 N [some (.int v0), none, none] [] I
def hX8_countBytes_5 (N : Nat) (n5 : Nat) (v0 : Int32) (v1 : Int32) (v2 : Int32) (I : gM) : gO := s_lp (fX8_countBytes_b5 N) n5 [some (.int v0), some (.int v1), some (.int v2)] [] I
def hX8_countBytes_22 (N : Nat) (n5 : Nat) (v0 : Int32) (v1 : Int32) (v2 : Int32) (I : gM) : gO := fX8_countBytes_k22 N (s_lp (fX8_countBytes_b5 N) n5) [some (.int v0), some (.int v1), some (.int v2)] [] I
set_option maxRecDepth 100000 in
theorem eX8_countBytes_0 (N : Nat) (v0 : Int32) (I : gM) : hX8_countBytes_0 N v0 I =
  (hX8_countBytes_5 N N v0 0 24 I) := by
  show (fX8_countBytes_k0 N) [some (.int v0), none, none] [] I = _
  unfold fX8_countBytes_k0
  refine tt_const ?_
  refine tt_istore (L2 := [some (.int v0), some (.int 0), none]) (tt_lt rfl) rfl ?_
  refine tt_const ?_
  refine tt_istore (L2 := [some (.int v0), some (.int 0), some (.int 24)]) (tt_lt rfl) rfl ?_
  refine tt_mask rfl ?_
  exact rfl
set_option maxRecDepth 100000 in
theorem eX8_countBytes_5 (N : Nat) (n5 : Nat) (v0 : Int32) (v1 : Int32) (v2 : Int32) (I : gM) : hX8_countBytes_5 N (n5 + 1) v0 v1 v2 I =
  (if gz_lt v2 = true then (some (.inl (some (.int v1)), I)) else (if gz_eq ((gb_and (gb_ushr v0 v2) 255)) = true then (hX8_countBytes_22 N n5 v0 v1 v2 I) else (hX8_countBytes_22 N n5 v0 (v1 + 1) v2 I))) := by
  show (fX8_countBytes_b5 N (s_lp (fX8_countBytes_b5 N) n5)) [some (.int v0), some (.int v1), some (.int v2)] [] I = _
  unfold fX8_countBytes_b5
  refine tt_iload rfl ?_
  refine tt_if ?_ ?_
  · skip
    refine tt_iload rfl ?_
    exact rfl
  · skip
    refine tt_iload rfl ?_
    refine tt_iload rfl ?_
    refine tt_bin ?_
    refine tt_const ?_
    refine tt_bin ?_
    refine tt_if ?_ ?_
    · skip
      refine tt_mask rfl ?_
      exact rfl
    · skip
      refine tt_iinc (L2 := [some (.int v0), some (.int (v1 + 1)), some (.int v2)]) rfl rfl ?_
      refine tt_mask rfl ?_
      exact rfl
theorem eX8_countBytes_5z (N : Nat) (v0 : Int32) (v1 : Int32) (v2 : Int32) (I : gM) : hX8_countBytes_5 N 0 v0 v1 v2 I = none := (rfl)
set_option maxRecDepth 100000 in
theorem eX8_countBytes_22 (N : Nat) (n5 : Nat) (v0 : Int32) (v1 : Int32) (v2 : Int32) (I : gM) : hX8_countBytes_22 N n5 v0 v1 v2 I =
  (hX8_countBytes_5 N n5 v0 v1 ((v2 + (-8))) I) := by
  show (fX8_countBytes_k22 N (s_lp (fX8_countBytes_b5 N) n5)) [some (.int v0), some (.int v1), some (.int v2)] [] I = _
  unfold fX8_countBytes_k22
  refine tt_iinc (L2 := [some (.int v0), some (.int v1), some (.int ((v2 + (-8))))]) rfl rfl ?_
  refine tt_mask rfl ?_
  exact rfl
set_option maxRecDepth 100000 in
theorem eX8_countBytes (N : Nat) (v0 : Int32) (I : gM) : fX8_countBytes N [.int v0] I = hX8_countBytes_0 N v0 I := by
  show gFn 3 (fX8_countBytes_k0 N) [.int v0] I = (fX8_countBytes_k0 N) [some (.int v0), none, none] [] I
  exact tt_fn rfl rfl

def hX8_commonDivisor_0 (N : Nat) (v0 : Int32) (v1 : Int32) (I : gM) : gO := fX8_commonDivisor_k0 N [some (.int v0), some (.int v1), none, none, none, none] [] I
def hX8_commonDivisor_7 (N : Nat) (n7 : Nat) (v2 : Int32) (v3 : Int32) (v4 : Int32) (I : gM) : gO := s_lp (fX8_commonDivisor_b7 N) n7 [none, none, some (.int v2), some (.int v3), some (.int v4), none] [] I
set_option maxRecDepth 100000 in
theorem eX8_commonDivisor_0 (N : Nat) (v0 : Int32) (v1 : Int32) (I : gM) : hX8_commonDivisor_0 N v0 v1 I =
  (hX8_commonDivisor_7 N N v0 v1 0 I) := by
  show (fX8_commonDivisor_k0 N) [some (.int v0), some (.int v1), none, none, none, none] [] I = _
  unfold fX8_commonDivisor_k0
  refine tt_iload rfl ?_
  refine tt_istore (L2 := [some (.int v0), some (.int v1), some (.int v0), none, none, none]) (tt_lt rfl) rfl ?_
  refine tt_iload rfl ?_
  refine tt_istore (L2 := [some (.int v0), some (.int v1), some (.int v0), some (.int v1), none, none]) (tt_lt rfl) rfl ?_
  refine tt_const ?_
  refine tt_istore (L2 := [some (.int v0), some (.int v1), some (.int v0), some (.int v1), some (.int 0), none]) (tt_lt rfl) rfl ?_
  refine tt_mask rfl ?_
  exact rfl
set_option maxRecDepth 100000 in
theorem eX8_commonDivisor_7 (N : Nat) (n7 : Nat) (v2 : Int32) (v3 : Int32) (v4 : Int32) (I : gM) : hX8_commonDivisor_7 N (n7 + 1) v2 v3 v4 I =
  (if gc_ge v4 100 = true then (some (.inl (some (.int v2)), I)) else (if gz_eq v3 = true then (some (.inl (some (.int v2)), I)) else (if v3 = 0 then none else hX8_commonDivisor_7 N n7 v3 (gb_rem v2 v3) (v4 + 1) I))) := by
  show (fX8_commonDivisor_b7 N (s_lp (fX8_commonDivisor_b7 N) n7)) [none, none, some (.int v2), some (.int v3), some (.int v4), none] [] I = _
  unfold fX8_commonDivisor_b7
  refine tt_iload rfl ?_
  refine tt_const ?_
  refine tt_cmp ?_ ?_
  · skip
    refine tt_iload rfl ?_
    exact rfl
  · skip
    refine tt_iload rfl ?_
    refine tt_if ?_ ?_
    · skip
      refine tt_iload rfl ?_
      exact rfl
    · skip
      refine tt_iload rfl ?_
      refine tt_iload rfl ?_
      refine tt_div ?_
      refine tt_istore (L2 := [none, none, some (.int v2), some (.int v3), some (.int v4), some (.int (gb_rem v2 v3))]) (tt_lt rfl) rfl ?_
      refine tt_iload rfl ?_
      refine tt_istore (L2 := [none, none, some (.int v3), some (.int v3), some (.int v4), some (.int (gb_rem v2 v3))]) (tt_lt rfl) rfl ?_
      refine tt_iload rfl ?_
      refine tt_istore (L2 := [none, none, some (.int v3), some (.int (gb_rem v2 v3)), some (.int v4), some (.int (gb_rem v2 v3))]) (tt_lt rfl) rfl ?_
      refine tt_iinc (L2 := [none, none, some (.int v3), some (.int (gb_rem v2 v3)), some (.int (v4 + 1)), some (.int (gb_rem v2 v3))]) rfl rfl ?_
      refine tt_mask rfl ?_
      exact rfl
theorem eX8_commonDivisor_7z (N : Nat) (v2 : Int32) (v3 : Int32) (v4 : Int32) (I : gM) : hX8_commonDivisor_7 N 0 v2 v3 v4 I = none := (rfl)
set_option maxRecDepth 100000 in
theorem eX8_commonDivisor (N : Nat) (v0 : Int32) (v1 : Int32) (I : gM) : fX8_commonDivisor N [.int v0, .int v1] I = hX8_commonDivisor_0 N v0 v1 I := by
  show gFn 6 (fX8_commonDivisor_k0 N) [.int v0, .int v1] I = (fX8_commonDivisor_k0 N) [some (.int v0), some (.int v1), none, none, none, none] [] I
  exact tt_fn rfl rfl

