def hX9_thrown_0 (N : Nat) (I : gM) : gO := fX9_thrown_k0 N [some (.ref 0)] [] I
theorem eX9_thrown_0 (N : Nat) (I : gM) : hX9_thrown_0 N I =
  some (.inl (some (.int (I 0 0))), I) := rfl
theorem eX9_thrown (N : Nat) (I : gM) : fX9_thrown N [.ref 0] I = hX9_thrown_0 N I := rfl

def hX9_in_0 (N : Nat) (v0 : Int64) (v2 : Int64) (v4 : Int64) (I : gM) : gO := fX9_in_k0 N [some (.long v0), none, some (.long v2), none, some (.long v4), none] [] I
theorem eX9_in_0 (N : Nat) (v0 : Int64) (v2 : Int64) (v4 : Int64) (I : gM) : hX9_in_0 N v0 v2 v4 I =
  if gz_lt (lg_cmp v0 v2) = true then (some (.inl (some (.int 0)), I)) else (if gz_gt (lg_cmp v0 v4) = true then (some (.inl (some (.int 0)), I)) else (some (.inl (some (.int 1)), I))) := rfl
theorem eX9_in (N : Nat) (v0 : Int64) (v2 : Int64) (v4 : Int64) (I : gM) : fX9_in N [.long v0, .long v2, .long v4] I = hX9_in_0 N v0 v2 v4 I := rfl

def hX9_fails_0 (N : Nat) (v1 : Int32) (v2 : Int32) (I : gM) : gO := fX9_fails_k0 N [some (.ref 0), some (.int v1), some (.int v2)] [] I
def hX9_fails_9 (N : Nat) (v1 : Int32) (I : gM) : gO := fX9_fails_k9 N [none, some (.int v1), none] [] I
theorem eX9_fails_0 (N : Nat) (v1 : Int32) (v2 : Int32) (I : gM) : hX9_fails_0 N v1 v2 I =
  if gz_ne v1 = true then (hX9_fails_9 N v1 I) else (hX9_fails_9 N v1 (gU I 0 0 v2)) := rfl
theorem eX9_fails_9 (N : Nat) (v1 : Int32) (I : gM) : hX9_fails_9 N v1 I =
  if gz_ne v1 = true then (some (.inl (some (.int 0)), I)) else (some (.inl (some (.int 1)), I)) := rfl
theorem eX9_fails (N : Nat) (v1 : Int32) (v2 : Int32) (I : gM) : fX9_fails N [.ref 0, .int v1, .int v2] I = hX9_fails_0 N v1 v2 I := rfl

def hX9_has_0 (N : Nat) (v0 : Int32) (v1 : Int32) (I : gM) : gO := fX9_has_k0 N [some (.int v0), some (.int v1)] [] I
theorem eX9_has_0 (N : Nat) (v0 : Int32) (v1 : Int32) (I : gM) : hX9_has_0 N v0 v1 I =
  if gc_ne (((gb_shr v0 v1) &&& 1)) 1 = true then (some (.inl (some (.int 0)), I)) else (some (.inl (some (.int 1)), I)) := rfl
theorem eX9_has (N : Nat) (v0 : Int32) (v1 : Int32) (I : gM) : fX9_has N [.int v0, .int v1] I = hX9_has_0 N v0 v1 I := rfl

def hX9_byteOf_0 (N : Nat) (v0 : Int32) (v1 : Int32) (v2 : Int32) (v3 : Int32) (v4 : Int32) (v5 : Int32) (I : gM) : gO := fX9_byteOf_k0 N [some (.int v0), some (.int v1), some (.int v2), some (.int v3), some (.int v4), some (.int v5), none] [] I
def hX9_byteOf_45 (N : Nat) (v5 : Int32) (s0 : Int32) (I : gM) : gO := fX9_byteOf_k45 N [none, none, none, none, none, some (.int v5), none] [.int s0] I
theorem eX9_byteOf_0 (N : Nat) (v0 : Int32) (v1 : Int32) (v2 : Int32) (v3 : Int32) (v4 : Int32) (v5 : Int32) (I : gM) : hX9_byteOf_0 N v0 v1 v2 v3 v4 v5 I =
  if gc_ge v5 4 = true then (if gc_ge v5 8 = true then (if gc_ge v5 12 = true then (if gc_ge v5 16 = true then (hX9_byteOf_45 N v5 v4 I) else (hX9_byteOf_45 N v5 v3 I)) else (hX9_byteOf_45 N v5 v2 I)) else (hX9_byteOf_45 N v5 v1 I)) else (hX9_byteOf_45 N v5 v0 I) := rfl
theorem eX9_byteOf_45 (N : Nat) (v5 : Int32) (s0 : Int32) (I : gM) : hX9_byteOf_45 N v5 s0 I =
  if 4 = 0 then none else some (.inl (some (.int ((((gb_shr s0 ((24 - ((8 * (gb_rem v5 4))))))) &&& 255)))), I) := rfl
theorem eX9_byteOf (N : Nat) (v0 : Int32) (v1 : Int32) (v2 : Int32) (v3 : Int32) (v4 : Int32) (v5 : Int32) (I : gM) : fX9_byteOf N [.int v0, .int v1, .int v2, .int v3, .int v4, .int v5] I = hX9_byteOf_0 N v0 v1 v2 v3 v4 v5 I := rfl

def hX9_append_0 (N : Nat) (v1 : Int32) (v2 : Int32) (v3 : Int32) (v4 : Int32) (v5 : Int32) (I : gM) : gO := fX9_append_k0 N [some (.ref 0), some (.int v1), some (.int v2), some (.int v3), some (.int v4), some (.int v5), none, none, none] [] I
def hX9_append_11 (N : Nat) (n11 : Nat) (v1 : Int32) (v2 : Int32) (v3 : Int32) (v4 : Int32) (v5 : Int32) (v6 : Int32) (v7 : Int32) (I : gM) : gO := s_lp (fX9_append_b11 N) n11 [some (.ref 0), some (.int v1), some (.int v2), some (.int v3), some (.int v4), some (.int v5), some (.int v6), some (.int v7), none] [] I
def hX9_append_68 (N : Nat) (v1 : Int32) (v2 : Int32) (v3 : Int32) (v4 : Int32) (v5 : Int32) (s1 : Int32) (I : gM) : gO := fX9_append_k68 N [some (.ref 0), some (.int v1), some (.int v2), some (.int v3), some (.int v4), some (.int v5), none, none, none] [.int s1, .ref 0] I
def hX9_append_40 (N : Nat) (n11 : Nat) (v1 : Int32) (v2 : Int32) (v3 : Int32) (v4 : Int32) (v5 : Int32) (v7 : Int32) (s0 : Int32) (s1 : Int32) (I : gM) : gO := fX9_append_k40 N (s_lp (fX9_append_b11 N) n11) [some (.ref 0), some (.int v1), some (.int v2), some (.int v3), some (.int v4), some (.int v5), none, some (.int v7), none] [.int s1, .int s0] I
def hX9_append_80 (N : Nat) (n80 : Nat) (v1 : Int32) (v2 : Int32) (v3 : Int32) (v4 : Int32) (v5 : Int32) (v7 : Int32) (I : gM) : gO := s_lp (fX9_append_b80 N) n80 [some (.ref 0), some (.int v1), some (.int v2), some (.int v3), some (.int v4), some (.int v5), none, some (.int v7), none] [] I
def hX9_append_127 (N : Nat) (n80 : Nat) (v1 : Int32) (v2 : Int32) (v3 : Int32) (v4 : Int32) (v5 : Int32) (v7 : Int32) (I : gM) : gO := fX9_append_k127 N (s_lp (fX9_append_b80 N) n80) [some (.ref 0), some (.int v1), some (.int v2), some (.int v3), some (.int v4), some (.int v5), none, some (.int v7), none] [] I
theorem eX9_append_0 (N : Nat) (v1 : Int32) (v2 : Int32) (v3 : Int32) (v4 : Int32) (v5 : Int32) (I : gM) : hX9_append_0 N v1 v2 v3 v4 v5 I =
  hX9_append_11 N N v1 v2 v3 v4 v5 0 0 (gU I 0 0 0) := rfl
theorem eX9_append_11 (N : Nat) (n11 : Nat) (v1 : Int32) (v2 : Int32) (v3 : Int32) (v4 : Int32) (v5 : Int32) (v6 : Int32) (v7 : Int32) (I : gM) : hX9_append_11 N (n11 + 1) v1 v2 v3 v4 v5 v6 v7 I =
  if gc_ge v7 20 = true then (if gc_gt (((I 0 2) + v6)) 700 = true then (hX9_append_68 N v1 v2 v3 v4 v5 0 I) else (hX9_append_68 N v1 v2 v3 v4 v5 1 I)) else (hI (fX9_byteOf N [.int v1, .int v2, .int v3, .int v4, .int v5, .int v7] (gS [] I)) [] I fun x1 I1 => if gz_eq x1 = true then (hX9_append_40 N n11 v1 v2 v3 v4 v5 v7 v6 0 I1) else (hX9_append_40 N n11 v1 v2 v3 v4 v5 v7 v6 1 I1)) := rfl
theorem eX9_append_11z (N : Nat) (v1 : Int32) (v2 : Int32) (v3 : Int32) (v4 : Int32) (v5 : Int32) (v6 : Int32) (v7 : Int32) (I : gM) : hX9_append_11 N 0 v1 v2 v3 v4 v5 v6 v7 I = none := rfl
theorem eX9_append_68 (N : Nat) (v1 : Int32) (v2 : Int32) (v3 : Int32) (v4 : Int32) (v5 : Int32) (s1 : Int32) (I : gM) : hX9_append_68 N v1 v2 v3 v4 v5 s1 I =
  hI (fX9_fails N [.ref 0, .int s1, .int 1] (gS (rg 0 18) I)) (rg 0 18) I fun x2 I2 => if gz_eq x2 = true then (hX9_append_80 N N v1 v2 v3 v4 v5 0 I2) else (some (.inl (some (.int 0)), I2)) := rfl
theorem eX9_append_40 (N : Nat) (n11 : Nat) (v1 : Int32) (v2 : Int32) (v3 : Int32) (v4 : Int32) (v5 : Int32) (v7 : Int32) (s0 : Int32) (s1 : Int32) (I : gM) : hX9_append_40 N n11 v1 v2 v3 v4 v5 v7 s0 s1 I =
  hX9_append_11 N n11 v1 v2 v3 v4 v5 (s0 + s1) (v7 + 1) I := rfl
theorem eX9_append_80 (N : Nat) (n80 : Nat) (v1 : Int32) (v2 : Int32) (v3 : Int32) (v4 : Int32) (v5 : Int32) (v7 : Int32) (I : gM) : hX9_append_80 N (n80 + 1) v1 v2 v3 v4 v5 v7 I =
  if gc_ge v7 20 = true then (some (.inl (some (.int (I 0 2))), I)) else (hI (fX9_byteOf N [.int v1, .int v2, .int v3, .int v4, .int v5, .int v7] (gS [] I)) [] I fun x3 I3 => if gz_eq x3 = true then (hX9_append_127 N n80 v1 v2 v3 v4 v5 v7 I3) else (ck 700 (I3 0 2) <| hX9_append_127 N n80 v1 v2 v3 v4 v5 v7 (gU (gU I3 1 ((nn (I3 0 2))) x3) 0 2 (((I3 0 2) + 1))))) := rfl
theorem eX9_append_80z (N : Nat) (v1 : Int32) (v2 : Int32) (v3 : Int32) (v4 : Int32) (v5 : Int32) (v7 : Int32) (I : gM) : hX9_append_80 N 0 v1 v2 v3 v4 v5 v7 I = none := rfl
theorem eX9_append_127 (N : Nat) (n80 : Nat) (v1 : Int32) (v2 : Int32) (v3 : Int32) (v4 : Int32) (v5 : Int32) (v7 : Int32) (I : gM) : hX9_append_127 N n80 v1 v2 v3 v4 v5 v7 I =
  hX9_append_80 N n80 v1 v2 v3 v4 v5 (v7 + 1) I := rfl
theorem eX9_append (N : Nat) (v1 : Int32) (v2 : Int32) (v3 : Int32) (v4 : Int32) (v5 : Int32) (I : gM) : fX9_append N [.ref 0, .int v1, .int v2, .int v3, .int v4, .int v5] I = hX9_append_0 N v1 v2 v3 v4 v5 I := rfl

def hX9_truncate_0 (N : Nat) (v1 : Int32) (I : gM) : gO := fX9_truncate_k0 N [some (.ref 0), some (.int v1)] [] I
theorem eX9_truncate_0 (N : Nat) (v1 : Int32) (I : gM) : hX9_truncate_0 N v1 I =
  hI (fX9_in N [.long ((v1).toInt64), .long 0, .long (((I 0 2)).toInt64)] (gS [] (gU I 0 0 0))) [] (gU I 0 0 0) fun x1 I1 => hI (fX9_fails N [.ref 0, .int x1, .int 1] (gS (rg 0 18) I1)) (rg 0 18) I1 fun x2 I2 => if gz_eq x2 = true then (some (.inl (some (.int v1)), (gU I2 0 2 v1))) else (some (.inl (some (.int 0)), I2)) := rfl
theorem eX9_truncate (N : Nat) (v1 : Int32) (I : gM) : fX9_truncate N [.ref 0, .int v1] I = hX9_truncate_0 N v1 I := rfl

def hX9_peek_0 (N : Nat) (v1 : Int32) (I : gM) : gO := fX9_peek_k0 N [some (.ref 0), some (.int v1)] [] I
theorem eX9_peek_0 (N : Nat) (v1 : Int32) (I : gM) : hX9_peek_0 N v1 I =
  if gc_ge v1 (I 0 2) = true then (some (.inl (some (.int (-1))), I)) else (ck 700 v1 <| some (.inl (some (.int ((I 1 (nn v1))))), I)) := rfl
theorem eX9_peek (N : Nat) (v1 : Int32) (I : gM) : fX9_peek N [.ref 0, .int v1] I = hX9_peek_0 N v1 I := rfl

def hX9_isLetter_0 (N : Nat) (v0 : Int32) (I : gM) : gO := fX9_isLetter_k0 N [some (.int v0)] [] I
theorem eX9_isLetter_0 (N : Nat) (v0 : Int32) (I : gM) : hX9_isLetter_0 N v0 I =
  if gc_lt v0 97 = true then (some (.inl (some (.int 0)), I)) else (if gc_gt v0 122 = true then (some (.inl (some (.int 0)), I)) else (some (.inl (some (.int 1)), I))) := rfl
theorem eX9_isLetter (N : Nat) (v0 : Int32) (I : gM) : fX9_isLetter N [.int v0] I = hX9_isLetter_0 N v0 I := rfl

def hX9_isDigit_0 (N : Nat) (v0 : Int32) (I : gM) : gO := fX9_isDigit_k0 N [some (.int v0)] [] I
theorem eX9_isDigit_0 (N : Nat) (v0 : Int32) (I : gM) : hX9_isDigit_0 N v0 I =
  if gc_lt v0 48 = true then (some (.inl (some (.int 0)), I)) else (if gc_gt v0 57 = true then (some (.inl (some (.int 0)), I)) else (some (.inl (some (.int 1)), I))) := rfl
theorem eX9_isDigit (N : Nat) (v0 : Int32) (I : gM) : fX9_isDigit N [.int v0] I = hX9_isDigit_0 N v0 I := rfl

def hX9_step_0 (N : Nat) (n0 : Nat) (I : gM) : gO := s_lp (fX9_step_b0 N) n0 [some (.ref 0), none] [] I
def hX9_step_75 (N : Nat) (s1 : Int32) (I : gM) : gO := fX9_step_k75 N [some (.ref 0), none] [.int s1, .ref 0] I
def hX9_step_101 (N : Nat) (n101 : Nat) (I : gM) : gO := s_lp (fX9_step_b101 N) n101 [some (.ref 0), none] [] I
def hX9_step_136 (N : Nat) (n136 : Nat) (I : gM) : gO := s_lp (fX9_step_b136 N) n136 [some (.ref 0), none] [] I
theorem eX9_step_0 (N : Nat) (n0 : Nat) (I : gM) : hX9_step_0 N (n0 + 1) I =
  hI (fX9_peek N [.ref 0, .int (I 0 3)] (gS (rg 0 18) I)) (rg 0 18) I fun x1 I1 => if gc_ne x1 32 = true then (hI (fX9_peek N [.ref 0, .int (I1 0 3)] (gS (rg 0 18) (gU I1 0 4 (I1 0 3)))) (rg 0 18) (gU I1 0 4 (I1 0 3)) fun x2 I2 => if gz_ge x2 = true then (hI (fX9_isLetter N [.int x2] (gS [] I2)) [] I2 fun x3 I3 => if gz_eq x3 = true then (hI (fX9_isDigit N [.int x2] (gS [] I3)) [] I3 fun x4 I4 => if gz_eq x4 = true then (hX9_step_75 N 3 I4) else (hX9_step_75 N 2 I4)) else (hX9_step_75 N 1 I3)) else (hX9_step_75 N 0 I2)) else (hX9_step_0 N n0 (gU I1 0 3 (((I1 0 3) + 1)))) := rfl
theorem eX9_step_0z (N : Nat) (I : gM) : hX9_step_0 N 0 I = none := rfl
theorem eX9_step_75 (N : Nat) (s1 : Int32) (I : gM) : hX9_step_75 N s1 I =
  if gc_ne s1 3 = true then (hX9_step_101 N N (gU (gU I 0 5 s1) 0 6 0)) else (hX9_step_101 N N (gU (gU (gU I 0 5 s1) 0 6 0) 0 3 (((I 0 3) + 1)))) := rfl
theorem eX9_step_101 (N : Nat) (n101 : Nat) (I : gM) : hX9_step_101 N (n101 + 1) I =
  if gc_ne (I 0 5) 1 = true then (hX9_step_136 N N I) else (hI (fX9_peek N [.ref 0, .int (I 0 3)] (gS (rg 0 18) I)) (rg 0 18) I fun x5 I5 => hI (fX9_isLetter N [.int x5] (gS [] I5)) [] I5 fun x6 I6 => if gz_eq x6 = true then (hX9_step_136 N N I6) else (hX9_step_101 N n101 (gU I6 0 3 (((I6 0 3) + 1))))) := rfl
theorem eX9_step_101z (N : Nat) (I : gM) : hX9_step_101 N 0 I = none := rfl
theorem eX9_step_136 (N : Nat) (n136 : Nat) (I : gM) : hX9_step_136 N (n136 + 1) I =
  if gc_ne (I 0 5) 2 = true then (some (.inl none, I)) else (hI (fX9_peek N [.ref 0, .int (I 0 3)] (gS (rg 0 18) I)) (rg 0 18) I fun x7 I7 => hI (fX9_isDigit N [.int x7] (gS [] I7)) [] I7 fun x8 I8 => if gz_eq x8 = true then (some (.inl none, I8)) else (hI (fX9_peek N [.ref 0, .int (I8 0 3)] (gS (rg 0 18) I8)) (rg 0 18) I8 fun x9 I9 => hX9_step_136 N n136 (gU (gU I9 0 6 ((gj_min 10000 ((((((10 * (I8 0 6))) + x9)) - 48))))) 0 3 (((I9 0 3) + 1))))) := rfl
theorem eX9_step_136z (N : Nat) (I : gM) : hX9_step_136 N 0 I = none := rfl
theorem eX9_step (N : Nat) (I : gM) : fX9_step N [.ref 0] I = hX9_step_0 N N I := rfl

def hX9_fail_0 (N : Nat) (I : gM) : gO := fX9_fail_k0 N [some (.ref 0)] [] I
theorem eX9_fail_0 (N : Nat) (I : gM) : hX9_fail_0 N I =
  if gz_ge (I 0 7) = true then (some (.inl none, (gU I 0 7 (I 0 7)))) else (some (.inl none, (gU I 0 7 (I 0 4)))) := rfl
theorem eX9_fail (N : Nat) (I : gM) : fX9_fail N [.ref 0] I = hX9_fail_0 N I := rfl

def hX9_isGood_0 (N : Nat) (I : gM) : gO := fX9_isGood_k0 N [some (.ref 0)] [] I
theorem eX9_isGood_0 (N : Nat) (I : gM) : hX9_isGood_0 N I =
  if gz_ge (I 0 7) = true then (some (.inl (some (.int 0)), I)) else (some (.inl (some (.int 1)), I)) := rfl
theorem eX9_isGood (N : Nat) (I : gM) : fX9_isGood N [.ref 0] I = hX9_isGood_0 N I := rfl

def hX9_isNumber_0 (N : Nat) (v1 : Int32) (v2 : Int32) (I : gM) : gO := fX9_isNumber_k0 N [some (.ref 0), some (.int v1), some (.int v2)] [] I
theorem eX9_isNumber_0 (N : Nat) (v1 : Int32) (v2 : Int32) (I : gM) : hX9_isNumber_0 N v1 v2 I =
  hI (fX9_isGood N [.ref 0] (gS (rg 0 18) I)) (rg 0 18) I fun x1 I1 => if gz_eq x1 = true then (some (.inl (some (.int 0)), I1)) else (if gc_ne (I1 0 5) 2 = true then (some (.inl (some (.int 0)), I1)) else (if gc_gt (((I1 0 3) - (I1 0 4))) 3 = true then (some (.inl (some (.int 0)), I1)) else (hI (fX9_in N [.long (((I1 0 6)).toInt64), .long ((v1).toInt64), .long ((v2).toInt64)] (gS [] I1)) [] I1 fun x2 I2 => if gz_eq x2 = true then (some (.inl (some (.int 0)), I2)) else (some (.inl (some (.int 1)), I2))))) := rfl
theorem eX9_isNumber (N : Nat) (v1 : Int32) (v2 : Int32) (I : gM) : fX9_isNumber N [.ref 0, .int v1, .int v2] I = hX9_isNumber_0 N v1 v2 I := rfl

def hX9_takeNumber_0 (N : Nat) (v1 : Int32) (v2 : Int32) (I : gM) : gO := fX9_takeNumber_k0 N [some (.ref 0), some (.int v1), some (.int v2), none] [] I
theorem eX9_takeNumber_0 (N : Nat) (v1 : Int32) (v2 : Int32) (I : gM) : hX9_takeNumber_0 N v1 v2 I =
  hI (fX9_isNumber N [.ref 0, .int v1, .int v2] (gS (rg 0 18) I)) (rg 0 18) I fun x1 I1 => if gz_ne x1 = true then (hV (fX9_step N [.ref 0] (gS (rg 0 18) I1)) (rg 0 18) I1 fun I2 => some (.inl (some (.int (I1 0 6))), I2)) else (hV (fX9_fail N [.ref 0] (gS (rg 0 18) I1)) (rg 0 18) I1 fun I3 => some (.inl (some (.int v1)), I3)) := rfl
theorem eX9_takeNumber (N : Nat) (v1 : Int32) (v2 : Int32) (I : gM) : fX9_takeNumber N [.ref 0, .int v1, .int v2] I = hX9_takeNumber_0 N v1 v2 I := rfl

def hX9_begin_0 (N : Nat) (I : gM) : gO := fX9_begin_k0 N [some (.ref 0), none] [] I
def hX9_begin_2 (N : Nat) (n2 : Nat) (v1 : Int32) (I : gM) : gO := s_lp (fX9_begin_b2 N) n2 [some (.ref 0), some (.int v1)] [] I
theorem eX9_begin_0 (N : Nat) (I : gM) : hX9_begin_0 N I =
  hX9_begin_2 N N 0 I := rfl
theorem eX9_begin_2 (N : Nat) (n2 : Nat) (v1 : Int32) (I : gM) : hX9_begin_2 N (n2 + 1) v1 I =
  if gc_ge v1 2746 = true then (ck 2746 4 <| some (.inl none, (gU (gU (gU I 2 (nn 4) 10) 0 14 0) 0 15 0))) else (ck 2746 v1 <| hX9_begin_2 N n2 (v1 + 1) (gU I 2 (nn v1) 0)) := rfl
theorem eX9_begin_2z (N : Nat) (v1 : Int32) (I : gM) : hX9_begin_2 N 0 v1 I = none := rfl
theorem eX9_begin (N : Nat) (I : gM) : fX9_begin N [.ref 0] I = hX9_begin_0 N I := rfl

def hX9_linkIn_0 (N : Nat) (v1 : Int32) (v2 : Int32) (I : gM) : gO := fX9_linkIn_k0 N [some (.ref 0), some (.int v1), some (.int v2), none] [] I
def hX9_linkIn_2 (N : Nat) (n2 : Nat) (v1 : Int32) (v2 : Int32) (v3 : Int32) (I : gM) : gO := s_lp (fX9_linkIn_b2 N) n2 [some (.ref 0), some (.int v1), some (.int v2), some (.int v3)] [] I
def hX9_linkIn_39 (N : Nat) (n2 : Nat) (v1 : Int32) (v2 : Int32) (v3 : Int32) (I : gM) : gO := fX9_linkIn_k39 N (s_lp (fX9_linkIn_b2 N) n2) [some (.ref 0), some (.int v1), some (.int v2), some (.int v3)] [] I
theorem eX9_linkIn_0 (N : Nat) (v1 : Int32) (v2 : Int32) (I : gM) : hX9_linkIn_0 N v1 v2 I =
  hX9_linkIn_2 N N v1 v2 0 I := rfl
theorem eX9_linkIn_2 (N : Nat) (n2 : Nat) (v1 : Int32) (v2 : Int32) (v3 : Int32) (I : gM) : hX9_linkIn_2 N (n2 + 1) v1 v2 v3 I =
  ck 2746 1 <| if gc_ge v3 ((I 0 (nn 1))) = true then (some (.inl (some (.int (-1))), I)) else (ck 2746 ((((9 + (4 * v3))) + 0)) <| if gc_ne ((I 0 ((nn ((((9 + (4 * v3))) + 0)))))) v1 = true then (hX9_linkIn_39 N n2 v1 v2 v3 I) else (ck 2746 ((((9 + (4 * v3))) + 1)) <| if gc_ne ((I 0 ((nn ((((9 + (4 * v3))) + 1)))))) v2 = true then (hX9_linkIn_39 N n2 v1 v2 v3 I) else (some (.inl (some (.int v3)), I)))) := rfl
theorem eX9_linkIn_2z (N : Nat) (v1 : Int32) (v2 : Int32) (v3 : Int32) (I : gM) : hX9_linkIn_2 N 0 v1 v2 v3 I = none := rfl
theorem eX9_linkIn_39 (N : Nat) (n2 : Nat) (v1 : Int32) (v2 : Int32) (v3 : Int32) (I : gM) : hX9_linkIn_39 N n2 v1 v2 v3 I =
  hX9_linkIn_2 N n2 v1 v2 (v3 + 1) I := rfl
theorem eX9_linkIn (N : Nat) (v1 : Int32) (v2 : Int32) (I : gM) : fX9_linkIn N [.ref 0, .int v1, .int v2] I = hX9_linkIn_0 N v1 v2 I := rfl

def hX9_layLink_0 (N : Nat) (v1 : Int32) (v2 : Int32) (v3 : Int32) (I : gM) : gO := fX9_layLink_k0 N [some (.ref 0), some (.int v1), some (.int v2), some (.int v3), none] [] I
theorem eX9_layLink_0 (N : Nat) (v1 : Int32) (v2 : Int32) (v3 : Int32) (I : gM) : hX9_layLink_0 N v1 v2 v3 I =
  ck 2746 1 <| ck 2746 ((((9 + ((4 * ((I 0 (nn 1))))))) + 0)) <| ck 2746 ((((9 + ((4 * ((I 0 (nn 1))))))) + 1)) <| ck 2746 ((((9 + ((4 * ((I 0 (nn 1))))))) + 2)) <| ck 2746 ((((9 + ((4 * ((I 0 (nn 1))))))) + 3)) <| ck 2746 1 <| ck 2746 ((131 + (((gU (gU (gU (gU I 0 ((nn ((((9 + ((4 * ((I 0 (nn 1))))))) + 0)))) v1) 0 ((nn ((((9 + ((4 * ((I 0 (nn 1))))))) + 1)))) v2) 0 ((nn ((((9 + ((4 * ((I 0 (nn 1))))))) + 2)))) v3) 0 ((nn ((((9 + ((4 * ((I 0 (nn 1))))))) + 3)))) 0) 0 (nn 1))))) <| ck 2746 1 <| ck 2746 1 <| some (.inl none, (gU (gU (gU (gU (gU (gU I 0 ((nn ((((9 + ((4 * ((I 0 (nn 1))))))) + 0)))) v1) 0 ((nn ((((9 + ((4 * ((I 0 (nn 1))))))) + 1)))) v2) 0 ((nn ((((9 + ((4 * ((I 0 (nn 1))))))) + 2)))) v3) 0 ((nn ((((9 + ((4 * ((I 0 (nn 1))))))) + 3)))) 0) 0 ((nn ((131 + (((gU (gU (gU (gU I 0 ((nn ((((9 + ((4 * ((I 0 (nn 1))))))) + 0)))) v1) 0 ((nn ((((9 + ((4 * ((I 0 (nn 1))))))) + 1)))) v2) 0 ((nn ((((9 + ((4 * ((I 0 (nn 1))))))) + 2)))) v3) 0 ((nn ((((9 + ((4 * ((I 0 (nn 1))))))) + 3)))) 0) 0 (nn 1))))))) 0) 0 (nn 1) (((((gU (gU (gU (gU (gU I 0 ((nn ((((9 + ((4 * ((I 0 (nn 1))))))) + 0)))) v1) 0 ((nn ((((9 + ((4 * ((I 0 (nn 1))))))) + 1)))) v2) 0 ((nn ((((9 + ((4 * ((I 0 (nn 1))))))) + 2)))) v3) 0 ((nn ((((9 + ((4 * ((I 0 (nn 1))))))) + 3)))) 0) 0 ((nn ((131 + (((gU (gU (gU (gU I 0 ((nn ((((9 + ((4 * ((I 0 (nn 1))))))) + 0)))) v1) 0 ((nn ((((9 + ((4 * ((I 0 (nn 1))))))) + 1)))) v2) 0 ((nn ((((9 + ((4 * ((I 0 (nn 1))))))) + 2)))) v3) 0 ((nn ((((9 + ((4 * ((I 0 (nn 1))))))) + 3)))) 0) 0 (nn 1))))))) 0) 0 (nn 1))) + 1)))) := rfl
theorem eX9_layLink (N : Nat) (v1 : Int32) (v2 : Int32) (v3 : Int32) (I : gM) : fX9_layLink N [.ref 0, .int v1, .int v2, .int v3] I = hX9_layLink_0 N v1 v2 v3 I := rfl

def hX9_layFlow_0 (N : Nat) (v1 : Int32) (v2 : Int32) (v3 : Int32) (v4 : Int32) (I : gM) : gO := fX9_layFlow_k0 N [some (.ref 0), some (.int v1), some (.int v2), some (.int v3), some (.int v4), none, none] [] I
def hX9_layFlow_14 (N : Nat) (n14 : Nat) (v1 : Int32) (v2 : Int32) (v3 : Int32) (v4 : Int32) (v5 : Int32) (v6 : Int32) (I : gM) : gO := s_lp (fX9_layFlow_b14 N) n14 [some (.ref 0), some (.int v1), some (.int v2), some (.int v3), some (.int v4), some (.int v5), some (.int v6)] [] I
theorem eX9_layFlow_0 (N : Nat) (v1 : Int32) (v2 : Int32) (v3 : Int32) (v4 : Int32) (I : gM) : hX9_layFlow_0 N v1 v2 v3 v4 I =
  ck 2746 2 <| hX9_layFlow_14 N N v1 v2 v3 v4 ((65 + ((11 * ((I 0 (nn 2))))))) 0 I := rfl
theorem eX9_layFlow_14 (N : Nat) (n14 : Nat) (v1 : Int32) (v2 : Int32) (v3 : Int32) (v4 : Int32) (v5 : Int32) (v6 : Int32) (I : gM) : hX9_layFlow_14 N (n14 + 1) v1 v2 v3 v4 v5 v6 I =
  if gc_ge v6 11 = true then (ck 2746 (v5 + 0) <| ck 2746 (v5 + 1) <| ck 2746 (v5 + 2) <| ck 2746 (v5 + 3) <| ck 2746 2 <| ck 2746 2 <| some (.inl none, (gU (gU (gU (gU (gU I 0 ((nn (v5 + 0))) v1) 0 ((nn (v5 + 1))) v2) 0 ((nn (v5 + 2))) v3) 0 ((nn (v5 + 3))) v4) 0 (nn 2) (((((gU (gU (gU (gU I 0 ((nn (v5 + 0))) v1) 0 ((nn (v5 + 1))) v2) 0 ((nn (v5 + 2))) v3) 0 ((nn (v5 + 3))) v4) 0 (nn 2))) + 1))))) else (ck 2746 (v5 + v6) <| hX9_layFlow_14 N n14 v1 v2 v3 v4 v5 (v6 + 1) (gU I 0 ((nn (v5 + v6))) 0)) := rfl
theorem eX9_layFlow_14z (N : Nat) (v1 : Int32) (v2 : Int32) (v3 : Int32) (v4 : Int32) (v5 : Int32) (v6 : Int32) (I : gM) : hX9_layFlow_14 N 0 v1 v2 v3 v4 v5 v6 I = none := rfl
theorem eX9_layFlow (N : Nat) (v1 : Int32) (v2 : Int32) (v3 : Int32) (v4 : Int32) (I : gM) : fX9_layFlow N [.ref 0, .int v1, .int v2, .int v3, .int v4] I = hX9_layFlow_0 N v1 v2 v3 v4 I := rfl

def hX9_takeOther_0 (N : Nat) (v1 : Int32) (v2 : Int32) (v3 : Int32) (I : gM) : gO := fX9_takeOther_k0 N [some (.ref 0), some (.int v1), some (.int v2), some (.int v3)] [] I
def hX9_takeOther_21 (N : Nat) (v1 : Int32) (v2 : Int32) (I : gM) : gO := fX9_takeOther_k21 N [some (.ref 0), some (.int v1), some (.int v2), none] [] I
theorem eX9_takeOther_0 (N : Nat) (v1 : Int32) (v2 : Int32) (v3 : Int32) (I : gM) : hX9_takeOther_0 N v1 v2 v3 I =
  hI (fX9_isNumber N [.ref 0, .int v1, .int v2] (gS (rg 0 18) I)) (rg 0 18) I fun x1 I1 => if gz_eq x1 = true then (hX9_takeOther_21 N v1 v2 I1) else (if gc_ne (I1 0 6) v3 = true then (hX9_takeOther_21 N v1 v2 I1) else (hV (fX9_fail N [.ref 0] (gS (rg 0 18) I1)) (rg 0 18) I1 fun I2 => hX9_takeOther_21 N v1 v2 I2)) := rfl
theorem eX9_takeOther_21 (N : Nat) (v1 : Int32) (v2 : Int32) (I : gM) : hX9_takeOther_21 N v1 v2 I =
  hI (fX9_takeNumber N [.ref 0, .int v1, .int v2] (gS (rg 0 18) I)) (rg 0 18) I fun x3 I3 => some (.inl (some (.int x3)), I3) := rfl
theorem eX9_takeOther (N : Nat) (v1 : Int32) (v2 : Int32) (v3 : Int32) (I : gM) : fX9_takeOther N [.ref 0, .int v1, .int v2, .int v3] I = hX9_takeOther_0 N v1 v2 v3 I := rfl

def hX9_takeNode_0 (N : Nat) (I : gM) : gO := fX9_takeNode_k0 N [some (.ref 0)] [] I
theorem eX9_takeNode_0 (N : Nat) (I : gM) : hX9_takeNode_0 N I =
  ck 2746 0 <| hI (fX9_takeNumber N [.ref 0, .int 0, .int ((((I 2 (nn 0))) - 1))] (gS (rg 0 18) I)) (rg 0 18) I fun x1 I1 => some (.inl (some (.int x1)), I1) := rfl
theorem eX9_takeNode (N : Nat) (I : gM) : fX9_takeNode N [.ref 0] I = hX9_takeNode_0 N I := rfl

def hX9_linkStatement_0 (N : Nat) (I : gM) : gO := fX9_linkStatement_k0 N [some (.ref 0), none, none] [] I
def hX9_linkStatement_61 (N : Nat) (v1 : Int32) (I : gM) : gO := fX9_linkStatement_k61 N [some (.ref 0), some (.int v1), none] [] I
theorem eX9_linkStatement_0 (N : Nat) (I : gM) : hX9_linkStatement_0 N I =
  ck 2746 1 <| if gc_ne ((I 2 (nn 1))) 14 = true then (hV (fX9_step N [.ref 0] (gS (rg 0 18) I)) (rg 0 18) I fun I1 => hI (fX9_takeNode N [.ref 0] (gS (rg 0 18) I1)) (rg 0 18) I1 fun x2 I2 => ck 2746 0 <| hI (fX9_isNumber N [.ref 0, .int 0, .int ((((I2 2 (nn 0))) - 1))] (gS (rg 0 18) I2)) (rg 0 18) I2 fun x3 I3 => if gz_eq x3 = true then (hX9_linkStatement_61 N x2 I3) else (hI (fX9_linkIn N [.ref 0, .int x2, .int (I3 0 6)] (gS [2] I3)) [2] I3 fun x4 I4 => if gc_eq x4 (-1) = true then (hX9_linkStatement_61 N x2 I4) else (hV (fX9_fail N [.ref 0] (gS (rg 0 18) I4)) (rg 0 18) I4 fun I5 => hX9_linkStatement_61 N x2 I5))) else (hV (fX9_fail N [.ref 0] (gS (rg 0 18) I)) (rg 0 18) I fun I6 => some (.inl none, I6)) := rfl
theorem eX9_linkStatement_61 (N : Nat) (v1 : Int32) (I : gM) : hX9_linkStatement_61 N v1 I =
  ck 2746 0 <| hI (fX9_takeOther N [.ref 0, .int 0, .int ((((I 2 (nn 0))) - 1)), .int v1] (gS (rg 0 18) I)) (rg 0 18) I fun x7 I7 => hI (fX9_takeNumber N [.ref 0, .int 1, .int 5] (gS (rg 0 18) I7)) (rg 0 18) I7 fun x8 I8 => hV (fX9_layLink N [.ref 0, .int v1, .int x7, .int x8] (gS [2] I8)) [2] I8 fun I9 => some (.inl none, I9) := rfl
theorem eX9_linkStatement (N : Nat) (I : gM) : fX9_linkStatement N [.ref 0] I = hX9_linkStatement_0 N I := rfl

def hX9_conflictStatement_0 (N : Nat) (I : gM) : gO := fX9_conflictStatement_k0 N [some (.ref 0), none, none] [] I
def hX9_conflictStatement_19 (N : Nat) (I : gM) : gO := fX9_conflictStatement_k19 N [some (.ref 0), none, none] [] I
def hX9_conflictStatement_82 (N : Nat) (v1 : Int32) (I : gM) : gO := fX9_conflictStatement_k82 N [some (.ref 0), some (.int v1), none] [] I
theorem eX9_conflictStatement_0 (N : Nat) (I : gM) : hX9_conflictStatement_0 N I =
  ck 2746 1 <| if gc_lt ((I 2 (nn 1))) 2 = true then (hX9_conflictStatement_19 N I) else (if gc_ne (I 0 15) 40 = true then (hV (fX9_step N [.ref 0] (gS (rg 0 18) I)) (rg 0 18) I fun I1 => ck 2746 1 <| hI (fX9_takeNumber N [.ref 0, .int 0, .int ((((I1 2 (nn 1))) - 1))] (gS (rg 0 18) I1)) (rg 0 18) I1 fun x2 I2 => ck 2746 1 <| hI (fX9_isNumber N [.ref 0, .int 0, .int ((((I2 2 (nn 1))) - 1))] (gS (rg 0 18) I2)) (rg 0 18) I2 fun x3 I3 => if gz_eq x3 = true then (hX9_conflictStatement_82 N x2 I3) else (ck 2746 (131 + x2) <| hI (fX9_has N [.int ((I3 2 ((nn (131 + x2))))), .int (I3 0 6)] (gS [] I3)) [] I3 fun x4 I4 => if gz_eq x4 = true then (hX9_conflictStatement_82 N x2 I4) else (hV (fX9_fail N [.ref 0] (gS (rg 0 18) I4)) (rg 0 18) I4 fun I5 => hX9_conflictStatement_82 N x2 I5))) else (hX9_conflictStatement_19 N I)) := rfl
theorem eX9_conflictStatement_19 (N : Nat) (I : gM) : hX9_conflictStatement_19 N I =
  hV (fX9_fail N [.ref 0] (gS (rg 0 18) I)) (rg 0 18) I fun I6 => some (.inl none, I6) := rfl
theorem eX9_conflictStatement_82 (N : Nat) (v1 : Int32) (I : gM) : hX9_conflictStatement_82 N v1 I =
  ck 2746 1 <| hI (fX9_takeOther N [.ref 0, .int 0, .int ((((I 2 (nn 1))) - 1)), .int v1] (gS (rg 0 18) I)) (rg 0 18) I fun x7 I7 => ck 2746 (131 + v1) <| ck 2746 (131 + v1) <| ck 2746 (131 + x7) <| ck 2746 (131 + x7) <| some (.inl none, (gU (gU (gU I7 2 ((nn (131 + v1))) ((((I7 2 ((nn (131 + v1))))) ||| (gb_shl 1 x7)))) 2 ((nn (131 + x7))) (((((gU I7 2 ((nn (131 + v1))) ((((I7 2 ((nn (131 + v1))))) ||| (gb_shl 1 x7)))) 2 ((nn (131 + x7))))) ||| (gb_shl 1 v1)))) 0 15 (((I7 0 15) + 1)))) := rfl
theorem eX9_conflictStatement (N : Nat) (I : gM) : fX9_conflictStatement N [.ref 0] I = hX9_conflictStatement_0 N I := rfl

def hX9_flowStatement_0 (N : Nat) (I : gM) : gO := fX9_flowStatement_k0 N [some (.ref 0), none, none, none, none] [] I
def hX9_flowStatement_75 (N : Nat) (v1 : Int32) (v2 : Int32) (v3 : Int32) (v4 : Int32) (I : gM) : gO := fX9_flowStatement_k75 N [some (.ref 0), some (.int v1), some (.int v2), some (.int v3), some (.int v4)] [] I
theorem eX9_flowStatement_0 (N : Nat) (I : gM) : hX9_flowStatement_0 N I =
  ck 2746 2 <| if gc_ne ((I 2 (nn 2))) 6 = true then (hV (fX9_step N [.ref 0] (gS (rg 0 18) I)) (rg 0 18) I fun I1 => hI (fX9_takeNode N [.ref 0] (gS (rg 0 18) I1)) (rg 0 18) I1 fun x2 I2 => ck 2746 0 <| hI (fX9_takeOther N [.ref 0, .int 0, .int ((((I2 2 (nn 0))) - 1)), .int x2] (gS (rg 0 18) I2)) (rg 0 18) I2 fun x3 I3 => hI (fX9_takeNumber N [.ref 0, .int 0, .int 300] (gS (rg 0 18) I3)) (rg 0 18) I3 fun x4 I4 => hI (fX9_isWord N [.ref 0, .ref 1017] (gS (rg 0 18) I4)) (rg 0 18) I4 fun x5 I5 => if gz_eq x5 = true then (hX9_flowStatement_75 N x2 x3 x4 0 I5) else (hV (fX9_step N [.ref 0] (gS (rg 0 18) I5)) (rg 0 18) I5 fun I6 => hI (fX9_takeNumber N [.ref 0, .int 0, .int 200] (gS (rg 0 18) I6)) (rg 0 18) I6 fun x7 I7 => hX9_flowStatement_75 N x2 x3 x4 x7 I7)) else (hV (fX9_fail N [.ref 0] (gS (rg 0 18) I)) (rg 0 18) I fun I8 => some (.inl none, I8)) := rfl
theorem eX9_flowStatement_75 (N : Nat) (v1 : Int32) (v2 : Int32) (v3 : Int32) (v4 : Int32) (I : gM) : hX9_flowStatement_75 N v1 v2 v3 v4 I =
  hV (fX9_layFlow N [.ref 0, .int v1, .int v2, .int v3, .int v4] (gS [2] I)) [2] I fun I9 => some (.inl none, I9) := rfl
theorem eX9_flowStatement (N : Nat) (I : gM) : fX9_flowStatement N [.ref 0] I = hX9_flowStatement_0 N I := rfl

def hX9_once_0 (N : Nat) (p1 : Nat) (v2 : Int32) (I : gM) : gO := fX9_once_k0 N [some (.ref 0), some (.ref p1), some (.int v2)] [] I
def hX9_once_25 (N : Nat) (v2 : Int32) (I : gM) : gO := fX9_once_k25 N [some (.ref 0), none, some (.int v2)] [] I
theorem eX9_once_0 (N : Nat) (p1 : Nat) (v2 : Int32) (I : gM) : hX9_once_0 N p1 v2 I =
  hI (fX9_isWord N [.ref 0, .ref p1] (gS (rg 0 18) I)) (rg 0 18) I fun x1 I1 => if gz_ne x1 = true then (hI (fX9_has N [.int (I1 0 14), .int v2] (gS [] I1)) [] I1 fun x2 I2 => if gz_eq x2 = true then (hX9_once_25 N v2 I2) else (hV (fX9_fail N [.ref 0] (gS (rg 0 18) I2)) (rg 0 18) I2 fun I3 => hX9_once_25 N v2 I3)) else (some (.inl (some (.int 0)), I1)) := rfl
theorem eX9_once_25 (N : Nat) (v2 : Int32) (I : gM) : hX9_once_25 N v2 I =
  hI (fX9_isGood N [.ref 0] (gS (rg 0 18) (gU I 0 14 (((I 0 14) ||| (gb_shl 1 v2)))))) (rg 0 18) (gU I 0 14 (((I 0 14) ||| (gb_shl 1 v2)))) fun x4 I4 => if gz_eq x4 = true then (some (.inl (some (.int 1)), I4)) else (hV (fX9_step N [.ref 0] (gS (rg 0 18) I4)) (rg 0 18) I4 fun I5 => some (.inl (some (.int 1)), I5)) := rfl
theorem eX9_once (N : Nat) (p1 : Nat) (v2 : Int32) (I : gM) : fX9_once N [.ref 0, .ref p1, .int v2] I = hX9_once_0 N p1 v2 I := rfl

def hX9_takeWord_0 (N : Nat) (p1 : Nat) (p2 : Nat) (I : gM) : gO := fX9_takeWord_k0 N [some (.ref 0), some (.ref p1), some (.ref p2), none] [] I
def hX9_takeWord_13 (N : Nat) (p1 : Nat) (s0 : Int32) (I : gM) : gO := fX9_takeWord_k13 N [some (.ref 0), some (.ref p1), none, none] [.int s0] I
def hX9_takeWord_27 (N : Nat) (v3 : Int32) (I : gM) : gO := fX9_takeWord_k27 N [some (.ref 0), none, none, some (.int v3)] [] I
theorem eX9_takeWord_0 (N : Nat) (p1 : Nat) (p2 : Nat) (I : gM) : hX9_takeWord_0 N p1 p2 I =
  hI (fX9_isWord N [.ref 0, .ref p2] (gS (rg 0 18) I)) (rg 0 18) I fun x1 I1 => if gz_eq x1 = true then (hX9_takeWord_13 N p1 0 I1) else (hX9_takeWord_13 N p1 1 I1) := rfl
theorem eX9_takeWord_13 (N : Nat) (p1 : Nat) (s0 : Int32) (I : gM) : hX9_takeWord_13 N p1 s0 I =
  if gc_eq s0 1 = true then (hX9_takeWord_27 N s0 I) else (hI (fX9_isWord N [.ref 0, .ref p1] (gS (rg 0 18) I)) (rg 0 18) I fun x2 I2 => if gz_eq x2 = true then (hV (fX9_fail N [.ref 0] (gS (rg 0 18) I2)) (rg 0 18) I2 fun I3 => some (.inl (some (.int s0)), I3)) else (hX9_takeWord_27 N s0 I2)) := rfl
theorem eX9_takeWord_27 (N : Nat) (v3 : Int32) (I : gM) : hX9_takeWord_27 N v3 I =
  hV (fX9_step N [.ref 0] (gS (rg 0 18) I)) (rg 0 18) I fun I4 => some (.inl (some (.int v3)), I4) := rfl
theorem eX9_takeWord (N : Nat) (p1 : Nat) (p2 : Nat) (I : gM) : fX9_takeWord N [.ref 0, .ref p1, .ref p2] I = hX9_takeWord_0 N p1 p2 I := rfl

def hX9_readStatement_0 (N : Nat) (I : gM) : gO := fX9_readStatement_k0 N [some (.ref 0)] [] I
theorem eX9_readStatement_0 (N : Nat) (I : gM) : hX9_readStatement_0 N I =
  hI (fX9_isWord N [.ref 0, .ref 1014] (gS (rg 0 18) I)) (rg 0 18) I fun x1 I1 => if gz_eq x1 = true then (hI (fX9_isWord N [.ref 0, .ref 1015] (gS (rg 0 18) I1)) (rg 0 18) I1 fun x2 I2 => if gz_eq x2 = true then (hI (fX9_isWord N [.ref 0, .ref 1016] (gS (rg 0 18) I2)) (rg 0 18) I2 fun x3 I3 => if gz_eq x3 = true then (hI (fX9_once N [.ref 0, .ref 1018, .int 0] (gS (rg 0 18) I3)) (rg 0 18) I3 fun x4 I4 => if gz_eq x4 = true then (hI (fX9_once N [.ref 0, .ref 1021, .int 1] (gS (rg 0 18) I4)) (rg 0 18) I4 fun x5 I5 => if gz_eq x5 = true then (hI (fX9_once N [.ref 0, .ref 1022, .int 2] (gS (rg 0 18) I5)) (rg 0 18) I5 fun x6 I6 => if gz_eq x6 = true then (hI (fX9_once N [.ref 0, .ref 1023, .int 3] (gS (rg 0 18) I6)) (rg 0 18) I6 fun x7 I7 => if gz_eq x7 = true then (hV (fX9_fail N [.ref 0] (gS (rg 0 18) I7)) (rg 0 18) I7 fun I8 => some (.inl none, I8)) else (hI (fX9_takeWord N [.ref 0, .ref 1024, .ref 1025] (gS (rg 0 18) I7)) (rg 0 18) I7 fun x9 I9 => ck 2746 6 <| some (.inl none, (gU I9 2 (nn 6) x9)))) else (hI (fX9_takeNumber N [.ref 0, .int 0, .int 20] (gS (rg 0 18) I6)) (rg 0 18) I6 fun x10 I10 => ck 2746 5 <| some (.inl none, (gU I10 2 (nn 5) x10)))) else (hI (fX9_takeNumber N [.ref 0, .int 0, .int 50] (gS (rg 0 18) I5)) (rg 0 18) I5 fun x11 I11 => ck 2746 4 <| some (.inl none, (gU I11 2 (nn 4) x11)))) else (hI (fX9_takeWord N [.ref 0, .ref 1019, .ref 1020] (gS (rg 0 18) I4)) (rg 0 18) I4 fun x12 I12 => ck 2746 3 <| some (.inl none, (gU I12 2 (nn 3) x12)))) else (hV (fX9_flowStatement N [.ref 0] (gS (rg 0 18) I3)) (rg 0 18) I3 fun I13 => some (.inl none, I13))) else (hV (fX9_conflictStatement N [.ref 0] (gS (rg 0 18) I2)) (rg 0 18) I2 fun I14 => some (.inl none, I14))) else (hV (fX9_linkStatement N [.ref 0] (gS (rg 0 18) I1)) (rg 0 18) I1 fun I15 => some (.inl none, I15)) := rfl
theorem eX9_readStatement (N : Nat) (I : gM) : fX9_readStatement N [.ref 0] I = hX9_readStatement_0 N I := rfl

def hX9_parse_0 (N : Nat) (I : gM) : gO := fX9_parse_k0 N [some (.ref 0)] [] I
def hX9_parse_51 (N : Nat) (n51 : Nat) (I : gM) : gO := s_lp (fX9_parse_b51 N) n51 [some (.ref 0)] [] I
def hX9_parse_91 (N : Nat) (I : gM) : gO := fX9_parse_k91 N [some (.ref 0)] [] I
theorem eX9_parse_0 (N : Nat) (I : gM) : hX9_parse_0 N I =
  hV (fX9_begin N [.ref 0] (gS (rg 0 18) (gU (gU I 0 3 0) 0 7 (-1)))) (rg 0 18) (gU (gU I 0 3 0) 0 7 (-1)) fun I1 => hV (fX9_step N [.ref 0] (gS (rg 0 18) I1)) (rg 0 18) I1 fun I2 => hI (fX9_isWord N [.ref 0, .ref 1013] (gS (rg 0 18) I2)) (rg 0 18) I2 fun x3 I3 => if gz_eq x3 = true then (hV (fX9_fail N [.ref 0] (gS (rg 0 18) I3)) (rg 0 18) I3 fun I4 => hX9_parse_51 N N I4) else (hV (fX9_step N [.ref 0] (gS (rg 0 18) I3)) (rg 0 18) I3 fun I5 => hI (fX9_takeNumber N [.ref 0, .int 2, .int 10] (gS (rg 0 18) I5)) (rg 0 18) I5 fun x6 I6 => ck 2746 0 <| hX9_parse_51 N N (gU I6 2 (nn 0) x6)) := rfl
theorem eX9_parse_51 (N : Nat) (n51 : Nat) (I : gM) : hX9_parse_51 N (n51 + 1) I =
  hI (fX9_isGood N [.ref 0] (gS (rg 0 18) I)) (rg 0 18) I fun x7 I7 => if gz_eq x7 = true then (hX9_parse_91 N I7) else (if gc_ne (I7 0 5) 3 = true then (hX9_parse_91 N I7) else (ck 700 (I7 0 4) <| if gc_ne ((I7 1 ((nn (I7 0 4))))) 59 = true then (hX9_parse_91 N I7) else (hV (fX9_step N [.ref 0] (gS (rg 0 18) I7)) (rg 0 18) I7 fun I8 => hV (fX9_readStatement N [.ref 0] (gS (rg 0 18) I8)) (rg 0 18) I8 fun I9 => hX9_parse_51 N n51 I9))) := rfl
theorem eX9_parse_51z (N : Nat) (I : gM) : hX9_parse_51 N 0 I = none := rfl
theorem eX9_parse_91 (N : Nat) (I : gM) : hX9_parse_91 N I =
  hI (fX9_isGood N [.ref 0] (gS (rg 0 18) I)) (rg 0 18) I fun x10 I10 => if gz_eq x10 = true then (some (.inl (some (.int (I10 0 7))), I10)) else (if gz_eq (I10 0 5) = true then (some (.inl (some (.int (I10 0 7))), I10)) else (hV (fX9_fail N [.ref 0] (gS (rg 0 18) I10)) (rg 0 18) I10 fun I11 => some (.inl (some (.int (I11 0 7))), I11))) := rfl
theorem eX9_parse (N : Nat) (I : gM) : fX9_parse N [.ref 0] I = hX9_parse_0 N I := rfl

def hX9_errorPosition_0 (N : Nat) (I : gM) : gO := fX9_errorPosition_k0 N [some (.ref 0)] [] I
theorem eX9_errorPosition_0 (N : Nat) (I : gM) : hX9_errorPosition_0 N I =
  hI (fX9_parse N [.ref 0] (gS (rg 0 18) (gU I 0 0 0))) (rg 0 18) (gU I 0 0 0) fun x1 I1 => some (.inl (some (.int x1)), I1) := rfl
theorem eX9_errorPosition (N : Nat) (I : gM) : fX9_errorPosition N [.ref 0] I = hX9_errorPosition_0 N I := rfl

def hX9_copy_0 (N : Nat) (n1 n2 : Nat) (v1 : Int32) (v3 : Int32) (I : gM) : gO := fX9_copy_k0 N n1 n2 [some (.ref 0), some (.int v1), some (.ref 1), some (.int v3), none] [] I
def hX9_copy_3 (N : Nat) (n1 n2 : Nat) (n3 : Nat) (v1 : Int32) (v3 : Int32) (v4 : Int32) (I : gM) : gO := s_lp (fX9_copy_b3 N n1 n2) n3 [some (.ref 0), some (.int v1), some (.ref 1), some (.int v3), some (.int v4)] [] I
theorem eX9_copy_0 (N : Nat) (n1 n2 : Nat) (v1 : Int32) (v3 : Int32) (I : gM) : hX9_copy_0 N n1 n2 v1 v3 I =
  hX9_copy_3 N n1 n2 N v1 v3 0 I := rfl
theorem eX9_copy_3 (N : Nat) (n1 n2 : Nat) (n3 : Nat) (v1 : Int32) (v3 : Int32) (v4 : Int32) (I : gM) : hX9_copy_3 N n1 n2 (n3 + 1) v1 v3 v4 I =
  if gc_ge v4 2746 = true then (some (.inl none, I)) else (ck n1 (v1 + v4) <| ck n2 (v3 + v4) <| hX9_copy_3 N n1 n2 n3 v1 v3 (v4 + 1) (gU I 1 ((nn (v3 + v4))) ((I 0 ((nn (v1 + v4))))))) := rfl
theorem eX9_copy_3z (N : Nat) (n1 n2 : Nat) (v1 : Int32) (v3 : Int32) (v4 : Int32) (I : gM) : hX9_copy_3 N n1 n2 0 v1 v3 v4 I = none := rfl
theorem eX9_copy (N : Nat) (n1 n2 : Nat) (v1 : Int32) (v3 : Int32) (I : gM) : fX9_copy N n1 n2 [.ref 0, .int v1, .ref 1, .int v3] I = hX9_copy_0 N n1 n2 v1 v3 I := rfl

def hX9_takeRead_0 (N : Nat) (I : gM) : gO := fX9_takeRead_k0 N [some (.ref 0)] [] I
theorem eX9_takeRead_0 (N : Nat) (I : gM) : hX9_takeRead_0 N I =
  hV (fX9_copy N 2746 2746 [.ref 0, .int 0, .ref 1, .int 0] (gS (rg 2 2) I)) (rg 2 2) I fun I1 => some (.inl none, (gU (gU I1 0 13 0) 0 16 0)) := rfl
theorem eX9_takeRead (N : Nat) (I : gM) : fX9_takeRead N [.ref 0] I = hX9_takeRead_0 N I := rfl

def hX9_load_0 (N : Nat) (I : gM) : gO := fX9_load_k0 N [some (.ref 0)] [] I
def hX9_load_18 (N : Nat) (s1 : Int32) (I : gM) : gO := fX9_load_k18 N [some (.ref 0)] [.int s1, .ref 0] I
theorem eX9_load_0 (N : Nat) (I : gM) : hX9_load_0 N I =
  hI (fX9_parse N [.ref 0] (gS (rg 0 18) (gU I 0 0 0))) (rg 0 18) (gU I 0 0 0) fun x1 I1 => if gz_ge x1 = true then (hX9_load_18 N 0 I1) else (hX9_load_18 N 1 I1) := rfl
theorem eX9_load_18 (N : Nat) (s1 : Int32) (I : gM) : hX9_load_18 N s1 I =
  hI (fX9_fails N [.ref 0, .int s1, .int 1] (gS (rg 0 18) I)) (rg 0 18) I fun x2 I2 => if gz_eq x2 = true then (hV (fX9_takeRead N [.ref 0] (gS (rg 0 18) I2)) (rg 0 18) I2 fun I3 => ck 2746 1 <| some (.inl (some (.int ((I3 3 (nn 1))))), (gU I3 0 2 0))) else (some (.inl (some (.int 0)), I2)) := rfl
theorem eX9_load (N : Nat) (I : gM) : fX9_load N [.ref 0] I = hX9_load_0 N I := rfl

def hX9_record_0 (N : Nat) (I : gM) : gO := fX9_record_k0 N [some (.ref 0), none] [] I
def hX9_record_52 (N : Nat) (I : gM) : gO := fX9_record_k52 N [some (.ref 0), none] [] I
def hX9_record_13 (N : Nat) (n13 : Nat) (v1 : Int32) (I : gM) : gO := s_lp (fX9_record_b13 N) n13 [some (.ref 0), some (.int v1)] [] I
theorem eX9_record_0 (N : Nat) (I : gM) : hX9_record_0 N I =
  if gc_ne (I 0 13) 6 = true then (hX9_record_52 N I) else (hX9_record_13 N N 2746 I) := rfl
theorem eX9_record_52 (N : Nat) (I : gM) : hX9_record_52 N I =
  hV (fX9_copy N 2746 16476 [.ref 0, .int 0, .ref 1, .int ((2746 * (I 0 13)))] (gS [3, 6] I)) [3, 6] I fun I1 => some (.inl none, (gU I1 0 13 (((I1 0 13) + 1)))) := rfl
theorem eX9_record_13 (N : Nat) (n13 : Nat) (v1 : Int32) (I : gM) : hX9_record_13 N (n13 + 1) v1 I =
  if gc_ge v1 16476 = true then (hX9_record_52 N (gU I 0 13 (((I 0 13) - 1)))) else (ck 16476 v1 <| ck 16476 (v1 - 2746) <| hX9_record_13 N n13 (v1 + 1) (gU I 6 ((nn (v1 - 2746))) ((I 6 (nn v1))))) := rfl
theorem eX9_record_13z (N : Nat) (v1 : Int32) (I : gM) : hX9_record_13 N 0 v1 I = none := rfl
theorem eX9_record (N : Nat) (I : gM) : fX9_record N [.ref 0] I = hX9_record_0 N I := rfl

def hX9_undo_0 (N : Nat) (I : gM) : gO := fX9_undo_k0 N [some (.ref 0)] [] I
def hX9_undo_18 (N : Nat) (s1 : Int32) (I : gM) : gO := fX9_undo_k18 N [some (.ref 0)] [.int s1, .ref 0] I
theorem eX9_undo_0 (N : Nat) (I : gM) : hX9_undo_0 N I =
  if gz_le (I 0 13) = true then (hX9_undo_18 N 0 (gU I 0 0 0)) else (hX9_undo_18 N 1 (gU I 0 0 0)) := rfl
theorem eX9_undo_18 (N : Nat) (s1 : Int32) (I : gM) : hX9_undo_18 N s1 I =
  hI (fX9_fails N [.ref 0, .int s1, .int 1] (gS (rg 0 18) I)) (rg 0 18) I fun x1 I1 => if gz_eq x1 = true then (hV (fX9_copy N 16476 2746 [.ref 0, .int ((2746 * (((I1 0 13) - 1)))), .ref 1, .int 0] (gS [6, 3] (gU I1 0 13 (((I1 0 13) - 1))))) [6, 3] (gU I1 0 13 (((I1 0 13) - 1))) fun I2 => some (.inl (some (.int (I2 0 13))), I2)) else (some (.inl (some (.int 0)), I1)) := rfl
theorem eX9_undo (N : Nat) (I : gM) : fX9_undo N [.ref 0] I = hX9_undo_0 N I := rfl

def hX9_undoCount_0 (N : Nat) (I : gM) : gO := fX9_undoCount_k0 N [some (.ref 0)] [] I
theorem eX9_undoCount_0 (N : Nat) (I : gM) : hX9_undoCount_0 N I =
  some (.inl (some (.int (I 0 13))), (gU I 0 0 0)) := rfl
theorem eX9_undoCount (N : Nat) (I : gM) : fX9_undoCount N [.ref 0] I = hX9_undoCount_0 N I := rfl

def hX9_save_0 (N : Nat) (I : gM) : gO := fX9_save_k0 N [some (.ref 0)] [] I
theorem eX9_save_0 (N : Nat) (I : gM) : hX9_save_0 N I =
  hV (fX9_copy N 2746 2746 [.ref 0, .int 0, .ref 1, .int 0] (gS [3, 5] (gU I 0 0 0))) [3, 5] (gU I 0 0 0) fun I1 => ck 2746 7 <| some (.inl (some (.int ((I1 3 (nn 7))))), (gU I1 0 16 1)) := rfl
theorem eX9_save (N : Nat) (I : gM) : fX9_save N [.ref 0] I = hX9_save_0 N I := rfl

def hX9_restore_0 (N : Nat) (I : gM) : gO := fX9_restore_k0 N [some (.ref 0)] [] I
theorem eX9_restore_0 (N : Nat) (I : gM) : hX9_restore_0 N I =
  hI (fX9_fails N [.ref 0, .int (I 0 16), .int 1] (gS (rg 0 18) (gU I 0 0 0))) (rg 0 18) (gU I 0 0 0) fun x1 I1 => if gz_eq x1 = true then (hV (fX9_copy N 2746 2746 [.ref 0, .int 0, .ref 1, .int 0] (gS [5, 3] I1)) [5, 3] I1 fun I2 => ck 2746 7 <| some (.inl (some (.int ((I2 3 (nn 7))))), (gU I2 0 13 0))) else (some (.inl (some (.int 0)), I1)) := rfl
theorem eX9_restore (N : Nat) (I : gM) : fX9_restore N [.ref 0] I = hX9_restore_0 N I := rfl

def hX9_linkPart_0 (N : Nat) (v1 : Int32) (v2 : Int32) (I : gM) : gO := fX9_linkPart_k0 N [some (.ref 0), some (.int v1), some (.int v2)] [] I
theorem eX9_linkPart_0 (N : Nat) (v1 : Int32) (v2 : Int32) (I : gM) : hX9_linkPart_0 N v1 v2 I =
  ck 2746 ((((9 + (4 * v1))) + v2)) <| some (.inl (some (.int ((I 3 ((nn ((((9 + (4 * v1))) + v2)))))))), I) := rfl
theorem eX9_linkPart (N : Nat) (v1 : Int32) (v2 : Int32) (I : gM) : fX9_linkPart N [.ref 0, .int v1, .int v2] I = hX9_linkPart_0 N v1 v2 I := rfl

def hX9_flowPart_0 (N : Nat) (v1 : Int32) (v2 : Int32) (I : gM) : gO := fX9_flowPart_k0 N [some (.ref 0), some (.int v1), some (.int v2)] [] I
theorem eX9_flowPart_0 (N : Nat) (v1 : Int32) (v2 : Int32) (I : gM) : hX9_flowPart_0 N v1 v2 I =
  ck 2746 ((((65 + (11 * v1))) + v2)) <| some (.inl (some (.int ((I 3 ((nn ((((65 + (11 * v1))) + v2)))))))), I) := rfl
theorem eX9_flowPart (N : Nat) (v1 : Int32) (v2 : Int32) (I : gM) : fX9_flowPart N [.ref 0, .int v1, .int v2] I = hX9_flowPart_0 N v1 v2 I := rfl

def hX9_count_0 (N : Nat) (v1 : Int32) (v2 : Int32) (v3 : Int32) (I : gM) : gO := fX9_count_k0 N [some (.ref 0), some (.int v1), some (.int v2), some (.int v3)] [] I
theorem eX9_count_0 (N : Nat) (v1 : Int32) (v2 : Int32) (v3 : Int32) (I : gM) : hX9_count_0 N v1 v2 v3 I =
  ck 2746 ((((65 + (11 * v1))) + v2)) <| ck 2746 ((((65 + (11 * v1))) + v2)) <| some (.inl none, (gU I 3 ((nn ((((65 + (11 * v1))) + v2)))) ((((I 3 ((nn ((((65 + (11 * v1))) + v2)))))) + v3)))) := rfl
theorem eX9_count (N : Nat) (v1 : Int32) (v2 : Int32) (v3 : Int32) (I : gM) : fX9_count N [.ref 0, .int v1, .int v2, .int v3] I = hX9_count_0 N v1 v2 v3 I := rfl

def hX9_packetPart_0 (N : Nat) (v1 : Int32) (v2 : Int32) (I : gM) : gO := fX9_packetPart_k0 N [some (.ref 0), some (.int v1), some (.int v2)] [] I
theorem eX9_packetPart_0 (N : Nat) (v1 : Int32) (v2 : Int32) (I : gM) : hX9_packetPart_0 N v1 v2 I =
  ck 2746 ((((246 + (5 * v1))) + v2)) <| some (.inl (some (.int ((I 3 ((nn ((((246 + (5 * v1))) + v2)))))))), I) := rfl
theorem eX9_packetPart (N : Nat) (v1 : Int32) (v2 : Int32) (I : gM) : fX9_packetPart N [.ref 0, .int v1, .int v2] I = hX9_packetPart_0 N v1 v2 I := rfl

def hX9_goalOf_0 (N : Nat) (v1 : Int32) (I : gM) : gO := fX9_goalOf_k0 N [some (.ref 0), some (.int v1)] [] I
theorem eX9_goalOf_0 (N : Nat) (v1 : Int32) (I : gM) : hX9_goalOf_0 N v1 I =
  hI (fX9_packetPart N [.ref 0, .int v1, .int 0] (gS (rg 0 18) I)) (rg 0 18) I fun x1 I1 => hI (fX9_flowPart N [.ref 0, .int x1, .int 1] (gS (rg 0 18) I1)) (rg 0 18) I1 fun x2 I2 => some (.inl (some (.int x2)), I2) := rfl
theorem eX9_goalOf (N : Nat) (v1 : Int32) (I : gM) : fX9_goalOf N [.ref 0, .int v1] I = hX9_goalOf_0 N v1 I := rfl

def hX9_isQueued_0 (N : Nat) (v1 : Int32) (v2 : Int32) (v3 : Int32) (I : gM) : gO := fX9_isQueued_k0 N [some (.ref 0), some (.int v1), some (.int v2), some (.int v3)] [] I
theorem eX9_isQueued_0 (N : Nat) (v1 : Int32) (v2 : Int32) (v3 : Int32) (I : gM) : hX9_isQueued_0 N v1 v2 v3 I =
  hI (fX9_packetPart N [.ref 0, .int v1, .int 4] (gS (rg 0 18) I)) (rg 0 18) I fun x1 I1 => if gc_ne x1 v2 = true then (some (.inl (some (.int 0)), I1)) else (hI (fX9_goalOf N [.ref 0, .int v1] (gS (rg 0 18) I1)) (rg 0 18) I1 fun x2 I2 => if gc_ne x2 v3 = true then (some (.inl (some (.int 0)), I2)) else (some (.inl (some (.int 1)), I2))) := rfl
theorem eX9_isQueued (N : Nat) (v1 : Int32) (v2 : Int32) (v3 : Int32) (I : gM) : fX9_isQueued N [.ref 0, .int v1, .int v2, .int v3] I = hX9_isQueued_0 N v1 v2 v3 I := rfl

def hX9_queued_0 (N : Nat) (v1 : Int32) (v2 : Int32) (I : gM) : gO := fX9_queued_k0 N [some (.ref 0), some (.int v1), some (.int v2), none, none] [] I
def hX9_queued_5 (N : Nat) (n5 : Nat) (v1 : Int32) (v2 : Int32) (v3 : Int32) (v4 : Int32) (I : gM) : gO := s_lp (fX9_queued_b5 N) n5 [some (.ref 0), some (.int v1), some (.int v2), some (.int v3), some (.int v4)] [] I
def hX9_queued_35 (N : Nat) (n5 : Nat) (v1 : Int32) (v2 : Int32) (v4 : Int32) (s0 : Int32) (s1 : Int32) (I : gM) : gO := fX9_queued_k35 N (s_lp (fX9_queued_b5 N) n5) [some (.ref 0), some (.int v1), some (.int v2), none, some (.int v4)] [.int s1, .int s0] I
theorem eX9_queued_0 (N : Nat) (v1 : Int32) (v2 : Int32) (I : gM) : hX9_queued_0 N v1 v2 I =
  hX9_queued_5 N N v1 v2 0 0 I := rfl
theorem eX9_queued_5 (N : Nat) (n5 : Nat) (v1 : Int32) (v2 : Int32) (v3 : Int32) (v4 : Int32) (I : gM) : hX9_queued_5 N (n5 + 1) v1 v2 v3 v4 I =
  ck 2746 245 <| if gc_ge v4 ((I 3 (nn 245))) = true then (some (.inl (some (.int v3)), I)) else (hI (fX9_isQueued N [.ref 0, .int v4, .int v1, .int v2] (gS (rg 0 18) I)) (rg 0 18) I fun x1 I1 => if gz_eq x1 = true then (hX9_queued_35 N n5 v1 v2 v4 v3 0 I1) else (hX9_queued_35 N n5 v1 v2 v4 v3 1 I1)) := rfl
theorem eX9_queued_5z (N : Nat) (v1 : Int32) (v2 : Int32) (v3 : Int32) (v4 : Int32) (I : gM) : hX9_queued_5 N 0 v1 v2 v3 v4 I = none := rfl
theorem eX9_queued_35 (N : Nat) (n5 : Nat) (v1 : Int32) (v2 : Int32) (v4 : Int32) (s0 : Int32) (s1 : Int32) (I : gM) : hX9_queued_35 N n5 v1 v2 v4 s0 s1 I =
  hX9_queued_5 N n5 v1 v2 (s0 + s1) (v4 + 1) I := rfl
theorem eX9_queued (N : Nat) (v1 : Int32) (v2 : Int32) (I : gM) : fX9_queued N [.ref 0, .int v1, .int v2] I = hX9_queued_0 N v1 v2 I := rfl

def hX9_shadowOf_0 (N : Nat) (v1 : Int32) (v2 : Int32) (I : gM) : gO := fX9_shadowOf_k0 N [some (.ref 0), some (.int v1), some (.int v2)] [] I
theorem eX9_shadowOf_0 (N : Nat) (v1 : Int32) (v2 : Int32) (I : gM) : hX9_shadowOf_0 N v1 v2 I =
  ck 2746 ((((145 + (10 * v1))) + v2)) <| some (.inl (some (.int ((I 3 ((nn ((((145 + (10 * v1))) + v2)))))))), I) := rfl
theorem eX9_shadowOf (N : Nat) (v1 : Int32) (v2 : Int32) (I : gM) : fX9_shadowOf N [.ref 0, .int v1, .int v2] I = hX9_shadowOf_0 N v1 v2 I := rfl

def hX9_stayAll_0 (N : Nat) (I : gM) : gO := fX9_stayAll_k0 N [some (.ref 0), none] [] I
def hX9_stayAll_2 (N : Nat) (n2 : Nat) (v1 : Int32) (I : gM) : gO := s_lp (fX9_stayAll_b2 N) n2 [some (.ref 0), some (.int v1)] [] I
theorem eX9_stayAll_0 (N : Nat) (I : gM) : hX9_stayAll_0 N I =
  hX9_stayAll_2 N N 0 I := rfl
theorem eX9_stayAll_2 (N : Nat) (n2 : Nat) (v1 : Int32) (I : gM) : hX9_stayAll_2 N (n2 + 1) v1 I =
  if gc_ge v1 500 = true then (some (.inl none, I)) else (ck 500 v1 <| hX9_stayAll_2 N n2 (v1 + 1) (gU I 7 (nn v1) ((if (1 : Nat) = 0 then 0 else vp_nar .boolean 0)))) := rfl
theorem eX9_stayAll_2z (N : Nat) (v1 : Int32) (I : gM) : hX9_stayAll_2 N 0 v1 I = none := rfl
theorem eX9_stayAll (N : Nat) (I : gM) : fX9_stayAll N [.ref 0] I = hX9_stayAll_0 N I := rfl

def hX9_closeUp_0 (N : Nat) (I : gM) : gO := fX9_closeUp_k0 N [some (.ref 0), none, none, none] [] I
def hX9_closeUp_4 (N : Nat) (n4 : Nat) (v1 : Int32) (v2 : Int32) (I : gM) : gO := s_lp (fX9_closeUp_b4 N) n4 [some (.ref 0), some (.int v1), some (.int v2), none] [] I
def hX9_closeUp_18 (N : Nat) (n4 : Nat) (n18 : Nat) (v1 : Int32) (v2 : Int32) (v3 : Int32) (I : gM) : gO := s_lp (fX9_closeUp_b18 N (s_lp (fX9_closeUp_b4 N) n4)) n18 [some (.ref 0), some (.int v1), some (.int v2), some (.int v3)] [] I
def hX9_closeUp_58 (N : Nat) (n4 : Nat) (v1 : Int32) (v2 : Int32) (I : gM) : gO := fX9_closeUp_k58 N (s_lp (fX9_closeUp_b4 N) n4) [some (.ref 0), some (.int v1), some (.int v2), none] [] I
def hX9_closeUp_73 (N : Nat) (n4 : Nat) (v2 : Int32) (s0 : Int32) (s1 : Int32) (I : gM) : gO := fX9_closeUp_k73 N (s_lp (fX9_closeUp_b4 N) n4) [some (.ref 0), none, some (.int v2), none] [.int s1, .int s0] I
theorem eX9_closeUp_0 (N : Nat) (I : gM) : hX9_closeUp_0 N I =
  hX9_closeUp_4 N N 0 0 I := rfl
theorem eX9_closeUp_4 (N : Nat) (n4 : Nat) (v1 : Int32) (v2 : Int32) (I : gM) : hX9_closeUp_4 N (n4 + 1) v1 v2 I =
  ck 2746 245 <| if gc_ge v2 ((I 3 (nn 245))) = true then (ck 2746 245 <| ck 2746 245 <| some (.inl (some (.int ((((I 3 (nn 245))) - v1)))), (gU I 3 (nn 245) v1))) else (hX9_closeUp_18 N n4 N v1 v2 0 I) := rfl
theorem eX9_closeUp_4z (N : Nat) (v1 : Int32) (v2 : Int32) (I : gM) : hX9_closeUp_4 N 0 v1 v2 I = none := rfl
theorem eX9_closeUp_18 (N : Nat) (n4 : Nat) (n18 : Nat) (v1 : Int32) (v2 : Int32) (v3 : Int32) (I : gM) : hX9_closeUp_18 N n4 (n18 + 1) v1 v2 v3 I =
  if gc_ge v3 5 = true then (hX9_closeUp_58 N n4 v1 v2 I) else (ck 500 v2 <| if gz_ne ((I 7 (nn v2))) = true then (hX9_closeUp_58 N n4 v1 v2 I) else (hI (fX9_packetPart N [.ref 0, .int v2, .int v3] (gS (rg 0 18) I)) (rg 0 18) I fun x1 I1 => ck 2746 ((((246 + (5 * v1))) + v3)) <| hX9_closeUp_18 N n4 n18 v1 v2 (v3 + 1) (gU I1 3 ((nn ((((246 + (5 * v1))) + v3)))) x1))) := rfl
theorem eX9_closeUp_18z (N : Nat) (n4 : Nat) (v1 : Int32) (v2 : Int32) (v3 : Int32) (I : gM) : hX9_closeUp_18 N n4 0 v1 v2 v3 I = none := rfl
theorem eX9_closeUp_58 (N : Nat) (n4 : Nat) (v1 : Int32) (v2 : Int32) (I : gM) : hX9_closeUp_58 N n4 v1 v2 I =
  ck 500 v2 <| if gz_eq ((I 7 (nn v2))) = true then (hX9_closeUp_73 N n4 v2 v1 1 I) else (hX9_closeUp_73 N n4 v2 v1 0 I) := rfl
theorem eX9_closeUp_73 (N : Nat) (n4 : Nat) (v2 : Int32) (s0 : Int32) (s1 : Int32) (I : gM) : hX9_closeUp_73 N n4 v2 s0 s1 I =
  hX9_closeUp_4 N n4 (s0 + s1) (v2 + 1) I := rfl
theorem eX9_closeUp (N : Nat) (I : gM) : fX9_closeUp N [.ref 0] I = hX9_closeUp_0 N I := rfl

def hX9_come_0 (N : Nat) (v1 : Int32) (v2 : Int32) (v3 : Int32) (v4 : Int32) (v5 : Int32) (I : gM) : gO := fX9_come_k0 N [some (.ref 0), some (.int v1), some (.int v2), some (.int v3), some (.int v4), some (.int v5), none] [] I
theorem eX9_come_0 (N : Nat) (v1 : Int32) (v2 : Int32) (v3 : Int32) (v4 : Int32) (v5 : Int32) (I : gM) : hX9_come_0 N v1 v2 v3 v4 v5 I =
  ck 2746 245 <| ck 2746 ((((246 + ((5 * ((I 3 (nn 245))))))) + 0)) <| ck 2746 ((((246 + ((5 * ((I 3 (nn 245))))))) + 1)) <| ck 2746 ((((246 + ((5 * ((I 3 (nn 245))))))) + 2)) <| ck 2746 ((((246 + ((5 * ((I 3 (nn 245))))))) + 3)) <| ck 2746 ((((246 + ((5 * ((I 3 (nn 245))))))) + 4)) <| ck 2746 245 <| ck 2746 245 <| some (.inl none, (gU (gU (gU (gU (gU (gU I 3 ((nn ((((246 + ((5 * ((I 3 (nn 245))))))) + 0)))) v1) 3 ((nn ((((246 + ((5 * ((I 3 (nn 245))))))) + 1)))) v2) 3 ((nn ((((246 + ((5 * ((I 3 (nn 245))))))) + 2)))) v3) 3 ((nn ((((246 + ((5 * ((I 3 (nn 245))))))) + 3)))) v4) 3 ((nn ((((246 + ((5 * ((I 3 (nn 245))))))) + 4)))) v5) 3 (nn 245) (((((gU (gU (gU (gU (gU I 3 ((nn ((((246 + ((5 * ((I 3 (nn 245))))))) + 0)))) v1) 3 ((nn ((((246 + ((5 * ((I 3 (nn 245))))))) + 1)))) v2) 3 ((nn ((((246 + ((5 * ((I 3 (nn 245))))))) + 2)))) v3) 3 ((nn ((((246 + ((5 * ((I 3 (nn 245))))))) + 3)))) v4) 3 ((nn ((((246 + ((5 * ((I 3 (nn 245))))))) + 4)))) v5) 3 (nn 245))) + 1)))) := rfl
theorem eX9_come (N : Nat) (v1 : Int32) (v2 : Int32) (v3 : Int32) (v4 : Int32) (v5 : Int32) (I : gM) : fX9_come N [.ref 0, .int v1, .int v2, .int v3, .int v4, .int v5] I = hX9_come_0 N v1 v2 v3 v4 v5 I := rfl

def hX9_layHops_0 (N : Nat) (I : gM) : gO := fX9_layHops_k0 N [some (.ref 0), none, none, none, none, none, none] [] I
def hX9_layHops_9 (N : Nat) (n9 : Nat) (v1 : Int32) (v2 : Int32) (I : gM) : gO := s_lp (fX9_layHops_b9 N) n9 [some (.ref 0), some (.int v1), some (.int v2), none, none, none, none] [] I
def hX9_layHops_45 (N : Nat) (n45 : Nat) (v1 : Int32) (v2 : Int32) (I : gM) : gO := s_lp (fX9_layHops_b45 N) n45 [some (.ref 0), some (.int v1), some (.int v2), none, none, none, none] [] I
def hX9_layHops_36 (N : Nat) (n9 : Nat) (v1 : Int32) (v2 : Int32) (s1 : Int32) (s2 : Int32) (I : gM) : gO := fX9_layHops_k36 N (s_lp (fX9_layHops_b9 N) n9) [some (.ref 0), some (.int v1), some (.int v2), none, none, none, none] [.int s2, .int s1, .ref 8] I
def hX9_layHops_52 (N : Nat) (n45 : Nat) (n52 : Nat) (v1 : Int32) (v2 : Int32) (v3 : Int32) (I : gM) : gO := s_lp (fX9_layHops_b52 N (s_lp (fX9_layHops_b45 N) n45)) n52 [some (.ref 0), some (.int v1), some (.int v2), some (.int v3), none, none, none] [] I
def hX9_layHops_65 (N : Nat) (n45 : Nat) (n52 : Nat) (n65 : Nat) (v1 : Int32) (v2 : Int32) (v3 : Int32) (v4 : Int32) (I : gM) : gO := s_lp (fX9_layHops_b65 N (s_lp (fX9_layHops_b45 N) n45) (s_lp (fX9_layHops_b52 N (s_lp (fX9_layHops_b45 N) n45)) n52)) n65 [some (.ref 0), some (.int v1), some (.int v2), some (.int v3), some (.int v4), none, none] [] I
theorem eX9_layHops_0 (N : Nat) (I : gM) : hX9_layHops_0 N I =
  ck 2746 0 <| hX9_layHops_9 N N ((I 3 (nn 0))) 0 I := rfl
theorem eX9_layHops_9 (N : Nat) (n9 : Nat) (v1 : Int32) (v2 : Int32) (I : gM) : hX9_layHops_9 N (n9 + 1) v1 v2 I =
  if gc_ge v2 100 = true then (hX9_layHops_45 N N v1 0 I) else (if 10 = 0 then none else if 10 = 0 then none else if gc_ne (gb_div v2 10) (gb_rem v2 10) = true then (hX9_layHops_36 N n9 v1 v2 v2 v1 I) else (hX9_layHops_36 N n9 v1 v2 v2 0 I)) := rfl
theorem eX9_layHops_9z (N : Nat) (v1 : Int32) (v2 : Int32) (I : gM) : hX9_layHops_9 N 0 v1 v2 I = none := rfl
theorem eX9_layHops_45 (N : Nat) (n45 : Nat) (v1 : Int32) (v2 : Int32) (I : gM) : hX9_layHops_45 N (n45 + 1) v1 v2 I =
  if gc_ge v2 v1 = true then (some (.inl none, I)) else (hX9_layHops_52 N n45 N v1 v2 0 I) := rfl
theorem eX9_layHops_45z (N : Nat) (v1 : Int32) (v2 : Int32) (I : gM) : hX9_layHops_45 N 0 v1 v2 I = none := rfl
theorem eX9_layHops_36 (N : Nat) (n9 : Nat) (v1 : Int32) (v2 : Int32) (s1 : Int32) (s2 : Int32) (I : gM) : hX9_layHops_36 N n9 v1 v2 s1 s2 I =
  ck 100 s1 <| hX9_layHops_9 N n9 v1 (v2 + 1) (gU I 8 (nn s1) s2) := rfl
theorem eX9_layHops_52 (N : Nat) (n45 : Nat) (n52 : Nat) (v1 : Int32) (v2 : Int32) (v3 : Int32) (I : gM) : hX9_layHops_52 N n45 (n52 + 1) v1 v2 v3 I =
  ck 2746 1 <| if gc_ge v3 ((I 3 (nn 1))) = true then (hX9_layHops_45 N n45 v1 (v2 + 1) I) else (hX9_layHops_65 N n45 n52 N v1 v2 v3 0 I) := rfl
theorem eX9_layHops_52z (N : Nat) (n45 : Nat) (v1 : Int32) (v2 : Int32) (v3 : Int32) (I : gM) : hX9_layHops_52 N n45 0 v1 v2 v3 I = none := rfl
theorem eX9_layHops_65 (N : Nat) (n45 : Nat) (n52 : Nat) (n65 : Nat) (v1 : Int32) (v2 : Int32) (v3 : Int32) (v4 : Int32) (I : gM) : hX9_layHops_65 N n45 n52 (n65 + 1) v1 v2 v3 v4 I =
  if gc_ge v4 v1 = true then (hX9_layHops_52 N n45 n52 v1 v2 (v3 + 1) I) else (hI (fX9_linkPart N [.ref 0, .int v3, .int 1] (gS (rg 0 18) I)) (rg 0 18) I fun x1 I1 => ck 100 (((10 * x1) + v4)) <| hI (fX9_linkPart N [.ref 0, .int v3, .int 0] (gS (rg 0 18) I1)) (rg 0 18) I1 fun x2 I2 => ck 100 (((10 * x2) + v4)) <| ck 100 (((10 * x2) + v4)) <| hX9_layHops_65 N n45 n52 n65 v1 v2 v3 (v4 + 1) (gU I2 8 ((nn (((10 * x2) + v4)))) ((gj_min ((I2 8 ((nn (((10 * x2) + v4)))))) ((((I1 8 ((nn (((10 * x1) + v4)))))) + 1)))))) := rfl
theorem eX9_layHops_65z (N : Nat) (n45 : Nat) (n52 : Nat) (v1 : Int32) (v2 : Int32) (v3 : Int32) (v4 : Int32) (I : gM) : hX9_layHops_65 N n45 n52 0 v1 v2 v3 v4 I = none := rfl
theorem eX9_layHops (N : Nat) (I : gM) : fX9_layHops N [.ref 0] I = hX9_layHops_0 N I := rfl

def hX9_layPressures_0 (N : Nat) (I : gM) : gO := fX9_layPressures_k0 N [some (.ref 0), none, none] [] I
def hX9_layPressures_6 (N : Nat) (n6 : Nat) (v1 : Int32) (I : gM) : gO := s_lp (fX9_layPressures_b6 N) n6 [some (.ref 0), some (.int v1), none] [] I
def hX9_layPressures_27 (N : Nat) (n27 : Nat) (v1 : Int32) (I : gM) : gO := s_lp (fX9_layPressures_b27 N) n27 [some (.ref 0), some (.int v1), none] [] I
def hX9_layPressures_71 (N : Nat) (n71 : Nat) (v1 : Int32) (I : gM) : gO := s_lp (fX9_layPressures_b71 N) n71 [some (.ref 0), some (.int v1), none] [] I
def hX9_layPressures_105 (N : Nat) (n71 : Nat) (v1 : Int32) (s0 : Int32) (I : gM) : gO := fX9_layPressures_k105 N (s_lp (fX9_layPressures_b71 N) n71) [some (.ref 0), some (.int v1), none] [.int s0] I
def hX9_layPressures_141 (N : Nat) (n71 : Nat) (v1 : Int32) (s1 : Int32) (s2 : Int32) (I : gM) : gO := fX9_layPressures_k141 N (s_lp (fX9_layPressures_b71 N) n71) [some (.ref 0), some (.int v1), none] [.int s2, .int s1, .ref 9] I
theorem eX9_layPressures_0 (N : Nat) (I : gM) : hX9_layPressures_0 N I =
  hV (fX9_layHops N [.ref 0] (gS (rg 0 18) I)) (rg 0 18) I fun I1 => hX9_layPressures_6 N N 0 I1 := rfl
theorem eX9_layPressures_6 (N : Nat) (n6 : Nat) (v1 : Int32) (I : gM) : hX9_layPressures_6 N (n6 + 1) v1 I =
  if gc_ge v1 100 = true then (hX9_layPressures_27 N N 0 I) else (ck 100 v1 <| hX9_layPressures_6 N n6 (v1 + 1) (gU I 10 (nn v1) 0)) := rfl
theorem eX9_layPressures_6z (N : Nat) (v1 : Int32) (I : gM) : hX9_layPressures_6 N 0 v1 I = none := rfl
theorem eX9_layPressures_27 (N : Nat) (n27 : Nat) (v1 : Int32) (I : gM) : hX9_layPressures_27 N (n27 + 1) v1 I =
  ck 2746 245 <| if gc_ge v1 ((I 3 (nn 245))) = true then (hX9_layPressures_71 N N 0 I) else (hI (fX9_packetPart N [.ref 0, .int v1, .int 4] (gS (rg 0 18) I)) (rg 0 18) I fun x2 I2 => hI (fX9_goalOf N [.ref 0, .int v1] (gS (rg 0 18) I2)) (rg 0 18) I2 fun x3 I3 => ck 100 (((10 * x2) + x3)) <| ck 100 (((10 * x2) + x3)) <| hX9_layPressures_27 N n27 (v1 + 1) (gU I3 10 ((nn (((10 * x2) + x3)))) ((((I3 10 ((nn (((10 * x2) + x3)))))) + 1)))) := rfl
theorem eX9_layPressures_27z (N : Nat) (v1 : Int32) (I : gM) : hX9_layPressures_27 N 0 v1 I = none := rfl
theorem eX9_layPressures_71 (N : Nat) (n71 : Nat) (v1 : Int32) (I : gM) : hX9_layPressures_71 N (n71 + 1) v1 I =
  if gc_ge v1 100 = true then (some (.inl none, I)) else (ck 2746 3 <| if gz_ne ((I 3 (nn 3))) = true then (ck 2746 (145 + v1) <| hX9_layPressures_105 N n71 v1 ((I 3 ((nn (145 + v1))))) I) else (ck 100 v1 <| hX9_layPressures_105 N n71 v1 ((I 10 (nn v1))) I)) := rfl
theorem eX9_layPressures_71z (N : Nat) (v1 : Int32) (I : gM) : hX9_layPressures_71 N 0 v1 I = none := rfl
theorem eX9_layPressures_105 (N : Nat) (n71 : Nat) (v1 : Int32) (s0 : Int32) (I : gM) : hX9_layPressures_105 N n71 v1 s0 I =
  if 10 = 0 then none else if 10 = 0 then none else if gc_ne (gb_div v1 10) (gb_rem v1 10) = true then (ck 2746 5 <| ck 100 v1 <| hX9_layPressures_141 N n71 v1 v1 ((s0 + ((((I 3 (nn 5))) * ((I 8 (nn v1))))))) I) else (hX9_layPressures_141 N n71 v1 v1 0 I) := rfl
theorem eX9_layPressures_141 (N : Nat) (n71 : Nat) (v1 : Int32) (s1 : Int32) (s2 : Int32) (I : gM) : hX9_layPressures_141 N n71 v1 s1 s2 I =
  ck 100 s1 <| hX9_layPressures_71 N n71 (v1 + 1) (gU I 9 (nn s1) s2) := rfl
theorem eX9_layPressures (N : Nat) (I : gM) : fX9_layPressures N [.ref 0] I = hX9_layPressures_0 N I := rfl

def hX9_isPossible_0 (N : Nat) (v1 : Int32) (v2 : Int32) (I : gM) : gO := fX9_isPossible_k0 N [some (.ref 0), some (.int v1), some (.int v2), none] [] I
def hX9_isPossible_46 (N : Nat) (I : gM) : gO := fX9_isPossible_k46 N [none, none, none, none] [] I
theorem eX9_isPossible_0 (N : Nat) (v1 : Int32) (v2 : Int32) (I : gM) : hX9_isPossible_0 N v1 v2 I =
  if gc_eq v2 v1 = true then (some (.inl (some (.int 0)), I)) else (ck 2746 3 <| if gz_ne ((I 3 (nn 3))) = true then (ck 2746 ((145 + (((10 * v1) + v2)))) <| if gz_le ((I 3 ((nn ((145 + (((10 * v1) + v2)))))))) = true then (some (.inl (some (.int 0)), I)) else (hX9_isPossible_46 N I)) else (ck 100 (((10 * v1) + v2)) <| if gz_le ((I 10 ((nn (((10 * v1) + v2)))))) = true then (some (.inl (some (.int 0)), I)) else (hX9_isPossible_46 N I))) := rfl
theorem eX9_isPossible_46 (N : Nat) (I : gM) : hX9_isPossible_46 N I =
  some (.inl (some (.int 1)), I) := rfl
theorem eX9_isPossible (N : Nat) (v1 : Int32) (v2 : Int32) (I : gM) : fX9_isPossible N [.ref 0, .int v1, .int v2] I = hX9_isPossible_0 N v1 v2 I := rfl

def hX9_layWeight_0 (N : Nat) (v1 : Int32) (I : gM) : gO := fX9_layWeight_k0 N [some (.ref 0), some (.int v1), none, none, none, none, none, none] [] I
def hX9_layWeight_23 (N : Nat) (n23 : Nat) (v1 : Int32) (v2 : Int32) (v3 : Int32) (v4 : Int32) (v5 : Int32) (v6 : Int32) (I : gM) : gO := s_lp (fX9_layWeight_b23 N) n23 [some (.ref 0), some (.int v1), some (.int v2), some (.int v3), some (.int v4), some (.int v5), some (.int v6), none] [] I
def hX9_layWeight_92 (N : Nat) (n23 : Nat) (v1 : Int32) (v2 : Int32) (v3 : Int32) (v4 : Int32) (v5 : Int32) (v6 : Int32) (I : gM) : gO := fX9_layWeight_k92 N (s_lp (fX9_layWeight_b23 N) n23) [some (.ref 0), some (.int v1), some (.int v2), some (.int v3), some (.int v4), some (.int v5), some (.int v6), none] [] I
def hX9_layWeight_84 (N : Nat) (n23 : Nat) (v1 : Int32) (v2 : Int32) (v3 : Int32) (v6 : Int32) (v7 : Int32) (I : gM) : gO := fX9_layWeight_k84 N (s_lp (fX9_layWeight_b23 N) n23) [some (.ref 0), some (.int v1), some (.int v2), some (.int v3), none, none, some (.int v6), some (.int v7)] [] I
theorem eX9_layWeight_0 (N : Nat) (v1 : Int32) (I : gM) : hX9_layWeight_0 N v1 I =
  hI (fX9_linkPart N [.ref 0, .int v1, .int 0] (gS (rg 0 18) I)) (rg 0 18) I fun x1 I1 => hI (fX9_linkPart N [.ref 0, .int v1, .int 1] (gS (rg 0 18) I1)) (rg 0 18) I1 fun x2 I2 => hX9_layWeight_23 N N v1 x1 x2 (-1) 0 0 I2 := rfl
theorem eX9_layWeight_23 (N : Nat) (n23 : Nat) (v1 : Int32) (v2 : Int32) (v3 : Int32) (v4 : Int32) (v5 : Int32) (v6 : Int32) (I : gM) : hX9_layWeight_23 N (n23 + 1) v1 v2 v3 v4 v5 v6 I =
  ck 2746 0 <| if gc_ge v6 ((I 3 (nn 0))) = true then (ck 14 v1 <| if gc_ne v4 (-1) = true then (hI (fX9_linkPart N [.ref 0, .int v1, .int 2] (gS (rg 0 18) (gU I 11 (nn v1) v4))) (rg 0 18) (gU I 11 (nn v1) v4) fun x3 I3 => ck 14 v1 <| some (.inl none, (gU I3 12 (nn v1) ((gj_max 0 (x3 * v5)))))) else (ck 14 v1 <| some (.inl none, (gU (gU I 11 (nn v1) v4) 12 (nn v1) 0)))) else (ck 100 (((10 * v2) + v6)) <| ck 100 (((10 * v3) + v6)) <| hI (fX9_isPossible N [.ref 0, .int v2, .int v6] (gS (rg 0 18) I)) (rg 0 18) I fun x4 I4 => if gz_eq x4 = true then (hX9_layWeight_92 N n23 v1 v2 v3 v4 v5 v6 I4) else (if gc_eq v4 (-1) = true then (hX9_layWeight_84 N n23 v1 v2 v3 v6 ((((I 9 ((nn (((10 * v2) + v6)))))) - ((I 9 ((nn (((10 * v3) + v6)))))))) I4) else (if gc_le ((((I 9 ((nn (((10 * v2) + v6)))))) - ((I 9 ((nn (((10 * v3) + v6)))))))) v5 = true then (hX9_layWeight_92 N n23 v1 v2 v3 v4 v5 v6 I4) else (hX9_layWeight_84 N n23 v1 v2 v3 v6 ((((I 9 ((nn (((10 * v2) + v6)))))) - ((I 9 ((nn (((10 * v3) + v6)))))))) I4)))) := rfl
theorem eX9_layWeight_23z (N : Nat) (v1 : Int32) (v2 : Int32) (v3 : Int32) (v4 : Int32) (v5 : Int32) (v6 : Int32) (I : gM) : hX9_layWeight_23 N 0 v1 v2 v3 v4 v5 v6 I = none := rfl
theorem eX9_layWeight_92 (N : Nat) (n23 : Nat) (v1 : Int32) (v2 : Int32) (v3 : Int32) (v4 : Int32) (v5 : Int32) (v6 : Int32) (I : gM) : hX9_layWeight_92 N n23 v1 v2 v3 v4 v5 v6 I =
  hX9_layWeight_23 N n23 v1 v2 v3 v4 v5 (v6 + 1) I := rfl
theorem eX9_layWeight_84 (N : Nat) (n23 : Nat) (v1 : Int32) (v2 : Int32) (v3 : Int32) (v6 : Int32) (v7 : Int32) (I : gM) : hX9_layWeight_84 N n23 v1 v2 v3 v6 v7 I =
  hX9_layWeight_92 N n23 v1 v2 v3 v6 v7 v6 I := rfl
theorem eX9_layWeight (N : Nat) (v1 : Int32) (I : gM) : fX9_layWeight N [.ref 0, .int v1] I = hX9_layWeight_0 N v1 I := rfl

def hX9_layWeights_0 (N : Nat) (I : gM) : gO := fX9_layWeights_k0 N [some (.ref 0), none] [] I
def hX9_layWeights_6 (N : Nat) (n6 : Nat) (v1 : Int32) (I : gM) : gO := s_lp (fX9_layWeights_b6 N) n6 [some (.ref 0), some (.int v1)] [] I
theorem eX9_layWeights_0 (N : Nat) (I : gM) : hX9_layWeights_0 N I =
  hV (fX9_layPressures N [.ref 0] (gS (rg 0 18) I)) (rg 0 18) I fun I1 => hX9_layWeights_6 N N 0 I1 := rfl
theorem eX9_layWeights_6 (N : Nat) (n6 : Nat) (v1 : Int32) (I : gM) : hX9_layWeights_6 N (n6 + 1) v1 I =
  ck 2746 1 <| if gc_ge v1 ((I 3 (nn 1))) = true then (some (.inl none, I)) else (hV (fX9_layWeight N [.ref 0, .int v1] (gS (rg 0 18) I)) (rg 0 18) I fun I2 => hX9_layWeights_6 N n6 (v1 + 1) I2) := rfl
theorem eX9_layWeights_6z (N : Nat) (v1 : Int32) (I : gM) : hX9_layWeights_6 N 0 v1 I = none := rfl
theorem eX9_layWeights (N : Nat) (I : gM) : fX9_layWeights N [.ref 0] I = hX9_layWeights_0 N I := rfl

def hX9_greedy_0 (N : Nat) (I : gM) : gO := fX9_greedy_k0 N [some (.ref 0), none, none, none, none, none] [] I
def hX9_greedy_6 (N : Nat) (n6 : Nat) (v1 : Int32) (v2 : Int32) (v3 : Int32) (I : gM) : gO := s_lp (fX9_greedy_b6 N) n6 [some (.ref 0), some (.int v1), some (.int v2), some (.int v3), none, none] [] I
def hX9_greedy_22 (N : Nat) (n6 : Nat) (n22 : Nat) (v1 : Int32) (v2 : Int32) (v3 : Int32) (v4 : Int32) (v5 : Int32) (I : gM) : gO := s_lp (fX9_greedy_b22 N (s_lp (fX9_greedy_b6 N) n6)) n22 [some (.ref 0), some (.int v1), some (.int v2), some (.int v3), some (.int v4), some (.int v5)] [] I
def hX9_greedy_120 (N : Nat) (n6 : Nat) (v1 : Int32) (v2 : Int32) (v3 : Int32) (I : gM) : gO := fX9_greedy_k120 N (s_lp (fX9_greedy_b6 N) n6) [some (.ref 0), some (.int v1), some (.int v2), some (.int v3), none, none] [] I
def hX9_greedy_70 (N : Nat) (n6 : Nat) (n22 : Nat) (v1 : Int32) (v2 : Int32) (v3 : Int32) (v4 : Int32) (v5 : Int32) (I : gM) : gO := fX9_greedy_k70 N (s_lp (fX9_greedy_b6 N) n6) (s_lp (fX9_greedy_b22 N (s_lp (fX9_greedy_b6 N) n6)) n22) [some (.ref 0), some (.int v1), some (.int v2), some (.int v3), some (.int v4), some (.int v5)] [] I
def hX9_greedy_65 (N : Nat) (n6 : Nat) (n22 : Nat) (v1 : Int32) (v2 : Int32) (v3 : Int32) (v5 : Int32) (I : gM) : gO := fX9_greedy_k65 N (s_lp (fX9_greedy_b6 N) n6) (s_lp (fX9_greedy_b22 N (s_lp (fX9_greedy_b6 N) n6)) n22) [some (.ref 0), some (.int v1), some (.int v2), some (.int v3), none, some (.int v5)] [] I
def hX9_greedy_72 (N : Nat) (n6 : Nat) (n22 : Nat) (v1 : Int32) (v2 : Int32) (v3 : Int32) (v5 : Int32) (s0 : Int32) (I : gM) : gO := fX9_greedy_k72 N (s_lp (fX9_greedy_b6 N) n6) (s_lp (fX9_greedy_b22 N (s_lp (fX9_greedy_b6 N) n6)) n22) [some (.ref 0), some (.int v1), some (.int v2), some (.int v3), none, some (.int v5)] [.int s0] I
theorem eX9_greedy_0 (N : Nat) (I : gM) : hX9_greedy_0 N I =
  hX9_greedy_6 N N 0 0 0 I := rfl
theorem eX9_greedy_6 (N : Nat) (n6 : Nat) (v1 : Int32) (v2 : Int32) (v3 : Int32) (I : gM) : hX9_greedy_6 N (n6 + 1) v1 v2 v3 I =
  ck 2746 1 <| if gc_ge v3 ((I 3 (nn 1))) = true then (some (.inl (some (.int v1)), I)) else (hX9_greedy_22 N n6 N v1 v2 v3 (-1) 0 I) := rfl
theorem eX9_greedy_6z (N : Nat) (v1 : Int32) (v2 : Int32) (v3 : Int32) (I : gM) : hX9_greedy_6 N 0 v1 v2 v3 I = none := rfl
theorem eX9_greedy_22 (N : Nat) (n6 : Nat) (n22 : Nat) (v1 : Int32) (v2 : Int32) (v3 : Int32) (v4 : Int32) (v5 : Int32) (I : gM) : hX9_greedy_22 N n6 (n22 + 1) v1 v2 v3 v4 v5 I =
  ck 2746 1 <| if gc_ge v5 ((I 3 (nn 1))) = true then (ck 14 v4 <| if gz_le ((I 12 (nn v4))) = true then (hX9_greedy_120 N n6 v1 ((v2 ||| (gb_shl 1 v4))) v3 I) else (ck 2746 (131 + v4) <| if gz_ne ((((I 3 ((nn (131 + v4))))) &&& v1)) = true then (hX9_greedy_120 N n6 v1 ((v2 ||| (gb_shl 1 v4))) v3 I) else (hX9_greedy_120 N n6 ((v1 ||| (gb_shl 1 v4))) ((v2 ||| (gb_shl 1 v4))) v3 I))) else (hI (fX9_has N [.int v2, .int v5] (gS [] I)) [] I fun x1 I1 => if gz_ne x1 = true then (hX9_greedy_70 N n6 n22 v1 v2 v3 v4 v5 I1) else (if gc_eq v4 (-1) = true then (hX9_greedy_65 N n6 n22 v1 v2 v3 v5 I1) else (ck 14 v5 <| ck 14 v4 <| if gc_le ((I1 12 (nn v5))) ((I1 12 (nn v4))) = true then (hX9_greedy_70 N n6 n22 v1 v2 v3 v4 v5 I1) else (hX9_greedy_65 N n6 n22 v1 v2 v3 v5 I1)))) := rfl
theorem eX9_greedy_22z (N : Nat) (n6 : Nat) (v1 : Int32) (v2 : Int32) (v3 : Int32) (v4 : Int32) (v5 : Int32) (I : gM) : hX9_greedy_22 N n6 0 v1 v2 v3 v4 v5 I = none := rfl
theorem eX9_greedy_120 (N : Nat) (n6 : Nat) (v1 : Int32) (v2 : Int32) (v3 : Int32) (I : gM) : hX9_greedy_120 N n6 v1 v2 v3 I =
  hX9_greedy_6 N n6 v1 v2 (v3 + 1) I := rfl
theorem eX9_greedy_70 (N : Nat) (n6 : Nat) (n22 : Nat) (v1 : Int32) (v2 : Int32) (v3 : Int32) (v4 : Int32) (v5 : Int32) (I : gM) : hX9_greedy_70 N n6 n22 v1 v2 v3 v4 v5 I =
  hX9_greedy_72 N n6 n22 v1 v2 v3 v5 v4 I := rfl
theorem eX9_greedy_65 (N : Nat) (n6 : Nat) (n22 : Nat) (v1 : Int32) (v2 : Int32) (v3 : Int32) (v5 : Int32) (I : gM) : hX9_greedy_65 N n6 n22 v1 v2 v3 v5 I =
  hX9_greedy_72 N n6 n22 v1 v2 v3 v5 v5 I := rfl
theorem eX9_greedy_72 (N : Nat) (n6 : Nat) (n22 : Nat) (v1 : Int32) (v2 : Int32) (v3 : Int32) (v5 : Int32) (s0 : Int32) (I : gM) : hX9_greedy_72 N n6 n22 v1 v2 v3 v5 s0 I =
  hX9_greedy_22 N n6 n22 v1 v2 v3 s0 (v5 + 1) I := rfl
theorem eX9_greedy (N : Nat) (I : gM) : fX9_greedy N [.ref 0] I = hX9_greedy_0 N I := rfl

def hX9_hasRival_0 (N : Nat) (v1 : Int32) (I : gM) : gO := fX9_hasRival_k0 N [some (.ref 0), some (.int v1), none, none] [] I
def hX9_hasRival_4 (N : Nat) (n4 : Nat) (v1 : Int32) (v2 : Int32) (v3 : Int32) (I : gM) : gO := s_lp (fX9_hasRival_b4 N) n4 [some (.ref 0), some (.int v1), some (.int v2), some (.int v3)] [] I
def hX9_hasRival_45 (N : Nat) (n4 : Nat) (v1 : Int32) (v3 : Int32) (s0 : Int32) (I : gM) : gO := fX9_hasRival_k45 N (s_lp (fX9_hasRival_b4 N) n4) [some (.ref 0), some (.int v1), none, some (.int v3)] [.int s0] I
def hX9_hasRival_46 (N : Nat) (n4 : Nat) (v1 : Int32) (v3 : Int32) (s0 : Int32) (s1 : Int32) (I : gM) : gO := fX9_hasRival_k46 N (s_lp (fX9_hasRival_b4 N) n4) [some (.ref 0), some (.int v1), none, some (.int v3)] [.int s1, .int s0] I
theorem eX9_hasRival_0 (N : Nat) (v1 : Int32) (I : gM) : hX9_hasRival_0 N v1 I =
  hX9_hasRival_4 N N v1 0 0 I := rfl
theorem eX9_hasRival_4 (N : Nat) (n4 : Nat) (v1 : Int32) (v2 : Int32) (v3 : Int32) (I : gM) : hX9_hasRival_4 N (n4 + 1) v1 v2 v3 I =
  ck 2746 1 <| if gc_ge v3 ((I 3 (nn 1))) = true then (if v2 = 0 ∨ v2 = 1 then some (.inl (some (.int v2)), I) else none) else (ck 2746 (131 + v1) <| hI (fX9_has N [.int ((I 3 ((nn (131 + v1))))), .int v3] (gS [] I)) [] I fun x1 I1 => if gz_eq x1 = true then (hX9_hasRival_45 N n4 v1 v3 v2 I1) else (ck 14 v3 <| if gz_le ((I1 12 (nn v3))) = true then (hX9_hasRival_45 N n4 v1 v3 v2 I1) else (hX9_hasRival_46 N n4 v1 v3 v2 1 I1))) := rfl
theorem eX9_hasRival_4z (N : Nat) (v1 : Int32) (v2 : Int32) (v3 : Int32) (I : gM) : hX9_hasRival_4 N 0 v1 v2 v3 I = none := rfl
theorem eX9_hasRival_45 (N : Nat) (n4 : Nat) (v1 : Int32) (v3 : Int32) (s0 : Int32) (I : gM) : hX9_hasRival_45 N n4 v1 v3 s0 I =
  hX9_hasRival_46 N n4 v1 v3 s0 0 I := rfl
theorem eX9_hasRival_46 (N : Nat) (n4 : Nat) (v1 : Int32) (v3 : Int32) (s0 : Int32) (s1 : Int32) (I : gM) : hX9_hasRival_46 N n4 v1 v3 s0 s1 I =
  hX9_hasRival_4 N n4 v1 (s0 ||| s1) (v3 + 1) I := rfl
theorem eX9_hasRival (N : Nat) (v1 : Int32) (I : gM) : fX9_hasRival N [.ref 0, .int v1] I = hX9_hasRival_0 N v1 I := rfl

def hX9_grown_0 (N : Nat) (v0 : Int32) (v1 : Int32) (v2 : Int32) (I : gM) : gO := fX9_grown_k0 N [some (.int v0), some (.int v1), some (.int v2)] [] I
theorem eX9_grown_0 (N : Nat) (v0 : Int32) (v1 : Int32) (v2 : Int32) (I : gM) : hX9_grown_0 N v0 v1 v2 I =
  if v2 = 0 then none else if v2 = 0 then none else some (.inl (some (.int ((((gb_div (((v0 + 1) * v1)) v2)) - ((gb_div (v0 * v1) v2)))))), I) := rfl
theorem eX9_grown (N : Nat) (v0 : Int32) (v1 : Int32) (v2 : Int32) (I : gM) : fX9_grown N [.int v0, .int v1, .int v2] I = hX9_grown_0 N v0 v1 v2 I := rfl

def hX9_arrive_0 (N : Nat) (v1 : Int32) (v2 : Int32) (I : gM) : gO := fX9_arrive_k0 N [some (.ref 0), some (.int v1), some (.int v2), none, none] [] I
def hX9_arrive_5 (N : Nat) (n5 : Nat) (v1 : Int32) (v2 : Int32) (v3 : Int32) (v4 : Int32) (I : gM) : gO := s_lp (fX9_arrive_b5 N) n5 [some (.ref 0), some (.int v1), some (.int v2), some (.int v3), some (.int v4)] [] I
def hX9_arrive_72 (N : Nat) (n5 : Nat) (v1 : Int32) (v2 : Int32) (v3 : Int32) (v4 : Int32) (I : gM) : gO := fX9_arrive_k72 N (s_lp (fX9_arrive_b5 N) n5) [some (.ref 0), some (.int v1), some (.int v2), some (.int v3), some (.int v4)] [] I
theorem eX9_arrive_0 (N : Nat) (v1 : Int32) (v2 : Int32) (I : gM) : hX9_arrive_0 N v1 v2 I =
  hX9_arrive_5 N N v1 v2 0 0 I := rfl
theorem eX9_arrive_5 (N : Nat) (n5 : Nat) (v1 : Int32) (v2 : Int32) (v3 : Int32) (v4 : Int32) (I : gM) : hX9_arrive_5 N (n5 + 1) v1 v2 v3 v4 I =
  if gc_ge v4 v2 = true then (some (.inl (some (.int v3)), I)) else (hV (fX9_count N [.ref 0, .int v1, .int 4, .int 1] (gS (rg 0 18) I)) (rg 0 18) I fun I1 => ck 2746 245 <| if gc_ne ((I1 3 (nn 245))) 500 = true then (ck 2746 7 <| hI (fX9_flowPart N [.ref 0, .int v1, .int 0] (gS (rg 0 18) I1)) (rg 0 18) I1 fun x2 I2 => hI (fX9_flowPart N [.ref 0, .int v1, .int 0] (gS (rg 0 18) I2)) (rg 0 18) I2 fun x3 I3 => hV (fX9_come N [.ref 0, .int v1, .int ((I1 3 (nn 7))), .int 0, .int (gb_shl 1 x2), .int x3] (gS (rg 0 18) I3)) (rg 0 18) I3 fun I4 => hX9_arrive_72 N n5 v1 v2 (v3 + 1) v4 I4) else (hV (fX9_count N [.ref 0, .int v1, .int 5, .int 1] (gS (rg 0 18) I1)) (rg 0 18) I1 fun I5 => hX9_arrive_72 N n5 v1 v2 v3 v4 I5)) := rfl
theorem eX9_arrive_5z (N : Nat) (v1 : Int32) (v2 : Int32) (v3 : Int32) (v4 : Int32) (I : gM) : hX9_arrive_5 N 0 v1 v2 v3 v4 I = none := rfl
theorem eX9_arrive_72 (N : Nat) (n5 : Nat) (v1 : Int32) (v2 : Int32) (v3 : Int32) (v4 : Int32) (I : gM) : hX9_arrive_72 N n5 v1 v2 v3 v4 I =
  hX9_arrive_5 N n5 v1 v2 v3 (v4 + 1) I := rfl
theorem eX9_arrive (N : Nat) (v1 : Int32) (v2 : Int32) (I : gM) : fX9_arrive N [.ref 0, .int v1, .int v2] I = hX9_arrive_0 N v1 v2 I := rfl

def hX9_arrivals_0 (N : Nat) (I : gM) : gO := fX9_arrivals_k0 N [some (.ref 0), none, none, none] [] I
def hX9_arrivals_2 (N : Nat) (n2 : Nat) (v1 : Int32) (I : gM) : gO := s_lp (fX9_arrivals_b2 N) n2 [some (.ref 0), some (.int v1), none, none] [] I
theorem eX9_arrivals_0 (N : Nat) (I : gM) : hX9_arrivals_0 N I =
  hX9_arrivals_2 N N 0 I := rfl
theorem eX9_arrivals_2 (N : Nat) (n2 : Nat) (v1 : Int32) (I : gM) : hX9_arrivals_2 N (n2 + 1) v1 I =
  ck 2746 2 <| if gc_ge v1 ((I 3 (nn 2))) = true then (some (.inl none, I)) else (ck 2746 7 <| hI (fX9_flowPart N [.ref 0, .int v1, .int 2] (gS (rg 0 18) I)) (rg 0 18) I fun x1 I1 => hI (fX9_grown N [.int ((I 3 (nn 7))), .int x1, .int 100] (gS [] I1)) [] I1 fun x2 I2 => hI (fX9_arrive N [.ref 0, .int v1, .int x2] (gS (rg 0 18) I2)) (rg 0 18) I2 fun x3 I3 => hI (fX9_flowPart N [.ref 0, .int v1, .int 0] (gS (rg 0 18) I3)) (rg 0 18) I3 fun x4 I4 => hI (fX9_flowPart N [.ref 0, .int v1, .int 1] (gS (rg 0 18) I4)) (rg 0 18) I4 fun x5 I5 => ck 2746 ((((145 + (10 * x4))) + x5)) <| ck 2746 7 <| hI (fX9_flowPart N [.ref 0, .int v1, .int 2] (gS (rg 0 18) I5)) (rg 0 18) I5 fun x6 I6 => ck 2746 4 <| hI (fX9_grown N [.int ((I5 3 (nn 7))), .int ((x6 * ((100 + ((I6 3 (nn 4))))))), .int 10000] (gS [] I6)) [] I6 fun x7 I7 => ck 2746 ((((145 + (10 * x4))) + x5)) <| hX9_arrivals_2 N n2 (v1 + 1) (gU I7 3 ((nn ((((145 + (10 * x4))) + x5)))) ((((I5 3 ((nn ((((145 + (10 * x4))) + x5)))))) + x7)))) := rfl
theorem eX9_arrivals_2z (N : Nat) (v1 : Int32) (I : gM) : hX9_arrivals_2 N 0 v1 I = none := rfl
theorem eX9_arrivals (N : Nat) (I : gM) : fX9_arrivals N [.ref 0] I = hX9_arrivals_0 N I := rfl

def hX9_take_0 (N : Nat) (v1 : Int32) (I : gM) : gO := fX9_take_k0 N [some (.ref 0), some (.int v1), none, none, none, none, none] [] I
def hX9_take_25 (N : Nat) (n25 : Nat) (v1 : Int32) (v2 : Int32) (v3 : Int32) (v4 : Int32) (v5 : Int32) (I : gM) : gO := s_lp (fX9_take_b25 N) n25 [some (.ref 0), some (.int v1), some (.int v2), some (.int v3), some (.int v4), some (.int v5), none] [] I
def hX9_take_141 (N : Nat) (v1 : Int32) (v2 : Int32) (v3 : Int32) (I : gM) : gO := fX9_take_k141 N [some (.ref 0), some (.int v1), some (.int v2), some (.int v3), none, none, none] [] I
def hX9_take_135 (N : Nat) (n25 : Nat) (v1 : Int32) (v2 : Int32) (v3 : Int32) (v4 : Int32) (v5 : Int32) (I : gM) : gO := fX9_take_k135 N (s_lp (fX9_take_b25 N) n25) [some (.ref 0), some (.int v1), some (.int v2), some (.int v3), some (.int v4), some (.int v5), none] [] I
def hX9_take_70 (N : Nat) (n25 : Nat) (n70 : Nat) (v1 : Int32) (v2 : Int32) (v3 : Int32) (v4 : Int32) (v5 : Int32) (v6 : Int32) (I : gM) : gO := s_lp (fX9_take_b70 N (s_lp (fX9_take_b25 N) n25)) n70 [some (.ref 0), some (.int v1), some (.int v2), some (.int v3), some (.int v4), some (.int v5), some (.int v6)] [] I
theorem eX9_take_0 (N : Nat) (v1 : Int32) (I : gM) : hX9_take_0 N v1 I =
  hI (fX9_linkPart N [.ref 0, .int v1, .int 0] (gS (rg 0 18) I)) (rg 0 18) I fun x1 I1 => ck 14 v1 <| hI (fX9_linkPart N [.ref 0, .int v1, .int 2] (gS (rg 0 18) I1)) (rg 0 18) I1 fun x2 I2 => hX9_take_25 N N v1 x1 ((I1 11 (nn v1))) x2 0 I2 := rfl
theorem eX9_take_25 (N : Nat) (n25 : Nat) (v1 : Int32) (v2 : Int32) (v3 : Int32) (v4 : Int32) (v5 : Int32) (I : gM) : hX9_take_25 N (n25 + 1) v1 v2 v3 v4 v5 I =
  ck 2746 245 <| if gc_ge v5 ((I 3 (nn 245))) = true then (hX9_take_141 N v1 v2 v3 I) else (if gz_le v4 = true then (hX9_take_141 N v1 v2 v3 I) else (ck 500 v5 <| if gz_ne ((I 7 (nn v5))) = true then (hX9_take_135 N n25 v1 v2 v3 v4 v5 I) else (hI (fX9_isQueued N [.ref 0, .int v5, .int v2, .int v3] (gS (rg 0 18) I)) (rg 0 18) I fun x3 I3 => if gz_ne x3 = true then (hX9_take_70 N n25 N v1 v2 v3 v4 v5 0 I3) else (hX9_take_135 N n25 v1 v2 v3 v4 v5 I3)))) := rfl
theorem eX9_take_25z (N : Nat) (v1 : Int32) (v2 : Int32) (v3 : Int32) (v4 : Int32) (v5 : Int32) (I : gM) : hX9_take_25 N 0 v1 v2 v3 v4 v5 I = none := rfl
theorem eX9_take_141 (N : Nat) (v1 : Int32) (v2 : Int32) (v3 : Int32) (I : gM) : hX9_take_141 N v1 v2 v3 I =
  hI (fX9_linkPart N [.ref 0, .int v1, .int 2] (gS (rg 0 18) I)) (rg 0 18) I fun x4 I4 => ck 2746 ((((145 + (10 * v2))) + v3)) <| ck 14 v1 <| ck 2746 ((((145 + (10 * v2))) + v3)) <| ck 14 v1 <| ck 2746 ((((145 + (10 * v2))) + v3)) <| some (.inl none, (gU (gU I4 15 (nn v1) ((gj_min x4 ((I4 3 ((nn ((((145 + (10 * v2))) + v3))))))))) 3 ((nn ((((145 + (10 * v2))) + v3)))) ((((I4 3 ((nn ((((145 + (10 * v2))) + v3)))))) - (((gU I4 15 (nn v1) ((gj_min x4 ((I4 3 ((nn ((((145 + (10 * v2))) + v3))))))))) 15 (nn v1))))))) := rfl
theorem eX9_take_135 (N : Nat) (n25 : Nat) (v1 : Int32) (v2 : Int32) (v3 : Int32) (v4 : Int32) (v5 : Int32) (I : gM) : hX9_take_135 N n25 v1 v2 v3 v4 v5 I =
  hX9_take_25 N n25 v1 v2 v3 v4 (v5 + 1) I := rfl
theorem eX9_take_70 (N : Nat) (n25 : Nat) (n70 : Nat) (v1 : Int32) (v2 : Int32) (v3 : Int32) (v4 : Int32) (v5 : Int32) (v6 : Int32) (I : gM) : hX9_take_70 N n25 (n70 + 1) v1 v2 v3 v4 v5 v6 I =
  if gc_ge v6 5 = true then (ck 70 (I 0 28) <| ck 500 v5 <| hX9_take_135 N n25 v1 v2 v3 ((v4 + (-1))) v5 (gU (gU (gU I 14 ((nn (I 0 28))) v1) 0 28 (((I 0 28) + 1))) 7 (nn v5) ((if (1 : Nat) = 0 then 1 else vp_nar .boolean 1)))) else (hI (fX9_packetPart N [.ref 0, .int v5, .int v6] (gS (rg 0 18) I)) (rg 0 18) I fun x5 I5 => ck 350 ((((5 * (I 0 28))) + v6)) <| hX9_take_70 N n25 n70 v1 v2 v3 v4 v5 (v6 + 1) (gU I5 13 ((nn ((((5 * (I 0 28))) + v6)))) x5)) := rfl
theorem eX9_take_70z (N : Nat) (n25 : Nat) (v1 : Int32) (v2 : Int32) (v3 : Int32) (v4 : Int32) (v5 : Int32) (v6 : Int32) (I : gM) : hX9_take_70 N n25 0 v1 v2 v3 v4 v5 v6 I = none := rfl
theorem eX9_take (N : Nat) (v1 : Int32) (I : gM) : fX9_take N [.ref 0, .int v1] I = hX9_take_0 N v1 I := rfl

def hX9_deliver_0 (N : Nat) (v1 : Int32) (v2 : Int32) (I : gM) : gO := fX9_deliver_k0 N [some (.ref 0), some (.int v1), some (.int v2)] [] I
theorem eX9_deliver_0 (N : Nat) (v1 : Int32) (v2 : Int32) (I : gM) : hX9_deliver_0 N v1 v2 I =
  hV (fX9_count N [.ref 0, .int v1, .int 6, .int 1] (gS (rg 0 18) I)) (rg 0 18) I fun I1 => hV (fX9_count N [.ref 0, .int v1, .int 9, .int v2] (gS (rg 0 18) I1)) (rg 0 18) I1 fun I2 => hI (fX9_flowPart N [.ref 0, .int v1, .int 10] (gS (rg 0 18) I2)) (rg 0 18) I2 fun x3 I3 => ck 2746 ((((65 + (11 * v1))) + 10)) <| some (.inl none, (gU I3 3 ((nn ((((65 + (11 * v1))) + 10)))) (gj_max x3 v2))) := rfl
theorem eX9_deliver (N : Nat) (v1 : Int32) (v2 : Int32) (I : gM) : fX9_deliver N [.ref 0, .int v1, .int v2] I = hX9_deliver_0 N v1 v2 I := rfl

def hX9_land_0 (N : Nat) (v1 : Int32) (I : gM) : gO := fX9_land_k0 N [some (.ref 0), some (.int v1), none, none, none] [] I
def hX9_land_108 (N : Nat) (v2 : Int32) (v3 : Int32) (v4 : Int32) (s1 : Int32) (s2 : Int32) (s3 : Int32) (I : gM) : gO := fX9_land_k108 N [some (.ref 0), none, some (.int v2), some (.int v3), some (.int v4)] [.int s3, .int s2, .int s1, .ref 0] I
theorem eX9_land_0 (N : Nat) (v1 : Int32) (I : gM) : hX9_land_0 N v1 I =
  ck 350 (((5 * v1) + 0)) <| ck 70 v1 <| hI (fX9_linkPart N [.ref 0, .int ((I 14 (nn v1))), .int 1] (gS (rg 0 18) I)) (rg 0 18) I fun x1 I1 => ck 70 v1 <| ck 2746 ((((9 + ((4 * ((I1 14 (nn v1))))))) + 3)) <| ck 2746 ((((9 + ((4 * ((I1 14 (nn v1))))))) + 3)) <| hI (fX9_flowPart N [.ref 0, .int ((I 13 ((nn (((5 * v1) + 0)))))), .int 1] (gS (rg 0 18) (gU I1 3 ((nn ((((9 + ((4 * ((I1 14 (nn v1))))))) + 3)))) ((((I1 3 ((nn ((((9 + ((4 * ((I1 14 (nn v1))))))) + 3)))))) + 1))))) (rg 0 18) (gU I1 3 ((nn ((((9 + ((4 * ((I1 14 (nn v1))))))) + 3)))) ((((I1 3 ((nn ((((9 + ((4 * ((I1 14 (nn v1))))))) + 3)))))) + 1))) fun x2 I2 => if gc_ne x1 x2 = true then (ck 350 (((5 * v1) + 3)) <| hI (fX9_has N [.int ((I2 13 ((nn (((5 * v1) + 3)))))), .int x1] (gS [] I2)) [] I2 fun x3 I3 => if gz_eq x3 = true then (hX9_land_108 N (5 * v1) ((I 13 ((nn (((5 * v1) + 0)))))) x1 ((I 13 ((nn (((5 * v1) + 0)))))) 8 0 I3) else (hX9_land_108 N (5 * v1) ((I 13 ((nn (((5 * v1) + 0)))))) x1 ((I 13 ((nn (((5 * v1) + 0)))))) 8 1 I3)) else (ck 2746 7 <| ck 350 (((5 * v1) + 1)) <| hV (fX9_deliver N [.ref 0, .int ((I 13 ((nn (((5 * v1) + 0)))))), .int ((((((I2 3 (nn 7))) + 1)) - ((I2 13 ((nn (((5 * v1) + 1))))))))] (gS (rg 0 18) I2)) (rg 0 18) I2 fun I4 => some (.inl none, I4)) := rfl
theorem eX9_land_108 (N : Nat) (v2 : Int32) (v3 : Int32) (v4 : Int32) (s1 : Int32) (s2 : Int32) (s3 : Int32) (I : gM) : hX9_land_108 N v2 v3 v4 s1 s2 s3 I =
  hV (fX9_count N [.ref 0, .int s1, .int s2, .int s3] (gS (rg 0 18) I)) (rg 0 18) I fun I5 => ck 350 (v2 + 1) <| ck 350 (v2 + 2) <| ck 350 (v2 + 3) <| hV (fX9_come N [.ref 0, .int v3, .int ((I5 13 ((nn (v2 + 1))))), .int ((((I5 13 ((nn (v2 + 2))))) + 1)), .int ((((I5 13 ((nn (v2 + 3))))) ||| (gb_shl 1 v4))), .int v4] (gS (rg 0 18) I5)) (rg 0 18) I5 fun I6 => some (.inl none, I6) := rfl
theorem eX9_land (N : Nat) (v1 : Int32) (I : gM) : fX9_land N [.ref 0, .int v1] I = hX9_land_0 N v1 I := rfl

def hX9_transmit_0 (N : Nat) (v1 : Int32) (I : gM) : gO := fX9_transmit_k0 N [some (.ref 0), some (.int v1), none, none] [] I
def hX9_transmit_11 (N : Nat) (n11 : Nat) (v1 : Int32) (v2 : Int32) (I : gM) : gO := s_lp (fX9_transmit_b11 N) n11 [some (.ref 0), some (.int v1), some (.int v2), none] [] I
def hX9_transmit_47 (N : Nat) (n47 : Nat) (v1 : Int32) (v3 : Int32) (I : gM) : gO := s_lp (fX9_transmit_b47 N) n47 [some (.ref 0), some (.int v1), none, some (.int v3)] [] I
def hX9_transmit_34 (N : Nat) (n11 : Nat) (v1 : Int32) (v2 : Int32) (I : gM) : gO := fX9_transmit_k34 N (s_lp (fX9_transmit_b11 N) n11) [some (.ref 0), some (.int v1), some (.int v2), none] [] I
def hX9_transmit_68 (N : Nat) (n68 : Nat) (v1 : Int32) (v3 : Int32) (I : gM) : gO := s_lp (fX9_transmit_b68 N) n68 [some (.ref 0), some (.int v1), none, some (.int v3)] [] I
def hX9_transmit_135 (N : Nat) (n68 : Nat) (v1 : Int32) (v3 : Int32) (I : gM) : gO := fX9_transmit_k135 N (s_lp (fX9_transmit_b68 N) n68) [some (.ref 0), some (.int v1), none, some (.int v3)] [] I
theorem eX9_transmit_0 (N : Nat) (v1 : Int32) (I : gM) : hX9_transmit_0 N v1 I =
  hV (fX9_stayAll N [.ref 0] (gS (rg 0 18) (gU I 0 28 0))) (rg 0 18) (gU I 0 28 0) fun I1 => hX9_transmit_11 N N v1 0 I1 := rfl
theorem eX9_transmit_11 (N : Nat) (n11 : Nat) (v1 : Int32) (v2 : Int32) (I : gM) : hX9_transmit_11 N (n11 + 1) v1 v2 I =
  ck 2746 1 <| if gc_ge v2 ((I 3 (nn 1))) = true then (hI (fX9_closeUp N [.ref 0] (gS (rg 0 18) I)) (rg 0 18) I fun x2 I2 => hX9_transmit_47 N N v1 0 I2) else (hI (fX9_has N [.int v1, .int v2] (gS [] I)) [] I fun x3 I3 => if gz_eq x3 = true then (hX9_transmit_34 N n11 v1 v2 I3) else (hV (fX9_take N [.ref 0, .int v2] (gS (rg 0 18) I3)) (rg 0 18) I3 fun I4 => hX9_transmit_34 N n11 v1 v2 I4)) := rfl
theorem eX9_transmit_11z (N : Nat) (v1 : Int32) (v2 : Int32) (I : gM) : hX9_transmit_11 N 0 v1 v2 I = none := rfl
theorem eX9_transmit_47 (N : Nat) (n47 : Nat) (v1 : Int32) (v3 : Int32) (I : gM) : hX9_transmit_47 N (n47 + 1) v1 v3 I =
  if gc_ge v3 (I 0 28) = true then (hX9_transmit_68 N N v1 0 I) else (hV (fX9_land N [.ref 0, .int v3] (gS (rg 0 18) I)) (rg 0 18) I fun I5 => hX9_transmit_47 N n47 v1 (v3 + 1) I5) := rfl
theorem eX9_transmit_47z (N : Nat) (v1 : Int32) (v3 : Int32) (I : gM) : hX9_transmit_47 N 0 v1 v3 I = none := rfl
theorem eX9_transmit_34 (N : Nat) (n11 : Nat) (v1 : Int32) (v2 : Int32) (I : gM) : hX9_transmit_34 N n11 v1 v2 I =
  hX9_transmit_11 N n11 v1 (v2 + 1) I := rfl
theorem eX9_transmit_68 (N : Nat) (n68 : Nat) (v1 : Int32) (v3 : Int32) (I : gM) : hX9_transmit_68 N (n68 + 1) v1 v3 I =
  ck 2746 1 <| if gc_ge v3 ((I 3 (nn 1))) = true then (some (.inl none, I)) else (hI (fX9_has N [.int v1, .int v3] (gS [] I)) [] I fun x6 I6 => if gz_eq x6 = true then (hX9_transmit_135 N n68 v1 v3 I6) else (hI (fX9_linkPart N [.ref 0, .int v3, .int 1] (gS (rg 0 18) I6)) (rg 0 18) I6 fun x7 I7 => ck 14 v3 <| if gc_eq x7 ((I7 11 (nn v3))) = true then (hX9_transmit_135 N n68 v1 v3 I7) else (hI (fX9_linkPart N [.ref 0, .int v3, .int 1] (gS (rg 0 18) I7)) (rg 0 18) I7 fun x8 I8 => ck 14 v3 <| ck 2746 ((((145 + (10 * x8))) + ((I8 11 (nn v3))))) <| ck 14 v3 <| ck 2746 ((((145 + (10 * x8))) + ((I8 11 (nn v3))))) <| hX9_transmit_135 N n68 v1 v3 (gU I8 3 ((nn ((((145 + (10 * x8))) + ((I8 11 (nn v3))))))) ((((I8 3 ((nn ((((145 + (10 * x8))) + ((I8 11 (nn v3))))))))) + ((I8 15 (nn v3))))))))) := rfl
theorem eX9_transmit_68z (N : Nat) (v1 : Int32) (v3 : Int32) (I : gM) : hX9_transmit_68 N 0 v1 v3 I = none := rfl
theorem eX9_transmit_135 (N : Nat) (n68 : Nat) (v1 : Int32) (v3 : Int32) (I : gM) : hX9_transmit_135 N n68 v1 v3 I =
  hX9_transmit_68 N n68 v1 (v3 + 1) I := rfl
theorem eX9_transmit (N : Nat) (v1 : Int32) (I : gM) : fX9_transmit N [.ref 0, .int v1] I = hX9_transmit_0 N v1 I := rfl

def hX9_expire_0 (N : Nat) (I : gM) : gO := fX9_expire_k0 N [some (.ref 0), none, none, none] [] I
def hX9_expire_6 (N : Nat) (n6 : Nat) (v1 : Int32) (I : gM) : gO := s_lp (fX9_expire_b6 N) n6 [some (.ref 0), some (.int v1), none, none] [] I
def hX9_expire_65 (N : Nat) (n6 : Nat) (v1 : Int32) (v2 : Int32) (s1 : Int32) (I : gM) : gO := fX9_expire_k65 N (s_lp (fX9_expire_b6 N) n6) [some (.ref 0), some (.int v1), some (.int v2), none] [.int s1, .ref 7] I
def hX9_expire_66 (N : Nat) (n6 : Nat) (v1 : Int32) (v2 : Int32) (s1 : Int32) (s2 : Int32) (I : gM) : gO := fX9_expire_k66 N (s_lp (fX9_expire_b6 N) n6) [some (.ref 0), some (.int v1), some (.int v2), none] [.int s2, .int s1, .ref 7] I
def hX9_expire_85 (N : Nat) (n6 : Nat) (v1 : Int32) (s1 : Int32) (s2 : Int32) (s3 : Int32) (I : gM) : gO := fX9_expire_k85 N (s_lp (fX9_expire_b6 N) n6) [some (.ref 0), some (.int v1), none, none] [.int s3, .int s2, .int s1, .ref 0] I
theorem eX9_expire_0 (N : Nat) (I : gM) : hX9_expire_0 N I =
  hV (fX9_stayAll N [.ref 0] (gS (rg 0 18) I)) (rg 0 18) I fun I1 => hX9_expire_6 N N 0 I1 := rfl
theorem eX9_expire_6 (N : Nat) (n6 : Nat) (v1 : Int32) (I : gM) : hX9_expire_6 N (n6 + 1) v1 I =
  ck 2746 245 <| if gc_ge v1 ((I 3 (nn 245))) = true then (hI (fX9_closeUp N [.ref 0] (gS (rg 0 18) I)) (rg 0 18) I fun x2 I2 => some (.inl none, I2)) else (hI (fX9_packetPart N [.ref 0, .int v1, .int 0] (gS (rg 0 18) I)) (rg 0 18) I fun x3 I3 => hI (fX9_flowPart N [.ref 0, .int x3, .int 3] (gS (rg 0 18) I3)) (rg 0 18) I3 fun x4 I4 => if gz_le x4 = true then (hX9_expire_65 N n6 v1 x3 v1 I4) else (ck 2746 7 <| hI (fX9_packetPart N [.ref 0, .int v1, .int 1] (gS (rg 0 18) I4)) (rg 0 18) I4 fun x5 I5 => if gc_lt ((((((I4 3 (nn 7))) + 1)) - x5)) x4 = true then (hX9_expire_65 N n6 v1 x3 v1 I5) else (hX9_expire_66 N n6 v1 x3 v1 1 I5))) := rfl
theorem eX9_expire_6z (N : Nat) (v1 : Int32) (I : gM) : hX9_expire_6 N 0 v1 I = none := rfl
theorem eX9_expire_65 (N : Nat) (n6 : Nat) (v1 : Int32) (v2 : Int32) (s1 : Int32) (I : gM) : hX9_expire_65 N n6 v1 v2 s1 I =
  hX9_expire_66 N n6 v1 v2 s1 0 I := rfl
theorem eX9_expire_66 (N : Nat) (n6 : Nat) (v1 : Int32) (v2 : Int32) (s1 : Int32) (s2 : Int32) (I : gM) : hX9_expire_66 N n6 v1 v2 s1 s2 I =
  ck 500 s1 <| ck 500 v1 <| if gz_eq (((gU I 7 (nn s1) ((if (1 : Nat) = 0 then s2 else vp_nar .boolean s2))) 7 (nn v1))) = true then (hX9_expire_85 N n6 v1 v2 7 0 (gU I 7 (nn s1) ((if (1 : Nat) = 0 then s2 else vp_nar .boolean s2)))) else (hX9_expire_85 N n6 v1 v2 7 1 (gU I 7 (nn s1) ((if (1 : Nat) = 0 then s2 else vp_nar .boolean s2)))) := rfl
theorem eX9_expire_85 (N : Nat) (n6 : Nat) (v1 : Int32) (s1 : Int32) (s2 : Int32) (s3 : Int32) (I : gM) : hX9_expire_85 N n6 v1 s1 s2 s3 I =
  hV (fX9_count N [.ref 0, .int s1, .int s2, .int s3] (gS (rg 0 18) I)) (rg 0 18) I fun I6 => hX9_expire_6 N n6 (v1 + 1) I6 := rfl
theorem eX9_expire (N : Nat) (I : gM) : fX9_expire N [.ref 0] I = hX9_expire_0 N I := rfl

def hX9_isNode_0 (N : Nat) (v1 : Int32) (I : gM) : gO := fX9_isNode_k0 N [some (.ref 0), some (.int v1)] [] I
theorem eX9_isNode_0 (N : Nat) (v1 : Int32) (I : gM) : hX9_isNode_0 N v1 I =
  ck 2746 0 <| hI (fX9_in N [.long ((v1).toInt64), .long 0, .long (((((I 3 (nn 0))) - 1)).toInt64)] (gS [] I)) [] I fun x1 I1 => if x1 = 0 ∨ x1 = 1 then some (.inl (some (.int x1)), I1) else none := rfl
theorem eX9_isNode (N : Nat) (v1 : Int32) (I : gM) : fX9_isNode N [.ref 0, .int v1] I = hX9_isNode_0 N v1 I := rfl

def hX9_isLink_0 (N : Nat) (v1 : Int32) (I : gM) : gO := fX9_isLink_k0 N [some (.ref 0), some (.int v1)] [] I
theorem eX9_isLink_0 (N : Nat) (v1 : Int32) (I : gM) : hX9_isLink_0 N v1 I =
  ck 2746 1 <| hI (fX9_in N [.long ((v1).toInt64), .long 0, .long (((((I 3 (nn 1))) - 1)).toInt64)] (gS [] I)) [] I fun x1 I1 => if x1 = 0 ∨ x1 = 1 then some (.inl (some (.int x1)), I1) else none := rfl
theorem eX9_isLink (N : Nat) (v1 : Int32) (I : gM) : fX9_isLink N [.ref 0, .int v1] I = hX9_isLink_0 N v1 I := rfl

def hX9_isFlow_0 (N : Nat) (v1 : Int32) (I : gM) : gO := fX9_isFlow_k0 N [some (.ref 0), some (.int v1)] [] I
theorem eX9_isFlow_0 (N : Nat) (v1 : Int32) (I : gM) : hX9_isFlow_0 N v1 I =
  ck 2746 2 <| hI (fX9_in N [.long ((v1).toInt64), .long 0, .long (((((I 3 (nn 2))) - 1)).toInt64)] (gS [] I)) [] I fun x1 I1 => if x1 = 0 ∨ x1 = 1 then some (.inl (some (.int x1)), I1) else none := rfl
theorem eX9_isFlow (N : Nat) (v1 : Int32) (I : gM) : fX9_isFlow N [.ref 0, .int v1] I = hX9_isFlow_0 N v1 I := rfl

def hX9_areNodes_0 (N : Nat) (v1 : Int32) (v2 : Int32) (I : gM) : gO := fX9_areNodes_k0 N [some (.ref 0), some (.int v1), some (.int v2)] [] I
theorem eX9_areNodes_0 (N : Nat) (v1 : Int32) (v2 : Int32) (I : gM) : hX9_areNodes_0 N v1 v2 I =
  hI (fX9_isNode N [.ref 0, .int v1] (gS (rg 0 18) I)) (rg 0 18) I fun x1 I1 => if gz_eq x1 = true then (some (.inl (some (.int 0)), I1)) else (hI (fX9_isNode N [.ref 0, .int v2] (gS (rg 0 18) I1)) (rg 0 18) I1 fun x2 I2 => if gz_eq x2 = true then (some (.inl (some (.int 0)), I2)) else (some (.inl (some (.int 1)), I2))) := rfl
theorem eX9_areNodes (N : Nat) (v1 : Int32) (v2 : Int32) (I : gM) : fX9_areNodes N [.ref 0, .int v1, .int v2] I = hX9_areNodes_0 N v1 v2 I := rfl

def hX9_addLink_0 (N : Nat) (v1 : Int32) (v2 : Int32) (v3 : Int32) (I : gM) : gO := fX9_addLink_k0 N [some (.ref 0), some (.int v1), some (.int v2), some (.int v3)] [] I
def hX9_addLink_41 (N : Nat) (v1 : Int32) (v2 : Int32) (v3 : Int32) (I : gM) : gO := fX9_addLink_k41 N [some (.ref 0), some (.int v1), some (.int v2), some (.int v3)] [.ref 0] I
def hX9_addLink_42 (N : Nat) (v1 : Int32) (v2 : Int32) (v3 : Int32) (s1 : Int32) (I : gM) : gO := fX9_addLink_k42 N [some (.ref 0), some (.int v1), some (.int v2), some (.int v3)] [.int s1, .ref 0] I
def hX9_addLink_80 (N : Nat) (v1 : Int32) (v2 : Int32) (v3 : Int32) (I : gM) : gO := fX9_addLink_k80 N [some (.ref 0), some (.int v1), some (.int v2), some (.int v3)] [.ref 0] I
def hX9_addLink_81 (N : Nat) (v1 : Int32) (v2 : Int32) (v3 : Int32) (s1 : Int32) (I : gM) : gO := fX9_addLink_k81 N [some (.ref 0), some (.int v1), some (.int v2), some (.int v3)] [.int s1, .ref 0] I
theorem eX9_addLink_0 (N : Nat) (v1 : Int32) (v2 : Int32) (v3 : Int32) (I : gM) : hX9_addLink_0 N v1 v2 v3 I =
  hI (fX9_areNodes N [.ref 0, .int v1, .int v2] (gS (rg 0 18) (gU I 0 0 0))) (rg 0 18) (gU I 0 0 0) fun x1 I1 => hI (fX9_fails N [.ref 0, .int x1, .int 1] (gS (rg 0 18) I1)) (rg 0 18) I1 fun x2 I2 => if gz_ne x2 = true then (some (.inl (some (.int 0)), I2)) else (if gc_eq v1 v2 = true then (hX9_addLink_41 N v1 v2 v3 I2) else (hI (fX9_in N [.long ((v3).toInt64), .long 1, .long 5] (gS [] I2)) [] I2 fun x3 I3 => if gz_eq x3 = true then (hX9_addLink_41 N v1 v2 v3 I3) else (hX9_addLink_42 N v1 v2 v3 1 I3))) := rfl
theorem eX9_addLink_41 (N : Nat) (v1 : Int32) (v2 : Int32) (v3 : Int32) (I : gM) : hX9_addLink_41 N v1 v2 v3 I =
  hX9_addLink_42 N v1 v2 v3 0 I := rfl
theorem eX9_addLink_42 (N : Nat) (v1 : Int32) (v2 : Int32) (v3 : Int32) (s1 : Int32) (I : gM) : hX9_addLink_42 N v1 v2 v3 s1 I =
  hI (fX9_fails N [.ref 0, .int s1, .int 2] (gS (rg 0 18) I)) (rg 0 18) I fun x4 I4 => if gz_eq x4 = true then (hI (fX9_linkIn N [.ref 0, .int v1, .int v2] (gS [3] I4)) [3] I4 fun x5 I5 => if gc_ne x5 (-1) = true then (hX9_addLink_80 N v1 v2 v3 I5) else (ck 2746 1 <| if gc_ge ((I5 3 (nn 1))) 14 = true then (hX9_addLink_80 N v1 v2 v3 I5) else (hX9_addLink_81 N v1 v2 v3 1 I5))) else (some (.inl (some (.int 0)), I4)) := rfl
theorem eX9_addLink_80 (N : Nat) (v1 : Int32) (v2 : Int32) (v3 : Int32) (I : gM) : hX9_addLink_80 N v1 v2 v3 I =
  hX9_addLink_81 N v1 v2 v3 0 I := rfl
theorem eX9_addLink_81 (N : Nat) (v1 : Int32) (v2 : Int32) (v3 : Int32) (s1 : Int32) (I : gM) : hX9_addLink_81 N v1 v2 v3 s1 I =
  hI (fX9_fails N [.ref 0, .int s1, .int 3] (gS (rg 0 18) I)) (rg 0 18) I fun x6 I6 => if gz_eq x6 = true then (hV (fX9_record N [.ref 0] (gS (rg 0 18) I6)) (rg 0 18) I6 fun I7 => hV (fX9_layLink N [.ref 0, .int v1, .int v2, .int v3] (gS [3] I7)) [3] I7 fun I8 => ck 2746 1 <| some (.inl (some (.int ((((I8 3 (nn 1))) - 1)))), I8)) else (some (.inl (some (.int 0)), I6)) := rfl
theorem eX9_addLink (N : Nat) (v1 : Int32) (v2 : Int32) (v3 : Int32) (I : gM) : fX9_addLink N [.ref 0, .int v1, .int v2, .int v3] I = hX9_addLink_0 N v1 v2 v3 I := rfl

def hX9_become_0 (N : Nat) (v1 : Int32) (v2 : Int32) (I : gM) : gO := fX9_become_k0 N [some (.ref 0), some (.int v1), some (.int v2), none] [] I
theorem eX9_become_0 (N : Nat) (v1 : Int32) (v2 : Int32) (I : gM) : hX9_become_0 N v1 v2 I =
  hV (fX9_record N [.ref 0] (gS (rg 0 18) I)) (rg 0 18) I fun I1 => ck 2746 v1 <| ck 2746 v1 <| some (.inl (some (.int ((I1 3 (nn v1))))), (gU I1 3 (nn v1) v2)) := rfl
theorem eX9_become (N : Nat) (v1 : Int32) (v2 : Int32) (I : gM) : fX9_become N [.ref 0, .int v1, .int v2] I = hX9_become_0 N v1 v2 I := rfl

def hX9_setCapacity_0 (N : Nat) (v1 : Int32) (v2 : Int32) (I : gM) : gO := fX9_setCapacity_k0 N [some (.ref 0), some (.int v1), some (.int v2)] [] I
theorem eX9_setCapacity_0 (N : Nat) (v1 : Int32) (v2 : Int32) (I : gM) : hX9_setCapacity_0 N v1 v2 I =
  hI (fX9_isLink N [.ref 0, .int v1] (gS (rg 0 18) (gU I 0 0 0))) (rg 0 18) (gU I 0 0 0) fun x1 I1 => hI (fX9_fails N [.ref 0, .int x1, .int 1] (gS (rg 0 18) I1)) (rg 0 18) I1 fun x2 I2 => if gz_ne x2 = true then (some (.inl (some (.int 0)), I2)) else (hI (fX9_in N [.long ((v2).toInt64), .long 1, .long 5] (gS [] I2)) [] I2 fun x3 I3 => hI (fX9_fails N [.ref 0, .int x3, .int 2] (gS (rg 0 18) I3)) (rg 0 18) I3 fun x4 I4 => if gz_eq x4 = true then (hI (fX9_become N [.ref 0, .int ((((9 + (4 * v1))) + 2)), .int v2] (gS (rg 0 18) I4)) (rg 0 18) I4 fun x5 I5 => some (.inl (some (.int x5)), I5)) else (some (.inl (some (.int 0)), I4))) := rfl
theorem eX9_setCapacity (N : Nat) (v1 : Int32) (v2 : Int32) (I : gM) : fX9_setCapacity N [.ref 0, .int v1, .int v2] I = hX9_setCapacity_0 N v1 v2 I := rfl

def hX9_setConflict_0 (N : Nat) (v1 : Int32) (v2 : Int32) (v3 : Int32) (I : gM) : gO := fX9_setConflict_k0 N [some (.ref 0), some (.int v1), some (.int v2), some (.int v3), none, none] [] I
def hX9_setConflict_26 (N : Nat) (v1 : Int32) (v2 : Int32) (v3 : Int32) (I : gM) : gO := fX9_setConflict_k26 N [some (.ref 0), some (.int v1), some (.int v2), some (.int v3), none, none] [.ref 0] I
def hX9_setConflict_27 (N : Nat) (v1 : Int32) (v2 : Int32) (v3 : Int32) (s1 : Int32) (I : gM) : gO := fX9_setConflict_k27 N [some (.ref 0), some (.int v1), some (.int v2), some (.int v3), none, none] [.int s1, .ref 0] I
def hX9_setConflict_45 (N : Nat) (v1 : Int32) (v2 : Int32) (v3 : Int32) (s1 : Int32) (I : gM) : gO := fX9_setConflict_k45 N [some (.ref 0), some (.int v1), some (.int v2), some (.int v3), none, none] [.int s1, .ref 0] I
theorem eX9_setConflict_0 (N : Nat) (v1 : Int32) (v2 : Int32) (v3 : Int32) (I : gM) : hX9_setConflict_0 N v1 v2 v3 I =
  hI (fX9_isLink N [.ref 0, .int v1] (gS (rg 0 18) (gU I 0 0 0))) (rg 0 18) (gU I 0 0 0) fun x1 I1 => if gz_eq x1 = true then (hX9_setConflict_26 N v1 v2 v3 I1) else (hI (fX9_isLink N [.ref 0, .int v2] (gS (rg 0 18) I1)) (rg 0 18) I1 fun x2 I2 => if gz_eq x2 = true then (hX9_setConflict_26 N v1 v2 v3 I2) else (hX9_setConflict_27 N v1 v2 v3 1 I2)) := rfl
theorem eX9_setConflict_26 (N : Nat) (v1 : Int32) (v2 : Int32) (v3 : Int32) (I : gM) : hX9_setConflict_26 N v1 v2 v3 I =
  hX9_setConflict_27 N v1 v2 v3 0 I := rfl
theorem eX9_setConflict_27 (N : Nat) (v1 : Int32) (v2 : Int32) (v3 : Int32) (s1 : Int32) (I : gM) : hX9_setConflict_27 N v1 v2 v3 s1 I =
  hI (fX9_fails N [.ref 0, .int s1, .int 1] (gS (rg 0 18) I)) (rg 0 18) I fun x3 I3 => if gz_ne x3 = true then (some (.inl (some (.int 0)), I3)) else (if gc_eq v1 v2 = true then (hX9_setConflict_45 N v1 v2 v3 0 I3) else (hX9_setConflict_45 N v1 v2 v3 1 I3)) := rfl
theorem eX9_setConflict_45 (N : Nat) (v1 : Int32) (v2 : Int32) (v3 : Int32) (s1 : Int32) (I : gM) : hX9_setConflict_45 N v1 v2 v3 s1 I =
  hI (fX9_fails N [.ref 0, .int s1, .int 2] (gS (rg 0 18) I)) (rg 0 18) I fun x4 I4 => if gz_eq x4 = true then (hV (fX9_record N [.ref 0] (gS (rg 0 18) I4)) (rg 0 18) I4 fun I5 => ck 2746 (131 + v1) <| hI (fX9_has N [.int ((I5 3 ((nn (131 + v1))))), .int v2] (gS [] I5)) [] I5 fun x6 I6 => if gc_eq x6 v3 = true then (if x6 = 0 ∨ x6 = 1 then some (.inl (some (.int x6)), I6) else none) else (ck 2746 (131 + v1) <| ck 2746 (131 + v1) <| ck 2746 (131 + v2) <| ck 2746 (131 + v2) <| if x6 = 0 ∨ x6 = 1 then some (.inl (some (.int x6)), (gU (gU I6 3 ((nn (131 + v1))) ((((I6 3 ((nn (131 + v1))))) ^^^ (((((gb_shl 1 v1) ||| (gb_shl 1 v2))) &&& (((gb_shl 1 v1) ^^^ (-1)))))))) 3 ((nn (131 + v2))) (((((gU I6 3 ((nn (131 + v1))) ((((I6 3 ((nn (131 + v1))))) ^^^ (((((gb_shl 1 v1) ||| (gb_shl 1 v2))) &&& (((gb_shl 1 v1) ^^^ (-1)))))))) 3 ((nn (131 + v2))))) ^^^ (((((gb_shl 1 v1) ||| (gb_shl 1 v2))) &&& (((gb_shl 1 v2) ^^^ (-1))))))))) else none)) else (some (.inl (some (.int 0)), I4)) := rfl
theorem eX9_setConflict (N : Nat) (v1 : Int32) (v2 : Int32) (v3 : Int32) (I : gM) : fX9_setConflict N [.ref 0, .int v1, .int v2, .int v3] I = hX9_setConflict_0 N v1 v2 v3 I := rfl

def hX9_addFlow_0 (N : Nat) (v1 : Int32) (v2 : Int32) (v3 : Int32) (v4 : Int32) (I : gM) : gO := fX9_addFlow_k0 N [some (.ref 0), some (.int v1), some (.int v2), some (.int v3), some (.int v4)] [] I
def hX9_addFlow_56 (N : Nat) (v1 : Int32) (v2 : Int32) (v3 : Int32) (v4 : Int32) (I : gM) : gO := fX9_addFlow_k56 N [some (.ref 0), some (.int v1), some (.int v2), some (.int v3), some (.int v4)] [.ref 0] I
def hX9_addFlow_57 (N : Nat) (v1 : Int32) (v2 : Int32) (v3 : Int32) (v4 : Int32) (s1 : Int32) (I : gM) : gO := fX9_addFlow_k57 N [some (.ref 0), some (.int v1), some (.int v2), some (.int v3), some (.int v4)] [.int s1, .ref 0] I
def hX9_addFlow_81 (N : Nat) (v1 : Int32) (v2 : Int32) (v3 : Int32) (v4 : Int32) (s1 : Int32) (I : gM) : gO := fX9_addFlow_k81 N [some (.ref 0), some (.int v1), some (.int v2), some (.int v3), some (.int v4)] [.int s1, .ref 0] I
theorem eX9_addFlow_0 (N : Nat) (v1 : Int32) (v2 : Int32) (v3 : Int32) (v4 : Int32) (I : gM) : hX9_addFlow_0 N v1 v2 v3 v4 I =
  hI (fX9_areNodes N [.ref 0, .int v1, .int v2] (gS (rg 0 18) (gU I 0 0 0))) (rg 0 18) (gU I 0 0 0) fun x1 I1 => hI (fX9_fails N [.ref 0, .int x1, .int 1] (gS (rg 0 18) I1)) (rg 0 18) I1 fun x2 I2 => if gz_eq x2 = true then (if gc_eq v1 v2 = true then (hX9_addFlow_56 N v1 v2 v3 v4 I2) else (hI (fX9_in N [.long ((v3).toInt64), .long 0, .long 300] (gS [] I2)) [] I2 fun x3 I3 => if gz_eq x3 = true then (hX9_addFlow_56 N v1 v2 v3 v4 I3) else (hI (fX9_in N [.long ((v4).toInt64), .long 0, .long 200] (gS [] I3)) [] I3 fun x4 I4 => if gz_eq x4 = true then (hX9_addFlow_56 N v1 v2 v3 v4 I4) else (hX9_addFlow_57 N v1 v2 v3 v4 1 I4)))) else (some (.inl (some (.int 0)), I2)) := rfl
theorem eX9_addFlow_56 (N : Nat) (v1 : Int32) (v2 : Int32) (v3 : Int32) (v4 : Int32) (I : gM) : hX9_addFlow_56 N v1 v2 v3 v4 I =
  hX9_addFlow_57 N v1 v2 v3 v4 0 I := rfl
theorem eX9_addFlow_57 (N : Nat) (v1 : Int32) (v2 : Int32) (v3 : Int32) (v4 : Int32) (s1 : Int32) (I : gM) : hX9_addFlow_57 N v1 v2 v3 v4 s1 I =
  hI (fX9_fails N [.ref 0, .int s1, .int 2] (gS (rg 0 18) I)) (rg 0 18) I fun x5 I5 => if gz_ne x5 = true then (some (.inl (some (.int 0)), I5)) else (ck 2746 2 <| if gc_ge ((I5 3 (nn 2))) 6 = true then (hX9_addFlow_81 N v1 v2 v3 v4 0 I5) else (hX9_addFlow_81 N v1 v2 v3 v4 1 I5)) := rfl
theorem eX9_addFlow_81 (N : Nat) (v1 : Int32) (v2 : Int32) (v3 : Int32) (v4 : Int32) (s1 : Int32) (I : gM) : hX9_addFlow_81 N v1 v2 v3 v4 s1 I =
  hI (fX9_fails N [.ref 0, .int s1, .int 3] (gS (rg 0 18) I)) (rg 0 18) I fun x6 I6 => if gz_eq x6 = true then (hV (fX9_record N [.ref 0] (gS (rg 0 18) I6)) (rg 0 18) I6 fun I7 => hV (fX9_layFlow N [.ref 0, .int v1, .int v2, .int v3, .int v4] (gS [3] I7)) [3] I7 fun I8 => ck 2746 2 <| some (.inl (some (.int ((((I8 3 (nn 2))) - 1)))), I8)) else (some (.inl (some (.int 0)), I6)) := rfl
theorem eX9_addFlow (N : Nat) (v1 : Int32) (v2 : Int32) (v3 : Int32) (v4 : Int32) (I : gM) : fX9_addFlow N [.ref 0, .int v1, .int v2, .int v3, .int v4] I = hX9_addFlow_0 N v1 v2 v3 v4 I := rfl

def hX9_setRate_0 (N : Nat) (v1 : Int32) (v2 : Int32) (I : gM) : gO := fX9_setRate_k0 N [some (.ref 0), some (.int v1), some (.int v2)] [] I
theorem eX9_setRate_0 (N : Nat) (v1 : Int32) (v2 : Int32) (I : gM) : hX9_setRate_0 N v1 v2 I =
  hI (fX9_isFlow N [.ref 0, .int v1] (gS (rg 0 18) (gU I 0 0 0))) (rg 0 18) (gU I 0 0 0) fun x1 I1 => hI (fX9_fails N [.ref 0, .int x1, .int 1] (gS (rg 0 18) I1)) (rg 0 18) I1 fun x2 I2 => if gz_ne x2 = true then (some (.inl (some (.int 0)), I2)) else (hI (fX9_in N [.long ((v2).toInt64), .long 0, .long 300] (gS [] I2)) [] I2 fun x3 I3 => hI (fX9_fails N [.ref 0, .int x3, .int 2] (gS (rg 0 18) I3)) (rg 0 18) I3 fun x4 I4 => if gz_eq x4 = true then (hI (fX9_become N [.ref 0, .int ((((65 + (11 * v1))) + 2)), .int v2] (gS (rg 0 18) I4)) (rg 0 18) I4 fun x5 I5 => some (.inl (some (.int x5)), I5)) else (some (.inl (some (.int 0)), I4))) := rfl
theorem eX9_setRate (N : Nat) (v1 : Int32) (v2 : Int32) (I : gM) : fX9_setRate N [.ref 0, .int v1, .int v2] I = hX9_setRate_0 N v1 v2 I := rfl

def hX9_setBudget_0 (N : Nat) (v1 : Int32) (v2 : Int32) (I : gM) : gO := fX9_setBudget_k0 N [some (.ref 0), some (.int v1), some (.int v2)] [] I
theorem eX9_setBudget_0 (N : Nat) (v1 : Int32) (v2 : Int32) (I : gM) : hX9_setBudget_0 N v1 v2 I =
  hI (fX9_isFlow N [.ref 0, .int v1] (gS (rg 0 18) (gU I 0 0 0))) (rg 0 18) (gU I 0 0 0) fun x1 I1 => hI (fX9_fails N [.ref 0, .int x1, .int 1] (gS (rg 0 18) I1)) (rg 0 18) I1 fun x2 I2 => if gz_ne x2 = true then (some (.inl (some (.int 0)), I2)) else (hI (fX9_in N [.long ((v2).toInt64), .long 0, .long 200] (gS [] I2)) [] I2 fun x3 I3 => hI (fX9_fails N [.ref 0, .int x3, .int 2] (gS (rg 0 18) I3)) (rg 0 18) I3 fun x4 I4 => if gz_eq x4 = true then (hI (fX9_become N [.ref 0, .int ((((65 + (11 * v1))) + 3)), .int v2] (gS (rg 0 18) I4)) (rg 0 18) I4 fun x5 I5 => some (.inl (some (.int x5)), I5)) else (some (.inl (some (.int 0)), I4))) := rfl
theorem eX9_setBudget (N : Nat) (v1 : Int32) (v2 : Int32) (I : gM) : fX9_setBudget N [.ref 0, .int v1, .int v2] I = hX9_setBudget_0 N v1 v2 I := rfl

def hX9_mostOf_0 (N : Nat) (v0 : Int32) (I : gM) : gO := fX9_mostOf_k0 N [some (.int v0)] [] I
theorem eX9_mostOf_0 (N : Nat) (v0 : Int32) (I : gM) : hX9_mostOf_0 N v0 I =
  if gc_ne v0 1 = true then (if gc_ne v0 2 = true then (some (.inl (some (.int 1)), I)) else (some (.inl (some (.int 20)), I))) else (some (.inl (some (.int 50)), I)) := rfl
theorem eX9_mostOf (N : Nat) (v0 : Int32) (I : gM) : fX9_mostOf N [.int v0] I = hX9_mostOf_0 N v0 I := rfl

def hX9_set_0 (N : Nat) (v1 : Int32) (v2 : Int32) (I : gM) : gO := fX9_set_k0 N [some (.ref 0), some (.int v1), some (.int v2)] [] I
def hX9_set_36 (N : Nat) (v1 : Int32) (v2 : Int32) (I : gM) : gO := fX9_set_k36 N [some (.ref 0), some (.int v1), some (.int v2)] [.ref 0] I
def hX9_set_37 (N : Nat) (v1 : Int32) (v2 : Int32) (s1 : Int32) (I : gM) : gO := fX9_set_k37 N [some (.ref 0), some (.int v1), some (.int v2)] [.int s1, .ref 0] I
theorem eX9_set_0 (N : Nat) (v1 : Int32) (v2 : Int32) (I : gM) : hX9_set_0 N v1 v2 I =
  hI (fX9_in N [.long ((v1).toInt64), .long 0, .long 3] (gS [] (gU I 0 0 0))) [] (gU I 0 0 0) fun x1 I1 => if gz_eq x1 = true then (hX9_set_36 N v1 v2 I1) else (hI (fX9_mostOf N [.int v1] (gS [] I1)) [] I1 fun x2 I2 => hI (fX9_in N [.long ((v2).toInt64), .long 0, .long ((x2).toInt64)] (gS [] I2)) [] I2 fun x3 I3 => if gz_eq x3 = true then (hX9_set_36 N v1 v2 I3) else (hX9_set_37 N v1 v2 1 I3)) := rfl
theorem eX9_set_36 (N : Nat) (v1 : Int32) (v2 : Int32) (I : gM) : hX9_set_36 N v1 v2 I =
  hX9_set_37 N v1 v2 0 I := rfl
theorem eX9_set_37 (N : Nat) (v1 : Int32) (v2 : Int32) (s1 : Int32) (I : gM) : hX9_set_37 N v1 v2 s1 I =
  hI (fX9_fails N [.ref 0, .int s1, .int 1] (gS (rg 0 18) I)) (rg 0 18) I fun x4 I4 => if gz_eq x4 = true then (hI (fX9_become N [.ref 0, .int (3 + v1), .int v2] (gS (rg 0 18) I4)) (rg 0 18) I4 fun x5 I5 => some (.inl (some (.int x5)), I5)) else (some (.inl (some (.int 0)), I4)) := rfl
theorem eX9_set (N : Nat) (v1 : Int32) (v2 : Int32) (I : gM) : fX9_set N [.ref 0, .int v1, .int v2] I = hX9_set_0 N v1 v2 I := rfl

def hX9_inject_0 (N : Nat) (v1 : Int32) (v2 : Int32) (I : gM) : gO := fX9_inject_k0 N [some (.ref 0), some (.int v1), some (.int v2)] [] I
theorem eX9_inject_0 (N : Nat) (v1 : Int32) (v2 : Int32) (I : gM) : hX9_inject_0 N v1 v2 I =
  hI (fX9_isFlow N [.ref 0, .int v1] (gS (rg 0 18) (gU I 0 0 0))) (rg 0 18) (gU I 0 0 0) fun x1 I1 => hI (fX9_fails N [.ref 0, .int x1, .int 1] (gS (rg 0 18) I1)) (rg 0 18) I1 fun x2 I2 => if gz_ne x2 = true then (some (.inl (some (.int 0)), I2)) else (hI (fX9_in N [.long ((v2).toInt64), .long 1, .long 100] (gS [] I2)) [] I2 fun x3 I3 => hI (fX9_fails N [.ref 0, .int x3, .int 2] (gS (rg 0 18) I3)) (rg 0 18) I3 fun x4 I4 => if gz_eq x4 = true then (hV (fX9_record N [.ref 0] (gS (rg 0 18) I4)) (rg 0 18) I4 fun I5 => hI (fX9_arrive N [.ref 0, .int v1, .int v2] (gS (rg 0 18) I5)) (rg 0 18) I5 fun x6 I6 => some (.inl (some (.int x6)), I6)) else (some (.inl (some (.int 0)), I4))) := rfl
theorem eX9_inject (N : Nat) (v1 : Int32) (v2 : Int32) (I : gM) : fX9_inject N [.ref 0, .int v1, .int v2] I = hX9_inject_0 N v1 v2 I := rfl

def hX9_flush_0 (N : Nat) (v1 : Int32) (v2 : Int32) (I : gM) : gO := fX9_flush_k0 N [some (.ref 0), some (.int v1), some (.int v2), none] [] I
def hX9_flush_30 (N : Nat) (v1 : Int32) (v2 : Int32) (s1 : Int32) (I : gM) : gO := fX9_flush_k30 N [some (.ref 0), some (.int v1), some (.int v2), none] [.int s1, .ref 0] I
def hX9_flush_49 (N : Nat) (n49 : Nat) (v1 : Int32) (v2 : Int32) (v3 : Int32) (I : gM) : gO := s_lp (fX9_flush_b49 N) n49 [some (.ref 0), some (.int v1), some (.int v2), some (.int v3)] [] I
def hX9_flush_96 (N : Nat) (n49 : Nat) (v1 : Int32) (v2 : Int32) (v3 : Int32) (s1 : Int32) (s2 : Int32) (s3 : Int32) (I : gM) : gO := fX9_flush_k96 N (s_lp (fX9_flush_b49 N) n49) [some (.ref 0), some (.int v1), some (.int v2), some (.int v3)] [.int s3, .int s2, .int s1, .ref 0] I
theorem eX9_flush_0 (N : Nat) (v1 : Int32) (v2 : Int32) (I : gM) : hX9_flush_0 N v1 v2 I =
  hI (fX9_areNodes N [.ref 0, .int v1, .int v2] (gS (rg 0 18) (gU I 0 0 0))) (rg 0 18) (gU I 0 0 0) fun x1 I1 => hI (fX9_fails N [.ref 0, .int x1, .int 1] (gS (rg 0 18) I1)) (rg 0 18) I1 fun x2 I2 => if gz_ne x2 = true then (some (.inl (some (.int 0)), I2)) else (if gc_eq v1 v2 = true then (hX9_flush_30 N v1 v2 0 I2) else (hX9_flush_30 N v1 v2 1 I2)) := rfl
theorem eX9_flush_30 (N : Nat) (v1 : Int32) (v2 : Int32) (s1 : Int32) (I : gM) : hX9_flush_30 N v1 v2 s1 I =
  hI (fX9_fails N [.ref 0, .int s1, .int 2] (gS (rg 0 18) I)) (rg 0 18) I fun x3 I3 => if gz_eq x3 = true then (hV (fX9_record N [.ref 0] (gS (rg 0 18) I3)) (rg 0 18) I3 fun I4 => hV (fX9_stayAll N [.ref 0] (gS (rg 0 18) I4)) (rg 0 18) I4 fun I5 => hX9_flush_49 N N v1 v2 0 I5) else (some (.inl (some (.int 0)), I3)) := rfl
theorem eX9_flush_49 (N : Nat) (n49 : Nat) (v1 : Int32) (v2 : Int32) (v3 : Int32) (I : gM) : hX9_flush_49 N (n49 + 1) v1 v2 v3 I =
  ck 2746 245 <| if gc_ge v3 ((I 3 (nn 245))) = true then (hI (fX9_closeUp N [.ref 0] (gS (rg 0 18) I)) (rg 0 18) I fun x6 I6 => some (.inl (some (.int x6)), I6)) else (hI (fX9_isQueued N [.ref 0, .int v3, .int v1, .int v2] (gS (rg 0 18) I)) (rg 0 18) I fun x7 I7 => ck 500 v3 <| hI (fX9_packetPart N [.ref 0, .int v3, .int 0] (gS (rg 0 18) (gU I7 7 (nn v3) ((if (1 : Nat) = 0 then x7 else vp_nar .boolean x7))))) (rg 0 18) (gU I7 7 (nn v3) ((if (1 : Nat) = 0 then x7 else vp_nar .boolean x7))) fun x8 I8 => ck 500 v3 <| if gz_eq ((I8 7 (nn v3))) = true then (hX9_flush_96 N n49 v1 v2 v3 x8 5 0 I8) else (hX9_flush_96 N n49 v1 v2 v3 x8 5 1 I8)) := rfl
theorem eX9_flush_49z (N : Nat) (v1 : Int32) (v2 : Int32) (v3 : Int32) (I : gM) : hX9_flush_49 N 0 v1 v2 v3 I = none := rfl
theorem eX9_flush_96 (N : Nat) (n49 : Nat) (v1 : Int32) (v2 : Int32) (v3 : Int32) (s1 : Int32) (s2 : Int32) (s3 : Int32) (I : gM) : hX9_flush_96 N n49 v1 v2 v3 s1 s2 s3 I =
  hV (fX9_count N [.ref 0, .int s1, .int s2, .int s3] (gS (rg 0 18) I)) (rg 0 18) I fun I9 => hX9_flush_49 N n49 v1 v2 (v3 + 1) I9 := rfl
theorem eX9_flush (N : Nat) (v1 : Int32) (v2 : Int32) (I : gM) : fX9_flush N [.ref 0, .int v1, .int v2] I = hX9_flush_0 N v1 v2 I := rfl

def hX9_shadows_0 (N : Nat) (v1 : Int32) (I : gM) : gO := fX9_shadows_k0 N [some (.ref 0), some (.int v1), none, none, none, none, none] [] I
def hX9_shadows_5 (N : Nat) (n5 : Nat) (v1 : Int32) (v2 : Int64) (v4 : Int32) (I : gM) : gO := s_lp (fX9_shadows_b5 N) n5 [some (.ref 0), some (.int v1), some (.long v2), none, some (.int v4), none, none] [] I
def hX9_shadows_41 (N : Nat) (n5 : Nat) (v1 : Int32) (v4 : Int32) (s0 : Int64) (s1 : Int64) (I : gM) : gO := fX9_shadows_k41 N (s_lp (fX9_shadows_b5 N) n5) [some (.ref 0), some (.int v1), none, none, some (.int v4), none, none] [.long s1, .long s0] I
theorem eX9_shadows_0 (N : Nat) (v1 : Int32) (I : gM) : hX9_shadows_0 N v1 I =
  hX9_shadows_5 N N v1 0 0 I := rfl
theorem eX9_shadows_5 (N : Nat) (n5 : Nat) (v1 : Int32) (v2 : Int64) (v4 : Int32) (I : gM) : hX9_shadows_5 N (n5 + 1) v1 v2 v4 I =
  if gc_ge v4 100 = true then (some (.inl (some (.long v2)), I)) else (ck 2746 (145 + v4) <| if gz_eq v1 = true then (hX9_shadows_41 N n5 v1 v4 v2 (((I 3 ((nn (145 + v4))))).toInt64) I) else (hX9_shadows_41 N n5 v1 v4 v2 (((((I 3 ((nn (145 + v4))))).toInt64) * (((I 3 ((nn (145 + v4))))).toInt64))) I)) := rfl
theorem eX9_shadows_5z (N : Nat) (v1 : Int32) (v2 : Int64) (v4 : Int32) (I : gM) : hX9_shadows_5 N 0 v1 v2 v4 I = none := rfl
theorem eX9_shadows_41 (N : Nat) (n5 : Nat) (v1 : Int32) (v4 : Int32) (s0 : Int64) (s1 : Int64) (I : gM) : hX9_shadows_41 N n5 v1 v4 s0 s1 I =
  hX9_shadows_5 N n5 v1 (s0 + s1) (v4 + 1) I := rfl
theorem eX9_shadows (N : Nat) (v1 : Int32) (I : gM) : fX9_shadows N [.ref 0, .int v1] I = hX9_shadows_0 N v1 I := rfl

def hX9_resetShadows_0 (N : Nat) (I : gM) : gO := fX9_resetShadows_k0 N [some (.ref 0), none, none] [] I
def hX9_resetShadows_18 (N : Nat) (n18 : Nat) (v1 : Int32) (v2 : Int32) (I : gM) : gO := s_lp (fX9_resetShadows_b18 N) n18 [some (.ref 0), some (.int v1), some (.int v2)] [] I
theorem eX9_resetShadows_0 (N : Nat) (I : gM) : hX9_resetShadows_0 N I =
  hV (fX9_record N [.ref 0] (gS (rg 0 18) (gU I 0 0 0))) (rg 0 18) (gU I 0 0 0) fun I1 => hJ (fX9_shadows N [.ref 0, .int 0] (gS (rg 0 18) I1)) (rg 0 18) I1 fun x2 I2 => hX9_resetShadows_18 N N ((x2).toInt32) 0 I2 := rfl
theorem eX9_resetShadows_18 (N : Nat) (n18 : Nat) (v1 : Int32) (v2 : Int32) (I : gM) : hX9_resetShadows_18 N (n18 + 1) v1 v2 I =
  if gc_ge v2 100 = true then (some (.inl (some (.int v1)), I)) else (ck 2746 (145 + v2) <| hX9_resetShadows_18 N n18 v1 (v2 + 1) (gU I 3 ((nn (145 + v2))) 0)) := rfl
theorem eX9_resetShadows_18z (N : Nat) (v1 : Int32) (v2 : Int32) (I : gM) : hX9_resetShadows_18 N 0 v1 v2 I = none := rfl
theorem eX9_resetShadows (N : Nat) (I : gM) : fX9_resetShadows N [.ref 0] I = hX9_resetShadows_0 N I := rfl

def hX9_areSlots_0 (N : Nat) (v0 : Int32) (I : gM) : gO := fX9_areSlots_k0 N [some (.int v0)] [] I
theorem eX9_areSlots_0 (N : Nat) (v0 : Int32) (I : gM) : hX9_areSlots_0 N v0 I =
  hI (fX9_in N [.long ((v0).toInt64), .long 1, .long 50] (gS [] I)) [] I fun x1 I1 => if x1 = 0 ∨ x1 = 1 then some (.inl (some (.int x1)), I1) else none := rfl
theorem eX9_areSlots (N : Nat) (v0 : Int32) (I : gM) : fX9_areSlots N [.int v0] I = hX9_areSlots_0 N v0 I := rfl

def hX9_count__0 (N : Nat) (v1 : Int32) (I : gM) : gO := fX9_count__k0 N [some (.ref 0), some (.int v1)] [] I
theorem eX9_count__0 (N : Nat) (v1 : Int32) (I : gM) : hX9_count__0 N v1 I =
  hI (fX9_in N [.long ((v1).toInt64), .long 0, .long 6] (gS [] (gU I 0 0 0))) [] (gU I 0 0 0) fun x1 I1 => hI (fX9_fails N [.ref 0, .int x1, .int 1] (gS (rg 0 18) I1)) (rg 0 18) I1 fun x2 I2 => if gz_eq x2 = true then (ck 2746 v1 <| some (.inl (some (.int ((I2 3 (nn v1))))), I2)) else (some (.inl (some (.int 0)), I2)) := rfl
theorem eX9_count_ (N : Nat) (v1 : Int32) (I : gM) : fX9_count_ N [.ref 0, .int v1] I = hX9_count__0 N v1 I := rfl

def hX9_conflicts_0 (N : Nat) (v1 : Int32) (I : gM) : gO := fX9_conflicts_k0 N [some (.ref 0), some (.int v1)] [] I
theorem eX9_conflicts_0 (N : Nat) (v1 : Int32) (I : gM) : hX9_conflicts_0 N v1 I =
  hI (fX9_isLink N [.ref 0, .int v1] (gS (rg 0 18) (gU I 0 0 0))) (rg 0 18) (gU I 0 0 0) fun x1 I1 => hI (fX9_fails N [.ref 0, .int x1, .int 1] (gS (rg 0 18) I1)) (rg 0 18) I1 fun x2 I2 => if gz_eq x2 = true then (ck 2746 (131 + v1) <| some (.inl (some (.int ((I2 3 ((nn (131 + v1))))))), I2)) else (some (.inl (some (.int 0)), I2)) := rfl
theorem eX9_conflicts (N : Nat) (v1 : Int32) (I : gM) : fX9_conflicts N [.ref 0, .int v1] I = hX9_conflicts_0 N v1 I := rfl

def hX9_flow_0 (N : Nat) (v1 : Int32) (v2 : Int32) (I : gM) : gO := fX9_flow_k0 N [some (.ref 0), some (.int v1), some (.int v2)] [] I
theorem eX9_flow_0 (N : Nat) (v1 : Int32) (v2 : Int32) (I : gM) : hX9_flow_0 N v1 v2 I =
  hI (fX9_isFlow N [.ref 0, .int v1] (gS (rg 0 18) (gU I 0 0 0))) (rg 0 18) (gU I 0 0 0) fun x1 I1 => hI (fX9_fails N [.ref 0, .int x1, .int 1] (gS (rg 0 18) I1)) (rg 0 18) I1 fun x2 I2 => if gz_ne x2 = true then (some (.inl (some (.int 0)), I2)) else (hI (fX9_in N [.long ((v2).toInt64), .long 0, .long 10] (gS [] I2)) [] I2 fun x3 I3 => hI (fX9_fails N [.ref 0, .int x3, .int 2] (gS (rg 0 18) I3)) (rg 0 18) I3 fun x4 I4 => if gz_eq x4 = true then (hI (fX9_flowPart N [.ref 0, .int v1, .int v2] (gS (rg 0 18) I4)) (rg 0 18) I4 fun x5 I5 => some (.inl (some (.int x5)), I5)) else (some (.inl (some (.int 0)), I4))) := rfl
theorem eX9_flow (N : Nat) (v1 : Int32) (v2 : Int32) (I : gM) : fX9_flow N [.ref 0, .int v1, .int v2] I = hX9_flow_0 N v1 v2 I := rfl

def hX9_hops_0 (N : Nat) (v1 : Int32) (v2 : Int32) (I : gM) : gO := fX9_hops_k0 N [some (.ref 0), some (.int v1), some (.int v2)] [] I
theorem eX9_hops_0 (N : Nat) (v1 : Int32) (v2 : Int32) (I : gM) : hX9_hops_0 N v1 v2 I =
  hI (fX9_areNodes N [.ref 0, .int v1, .int v2] (gS (rg 0 18) (gU I 0 0 0))) (rg 0 18) (gU I 0 0 0) fun x1 I1 => hI (fX9_fails N [.ref 0, .int x1, .int 1] (gS (rg 0 18) I1)) (rg 0 18) I1 fun x2 I2 => if gz_eq x2 = true then (hV (fX9_layHops N [.ref 0] (gS (rg 0 18) I2)) (rg 0 18) I2 fun I3 => ck 100 (((10 * v1) + v2)) <| some (.inl (some (.int ((I3 8 ((nn (((10 * v1) + v2)))))))), I3)) else (some (.inl (some (.int 0)), I2)) := rfl
theorem eX9_hops (N : Nat) (v1 : Int32) (v2 : Int32) (I : gM) : fX9_hops N [.ref 0, .int v1, .int v2] I = hX9_hops_0 N v1 v2 I := rfl

def hX9_reach_0 (N : Nat) (v1 : Int32) (I : gM) : gO := fX9_reach_k0 N [some (.ref 0), some (.int v1), none, none] [] I
def hX9_reach_9 (N : Nat) (n9 : Nat) (v2 : Int32) (I : gM) : gO := s_lp (fX9_reach_b9 N) n9 [some (.ref 0), none, some (.int v2), none] [] I
def hX9_reach_17 (N : Nat) (n9 : Nat) (n17 : Nat) (v2 : Int32) (v3 : Int32) (I : gM) : gO := s_lp (fX9_reach_b17 N (s_lp (fX9_reach_b9 N) n9)) n17 [some (.ref 0), none, some (.int v2), some (.int v3)] [] I
def hX9_reach_90 (N : Nat) (n9 : Nat) (n17 : Nat) (v2 : Int32) (v3 : Int32) (I : gM) : gO := fX9_reach_k90 N (s_lp (fX9_reach_b9 N) n9) (s_lp (fX9_reach_b17 N (s_lp (fX9_reach_b9 N) n9)) n17) [some (.ref 0), none, some (.int v2), some (.int v3)] [] I
theorem eX9_reach_0 (N : Nat) (v1 : Int32) (I : gM) : hX9_reach_0 N v1 I =
  hX9_reach_9 N N 1 (gU I 0 30 (gb_shl 1 v1)) := rfl
theorem eX9_reach_9 (N : Nat) (n9 : Nat) (v2 : Int32) (I : gM) : hX9_reach_9 N (n9 + 1) v2 I =
  if gz_eq v2 = true then (some (.inl none, I)) else (hX9_reach_17 N n9 N 0 0 I) := rfl
theorem eX9_reach_9z (N : Nat) (v2 : Int32) (I : gM) : hX9_reach_9 N 0 v2 I = none := rfl
theorem eX9_reach_17 (N : Nat) (n9 : Nat) (n17 : Nat) (v2 : Int32) (v3 : Int32) (I : gM) : hX9_reach_17 N n9 (n17 + 1) v2 v3 I =
  if gc_ge v3 100 = true then (hX9_reach_9 N n9 v2 I) else (ck 100 v3 <| if gz_le ((I 16 (nn v3))) = true then (hX9_reach_90 N n9 n17 v2 v3 I) else (if 10 = 0 then none else hI (fX9_has N [.int (I 0 30), .int (gb_div v3 10)] (gS [] I)) [] I fun x1 I1 => if gz_eq x1 = true then (hX9_reach_90 N n9 n17 v2 v3 I1) else (if 10 = 0 then none else hI (fX9_has N [.int (I1 0 30), .int (gb_rem v3 10)] (gS [] I1)) [] I1 fun x2 I2 => if gz_ne x2 = true then (hX9_reach_90 N n9 n17 v2 v3 I2) else (if 10 = 0 then none else if 10 = 0 then none else if 10 = 0 then none else ck 10 (gb_rem v3 10) <| hX9_reach_90 N n9 n17 1 v3 (gU (gU I2 0 30 (((I2 0 30) ||| ((gb_shl 1 (gb_rem v3 10)))))) 17 ((nn (gb_rem v3 10))) (gb_div v3 10)))))) := rfl
theorem eX9_reach_17z (N : Nat) (n9 : Nat) (v2 : Int32) (v3 : Int32) (I : gM) : hX9_reach_17 N n9 0 v2 v3 I = none := rfl
theorem eX9_reach_90 (N : Nat) (n9 : Nat) (n17 : Nat) (v2 : Int32) (v3 : Int32) (I : gM) : hX9_reach_90 N n9 n17 v2 v3 I =
  hX9_reach_17 N n9 n17 v2 (v3 + 1) I := rfl
theorem eX9_reach (N : Nat) (v1 : Int32) (I : gM) : fX9_reach N [.ref 0, .int v1] I = hX9_reach_0 N v1 I := rfl

def hX9_greatestFlow_0 (N : Nat) (v1 : Int32) (v2 : Int32) (I : gM) : gO := fX9_greatestFlow_k0 N [some (.ref 0), some (.int v1), some (.int v2), none, none] [] I
def hX9_greatestFlow_2 (N : Nat) (n2 : Nat) (v1 : Int32) (v2 : Int32) (v3 : Int32) (I : gM) : gO := s_lp (fX9_greatestFlow_b2 N) n2 [some (.ref 0), some (.int v1), some (.int v2), some (.int v3), none] [] I
def hX9_greatestFlow_23 (N : Nat) (n23 : Nat) (v1 : Int32) (v2 : Int32) (v3 : Int32) (I : gM) : gO := s_lp (fX9_greatestFlow_b23 N) n23 [some (.ref 0), some (.int v1), some (.int v2), some (.int v3), none] [] I
def hX9_greatestFlow_73 (N : Nat) (n73 : Nat) (v1 : Int32) (v2 : Int32) (v3 : Int32) (I : gM) : gO := s_lp (fX9_greatestFlow_b73 N) n73 [some (.ref 0), some (.int v1), some (.int v2), some (.int v3), none] [] I
def hX9_greatestFlow_87 (N : Nat) (n73 : Nat) (n87 : Nat) (v1 : Int32) (v2 : Int32) (v3 : Int32) (v4 : Int32) (I : gM) : gO := s_lp (fX9_greatestFlow_b87 N (s_lp (fX9_greatestFlow_b73 N) n73)) n87 [some (.ref 0), some (.int v1), some (.int v2), some (.int v3), some (.int v4)] [] I
theorem eX9_greatestFlow_0 (N : Nat) (v1 : Int32) (v2 : Int32) (I : gM) : hX9_greatestFlow_0 N v1 v2 I =
  hX9_greatestFlow_2 N N v1 v2 0 I := rfl
theorem eX9_greatestFlow_2 (N : Nat) (n2 : Nat) (v1 : Int32) (v2 : Int32) (v3 : Int32) (I : gM) : hX9_greatestFlow_2 N (n2 + 1) v1 v2 v3 I =
  if gc_ge v3 100 = true then (hX9_greatestFlow_23 N N v1 v2 0 I) else (ck 100 v3 <| hX9_greatestFlow_2 N n2 v1 v2 (v3 + 1) (gU I 16 (nn v3) 0)) := rfl
theorem eX9_greatestFlow_2z (N : Nat) (v1 : Int32) (v2 : Int32) (v3 : Int32) (I : gM) : hX9_greatestFlow_2 N 0 v1 v2 v3 I = none := rfl
theorem eX9_greatestFlow_23 (N : Nat) (n23 : Nat) (v1 : Int32) (v2 : Int32) (v3 : Int32) (I : gM) : hX9_greatestFlow_23 N (n23 + 1) v1 v2 v3 I =
  ck 2746 1 <| if gc_ge v3 ((I 3 (nn 1))) = true then (hV (fX9_reach N [.ref 0, .int v1] (gS (rg 0 18) I)) (rg 0 18) I fun I1 => hX9_greatestFlow_73 N N v1 v2 0 I1) else (hI (fX9_linkPart N [.ref 0, .int v3, .int 0] (gS (rg 0 18) I)) (rg 0 18) I fun x2 I2 => hI (fX9_linkPart N [.ref 0, .int v3, .int 1] (gS (rg 0 18) I2)) (rg 0 18) I2 fun x3 I3 => hI (fX9_linkPart N [.ref 0, .int v3, .int 2] (gS (rg 0 18) I3)) (rg 0 18) I3 fun x4 I4 => ck 100 (((10 * x2) + x3)) <| hX9_greatestFlow_23 N n23 v1 v2 (v3 + 1) (gU I4 16 ((nn (((10 * x2) + x3)))) x4)) := rfl
theorem eX9_greatestFlow_23z (N : Nat) (v1 : Int32) (v2 : Int32) (v3 : Int32) (I : gM) : hX9_greatestFlow_23 N 0 v1 v2 v3 I = none := rfl
theorem eX9_greatestFlow_73 (N : Nat) (n73 : Nat) (v1 : Int32) (v2 : Int32) (v3 : Int32) (I : gM) : hX9_greatestFlow_73 N (n73 + 1) v1 v2 v3 I =
  hI (fX9_has N [.int (I 0 30), .int v2] (gS [] I)) [] I fun x5 I5 => if gz_eq x5 = true then (some (.inl (some (.int v3)), I5)) else (hX9_greatestFlow_87 N n73 N v1 v2 v3 v2 I5) := rfl
theorem eX9_greatestFlow_73z (N : Nat) (v1 : Int32) (v2 : Int32) (v3 : Int32) (I : gM) : hX9_greatestFlow_73 N 0 v1 v2 v3 I = none := rfl
theorem eX9_greatestFlow_87 (N : Nat) (n73 : Nat) (n87 : Nat) (v1 : Int32) (v2 : Int32) (v3 : Int32) (v4 : Int32) (I : gM) : hX9_greatestFlow_87 N n73 (n87 + 1) v1 v2 v3 v4 I =
  if gc_eq v4 v1 = true then (hV (fX9_reach N [.ref 0, .int v1] (gS (rg 0 18) I)) (rg 0 18) I fun I6 => hX9_greatestFlow_73 N n73 v1 v2 (v3 + 1) I6) else (ck 10 v4 <| ck 100 ((((10 * ((I 17 (nn v4))))) + v4)) <| ck 100 ((((10 * ((I 17 (nn v4))))) + v4)) <| ck 10 v4 <| ck 100 (((10 * v4) + ((I 17 (nn v4))))) <| ck 100 (((10 * v4) + ((I 17 (nn v4))))) <| ck 10 v4 <| hX9_greatestFlow_87 N n73 n87 v1 v2 v3 ((I 17 (nn v4))) (gU (gU I 16 ((nn ((((10 * ((I 17 (nn v4))))) + v4)))) ((((I 16 ((nn ((((10 * ((I 17 (nn v4))))) + v4)))))) - 1))) 16 ((nn (((10 * v4) + ((I 17 (nn v4))))))) (((((gU I 16 ((nn ((((10 * ((I 17 (nn v4))))) + v4)))) ((((I 16 ((nn ((((10 * ((I 17 (nn v4))))) + v4)))))) - 1))) 16 ((nn (((10 * v4) + ((I 17 (nn v4))))))))) + 1)))) := rfl
theorem eX9_greatestFlow_87z (N : Nat) (n73 : Nat) (v1 : Int32) (v2 : Int32) (v3 : Int32) (v4 : Int32) (I : gM) : hX9_greatestFlow_87 N n73 0 v1 v2 v3 v4 I = none := rfl
theorem eX9_greatestFlow (N : Nat) (v1 : Int32) (v2 : Int32) (I : gM) : fX9_greatestFlow N [.ref 0, .int v1, .int v2] I = hX9_greatestFlow_0 N v1 v2 I := rfl

def hX9_maxFlow_0 (N : Nat) (v1 : Int32) (v2 : Int32) (I : gM) : gO := fX9_maxFlow_k0 N [some (.ref 0), some (.int v1), some (.int v2)] [] I
def hX9_maxFlow_37 (N : Nat) (I : gM) : gO := fX9_maxFlow_k37 N [none, none, none] [] I
def hX9_maxFlow_30 (N : Nat) (v1 : Int32) (v2 : Int32) (s1 : Int32) (I : gM) : gO := fX9_maxFlow_k30 N [some (.ref 0), some (.int v1), some (.int v2)] [.int s1, .ref 0] I
theorem eX9_maxFlow_0 (N : Nat) (v1 : Int32) (v2 : Int32) (I : gM) : hX9_maxFlow_0 N v1 v2 I =
  hI (fX9_areNodes N [.ref 0, .int v1, .int v2] (gS (rg 0 18) (gU I 0 0 0))) (rg 0 18) (gU I 0 0 0) fun x1 I1 => hI (fX9_fails N [.ref 0, .int x1, .int 1] (gS (rg 0 18) I1)) (rg 0 18) I1 fun x2 I2 => if gz_ne x2 = true then (hX9_maxFlow_37 N I2) else (if gc_eq v1 v2 = true then (hX9_maxFlow_30 N v1 v2 0 I2) else (hX9_maxFlow_30 N v1 v2 1 I2)) := rfl
theorem eX9_maxFlow_37 (N : Nat) (I : gM) : hX9_maxFlow_37 N I =
  some (.inl (some (.int 0)), I) := rfl
theorem eX9_maxFlow_30 (N : Nat) (v1 : Int32) (v2 : Int32) (s1 : Int32) (I : gM) : hX9_maxFlow_30 N v1 v2 s1 I =
  hI (fX9_fails N [.ref 0, .int s1, .int 2] (gS (rg 0 18) I)) (rg 0 18) I fun x3 I3 => if gz_eq x3 = true then (hI (fX9_greatestFlow N [.ref 0, .int v1, .int v2] (gS (rg 0 18) I3)) (rg 0 18) I3 fun x4 I4 => some (.inl (some (.int x4)), I4)) else (hX9_maxFlow_37 N I3) := rfl
theorem eX9_maxFlow (N : Nat) (v1 : Int32) (v2 : Int32) (I : gM) : fX9_maxFlow N [.ref 0, .int v1, .int v2] I = hX9_maxFlow_0 N v1 v2 I := rfl

def hX9_cutSide_0 (N : Nat) (v1 : Int32) (v2 : Int32) (I : gM) : gO := fX9_cutSide_k0 N [some (.ref 0), some (.int v1), some (.int v2), none] [] I
def hX9_cutSide_30 (N : Nat) (v1 : Int32) (v2 : Int32) (s1 : Int32) (I : gM) : gO := fX9_cutSide_k30 N [some (.ref 0), some (.int v1), some (.int v2), none] [.int s1, .ref 0] I
theorem eX9_cutSide_0 (N : Nat) (v1 : Int32) (v2 : Int32) (I : gM) : hX9_cutSide_0 N v1 v2 I =
  hI (fX9_areNodes N [.ref 0, .int v1, .int v2] (gS (rg 0 18) (gU I 0 0 0))) (rg 0 18) (gU I 0 0 0) fun x1 I1 => hI (fX9_fails N [.ref 0, .int x1, .int 1] (gS (rg 0 18) I1)) (rg 0 18) I1 fun x2 I2 => if gz_ne x2 = true then (some (.inl (some (.int 0)), I2)) else (if gc_eq v1 v2 = true then (hX9_cutSide_30 N v1 v2 0 I2) else (hX9_cutSide_30 N v1 v2 1 I2)) := rfl
theorem eX9_cutSide_30 (N : Nat) (v1 : Int32) (v2 : Int32) (s1 : Int32) (I : gM) : hX9_cutSide_30 N v1 v2 s1 I =
  hI (fX9_fails N [.ref 0, .int s1, .int 2] (gS (rg 0 18) I)) (rg 0 18) I fun x3 I3 => if gz_eq x3 = true then (hI (fX9_greatestFlow N [.ref 0, .int v1, .int v2] (gS (rg 0 18) I3)) (rg 0 18) I3 fun x4 I4 => some (.inl (some (.int (I4 0 30))), I4)) else (some (.inl (some (.int 0)), I3)) := rfl
theorem eX9_cutSide (N : Nat) (v1 : Int32) (v2 : Int32) (I : gM) : fX9_cutSide N [.ref 0, .int v1, .int v2] I = hX9_cutSide_0 N v1 v2 I := rfl

def hX9_overloaded_0 (N : Nat) (I : gM) : gO := fX9_overloaded_k0 N [some (.ref 0), none, none] [] I
def hX9_overloaded_9 (N : Nat) (n9 : Nat) (v1 : Int32) (v2 : Int32) (I : gM) : gO := s_lp (fX9_overloaded_b9 N) n9 [some (.ref 0), some (.int v1), some (.int v2)] [] I
def hX9_overloaded_55 (N : Nat) (n9 : Nat) (v2 : Int32) (s0 : Int32) (s1 : Int32) (I : gM) : gO := fX9_overloaded_k55 N (s_lp (fX9_overloaded_b9 N) n9) [some (.ref 0), none, some (.int v2)] [.int s1, .int s0] I
theorem eX9_overloaded_0 (N : Nat) (I : gM) : hX9_overloaded_0 N I =
  hX9_overloaded_9 N N 0 0 (gU I 0 0 0) := rfl
theorem eX9_overloaded_9 (N : Nat) (n9 : Nat) (v1 : Int32) (v2 : Int32) (I : gM) : hX9_overloaded_9 N (n9 + 1) v1 v2 I =
  ck 2746 2 <| if gc_ge v2 ((I 3 (nn 2))) = true then (some (.inl (some (.int v1)), I)) else (hI (fX9_flowPart N [.ref 0, .int v2, .int 2] (gS (rg 0 18) I)) (rg 0 18) I fun x1 I1 => hI (fX9_flowPart N [.ref 0, .int v2, .int 0] (gS (rg 0 18) I1)) (rg 0 18) I1 fun x2 I2 => hI (fX9_flowPart N [.ref 0, .int v2, .int 1] (gS (rg 0 18) I2)) (rg 0 18) I2 fun x3 I3 => hI (fX9_greatestFlow N [.ref 0, .int x2, .int x3] (gS (rg 0 18) I3)) (rg 0 18) I3 fun x4 I4 => if gc_le x1 (100 * x4) = true then (hX9_overloaded_55 N n9 v2 v1 0 I4) else (hX9_overloaded_55 N n9 v2 v1 (gb_shl 1 v2) I4)) := rfl
theorem eX9_overloaded_9z (N : Nat) (v1 : Int32) (v2 : Int32) (I : gM) : hX9_overloaded_9 N 0 v1 v2 I = none := rfl
theorem eX9_overloaded_55 (N : Nat) (n9 : Nat) (v2 : Int32) (s0 : Int32) (s1 : Int32) (I : gM) : hX9_overloaded_55 N n9 v2 s0 s1 I =
  hX9_overloaded_9 N n9 (s0 ||| s1) (v2 + 1) I := rfl
theorem eX9_overloaded (N : Nat) (I : gM) : fX9_overloaded N [.ref 0] I = hX9_overloaded_0 N I := rfl

def hX9_queue_0 (N : Nat) (v1 : Int32) (v2 : Int32) (I : gM) : gO := fX9_queue_k0 N [some (.ref 0), some (.int v1), some (.int v2)] [] I
def hX9_queue_37 (N : Nat) (I : gM) : gO := fX9_queue_k37 N [none, none, none] [] I
def hX9_queue_30 (N : Nat) (v1 : Int32) (v2 : Int32) (s1 : Int32) (I : gM) : gO := fX9_queue_k30 N [some (.ref 0), some (.int v1), some (.int v2)] [.int s1, .ref 0] I
theorem eX9_queue_0 (N : Nat) (v1 : Int32) (v2 : Int32) (I : gM) : hX9_queue_0 N v1 v2 I =
  hI (fX9_areNodes N [.ref 0, .int v1, .int v2] (gS (rg 0 18) (gU I 0 0 0))) (rg 0 18) (gU I 0 0 0) fun x1 I1 => hI (fX9_fails N [.ref 0, .int x1, .int 1] (gS (rg 0 18) I1)) (rg 0 18) I1 fun x2 I2 => if gz_ne x2 = true then (hX9_queue_37 N I2) else (if gc_eq v1 v2 = true then (hX9_queue_30 N v1 v2 0 I2) else (hX9_queue_30 N v1 v2 1 I2)) := rfl
theorem eX9_queue_37 (N : Nat) (I : gM) : hX9_queue_37 N I =
  some (.inl (some (.int 0)), I) := rfl
theorem eX9_queue_30 (N : Nat) (v1 : Int32) (v2 : Int32) (s1 : Int32) (I : gM) : hX9_queue_30 N v1 v2 s1 I =
  hI (fX9_fails N [.ref 0, .int s1, .int 2] (gS (rg 0 18) I)) (rg 0 18) I fun x3 I3 => if gz_eq x3 = true then (hI (fX9_queued N [.ref 0, .int v1, .int v2] (gS (rg 0 18) I3)) (rg 0 18) I3 fun x4 I4 => some (.inl (some (.int x4)), I4)) else (hX9_queue_37 N I3) := rfl
theorem eX9_queue (N : Nat) (v1 : Int32) (v2 : Int32) (I : gM) : fX9_queue N [.ref 0, .int v1, .int v2] I = hX9_queue_0 N v1 v2 I := rfl

def hX9_shadow_0 (N : Nat) (v1 : Int32) (v2 : Int32) (I : gM) : gO := fX9_shadow_k0 N [some (.ref 0), some (.int v1), some (.int v2)] [] I
def hX9_shadow_37 (N : Nat) (I : gM) : gO := fX9_shadow_k37 N [none, none, none] [] I
def hX9_shadow_30 (N : Nat) (v1 : Int32) (v2 : Int32) (s1 : Int32) (I : gM) : gO := fX9_shadow_k30 N [some (.ref 0), some (.int v1), some (.int v2)] [.int s1, .ref 0] I
theorem eX9_shadow_0 (N : Nat) (v1 : Int32) (v2 : Int32) (I : gM) : hX9_shadow_0 N v1 v2 I =
  hI (fX9_areNodes N [.ref 0, .int v1, .int v2] (gS (rg 0 18) (gU I 0 0 0))) (rg 0 18) (gU I 0 0 0) fun x1 I1 => hI (fX9_fails N [.ref 0, .int x1, .int 1] (gS (rg 0 18) I1)) (rg 0 18) I1 fun x2 I2 => if gz_ne x2 = true then (hX9_shadow_37 N I2) else (if gc_eq v1 v2 = true then (hX9_shadow_30 N v1 v2 0 I2) else (hX9_shadow_30 N v1 v2 1 I2)) := rfl
theorem eX9_shadow_37 (N : Nat) (I : gM) : hX9_shadow_37 N I =
  some (.inl (some (.int 0)), I) := rfl
theorem eX9_shadow_30 (N : Nat) (v1 : Int32) (v2 : Int32) (s1 : Int32) (I : gM) : hX9_shadow_30 N v1 v2 s1 I =
  hI (fX9_fails N [.ref 0, .int s1, .int 2] (gS (rg 0 18) I)) (rg 0 18) I fun x3 I3 => if gz_eq x3 = true then (hI (fX9_shadowOf N [.ref 0, .int v1, .int v2] (gS (rg 0 18) I3)) (rg 0 18) I3 fun x4 I4 => some (.inl (some (.int x4)), I4)) else (hX9_shadow_37 N I3) := rfl
theorem eX9_shadow (N : Nat) (v1 : Int32) (v2 : Int32) (I : gM) : fX9_shadow N [.ref 0, .int v1, .int v2] I = hX9_shadow_0 N v1 v2 I := rfl

def hX9_packet_0 (N : Nat) (v1 : Int32) (v2 : Int32) (v3 : Int32) (v4 : Int32) (I : gM) : gO := fX9_packet_k0 N [some (.ref 0), some (.int v1), some (.int v2), some (.int v3), some (.int v4), none, none] [] I
def hX9_packet_42 (N : Nat) (v1 : Int32) (v2 : Int32) (v3 : Int32) (v4 : Int32) (I : gM) : gO := fX9_packet_k42 N [some (.ref 0), some (.int v1), some (.int v2), some (.int v3), some (.int v4), none, none] [.ref 0] I
def hX9_packet_43 (N : Nat) (v1 : Int32) (v2 : Int32) (v3 : Int32) (v4 : Int32) (s1 : Int32) (I : gM) : gO := fX9_packet_k43 N [some (.ref 0), some (.int v1), some (.int v2), some (.int v3), some (.int v4), none, none] [.int s1, .ref 0] I
def hX9_packet_58 (N : Nat) (n58 : Nat) (v1 : Int32) (v2 : Int32) (v3 : Int32) (v4 : Int32) (v5 : Int32) (v6 : Int32) (I : gM) : gO := s_lp (fX9_packet_b58 N) n58 [some (.ref 0), some (.int v1), some (.int v2), some (.int v3), some (.int v4), some (.int v5), some (.int v6)] [] I
def hX9_packet_109 (N : Nat) (I : gM) : gO := fX9_packet_k109 N [some (.ref 0), none, none, none, none, none, none] [] I
def hX9_packet_103 (N : Nat) (n58 : Nat) (v1 : Int32) (v2 : Int32) (v3 : Int32) (v4 : Int32) (v5 : Int32) (v6 : Int32) (I : gM) : gO := fX9_packet_k103 N (s_lp (fX9_packet_b58 N) n58) [some (.ref 0), some (.int v1), some (.int v2), some (.int v3), some (.int v4), some (.int v5), some (.int v6)] [] I
theorem eX9_packet_0 (N : Nat) (v1 : Int32) (v2 : Int32) (v3 : Int32) (v4 : Int32) (I : gM) : hX9_packet_0 N v1 v2 v3 v4 I =
  hI (fX9_areNodes N [.ref 0, .int v1, .int v2] (gS (rg 0 18) (gU I 0 0 0))) (rg 0 18) (gU I 0 0 0) fun x1 I1 => hI (fX9_fails N [.ref 0, .int x1, .int 1] (gS (rg 0 18) I1)) (rg 0 18) I1 fun x2 I2 => if gz_ne x2 = true then (some (.inl (some (.int 0)), I2)) else (if gc_eq v1 v2 = true then (hX9_packet_42 N v1 v2 v3 v4 I2) else (hI (fX9_in N [.long ((v4).toInt64), .long 0, .long 3] (gS [] I2)) [] I2 fun x3 I3 => if gz_eq x3 = true then (hX9_packet_42 N v1 v2 v3 v4 I3) else (hX9_packet_43 N v1 v2 v3 v4 1 I3))) := rfl
theorem eX9_packet_42 (N : Nat) (v1 : Int32) (v2 : Int32) (v3 : Int32) (v4 : Int32) (I : gM) : hX9_packet_42 N v1 v2 v3 v4 I =
  hX9_packet_43 N v1 v2 v3 v4 0 I := rfl
theorem eX9_packet_43 (N : Nat) (v1 : Int32) (v2 : Int32) (v3 : Int32) (v4 : Int32) (s1 : Int32) (I : gM) : hX9_packet_43 N v1 v2 v3 v4 s1 I =
  hI (fX9_fails N [.ref 0, .int s1, .int 2] (gS (rg 0 18) I)) (rg 0 18) I fun x4 I4 => if gz_eq x4 = true then (hX9_packet_58 N N v1 v2 v3 v4 v3 0 I4) else (some (.inl (some (.int 0)), I4)) := rfl
theorem eX9_packet_58 (N : Nat) (n58 : Nat) (v1 : Int32) (v2 : Int32) (v3 : Int32) (v4 : Int32) (v5 : Int32) (v6 : Int32) (I : gM) : hX9_packet_58 N (n58 + 1) v1 v2 v3 v4 v5 v6 I =
  ck 2746 245 <| if gc_ge v6 ((I 3 (nn 245))) = true then (hX9_packet_109 N I) else (if gz_lt v3 = true then (hX9_packet_109 N I) else (hI (fX9_isQueued N [.ref 0, .int v6, .int v1, .int v2] (gS (rg 0 18) I)) (rg 0 18) I fun x5 I5 => if gz_eq x5 = true then (hX9_packet_103 N n58 v1 v2 v3 v4 v5 v6 I5) else (if gz_ne v5 = true then (hX9_packet_103 N n58 v1 v2 v3 v4 ((v5 + (-1))) v6 I5) else (hI (fX9_packetPart N [.ref 0, .int v6, .int v4] (gS (rg 0 18) I5)) (rg 0 18) I5 fun x6 I6 => some (.inl (some (.int x6)), I6))))) := rfl
theorem eX9_packet_58z (N : Nat) (v1 : Int32) (v2 : Int32) (v3 : Int32) (v4 : Int32) (v5 : Int32) (v6 : Int32) (I : gM) : hX9_packet_58 N 0 v1 v2 v3 v4 v5 v6 I = none := rfl
theorem eX9_packet_109 (N : Nat) (I : gM) : hX9_packet_109 N I =
  some (.inl (some (.int 0)), (gU I 0 0 3)) := rfl
theorem eX9_packet_103 (N : Nat) (n58 : Nat) (v1 : Int32) (v2 : Int32) (v3 : Int32) (v4 : Int32) (v5 : Int32) (v6 : Int32) (I : gM) : hX9_packet_103 N n58 v1 v2 v3 v4 v5 v6 I =
  hX9_packet_58 N n58 v1 v2 v3 v4 v5 (v6 + 1) I := rfl
theorem eX9_packet (N : Nat) (v1 : Int32) (v2 : Int32) (v3 : Int32) (v4 : Int32) (I : gM) : fX9_packet N [.ref 0, .int v1, .int v2, .int v3, .int v4] I = hX9_packet_0 N v1 v2 v3 v4 I := rfl

def hX9_squares_0 (N : Nat) (I : gM) : gO := fX9_squares_k0 N [some (.ref 0), none, none, none, none, none, none] [] I
def hX9_squares_4 (N : Nat) (n4 : Nat) (v1 : Int64) (v3 : Int32) (I : gM) : gO := s_lp (fX9_squares_b4 N) n4 [some (.ref 0), some (.long v1), none, some (.int v3), none, none, none] [] I
def hX9_squares_17 (N : Nat) (n4 : Nat) (n17 : Nat) (v1 : Int64) (v3 : Int32) (v4 : Int32) (I : gM) : gO := s_lp (fX9_squares_b17 N (s_lp (fX9_squares_b4 N) n4)) n17 [some (.ref 0), some (.long v1), none, some (.int v3), some (.int v4), none, none] [] I
theorem eX9_squares_0 (N : Nat) (I : gM) : hX9_squares_0 N I =
  hX9_squares_4 N N 0 0 I := rfl
theorem eX9_squares_4 (N : Nat) (n4 : Nat) (v1 : Int64) (v3 : Int32) (I : gM) : hX9_squares_4 N (n4 + 1) v1 v3 I =
  ck 2746 0 <| if gc_ge v3 ((I 3 (nn 0))) = true then (some (.inl (some (.long v1)), I)) else (hX9_squares_17 N n4 N v1 v3 0 I) := rfl
theorem eX9_squares_4z (N : Nat) (v1 : Int64) (v3 : Int32) (I : gM) : hX9_squares_4 N 0 v1 v3 I = none := rfl
theorem eX9_squares_17 (N : Nat) (n4 : Nat) (n17 : Nat) (v1 : Int64) (v3 : Int32) (v4 : Int32) (I : gM) : hX9_squares_17 N n4 (n17 + 1) v1 v3 v4 I =
  ck 2746 0 <| if gc_ge v4 ((I 3 (nn 0))) = true then (hX9_squares_4 N n4 v1 (v3 + 1) I) else (hI (fX9_queued N [.ref 0, .int v3, .int v4] (gS (rg 0 18) I)) (rg 0 18) I fun x1 I1 => hX9_squares_17 N n4 n17 ((v1 + ((((x1).toInt64) * ((x1).toInt64))))) v3 (v4 + 1) I1) := rfl
theorem eX9_squares_17z (N : Nat) (n4 : Nat) (v1 : Int64) (v3 : Int32) (v4 : Int32) (I : gM) : hX9_squares_17 N n4 0 v1 v3 v4 I = none := rfl
theorem eX9_squares (N : Nat) (I : gM) : fX9_squares N [.ref 0] I = hX9_squares_0 N I := rfl

def hX9_totalOf_0 (N : Nat) (v1 : Int32) (I : gM) : gO := fX9_totalOf_k0 N [some (.ref 0), some (.int v1)] [] I
theorem eX9_totalOf_0 (N : Nat) (v1 : Int32) (I : gM) : hX9_totalOf_0 N v1 I =
  hT v1 0 4 (hJ (fX9_shadows N [.ref 0, .int 1] (gS (rg 0 18) I)) (rg 0 18) I fun x1 I1 => some (.inl (some (.long x1)), I1)) [ck 2746 7 <| some (.inl (some (.long (((I 3 (nn 7))).toInt64))), I), ck 2746 245 <| some (.inl (some (.long (((I 3 (nn 245))).toInt64))), I), ck 2746 8 <| some (.inl (some (.long (((I 3 (nn 8))).toInt64))), I), hJ (fX9_shadows N [.ref 0, .int 0] (gS (rg 0 18) I)) (rg 0 18) I fun x2 I2 => some (.inl (some (.long x2)), I2), hJ (fX9_squares N [.ref 0] (gS (rg 0 18) I)) (rg 0 18) I fun x3 I3 => some (.inl (some (.long x3)), I3)] := rfl
theorem eX9_totalOf (N : Nat) (v1 : Int32) (I : gM) : fX9_totalOf N [.ref 0, .int v1] I = hX9_totalOf_0 N v1 I := rfl

def hX9_total_0 (N : Nat) (v1 : Int32) (I : gM) : gO := fX9_total_k0 N [some (.ref 0), some (.int v1)] [] I
theorem eX9_total_0 (N : Nat) (v1 : Int32) (I : gM) : hX9_total_0 N v1 I =
  hI (fX9_in N [.long ((v1).toInt64), .long 0, .long 5] (gS [] (gU I 0 0 0))) [] (gU I 0 0 0) fun x1 I1 => hI (fX9_fails N [.ref 0, .int x1, .int 1] (gS (rg 0 18) I1)) (rg 0 18) I1 fun x2 I2 => if gz_eq x2 = true then (hJ (fX9_totalOf N [.ref 0, .int v1] (gS (rg 0 18) I2)) (rg 0 18) I2 fun x3 I3 => some (.inl (some (.long x3)), I3)) else (some (.inl (some (.long 0)), I2)) := rfl
theorem eX9_total (N : Nat) (v1 : Int32) (I : gM) : fX9_total N [.ref 0, .int v1] I = hX9_total_0 N v1 I := rfl

def hX9_fullest_0 (N : Nat) (I : gM) : gO := fX9_fullest_k0 N [some (.ref 0), none, none, none, none, none] [] I
def hX9_fullest_11 (N : Nat) (n11 : Nat) (v1 : Int32) (v2 : Int32) (v3 : Int32) (I : gM) : gO := s_lp (fX9_fullest_b11 N) n11 [some (.ref 0), some (.int v1), some (.int v2), some (.int v3), none, none] [] I
def hX9_fullest_92 (N : Nat) (v1 : Int32) (s1 : Int32) (I : gM) : gO := fX9_fullest_k92 N [none, some (.int v1), none, none, none, none] [.int s1, .ref 0] I
def hX9_fullest_24 (N : Nat) (n11 : Nat) (n24 : Nat) (v1 : Int32) (v2 : Int32) (v3 : Int32) (v4 : Int32) (I : gM) : gO := s_lp (fX9_fullest_b24 N (s_lp (fX9_fullest_b11 N) n11)) n24 [some (.ref 0), some (.int v1), some (.int v2), some (.int v3), some (.int v4), none] [] I
def hX9_fullest_61 (N : Nat) (n11 : Nat) (n24 : Nat) (v2 : Int32) (v3 : Int32) (v4 : Int32) (v5 : Int32) (s0 : Int32) (I : gM) : gO := fX9_fullest_k61 N (s_lp (fX9_fullest_b11 N) n11) (s_lp (fX9_fullest_b24 N (s_lp (fX9_fullest_b11 N) n11)) n24) [some (.ref 0), none, some (.int v2), some (.int v3), some (.int v4), some (.int v5)] [.int s0] I
theorem eX9_fullest_0 (N : Nat) (I : gM) : hX9_fullest_0 N I =
  hX9_fullest_11 N N (-1) 0 0 (gU I 0 0 0) := rfl
theorem eX9_fullest_11 (N : Nat) (n11 : Nat) (v1 : Int32) (v2 : Int32) (v3 : Int32) (I : gM) : hX9_fullest_11 N (n11 + 1) v1 v2 v3 I =
  ck 2746 0 <| if gc_ge v3 ((I 3 (nn 0))) = true then (if gc_eq v1 (-1) = true then (hX9_fullest_92 N v1 0 I) else (hX9_fullest_92 N v1 1 I)) else (hX9_fullest_24 N n11 N v1 v2 v3 0 I) := rfl
theorem eX9_fullest_11z (N : Nat) (v1 : Int32) (v2 : Int32) (v3 : Int32) (I : gM) : hX9_fullest_11 N 0 v1 v2 v3 I = none := rfl
theorem eX9_fullest_92 (N : Nat) (v1 : Int32) (s1 : Int32) (I : gM) : hX9_fullest_92 N v1 s1 I =
  hI (fX9_fails N [.ref 0, .int s1, .int 1] (gS (rg 0 18) I)) (rg 0 18) I fun x1 I1 => if gz_eq x1 = true then (some (.inl (some (.int v1)), I1)) else (some (.inl (some (.int 0)), I1)) := rfl
theorem eX9_fullest_24 (N : Nat) (n11 : Nat) (n24 : Nat) (v1 : Int32) (v2 : Int32) (v3 : Int32) (v4 : Int32) (I : gM) : hX9_fullest_24 N n11 (n24 + 1) v1 v2 v3 v4 I =
  ck 2746 0 <| if gc_ge v4 ((I 3 (nn 0))) = true then (hX9_fullest_11 N n11 v1 v2 (v3 + 1) I) else (hI (fX9_queued N [.ref 0, .int v3, .int v4] (gS (rg 0 18) I)) (rg 0 18) I fun x2 I2 => if gc_le x2 v2 = true then (hX9_fullest_61 N n11 n24 v2 v3 v4 x2 v1 I2) else (hX9_fullest_61 N n11 n24 v2 v3 v4 x2 (((100 * v3) + v4)) I2)) := rfl
theorem eX9_fullest_24z (N : Nat) (n11 : Nat) (v1 : Int32) (v2 : Int32) (v3 : Int32) (v4 : Int32) (I : gM) : hX9_fullest_24 N n11 0 v1 v2 v3 v4 I = none := rfl
theorem eX9_fullest_61 (N : Nat) (n11 : Nat) (n24 : Nat) (v2 : Int32) (v3 : Int32) (v4 : Int32) (v5 : Int32) (s0 : Int32) (I : gM) : hX9_fullest_61 N n11 n24 v2 v3 v4 v5 s0 I =
  hX9_fullest_24 N n11 n24 s0 (gj_max v2 v5) v3 (v4 + 1) I := rfl
theorem eX9_fullest (N : Nat) (I : gM) : fX9_fullest N [.ref 0] I = hX9_fullest_0 N I := rfl

def hX9_urgent_0 (N : Nat) (I : gM) : gO := fX9_urgent_k0 N [some (.ref 0), none, none, none, none] [] I
def hX9_urgent_9 (N : Nat) (n9 : Nat) (v1 : Int32) (v2 : Int32) (I : gM) : gO := s_lp (fX9_urgent_b9 N) n9 [some (.ref 0), some (.int v1), some (.int v2), none, none] [] I
def hX9_urgent_94 (N : Nat) (v1 : Int32) (s1 : Int32) (I : gM) : gO := fX9_urgent_k94 N [none, some (.int v1), none, none, none] [.int s1, .ref 0] I
def hX9_urgent_75 (N : Nat) (n9 : Nat) (v1 : Int32) (v2 : Int32) (I : gM) : gO := fX9_urgent_k75 N (s_lp (fX9_urgent_b9 N) n9) [some (.ref 0), some (.int v1), some (.int v2), none, none] [] I
def hX9_urgent_70 (N : Nat) (n9 : Nat) (v2 : Int32) (v4 : Int32) (I : gM) : gO := fX9_urgent_k70 N (s_lp (fX9_urgent_b9 N) n9) [some (.ref 0), none, some (.int v2), none, some (.int v4)] [] I
def hX9_urgent_76 (N : Nat) (n9 : Nat) (v2 : Int32) (s0 : Int32) (I : gM) : gO := fX9_urgent_k76 N (s_lp (fX9_urgent_b9 N) n9) [some (.ref 0), none, some (.int v2), none, none] [.int s0] I
theorem eX9_urgent_0 (N : Nat) (I : gM) : hX9_urgent_0 N I =
  hX9_urgent_9 N N (-1) 0 (gU I 0 0 0) := rfl
theorem eX9_urgent_9 (N : Nat) (n9 : Nat) (v1 : Int32) (v2 : Int32) (I : gM) : hX9_urgent_9 N (n9 + 1) v1 v2 I =
  ck 2746 245 <| if gc_ge v2 ((I 3 (nn 245))) = true then (if gc_eq v1 (-1) = true then (hX9_urgent_94 N v1 0 I) else (hX9_urgent_94 N v1 1 I)) else (hI (fX9_packetPart N [.ref 0, .int v2, .int 0] (gS (rg 0 18) I)) (rg 0 18) I fun x1 I1 => hI (fX9_flowPart N [.ref 0, .int x1, .int 3] (gS (rg 0 18) I1)) (rg 0 18) I1 fun x2 I2 => hI (fX9_packetPart N [.ref 0, .int v2, .int 1] (gS (rg 0 18) I2)) (rg 0 18) I2 fun x3 I3 => ck 2746 7 <| if gz_le x2 = true then (hX9_urgent_75 N n9 v1 v2 I3) else (if gc_eq v1 (-1) = true then (hX9_urgent_70 N n9 v2 ((gj_max 0 (((x3 + x2) - ((I3 3 (nn 7))))))) I3) else (if gc_ge ((gj_max 0 (((x3 + x2) - ((I3 3 (nn 7))))))) v1 = true then (hX9_urgent_75 N n9 v1 v2 I3) else (hX9_urgent_70 N n9 v2 ((gj_max 0 (((x3 + x2) - ((I3 3 (nn 7))))))) I3)))) := rfl
theorem eX9_urgent_9z (N : Nat) (v1 : Int32) (v2 : Int32) (I : gM) : hX9_urgent_9 N 0 v1 v2 I = none := rfl
theorem eX9_urgent_94 (N : Nat) (v1 : Int32) (s1 : Int32) (I : gM) : hX9_urgent_94 N v1 s1 I =
  hI (fX9_fails N [.ref 0, .int s1, .int 1] (gS (rg 0 18) I)) (rg 0 18) I fun x4 I4 => if gz_eq x4 = true then (some (.inl (some (.int v1)), I4)) else (some (.inl (some (.int 0)), I4)) := rfl
theorem eX9_urgent_75 (N : Nat) (n9 : Nat) (v1 : Int32) (v2 : Int32) (I : gM) : hX9_urgent_75 N n9 v1 v2 I =
  hX9_urgent_76 N n9 v2 v1 I := rfl
theorem eX9_urgent_70 (N : Nat) (n9 : Nat) (v2 : Int32) (v4 : Int32) (I : gM) : hX9_urgent_70 N n9 v2 v4 I =
  hX9_urgent_76 N n9 v2 v4 I := rfl
theorem eX9_urgent_76 (N : Nat) (n9 : Nat) (v2 : Int32) (s0 : Int32) (I : gM) : hX9_urgent_76 N n9 v2 s0 I =
  hX9_urgent_9 N n9 s0 (v2 + 1) I := rfl
theorem eX9_urgent (N : Nat) (I : gM) : fX9_urgent N [.ref 0] I = hX9_urgent_0 N I := rfl

def hX9_sumOf_0 (N : Nat) (v1 : Int32) (I : gM) : gO := fX9_sumOf_k0 N [some (.ref 0), some (.int v1), none, none] [] I
def hX9_sumOf_4 (N : Nat) (n4 : Nat) (v1 : Int32) (v2 : Int32) (v3 : Int32) (I : gM) : gO := s_lp (fX9_sumOf_b4 N) n4 [some (.ref 0), some (.int v1), some (.int v2), some (.int v3)] [] I
theorem eX9_sumOf_0 (N : Nat) (v1 : Int32) (I : gM) : hX9_sumOf_0 N v1 I =
  hX9_sumOf_4 N N v1 0 0 I := rfl
theorem eX9_sumOf_4 (N : Nat) (n4 : Nat) (v1 : Int32) (v2 : Int32) (v3 : Int32) (I : gM) : hX9_sumOf_4 N (n4 + 1) v1 v2 v3 I =
  ck 2746 2 <| if gc_ge v3 ((I 3 (nn 2))) = true then (some (.inl (some (.int v2)), I)) else (hI (fX9_flowPart N [.ref 0, .int v3, .int v1] (gS (rg 0 18) I)) (rg 0 18) I fun x1 I1 => hX9_sumOf_4 N n4 v1 (v2 + x1) (v3 + 1) I1) := rfl
theorem eX9_sumOf_4z (N : Nat) (v1 : Int32) (v2 : Int32) (v3 : Int32) (I : gM) : hX9_sumOf_4 N 0 v1 v2 v3 I = none := rfl
theorem eX9_sumOf (N : Nat) (v1 : Int32) (I : gM) : fX9_sumOf N [.ref 0, .int v1] I = hX9_sumOf_0 N v1 I := rfl

def hX9_search_0 (N : Nat) (g : List Value → gM → Option (gR × gM)) (v1 : Int32) (v2 : Int32) (v3 : Int32) (v4 : Int32) (I : gM) : gO := fX9_search_k0 N g [some (.ref 0), some (.int v1), some (.int v2), some (.int v3), some (.int v4), none, none, none] [] I
def hX9_search_19 (N : Nat) (g : List Value → gM → Option (gR × gM)) (v1 : Int32) (v2 : Int32) (v3 : Int32) (v4 : Int32) (I : gM) : gO := fX9_search_k19 N g [some (.ref 0), some (.int v1), some (.int v2), some (.int v3), some (.int v4), none, none, none] [] I
def hX9_search_62 (N : Nat) (g : List Value → gM → Option (gR × gM)) (v1 : Int32) (v2 : Int32) (v3 : Int32) (v4 : Int32) (I : gM) : gO := fX9_search_k62 N g [some (.ref 0), some (.int v1), some (.int v2), some (.int v3), some (.int v4), none, none, none] [] I
def hX9_search_63 (N : Nat) (g : List Value → gM → Option (gR × gM)) (v1 : Int32) (v2 : Int32) (v3 : Int32) (v4 : Int32) (s0 : Int32) (I : gM) : gO := fX9_search_k63 N g [some (.ref 0), some (.int v1), some (.int v2), some (.int v3), some (.int v4), none, none, none] [.int s0] I
def hX9_search_93 (N : Nat) (g : List Value → gM → Option (gR × gM)) (v1 : Int32) (v2 : Int32) (v3 : Int32) (v5 : Int32) (v6 : Int32) (I : gM) : gO := fX9_search_k93 N g [some (.ref 0), some (.int v1), some (.int v2), some (.int v3), none, some (.int v5), some (.int v6), none] [] I
def hX9_search_94 (N : Nat) (g : List Value → gM → Option (gR × gM)) (v1 : Int32) (v2 : Int32) (v3 : Int32) (v5 : Int32) (v6 : Int32) (s0 : Int32) (I : gM) : gO := fX9_search_k94 N g [some (.ref 0), some (.int v1), some (.int v2), some (.int v3), none, some (.int v5), some (.int v6), none] [.int s0] I
def hX9_search_112 (N : Nat) (g : List Value → gM → Option (gR × gM)) (v1 : Int32) (v2 : Int32) (v3 : Int32) (v5 : Int32) (v6 : Int32) (I : gM) : gO := fX9_search_k112 N g [some (.ref 0), some (.int v1), some (.int v2), some (.int v3), none, some (.int v5), some (.int v6), none] [] I
theorem eX9_search_0 (N : Nat) (g : List Value → gM → Option (gR × gM)) (v1 : Int32) (v2 : Int32) (v3 : Int32) (v4 : Int32) (I : gM) : hX9_search_0 N g v1 v2 v3 v4 I =
  if gc_gt (v3 + v4) (I 0 24) = true then (hX9_search_19 N g v1 v2 v3 v4 I) else (if gz_lt (I 0 24) = true then (hX9_search_19 N g v1 v2 v3 v4 I) else (some (.inl none, I))) := rfl
theorem eX9_search_19 (N : Nat) (g : List Value → gM → Option (gR × gM)) (v1 : Int32) (v2 : Int32) (v3 : Int32) (v4 : Int32) (I : gM) : hX9_search_19 N g v1 v2 v3 v4 I =
  if gz_ge v1 = true then (ck 14 v1 <| if gz_le ((I 12 (nn v1))) = true then (hX9_search_62 N g v1 v2 v3 v4 I) else (ck 2746 (131 + v1) <| if gz_ne ((((I 3 ((nn (131 + v1))))) &&& v2)) = true then (hX9_search_62 N g v1 v2 v3 v4 I) else (hX9_search_63 N g v1 v2 v3 v4 1 I))) else (some (.inl none, (gU (gU I 0 23 v2) 0 24 v3))) := rfl
theorem eX9_search_62 (N : Nat) (g : List Value → gM → Option (gR × gM)) (v1 : Int32) (v2 : Int32) (v3 : Int32) (v4 : Int32) (I : gM) : hX9_search_62 N g v1 v2 v3 v4 I =
  hX9_search_63 N g v1 v2 v3 v4 0 I := rfl
theorem eX9_search_63 (N : Nat) (g : List Value → gM → Option (gR × gM)) (v1 : Int32) (v2 : Int32) (v3 : Int32) (v4 : Int32) (s0 : Int32) (I : gM) : hX9_search_63 N g v1 v2 v3 v4 s0 I =
  ck 14 v1 <| if gz_eq s0 = true then (hX9_search_93 N g v1 v2 v3 s0 ((v4 - ((I 12 (nn v1))))) I) else (hI (fX9_hasRival N [.ref 0, .int v1] (gS (rg 0 18) I)) (rg 0 18) I fun x1 I1 => if gz_ne x1 = true then (hX9_search_93 N g v1 v2 v3 s0 ((v4 - ((I 12 (nn v1))))) I1) else (hX9_search_94 N g v1 v2 v3 s0 ((v4 - ((I 12 (nn v1))))) 1 I1)) := rfl
theorem eX9_search_93 (N : Nat) (g : List Value → gM → Option (gR × gM)) (v1 : Int32) (v2 : Int32) (v3 : Int32) (v5 : Int32) (v6 : Int32) (I : gM) : hX9_search_93 N g v1 v2 v3 v5 v6 I =
  hX9_search_94 N g v1 v2 v3 v5 v6 0 I := rfl
theorem eX9_search_94 (N : Nat) (g : List Value → gM → Option (gR × gM)) (v1 : Int32) (v2 : Int32) (v3 : Int32) (v5 : Int32) (v6 : Int32) (s0 : Int32) (I : gM) : hX9_search_94 N g v1 v2 v3 v5 v6 s0 I =
  if gz_ne s0 = true then (hX9_search_112 N g v1 v2 v3 v5 v6 I) else (hV (g [.ref 0, .int (v1 - 1), .int v2, .int v3, .int v6] (gS (rg 0 18) I)) (rg 0 18) I fun I2 => hX9_search_112 N g v1 v2 v3 v5 v6 I2) := rfl
theorem eX9_search_112 (N : Nat) (g : List Value → gM → Option (gR × gM)) (v1 : Int32) (v2 : Int32) (v3 : Int32) (v5 : Int32) (v6 : Int32) (I : gM) : hX9_search_112 N g v1 v2 v3 v5 v6 I =
  if gz_eq v5 = true then (some (.inl none, I)) else (ck 14 v1 <| hV (g [.ref 0, .int (v1 - 1), .int ((v2 ||| (gb_shl 1 v1))), .int ((v3 + ((I 12 (nn v1))))), .int v6] (gS (rg 0 18) I)) (rg 0 18) I fun I3 => some (.inl none, I3)) := rfl
theorem eX9_search (N d : Nat) (v1 : Int32) (v2 : Int32) (v3 : Int32) (v4 : Int32) (I : gM) : fX9_search N (d + 1) [.ref 0, .int v1, .int v2, .int v3, .int v4] I = hX9_search_0 N (fX9_search N d) v1 v2 v3 v4 I := rfl

def hX9_exact_0 (N : Nat) (I : gM) : gO := fX9_exact_k0 N [some (.ref 0), none, none] [] I
def hX9_exact_4 (N : Nat) (n4 : Nat) (v1 : Int32) (v2 : Int32) (I : gM) : gO := s_lp (fX9_exact_b4 N) n4 [some (.ref 0), some (.int v1), some (.int v2)] [] I
theorem eX9_exact_0 (N : Nat) (I : gM) : hX9_exact_0 N I =
  hX9_exact_4 N N 0 0 I := rfl
theorem eX9_exact_4 (N : Nat) (n4 : Nat) (v1 : Int32) (v2 : Int32) (I : gM) : hX9_exact_4 N (n4 + 1) v1 v2 I =
  ck 2746 1 <| if gc_ge v2 ((I 3 (nn 1))) = true then (ck 2746 1 <| hV (fX9_search N 16 [.ref 0, .int ((((I 3 (nn 1))) - 1)), .int 0, .int 0, .int v1] (gS (rg 0 18) (gU (gU I 0 23 0) 0 24 (-1)))) (rg 0 18) (gU (gU I 0 23 0) 0 24 (-1)) fun I1 => some (.inl (some (.int (I1 0 23))), I1)) else (ck 14 v2 <| hX9_exact_4 N n4 ((v1 + ((I 12 (nn v2))))) (v2 + 1) I) := rfl
theorem eX9_exact_4z (N : Nat) (v1 : Int32) (v2 : Int32) (I : gM) : hX9_exact_4 N 0 v1 v2 I = none := rfl
theorem eX9_exact (N : Nat) (I : gM) : fX9_exact N [.ref 0] I = hX9_exact_0 N I := rfl

def hX9_scheduleBy_0 (N : Nat) (v1 : Int32) (I : gM) : gO := fX9_scheduleBy_k0 N [some (.ref 0), some (.int v1)] [] I
theorem eX9_scheduleBy_0 (N : Nat) (v1 : Int32) (I : gM) : hX9_scheduleBy_0 N v1 I =
  hV (fX9_layWeights N [.ref 0] (gS (rg 0 18) I)) (rg 0 18) I fun I1 => if gz_ne v1 = true then (hI (fX9_exact N [.ref 0] (gS (rg 0 18) I1)) (rg 0 18) I1 fun x2 I2 => some (.inl (some (.int x2)), I2)) else (hI (fX9_greedy N [.ref 0] (gS (rg 0 18) I1)) (rg 0 18) I1 fun x3 I3 => some (.inl (some (.int x3)), I3)) := rfl
theorem eX9_scheduleBy (N : Nat) (v1 : Int32) (I : gM) : fX9_scheduleBy N [.ref 0, .int v1] I = hX9_scheduleBy_0 N v1 I := rfl

def hX9_slot_0 (N : Nat) (I : gM) : gO := fX9_slot_k0 N [some (.ref 0)] [] I
theorem eX9_slot_0 (N : Nat) (I : gM) : hX9_slot_0 N I =
  hV (fX9_arrivals N [.ref 0] (gS (rg 0 18) I)) (rg 0 18) I fun I1 => ck 2746 6 <| hI (fX9_scheduleBy N [.ref 0, .int ((I1 3 (nn 6)))] (gS (rg 0 18) I1)) (rg 0 18) I1 fun x2 I2 => hV (fX9_transmit N [.ref 0, .int x2] (gS (rg 0 18) I2)) (rg 0 18) I2 fun I3 => hV (fX9_expire N [.ref 0] (gS (rg 0 18) I3)) (rg 0 18) I3 fun I4 => ck 2746 7 <| ck 2746 7 <| ck 2746 8 <| ck 2746 245 <| ck 2746 8 <| some (.inl none, (gU (gU I4 3 (nn 7) ((((I4 3 (nn 7))) + 1))) 3 (nn 8) ((gj_max (((gU I4 3 (nn 7) ((((I4 3 (nn 7))) + 1))) 3 (nn 8))) (((gU I4 3 (nn 7) ((((I4 3 (nn 7))) + 1))) 3 (nn 245))))))) := rfl
theorem eX9_slot (N : Nat) (I : gM) : fX9_slot N [.ref 0] I = hX9_slot_0 N I := rfl

def hX9_slots_0 (N : Nat) (v1 : Int32) (I : gM) : gO := fX9_slots_k0 N [some (.ref 0), some (.int v1), none] [] I
def hX9_slots_2 (N : Nat) (n2 : Nat) (v1 : Int32) (v2 : Int32) (I : gM) : gO := s_lp (fX9_slots_b2 N) n2 [some (.ref 0), some (.int v1), some (.int v2)] [] I
theorem eX9_slots_0 (N : Nat) (v1 : Int32) (I : gM) : hX9_slots_0 N v1 I =
  hX9_slots_2 N N v1 0 I := rfl
theorem eX9_slots_2 (N : Nat) (n2 : Nat) (v1 : Int32) (v2 : Int32) (I : gM) : hX9_slots_2 N (n2 + 1) v1 v2 I =
  if gc_ge v2 v1 = true then (some (.inl none, I)) else (hV (fX9_slot N [.ref 0] (gS (rg 0 18) I)) (rg 0 18) I fun I1 => hX9_slots_2 N n2 v1 (v2 + 1) I1) := rfl
theorem eX9_slots_2z (N : Nat) (v1 : Int32) (v2 : Int32) (I : gM) : hX9_slots_2 N 0 v1 v2 I = none := rfl
theorem eX9_slots (N : Nat) (v1 : Int32) (I : gM) : fX9_slots N [.ref 0, .int v1] I = hX9_slots_0 N v1 I := rfl

def hX9_run_0 (N : Nat) (v1 : Int32) (I : gM) : gO := fX9_run_k0 N [some (.ref 0), some (.int v1)] [] I
def hX9_run_32 (N : Nat) (v1 : Int32) (I : gM) : gO := fX9_run_k32 N [some (.ref 0), some (.int v1)] [.ref 0] I
def hX9_run_33 (N : Nat) (v1 : Int32) (s1 : Int32) (I : gM) : gO := fX9_run_k33 N [some (.ref 0), some (.int v1)] [.int s1, .ref 0] I
theorem eX9_run_0 (N : Nat) (v1 : Int32) (I : gM) : hX9_run_0 N v1 I =
  hI (fX9_areSlots N [.int v1] (gS [] (gU I 0 0 0))) [] (gU I 0 0 0) fun x1 I1 => if gz_eq x1 = true then (hX9_run_32 N v1 I1) else (ck 2746 7 <| if gc_gt ((((I1 3 (nn 7))) + v1)) 9999 = true then (hX9_run_32 N v1 I1) else (hX9_run_33 N v1 1 I1)) := rfl
theorem eX9_run_32 (N : Nat) (v1 : Int32) (I : gM) : hX9_run_32 N v1 I =
  hX9_run_33 N v1 0 I := rfl
theorem eX9_run_33 (N : Nat) (v1 : Int32) (s1 : Int32) (I : gM) : hX9_run_33 N v1 s1 I =
  hI (fX9_fails N [.ref 0, .int s1, .int 1] (gS (rg 0 18) I)) (rg 0 18) I fun x2 I2 => if gz_eq x2 = true then (hV (fX9_record N [.ref 0] (gS (rg 0 18) I2)) (rg 0 18) I2 fun I3 => hV (fX9_slots N [.ref 0, .int v1] (gS (rg 0 18) I3)) (rg 0 18) I3 fun I4 => ck 2746 245 <| some (.inl (some (.int ((I4 3 (nn 245))))), I4)) else (some (.inl (some (.int 0)), I2)) := rfl
theorem eX9_run (N : Nat) (v1 : Int32) (I : gM) : fX9_run N [.ref 0, .int v1] I = hX9_run_0 N v1 I := rfl

def hX9_carries_0 (N : Nat) (v1 : Int32) (I : gM) : gO := fX9_carries_k0 N [some (.ref 0), some (.int v1), none, none, none, none] [] I
def hX9_carries_37 (N : Nat) (n37 : Nat) (v1 : Int32) (v2 : Int32) (v3 : Int32) (v4 : Int32) (I : gM) : gO := s_lp (fX9_carries_b37 N) n37 [some (.ref 0), some (.int v1), some (.int v2), some (.int v3), some (.int v4), none] [] I
def hX9_carries_79 (N : Nat) (n37 : Nat) (v1 : Int32) (v2 : Int32) (v3 : Int32) (v4 : Int32) (I : gM) : gO := fX9_carries_k79 N (s_lp (fX9_carries_b37 N) n37) [some (.ref 0), some (.int v1), some (.int v2), some (.int v3), some (.int v4), none] [] I
def hX9_carries_80 (N : Nat) (n37 : Nat) (v1 : Int32) (v2 : Int32) (v3 : Int32) (v4 : Int32) (s0 : Int32) (I : gM) : gO := fX9_carries_k80 N (s_lp (fX9_carries_b37 N) n37) [some (.ref 0), some (.int v1), some (.int v2), some (.int v3), some (.int v4), none] [.int s0] I
def hX9_carries_111 (N : Nat) (n37 : Nat) (v1 : Int32) (v2 : Int32) (v4 : Int32) (s0 : Int32) (I : gM) : gO := fX9_carries_k111 N (s_lp (fX9_carries_b37 N) n37) [some (.ref 0), some (.int v1), some (.int v2), none, some (.int v4), none] [.int s0] I
def hX9_carries_112 (N : Nat) (n37 : Nat) (v1 : Int32) (v2 : Int32) (v4 : Int32) (s0 : Int32) (s1 : Int32) (I : gM) : gO := fX9_carries_k112 N (s_lp (fX9_carries_b37 N) n37) [some (.ref 0), some (.int v1), some (.int v2), none, some (.int v4), none] [.int s1, .int s0] I
theorem eX9_carries_0 (N : Nat) (v1 : Int32) (I : gM) : hX9_carries_0 N v1 I =
  ck 2746 6 <| hI (fX9_scheduleBy N [.ref 0, .int ((I 3 (nn 6)))] (gS (rg 0 18) I)) (rg 0 18) I fun x1 I1 => hI (fX9_linkPart N [.ref 0, .int v1, .int 0] (gS (rg 0 18) I1)) (rg 0 18) I1 fun x2 I2 => ck 14 v1 <| ck 100 (((10 * x2) + ((I2 11 (nn v1))))) <| hX9_carries_37 N N v1 x1 ((I2 10 ((nn (((10 * x2) + ((I2 11 (nn v1))))))))) 0 I2 := rfl
theorem eX9_carries_37 (N : Nat) (n37 : Nat) (v1 : Int32) (v2 : Int32) (v3 : Int32) (v4 : Int32) (I : gM) : hX9_carries_37 N (n37 + 1) v1 v2 v3 v4 I =
  if gc_ge v4 v1 = true then (hI (fX9_linkPart N [.ref 0, .int v1, .int 2] (gS (rg 0 18) I)) (rg 0 18) I fun x3 I3 => some (.inl (some (.int (gj_min v3 x3))), I3)) else (hI (fX9_linkPart N [.ref 0, .int v4, .int 0] (gS (rg 0 18) I)) (rg 0 18) I fun x4 I4 => hI (fX9_linkPart N [.ref 0, .int v1, .int 0] (gS (rg 0 18) I4)) (rg 0 18) I4 fun x5 I5 => if gc_ne x4 x5 = true then (hX9_carries_79 N n37 v1 v2 v3 v4 I5) else (ck 14 v4 <| ck 14 v1 <| if gc_ne ((I5 11 (nn v4))) ((I5 11 (nn v1))) = true then (hX9_carries_79 N n37 v1 v2 v3 v4 I5) else (hX9_carries_80 N n37 v1 v2 v3 v4 1 I5))) := rfl
theorem eX9_carries_37z (N : Nat) (v1 : Int32) (v2 : Int32) (v3 : Int32) (v4 : Int32) (I : gM) : hX9_carries_37 N 0 v1 v2 v3 v4 I = none := rfl
theorem eX9_carries_79 (N : Nat) (n37 : Nat) (v1 : Int32) (v2 : Int32) (v3 : Int32) (v4 : Int32) (I : gM) : hX9_carries_79 N n37 v1 v2 v3 v4 I =
  hX9_carries_80 N n37 v1 v2 v3 v4 0 I := rfl
theorem eX9_carries_80 (N : Nat) (n37 : Nat) (v1 : Int32) (v2 : Int32) (v3 : Int32) (v4 : Int32) (s0 : Int32) (I : gM) : hX9_carries_80 N n37 v1 v2 v3 v4 s0 I =
  hI (fX9_has N [.int v2, .int v4] (gS [] I)) [] I fun x6 I6 => if gz_eq x6 = true then (hX9_carries_111 N n37 v1 v2 v4 v3 I6) else (if gz_eq s0 = true then (hX9_carries_111 N n37 v1 v2 v4 v3 I6) else (hI (fX9_linkPart N [.ref 0, .int v4, .int 2] (gS (rg 0 18) I6)) (rg 0 18) I6 fun x7 I7 => hX9_carries_112 N n37 v1 v2 v4 v3 (gj_min v3 x7) I7)) := rfl
theorem eX9_carries_111 (N : Nat) (n37 : Nat) (v1 : Int32) (v2 : Int32) (v4 : Int32) (s0 : Int32) (I : gM) : hX9_carries_111 N n37 v1 v2 v4 s0 I =
  hX9_carries_112 N n37 v1 v2 v4 s0 0 I := rfl
theorem eX9_carries_112 (N : Nat) (n37 : Nat) (v1 : Int32) (v2 : Int32) (v4 : Int32) (s0 : Int32) (s1 : Int32) (I : gM) : hX9_carries_112 N n37 v1 v2 v4 s0 s1 I =
  hX9_carries_37 N n37 v1 v2 (s0 - s1) (v4 + 1) I := rfl
theorem eX9_carries (N : Nat) (v1 : Int32) (I : gM) : fX9_carries N [.ref 0, .int v1] I = hX9_carries_0 N v1 I := rfl

def hX9_link_0 (N : Nat) (v1 : Int32) (v2 : Int32) (I : gM) : gO := fX9_link_k0 N [some (.ref 0), some (.int v1), some (.int v2), none, none] [] I
theorem eX9_link_0 (N : Nat) (v1 : Int32) (v2 : Int32) (I : gM) : hX9_link_0 N v1 v2 I =
  hI (fX9_isLink N [.ref 0, .int v1] (gS (rg 0 18) (gU I 0 0 0))) (rg 0 18) (gU I 0 0 0) fun x1 I1 => hI (fX9_fails N [.ref 0, .int x1, .int 1] (gS (rg 0 18) I1)) (rg 0 18) I1 fun x2 I2 => if gz_ne x2 = true then (some (.inl (some (.int 0)), I2)) else (hI (fX9_in N [.long ((v2).toInt64), .long 0, .long 7] (gS [] I2)) [] I2 fun x3 I3 => hI (fX9_fails N [.ref 0, .int x3, .int 2] (gS (rg 0 18) I3)) (rg 0 18) I3 fun x4 I4 => if gz_eq x4 = true then (if gc_ge v2 4 = true then (ck 2746 6 <| hI (fX9_scheduleBy N [.ref 0, .int ((I4 3 (nn 6)))] (gS (rg 0 18) I4)) (rg 0 18) I4 fun x5 I5 => if gc_ge v2 6 = true then (hI (fX9_has N [.int x5, .int v1] (gS [] I5)) [] I5 fun x6 I6 => if gc_ne v2 6 = true then (if gz_eq x6 = true then (some (.inl (some (.int 0)), I6)) else (hI (fX9_carries N [.ref 0, .int v1] (gS (rg 0 18) I6)) (rg 0 18) I6 fun x7 I7 => some (.inl (some (.int x7)), I7))) else (if gz_eq x6 = true then (some (.inl (some (.int 0)), I6)) else (some (.inl (some (.int 1)), I6)))) else (if gc_ne v2 4 = true then (ck 14 v1 <| some (.inl (some (.int ((I5 12 (nn v1))))), I5)) else (ck 14 v1 <| some (.inl (some (.int ((I5 11 (nn v1))))), I5)))) else (hI (fX9_linkPart N [.ref 0, .int v1, .int v2] (gS (rg 0 18) I4)) (rg 0 18) I4 fun x8 I8 => some (.inl (some (.int x8)), I8))) else (some (.inl (some (.int 0)), I4))) := rfl
theorem eX9_link (N : Nat) (v1 : Int32) (v2 : Int32) (I : gM) : fX9_link N [.ref 0, .int v1, .int v2] I = hX9_link_0 N v1 v2 I := rfl

def hX9_common_0 (N : Nat) (g : List Value → gM → Option (gR × gM)) (v0 : Int32) (v1 : Int32) (I : gM) : gO := fX9_common_k0 N g [some (.int v0), some (.int v1)] [] I
theorem eX9_common_0 (N : Nat) (g : List Value → gM → Option (gR × gM)) (v0 : Int32) (v1 : Int32) (I : gM) : hX9_common_0 N g v0 v1 I =
  if gz_ne v1 = true then (if v1 = 0 then none else hI (g [.int v1, .int (gb_rem v0 v1)] (gS [] I)) [] I fun x1 I1 => some (.inl (some (.int x1)), I1)) else (some (.inl (some (.int v0)), I)) := rfl
theorem eX9_common (N d : Nat) (v0 : Int32) (v1 : Int32) (I : gM) : fX9_common N (d + 1) [.int v0, .int v1] I = hX9_common_0 N (fX9_common N d) v0 v1 I := rfl

def hX9_meanDelay_0 (N : Nat) (v1 : Int32) (v2 : Int32) (I : gM) : gO := fX9_meanDelay_k0 N [some (.ref 0), some (.int v1), some (.int v2), none] [] I
def hX9_meanDelay_34 (N : Nat) (v1 : Int32) (v2 : Int32) (s1 : Int32) (I : gM) : gO := fX9_meanDelay_k34 N [some (.ref 0), some (.int v1), some (.int v2), none] [.int s1, .ref 0] I
def hX9_meanDelay_74 (N : Nat) (v3 : Int32) (s1 : Int32) (s2 : Int32) (I : gM) : gO := fX9_meanDelay_k74 N [none, none, none, some (.int v3)] [.int s2, .int s1, .ref 0] I
theorem eX9_meanDelay_0 (N : Nat) (v1 : Int32) (v2 : Int32) (I : gM) : hX9_meanDelay_0 N v1 v2 I =
  hI (fX9_isFlow N [.ref 0, .int v1] (gS (rg 0 18) (gU I 0 0 0))) (rg 0 18) (gU I 0 0 0) fun x1 I1 => hI (fX9_fails N [.ref 0, .int x1, .int 1] (gS (rg 0 18) I1)) (rg 0 18) I1 fun x2 I2 => if gz_ne x2 = true then (some (.inl (some (.int 0)), I2)) else (hI (fX9_flowPart N [.ref 0, .int v1, .int 6] (gS (rg 0 18) I2)) (rg 0 18) I2 fun x3 I3 => if gz_le x3 = true then (hX9_meanDelay_34 N v1 v2 0 I3) else (hX9_meanDelay_34 N v1 v2 1 I3)) := rfl
theorem eX9_meanDelay_34 (N : Nat) (v1 : Int32) (v2 : Int32) (s1 : Int32) (I : gM) : hX9_meanDelay_34 N v1 v2 s1 I =
  hI (fX9_fails N [.ref 0, .int s1, .int 2] (gS (rg 0 18) I)) (rg 0 18) I fun x4 I4 => if gz_eq x4 = true then (hI (fX9_flowPart N [.ref 0, .int v1, .int 9] (gS (rg 0 18) I4)) (rg 0 18) I4 fun x5 I5 => hI (fX9_flowPart N [.ref 0, .int v1, .int 6] (gS (rg 0 18) I5)) (rg 0 18) I5 fun x6 I6 => hI (fX9_common N 70 [.int x5, .int x6] (gS [] I6)) [] I6 fun x7 I7 => if gz_eq v2 = true then (hX9_meanDelay_74 N x7 v1 9 I7) else (hX9_meanDelay_74 N x7 v1 6 I7)) else (some (.inl (some (.int 0)), I4)) := rfl
theorem eX9_meanDelay_74 (N : Nat) (v3 : Int32) (s1 : Int32) (s2 : Int32) (I : gM) : hX9_meanDelay_74 N v3 s1 s2 I =
  hI (fX9_flowPart N [.ref 0, .int s1, .int s2] (gS (rg 0 18) I)) (rg 0 18) I fun x8 I8 => if v3 = 0 then none else some (.inl (some (.int (gb_div x8 v3))), I8) := rfl
theorem eX9_meanDelay (N : Nat) (v1 : Int32) (v2 : Int32) (I : gM) : fX9_meanDelay N [.ref 0, .int v1, .int v2] I = hX9_meanDelay_0 N v1 v2 I := rfl

def hX9_schedule_0 (N : Nat) (v1 : Int32) (I : gM) : gO := fX9_schedule_k0 N [some (.ref 0), some (.int v1)] [] I
theorem eX9_schedule_0 (N : Nat) (v1 : Int32) (I : gM) : hX9_schedule_0 N v1 I =
  hI (fX9_in N [.long ((v1).toInt64), .long 0, .long 1] (gS [] (gU I 0 0 0))) [] (gU I 0 0 0) fun x1 I1 => hI (fX9_fails N [.ref 0, .int x1, .int 1] (gS (rg 0 18) I1)) (rg 0 18) I1 fun x2 I2 => if gz_eq x2 = true then (hI (fX9_scheduleBy N [.ref 0, .int v1] (gS (rg 0 18) I2)) (rg 0 18) I2 fun x3 I3 => some (.inl (some (.int x3)), I3)) else (some (.inl (some (.int 0)), I2)) := rfl
theorem eX9_schedule (N : Nat) (v1 : Int32) (I : gM) : fX9_schedule N [.ref 0, .int v1] I = hX9_schedule_0 N v1 I := rfl

def hX9_scheduleWeight_0 (N : Nat) (v1 : Int32) (I : gM) : gO := fX9_scheduleWeight_k0 N [some (.ref 0), some (.int v1), none, none, none] [] I
def hX9_scheduleWeight_33 (N : Nat) (n33 : Nat) (v2 : Int32) (v3 : Int32) (v4 : Int32) (I : gM) : gO := s_lp (fX9_scheduleWeight_b33 N) n33 [some (.ref 0), none, some (.int v2), some (.int v3), some (.int v4)] [] I
def hX9_scheduleWeight_65 (N : Nat) (n33 : Nat) (v2 : Int32) (v4 : Int32) (s0 : Int32) (s1 : Int32) (I : gM) : gO := fX9_scheduleWeight_k65 N (s_lp (fX9_scheduleWeight_b33 N) n33) [some (.ref 0), none, some (.int v2), none, some (.int v4)] [.int s1, .int s0] I
theorem eX9_scheduleWeight_0 (N : Nat) (v1 : Int32) (I : gM) : hX9_scheduleWeight_0 N v1 I =
  hI (fX9_in N [.long ((v1).toInt64), .long 0, .long 1] (gS [] (gU I 0 0 0))) [] (gU I 0 0 0) fun x1 I1 => hI (fX9_fails N [.ref 0, .int x1, .int 1] (gS (rg 0 18) I1)) (rg 0 18) I1 fun x2 I2 => if gz_eq x2 = true then (hI (fX9_scheduleBy N [.ref 0, .int v1] (gS (rg 0 18) I2)) (rg 0 18) I2 fun x3 I3 => hX9_scheduleWeight_33 N N x3 0 0 I3) else (some (.inl (some (.int 0)), I2)) := rfl
theorem eX9_scheduleWeight_33 (N : Nat) (n33 : Nat) (v2 : Int32) (v3 : Int32) (v4 : Int32) (I : gM) : hX9_scheduleWeight_33 N (n33 + 1) v2 v3 v4 I =
  ck 2746 1 <| if gc_ge v4 ((I 3 (nn 1))) = true then (some (.inl (some (.int v3)), I)) else (hI (fX9_has N [.int v2, .int v4] (gS [] I)) [] I fun x4 I4 => if gz_eq x4 = true then (hX9_scheduleWeight_65 N n33 v2 v4 v3 0 I4) else (ck 14 v4 <| hX9_scheduleWeight_65 N n33 v2 v4 v3 ((I4 12 (nn v4))) I4)) := rfl
theorem eX9_scheduleWeight_33z (N : Nat) (v2 : Int32) (v3 : Int32) (v4 : Int32) (I : gM) : hX9_scheduleWeight_33 N 0 v2 v3 v4 I = none := rfl
theorem eX9_scheduleWeight_65 (N : Nat) (n33 : Nat) (v2 : Int32) (v4 : Int32) (s0 : Int32) (s1 : Int32) (I : gM) : hX9_scheduleWeight_65 N n33 v2 v4 s0 s1 I =
  hX9_scheduleWeight_33 N n33 v2 (s0 + s1) (v4 + 1) I := rfl
theorem eX9_scheduleWeight (N : Nat) (v1 : Int32) (I : gM) : fX9_scheduleWeight N [.ref 0, .int v1] I = hX9_scheduleWeight_0 N v1 I := rfl

def hX9_forecast_0 (N : Nat) (v1 : Int32) (v2 : Int32) (I : gM) : gO := fX9_forecast_k0 N [some (.ref 0), some (.int v1), some (.int v2), none, none] [] I
def hX9_forecast_29 (N : Nat) (v1 : Int32) (v2 : Int32) (I : gM) : gO := fX9_forecast_k29 N [some (.ref 0), some (.int v1), some (.int v2), none, none] [.ref 0] I
def hX9_forecast_30 (N : Nat) (v1 : Int32) (v2 : Int32) (s1 : Int32) (I : gM) : gO := fX9_forecast_k30 N [some (.ref 0), some (.int v1), some (.int v2), none, none] [.int s1, .ref 0] I
theorem eX9_forecast_0 (N : Nat) (v1 : Int32) (v2 : Int32) (I : gM) : hX9_forecast_0 N v1 v2 I =
  hI (fX9_areSlots N [.int v1] (gS [] (gU I 0 0 0))) [] (gU I 0 0 0) fun x1 I1 => if gz_eq x1 = true then (hX9_forecast_29 N v1 v2 I1) else (hI (fX9_in N [.long ((v2).toInt64), .long 0, .long 5] (gS [] I1)) [] I1 fun x2 I2 => if gz_eq x2 = true then (hX9_forecast_29 N v1 v2 I2) else (hX9_forecast_30 N v1 v2 1 I2)) := rfl
theorem eX9_forecast_29 (N : Nat) (v1 : Int32) (v2 : Int32) (I : gM) : hX9_forecast_29 N v1 v2 I =
  hX9_forecast_30 N v1 v2 0 I := rfl
theorem eX9_forecast_30 (N : Nat) (v1 : Int32) (v2 : Int32) (s1 : Int32) (I : gM) : hX9_forecast_30 N v1 v2 s1 I =
  hI (fX9_fails N [.ref 0, .int s1, .int 1] (gS (rg 0 18) I)) (rg 0 18) I fun x3 I3 => if gz_eq x3 = true then (hV (fX9_copy N 2746 2746 [.ref 0, .int 0, .ref 1, .int 0] (gS (rg 3 2) I3)) (rg 3 2) I3 fun I4 => hV (fX9_slots N [.ref 0, .int v1] (gS (rg 0 18) I4)) (rg 0 18) I4 fun I5 => hJ (fX9_totalOf N [.ref 0, .int v2] (gS (rg 0 18) I5)) (rg 0 18) I5 fun x6 I6 => hV (fX9_copy N 2746 2746 [.ref 0, .int 0, .ref 1, .int 0] (gS [4, 3] I6)) [4, 3] I6 fun I7 => some (.inl (some (.long x6)), I7)) else (some (.inl (some (.long 0)), I3)) := rfl
theorem eX9_forecast (N : Nat) (v1 : Int32) (v2 : Int32) (I : gM) : fX9_forecast N [.ref 0, .int v1, .int v2] I = hX9_forecast_0 N v1 v2 I := rfl

def hX9_forecastFlow_0 (N : Nat) (v1 : Int32) (v2 : Int32) (v3 : Int32) (I : gM) : gO := fX9_forecastFlow_k0 N [some (.ref 0), some (.int v1), some (.int v2), some (.int v3), none] [] I
def hX9_forecastFlow_42 (N : Nat) (v1 : Int32) (v2 : Int32) (v3 : Int32) (I : gM) : gO := fX9_forecastFlow_k42 N [some (.ref 0), some (.int v1), some (.int v2), some (.int v3), none] [.ref 0] I
def hX9_forecastFlow_43 (N : Nat) (v1 : Int32) (v2 : Int32) (v3 : Int32) (s1 : Int32) (I : gM) : gO := fX9_forecastFlow_k43 N [some (.ref 0), some (.int v1), some (.int v2), some (.int v3), none] [.int s1, .ref 0] I
theorem eX9_forecastFlow_0 (N : Nat) (v1 : Int32) (v2 : Int32) (v3 : Int32) (I : gM) : hX9_forecastFlow_0 N v1 v2 v3 I =
  hI (fX9_isFlow N [.ref 0, .int v1] (gS (rg 0 18) (gU I 0 0 0))) (rg 0 18) (gU I 0 0 0) fun x1 I1 => hI (fX9_fails N [.ref 0, .int x1, .int 1] (gS (rg 0 18) I1)) (rg 0 18) I1 fun x2 I2 => if gz_ne x2 = true then (some (.inl (some (.int 0)), I2)) else (hI (fX9_areSlots N [.int v2] (gS [] I2)) [] I2 fun x3 I3 => if gz_eq x3 = true then (hX9_forecastFlow_42 N v1 v2 v3 I3) else (hI (fX9_in N [.long ((v3).toInt64), .long 0, .long 10] (gS [] I3)) [] I3 fun x4 I4 => if gz_eq x4 = true then (hX9_forecastFlow_42 N v1 v2 v3 I4) else (hX9_forecastFlow_43 N v1 v2 v3 1 I4))) := rfl
theorem eX9_forecastFlow_42 (N : Nat) (v1 : Int32) (v2 : Int32) (v3 : Int32) (I : gM) : hX9_forecastFlow_42 N v1 v2 v3 I =
  hX9_forecastFlow_43 N v1 v2 v3 0 I := rfl
theorem eX9_forecastFlow_43 (N : Nat) (v1 : Int32) (v2 : Int32) (v3 : Int32) (s1 : Int32) (I : gM) : hX9_forecastFlow_43 N v1 v2 v3 s1 I =
  hI (fX9_fails N [.ref 0, .int s1, .int 2] (gS (rg 0 18) I)) (rg 0 18) I fun x5 I5 => if gz_eq x5 = true then (hV (fX9_copy N 2746 2746 [.ref 0, .int 0, .ref 1, .int 0] (gS (rg 3 2) I5)) (rg 3 2) I5 fun I6 => hV (fX9_slots N [.ref 0, .int v2] (gS (rg 0 18) I6)) (rg 0 18) I6 fun I7 => hI (fX9_flowPart N [.ref 0, .int v1, .int v3] (gS (rg 0 18) I7)) (rg 0 18) I7 fun x8 I8 => hV (fX9_copy N 2746 2746 [.ref 0, .int 0, .ref 1, .int 0] (gS [4, 3] I8)) [4, 3] I8 fun I9 => some (.inl (some (.int x8)), I9)) else (some (.inl (some (.int 0)), I5)) := rfl
theorem eX9_forecastFlow (N : Nat) (v1 : Int32) (v2 : Int32) (v3 : Int32) (I : gM) : fX9_forecastFlow N [.ref 0, .int v1, .int v2, .int v3] I = hX9_forecastFlow_0 N v1 v2 v3 I := rfl

def hX9_slotsToFull_0 (N : Nat) (v1 : Int32) (v2 : Int32) (I : gM) : gO := fX9_slotsToFull_k0 N [some (.ref 0), some (.int v1), some (.int v2), none, none] [] I
def hX9_slotsToFull_29 (N : Nat) (v1 : Int32) (v2 : Int32) (I : gM) : gO := fX9_slotsToFull_k29 N [some (.ref 0), some (.int v1), some (.int v2), none, none] [.ref 0] I
def hX9_slotsToFull_30 (N : Nat) (v1 : Int32) (v2 : Int32) (s1 : Int32) (I : gM) : gO := fX9_slotsToFull_k30 N [some (.ref 0), some (.int v1), some (.int v2), none, none] [.int s1, .ref 0] I
def hX9_slotsToFull_54 (N : Nat) (n54 : Nat) (v1 : Int32) (v2 : Int32) (v3 : Int32) (I : gM) : gO := s_lp (fX9_slotsToFull_b54 N) n54 [some (.ref 0), some (.int v1), some (.int v2), some (.int v3), none] [] I
def hX9_slotsToFull_81 (N : Nat) (v2 : Int32) (v3 : Int32) (I : gM) : gO := fX9_slotsToFull_k81 N [some (.ref 0), none, some (.int v2), some (.int v3), none] [] I
def hX9_slotsToFull_98 (N : Nat) (v3 : Int32) (s0 : Int32) (I : gM) : gO := fX9_slotsToFull_k98 N [some (.ref 0), none, none, some (.int v3), none] [.int s0] I
theorem eX9_slotsToFull_0 (N : Nat) (v1 : Int32) (v2 : Int32) (I : gM) : hX9_slotsToFull_0 N v1 v2 I =
  hI (fX9_areSlots N [.int v1] (gS [] (gU I 0 0 0))) [] (gU I 0 0 0) fun x1 I1 => if gz_eq x1 = true then (hX9_slotsToFull_29 N v1 v2 I1) else (hI (fX9_in N [.long ((v2).toInt64), .long 1, .long 500] (gS [] I1)) [] I1 fun x2 I2 => if gz_eq x2 = true then (hX9_slotsToFull_29 N v1 v2 I2) else (hX9_slotsToFull_30 N v1 v2 1 I2)) := rfl
theorem eX9_slotsToFull_29 (N : Nat) (v1 : Int32) (v2 : Int32) (I : gM) : hX9_slotsToFull_29 N v1 v2 I =
  hX9_slotsToFull_30 N v1 v2 0 I := rfl
theorem eX9_slotsToFull_30 (N : Nat) (v1 : Int32) (v2 : Int32) (s1 : Int32) (I : gM) : hX9_slotsToFull_30 N v1 v2 s1 I =
  hI (fX9_fails N [.ref 0, .int s1, .int 1] (gS (rg 0 18) I)) (rg 0 18) I fun x3 I3 => if gz_eq x3 = true then (hV (fX9_copy N 2746 2746 [.ref 0, .int 0, .ref 1, .int 0] (gS (rg 3 2) I3)) (rg 3 2) I3 fun I4 => hX9_slotsToFull_54 N N v1 v2 0 I4) else (some (.inl (some (.int 0)), I3)) := rfl
theorem eX9_slotsToFull_54 (N : Nat) (n54 : Nat) (v1 : Int32) (v2 : Int32) (v3 : Int32) (I : gM) : hX9_slotsToFull_54 N (n54 + 1) v1 v2 v3 I =
  if gc_ge v3 v1 = true then (hX9_slotsToFull_81 N v2 v3 I) else (ck 2746 245 <| if gc_ge ((I 3 (nn 245))) v2 = true then (hX9_slotsToFull_81 N v2 v3 I) else (hV (fX9_slot N [.ref 0] (gS (rg 0 18) I)) (rg 0 18) I fun I5 => hX9_slotsToFull_54 N n54 v1 v2 (v3 + 1) I5)) := rfl
theorem eX9_slotsToFull_54z (N : Nat) (v1 : Int32) (v2 : Int32) (v3 : Int32) (I : gM) : hX9_slotsToFull_54 N 0 v1 v2 v3 I = none := rfl
theorem eX9_slotsToFull_81 (N : Nat) (v2 : Int32) (v3 : Int32) (I : gM) : hX9_slotsToFull_81 N v2 v3 I =
  ck 2746 245 <| if gc_lt ((I 3 (nn 245))) v2 = true then (hX9_slotsToFull_98 N v3 0 I) else (hX9_slotsToFull_98 N v3 1 I) := rfl
theorem eX9_slotsToFull_98 (N : Nat) (v3 : Int32) (s0 : Int32) (I : gM) : hX9_slotsToFull_98 N v3 s0 I =
  hV (fX9_copy N 2746 2746 [.ref 0, .int 0, .ref 1, .int 0] (gS [4, 3] I)) [4, 3] I fun I6 => hI (fX9_fails N [.ref 0, .int s0, .int 2] (gS (rg 0 18) I6)) (rg 0 18) I6 fun x7 I7 => if gz_eq x7 = true then (some (.inl (some (.int v3)), I7)) else (some (.inl (some (.int 0)), I7)) := rfl
theorem eX9_slotsToFull (N : Nat) (v1 : Int32) (v2 : Int32) (I : gM) : fX9_slotsToFull N [.ref 0, .int v1, .int v2] I = hX9_slotsToFull_0 N v1 v2 I := rfl

def hX9_bestBias_0 (N : Nat) (v1 : Int32) (I : gM) : gO := fX9_bestBias_k0 N [some (.ref 0), some (.int v1), none, none, none, none, none, none] [] I
def hX9_bestBias_42 (N : Nat) (n42 : Nat) (v1 : Int32) (v2 : Int32) (v3 : Int32) (v4 : Int32) (v5 : Int32) (I : gM) : gO := s_lp (fX9_bestBias_b42 N) n42 [some (.ref 0), some (.int v1), some (.int v2), some (.int v3), some (.int v4), some (.int v5), none, none] [] I
def hX9_bestBias_104 (N : Nat) (n42 : Nat) (v1 : Int32) (v5 : Int32) (v6 : Int32) (v7 : Int32) (I : gM) : gO := fX9_bestBias_k104 N (s_lp (fX9_bestBias_b42 N) n42) [some (.ref 0), some (.int v1), none, none, none, some (.int v5), some (.int v6), some (.int v7)] [] I
def hX9_bestBias_114 (N : Nat) (n42 : Nat) (v1 : Int32) (v2 : Int32) (v3 : Int32) (v4 : Int32) (v5 : Int32) (I : gM) : gO := fX9_bestBias_k114 N (s_lp (fX9_bestBias_b42 N) n42) [some (.ref 0), some (.int v1), some (.int v2), some (.int v3), some (.int v4), some (.int v5), none, none] [] I
theorem eX9_bestBias_0 (N : Nat) (v1 : Int32) (I : gM) : hX9_bestBias_0 N v1 I =
  hI (fX9_areSlots N [.int v1] (gS [] (gU I 0 0 0))) [] (gU I 0 0 0) fun x1 I1 => hI (fX9_fails N [.ref 0, .int x1, .int 1] (gS (rg 0 18) I1)) (rg 0 18) I1 fun x2 I2 => if gz_eq x2 = true then (hV (fX9_copy N 2746 2746 [.ref 0, .int 0, .ref 1, .int 0] (gS (rg 3 2) I2)) (rg 3 2) I2 fun I3 => hX9_bestBias_42 N N v1 (-1) 0 0 0 I3) else (some (.inl (some (.int 0)), I2)) := rfl
theorem eX9_bestBias_42 (N : Nat) (n42 : Nat) (v1 : Int32) (v2 : Int32) (v3 : Int32) (v4 : Int32) (v5 : Int32) (I : gM) : hX9_bestBias_42 N (n42 + 1) v1 v2 v3 v4 v5 I =
  if gc_gt v5 20 = true then (some (.inl (some (.int v2)), I)) else (ck 2746 5 <| hV (fX9_slots N [.ref 0, .int v1] (gS (rg 0 18) (gU I 3 (nn 5) v5))) (rg 0 18) (gU I 3 (nn 5) v5) fun I4 => ck 2746 245 <| hI (fX9_sumOf N [.ref 0, .int 8] (gS (rg 0 18) I4)) (rg 0 18) I4 fun x5 I5 => if gc_eq v2 (-1) = true then (hX9_bestBias_104 N n42 v1 v5 ((I4 3 (nn 245))) x5 I5) else (if gc_lt ((I4 3 (nn 245))) v3 = true then (hX9_bestBias_104 N n42 v1 v5 ((I4 3 (nn 245))) x5 I5) else (if gc_ne ((I4 3 (nn 245))) v3 = true then (hX9_bestBias_114 N n42 v1 v2 v3 v4 v5 I5) else (if gc_ge x5 v4 = true then (hX9_bestBias_114 N n42 v1 v2 v3 v4 v5 I5) else (hX9_bestBias_104 N n42 v1 v5 ((I4 3 (nn 245))) x5 I5))))) := rfl
theorem eX9_bestBias_42z (N : Nat) (v1 : Int32) (v2 : Int32) (v3 : Int32) (v4 : Int32) (v5 : Int32) (I : gM) : hX9_bestBias_42 N 0 v1 v2 v3 v4 v5 I = none := rfl
theorem eX9_bestBias_104 (N : Nat) (n42 : Nat) (v1 : Int32) (v5 : Int32) (v6 : Int32) (v7 : Int32) (I : gM) : hX9_bestBias_104 N n42 v1 v5 v6 v7 I =
  hX9_bestBias_114 N n42 v1 v5 v6 v7 v5 I := rfl
theorem eX9_bestBias_114 (N : Nat) (n42 : Nat) (v1 : Int32) (v2 : Int32) (v3 : Int32) (v4 : Int32) (v5 : Int32) (I : gM) : hX9_bestBias_114 N n42 v1 v2 v3 v4 v5 I =
  hV (fX9_copy N 2746 2746 [.ref 0, .int 0, .ref 1, .int 0] (gS [4, 3] I)) [4, 3] I fun I6 => hX9_bestBias_42 N n42 v1 v2 v3 v4 (v5 + 1) I6 := rfl
theorem eX9_bestBias (N : Nat) (v1 : Int32) (I : gM) : fX9_bestBias N [.ref 0, .int v1] I = hX9_bestBias_0 N v1 I := rfl

def hX9_bestExcess_0 (N : Nat) (v1 : Int32) (I : gM) : gO := fX9_bestExcess_k0 N [some (.ref 0), some (.int v1), none, none, none, none] [] I
def hX9_bestExcess_39 (N : Nat) (n39 : Nat) (v1 : Int32) (v2 : Int32) (v3 : Int32) (v4 : Int32) (I : gM) : gO := s_lp (fX9_bestExcess_b39 N) n39 [some (.ref 0), some (.int v1), some (.int v2), some (.int v3), some (.int v4), none] [] I
def hX9_bestExcess_85 (N : Nat) (n39 : Nat) (v1 : Int32) (v4 : Int32) (v5 : Int32) (I : gM) : gO := fX9_bestExcess_k85 N (s_lp (fX9_bestExcess_b39 N) n39) [some (.ref 0), some (.int v1), none, none, some (.int v4), some (.int v5)] [] I
def hX9_bestExcess_91 (N : Nat) (n39 : Nat) (v1 : Int32) (v2 : Int32) (v3 : Int32) (v4 : Int32) (I : gM) : gO := fX9_bestExcess_k91 N (s_lp (fX9_bestExcess_b39 N) n39) [some (.ref 0), some (.int v1), some (.int v2), some (.int v3), some (.int v4), none] [] I
theorem eX9_bestExcess_0 (N : Nat) (v1 : Int32) (I : gM) : hX9_bestExcess_0 N v1 I =
  hI (fX9_areSlots N [.int v1] (gS [] (gU I 0 0 0))) [] (gU I 0 0 0) fun x1 I1 => hI (fX9_fails N [.ref 0, .int x1, .int 1] (gS (rg 0 18) I1)) (rg 0 18) I1 fun x2 I2 => if gz_eq x2 = true then (hV (fX9_copy N 2746 2746 [.ref 0, .int 0, .ref 1, .int 0] (gS (rg 3 2) I2)) (rg 3 2) I2 fun I3 => hX9_bestExcess_39 N N v1 (-1) 0 0 I3) else (some (.inl (some (.int 0)), I2)) := rfl
theorem eX9_bestExcess_39 (N : Nat) (n39 : Nat) (v1 : Int32) (v2 : Int32) (v3 : Int32) (v4 : Int32) (I : gM) : hX9_bestExcess_39 N (n39 + 1) v1 v2 v3 v4 I =
  if gc_gt v4 50 = true then (some (.inl (some (.int v2)), I)) else (ck 2746 3 <| ck 2746 4 <| hV (fX9_slots N [.ref 0, .int v1] (gS (rg 0 18) (gU (gU I 3 (nn 3) 1) 3 (nn 4) v4))) (rg 0 18) (gU (gU I 3 (nn 3) 1) 3 (nn 4) v4) fun I4 => hI (fX9_sumOf N [.ref 0, .int 6] (gS (rg 0 18) I4)) (rg 0 18) I4 fun x5 I5 => if gc_eq v2 (-1) = true then (hX9_bestExcess_85 N n39 v1 v4 x5 I5) else (if gc_le x5 v3 = true then (hX9_bestExcess_91 N n39 v1 v2 v3 v4 I5) else (hX9_bestExcess_85 N n39 v1 v4 x5 I5))) := rfl
theorem eX9_bestExcess_39z (N : Nat) (v1 : Int32) (v2 : Int32) (v3 : Int32) (v4 : Int32) (I : gM) : hX9_bestExcess_39 N 0 v1 v2 v3 v4 I = none := rfl
theorem eX9_bestExcess_85 (N : Nat) (n39 : Nat) (v1 : Int32) (v4 : Int32) (v5 : Int32) (I : gM) : hX9_bestExcess_85 N n39 v1 v4 v5 I =
  hX9_bestExcess_91 N n39 v1 v4 v5 v4 I := rfl
theorem eX9_bestExcess_91 (N : Nat) (n39 : Nat) (v1 : Int32) (v2 : Int32) (v3 : Int32) (v4 : Int32) (I : gM) : hX9_bestExcess_91 N n39 v1 v2 v3 v4 I =
  hV (fX9_copy N 2746 2746 [.ref 0, .int 0, .ref 1, .int 0] (gS [4, 3] I)) [4, 3] I fun I6 => hX9_bestExcess_39 N n39 v1 v2 v3 (v4 + 10) I6 := rfl
theorem eX9_bestExcess (N : Nat) (v1 : Int32) (I : gM) : fX9_bestExcess N [.ref 0, .int v1] I = hX9_bestExcess_0 N v1 I := rfl

def hX9_bestSettings_0 (N : Nat) (v1 : Int32) (I : gM) : gO := fX9_bestSettings_k0 N [some (.ref 0), some (.int v1), none, none, none, none, none, none] [] I
def hX9_bestSettings_39 (N : Nat) (n39 : Nat) (v1 : Int32) (v2 : Int32) (v3 : Int64) (v5 : Int32) (I : gM) : gO := s_lp (fX9_bestSettings_b39 N) n39 [some (.ref 0), some (.int v1), some (.int v2), some (.long v3), none, some (.int v5), none, none] [] I
def hX9_bestSettings_89 (N : Nat) (n39 : Nat) (v1 : Int32) (v5 : Int32) (v6 : Int64) (I : gM) : gO := fX9_bestSettings_k89 N (s_lp (fX9_bestSettings_b39 N) n39) [some (.ref 0), some (.int v1), none, none, none, some (.int v5), some (.long v6), none] [] I
def hX9_bestSettings_105 (N : Nat) (n39 : Nat) (v1 : Int32) (v2 : Int32) (v3 : Int64) (v5 : Int32) (I : gM) : gO := fX9_bestSettings_k105 N (s_lp (fX9_bestSettings_b39 N) n39) [some (.ref 0), some (.int v1), some (.int v2), some (.long v3), none, some (.int v5), none, none] [] I
theorem eX9_bestSettings_0 (N : Nat) (v1 : Int32) (I : gM) : hX9_bestSettings_0 N v1 I =
  hI (fX9_areSlots N [.int v1] (gS [] (gU I 0 0 0))) [] (gU I 0 0 0) fun x1 I1 => hI (fX9_fails N [.ref 0, .int x1, .int 1] (gS (rg 0 18) I1)) (rg 0 18) I1 fun x2 I2 => if gz_eq x2 = true then (hV (fX9_copy N 2746 2746 [.ref 0, .int 0, .ref 1, .int 0] (gS (rg 3 2) I2)) (rg 3 2) I2 fun I3 => hX9_bestSettings_39 N N v1 (-1) 0 0 I3) else (some (.inl (some (.int 0)), I2)) := rfl
theorem eX9_bestSettings_39 (N : Nat) (n39 : Nat) (v1 : Int32) (v2 : Int32) (v3 : Int64) (v5 : Int32) (I : gM) : hX9_bestSettings_39 N (n39 + 1) v1 v2 v3 v5 I =
  if gc_ge v5 4 = true then (some (.inl (some (.int v2)), I)) else (if 2 = 0 then none else ck 2746 3 <| if 2 = 0 then none else ck 2746 6 <| hV (fX9_slots N [.ref 0, .int v1] (gS (rg 0 18) (gU (gU I 3 (nn 3) (gb_div v5 2)) 3 (nn 6) (gb_rem v5 2)))) (rg 0 18) (gU (gU I 3 (nn 3) (gb_div v5 2)) 3 (nn 6) (gb_rem v5 2)) fun I4 => hJ (fX9_squares N [.ref 0] (gS (rg 0 18) I4)) (rg 0 18) I4 fun x5 I5 => if gc_eq v2 (-1) = true then (hX9_bestSettings_89 N n39 v1 v5 x5 I5) else (if gz_ge (lg_cmp x5 v3) = true then (hX9_bestSettings_105 N n39 v1 v2 v3 v5 I5) else (hX9_bestSettings_89 N n39 v1 v5 x5 I5))) := rfl
theorem eX9_bestSettings_39z (N : Nat) (v1 : Int32) (v2 : Int32) (v3 : Int64) (v5 : Int32) (I : gM) : hX9_bestSettings_39 N 0 v1 v2 v3 v5 I = none := rfl
theorem eX9_bestSettings_89 (N : Nat) (n39 : Nat) (v1 : Int32) (v5 : Int32) (v6 : Int64) (I : gM) : hX9_bestSettings_89 N n39 v1 v5 v6 I =
  if 2 = 0 then none else if 2 = 0 then none else hX9_bestSettings_105 N n39 v1 ((((10 * (gb_div v5 2))) + (gb_rem v5 2))) v6 v5 I := rfl
theorem eX9_bestSettings_105 (N : Nat) (n39 : Nat) (v1 : Int32) (v2 : Int32) (v3 : Int64) (v5 : Int32) (I : gM) : hX9_bestSettings_105 N n39 v1 v2 v3 v5 I =
  hV (fX9_copy N 2746 2746 [.ref 0, .int 0, .ref 1, .int 0] (gS [4, 3] I)) [4, 3] I fun I6 => hX9_bestSettings_39 N n39 v1 v2 v3 (v5 + 1) I6 := rfl
theorem eX9_bestSettings (N : Nat) (v1 : Int32) (I : gM) : fX9_bestSettings N [.ref 0, .int v1] I = hX9_bestSettings_0 N v1 I := rfl

def hX9_holds_0 (N : Nat) (v1 : Int32) (v2 : Int32) (v3 : Int32) (I : gM) : gO := fX9_holds_k0 N [some (.ref 0), some (.int v1), some (.int v2), some (.int v3), none, none] [] I
def hX9_holds_21 (N : Nat) (n21 : Nat) (v3 : Int32) (v4 : Int32) (v5 : Int32) (I : gM) : gO := s_lp (fX9_holds_b21 N) n21 [some (.ref 0), none, none, some (.int v3), some (.int v4), some (.int v5)] [] I
def hX9_holds_54 (N : Nat) (n21 : Nat) (v3 : Int32) (v5 : Int32) (s0 : Int32) (I : gM) : gO := fX9_holds_k54 N (s_lp (fX9_holds_b21 N) n21) [some (.ref 0), none, none, some (.int v3), none, some (.int v5)] [.int s0] I
theorem eX9_holds_0 (N : Nat) (v1 : Int32) (v2 : Int32) (v3 : Int32) (I : gM) : hX9_holds_0 N v1 v2 v3 I =
  ck 2746 ((((65 + (11 * v1))) + 2)) <| hX9_holds_21 N N v3 1 0 (gU I 3 ((nn ((((65 + (11 * v1))) + 2)))) v2) := rfl
theorem eX9_holds_21 (N : Nat) (n21 : Nat) (v3 : Int32) (v4 : Int32) (v5 : Int32) (I : gM) : hX9_holds_21 N (n21 + 1) v3 v4 v5 I =
  if gc_ge v5 v3 = true then (if v4 = 0 ∨ v4 = 1 then some (.inl (some (.int v4)), I) else none) else (if gz_eq v4 = true then (if v4 = 0 ∨ v4 = 1 then some (.inl (some (.int v4)), I) else none) else (hV (fX9_slot N [.ref 0] (gS (rg 0 18) I)) (rg 0 18) I fun I1 => ck 2746 245 <| if gc_gt ((I1 3 (nn 245))) 100 = true then (hX9_holds_54 N n21 v3 v5 0 I1) else (hX9_holds_54 N n21 v3 v5 1 I1))) := rfl
theorem eX9_holds_21z (N : Nat) (v3 : Int32) (v4 : Int32) (v5 : Int32) (I : gM) : hX9_holds_21 N 0 v3 v4 v5 I = none := rfl
theorem eX9_holds_54 (N : Nat) (n21 : Nat) (v3 : Int32) (v5 : Int32) (s0 : Int32) (I : gM) : hX9_holds_54 N n21 v3 v5 s0 I =
  hX9_holds_21 N n21 v3 s0 (v5 + 1) I := rfl
theorem eX9_holds (N : Nat) (v1 : Int32) (v2 : Int32) (v3 : Int32) (I : gM) : fX9_holds N [.ref 0, .int v1, .int v2, .int v3] I = hX9_holds_0 N v1 v2 v3 I := rfl

def hX9_sustainable_0 (N : Nat) (v1 : Int32) (v2 : Int32) (I : gM) : gO := fX9_sustainable_k0 N [some (.ref 0), some (.int v1), some (.int v2), none, none] [] I
def hX9_sustainable_55 (N : Nat) (n55 : Nat) (v1 : Int32) (v2 : Int32) (v3 : Int32) (v4 : Int32) (I : gM) : gO := s_lp (fX9_sustainable_b55 N) n55 [some (.ref 0), some (.int v1), some (.int v2), some (.int v3), some (.int v4)] [] I
def hX9_sustainable_89 (N : Nat) (n55 : Nat) (v1 : Int32) (v2 : Int32) (v4 : Int32) (s0 : Int32) (s1 : Int32) (I : gM) : gO := fX9_sustainable_k89 N (s_lp (fX9_sustainable_b55 N) n55) [some (.ref 0), some (.int v1), some (.int v2), none, some (.int v4)] [.int s1, .int s0] I
theorem eX9_sustainable_0 (N : Nat) (v1 : Int32) (v2 : Int32) (I : gM) : hX9_sustainable_0 N v1 v2 I =
  hI (fX9_isFlow N [.ref 0, .int v1] (gS (rg 0 18) (gU I 0 0 0))) (rg 0 18) (gU I 0 0 0) fun x1 I1 => hI (fX9_fails N [.ref 0, .int x1, .int 1] (gS (rg 0 18) I1)) (rg 0 18) I1 fun x2 I2 => if gz_ne x2 = true then (some (.inl (some (.int 0)), I2)) else (hI (fX9_in N [.long ((v2).toInt64), .long 1, .long 20] (gS [] I2)) [] I2 fun x3 I3 => hI (fX9_fails N [.ref 0, .int x3, .int 2] (gS (rg 0 18) I3)) (rg 0 18) I3 fun x4 I4 => if gz_eq x4 = true then (hV (fX9_copy N 2746 2746 [.ref 0, .int 0, .ref 1, .int 0] (gS (rg 3 2) I4)) (rg 3 2) I4 fun I5 => hX9_sustainable_55 N N v1 v2 (-1) 1 I5) else (some (.inl (some (.int 0)), I4))) := rfl
theorem eX9_sustainable_55 (N : Nat) (n55 : Nat) (v1 : Int32) (v2 : Int32) (v3 : Int32) (v4 : Int32) (I : gM) : hX9_sustainable_55 N (n55 + 1) v1 v2 v3 v4 I =
  if gz_eq v4 = true then (some (.inl (some (.int v3)), I)) else (if gc_ge v3 300 = true then (some (.inl (some (.int v3)), I)) else (hI (fX9_holds N [.ref 0, .int v1, .int (v3 + 1), .int v2] (gS (rg 0 18) I)) (rg 0 18) I fun x6 I6 => if gz_eq x6 = true then (hX9_sustainable_89 N n55 v1 v2 x6 v3 0 I6) else (hX9_sustainable_89 N n55 v1 v2 x6 v3 1 I6))) := rfl
theorem eX9_sustainable_55z (N : Nat) (v1 : Int32) (v2 : Int32) (v3 : Int32) (v4 : Int32) (I : gM) : hX9_sustainable_55 N 0 v1 v2 v3 v4 I = none := rfl
theorem eX9_sustainable_89 (N : Nat) (n55 : Nat) (v1 : Int32) (v2 : Int32) (v4 : Int32) (s0 : Int32) (s1 : Int32) (I : gM) : hX9_sustainable_89 N n55 v1 v2 v4 s0 s1 I =
  hV (fX9_copy N 2746 2746 [.ref 0, .int 0, .ref 1, .int 0] (gS [4, 3] I)) [4, 3] I fun I7 => hX9_sustainable_55 N n55 v1 v2 (s0 + s1) v4 I7 := rfl
theorem eX9_sustainable (N : Nat) (v1 : Int32) (v2 : Int32) (I : gM) : fX9_sustainable N [.ref 0, .int v1, .int v2] I = hX9_sustainable_0 N v1 v2 I := rfl

