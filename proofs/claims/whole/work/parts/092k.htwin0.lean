def hX9_thrown_0 (N : Nat) (I : gM) : gO := fX9_thrown_k0 N [some (.ref 0)] [] I
set_option maxRecDepth 100000 in
theorem eX9_thrown_0 (N : Nat) (I : gM) : hX9_thrown_0 N I =
  (some (.inl (some (.int (I 0 0))), I)) := by
  show (fX9_thrown_k0 N) [some (.ref 0)] [] I = _
  unfold fX9_thrown_k0
  refine tt_aload rfl ?_
  refine tt_get (x := (I 0 0)) rfl rfl rfl ?_
  exact rfl
set_option maxRecDepth 100000 in
theorem eX9_thrown (N : Nat) (I : gM) : fX9_thrown N [.ref 0] I = hX9_thrown_0 N I := by
  show gFn 1 (fX9_thrown_k0 N) [.ref 0] I = (fX9_thrown_k0 N) [some (.ref 0)] [] I
  exact tt_fn rfl rfl

def hX9_in_0 (N : Nat) (v0 : Int64) (v2 : Int64) (v4 : Int64) (I : gM) : gO := fX9_in_k0 N [some (.long v0), none, some (.long v2), none, some (.long v4), none] [] I
set_option maxRecDepth 100000 in
theorem eX9_in_0 (N : Nat) (v0 : Int64) (v2 : Int64) (v4 : Int64) (I : gM) : hX9_in_0 N v0 v2 v4 I =
  (if gz_lt (lg_cmp v0 v2) = true then (some (.inl (some (.int 0)), I)) else (if gz_gt (lg_cmp v0 v4) = true then (some (.inl (some (.int 0)), I)) else (some (.inl (some (.int 1)), I)))) := by
  show (fX9_in_k0 N) [some (.long v0), none, some (.long v2), none, some (.long v4), none] [] I = _
  unfold fX9_in_k0
  refine tt_lload rfl ?_
  refine tt_lload rfl ?_
  refine tt_lcmp ?_
  refine tt_if ?_ ?_
  · skip
    refine tt_const ?_
    exact tt_zret (by decide)
  · skip
    refine tt_lload rfl ?_
    refine tt_lload rfl ?_
    refine tt_lcmp ?_
    refine tt_if ?_ ?_
    · skip
      refine tt_const ?_
      exact tt_zret (by decide)
    · skip
      refine tt_const ?_
      exact tt_zret (by decide)
set_option maxRecDepth 100000 in
theorem eX9_in (N : Nat) (v0 : Int64) (v2 : Int64) (v4 : Int64) (I : gM) : fX9_in N [.long v0, .long v2, .long v4] I = hX9_in_0 N v0 v2 v4 I := by
  show gFn 6 (fX9_in_k0 N) [.long v0, .long v2, .long v4] I = (fX9_in_k0 N) [some (.long v0), none, some (.long v2), none, some (.long v4), none] [] I
  exact tt_fn rfl rfl

def hX9_fails_0 (N : Nat) (v1 : Int32) (v2 : Int32) (I : gM) : gO := fX9_fails_k0 N [some (.ref 0), some (.int v1), some (.int v2)] [] I
def hX9_fails_9 (N : Nat) (v1 : Int32) (I : gM) : gO := fX9_fails_k9 N [none, some (.int v1), none] [] I
set_option maxRecDepth 100000 in
theorem eX9_fails_0 (N : Nat) (v1 : Int32) (v2 : Int32) (I : gM) : hX9_fails_0 N v1 v2 I =
  (if gz_ne v1 = true then (hX9_fails_9 N v1 I) else (hX9_fails_9 N v1 (gU I 0 0 v2))) := by
  show (fX9_fails_k0 N) [some (.ref 0), some (.int v1), some (.int v2)] [] I = _
  unfold fX9_fails_k0
  refine tt_iload rfl ?_
  refine tt_if ?_ ?_
  · skip
    refine tt_mask rfl ?_
    exact rfl
  · skip
    refine tt_aload rfl ?_
    refine tt_iload rfl ?_
    refine tt_put rfl rfl ?_
    refine tt_mask rfl ?_
    exact rfl
set_option maxRecDepth 100000 in
theorem eX9_fails_9 (N : Nat) (v1 : Int32) (I : gM) : hX9_fails_9 N v1 I =
  (if gz_ne v1 = true then (some (.inl (some (.int 0)), I)) else (some (.inl (some (.int 1)), I))) := by
  show (fX9_fails_k9 N) [none, some (.int v1), none] [] I = _
  unfold fX9_fails_k9
  refine tt_iload rfl ?_
  refine tt_if ?_ ?_
  · skip
    refine tt_const ?_
    exact tt_zret (by decide)
  · skip
    refine tt_const ?_
    exact tt_zret (by decide)
set_option maxRecDepth 100000 in
theorem eX9_fails (N : Nat) (v1 : Int32) (v2 : Int32) (I : gM) : fX9_fails N [.ref 0, .int v1, .int v2] I = hX9_fails_0 N v1 v2 I := by
  show gFn 3 (fX9_fails_k0 N) [.ref 0, .int v1, .int v2] I = (fX9_fails_k0 N) [some (.ref 0), some (.int v1), some (.int v2)] [] I
  exact tt_fn rfl rfl

def hX9_has_0 (N : Nat) (v0 : Int32) (v1 : Int32) (I : gM) : gO := fX9_has_k0 N [some (.int v0), some (.int v1)] [] I
set_option maxRecDepth 100000 in
theorem eX9_has_0 (N : Nat) (v0 : Int32) (v1 : Int32) (I : gM) : hX9_has_0 N v0 v1 I =
  (if gc_ne ((gb_and (gb_shr v0 v1) 1)) 1 = true then (some (.inl (some (.int 0)), I)) else (some (.inl (some (.int 1)), I))) := by
  show (fX9_has_k0 N) [some (.int v0), some (.int v1)] [] I = _
  unfold fX9_has_k0
  refine tt_iload rfl ?_
  refine tt_iload rfl ?_
  refine tt_bin ?_
  refine tt_const ?_
  refine tt_bin ?_
  refine tt_const ?_
  refine tt_cmp ?_ ?_
  · skip
    refine tt_const ?_
    exact tt_zret (by decide)
  · skip
    refine tt_const ?_
    exact tt_zret (by decide)
set_option maxRecDepth 100000 in
theorem eX9_has (N : Nat) (v0 : Int32) (v1 : Int32) (I : gM) : fX9_has N [.int v0, .int v1] I = hX9_has_0 N v0 v1 I := by
  show gFn 2 (fX9_has_k0 N) [.int v0, .int v1] I = (fX9_has_k0 N) [some (.int v0), some (.int v1)] [] I
  exact tt_fn rfl rfl

def hX9_byteOf_0 (N : Nat) (v0 : Int32) (v1 : Int32) (v2 : Int32) (v3 : Int32) (v4 : Int32) (v5 : Int32) (I : gM) : gO := fX9_byteOf_k0 N [some (.int v0), some (.int v1), some (.int v2), some (.int v3), some (.int v4), some (.int v5), none] [] I
def hX9_byteOf_45 (N : Nat) (v5 : Int32) (s0 : Int32) (I : gM) : gO := fX9_byteOf_k45 N [none, none, none, none, none, some (.int v5), none] [.int s0] I
set_option maxRecDepth 100000 in
theorem eX9_byteOf_0 (N : Nat) (v0 : Int32) (v1 : Int32) (v2 : Int32) (v3 : Int32) (v4 : Int32) (v5 : Int32) (I : gM) : hX9_byteOf_0 N v0 v1 v2 v3 v4 v5 I =
  (if gc_ge v5 4 = true then (if gc_ge v5 8 = true then (if gc_ge v5 12 = true then (if gc_ge v5 16 = true then (hX9_byteOf_45 N v5 v4 I) else (hX9_byteOf_45 N v5 v3 I)) else (hX9_byteOf_45 N v5 v2 I)) else (hX9_byteOf_45 N v5 v1 I)) else (hX9_byteOf_45 N v5 v0 I)) := by
  show (fX9_byteOf_k0 N) [some (.int v0), some (.int v1), some (.int v2), some (.int v3), some (.int v4), some (.int v5), none] [] I = _
  unfold fX9_byteOf_k0
  refine tt_iload rfl ?_
  refine tt_const ?_
  refine tt_cmp ?_ ?_
  · skip
    refine tt_iload rfl ?_
    refine tt_const ?_
    refine tt_cmp ?_ ?_
    · skip
      refine tt_iload rfl ?_
      refine tt_const ?_
      refine tt_cmp ?_ ?_
      · skip
        refine tt_iload rfl ?_
        refine tt_const ?_
        refine tt_cmp ?_ ?_
        · skip
          refine tt_iload rfl ?_
          refine tt_mask rfl ?_
          exact rfl
        · skip
          refine tt_iload rfl ?_
          refine tt_mask rfl ?_
          exact rfl
      · skip
        refine tt_iload rfl ?_
        refine tt_mask rfl ?_
        exact rfl
    · skip
      refine tt_iload rfl ?_
      refine tt_mask rfl ?_
      exact rfl
  · skip
    refine tt_iload rfl ?_
    refine tt_mask rfl ?_
    exact rfl
set_option maxRecDepth 100000 in
theorem eX9_byteOf_45 (N : Nat) (v5 : Int32) (s0 : Int32) (I : gM) : hX9_byteOf_45 N v5 s0 I =
  (if (4 : Int32) = 0 then none else some (.inl (some (.int ((gb_and ((gb_shr s0 ((gb_sub 24 ((gb_mul 8 (gb_rem v5 4))))))) 255)))), I)) := by
  show (fX9_byteOf_k45 N) [none, none, none, none, none, some (.int v5), none] [.int s0] I = _
  unfold fX9_byteOf_k45
  refine tt_istore (L2 := [none, none, none, none, none, some (.int v5), some (.int s0)]) (tt_lt rfl) rfl ?_
  refine tt_iload rfl ?_
  refine tt_const ?_
  refine tt_const ?_
  refine tt_iload rfl ?_
  refine tt_const ?_
  refine tt_div ?_
  refine tt_bin ?_
  refine tt_bin ?_
  refine tt_bin ?_
  refine tt_const ?_
  refine tt_bin ?_
  exact rfl
set_option maxRecDepth 100000 in
theorem eX9_byteOf (N : Nat) (v0 : Int32) (v1 : Int32) (v2 : Int32) (v3 : Int32) (v4 : Int32) (v5 : Int32) (I : gM) : fX9_byteOf N [.int v0, .int v1, .int v2, .int v3, .int v4, .int v5] I = hX9_byteOf_0 N v0 v1 v2 v3 v4 v5 I := by
  show gFn 7 (fX9_byteOf_k0 N) [.int v0, .int v1, .int v2, .int v3, .int v4, .int v5] I = (fX9_byteOf_k0 N) [some (.int v0), some (.int v1), some (.int v2), some (.int v3), some (.int v4), some (.int v5), none] [] I
  exact tt_fn rfl rfl

def hX9_append_0 (N : Nat) (v1 : Int32) (v2 : Int32) (v3 : Int32) (v4 : Int32) (v5 : Int32) (I : gM) : gO := fX9_append_k0 N [some (.ref 0), some (.int v1), some (.int v2), some (.int v3), some (.int v4), some (.int v5), none, none, none] [] I
def hX9_append_11 (N : Nat) (n11 : Nat) (v1 : Int32) (v2 : Int32) (v3 : Int32) (v4 : Int32) (v5 : Int32) (v6 : Int32) (v7 : Int32) (I : gM) : gO := s_lp (fX9_append_b11 N) n11 [some (.ref 0), some (.int v1), some (.int v2), some (.int v3), some (.int v4), some (.int v5), some (.int v6), some (.int v7), none] [] I
def hX9_append_68 (N : Nat) (v1 : Int32) (v2 : Int32) (v3 : Int32) (v4 : Int32) (v5 : Int32) (s1 : Int32) (I : gM) : gO := fX9_append_k68 N [some (.ref 0), some (.int v1), some (.int v2), some (.int v3), some (.int v4), some (.int v5), none, none, none] [.int s1, .ref 0] I
def hX9_append_40 (N : Nat) (n11 : Nat) (v1 : Int32) (v2 : Int32) (v3 : Int32) (v4 : Int32) (v5 : Int32) (v7 : Int32) (s0 : Int32) (s1 : Int32) (I : gM) : gO := fX9_append_k40 N (s_lp (fX9_append_b11 N) n11) [some (.ref 0), some (.int v1), some (.int v2), some (.int v3), some (.int v4), some (.int v5), none, some (.int v7), none] [.int s1, .int s0] I
def hX9_append_80 (N : Nat) (n80 : Nat) (v1 : Int32) (v2 : Int32) (v3 : Int32) (v4 : Int32) (v5 : Int32) (v7 : Int32) (I : gM) : gO := s_lp (fX9_append_b80 N) n80 [some (.ref 0), some (.int v1), some (.int v2), some (.int v3), some (.int v4), some (.int v5), none, some (.int v7), none] [] I
def hX9_append_127 (N : Nat) (n80 : Nat) (v1 : Int32) (v2 : Int32) (v3 : Int32) (v4 : Int32) (v5 : Int32) (v7 : Int32) (I : gM) : gO := fX9_append_k127 N (s_lp (fX9_append_b80 N) n80) [some (.ref 0), some (.int v1), some (.int v2), some (.int v3), some (.int v4), some (.int v5), none, some (.int v7), none] [] I
set_option maxRecDepth 100000 in
theorem eX9_append_0 (N : Nat) (v1 : Int32) (v2 : Int32) (v3 : Int32) (v4 : Int32) (v5 : Int32) (I : gM) : hX9_append_0 N v1 v2 v3 v4 v5 I =
  (hX9_append_11 N N v1 v2 v3 v4 v5 0 0 (gU I 0 0 0)) := by
  show (fX9_append_k0 N) [some (.ref 0), some (.int v1), some (.int v2), some (.int v3), some (.int v4), some (.int v5), none, none, none] [] I = _
  unfold fX9_append_k0
  refine tt_aload rfl ?_
  refine tt_const ?_
  refine tt_put rfl rfl ?_
  refine tt_const ?_
  refine tt_istore (L2 := [some (.ref 0), some (.int v1), some (.int v2), some (.int v3), some (.int v4), some (.int v5), some (.int 0), none, none]) (tt_lt rfl) rfl ?_
  refine tt_const ?_
  refine tt_istore (L2 := [some (.ref 0), some (.int v1), some (.int v2), some (.int v3), some (.int v4), some (.int v5), some (.int 0), some (.int 0), none]) (tt_lt rfl) rfl ?_
  refine tt_mask rfl ?_
  exact rfl
set_option maxRecDepth 100000 in
theorem eX9_append_11 (N : Nat) (n11 : Nat) (v1 : Int32) (v2 : Int32) (v3 : Int32) (v4 : Int32) (v5 : Int32) (v6 : Int32) (v7 : Int32) (I : gM) : hX9_append_11 N (n11 + 1) v1 v2 v3 v4 v5 v6 v7 I =
  (if gc_ge v7 20 = true then (if gc_gt ((gb_add (I 0 2) v6)) 700 = true then (hX9_append_68 N v1 v2 v3 v4 v5 0 I) else (hX9_append_68 N v1 v2 v3 v4 v5 1 I)) else (hI (fX9_byteOf N [.int v1, .int v2, .int v3, .int v4, .int v5, .int v7] (gS [] I)) [] I fun x1 I1 => if gz_eq x1 = true then (hX9_append_40 N n11 v1 v2 v3 v4 v5 v7 v6 0 I1) else (hX9_append_40 N n11 v1 v2 v3 v4 v5 v7 v6 1 I1))) := by
  show (fX9_append_b11 N (s_lp (fX9_append_b11 N) n11)) [some (.ref 0), some (.int v1), some (.int v2), some (.int v3), some (.int v4), some (.int v5), some (.int v6), some (.int v7), none] [] I = _
  unfold fX9_append_b11
  refine tt_iload rfl ?_
  refine tt_const ?_
  refine tt_cmp ?_ ?_
  · skip
    refine tt_aload rfl ?_
    refine tt_aload rfl ?_
    refine tt_get (x := (I 0 2)) rfl rfl rfl ?_
    refine tt_iload rfl ?_
    refine tt_bin ?_
    refine tt_const ?_
    refine tt_cmp ?_ ?_
    · skip
      refine tt_const ?_
      refine tt_mask rfl ?_
      exact rfl
    · skip
      refine tt_const ?_
      refine tt_mask rfl ?_
      exact rfl
  · skip
    refine tt_iload rfl ?_
    refine tt_iload rfl ?_
    refine tt_iload rfl ?_
    refine tt_iload rfl ?_
    refine tt_iload rfl ?_
    refine tt_iload rfl ?_
    refine tt_iload rfl ?_
    refine tt_caI (t := [.int v6]) ⟨Nat.le_of_ble_eq_true rfl, Nat.le_of_ble_eq_true rfl⟩ rfl rfl rfl (fun x1 I1 => ?_)
    refine tt_if ?_ ?_
    · skip
      refine tt_const ?_
      refine tt_mask rfl ?_
      exact rfl
    · skip
      refine tt_const ?_
      refine tt_mask rfl ?_
      exact rfl
theorem eX9_append_11z (N : Nat) (v1 : Int32) (v2 : Int32) (v3 : Int32) (v4 : Int32) (v5 : Int32) (v6 : Int32) (v7 : Int32) (I : gM) : hX9_append_11 N 0 v1 v2 v3 v4 v5 v6 v7 I = none := (rfl)
set_option maxRecDepth 100000 in
theorem eX9_append_68 (N : Nat) (v1 : Int32) (v2 : Int32) (v3 : Int32) (v4 : Int32) (v5 : Int32) (s1 : Int32) (I : gM) : hX9_append_68 N v1 v2 v3 v4 v5 s1 I =
  (hI (fX9_fails N [.ref 0, .int s1, .int 1] (gS (rg 0 18) I)) (rg 0 18) I fun x2 I2 => if gz_eq x2 = true then (hX9_append_80 N N v1 v2 v3 v4 v5 0 I2) else (some (.inl (some (.int 0)), I2))) := by
  show (fX9_append_k68 N) [some (.ref 0), some (.int v1), some (.int v2), some (.int v3), some (.int v4), some (.int v5), none, none, none] [.int s1, .ref 0] I = _
  unfold fX9_append_k68
  refine tt_const ?_
  refine tt_cavI (t := []) ⟨Nat.le_of_ble_eq_true rfl, Nat.le_of_ble_eq_true rfl⟩ rfl rfl rfl (fun x2 I2 => ?_)
  refine tt_if ?_ ?_
  · skip
    refine tt_const ?_
    refine tt_istore (L2 := [some (.ref 0), some (.int v1), some (.int v2), some (.int v3), some (.int v4), some (.int v5), none, some (.int 0), none]) (tt_lt rfl) rfl ?_
    refine tt_mask rfl ?_
    exact rfl
  · skip
    refine tt_const ?_
    exact rfl
set_option maxRecDepth 100000 in
theorem eX9_append_40 (N : Nat) (n11 : Nat) (v1 : Int32) (v2 : Int32) (v3 : Int32) (v4 : Int32) (v5 : Int32) (v7 : Int32) (s0 : Int32) (s1 : Int32) (I : gM) : hX9_append_40 N n11 v1 v2 v3 v4 v5 v7 s0 s1 I =
  (hX9_append_11 N n11 v1 v2 v3 v4 v5 (gb_add s0 s1) (v7 + 1) I) := by
  show (fX9_append_k40 N (s_lp (fX9_append_b11 N) n11)) [some (.ref 0), some (.int v1), some (.int v2), some (.int v3), some (.int v4), some (.int v5), none, some (.int v7), none] [.int s1, .int s0] I = _
  unfold fX9_append_k40
  refine tt_bin ?_
  refine tt_istore (L2 := [some (.ref 0), some (.int v1), some (.int v2), some (.int v3), some (.int v4), some (.int v5), some (.int (gb_add s0 s1)), some (.int v7), none]) (tt_lt rfl) rfl ?_
  refine tt_iinc (L2 := [some (.ref 0), some (.int v1), some (.int v2), some (.int v3), some (.int v4), some (.int v5), some (.int (gb_add s0 s1)), some (.int (v7 + 1)), none]) rfl rfl ?_
  refine tt_mask rfl ?_
  exact rfl
set_option maxRecDepth 100000 in
theorem eX9_append_80 (N : Nat) (n80 : Nat) (v1 : Int32) (v2 : Int32) (v3 : Int32) (v4 : Int32) (v5 : Int32) (v7 : Int32) (I : gM) : hX9_append_80 N (n80 + 1) v1 v2 v3 v4 v5 v7 I =
  (if gc_ge v7 20 = true then (some (.inl (some (.int (I 0 2))), I)) else (hI (fX9_byteOf N [.int v1, .int v2, .int v3, .int v4, .int v5, .int v7] (gS [] I)) [] I fun x3 I3 => if gz_eq x3 = true then (hX9_append_127 N n80 v1 v2 v3 v4 v5 v7 I3) else (ck 700 (I3 0 2) <| hX9_append_127 N n80 v1 v2 v3 v4 v5 v7 (gU (gU I3 1 ((Int32.toNatClampNeg (I3 0 2))) x3) 0 2 ((gb_add (I3 0 2) 1)))))) := by
  show (fX9_append_b80 N (s_lp (fX9_append_b80 N) n80)) [some (.ref 0), some (.int v1), some (.int v2), some (.int v3), some (.int v4), some (.int v5), none, some (.int v7), none] [] I = _
  unfold fX9_append_b80
  refine tt_iload rfl ?_
  refine tt_const ?_
  refine tt_cmp ?_ ?_
  · skip
    refine tt_aload rfl ?_
    refine tt_get (x := (I 0 2)) rfl rfl rfl ?_
    exact rfl
  · skip
    refine tt_iload rfl ?_
    refine tt_iload rfl ?_
    refine tt_iload rfl ?_
    refine tt_iload rfl ?_
    refine tt_iload rfl ?_
    refine tt_iload rfl ?_
    refine tt_caI (t := []) ⟨Nat.le_of_ble_eq_true rfl, Nat.le_of_ble_eq_true rfl⟩ rfl rfl rfl (fun x3 I3 => ?_)
    refine tt_istore (L2 := [some (.ref 0), some (.int v1), some (.int v2), some (.int v3), some (.int v4), some (.int v5), none, some (.int v7), some (.int x3)]) (tt_lt rfl) rfl ?_
    refine tt_iload rfl ?_
    refine tt_if ?_ ?_
    · skip
      refine tt_mask rfl ?_
      exact rfl
    · skip
      refine tt_aload rfl ?_
      refine tt_getr (q := 1) rfl rfl ?_
      refine tt_aload rfl ?_
      refine tt_get (x := (I3 0 2)) rfl rfl rfl ?_
      refine tt_iload rfl ?_
      refine tt_ast (v := x3) rfl rfl ?_
      refine tt_aload rfl ?_
      refine tt_dup rfl ?_
      refine tt_get (x := (I3 0 2)) rfl rfl rfl ?_
      refine tt_const ?_
      refine tt_bin ?_
      refine tt_put rfl rfl ?_
      refine tt_mask rfl ?_
      exact rfl
theorem eX9_append_80z (N : Nat) (v1 : Int32) (v2 : Int32) (v3 : Int32) (v4 : Int32) (v5 : Int32) (v7 : Int32) (I : gM) : hX9_append_80 N 0 v1 v2 v3 v4 v5 v7 I = none := (rfl)
set_option maxRecDepth 100000 in
theorem eX9_append_127 (N : Nat) (n80 : Nat) (v1 : Int32) (v2 : Int32) (v3 : Int32) (v4 : Int32) (v5 : Int32) (v7 : Int32) (I : gM) : hX9_append_127 N n80 v1 v2 v3 v4 v5 v7 I =
  (hX9_append_80 N n80 v1 v2 v3 v4 v5 (v7 + 1) I) := by
  show (fX9_append_k127 N (s_lp (fX9_append_b80 N) n80)) [some (.ref 0), some (.int v1), some (.int v2), some (.int v3), some (.int v4), some (.int v5), none, some (.int v7), none] [] I = _
  unfold fX9_append_k127
  refine tt_iinc (L2 := [some (.ref 0), some (.int v1), some (.int v2), some (.int v3), some (.int v4), some (.int v5), none, some (.int (v7 + 1)), none]) rfl rfl ?_
  refine tt_mask rfl ?_
  exact rfl
set_option maxRecDepth 100000 in
theorem eX9_append (N : Nat) (v1 : Int32) (v2 : Int32) (v3 : Int32) (v4 : Int32) (v5 : Int32) (I : gM) : fX9_append N [.ref 0, .int v1, .int v2, .int v3, .int v4, .int v5] I = hX9_append_0 N v1 v2 v3 v4 v5 I := by
  show gFn 9 (fX9_append_k0 N) [.ref 0, .int v1, .int v2, .int v3, .int v4, .int v5] I = (fX9_append_k0 N) [some (.ref 0), some (.int v1), some (.int v2), some (.int v3), some (.int v4), some (.int v5), none, none, none] [] I
  exact tt_fn rfl rfl

def hX9_truncate_0 (N : Nat) (v1 : Int32) (I : gM) : gO := fX9_truncate_k0 N [some (.ref 0), some (.int v1)] [] I
set_option maxRecDepth 100000 in
theorem eX9_truncate_0 (N : Nat) (v1 : Int32) (I : gM) : hX9_truncate_0 N v1 I =
  (hI (fX9_in N [.long ((v1).toInt64), .long 0, .long (((I 0 2)).toInt64)] (gS [] (gU I 0 0 0))) [] (gU I 0 0 0) fun x1 I1 => hI (fX9_fails N [.ref 0, .int x1, .int 1] (gS (rg 0 18) I1)) (rg 0 18) I1 fun x2 I2 => if gz_eq x2 = true then (some (.inl (some (.int v1)), (gU I2 0 2 v1))) else (some (.inl (some (.int 0)), I2))) := by
  show (fX9_truncate_k0 N) [some (.ref 0), some (.int v1)] [] I = _
  unfold fX9_truncate_k0
  refine tt_aload rfl ?_
  refine tt_const ?_
  refine tt_put rfl rfl ?_
  refine tt_aload rfl ?_
  refine tt_iload rfl ?_
  refine tt_i2l ?_
  refine tt_lconst ?_
  refine tt_aload rfl ?_
  refine tt_get (x := (I 0 2)) rfl rfl rfl ?_
  refine tt_i2l ?_
  refine tt_caI (t := [.ref 0]) ⟨Nat.le_of_ble_eq_true rfl, Nat.le_of_ble_eq_true rfl⟩ rfl rfl rfl (fun x1 I1 => ?_)
  refine tt_const ?_
  refine tt_cavI (t := []) ⟨Nat.le_of_ble_eq_true rfl, Nat.le_of_ble_eq_true rfl⟩ rfl rfl rfl (fun x2 I2 => ?_)
  refine tt_if ?_ ?_
  · skip
    refine tt_aload rfl ?_
    refine tt_iload rfl ?_
    refine tt_put rfl rfl ?_
    refine tt_iload rfl ?_
    exact rfl
  · skip
    refine tt_const ?_
    exact rfl
set_option maxRecDepth 100000 in
theorem eX9_truncate (N : Nat) (v1 : Int32) (I : gM) : fX9_truncate N [.ref 0, .int v1] I = hX9_truncate_0 N v1 I := by
  show gFn 2 (fX9_truncate_k0 N) [.ref 0, .int v1] I = (fX9_truncate_k0 N) [some (.ref 0), some (.int v1)] [] I
  exact tt_fn rfl rfl

def hX9_peek_0 (N : Nat) (v1 : Int32) (I : gM) : gO := fX9_peek_k0 N [some (.ref 0), some (.int v1)] [] I
set_option maxRecDepth 100000 in
theorem eX9_peek_0 (N : Nat) (v1 : Int32) (I : gM) : hX9_peek_0 N v1 I =
  (if gc_ge v1 (I 0 2) = true then (some (.inl (some (.int (-1))), I)) else (ck 700 v1 <| some (.inl (some (.int ((I 1 (Int32.toNatClampNeg v1))))), I))) := by
  show (fX9_peek_k0 N) [some (.ref 0), some (.int v1)] [] I = _
  unfold fX9_peek_k0
  refine tt_iload rfl ?_
  refine tt_aload rfl ?_
  refine tt_get (x := (I 0 2)) rfl rfl rfl ?_
  refine tt_cmp ?_ ?_
  · skip
    refine tt_const ?_
    exact rfl
  · skip
    refine tt_aload rfl ?_
    refine tt_getr (q := 1) rfl rfl ?_
    refine tt_iload rfl ?_
    refine tt_ald (x := (I 1 (Int32.toNatClampNeg v1))) rfl rfl ?_
    exact rfl
set_option maxRecDepth 100000 in
theorem eX9_peek (N : Nat) (v1 : Int32) (I : gM) : fX9_peek N [.ref 0, .int v1] I = hX9_peek_0 N v1 I := by
  show gFn 2 (fX9_peek_k0 N) [.ref 0, .int v1] I = (fX9_peek_k0 N) [some (.ref 0), some (.int v1)] [] I
  exact tt_fn rfl rfl

def hX9_isLetter_0 (N : Nat) (v0 : Int32) (I : gM) : gO := fX9_isLetter_k0 N [some (.int v0)] [] I
set_option maxRecDepth 100000 in
theorem eX9_isLetter_0 (N : Nat) (v0 : Int32) (I : gM) : hX9_isLetter_0 N v0 I =
  (if gc_lt v0 97 = true then (some (.inl (some (.int 0)), I)) else (if gc_gt v0 122 = true then (some (.inl (some (.int 0)), I)) else (some (.inl (some (.int 1)), I)))) := by
  show (fX9_isLetter_k0 N) [some (.int v0)] [] I = _
  unfold fX9_isLetter_k0
  refine tt_iload rfl ?_
  refine tt_const ?_
  refine tt_cmp ?_ ?_
  · skip
    refine tt_const ?_
    exact tt_zret (by decide)
  · skip
    refine tt_iload rfl ?_
    refine tt_const ?_
    refine tt_cmp ?_ ?_
    · skip
      refine tt_const ?_
      exact tt_zret (by decide)
    · skip
      refine tt_const ?_
      exact tt_zret (by decide)
set_option maxRecDepth 100000 in
theorem eX9_isLetter (N : Nat) (v0 : Int32) (I : gM) : fX9_isLetter N [.int v0] I = hX9_isLetter_0 N v0 I := by
  show gFn 1 (fX9_isLetter_k0 N) [.int v0] I = (fX9_isLetter_k0 N) [some (.int v0)] [] I
  exact tt_fn rfl rfl

def hX9_isDigit_0 (N : Nat) (v0 : Int32) (I : gM) : gO := fX9_isDigit_k0 N [some (.int v0)] [] I
set_option maxRecDepth 100000 in
theorem eX9_isDigit_0 (N : Nat) (v0 : Int32) (I : gM) : hX9_isDigit_0 N v0 I =
  (if gc_lt v0 48 = true then (some (.inl (some (.int 0)), I)) else (if gc_gt v0 57 = true then (some (.inl (some (.int 0)), I)) else (some (.inl (some (.int 1)), I)))) := by
  show (fX9_isDigit_k0 N) [some (.int v0)] [] I = _
  unfold fX9_isDigit_k0
  refine tt_iload rfl ?_
  refine tt_const ?_
  refine tt_cmp ?_ ?_
  · skip
    refine tt_const ?_
    exact tt_zret (by decide)
  · skip
    refine tt_iload rfl ?_
    refine tt_const ?_
    refine tt_cmp ?_ ?_
    · skip
      refine tt_const ?_
      exact tt_zret (by decide)
    · skip
      refine tt_const ?_
      exact tt_zret (by decide)
set_option maxRecDepth 100000 in
theorem eX9_isDigit (N : Nat) (v0 : Int32) (I : gM) : fX9_isDigit N [.int v0] I = hX9_isDigit_0 N v0 I := by
  show gFn 1 (fX9_isDigit_k0 N) [.int v0] I = (fX9_isDigit_k0 N) [some (.int v0)] [] I
  exact tt_fn rfl rfl

def hX9_step_0 (N : Nat) (n0 : Nat) (I : gM) : gO := s_lp (fX9_step_b0 N) n0 [some (.ref 0), none] [] I
def hX9_step_56 (N : Nat) (v1 : Int32) (s1 : Int32) (I : gM) : gO := fX9_step_k56 N [some (.ref 0), some (.int v1)] [.int s1, .ref 0] I
def hX9_step_75 (N : Nat) (s1 : Int32) (I : gM) : gO := fX9_step_k75 N [some (.ref 0), none] [.int s1, .ref 0] I
def hX9_step_101 (N : Nat) (n101 : Nat) (I : gM) : gO := s_lp (fX9_step_b101 N) n101 [some (.ref 0), none] [] I
def hX9_step_136 (N : Nat) (n136 : Nat) (I : gM) : gO := s_lp (fX9_step_b136 N) n136 [some (.ref 0), none] [] I
def hX9_step_177 (N : Nat) (n136 : Nat) (s1 : Int32) (s2 : Int32) (s3 : Int32) (I : gM) : gO := fX9_step_k177 N (s_lp (fX9_step_b136 N) n136) [some (.ref 0), none] [.int s3, .int s2, .int s1, .ref 0] I
set_option maxRecDepth 100000 in
theorem eX9_step_0 (N : Nat) (n0 : Nat) (I : gM) : hX9_step_0 N (n0 + 1) I =
  (hI (fX9_peek N [.ref 0, .int (I 0 3)] (gS (rg 0 18) I)) (rg 0 18) I fun x1 I1 => if gc_ne x1 32 = true then (hI (fX9_peek N [.ref 0, .int (I1 0 3)] (gS (rg 0 18) (gU I1 0 4 (I1 0 3)))) (rg 0 18) (gU I1 0 4 (I1 0 3)) fun x2 I2 => if gz_ge x2 = true then (hI (fX9_isLetter N [.int x2] (gS [] I2)) [] I2 fun x3 I3 => hX9_step_56 N x2 x3 I3) else (hX9_step_75 N 0 I2)) else (hX9_step_0 N n0 (gU I1 0 3 ((gb_add (I1 0 3) 1))))) := by
  show (fX9_step_b0 N (s_lp (fX9_step_b0 N) n0)) [some (.ref 0), none] [] I = _
  unfold fX9_step_b0
  refine tt_aload rfl ?_
  refine tt_aload rfl ?_
  refine tt_get (x := (I 0 3)) rfl rfl rfl ?_
  refine tt_cavI (t := []) ⟨Nat.le_of_ble_eq_true rfl, Nat.le_of_ble_eq_true rfl⟩ rfl rfl rfl (fun x1 I1 => ?_)
  refine tt_const ?_
  refine tt_cmp ?_ ?_
  · skip
    refine tt_aload rfl ?_
    refine tt_aload rfl ?_
    refine tt_get (x := (I1 0 3)) rfl rfl rfl ?_
    refine tt_put rfl rfl ?_
    refine tt_aload rfl ?_
    refine tt_aload rfl ?_
    refine tt_get (x := (I1 0 3)) rfl rfl rfl ?_
    refine tt_cavI (t := []) ⟨Nat.le_of_ble_eq_true rfl, Nat.le_of_ble_eq_true rfl⟩ rfl rfl rfl (fun x2 I2 => ?_)
    refine tt_istore (L2 := [some (.ref 0), some (.int x2)]) (tt_lt rfl) rfl ?_
    refine tt_aload rfl ?_
    refine tt_iload rfl ?_
    refine tt_if ?_ ?_
    · skip
      refine tt_iload rfl ?_
      refine tt_caI (t := [.ref 0]) ⟨Nat.le_of_ble_eq_true rfl, Nat.le_of_ble_eq_true rfl⟩ rfl rfl rfl (fun x3 I3 => ?_)
      refine tt_mask rfl ?_
      exact rfl
    · skip
      refine tt_const ?_
      refine tt_mask rfl ?_
      exact rfl
  · skip
    refine tt_aload rfl ?_
    refine tt_dup rfl ?_
    refine tt_get (x := (I1 0 3)) rfl rfl rfl ?_
    refine tt_const ?_
    refine tt_bin ?_
    refine tt_put rfl rfl ?_
    refine tt_mask rfl ?_
    exact rfl
theorem eX9_step_0z (N : Nat) (I : gM) : hX9_step_0 N 0 I = none := (rfl)
set_option maxRecDepth 100000 in
theorem eX9_step_56 (N : Nat) (v1 : Int32) (s1 : Int32) (I : gM) : hX9_step_56 N v1 s1 I =
  (if gz_eq s1 = true then (hI (fX9_isDigit N [.int v1] (gS [] I)) [] I fun x4 I4 => if gz_eq x4 = true then (hX9_step_75 N 3 I4) else (hX9_step_75 N 2 I4)) else (hX9_step_75 N 1 I)) := by
  show (fX9_step_k56 N) [some (.ref 0), some (.int v1)] [.int s1, .ref 0] I = _
  unfold fX9_step_k56
  refine tt_if ?_ ?_
  · skip
    refine tt_iload rfl ?_
    refine tt_caI (t := [.ref 0]) ⟨Nat.le_of_ble_eq_true rfl, Nat.le_of_ble_eq_true rfl⟩ rfl rfl rfl (fun x4 I4 => ?_)
    refine tt_if ?_ ?_
    · skip
      refine tt_const ?_
      refine tt_mask rfl ?_
      exact rfl
    · skip
      refine tt_const ?_
      refine tt_mask rfl ?_
      exact rfl
  · skip
    refine tt_const ?_
    refine tt_mask rfl ?_
    exact rfl
set_option maxRecDepth 100000 in
theorem eX9_step_75 (N : Nat) (s1 : Int32) (I : gM) : hX9_step_75 N s1 I =
  (if gc_ne s1 3 = true then (hX9_step_101 N N (gU (gU I 0 5 s1) 0 6 0)) else (hX9_step_101 N N (gU (gU (gU I 0 5 s1) 0 6 0) 0 3 ((gb_add (I 0 3) 1))))) := by
  show (fX9_step_k75 N) [some (.ref 0), none] [.int s1, .ref 0] I = _
  unfold fX9_step_k75
  refine tt_put rfl rfl ?_
  refine tt_aload rfl ?_
  refine tt_const ?_
  refine tt_put rfl rfl ?_
  refine tt_aload rfl ?_
  refine tt_get (x := s1) rfl rfl rfl ?_
  refine tt_const ?_
  refine tt_cmp ?_ ?_
  · skip
    refine tt_mask rfl ?_
    exact rfl
  · skip
    refine tt_aload rfl ?_
    refine tt_dup rfl ?_
    refine tt_get (x := (I 0 3)) rfl rfl rfl ?_
    refine tt_const ?_
    refine tt_bin ?_
    refine tt_put rfl rfl ?_
    refine tt_mask rfl ?_
    exact rfl
set_option maxRecDepth 100000 in
theorem eX9_step_101 (N : Nat) (n101 : Nat) (I : gM) : hX9_step_101 N (n101 + 1) I =
  (if gc_ne (I 0 5) 1 = true then (hX9_step_136 N N I) else (hI (fX9_peek N [.ref 0, .int (I 0 3)] (gS (rg 0 18) I)) (rg 0 18) I fun x5 I5 => hI (fX9_isLetter N [.int x5] (gS [] I5)) [] I5 fun x6 I6 => if gz_eq x6 = true then (hX9_step_136 N N I6) else (hX9_step_101 N n101 (gU I6 0 3 ((gb_add (I6 0 3) 1)))))) := by
  show (fX9_step_b101 N (s_lp (fX9_step_b101 N) n101)) [some (.ref 0), none] [] I = _
  unfold fX9_step_b101
  refine tt_aload rfl ?_
  refine tt_get (x := (I 0 5)) rfl rfl rfl ?_
  refine tt_const ?_
  refine tt_cmp ?_ ?_
  · skip
    refine tt_mask rfl ?_
    exact rfl
  · skip
    refine tt_aload rfl ?_
    refine tt_aload rfl ?_
    refine tt_get (x := (I 0 3)) rfl rfl rfl ?_
    refine tt_cavI (t := []) ⟨Nat.le_of_ble_eq_true rfl, Nat.le_of_ble_eq_true rfl⟩ rfl rfl rfl (fun x5 I5 => ?_)
    refine tt_caI (t := []) ⟨Nat.le_of_ble_eq_true rfl, Nat.le_of_ble_eq_true rfl⟩ rfl rfl rfl (fun x6 I6 => ?_)
    refine tt_if ?_ ?_
    · skip
      refine tt_mask rfl ?_
      exact rfl
    · skip
      refine tt_aload rfl ?_
      refine tt_dup rfl ?_
      refine tt_get (x := (I6 0 3)) rfl rfl rfl ?_
      refine tt_const ?_
      refine tt_bin ?_
      refine tt_put rfl rfl ?_
      refine tt_mask rfl ?_
      exact rfl
theorem eX9_step_101z (N : Nat) (I : gM) : hX9_step_101 N 0 I = none := (rfl)
set_option maxRecDepth 100000 in
theorem eX9_step_136 (N : Nat) (n136 : Nat) (I : gM) : hX9_step_136 N (n136 + 1) I =
  (if gc_ne (I 0 5) 2 = true then (some (.inl none, I)) else (hI (fX9_peek N [.ref 0, .int (I 0 3)] (gS (rg 0 18) I)) (rg 0 18) I fun x7 I7 => hI (fX9_isDigit N [.int x7] (gS [] I7)) [] I7 fun x8 I8 => if gz_eq x8 = true then (some (.inl none, I8)) else (hI (fX9_peek N [.ref 0, .int (I8 0 3)] (gS (rg 0 18) I8)) (rg 0 18) I8 fun x9 I9 => hX9_step_177 N n136 10000 ((gb_mul 10 (I8 0 6))) x9 I9))) := by
  show (fX9_step_b136 N (s_lp (fX9_step_b136 N) n136)) [some (.ref 0), none] [] I = _
  unfold fX9_step_b136
  refine tt_aload rfl ?_
  refine tt_get (x := (I 0 5)) rfl rfl rfl ?_
  refine tt_const ?_
  refine tt_cmp ?_ ?_
  · skip
    exact rfl
  · skip
    refine tt_aload rfl ?_
    refine tt_aload rfl ?_
    refine tt_get (x := (I 0 3)) rfl rfl rfl ?_
    refine tt_cavI (t := []) ⟨Nat.le_of_ble_eq_true rfl, Nat.le_of_ble_eq_true rfl⟩ rfl rfl rfl (fun x7 I7 => ?_)
    refine tt_caI (t := []) ⟨Nat.le_of_ble_eq_true rfl, Nat.le_of_ble_eq_true rfl⟩ rfl rfl rfl (fun x8 I8 => ?_)
    refine tt_if ?_ ?_
    · skip
      exact rfl
    · skip
      refine tt_aload rfl ?_
      refine tt_const ?_
      refine tt_const ?_
      refine tt_aload rfl ?_
      refine tt_get (x := (I8 0 6)) rfl rfl rfl ?_
      refine tt_bin ?_
      refine tt_aload rfl ?_
      refine tt_aload rfl ?_
      refine tt_get (x := (I8 0 3)) rfl rfl rfl ?_
      refine tt_cavI (t := [.int ((gb_mul 10 (I8 0 6))), .int 10000, .ref 0]) ⟨Nat.le_of_ble_eq_true rfl, Nat.le_of_ble_eq_true rfl⟩ rfl rfl rfl (fun x9 I9 => ?_)
      refine tt_mask rfl ?_
      exact rfl
theorem eX9_step_136z (N : Nat) (I : gM) : hX9_step_136 N 0 I = none := (rfl)
set_option maxRecDepth 100000 in
theorem eX9_step_177 (N : Nat) (n136 : Nat) (s1 : Int32) (s2 : Int32) (s3 : Int32) (I : gM) : hX9_step_177 N n136 s1 s2 s3 I =
  (hX9_step_136 N n136 (gU (gU I 0 6 ((gj_min s1 ((gb_sub (gb_add s2 s3) 48))))) 0 3 ((gb_add (I 0 3) 1)))) := by
  show (fX9_step_k177 N (s_lp (fX9_step_b136 N) n136)) [some (.ref 0), none] [.int s3, .int s2, .int s1, .ref 0] I = _
  unfold fX9_step_k177
  refine tt_bin ?_
  refine tt_const ?_
  refine tt_bin ?_
  refine tt_jmath (Nat.le_of_ble_eq_true rfl) ?_
  refine tt_put rfl rfl ?_
  refine tt_aload rfl ?_
  refine tt_dup rfl ?_
  refine tt_get (x := (I 0 3)) rfl rfl rfl ?_
  refine tt_const ?_
  refine tt_bin ?_
  refine tt_put rfl rfl ?_
  refine tt_mask rfl ?_
  exact rfl
set_option maxRecDepth 100000 in
theorem eX9_step (N : Nat) (I : gM) : fX9_step N [.ref 0] I = hX9_step_0 N N I := by
  show gFn 2 (fX9_step_k0 N) [.ref 0] I = (fX9_step_k0 N) [some (.ref 0), none] [] I
  exact tt_fn rfl rfl

def hX9_fail_0 (N : Nat) (I : gM) : gO := fX9_fail_k0 N [some (.ref 0)] [] I
set_option maxRecDepth 100000 in
theorem eX9_fail_0 (N : Nat) (I : gM) : hX9_fail_0 N I =
  (if gz_ge (I 0 7) = true then (some (.inl none, (gU I 0 7 (I 0 7)))) else (some (.inl none, (gU I 0 7 (I 0 4))))) := by
  show (fX9_fail_k0 N) [some (.ref 0)] [] I = _
  unfold fX9_fail_k0
  refine tt_aload rfl ?_
  refine tt_aload rfl ?_
  refine tt_get (x := (I 0 7)) rfl rfl rfl ?_
  refine tt_if ?_ ?_
  · skip
    refine tt_aload rfl ?_
    refine tt_get (x := (I 0 7)) rfl rfl rfl ?_
    refine tt_put rfl rfl ?_
    exact rfl
  · skip
    refine tt_aload rfl ?_
    refine tt_get (x := (I 0 4)) rfl rfl rfl ?_
    refine tt_put rfl rfl ?_
    exact rfl
set_option maxRecDepth 100000 in
theorem eX9_fail (N : Nat) (I : gM) : fX9_fail N [.ref 0] I = hX9_fail_0 N I := by
  show gFn 1 (fX9_fail_k0 N) [.ref 0] I = (fX9_fail_k0 N) [some (.ref 0)] [] I
  exact tt_fn rfl rfl

def hX9_isGood_0 (N : Nat) (I : gM) : gO := fX9_isGood_k0 N [some (.ref 0)] [] I
set_option maxRecDepth 100000 in
theorem eX9_isGood_0 (N : Nat) (I : gM) : hX9_isGood_0 N I =
  (if gz_ge (I 0 7) = true then (some (.inl (some (.int 0)), I)) else (some (.inl (some (.int 1)), I))) := by
  show (fX9_isGood_k0 N) [some (.ref 0)] [] I = _
  unfold fX9_isGood_k0
  refine tt_aload rfl ?_
  refine tt_get (x := (I 0 7)) rfl rfl rfl ?_
  refine tt_if ?_ ?_
  · skip
    refine tt_const ?_
    exact tt_zret (by decide)
  · skip
    refine tt_const ?_
    exact tt_zret (by decide)
set_option maxRecDepth 100000 in
theorem eX9_isGood (N : Nat) (I : gM) : fX9_isGood N [.ref 0] I = hX9_isGood_0 N I := by
  show gFn 1 (fX9_isGood_k0 N) [.ref 0] I = (fX9_isGood_k0 N) [some (.ref 0)] [] I
  exact tt_fn rfl rfl

def hX9_isNumber_0 (N : Nat) (v1 : Int32) (v2 : Int32) (I : gM) : gO := fX9_isNumber_k0 N [some (.ref 0), some (.int v1), some (.int v2)] [] I
set_option maxRecDepth 100000 in
theorem eX9_isNumber_0 (N : Nat) (v1 : Int32) (v2 : Int32) (I : gM) : hX9_isNumber_0 N v1 v2 I =
  (hI (fX9_isGood N [.ref 0] (gS (rg 0 18) I)) (rg 0 18) I fun x1 I1 => if gz_eq x1 = true then (some (.inl (some (.int 0)), I1)) else (if gc_ne (I1 0 5) 2 = true then (some (.inl (some (.int 0)), I1)) else (if gc_gt ((gb_sub (I1 0 3) (I1 0 4))) 3 = true then (some (.inl (some (.int 0)), I1)) else (hI (fX9_in N [.long (((I1 0 6)).toInt64), .long ((v1).toInt64), .long ((v2).toInt64)] (gS [] I1)) [] I1 fun x2 I2 => if gz_eq x2 = true then (some (.inl (some (.int 0)), I2)) else (some (.inl (some (.int 1)), I2)))))) := by
  show (fX9_isNumber_k0 N) [some (.ref 0), some (.int v1), some (.int v2)] [] I = _
  unfold fX9_isNumber_k0
  refine tt_aload rfl ?_
  refine tt_cavI (t := []) ⟨Nat.le_of_ble_eq_true rfl, Nat.le_of_ble_eq_true rfl⟩ rfl rfl rfl (fun x1 I1 => ?_)
  refine tt_if ?_ ?_
  · skip
    refine tt_const ?_
    exact tt_zret (by decide)
  · skip
    refine tt_aload rfl ?_
    refine tt_get (x := (I1 0 5)) rfl rfl rfl ?_
    refine tt_const ?_
    refine tt_cmp ?_ ?_
    · skip
      refine tt_const ?_
      exact tt_zret (by decide)
    · skip
      refine tt_aload rfl ?_
      refine tt_get (x := (I1 0 3)) rfl rfl rfl ?_
      refine tt_aload rfl ?_
      refine tt_get (x := (I1 0 4)) rfl rfl rfl ?_
      refine tt_bin ?_
      refine tt_const ?_
      refine tt_cmp ?_ ?_
      · skip
        refine tt_const ?_
        exact tt_zret (by decide)
      · skip
        refine tt_aload rfl ?_
        refine tt_get (x := (I1 0 6)) rfl rfl rfl ?_
        refine tt_i2l ?_
        refine tt_iload rfl ?_
        refine tt_i2l ?_
        refine tt_iload rfl ?_
        refine tt_i2l ?_
        refine tt_caI (t := []) ⟨Nat.le_of_ble_eq_true rfl, Nat.le_of_ble_eq_true rfl⟩ rfl rfl rfl (fun x2 I2 => ?_)
        refine tt_if ?_ ?_
        · skip
          refine tt_const ?_
          exact tt_zret (by decide)
        · skip
          refine tt_const ?_
          exact tt_zret (by decide)
set_option maxRecDepth 100000 in
theorem eX9_isNumber (N : Nat) (v1 : Int32) (v2 : Int32) (I : gM) : fX9_isNumber N [.ref 0, .int v1, .int v2] I = hX9_isNumber_0 N v1 v2 I := by
  show gFn 3 (fX9_isNumber_k0 N) [.ref 0, .int v1, .int v2] I = (fX9_isNumber_k0 N) [some (.ref 0), some (.int v1), some (.int v2)] [] I
  exact tt_fn rfl rfl

def hX9_takeNumber_0 (N : Nat) (v1 : Int32) (v2 : Int32) (I : gM) : gO := fX9_takeNumber_k0 N [some (.ref 0), some (.int v1), some (.int v2), none] [] I
set_option maxRecDepth 100000 in
theorem eX9_takeNumber_0 (N : Nat) (v1 : Int32) (v2 : Int32) (I : gM) : hX9_takeNumber_0 N v1 v2 I =
  (hI (fX9_isNumber N [.ref 0, .int v1, .int v2] (gS (rg 0 18) I)) (rg 0 18) I fun x1 I1 => if gz_ne x1 = true then (hV (fX9_step N [.ref 0] (gS (rg 0 18) I1)) (rg 0 18) I1 fun I2 => some (.inl (some (.int (I1 0 6))), I2)) else (hV (fX9_fail N [.ref 0] (gS (rg 0 18) I1)) (rg 0 18) I1 fun I3 => some (.inl (some (.int v1)), I3))) := by
  show (fX9_takeNumber_k0 N) [some (.ref 0), some (.int v1), some (.int v2), none] [] I = _
  unfold fX9_takeNumber_k0
  refine tt_aload rfl ?_
  refine tt_iload rfl ?_
  refine tt_iload rfl ?_
  refine tt_cavI (t := []) ⟨Nat.le_of_ble_eq_true rfl, Nat.le_of_ble_eq_true rfl⟩ rfl rfl rfl (fun x1 I1 => ?_)
  refine tt_if ?_ ?_
  · skip
    refine tt_aload rfl ?_
    refine tt_get (x := (I1 0 6)) rfl rfl rfl ?_
    refine tt_istore (L2 := [some (.ref 0), some (.int v1), some (.int v2), some (.int (I1 0 6))]) (tt_lt rfl) rfl ?_
    refine tt_aload rfl ?_
    refine tt_cavV (t := []) ⟨Nat.le_of_ble_eq_true rfl, Nat.le_of_ble_eq_true rfl⟩ rfl rfl rfl (fun I2 => ?_)
    refine tt_iload rfl ?_
    exact rfl
  · skip
    refine tt_aload rfl ?_
    refine tt_cavV (t := []) ⟨Nat.le_of_ble_eq_true rfl, Nat.le_of_ble_eq_true rfl⟩ rfl rfl rfl (fun I3 => ?_)
    refine tt_iload rfl ?_
    exact rfl
set_option maxRecDepth 100000 in
theorem eX9_takeNumber (N : Nat) (v1 : Int32) (v2 : Int32) (I : gM) : fX9_takeNumber N [.ref 0, .int v1, .int v2] I = hX9_takeNumber_0 N v1 v2 I := by
  show gFn 4 (fX9_takeNumber_k0 N) [.ref 0, .int v1, .int v2] I = (fX9_takeNumber_k0 N) [some (.ref 0), some (.int v1), some (.int v2), none] [] I
  exact tt_fn rfl rfl

def hX9_begin_0 (N : Nat) (I : gM) : gO := fX9_begin_k0 N [some (.ref 0), none] [] I
def hX9_begin_2 (N : Nat) (n2 : Nat) (v1 : Int32) (I : gM) : gO := s_lp (fX9_begin_b2 N) n2 [some (.ref 0), some (.int v1)] [] I
set_option maxRecDepth 100000 in
theorem eX9_begin_0 (N : Nat) (I : gM) : hX9_begin_0 N I =
  (hX9_begin_2 N N 0 I) := by
  show (fX9_begin_k0 N) [some (.ref 0), none] [] I = _
  unfold fX9_begin_k0
  refine tt_const ?_
  refine tt_istore (L2 := [some (.ref 0), some (.int 0)]) (tt_lt rfl) rfl ?_
  refine tt_mask rfl ?_
  exact rfl
set_option maxRecDepth 100000 in
theorem eX9_begin_2 (N : Nat) (n2 : Nat) (v1 : Int32) (I : gM) : hX9_begin_2 N (n2 + 1) v1 I =
  (if gc_ge v1 2746 = true then (ck 2746 4 <| some (.inl none, (gU (gU (gU I 2 (Int32.toNatClampNeg 4) 10) 0 14 0) 0 15 0))) else (ck 2746 v1 <| hX9_begin_2 N n2 (v1 + 1) (gU I 2 (Int32.toNatClampNeg v1) 0))) := by
  show (fX9_begin_b2 N (s_lp (fX9_begin_b2 N) n2)) [some (.ref 0), some (.int v1)] [] I = _
  unfold fX9_begin_b2
  refine tt_iload rfl ?_
  refine tt_const ?_
  refine tt_cmp ?_ ?_
  · skip
    refine tt_aload rfl ?_
    refine tt_getr (q := 2) rfl rfl ?_
    refine tt_const ?_
    refine tt_const ?_
    refine tt_ast (v := 10) rfl rfl ?_
    refine tt_aload rfl ?_
    refine tt_const ?_
    refine tt_put rfl rfl ?_
    refine tt_aload rfl ?_
    refine tt_const ?_
    refine tt_put rfl rfl ?_
    exact rfl
  · skip
    refine tt_aload rfl ?_
    refine tt_getr (q := 2) rfl rfl ?_
    refine tt_iload rfl ?_
    refine tt_const ?_
    refine tt_ast (v := 0) rfl rfl ?_
    refine tt_iinc (L2 := [some (.ref 0), some (.int (v1 + 1))]) rfl rfl ?_
    refine tt_mask rfl ?_
    exact rfl
theorem eX9_begin_2z (N : Nat) (v1 : Int32) (I : gM) : hX9_begin_2 N 0 v1 I = none := (rfl)
set_option maxRecDepth 100000 in
theorem eX9_begin (N : Nat) (I : gM) : fX9_begin N [.ref 0] I = hX9_begin_0 N I := by
  show gFn 2 (fX9_begin_k0 N) [.ref 0] I = (fX9_begin_k0 N) [some (.ref 0), none] [] I
  exact tt_fn rfl rfl

def hX9_linkIn_0 (N : Nat) (v1 : Int32) (v2 : Int32) (I : gM) : gO := fX9_linkIn_k0 N [some (.ref 0), some (.int v1), some (.int v2), none] [] I
def hX9_linkIn_2 (N : Nat) (n2 : Nat) (v1 : Int32) (v2 : Int32) (v3 : Int32) (I : gM) : gO := s_lp (fX9_linkIn_b2 N) n2 [some (.ref 0), some (.int v1), some (.int v2), some (.int v3)] [] I
def hX9_linkIn_39 (N : Nat) (n2 : Nat) (v1 : Int32) (v2 : Int32) (v3 : Int32) (I : gM) : gO := fX9_linkIn_k39 N (s_lp (fX9_linkIn_b2 N) n2) [some (.ref 0), some (.int v1), some (.int v2), some (.int v3)] [] I
set_option maxRecDepth 100000 in
theorem eX9_linkIn_0 (N : Nat) (v1 : Int32) (v2 : Int32) (I : gM) : hX9_linkIn_0 N v1 v2 I =
  (hX9_linkIn_2 N N v1 v2 0 I) := by
  show (fX9_linkIn_k0 N) [some (.ref 0), some (.int v1), some (.int v2), none] [] I = _
  unfold fX9_linkIn_k0
  refine tt_const ?_
  refine tt_istore (L2 := [some (.ref 0), some (.int v1), some (.int v2), some (.int 0)]) (tt_lt rfl) rfl ?_
  refine tt_mask rfl ?_
  exact rfl
set_option maxRecDepth 100000 in
theorem eX9_linkIn_2 (N : Nat) (n2 : Nat) (v1 : Int32) (v2 : Int32) (v3 : Int32) (I : gM) : hX9_linkIn_2 N (n2 + 1) v1 v2 v3 I =
  (ck 2746 1 <| if gc_ge v3 ((I 0 (Int32.toNatClampNeg 1))) = true then (some (.inl (some (.int (-1))), I)) else (ck 2746 ((gb_add ((gb_add 9 (gb_mul 4 v3))) 0)) <| if gc_ne ((I 0 ((Int32.toNatClampNeg ((gb_add ((gb_add 9 (gb_mul 4 v3))) 0)))))) v1 = true then (hX9_linkIn_39 N n2 v1 v2 v3 I) else (ck 2746 ((gb_add ((gb_add 9 (gb_mul 4 v3))) 1)) <| if gc_ne ((I 0 ((Int32.toNatClampNeg ((gb_add ((gb_add 9 (gb_mul 4 v3))) 1)))))) v2 = true then (hX9_linkIn_39 N n2 v1 v2 v3 I) else (some (.inl (some (.int v3)), I))))) := by
  show (fX9_linkIn_b2 N (s_lp (fX9_linkIn_b2 N) n2)) [some (.ref 0), some (.int v1), some (.int v2), some (.int v3)] [] I = _
  unfold fX9_linkIn_b2
  refine tt_iload rfl ?_
  refine tt_aload rfl ?_
  refine tt_const ?_
  refine tt_ald (x := (I 0 (Int32.toNatClampNeg 1))) rfl rfl ?_
  refine tt_cmp ?_ ?_
  · skip
    refine tt_const ?_
    exact rfl
  · skip
    refine tt_aload rfl ?_
    refine tt_const ?_
    refine tt_const ?_
    refine tt_iload rfl ?_
    refine tt_bin ?_
    refine tt_bin ?_
    refine tt_const ?_
    refine tt_bin ?_
    refine tt_ald (x := (I 0 ((Int32.toNatClampNeg ((gb_add ((gb_add 9 (gb_mul 4 v3))) 0)))))) rfl rfl ?_
    refine tt_iload rfl ?_
    refine tt_cmp ?_ ?_
    · skip
      refine tt_mask rfl ?_
      exact rfl
    · skip
      refine tt_aload rfl ?_
      refine tt_const ?_
      refine tt_const ?_
      refine tt_iload rfl ?_
      refine tt_bin ?_
      refine tt_bin ?_
      refine tt_const ?_
      refine tt_bin ?_
      refine tt_ald (x := (I 0 ((Int32.toNatClampNeg ((gb_add ((gb_add 9 (gb_mul 4 v3))) 1)))))) rfl rfl ?_
      refine tt_iload rfl ?_
      refine tt_cmp ?_ ?_
      · skip
        refine tt_mask rfl ?_
        exact rfl
      · skip
        refine tt_iload rfl ?_
        exact rfl
theorem eX9_linkIn_2z (N : Nat) (v1 : Int32) (v2 : Int32) (v3 : Int32) (I : gM) : hX9_linkIn_2 N 0 v1 v2 v3 I = none := (rfl)
set_option maxRecDepth 100000 in
theorem eX9_linkIn_39 (N : Nat) (n2 : Nat) (v1 : Int32) (v2 : Int32) (v3 : Int32) (I : gM) : hX9_linkIn_39 N n2 v1 v2 v3 I =
  (hX9_linkIn_2 N n2 v1 v2 (v3 + 1) I) := by
  show (fX9_linkIn_k39 N (s_lp (fX9_linkIn_b2 N) n2)) [some (.ref 0), some (.int v1), some (.int v2), some (.int v3)] [] I = _
  unfold fX9_linkIn_k39
  refine tt_iinc (L2 := [some (.ref 0), some (.int v1), some (.int v2), some (.int (v3 + 1))]) rfl rfl ?_
  refine tt_mask rfl ?_
  exact rfl
set_option maxRecDepth 100000 in
theorem eX9_linkIn (N : Nat) (v1 : Int32) (v2 : Int32) (I : gM) : fX9_linkIn N [.ref 0, .int v1, .int v2] I = hX9_linkIn_0 N v1 v2 I := by
  show gFn 4 (fX9_linkIn_k0 N) [.ref 0, .int v1, .int v2] I = (fX9_linkIn_k0 N) [some (.ref 0), some (.int v1), some (.int v2), none] [] I
  exact tt_fn rfl rfl

def hX9_layLink_0 (N : Nat) (v1 : Int32) (v2 : Int32) (v3 : Int32) (I : gM) : gO := fX9_layLink_k0 N [some (.ref 0), some (.int v1), some (.int v2), some (.int v3), none] [] I
set_option maxRecDepth 100000 in
theorem eX9_layLink_0 (N : Nat) (v1 : Int32) (v2 : Int32) (v3 : Int32) (I : gM) : hX9_layLink_0 N v1 v2 v3 I =
  (ck 2746 1 <| ck 2746 ((gb_add ((gb_add 9 ((gb_mul 4 ((I 0 (Int32.toNatClampNeg 1))))))) 0)) <| ck 2746 ((gb_add ((gb_add 9 ((gb_mul 4 ((I 0 (Int32.toNatClampNeg 1))))))) 1)) <| ck 2746 ((gb_add ((gb_add 9 ((gb_mul 4 ((I 0 (Int32.toNatClampNeg 1))))))) 2)) <| ck 2746 ((gb_add ((gb_add 9 ((gb_mul 4 ((I 0 (Int32.toNatClampNeg 1))))))) 3)) <| ck 2746 1 <| ck 2746 ((gb_add 131 (((gU (gU (gU (gU I 0 ((Int32.toNatClampNeg ((gb_add ((gb_add 9 ((gb_mul 4 ((I 0 (Int32.toNatClampNeg 1))))))) 0)))) v1) 0 ((Int32.toNatClampNeg ((gb_add ((gb_add 9 ((gb_mul 4 ((I 0 (Int32.toNatClampNeg 1))))))) 1)))) v2) 0 ((Int32.toNatClampNeg ((gb_add ((gb_add 9 ((gb_mul 4 ((I 0 (Int32.toNatClampNeg 1))))))) 2)))) v3) 0 ((Int32.toNatClampNeg ((gb_add ((gb_add 9 ((gb_mul 4 ((I 0 (Int32.toNatClampNeg 1))))))) 3)))) 0) 0 (Int32.toNatClampNeg 1))))) <| ck 2746 1 <| ck 2746 1 <| some (.inl none, (gU (gU (gU (gU (gU (gU I 0 ((Int32.toNatClampNeg ((gb_add ((gb_add 9 ((gb_mul 4 ((I 0 (Int32.toNatClampNeg 1))))))) 0)))) v1) 0 ((Int32.toNatClampNeg ((gb_add ((gb_add 9 ((gb_mul 4 ((I 0 (Int32.toNatClampNeg 1))))))) 1)))) v2) 0 ((Int32.toNatClampNeg ((gb_add ((gb_add 9 ((gb_mul 4 ((I 0 (Int32.toNatClampNeg 1))))))) 2)))) v3) 0 ((Int32.toNatClampNeg ((gb_add ((gb_add 9 ((gb_mul 4 ((I 0 (Int32.toNatClampNeg 1))))))) 3)))) 0) 0 ((Int32.toNatClampNeg ((gb_add 131 (((gU (gU (gU (gU I 0 ((Int32.toNatClampNeg ((gb_add ((gb_add 9 ((gb_mul 4 ((I 0 (Int32.toNatClampNeg 1))))))) 0)))) v1) 0 ((Int32.toNatClampNeg ((gb_add ((gb_add 9 ((gb_mul 4 ((I 0 (Int32.toNatClampNeg 1))))))) 1)))) v2) 0 ((Int32.toNatClampNeg ((gb_add ((gb_add 9 ((gb_mul 4 ((I 0 (Int32.toNatClampNeg 1))))))) 2)))) v3) 0 ((Int32.toNatClampNeg ((gb_add ((gb_add 9 ((gb_mul 4 ((I 0 (Int32.toNatClampNeg 1))))))) 3)))) 0) 0 (Int32.toNatClampNeg 1))))))) 0) 0 (Int32.toNatClampNeg 1) ((gb_add (((gU (gU (gU (gU (gU I 0 ((Int32.toNatClampNeg ((gb_add ((gb_add 9 ((gb_mul 4 ((I 0 (Int32.toNatClampNeg 1))))))) 0)))) v1) 0 ((Int32.toNatClampNeg ((gb_add ((gb_add 9 ((gb_mul 4 ((I 0 (Int32.toNatClampNeg 1))))))) 1)))) v2) 0 ((Int32.toNatClampNeg ((gb_add ((gb_add 9 ((gb_mul 4 ((I 0 (Int32.toNatClampNeg 1))))))) 2)))) v3) 0 ((Int32.toNatClampNeg ((gb_add ((gb_add 9 ((gb_mul 4 ((I 0 (Int32.toNatClampNeg 1))))))) 3)))) 0) 0 ((Int32.toNatClampNeg ((gb_add 131 (((gU (gU (gU (gU I 0 ((Int32.toNatClampNeg ((gb_add ((gb_add 9 ((gb_mul 4 ((I 0 (Int32.toNatClampNeg 1))))))) 0)))) v1) 0 ((Int32.toNatClampNeg ((gb_add ((gb_add 9 ((gb_mul 4 ((I 0 (Int32.toNatClampNeg 1))))))) 1)))) v2) 0 ((Int32.toNatClampNeg ((gb_add ((gb_add 9 ((gb_mul 4 ((I 0 (Int32.toNatClampNeg 1))))))) 2)))) v3) 0 ((Int32.toNatClampNeg ((gb_add ((gb_add 9 ((gb_mul 4 ((I 0 (Int32.toNatClampNeg 1))))))) 3)))) 0) 0 (Int32.toNatClampNeg 1))))))) 0) 0 (Int32.toNatClampNeg 1))) 1))))) := by
  show (fX9_layLink_k0 N) [some (.ref 0), some (.int v1), some (.int v2), some (.int v3), none] [] I = _
  unfold fX9_layLink_k0
  refine tt_const ?_
  refine tt_const ?_
  refine tt_aload rfl ?_
  refine tt_const ?_
  refine tt_ald (x := (I 0 (Int32.toNatClampNeg 1))) rfl rfl ?_
  refine tt_bin ?_
  refine tt_bin ?_
  refine tt_istore (L2 := [some (.ref 0), some (.int v1), some (.int v2), some (.int v3), some (.int ((gb_add 9 ((gb_mul 4 ((I 0 (Int32.toNatClampNeg 1))))))))]) (tt_lt rfl) rfl ?_
  refine tt_aload rfl ?_
  refine tt_iload rfl ?_
  refine tt_const ?_
  refine tt_bin ?_
  refine tt_iload rfl ?_
  refine tt_ast (v := v1) rfl rfl ?_
  refine tt_aload rfl ?_
  refine tt_iload rfl ?_
  refine tt_const ?_
  refine tt_bin ?_
  refine tt_iload rfl ?_
  refine tt_ast (v := v2) rfl rfl ?_
  refine tt_aload rfl ?_
  refine tt_iload rfl ?_
  refine tt_const ?_
  refine tt_bin ?_
  refine tt_iload rfl ?_
  refine tt_ast (v := v3) rfl rfl ?_
  refine tt_aload rfl ?_
  refine tt_iload rfl ?_
  refine tt_const ?_
  refine tt_bin ?_
  refine tt_const ?_
  refine tt_ast (v := 0) rfl rfl ?_
  refine tt_aload rfl ?_
  refine tt_const ?_
  refine tt_aload rfl ?_
  refine tt_const ?_
  refine tt_ald (x := ((gU (gU (gU (gU I 0 ((Int32.toNatClampNeg ((gb_add ((gb_add 9 ((gb_mul 4 ((I 0 (Int32.toNatClampNeg 1))))))) 0)))) v1) 0 ((Int32.toNatClampNeg ((gb_add ((gb_add 9 ((gb_mul 4 ((I 0 (Int32.toNatClampNeg 1))))))) 1)))) v2) 0 ((Int32.toNatClampNeg ((gb_add ((gb_add 9 ((gb_mul 4 ((I 0 (Int32.toNatClampNeg 1))))))) 2)))) v3) 0 ((Int32.toNatClampNeg ((gb_add ((gb_add 9 ((gb_mul 4 ((I 0 (Int32.toNatClampNeg 1))))))) 3)))) 0) 0 (Int32.toNatClampNeg 1))) rfl rfl ?_
  refine tt_bin ?_
  refine tt_const ?_
  refine tt_ast (v := 0) rfl rfl ?_
  refine tt_aload rfl ?_
  refine tt_const ?_
  refine tt_dup2 rfl rfl ?_
  refine tt_ald (x := ((gU (gU (gU (gU (gU I 0 ((Int32.toNatClampNeg ((gb_add ((gb_add 9 ((gb_mul 4 ((I 0 (Int32.toNatClampNeg 1))))))) 0)))) v1) 0 ((Int32.toNatClampNeg ((gb_add ((gb_add 9 ((gb_mul 4 ((I 0 (Int32.toNatClampNeg 1))))))) 1)))) v2) 0 ((Int32.toNatClampNeg ((gb_add ((gb_add 9 ((gb_mul 4 ((I 0 (Int32.toNatClampNeg 1))))))) 2)))) v3) 0 ((Int32.toNatClampNeg ((gb_add ((gb_add 9 ((gb_mul 4 ((I 0 (Int32.toNatClampNeg 1))))))) 3)))) 0) 0 ((Int32.toNatClampNeg ((gb_add 131 (((gU (gU (gU (gU I 0 ((Int32.toNatClampNeg ((gb_add ((gb_add 9 ((gb_mul 4 ((I 0 (Int32.toNatClampNeg 1))))))) 0)))) v1) 0 ((Int32.toNatClampNeg ((gb_add ((gb_add 9 ((gb_mul 4 ((I 0 (Int32.toNatClampNeg 1))))))) 1)))) v2) 0 ((Int32.toNatClampNeg ((gb_add ((gb_add 9 ((gb_mul 4 ((I 0 (Int32.toNatClampNeg 1))))))) 2)))) v3) 0 ((Int32.toNatClampNeg ((gb_add ((gb_add 9 ((gb_mul 4 ((I 0 (Int32.toNatClampNeg 1))))))) 3)))) 0) 0 (Int32.toNatClampNeg 1))))))) 0) 0 (Int32.toNatClampNeg 1))) rfl rfl ?_
  refine tt_const ?_
  refine tt_bin ?_
  refine tt_ast (v := (gb_add (((gU (gU (gU (gU (gU I 0 ((Int32.toNatClampNeg ((gb_add ((gb_add 9 ((gb_mul 4 ((I 0 (Int32.toNatClampNeg 1))))))) 0)))) v1) 0 ((Int32.toNatClampNeg ((gb_add ((gb_add 9 ((gb_mul 4 ((I 0 (Int32.toNatClampNeg 1))))))) 1)))) v2) 0 ((Int32.toNatClampNeg ((gb_add ((gb_add 9 ((gb_mul 4 ((I 0 (Int32.toNatClampNeg 1))))))) 2)))) v3) 0 ((Int32.toNatClampNeg ((gb_add ((gb_add 9 ((gb_mul 4 ((I 0 (Int32.toNatClampNeg 1))))))) 3)))) 0) 0 ((Int32.toNatClampNeg ((gb_add 131 (((gU (gU (gU (gU I 0 ((Int32.toNatClampNeg ((gb_add ((gb_add 9 ((gb_mul 4 ((I 0 (Int32.toNatClampNeg 1))))))) 0)))) v1) 0 ((Int32.toNatClampNeg ((gb_add ((gb_add 9 ((gb_mul 4 ((I 0 (Int32.toNatClampNeg 1))))))) 1)))) v2) 0 ((Int32.toNatClampNeg ((gb_add ((gb_add 9 ((gb_mul 4 ((I 0 (Int32.toNatClampNeg 1))))))) 2)))) v3) 0 ((Int32.toNatClampNeg ((gb_add ((gb_add 9 ((gb_mul 4 ((I 0 (Int32.toNatClampNeg 1))))))) 3)))) 0) 0 (Int32.toNatClampNeg 1))))))) 0) 0 (Int32.toNatClampNeg 1))) 1)) rfl rfl ?_
  exact rfl
set_option maxRecDepth 100000 in
theorem eX9_layLink (N : Nat) (v1 : Int32) (v2 : Int32) (v3 : Int32) (I : gM) : fX9_layLink N [.ref 0, .int v1, .int v2, .int v3] I = hX9_layLink_0 N v1 v2 v3 I := by
  show gFn 5 (fX9_layLink_k0 N) [.ref 0, .int v1, .int v2, .int v3] I = (fX9_layLink_k0 N) [some (.ref 0), some (.int v1), some (.int v2), some (.int v3), none] [] I
  exact tt_fn rfl rfl

def hX9_layFlow_0 (N : Nat) (v1 : Int32) (v2 : Int32) (v3 : Int32) (v4 : Int32) (I : gM) : gO := fX9_layFlow_k0 N [some (.ref 0), some (.int v1), some (.int v2), some (.int v3), some (.int v4), none, none] [] I
def hX9_layFlow_14 (N : Nat) (n14 : Nat) (v1 : Int32) (v2 : Int32) (v3 : Int32) (v4 : Int32) (v5 : Int32) (v6 : Int32) (I : gM) : gO := s_lp (fX9_layFlow_b14 N) n14 [some (.ref 0), some (.int v1), some (.int v2), some (.int v3), some (.int v4), some (.int v5), some (.int v6)] [] I
set_option maxRecDepth 100000 in
theorem eX9_layFlow_0 (N : Nat) (v1 : Int32) (v2 : Int32) (v3 : Int32) (v4 : Int32) (I : gM) : hX9_layFlow_0 N v1 v2 v3 v4 I =
  (ck 2746 2 <| hX9_layFlow_14 N N v1 v2 v3 v4 ((gb_add 65 ((gb_mul 11 ((I 0 (Int32.toNatClampNeg 2))))))) 0 I) := by
  show (fX9_layFlow_k0 N) [some (.ref 0), some (.int v1), some (.int v2), some (.int v3), some (.int v4), none, none] [] I = _
  unfold fX9_layFlow_k0
  refine tt_const ?_
  refine tt_const ?_
  refine tt_aload rfl ?_
  refine tt_const ?_
  refine tt_ald (x := (I 0 (Int32.toNatClampNeg 2))) rfl rfl ?_
  refine tt_bin ?_
  refine tt_bin ?_
  refine tt_istore (L2 := [some (.ref 0), some (.int v1), some (.int v2), some (.int v3), some (.int v4), some (.int ((gb_add 65 ((gb_mul 11 ((I 0 (Int32.toNatClampNeg 2)))))))), none]) (tt_lt rfl) rfl ?_
  refine tt_const ?_
  refine tt_istore (L2 := [some (.ref 0), some (.int v1), some (.int v2), some (.int v3), some (.int v4), some (.int ((gb_add 65 ((gb_mul 11 ((I 0 (Int32.toNatClampNeg 2)))))))), some (.int 0)]) (tt_lt rfl) rfl ?_
  refine tt_mask rfl ?_
  exact rfl
set_option maxRecDepth 100000 in
theorem eX9_layFlow_14 (N : Nat) (n14 : Nat) (v1 : Int32) (v2 : Int32) (v3 : Int32) (v4 : Int32) (v5 : Int32) (v6 : Int32) (I : gM) : hX9_layFlow_14 N (n14 + 1) v1 v2 v3 v4 v5 v6 I =
  (if gc_ge v6 11 = true then (ck 2746 (gb_add v5 0) <| ck 2746 (gb_add v5 1) <| ck 2746 (gb_add v5 2) <| ck 2746 (gb_add v5 3) <| ck 2746 2 <| ck 2746 2 <| some (.inl none, (gU (gU (gU (gU (gU I 0 ((Int32.toNatClampNeg (gb_add v5 0))) v1) 0 ((Int32.toNatClampNeg (gb_add v5 1))) v2) 0 ((Int32.toNatClampNeg (gb_add v5 2))) v3) 0 ((Int32.toNatClampNeg (gb_add v5 3))) v4) 0 (Int32.toNatClampNeg 2) ((gb_add (((gU (gU (gU (gU I 0 ((Int32.toNatClampNeg (gb_add v5 0))) v1) 0 ((Int32.toNatClampNeg (gb_add v5 1))) v2) 0 ((Int32.toNatClampNeg (gb_add v5 2))) v3) 0 ((Int32.toNatClampNeg (gb_add v5 3))) v4) 0 (Int32.toNatClampNeg 2))) 1))))) else (ck 2746 (gb_add v5 v6) <| hX9_layFlow_14 N n14 v1 v2 v3 v4 v5 (v6 + 1) (gU I 0 ((Int32.toNatClampNeg (gb_add v5 v6))) 0))) := by
  show (fX9_layFlow_b14 N (s_lp (fX9_layFlow_b14 N) n14)) [some (.ref 0), some (.int v1), some (.int v2), some (.int v3), some (.int v4), some (.int v5), some (.int v6)] [] I = _
  unfold fX9_layFlow_b14
  refine tt_iload rfl ?_
  refine tt_const ?_
  refine tt_cmp ?_ ?_
  · skip
    refine tt_aload rfl ?_
    refine tt_iload rfl ?_
    refine tt_const ?_
    refine tt_bin ?_
    refine tt_iload rfl ?_
    refine tt_ast (v := v1) rfl rfl ?_
    refine tt_aload rfl ?_
    refine tt_iload rfl ?_
    refine tt_const ?_
    refine tt_bin ?_
    refine tt_iload rfl ?_
    refine tt_ast (v := v2) rfl rfl ?_
    refine tt_aload rfl ?_
    refine tt_iload rfl ?_
    refine tt_const ?_
    refine tt_bin ?_
    refine tt_iload rfl ?_
    refine tt_ast (v := v3) rfl rfl ?_
    refine tt_aload rfl ?_
    refine tt_iload rfl ?_
    refine tt_const ?_
    refine tt_bin ?_
    refine tt_iload rfl ?_
    refine tt_ast (v := v4) rfl rfl ?_
    refine tt_aload rfl ?_
    refine tt_const ?_
    refine tt_dup2 rfl rfl ?_
    refine tt_ald (x := ((gU (gU (gU (gU I 0 ((Int32.toNatClampNeg (gb_add v5 0))) v1) 0 ((Int32.toNatClampNeg (gb_add v5 1))) v2) 0 ((Int32.toNatClampNeg (gb_add v5 2))) v3) 0 ((Int32.toNatClampNeg (gb_add v5 3))) v4) 0 (Int32.toNatClampNeg 2))) rfl rfl ?_
    refine tt_const ?_
    refine tt_bin ?_
    refine tt_ast (v := (gb_add (((gU (gU (gU (gU I 0 ((Int32.toNatClampNeg (gb_add v5 0))) v1) 0 ((Int32.toNatClampNeg (gb_add v5 1))) v2) 0 ((Int32.toNatClampNeg (gb_add v5 2))) v3) 0 ((Int32.toNatClampNeg (gb_add v5 3))) v4) 0 (Int32.toNatClampNeg 2))) 1)) rfl rfl ?_
    exact rfl
  · skip
    refine tt_aload rfl ?_
    refine tt_iload rfl ?_
    refine tt_iload rfl ?_
    refine tt_bin ?_
    refine tt_const ?_
    refine tt_ast (v := 0) rfl rfl ?_
    refine tt_iinc (L2 := [some (.ref 0), some (.int v1), some (.int v2), some (.int v3), some (.int v4), some (.int v5), some (.int (v6 + 1))]) rfl rfl ?_
    refine tt_mask rfl ?_
    exact rfl
theorem eX9_layFlow_14z (N : Nat) (v1 : Int32) (v2 : Int32) (v3 : Int32) (v4 : Int32) (v5 : Int32) (v6 : Int32) (I : gM) : hX9_layFlow_14 N 0 v1 v2 v3 v4 v5 v6 I = none := (rfl)
set_option maxRecDepth 100000 in
theorem eX9_layFlow (N : Nat) (v1 : Int32) (v2 : Int32) (v3 : Int32) (v4 : Int32) (I : gM) : fX9_layFlow N [.ref 0, .int v1, .int v2, .int v3, .int v4] I = hX9_layFlow_0 N v1 v2 v3 v4 I := by
  show gFn 7 (fX9_layFlow_k0 N) [.ref 0, .int v1, .int v2, .int v3, .int v4] I = (fX9_layFlow_k0 N) [some (.ref 0), some (.int v1), some (.int v2), some (.int v3), some (.int v4), none, none] [] I
  exact tt_fn rfl rfl

def hX9_takeOther_0 (N : Nat) (v1 : Int32) (v2 : Int32) (v3 : Int32) (I : gM) : gO := fX9_takeOther_k0 N [some (.ref 0), some (.int v1), some (.int v2), some (.int v3)] [] I
def hX9_takeOther_21 (N : Nat) (v1 : Int32) (v2 : Int32) (I : gM) : gO := fX9_takeOther_k21 N [some (.ref 0), some (.int v1), some (.int v2), none] [] I
set_option maxRecDepth 100000 in
theorem eX9_takeOther_0 (N : Nat) (v1 : Int32) (v2 : Int32) (v3 : Int32) (I : gM) : hX9_takeOther_0 N v1 v2 v3 I =
  (hI (fX9_isNumber N [.ref 0, .int v1, .int v2] (gS (rg 0 18) I)) (rg 0 18) I fun x1 I1 => if gz_eq x1 = true then (hX9_takeOther_21 N v1 v2 I1) else (if gc_ne (I1 0 6) v3 = true then (hX9_takeOther_21 N v1 v2 I1) else (hV (fX9_fail N [.ref 0] (gS (rg 0 18) I1)) (rg 0 18) I1 fun I2 => hX9_takeOther_21 N v1 v2 I2))) := by
  show (fX9_takeOther_k0 N) [some (.ref 0), some (.int v1), some (.int v2), some (.int v3)] [] I = _
  unfold fX9_takeOther_k0
  refine tt_aload rfl ?_
  refine tt_iload rfl ?_
  refine tt_iload rfl ?_
  refine tt_cavI (t := []) ⟨Nat.le_of_ble_eq_true rfl, Nat.le_of_ble_eq_true rfl⟩ rfl rfl rfl (fun x1 I1 => ?_)
  refine tt_if ?_ ?_
  · skip
    refine tt_mask rfl ?_
    exact rfl
  · skip
    refine tt_aload rfl ?_
    refine tt_get (x := (I1 0 6)) rfl rfl rfl ?_
    refine tt_iload rfl ?_
    refine tt_cmp ?_ ?_
    · skip
      refine tt_mask rfl ?_
      exact rfl
    · skip
      refine tt_aload rfl ?_
      refine tt_cavV (t := []) ⟨Nat.le_of_ble_eq_true rfl, Nat.le_of_ble_eq_true rfl⟩ rfl rfl rfl (fun I2 => ?_)
      refine tt_mask rfl ?_
      exact rfl
set_option maxRecDepth 100000 in
theorem eX9_takeOther_21 (N : Nat) (v1 : Int32) (v2 : Int32) (I : gM) : hX9_takeOther_21 N v1 v2 I =
  (hI (fX9_takeNumber N [.ref 0, .int v1, .int v2] (gS (rg 0 18) I)) (rg 0 18) I fun x3 I3 => some (.inl (some (.int x3)), I3)) := by
  show (fX9_takeOther_k21 N) [some (.ref 0), some (.int v1), some (.int v2), none] [] I = _
  unfold fX9_takeOther_k21
  refine tt_aload rfl ?_
  refine tt_iload rfl ?_
  refine tt_iload rfl ?_
  refine tt_cavI (t := []) ⟨Nat.le_of_ble_eq_true rfl, Nat.le_of_ble_eq_true rfl⟩ rfl rfl rfl (fun x3 I3 => ?_)
  exact rfl
set_option maxRecDepth 100000 in
theorem eX9_takeOther (N : Nat) (v1 : Int32) (v2 : Int32) (v3 : Int32) (I : gM) : fX9_takeOther N [.ref 0, .int v1, .int v2, .int v3] I = hX9_takeOther_0 N v1 v2 v3 I := by
  show gFn 4 (fX9_takeOther_k0 N) [.ref 0, .int v1, .int v2, .int v3] I = (fX9_takeOther_k0 N) [some (.ref 0), some (.int v1), some (.int v2), some (.int v3)] [] I
  exact tt_fn rfl rfl

def hX9_takeNode_0 (N : Nat) (I : gM) : gO := fX9_takeNode_k0 N [some (.ref 0)] [] I
set_option maxRecDepth 100000 in
theorem eX9_takeNode_0 (N : Nat) (I : gM) : hX9_takeNode_0 N I =
  (ck 2746 0 <| hI (fX9_takeNumber N [.ref 0, .int 0, .int ((gb_sub ((I 2 (Int32.toNatClampNeg 0))) 1))] (gS (rg 0 18) I)) (rg 0 18) I fun x1 I1 => some (.inl (some (.int x1)), I1)) := by
  show (fX9_takeNode_k0 N) [some (.ref 0)] [] I = _
  unfold fX9_takeNode_k0
  refine tt_aload rfl ?_
  refine tt_const ?_
  refine tt_aload rfl ?_
  refine tt_getr (q := 2) rfl rfl ?_
  refine tt_const ?_
  refine tt_ald (x := (I 2 (Int32.toNatClampNeg 0))) rfl rfl ?_
  refine tt_const ?_
  refine tt_bin ?_
  refine tt_cavI (t := []) ⟨Nat.le_of_ble_eq_true rfl, Nat.le_of_ble_eq_true rfl⟩ rfl rfl rfl (fun x1 I1 => ?_)
  exact rfl
set_option maxRecDepth 100000 in
theorem eX9_takeNode (N : Nat) (I : gM) : fX9_takeNode N [.ref 0] I = hX9_takeNode_0 N I := by
  show gFn 1 (fX9_takeNode_k0 N) [.ref 0] I = (fX9_takeNode_k0 N) [some (.ref 0)] [] I
  exact tt_fn rfl rfl

