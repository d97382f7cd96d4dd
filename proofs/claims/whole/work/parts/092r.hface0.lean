def hX8_append_0 (N : Nat) (v1 : Int32) (v2 : Int32) (v3 : Int32) (v4 : Int32) (v5 : Int32) (I : gM) : gO := fX8_append_k0 N [some (.ref 0), some (.int v1), some (.int v2), some (.int v3), some (.int v4), some (.int v5), none] [] I
def hX8_append_13 (N : Nat) (v1 : Int32) (v2 : Int32) (v3 : Int32) (v4 : Int32) (v5 : Int32) (s0 : Int32) (s1 : Int32) (I : gM) : gO := fX8_append_k13 N [some (.ref 0), some (.int v1), some (.int v2), some (.int v3), some (.int v4), some (.int v5), none] [.int s1, .int s0] I
def hX8_append_62 (N : Nat) (v2 : Int32) (v3 : Int32) (v4 : Int32) (v5 : Int32) (I : gM) : gO := fX8_append_k62 N [some (.ref 0), none, some (.int v2), some (.int v3), some (.int v4), some (.int v5), none] [] I
def hX8_append_87 (N : Nat) (v5 : Int32) (I : gM) : gO := fX8_append_k87 N [some (.ref 0), none, none, none, none, some (.int v5), none] [] I
set_option maxRecDepth 100000 in
theorem eX8_append_0 (N : Nat) (v1 : Int32) (v2 : Int32) (v3 : Int32) (v4 : Int32) (v5 : Int32) (I : gM) : hX8_append_0 N v1 v2 v3 v4 v5 I =
  (hI (fX8_countBytes N [.int v1] (gS [] I)) [] I fun x1 I1 => hI (fX8_countBytes N [.int v2] (gS [] I1)) [] I1 fun x2 I2 => hI (fX8_countBytes N [.int v3] (gS [] I2)) [] I2 fun x3 I3 => hX8_append_13 N v1 v2 v3 v4 v5 (gb_add x1 x2) x3 I3) := by
  show (fX8_append_k0 N) [some (.ref 0), some (.int v1), some (.int v2), some (.int v3), some (.int v4), some (.int v5), none] [] I = _
  unfold fX8_append_k0
  refine tt_iload rfl ?_
  refine tt_caI (t := []) ⟨Nat.le_of_ble_eq_true rfl, Nat.le_of_ble_eq_true rfl⟩ rfl rfl rfl (fun x1 I1 => ?_)
  refine tt_iload rfl ?_
  refine tt_caI (t := [.int x1]) ⟨Nat.le_of_ble_eq_true rfl, Nat.le_of_ble_eq_true rfl⟩ rfl rfl rfl (fun x2 I2 => ?_)
  refine tt_bin ?_
  refine tt_iload rfl ?_
  refine tt_caI (t := [.int (gb_add x1 x2)]) ⟨Nat.le_of_ble_eq_true rfl, Nat.le_of_ble_eq_true rfl⟩ rfl rfl rfl (fun x3 I3 => ?_)
  refine tt_mask rfl ?_
  exact rfl
set_option maxRecDepth 100000 in
theorem eX8_append_13 (N : Nat) (v1 : Int32) (v2 : Int32) (v3 : Int32) (v4 : Int32) (v5 : Int32) (s0 : Int32) (s1 : Int32) (I : gM) : hX8_append_13 N v1 v2 v3 v4 v5 s0 s1 I =
  (hI (fX8_countBytes N [.int v4] (gS [] I)) [] I fun x4 I4 => hI (fX8_countBytes N [.int v5] (gS [] I4)) [] I4 fun x5 I5 => if gc_le ((gb_add (I5 183 2) ((gb_add ((gb_add (gb_add s0 s1) x4)) x5)))) 700 = true then (hV (fX5_putBytes N [.ref 0, .int v1] (gS (rg 183 11) I5)) (rg 183 11) I5 fun I6 => hX8_append_62 N v2 v3 v4 v5 I6) else (some (.inr "java/lang/IllegalStateException", I5))) := by
  show (fX8_append_k13 N) [some (.ref 0), some (.int v1), some (.int v2), some (.int v3), some (.int v4), some (.int v5), none] [.int s1, .int s0] I = _
  unfold fX8_append_k13
  refine tt_bin ?_
  refine tt_iload rfl ?_
  refine tt_caI (t := [.int (gb_add s0 s1)]) ⟨Nat.le_of_ble_eq_true rfl, Nat.le_of_ble_eq_true rfl⟩ rfl rfl rfl (fun x4 I4 => ?_)
  refine tt_bin ?_
  refine tt_iload rfl ?_
  refine tt_caI (t := [.int ((gb_add (gb_add s0 s1) x4))]) ⟨Nat.le_of_ble_eq_true rfl, Nat.le_of_ble_eq_true rfl⟩ rfl rfl rfl (fun x5 I5 => ?_)
  refine tt_bin ?_
  refine tt_istore (L2 := [some (.ref 0), some (.int v1), some (.int v2), some (.int v3), some (.int v4), some (.int v5), some (.int ((gb_add ((gb_add (gb_add s0 s1) x4)) x5)))]) (tt_lt rfl) rfl ?_
  refine tt_aload rfl ?_
  refine tt_getr (q := 183) rfl rfl ?_
  refine tt_get (x := (I5 183 2)) rfl rfl rfl ?_
  refine tt_iload rfl ?_
  refine tt_bin ?_
  refine tt_const ?_
  refine tt_cmp ?_ ?_
  · skip
    refine tt_aload rfl ?_
    refine tt_getr (q := 183) rfl rfl ?_
    refine tt_iload rfl ?_
    refine tt_cavV (t := []) ⟨Nat.le_of_ble_eq_true rfl, Nat.le_of_ble_eq_true rfl⟩ rfl rfl rfl (fun I6 => ?_)
    refine tt_mask rfl ?_
    exact rfl
  · skip
    exact tt_throw (Nat.le_of_ble_eq_true rfl)
set_option maxRecDepth 100000 in
theorem eX8_append_62 (N : Nat) (v2 : Int32) (v3 : Int32) (v4 : Int32) (v5 : Int32) (I : gM) : hX8_append_62 N v2 v3 v4 v5 I =
  (hV (fX5_putBytes N [.ref 0, .int v2] (gS (rg 183 11) I)) (rg 183 11) I fun I7 => hV (fX5_putBytes N [.ref 0, .int v3] (gS (rg 183 11) I7)) (rg 183 11) I7 fun I8 => hV (fX5_putBytes N [.ref 0, .int v4] (gS (rg 183 11) I8)) (rg 183 11) I8 fun I9 => hX8_append_87 N v5 I9) := by
  show (fX8_append_k62 N) [some (.ref 0), none, some (.int v2), some (.int v3), some (.int v4), some (.int v5), none] [] I = _
  unfold fX8_append_k62
  refine tt_aload rfl ?_
  refine tt_getr (q := 183) rfl rfl ?_
  refine tt_iload rfl ?_
  refine tt_cavV (t := []) ⟨Nat.le_of_ble_eq_true rfl, Nat.le_of_ble_eq_true rfl⟩ rfl rfl rfl (fun I7 => ?_)
  refine tt_aload rfl ?_
  refine tt_getr (q := 183) rfl rfl ?_
  refine tt_iload rfl ?_
  refine tt_cavV (t := []) ⟨Nat.le_of_ble_eq_true rfl, Nat.le_of_ble_eq_true rfl⟩ rfl rfl rfl (fun I8 => ?_)
  refine tt_aload rfl ?_
  refine tt_getr (q := 183) rfl rfl ?_
  refine tt_iload rfl ?_
  refine tt_cavV (t := []) ⟨Nat.le_of_ble_eq_true rfl, Nat.le_of_ble_eq_true rfl⟩ rfl rfl rfl (fun I9 => ?_)
  refine tt_mask rfl ?_
  exact rfl
set_option maxRecDepth 100000 in
theorem eX8_append_87 (N : Nat) (v5 : Int32) (I : gM) : hX8_append_87 N v5 I =
  (hV (fX5_putBytes N [.ref 0, .int v5] (gS (rg 183 11) I)) (rg 183 11) I fun I10 => some (.inl (some (.int (I10 183 2))), I10)) := by
  show (fX8_append_k87 N) [some (.ref 0), none, none, none, none, some (.int v5), none] [] I = _
  unfold fX8_append_k87
  refine tt_aload rfl ?_
  refine tt_getr (q := 183) rfl rfl ?_
  refine tt_iload rfl ?_
  refine tt_cavV (t := []) ⟨Nat.le_of_ble_eq_true rfl, Nat.le_of_ble_eq_true rfl⟩ rfl rfl rfl (fun I10 => ?_)
  refine tt_aload rfl ?_
  refine tt_getr (q := 183) rfl rfl ?_
  refine tt_get (x := (I10 183 2)) rfl rfl rfl ?_
  exact rfl
set_option maxRecDepth 100000 in
theorem eX8_append (N : Nat) (v1 : Int32) (v2 : Int32) (v3 : Int32) (v4 : Int32) (v5 : Int32) (I : gM) : fX8_append N [.ref 0, .int v1, .int v2, .int v3, .int v4, .int v5] I = hX8_append_0 N v1 v2 v3 v4 v5 I := by
  show gFn 7 (fX8_append_k0 N) [.ref 0, .int v1, .int v2, .int v3, .int v4, .int v5] I = (fX8_append_k0 N) [some (.ref 0), some (.int v1), some (.int v2), some (.int v3), some (.int v4), some (.int v5), none] [] I
  exact tt_fn rfl rfl

def hX8_checkRange_0 (N : Nat) (v0 : Int32) (v1 : Int32) (v2 : Int32) (I : gM) : gO := fX8_checkRange_k0 N [some (.int v0), some (.int v1), some (.int v2)] [] I
set_option maxRecDepth 100000 in
theorem eX8_checkRange_0 (N : Nat) (v0 : Int32) (v1 : Int32) (v2 : Int32) (I : gM) : hX8_checkRange_0 N v0 v1 v2 I =
  (if gc_lt v0 v1 = true then (some (.inr "java/lang/IllegalArgumentException", I)) else (if gc_le v0 v2 = true then (some (.inl none, I)) else (some (.inr "java/lang/IllegalArgumentException", I)))) := by
  show (fX8_checkRange_k0 N) [some (.int v0), some (.int v1), some (.int v2)] [] I = _
  unfold fX8_checkRange_k0
  refine tt_iload rfl ?_
  refine tt_iload rfl ?_
  refine tt_cmp ?_ ?_
  · skip
    exact tt_throw (Nat.le_of_ble_eq_true rfl)
  · skip
    refine tt_iload rfl ?_
    refine tt_iload rfl ?_
    refine tt_cmp ?_ ?_
    · skip
      exact rfl
    · skip
      exact tt_throw (Nat.le_of_ble_eq_true rfl)
set_option maxRecDepth 100000 in
theorem eX8_checkRange (N : Nat) (v0 : Int32) (v1 : Int32) (v2 : Int32) (I : gM) : fX8_checkRange N [.int v0, .int v1, .int v2] I = hX8_checkRange_0 N v0 v1 v2 I := by
  show gFn 3 (fX8_checkRange_k0 N) [.int v0, .int v1, .int v2] I = (fX8_checkRange_k0 N) [some (.int v0), some (.int v1), some (.int v2)] [] I
  exact tt_fn rfl rfl

def hX8_truncate_0 (N : Nat) (v1 : Int32) (I : gM) : gO := fX8_truncate_k0 N [some (.ref 0), some (.int v1)] [] I
set_option maxRecDepth 100000 in
theorem eX8_truncate_0 (N : Nat) (v1 : Int32) (I : gM) : hX8_truncate_0 N v1 I =
  (hXV (fX8_checkRange N [.int v1, .int 0, .int (I 183 2)] (gS [] I)) [] I fun I1 => some (.inl (some (.int v1)), (gU I1 183 2 v1))) := by
  show (fX8_truncate_k0 N) [some (.ref 0), some (.int v1)] [] I = _
  unfold fX8_truncate_k0
  refine tt_iload rfl ?_
  refine tt_const ?_
  refine tt_aload rfl ?_
  refine tt_getr (q := 183) rfl rfl ?_
  refine tt_get (x := (I 183 2)) rfl rfl rfl ?_
  refine tt_caXV (t := []) ⟨Nat.le_of_ble_eq_true rfl, Nat.le_of_ble_eq_true rfl⟩ rfl rfl rfl (fun I1 => ?_)
  refine tt_aload rfl ?_
  refine tt_getr (q := 183) rfl rfl ?_
  refine tt_iload rfl ?_
  refine tt_put rfl rfl ?_
  refine tt_iload rfl ?_
  exact rfl
set_option maxRecDepth 100000 in
theorem eX8_truncate (N : Nat) (v1 : Int32) (I : gM) : fX8_truncate N [.ref 0, .int v1] I = hX8_truncate_0 N v1 I := by
  show gFn 2 (fX8_truncate_k0 N) [.ref 0, .int v1] I = (fX8_truncate_k0 N) [some (.ref 0), some (.int v1)] [] I
  exact tt_fn rfl rfl

def hX8_errorPosition_0 (N : Nat) (I : gM) : gO := fX8_errorPosition_k0 N [some (.ref 0)] [] I
set_option maxRecDepth 100000 in
theorem eX8_errorPosition_0 (N : Nat) (I : gM) : hX8_errorPosition_0 N I =
  (hI (fX5_read N [.ref 0] (gS (rg 183 11) I)) (rg 183 11) I fun x1 I1 => some (.inl (some (.int x1)), I1)) := by
  show (fX8_errorPosition_k0 N) [some (.ref 0)] [] I = _
  unfold fX8_errorPosition_k0
  refine tt_aload rfl ?_
  refine tt_getr (q := 183) rfl rfl ?_
  refine tt_cavI (t := []) ⟨Nat.le_of_ble_eq_true rfl, Nat.le_of_ble_eq_true rfl⟩ rfl rfl rfl (fun x1 I1 => ?_)
  exact rfl
set_option maxRecDepth 100000 in
theorem eX8_errorPosition (N : Nat) (I : gM) : fX8_errorPosition N [.ref 0] I = hX8_errorPosition_0 N I := by
  show gFn 1 (fX8_errorPosition_k0 N) [.ref 0] I = (fX8_errorPosition_k0 N) [some (.ref 0)] [] I
  exact tt_fn rfl rfl

def hX8_load_0 (N : Nat) (I : gM) : gO := fX8_load_k0 N [some (.ref 0)] [] I
set_option maxRecDepth 100000 in
theorem eX8_load_0 (N : Nat) (I : gM) : hX8_load_0 N I =
  (hI (fX5_read N [.ref 0] (gS (rg 183 11) I)) (rg 183 11) I fun x1 I1 => if gc_eq x1 (-1) = true then (hV (fX7_begin N [.ref 0, .ref 20] (gS (rg 1 20 ++ rg 185 9) I1)) (rg 1 20 ++ rg 185 9) I1 fun I2 => some (.inl (some (.int (I2 2 1))), (gU (gU (gU I2 183 2 0) 61 1 0) 0 7 0))) else (some (.inr "java/lang/IllegalArgumentException", I1))) := by
  show (fX8_load_k0 N) [some (.ref 0)] [] I = _
  unfold fX8_load_k0
  refine tt_aload rfl ?_
  refine tt_getr (q := 183) rfl rfl ?_
  refine tt_cavI (t := []) ⟨Nat.le_of_ble_eq_true rfl, Nat.le_of_ble_eq_true rfl⟩ rfl rfl rfl (fun x1 I1 => ?_)
  refine tt_const ?_
  refine tt_cmp ?_ ?_
  · skip
    refine tt_aload rfl ?_
    refine tt_getr (q := 1) rfl rfl ?_
    refine tt_aload rfl ?_
    refine tt_getr (q := 183) rfl rfl ?_
    refine tt_getr (q := 185) rfl rfl ?_
    refine tt_cavV (t := []) ⟨Nat.le_of_ble_eq_true rfl, Nat.le_of_ble_eq_true rfl⟩ rfl rfl rfl (fun I2 => ?_)
    refine tt_aload rfl ?_
    refine tt_getr (q := 183) rfl rfl ?_
    refine tt_const ?_
    refine tt_put rfl rfl ?_
    refine tt_aload rfl ?_
    refine tt_getr (q := 61) rfl rfl ?_
    refine tt_const ?_
    refine tt_put rfl rfl ?_
    refine tt_aload rfl ?_
    refine tt_const ?_
    refine tt_putz1 rfl rfl (by decide) ?_
    refine tt_aload rfl ?_
    refine tt_getr (q := 1) rfl rfl ?_
    refine tt_getr (q := 2) rfl rfl ?_
    refine tt_get (x := (I2 2 1)) rfl rfl rfl ?_
    exact rfl
  · skip
    exact tt_throw (Nat.le_of_ble_eq_true rfl)
set_option maxRecDepth 100000 in
theorem eX8_load (N : Nat) (I : gM) : fX8_load N [.ref 0] I = hX8_load_0 N I := by
  show gFn 1 (fX8_load_k0 N) [.ref 0] I = (fX8_load_k0 N) [some (.ref 0)] [] I
  exact tt_fn rfl rfl

def hX8_checkNode_0 (N : Nat) (v1 : Int32) (I : gM) : gO := fX8_checkNode_k0 N [some (.ref 0), some (.int v1)] [] I
set_option maxRecDepth 100000 in
theorem eX8_checkNode_0 (N : Nat) (v1 : Int32) (I : gM) : hX8_checkNode_0 N v1 I =
  (if gz_lt v1 = true then (some (.inr "java/lang/IndexOutOfBoundsException", I)) else (if gc_lt v1 (I 2 0) = true then (some (.inl none, I)) else (some (.inr "java/lang/IndexOutOfBoundsException", I)))) := by
  show (fX8_checkNode_k0 N) [some (.ref 0), some (.int v1)] [] I = _
  unfold fX8_checkNode_k0
  refine tt_iload rfl ?_
  refine tt_if ?_ ?_
  · skip
    exact tt_throw (Nat.le_of_ble_eq_true rfl)
  · skip
    refine tt_iload rfl ?_
    refine tt_aload rfl ?_
    refine tt_getr (q := 1) rfl rfl ?_
    refine tt_getr (q := 2) rfl rfl ?_
    refine tt_get (x := (I 2 0)) rfl rfl rfl ?_
    refine tt_cmp ?_ ?_
    · skip
      exact rfl
    · skip
      exact tt_throw (Nat.le_of_ble_eq_true rfl)
set_option maxRecDepth 100000 in
theorem eX8_checkNode (N : Nat) (v1 : Int32) (I : gM) : fX8_checkNode N [.ref 0, .int v1] I = hX8_checkNode_0 N v1 I := by
  show gFn 2 (fX8_checkNode_k0 N) [.ref 0, .int v1] I = (fX8_checkNode_k0 N) [some (.ref 0), some (.int v1)] [] I
  exact tt_fn rfl rfl

def hX8_checkTwoNodes_0 (N : Nat) (v1 : Int32) (v2 : Int32) (I : gM) : gO := fX8_checkTwoNodes_k0 N [some (.ref 0), some (.int v1), some (.int v2)] [] I
set_option maxRecDepth 100000 in
theorem eX8_checkTwoNodes_0 (N : Nat) (v1 : Int32) (v2 : Int32) (I : gM) : hX8_checkTwoNodes_0 N v1 v2 I =
  (hXV (fX8_checkNode N [.ref 0, .int v1] (gS (rg 0 204) I)) (rg 0 204) I fun I1 => hXV (fX8_checkNode N [.ref 0, .int v2] (gS (rg 0 204) I1)) (rg 0 204) I1 fun I2 => if gc_ne v1 v2 = true then (some (.inl none, I2)) else (some (.inr "java/lang/IllegalArgumentException", I2))) := by
  show (fX8_checkTwoNodes_k0 N) [some (.ref 0), some (.int v1), some (.int v2)] [] I = _
  unfold fX8_checkTwoNodes_k0
  refine tt_aload rfl ?_
  refine tt_iload rfl ?_
  refine tt_cavXV (t := []) ⟨Nat.le_of_ble_eq_true rfl, Nat.le_of_ble_eq_true rfl⟩ rfl rfl rfl (fun I1 => ?_)
  refine tt_aload rfl ?_
  refine tt_iload rfl ?_
  refine tt_cavXV (t := []) ⟨Nat.le_of_ble_eq_true rfl, Nat.le_of_ble_eq_true rfl⟩ rfl rfl rfl (fun I2 => ?_)
  refine tt_iload rfl ?_
  refine tt_iload rfl ?_
  refine tt_cmp ?_ ?_
  · skip
    exact rfl
  · skip
    exact tt_throw (Nat.le_of_ble_eq_true rfl)
set_option maxRecDepth 100000 in
theorem eX8_checkTwoNodes (N : Nat) (v1 : Int32) (v2 : Int32) (I : gM) : fX8_checkTwoNodes N [.ref 0, .int v1, .int v2] I = hX8_checkTwoNodes_0 N v1 v2 I := by
  show gFn 3 (fX8_checkTwoNodes_k0 N) [.ref 0, .int v1, .int v2] I = (fX8_checkTwoNodes_k0 N) [some (.ref 0), some (.int v1), some (.int v2)] [] I
  exact tt_fn rfl rfl

def hX8_addLink_0 (N : Nat) (v1 : Int32) (v2 : Int32) (v3 : Int32) (I : gM) : gO := fX8_addLink_k0 N [some (.ref 0), some (.int v1), some (.int v2), some (.int v3)] [] I
def hX8_addLink_39 (N : Nat) (v1 : Int32) (v2 : Int32) (v3 : Int32) (s0 : Int32) (I : gM) : gO := fX8_addLink_k39 N [some (.ref 0), some (.int v1), some (.int v2), some (.int v3)] [.int s0] I
set_option maxRecDepth 100000 in
theorem eX8_addLink_0 (N : Nat) (v1 : Int32) (v2 : Int32) (v3 : Int32) (I : gM) : hX8_addLink_0 N v1 v2 v3 I =
  (hXV (fX8_checkTwoNodes N [.ref 0, .int v1, .int v2] (gS (rg 0 204) I)) (rg 0 204) I fun I1 => hXV (fX8_checkRange N [.int v3, .int 1, .int 5] (gS [] I1)) [] I1 fun I2 => if gc_ge (I2 2 1) 14 = true then (some (.inr "java/lang/IllegalStateException", I2)) else (hI (fX2_findLink N [.ref 0, .int v1, .int v2] (gS (rg 2 9) I2)) (rg 2 9) I2 fun x3 I3 => hX8_addLink_39 N v1 v2 v3 x3 I3)) := by
  show (fX8_addLink_k0 N) [some (.ref 0), some (.int v1), some (.int v2), some (.int v3)] [] I = _
  unfold fX8_addLink_k0
  refine tt_aload rfl ?_
  refine tt_iload rfl ?_
  refine tt_iload rfl ?_
  refine tt_cavXV (t := []) ⟨Nat.le_of_ble_eq_true rfl, Nat.le_of_ble_eq_true rfl⟩ rfl rfl rfl (fun I1 => ?_)
  refine tt_iload rfl ?_
  refine tt_const ?_
  refine tt_const ?_
  refine tt_caXV (t := []) ⟨Nat.le_of_ble_eq_true rfl, Nat.le_of_ble_eq_true rfl⟩ rfl rfl rfl (fun I2 => ?_)
  refine tt_aload rfl ?_
  refine tt_getr (q := 1) rfl rfl ?_
  refine tt_getr (q := 2) rfl rfl ?_
  refine tt_get (x := (I2 2 1)) rfl rfl rfl ?_
  refine tt_const ?_
  refine tt_cmp ?_ ?_
  · skip
    exact tt_throw (Nat.le_of_ble_eq_true rfl)
  · skip
    refine tt_aload rfl ?_
    refine tt_getr (q := 1) rfl rfl ?_
    refine tt_getr (q := 2) rfl rfl ?_
    refine tt_iload rfl ?_
    refine tt_iload rfl ?_
    refine tt_cavI (t := []) ⟨Nat.le_of_ble_eq_true rfl, Nat.le_of_ble_eq_true rfl⟩ rfl rfl rfl (fun x3 I3 => ?_)
    refine tt_mask rfl ?_
    exact rfl
set_option maxRecDepth 100000 in
theorem eX8_addLink_39 (N : Nat) (v1 : Int32) (v2 : Int32) (v3 : Int32) (s0 : Int32) (I : gM) : hX8_addLink_39 N v1 v2 v3 s0 I =
  (if gc_eq s0 (-1) = true then (hV (fX1_remember N [.ref 0, .ref 122] (gS (rg 61 122 ++ rg 1 20) I)) (rg 61 122 ++ rg 1 20) I fun I4 => hV (fX2_putLink N [.ref 0, .int v1, .int v2, .int v3] (gS (rg 2 9) I4)) (rg 2 9) I4 fun I5 => some (.inl (some (.int ((gb_sub (I5 2 1) 1)))), I5)) else (some (.inr "java/lang/IllegalStateException", I))) := by
  show (fX8_addLink_k39 N) [some (.ref 0), some (.int v1), some (.int v2), some (.int v3)] [.int s0] I = _
  unfold fX8_addLink_k39
  refine tt_const ?_
  refine tt_cmp ?_ ?_
  · skip
    refine tt_aload rfl ?_
    refine tt_getr (q := 61) rfl rfl ?_
    refine tt_aload rfl ?_
    refine tt_getr (q := 1) rfl rfl ?_
    refine tt_cavV (t := []) ⟨Nat.le_of_ble_eq_true rfl, Nat.le_of_ble_eq_true rfl⟩ rfl rfl rfl (fun I4 => ?_)
    refine tt_aload rfl ?_
    refine tt_getr (q := 1) rfl rfl ?_
    refine tt_getr (q := 2) rfl rfl ?_
    refine tt_iload rfl ?_
    refine tt_iload rfl ?_
    refine tt_iload rfl ?_
    refine tt_cavV (t := []) ⟨Nat.le_of_ble_eq_true rfl, Nat.le_of_ble_eq_true rfl⟩ rfl rfl rfl (fun I5 => ?_)
    refine tt_aload rfl ?_
    refine tt_getr (q := 1) rfl rfl ?_
    refine tt_getr (q := 2) rfl rfl ?_
    refine tt_get (x := (I5 2 1)) rfl rfl rfl ?_
    refine tt_const ?_
    refine tt_bin ?_
    exact rfl
  · skip
    exact tt_throw (Nat.le_of_ble_eq_true rfl)
set_option maxRecDepth 100000 in
theorem eX8_addLink (N : Nat) (v1 : Int32) (v2 : Int32) (v3 : Int32) (I : gM) : fX8_addLink N [.ref 0, .int v1, .int v2, .int v3] I = hX8_addLink_0 N v1 v2 v3 I := by
  show gFn 4 (fX8_addLink_k0 N) [.ref 0, .int v1, .int v2, .int v3] I = (fX8_addLink_k0 N) [some (.ref 0), some (.int v1), some (.int v2), some (.int v3)] [] I
  exact tt_fn rfl rfl

def hX8_checkLink_0 (N : Nat) (v1 : Int32) (I : gM) : gO := fX8_checkLink_k0 N [some (.ref 0), some (.int v1)] [] I
set_option maxRecDepth 100000 in
theorem eX8_checkLink_0 (N : Nat) (v1 : Int32) (I : gM) : hX8_checkLink_0 N v1 I =
  (if gz_lt v1 = true then (some (.inr "java/lang/IndexOutOfBoundsException", I)) else (if gc_lt v1 (I 2 1) = true then (some (.inl none, I)) else (some (.inr "java/lang/IndexOutOfBoundsException", I)))) := by
  show (fX8_checkLink_k0 N) [some (.ref 0), some (.int v1)] [] I = _
  unfold fX8_checkLink_k0
  refine tt_iload rfl ?_
  refine tt_if ?_ ?_
  · skip
    exact tt_throw (Nat.le_of_ble_eq_true rfl)
  · skip
    refine tt_iload rfl ?_
    refine tt_aload rfl ?_
    refine tt_getr (q := 1) rfl rfl ?_
    refine tt_getr (q := 2) rfl rfl ?_
    refine tt_get (x := (I 2 1)) rfl rfl rfl ?_
    refine tt_cmp ?_ ?_
    · skip
      exact rfl
    · skip
      exact tt_throw (Nat.le_of_ble_eq_true rfl)
set_option maxRecDepth 100000 in
theorem eX8_checkLink (N : Nat) (v1 : Int32) (I : gM) : fX8_checkLink N [.ref 0, .int v1] I = hX8_checkLink_0 N v1 I := by
  show gFn 2 (fX8_checkLink_k0 N) [.ref 0, .int v1] I = (fX8_checkLink_k0 N) [some (.ref 0), some (.int v1)] [] I
  exact tt_fn rfl rfl

def hX8_setCapacity_0 (N : Nat) (v1 : Int32) (v2 : Int32) (I : gM) : gO := fX8_setCapacity_k0 N [some (.ref 0), some (.int v1), some (.int v2), none] [] I
def hX8_setCapacity_22 (N : Nat) (v1 : Int32) (v2 : Int32) (I : gM) : gO := fX8_setCapacity_k22 N [some (.ref 0), some (.int v1), some (.int v2), none] [] I
set_option maxRecDepth 100000 in
theorem eX8_setCapacity_0 (N : Nat) (v1 : Int32) (v2 : Int32) (I : gM) : hX8_setCapacity_0 N v1 v2 I =
  (hXV (fX8_checkLink N [.ref 0, .int v1] (gS (rg 0 204) I)) (rg 0 204) I fun I1 => hXV (fX8_checkRange N [.int v2, .int 1, .int 5] (gS [] I1)) [] I1 fun I2 => hV (fX1_remember N [.ref 0, .ref 122] (gS (rg 61 122 ++ rg 1 20) I2)) (rg 61 122 ++ rg 1 20) I2 fun I3 => hX8_setCapacity_22 N v1 v2 I3) := by
  show (fX8_setCapacity_k0 N) [some (.ref 0), some (.int v1), some (.int v2), none] [] I = _
  unfold fX8_setCapacity_k0
  refine tt_aload rfl ?_
  refine tt_iload rfl ?_
  refine tt_cavXV (t := []) ⟨Nat.le_of_ble_eq_true rfl, Nat.le_of_ble_eq_true rfl⟩ rfl rfl rfl (fun I1 => ?_)
  refine tt_iload rfl ?_
  refine tt_const ?_
  refine tt_const ?_
  refine tt_caXV (t := []) ⟨Nat.le_of_ble_eq_true rfl, Nat.le_of_ble_eq_true rfl⟩ rfl rfl rfl (fun I2 => ?_)
  refine tt_aload rfl ?_
  refine tt_getr (q := 61) rfl rfl ?_
  refine tt_aload rfl ?_
  refine tt_getr (q := 1) rfl rfl ?_
  refine tt_cavV (t := []) ⟨Nat.le_of_ble_eq_true rfl, Nat.le_of_ble_eq_true rfl⟩ rfl rfl rfl (fun I3 => ?_)
  refine tt_mask rfl ?_
  exact rfl
set_option maxRecDepth 100000 in
theorem eX8_setCapacity_22 (N : Nat) (v1 : Int32) (v2 : Int32) (I : gM) : hX8_setCapacity_22 N v1 v2 I =
  (ck 14 v1 <| ck 14 v1 <| some (.inl (some (.int ((I 5 (Int32.toNatClampNeg v1))))), (gU I 5 (Int32.toNatClampNeg v1) v2))) := by
  show (fX8_setCapacity_k22 N) [some (.ref 0), some (.int v1), some (.int v2), none] [] I = _
  unfold fX8_setCapacity_k22
  refine tt_aload rfl ?_
  refine tt_getr (q := 1) rfl rfl ?_
  refine tt_getr (q := 2) rfl rfl ?_
  refine tt_getr (q := 5) rfl rfl ?_
  refine tt_iload rfl ?_
  refine tt_ald (x := (I 5 (Int32.toNatClampNeg v1))) rfl rfl ?_
  refine tt_istore (L2 := [some (.ref 0), some (.int v1), some (.int v2), some (.int ((I 5 (Int32.toNatClampNeg v1))))]) (tt_lt rfl) rfl ?_
  refine tt_aload rfl ?_
  refine tt_getr (q := 1) rfl rfl ?_
  refine tt_getr (q := 2) rfl rfl ?_
  refine tt_getr (q := 5) rfl rfl ?_
  refine tt_iload rfl ?_
  refine tt_iload rfl ?_
  refine tt_ast (v := v2) rfl rfl ?_
  refine tt_iload rfl ?_
  exact rfl
set_option maxRecDepth 100000 in
theorem eX8_setCapacity (N : Nat) (v1 : Int32) (v2 : Int32) (I : gM) : fX8_setCapacity N [.ref 0, .int v1, .int v2] I = hX8_setCapacity_0 N v1 v2 I := by
  show gFn 4 (fX8_setCapacity_k0 N) [.ref 0, .int v1, .int v2] I = (fX8_setCapacity_k0 N) [some (.ref 0), some (.int v1), some (.int v2), none] [] I
  exact tt_fn rfl rfl

def hX8_setConflict_0 (N : Nat) (v1 : Int32) (v2 : Int32) (v3 : Int32) (I : gM) : gO := fX8_setConflict_k0 N [some (.ref 0), some (.int v1), some (.int v2), some (.int v3), none] [] I
def hX8_setConflict_36 (N : Nat) (v1 : Int32) (v2 : Int32) (v3 : Int32) (I : gM) : gO := fX8_setConflict_k36 N [some (.ref 0), some (.int v1), some (.int v2), some (.int v3), none] [] I
set_option maxRecDepth 100000 in
theorem eX8_setConflict_0 (N : Nat) (v1 : Int32) (v2 : Int32) (v3 : Int32) (I : gM) : hX8_setConflict_0 N v1 v2 v3 I =
  (hXV (fX8_checkLink N [.ref 0, .int v1] (gS (rg 0 204) I)) (rg 0 204) I fun I1 => hXV (fX8_checkLink N [.ref 0, .int v2] (gS (rg 0 204) I1)) (rg 0 204) I1 fun I2 => if gc_ne v1 v2 = true then (hV (fX1_remember N [.ref 0, .ref 122] (gS (rg 61 122 ++ rg 1 20) I2)) (rg 61 122 ++ rg 1 20) I2 fun I3 => hX8_setConflict_36 N v1 v2 v3 I3) else (some (.inr "java/lang/IllegalArgumentException", I2))) := by
  show (fX8_setConflict_k0 N) [some (.ref 0), some (.int v1), some (.int v2), some (.int v3), none] [] I = _
  unfold fX8_setConflict_k0
  refine tt_aload rfl ?_
  refine tt_iload rfl ?_
  refine tt_cavXV (t := []) ⟨Nat.le_of_ble_eq_true rfl, Nat.le_of_ble_eq_true rfl⟩ rfl rfl rfl (fun I1 => ?_)
  refine tt_aload rfl ?_
  refine tt_iload rfl ?_
  refine tt_cavXV (t := []) ⟨Nat.le_of_ble_eq_true rfl, Nat.le_of_ble_eq_true rfl⟩ rfl rfl rfl (fun I2 => ?_)
  refine tt_iload rfl ?_
  refine tt_iload rfl ?_
  refine tt_cmp ?_ ?_
  · skip
    refine tt_aload rfl ?_
    refine tt_getr (q := 61) rfl rfl ?_
    refine tt_aload rfl ?_
    refine tt_getr (q := 1) rfl rfl ?_
    refine tt_cavV (t := []) ⟨Nat.le_of_ble_eq_true rfl, Nat.le_of_ble_eq_true rfl⟩ rfl rfl rfl (fun I3 => ?_)
    refine tt_mask rfl ?_
    exact rfl
  · skip
    exact tt_throw (Nat.le_of_ble_eq_true rfl)
set_option maxRecDepth 100000 in
theorem eX8_setConflict_36 (N : Nat) (v1 : Int32) (v2 : Int32) (v3 : Int32) (I : gM) : hX8_setConflict_36 N v1 v2 v3 I =
  (hI (fX2_inConflict N [.ref 0, .int v1, .int v2] (gS (rg 2 9) I)) (rg 2 9) I fun x4 I4 => hV (fX2_putConflict N [.ref 0, .int v1, .int v2, .int v3] (gS (rg 2 9) I4)) (rg 2 9) I4 fun I5 => if x4 = 0 ∨ x4 = 1 then some (.inl (some (.int x4)), I5) else none) := by
  show (fX8_setConflict_k36 N) [some (.ref 0), some (.int v1), some (.int v2), some (.int v3), none] [] I = _
  unfold fX8_setConflict_k36
  refine tt_aload rfl ?_
  refine tt_getr (q := 1) rfl rfl ?_
  refine tt_getr (q := 2) rfl rfl ?_
  refine tt_iload rfl ?_
  refine tt_iload rfl ?_
  refine tt_cavI (t := []) ⟨Nat.le_of_ble_eq_true rfl, Nat.le_of_ble_eq_true rfl⟩ rfl rfl rfl (fun x4 I4 => ?_)
  refine tt_istore (L2 := [some (.ref 0), some (.int v1), some (.int v2), some (.int v3), some (.int x4)]) (tt_lt rfl) rfl ?_
  refine tt_aload rfl ?_
  refine tt_getr (q := 1) rfl rfl ?_
  refine tt_getr (q := 2) rfl rfl ?_
  refine tt_iload rfl ?_
  refine tt_iload rfl ?_
  refine tt_iload rfl ?_
  refine tt_cavV (t := []) ⟨Nat.le_of_ble_eq_true rfl, Nat.le_of_ble_eq_true rfl⟩ rfl rfl rfl (fun I5 => ?_)
  refine tt_iload rfl ?_
  exact rfl
set_option maxRecDepth 100000 in
theorem eX8_setConflict (N : Nat) (v1 : Int32) (v2 : Int32) (v3 : Int32) (I : gM) : fX8_setConflict N [.ref 0, .int v1, .int v2, .int v3] I = hX8_setConflict_0 N v1 v2 v3 I := by
  show gFn 5 (fX8_setConflict_k0 N) [.ref 0, .int v1, .int v2, .int v3] I = (fX8_setConflict_k0 N) [some (.ref 0), some (.int v1), some (.int v2), some (.int v3), none] [] I
  exact tt_fn rfl rfl

def hX8_addFlow_0 (N : Nat) (v1 : Int32) (v2 : Int32) (v3 : Int32) (v4 : Int32) (I : gM) : gO := fX8_addFlow_k0 N [some (.ref 0), some (.int v1), some (.int v2), some (.int v3), some (.int v4)] [] I
def hX8_addFlow_23 (N : Nat) (v1 : Int32) (v2 : Int32) (v3 : Int32) (v4 : Int32) (I : gM) : gO := fX8_addFlow_k23 N [some (.ref 0), some (.int v1), some (.int v2), some (.int v3), some (.int v4)] [] I
set_option maxRecDepth 100000 in
theorem eX8_addFlow_0 (N : Nat) (v1 : Int32) (v2 : Int32) (v3 : Int32) (v4 : Int32) (I : gM) : hX8_addFlow_0 N v1 v2 v3 v4 I =
  (hXV (fX8_checkTwoNodes N [.ref 0, .int v1, .int v2] (gS (rg 0 204) I)) (rg 0 204) I fun I1 => hXV (fX8_checkRange N [.int v3, .int 0, .int 300] (gS [] I1)) [] I1 fun I2 => hXV (fX8_checkRange N [.int v4, .int 0, .int 200] (gS [] I2)) [] I2 fun I3 => hX8_addFlow_23 N v1 v2 v3 v4 I3) := by
  show (fX8_addFlow_k0 N) [some (.ref 0), some (.int v1), some (.int v2), some (.int v3), some (.int v4)] [] I = _
  unfold fX8_addFlow_k0
  refine tt_aload rfl ?_
  refine tt_iload rfl ?_
  refine tt_iload rfl ?_
  refine tt_cavXV (t := []) ⟨Nat.le_of_ble_eq_true rfl, Nat.le_of_ble_eq_true rfl⟩ rfl rfl rfl (fun I1 => ?_)
  refine tt_iload rfl ?_
  refine tt_const ?_
  refine tt_const ?_
  refine tt_caXV (t := []) ⟨Nat.le_of_ble_eq_true rfl, Nat.le_of_ble_eq_true rfl⟩ rfl rfl rfl (fun I2 => ?_)
  refine tt_iload rfl ?_
  refine tt_const ?_
  refine tt_const ?_
  refine tt_caXV (t := []) ⟨Nat.le_of_ble_eq_true rfl, Nat.le_of_ble_eq_true rfl⟩ rfl rfl rfl (fun I3 => ?_)
  refine tt_mask rfl ?_
  exact rfl
set_option maxRecDepth 100000 in
theorem eX8_addFlow_23 (N : Nat) (v1 : Int32) (v2 : Int32) (v3 : Int32) (v4 : Int32) (I : gM) : hX8_addFlow_23 N v1 v2 v3 v4 I =
  (if gc_lt (I 2 2) 6 = true then (hV (fX1_remember N [.ref 0, .ref 122] (gS (rg 61 122 ++ rg 1 20) I)) (rg 61 122 ++ rg 1 20) I fun I4 => hV (fX2_putFlow N [.ref 0, .int v1, .int v2, .int v3, .int v4] (gS (rg 2 9) I4)) (rg 2 9) I4 fun I5 => some (.inl (some (.int ((gb_sub (I5 2 2) 1)))), I5)) else (some (.inr "java/lang/IllegalStateException", I))) := by
  show (fX8_addFlow_k23 N) [some (.ref 0), some (.int v1), some (.int v2), some (.int v3), some (.int v4)] [] I = _
  unfold fX8_addFlow_k23
  refine tt_aload rfl ?_
  refine tt_getr (q := 1) rfl rfl ?_
  refine tt_getr (q := 2) rfl rfl ?_
  refine tt_get (x := (I 2 2)) rfl rfl rfl ?_
  refine tt_const ?_
  refine tt_cmp ?_ ?_
  · skip
    refine tt_aload rfl ?_
    refine tt_getr (q := 61) rfl rfl ?_
    refine tt_aload rfl ?_
    refine tt_getr (q := 1) rfl rfl ?_
    refine tt_cavV (t := []) ⟨Nat.le_of_ble_eq_true rfl, Nat.le_of_ble_eq_true rfl⟩ rfl rfl rfl (fun I4 => ?_)
    refine tt_aload rfl ?_
    refine tt_getr (q := 1) rfl rfl ?_
    refine tt_getr (q := 2) rfl rfl ?_
    refine tt_iload rfl ?_
    refine tt_iload rfl ?_
    refine tt_iload rfl ?_
    refine tt_iload rfl ?_
    refine tt_cavV (t := []) ⟨Nat.le_of_ble_eq_true rfl, Nat.le_of_ble_eq_true rfl⟩ rfl rfl rfl (fun I5 => ?_)
    refine tt_aload rfl ?_
    refine tt_getr (q := 1) rfl rfl ?_
    refine tt_getr (q := 2) rfl rfl ?_
    refine tt_get (x := (I5 2 2)) rfl rfl rfl ?_
    refine tt_const ?_
    refine tt_bin ?_
    exact rfl
  · skip
    exact tt_throw (Nat.le_of_ble_eq_true rfl)
set_option maxRecDepth 100000 in
theorem eX8_addFlow (N : Nat) (v1 : Int32) (v2 : Int32) (v3 : Int32) (v4 : Int32) (I : gM) : fX8_addFlow N [.ref 0, .int v1, .int v2, .int v3, .int v4] I = hX8_addFlow_0 N v1 v2 v3 v4 I := by
  show gFn 5 (fX8_addFlow_k0 N) [.ref 0, .int v1, .int v2, .int v3, .int v4] I = (fX8_addFlow_k0 N) [some (.ref 0), some (.int v1), some (.int v2), some (.int v3), some (.int v4)] [] I
  exact tt_fn rfl rfl

def hX8_checkFlow_0 (N : Nat) (v1 : Int32) (I : gM) : gO := fX8_checkFlow_k0 N [some (.ref 0), some (.int v1)] [] I
set_option maxRecDepth 100000 in
theorem eX8_checkFlow_0 (N : Nat) (v1 : Int32) (I : gM) : hX8_checkFlow_0 N v1 I =
  (if gz_lt v1 = true then (some (.inr "java/lang/IndexOutOfBoundsException", I)) else (if gc_lt v1 (I 2 2) = true then (some (.inl none, I)) else (some (.inr "java/lang/IndexOutOfBoundsException", I)))) := by
  show (fX8_checkFlow_k0 N) [some (.ref 0), some (.int v1)] [] I = _
  unfold fX8_checkFlow_k0
  refine tt_iload rfl ?_
  refine tt_if ?_ ?_
  · skip
    exact tt_throw (Nat.le_of_ble_eq_true rfl)
  · skip
    refine tt_iload rfl ?_
    refine tt_aload rfl ?_
    refine tt_getr (q := 1) rfl rfl ?_
    refine tt_getr (q := 2) rfl rfl ?_
    refine tt_get (x := (I 2 2)) rfl rfl rfl ?_
    refine tt_cmp ?_ ?_
    · skip
      exact rfl
    · skip
      exact tt_throw (Nat.le_of_ble_eq_true rfl)
set_option maxRecDepth 100000 in
theorem eX8_checkFlow (N : Nat) (v1 : Int32) (I : gM) : fX8_checkFlow N [.ref 0, .int v1] I = hX8_checkFlow_0 N v1 I := by
  show gFn 2 (fX8_checkFlow_k0 N) [.ref 0, .int v1] I = (fX8_checkFlow_k0 N) [some (.ref 0), some (.int v1)] [] I
  exact tt_fn rfl rfl

def hX8_replaceNumber_0 (N : Nat) (v1 : Int32) (v2 : Int32) (v3 : Int32) (I : gM) : gO := fX8_replaceNumber_k0 N [some (.ref 0), some (.int v1), some (.int v2), some (.int v3), none] [] I
set_option maxRecDepth 100000 in
theorem eX8_replaceNumber_0 (N : Nat) (v1 : Int32) (v2 : Int32) (v3 : Int32) (I : gM) : hX8_replaceNumber_0 N v1 v2 v3 I =
  (hV (fX1_remember N [.ref 0, .ref 122] (gS (rg 61 122 ++ rg 1 20) I)) (rg 61 122 ++ rg 1 20) I fun I1 => hI (fX2_getNumber N [.ref 0, .int v1, .int v2] (gS (rg 2 9) I1)) (rg 2 9) I1 fun x2 I2 => hV (fX2_putNumber N [.ref 0, .int v1, .int v2, .int v3] (gS (rg 2 9) I2)) (rg 2 9) I2 fun I3 => some (.inl (some (.int x2)), I3)) := by
  show (fX8_replaceNumber_k0 N) [some (.ref 0), some (.int v1), some (.int v2), some (.int v3), none] [] I = _
  unfold fX8_replaceNumber_k0
  refine tt_aload rfl ?_
  refine tt_getr (q := 61) rfl rfl ?_
  refine tt_aload rfl ?_
  refine tt_getr (q := 1) rfl rfl ?_
  refine tt_cavV (t := []) ⟨Nat.le_of_ble_eq_true rfl, Nat.le_of_ble_eq_true rfl⟩ rfl rfl rfl (fun I1 => ?_)
  refine tt_aload rfl ?_
  refine tt_getr (q := 1) rfl rfl ?_
  refine tt_getr (q := 2) rfl rfl ?_
  refine tt_iload rfl ?_
  refine tt_iload rfl ?_
  refine tt_cavI (t := []) ⟨Nat.le_of_ble_eq_true rfl, Nat.le_of_ble_eq_true rfl⟩ rfl rfl rfl (fun x2 I2 => ?_)
  refine tt_istore (L2 := [some (.ref 0), some (.int v1), some (.int v2), some (.int v3), some (.int x2)]) (tt_lt rfl) rfl ?_
  refine tt_aload rfl ?_
  refine tt_getr (q := 1) rfl rfl ?_
  refine tt_getr (q := 2) rfl rfl ?_
  refine tt_iload rfl ?_
  refine tt_iload rfl ?_
  refine tt_iload rfl ?_
  refine tt_cavV (t := []) ⟨Nat.le_of_ble_eq_true rfl, Nat.le_of_ble_eq_true rfl⟩ rfl rfl rfl (fun I3 => ?_)
  refine tt_iload rfl ?_
  exact rfl
set_option maxRecDepth 100000 in
theorem eX8_replaceNumber (N : Nat) (v1 : Int32) (v2 : Int32) (v3 : Int32) (I : gM) : fX8_replaceNumber N [.ref 0, .int v1, .int v2, .int v3] I = hX8_replaceNumber_0 N v1 v2 v3 I := by
  show gFn 5 (fX8_replaceNumber_k0 N) [.ref 0, .int v1, .int v2, .int v3] I = (fX8_replaceNumber_k0 N) [some (.ref 0), some (.int v1), some (.int v2), some (.int v3), none] [] I
  exact tt_fn rfl rfl

