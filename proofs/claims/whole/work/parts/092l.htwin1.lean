def hX9_linkStatement_0 (N : Nat) (I : gM) : gO := fX9_linkStatement_k0 N [some (.ref 0), none, none] [] I
def hX9_linkStatement_24 (N : Nat) (s0 : Int32) (I : gM) : gO := fX9_linkStatement_k24 N [some (.ref 0), none, none] [.int s0] I
def hX9_linkStatement_61 (N : Nat) (v1 : Int32) (I : gM) : gO := fX9_linkStatement_k61 N [some (.ref 0), some (.int v1), none] [] I
set_option maxRecDepth 100000 in
theorem eX9_linkStatement_0 (N : Nat) (I : gM) : hX9_linkStatement_0 N I =
  (ck 2746 1 <| if gc_ne ((I 2 (Int32.toNatClampNeg 1))) 14 = true then (hV (fX9_step N [.ref 0] (gS (rg 0 18) I)) (rg 0 18) I fun I1 => hI (fX9_takeNode N [.ref 0] (gS (rg 0 18) I1)) (rg 0 18) I1 fun x2 I2 => hX9_linkStatement_24 N x2 I2) else (hV (fX9_fail N [.ref 0] (gS (rg 0 18) I)) (rg 0 18) I fun I3 => some (.inl none, I3))) := by
  show (fX9_linkStatement_k0 N) [some (.ref 0), none, none] [] I = _
  unfold fX9_linkStatement_k0
  refine tt_aload rfl ?_
  refine tt_getr (q := 2) rfl rfl ?_
  refine tt_const ?_
  refine tt_ald (x := (I 2 (Int32.toNatClampNeg 1))) rfl rfl ?_
  refine tt_const ?_
  refine tt_cmp ?_ ?_
  · skip
    refine tt_aload rfl ?_
    refine tt_cavV (t := []) ⟨Nat.le_of_ble_eq_true rfl, Nat.le_of_ble_eq_true rfl⟩ rfl rfl rfl (fun I1 => ?_)
    refine tt_aload rfl ?_
    refine tt_cavI (t := []) ⟨Nat.le_of_ble_eq_true rfl, Nat.le_of_ble_eq_true rfl⟩ rfl rfl rfl (fun x2 I2 => ?_)
    refine tt_mask rfl ?_
    exact rfl
  · skip
    refine tt_aload rfl ?_
    refine tt_cavV (t := []) ⟨Nat.le_of_ble_eq_true rfl, Nat.le_of_ble_eq_true rfl⟩ rfl rfl rfl (fun I3 => ?_)
    exact rfl
set_option maxRecDepth 100000 in
theorem eX9_linkStatement_24 (N : Nat) (s0 : Int32) (I : gM) : hX9_linkStatement_24 N s0 I =
  (ck 2746 0 <| hI (fX9_isNumber N [.ref 0, .int 0, .int ((gb_sub ((I 2 (Int32.toNatClampNeg 0))) 1))] (gS (rg 0 18) I)) (rg 0 18) I fun x4 I4 => if gz_eq x4 = true then (hX9_linkStatement_61 N s0 I4) else (hI (fX9_linkIn N [.ref 0, .int s0, .int (I4 0 6)] (gS [2] I4)) [2] I4 fun x5 I5 => if gc_eq x5 (-1) = true then (hX9_linkStatement_61 N s0 I5) else (hV (fX9_fail N [.ref 0] (gS (rg 0 18) I5)) (rg 0 18) I5 fun I6 => hX9_linkStatement_61 N s0 I6))) := by
  show (fX9_linkStatement_k24 N) [some (.ref 0), none, none] [.int s0] I = _
  unfold fX9_linkStatement_k24
  refine tt_istore (L2 := [some (.ref 0), some (.int s0), none]) (tt_lt rfl) rfl ?_
  refine tt_aload rfl ?_
  refine tt_const ?_
  refine tt_aload rfl ?_
  refine tt_getr (q := 2) rfl rfl ?_
  refine tt_const ?_
  refine tt_ald (x := (I 2 (Int32.toNatClampNeg 0))) rfl rfl ?_
  refine tt_const ?_
  refine tt_bin ?_
  refine tt_cavI (t := []) ⟨Nat.le_of_ble_eq_true rfl, Nat.le_of_ble_eq_true rfl⟩ rfl rfl rfl (fun x4 I4 => ?_)
  refine tt_if ?_ ?_
  · skip
    refine tt_mask rfl ?_
    exact rfl
  · skip
    refine tt_aload rfl ?_
    refine tt_getr (q := 2) rfl rfl ?_
    refine tt_iload rfl ?_
    refine tt_aload rfl ?_
    refine tt_get (x := (I4 0 6)) rfl rfl rfl ?_
    refine tt_caI (t := []) ⟨Nat.le_of_ble_eq_true rfl, Nat.le_of_ble_eq_true rfl⟩ rfl rfl rfl (fun x5 I5 => ?_)
    refine tt_const ?_
    refine tt_cmp ?_ ?_
    · skip
      refine tt_mask rfl ?_
      exact rfl
    · skip
      refine tt_aload rfl ?_
      refine tt_cavV (t := []) ⟨Nat.le_of_ble_eq_true rfl, Nat.le_of_ble_eq_true rfl⟩ rfl rfl rfl (fun I6 => ?_)
      refine tt_mask rfl ?_
      exact rfl
set_option maxRecDepth 100000 in
theorem eX9_linkStatement_61 (N : Nat) (v1 : Int32) (I : gM) : hX9_linkStatement_61 N v1 I =
  (ck 2746 0 <| hI (fX9_takeOther N [.ref 0, .int 0, .int ((gb_sub ((I 2 (Int32.toNatClampNeg 0))) 1)), .int v1] (gS (rg 0 18) I)) (rg 0 18) I fun x7 I7 => hI (fX9_takeNumber N [.ref 0, .int 1, .int 5] (gS (rg 0 18) I7)) (rg 0 18) I7 fun x8 I8 => hV (fX9_layLink N [.ref 0, .int v1, .int x7, .int x8] (gS [2] I8)) [2] I8 fun I9 => some (.inl none, I9)) := by
  show (fX9_linkStatement_k61 N) [some (.ref 0), some (.int v1), none] [] I = _
  unfold fX9_linkStatement_k61
  refine tt_aload rfl ?_
  refine tt_const ?_
  refine tt_aload rfl ?_
  refine tt_getr (q := 2) rfl rfl ?_
  refine tt_const ?_
  refine tt_ald (x := (I 2 (Int32.toNatClampNeg 0))) rfl rfl ?_
  refine tt_const ?_
  refine tt_bin ?_
  refine tt_iload rfl ?_
  refine tt_cavI (t := []) ⟨Nat.le_of_ble_eq_true rfl, Nat.le_of_ble_eq_true rfl⟩ rfl rfl rfl (fun x7 I7 => ?_)
  refine tt_istore (L2 := [some (.ref 0), some (.int v1), some (.int x7)]) (tt_lt rfl) rfl ?_
  refine tt_aload rfl ?_
  refine tt_getr (q := 2) rfl rfl ?_
  refine tt_iload rfl ?_
  refine tt_iload rfl ?_
  refine tt_aload rfl ?_
  refine tt_const ?_
  refine tt_const ?_
  refine tt_cavI (t := [.int x7, .int v1, .ref 2]) ⟨Nat.le_of_ble_eq_true rfl, Nat.le_of_ble_eq_true rfl⟩ rfl rfl rfl (fun x8 I8 => ?_)
  refine tt_caV (t := []) ⟨Nat.le_of_ble_eq_true rfl, Nat.le_of_ble_eq_true rfl⟩ rfl rfl rfl (fun I9 => ?_)
  exact rfl
set_option maxRecDepth 100000 in
theorem eX9_linkStatement (N : Nat) (I : gM) : fX9_linkStatement N [.ref 0] I = hX9_linkStatement_0 N I := by
  show gFn 3 (fX9_linkStatement_k0 N) [.ref 0] I = (fX9_linkStatement_k0 N) [some (.ref 0), none, none] [] I
  exact tt_fn rfl rfl

def hX9_conflictStatement_0 (N : Nat) (I : gM) : gO := fX9_conflictStatement_k0 N [some (.ref 0), none, none] [] I
def hX9_conflictStatement_19 (N : Nat) (I : gM) : gO := fX9_conflictStatement_k19 N [some (.ref 0), none, none] [] I
def hX9_conflictStatement_41 (N : Nat) (s0 : Int32) (I : gM) : gO := fX9_conflictStatement_k41 N [some (.ref 0), none, none] [.int s0] I
def hX9_conflictStatement_82 (N : Nat) (v1 : Int32) (I : gM) : gO := fX9_conflictStatement_k82 N [some (.ref 0), some (.int v1), none] [] I
set_option maxRecDepth 100000 in
theorem eX9_conflictStatement_0 (N : Nat) (I : gM) : hX9_conflictStatement_0 N I =
  (ck 2746 1 <| if gc_lt ((I 2 (Int32.toNatClampNeg 1))) 2 = true then (hX9_conflictStatement_19 N I) else (if gc_ne (I 0 15) 40 = true then (hV (fX9_step N [.ref 0] (gS (rg 0 18) I)) (rg 0 18) I fun I1 => ck 2746 1 <| hI (fX9_takeNumber N [.ref 0, .int 0, .int ((gb_sub ((I1 2 (Int32.toNatClampNeg 1))) 1))] (gS (rg 0 18) I1)) (rg 0 18) I1 fun x2 I2 => hX9_conflictStatement_41 N x2 I2) else (hX9_conflictStatement_19 N I))) := by
  show (fX9_conflictStatement_k0 N) [some (.ref 0), none, none] [] I = _
  unfold fX9_conflictStatement_k0
  refine tt_aload rfl ?_
  refine tt_getr (q := 2) rfl rfl ?_
  refine tt_const ?_
  refine tt_ald (x := (I 2 (Int32.toNatClampNeg 1))) rfl rfl ?_
  refine tt_const ?_
  refine tt_cmp ?_ ?_
  · skip
    refine tt_mask rfl ?_
    exact rfl
  · skip
    refine tt_aload rfl ?_
    refine tt_get (x := (I 0 15)) rfl rfl rfl ?_
    refine tt_const ?_
    refine tt_cmp ?_ ?_
    · skip
      refine tt_aload rfl ?_
      refine tt_cavV (t := []) ⟨Nat.le_of_ble_eq_true rfl, Nat.le_of_ble_eq_true rfl⟩ rfl rfl rfl (fun I1 => ?_)
      refine tt_aload rfl ?_
      refine tt_const ?_
      refine tt_aload rfl ?_
      refine tt_getr (q := 2) rfl rfl ?_
      refine tt_const ?_
      refine tt_ald (x := (I1 2 (Int32.toNatClampNeg 1))) rfl rfl ?_
      refine tt_const ?_
      refine tt_bin ?_
      refine tt_cavI (t := []) ⟨Nat.le_of_ble_eq_true rfl, Nat.le_of_ble_eq_true rfl⟩ rfl rfl rfl (fun x2 I2 => ?_)
      refine tt_mask rfl ?_
      exact rfl
    · skip
      refine tt_mask rfl ?_
      exact rfl
set_option maxRecDepth 100000 in
theorem eX9_conflictStatement_19 (N : Nat) (I : gM) : hX9_conflictStatement_19 N I =
  (hV (fX9_fail N [.ref 0] (gS (rg 0 18) I)) (rg 0 18) I fun I3 => some (.inl none, I3)) := by
  show (fX9_conflictStatement_k19 N) [some (.ref 0), none, none] [] I = _
  unfold fX9_conflictStatement_k19
  refine tt_aload rfl ?_
  refine tt_cavV (t := []) ⟨Nat.le_of_ble_eq_true rfl, Nat.le_of_ble_eq_true rfl⟩ rfl rfl rfl (fun I3 => ?_)
  exact rfl
set_option maxRecDepth 100000 in
theorem eX9_conflictStatement_41 (N : Nat) (s0 : Int32) (I : gM) : hX9_conflictStatement_41 N s0 I =
  (ck 2746 1 <| hI (fX9_isNumber N [.ref 0, .int 0, .int ((gb_sub ((I 2 (Int32.toNatClampNeg 1))) 1))] (gS (rg 0 18) I)) (rg 0 18) I fun x4 I4 => if gz_eq x4 = true then (hX9_conflictStatement_82 N s0 I4) else (ck 2746 (gb_add 131 s0) <| hI (fX9_has N [.int ((I4 2 ((Int32.toNatClampNeg (gb_add 131 s0))))), .int (I4 0 6)] (gS [] I4)) [] I4 fun x5 I5 => if gz_eq x5 = true then (hX9_conflictStatement_82 N s0 I5) else (hV (fX9_fail N [.ref 0] (gS (rg 0 18) I5)) (rg 0 18) I5 fun I6 => hX9_conflictStatement_82 N s0 I6))) := by
  show (fX9_conflictStatement_k41 N) [some (.ref 0), none, none] [.int s0] I = _
  unfold fX9_conflictStatement_k41
  refine tt_istore (L2 := [some (.ref 0), some (.int s0), none]) (tt_lt rfl) rfl ?_
  refine tt_aload rfl ?_
  refine tt_const ?_
  refine tt_aload rfl ?_
  refine tt_getr (q := 2) rfl rfl ?_
  refine tt_const ?_
  refine tt_ald (x := (I 2 (Int32.toNatClampNeg 1))) rfl rfl ?_
  refine tt_const ?_
  refine tt_bin ?_
  refine tt_cavI (t := []) ⟨Nat.le_of_ble_eq_true rfl, Nat.le_of_ble_eq_true rfl⟩ rfl rfl rfl (fun x4 I4 => ?_)
  refine tt_if ?_ ?_
  · skip
    refine tt_mask rfl ?_
    exact rfl
  · skip
    refine tt_aload rfl ?_
    refine tt_getr (q := 2) rfl rfl ?_
    refine tt_const ?_
    refine tt_iload rfl ?_
    refine tt_bin ?_
    refine tt_ald (x := (I4 2 ((Int32.toNatClampNeg (gb_add 131 s0))))) rfl rfl ?_
    refine tt_aload rfl ?_
    refine tt_get (x := (I4 0 6)) rfl rfl rfl ?_
    refine tt_caI (t := []) ⟨Nat.le_of_ble_eq_true rfl, Nat.le_of_ble_eq_true rfl⟩ rfl rfl rfl (fun x5 I5 => ?_)
    refine tt_if ?_ ?_
    · skip
      refine tt_mask rfl ?_
      exact rfl
    · skip
      refine tt_aload rfl ?_
      refine tt_cavV (t := []) ⟨Nat.le_of_ble_eq_true rfl, Nat.le_of_ble_eq_true rfl⟩ rfl rfl rfl (fun I6 => ?_)
      refine tt_mask rfl ?_
      exact rfl
set_option maxRecDepth 100000 in
theorem eX9_conflictStatement_82 (N : Nat) (v1 : Int32) (I : gM) : hX9_conflictStatement_82 N v1 I =
  (ck 2746 1 <| hI (fX9_takeOther N [.ref 0, .int 0, .int ((gb_sub ((I 2 (Int32.toNatClampNeg 1))) 1)), .int v1] (gS (rg 0 18) I)) (rg 0 18) I fun x7 I7 => ck 2746 (gb_add 131 v1) <| ck 2746 (gb_add 131 v1) <| ck 2746 (gb_add 131 x7) <| ck 2746 (gb_add 131 x7) <| some (.inl none, (gU (gU (gU I7 2 ((Int32.toNatClampNeg (gb_add 131 v1))) ((gb_or ((I7 2 ((Int32.toNatClampNeg (gb_add 131 v1))))) (gb_shl 1 x7)))) 2 ((Int32.toNatClampNeg (gb_add 131 x7))) ((gb_or (((gU I7 2 ((Int32.toNatClampNeg (gb_add 131 v1))) ((gb_or ((I7 2 ((Int32.toNatClampNeg (gb_add 131 v1))))) (gb_shl 1 x7)))) 2 ((Int32.toNatClampNeg (gb_add 131 x7))))) (gb_shl 1 v1)))) 0 15 ((gb_add (I7 0 15) 1))))) := by
  show (fX9_conflictStatement_k82 N) [some (.ref 0), some (.int v1), none] [] I = _
  unfold fX9_conflictStatement_k82
  refine tt_aload rfl ?_
  refine tt_const ?_
  refine tt_aload rfl ?_
  refine tt_getr (q := 2) rfl rfl ?_
  refine tt_const ?_
  refine tt_ald (x := (I 2 (Int32.toNatClampNeg 1))) rfl rfl ?_
  refine tt_const ?_
  refine tt_bin ?_
  refine tt_iload rfl ?_
  refine tt_cavI (t := []) ⟨Nat.le_of_ble_eq_true rfl, Nat.le_of_ble_eq_true rfl⟩ rfl rfl rfl (fun x7 I7 => ?_)
  refine tt_istore (L2 := [some (.ref 0), some (.int v1), some (.int x7)]) (tt_lt rfl) rfl ?_
  refine tt_aload rfl ?_
  refine tt_getr (q := 2) rfl rfl ?_
  refine tt_const ?_
  refine tt_iload rfl ?_
  refine tt_bin ?_
  refine tt_dup2 rfl rfl ?_
  refine tt_ald (x := (I7 2 ((Int32.toNatClampNeg (gb_add 131 v1))))) rfl rfl ?_
  refine tt_const ?_
  refine tt_iload rfl ?_
  refine tt_bin ?_
  refine tt_bin ?_
  refine tt_ast (v := (gb_or ((I7 2 ((Int32.toNatClampNeg (gb_add 131 v1))))) (gb_shl 1 x7))) rfl rfl ?_
  refine tt_aload rfl ?_
  refine tt_getr (q := 2) rfl rfl ?_
  refine tt_const ?_
  refine tt_iload rfl ?_
  refine tt_bin ?_
  refine tt_dup2 rfl rfl ?_
  refine tt_ald (x := ((gU I7 2 ((Int32.toNatClampNeg (gb_add 131 v1))) ((gb_or ((I7 2 ((Int32.toNatClampNeg (gb_add 131 v1))))) (gb_shl 1 x7)))) 2 ((Int32.toNatClampNeg (gb_add 131 x7))))) rfl rfl ?_
  refine tt_const ?_
  refine tt_iload rfl ?_
  refine tt_bin ?_
  refine tt_bin ?_
  refine tt_ast (v := (gb_or (((gU I7 2 ((Int32.toNatClampNeg (gb_add 131 v1))) ((gb_or ((I7 2 ((Int32.toNatClampNeg (gb_add 131 v1))))) (gb_shl 1 x7)))) 2 ((Int32.toNatClampNeg (gb_add 131 x7))))) (gb_shl 1 v1))) rfl rfl ?_
  refine tt_aload rfl ?_
  refine tt_dup rfl ?_
  refine tt_get (x := (I7 0 15)) rfl rfl rfl ?_
  refine tt_const ?_
  refine tt_bin ?_
  refine tt_put rfl rfl ?_
  exact rfl
set_option maxRecDepth 100000 in
theorem eX9_conflictStatement (N : Nat) (I : gM) : fX9_conflictStatement N [.ref 0] I = hX9_conflictStatement_0 N I := by
  show gFn 3 (fX9_conflictStatement_k0 N) [.ref 0] I = (fX9_conflictStatement_k0 N) [some (.ref 0), none, none] [] I
  exact tt_fn rfl rfl

def hX9_flowStatement_0 (N : Nat) (I : gM) : gO := fX9_flowStatement_k0 N [some (.ref 0), none, none, none, none] [] I
def hX9_flowStatement_24 (N : Nat) (s0 : Int32) (I : gM) : gO := fX9_flowStatement_k24 N [some (.ref 0), none, none, none, none] [.int s0] I
def hX9_flowStatement_58 (N : Nat) (v1 : Int32) (v2 : Int32) (v3 : Int32) (v4 : Int32) (s0 : Int32) (I : gM) : gO := fX9_flowStatement_k58 N [some (.ref 0), some (.int v1), some (.int v2), some (.int v3), some (.int v4)] [.int s0] I
def hX9_flowStatement_75 (N : Nat) (v1 : Int32) (v2 : Int32) (v3 : Int32) (v4 : Int32) (I : gM) : gO := fX9_flowStatement_k75 N [some (.ref 0), some (.int v1), some (.int v2), some (.int v3), some (.int v4)] [] I
set_option maxRecDepth 100000 in
theorem eX9_flowStatement_0 (N : Nat) (I : gM) : hX9_flowStatement_0 N I =
  (ck 2746 2 <| if gc_ne ((I 2 (Int32.toNatClampNeg 2))) 6 = true then (hV (fX9_step N [.ref 0] (gS (rg 0 18) I)) (rg 0 18) I fun I1 => hI (fX9_takeNode N [.ref 0] (gS (rg 0 18) I1)) (rg 0 18) I1 fun x2 I2 => hX9_flowStatement_24 N x2 I2) else (hV (fX9_fail N [.ref 0] (gS (rg 0 18) I)) (rg 0 18) I fun I3 => some (.inl none, I3))) := by
  show (fX9_flowStatement_k0 N) [some (.ref 0), none, none, none, none] [] I = _
  unfold fX9_flowStatement_k0
  refine tt_aload rfl ?_
  refine tt_getr (q := 2) rfl rfl ?_
  refine tt_const ?_
  refine tt_ald (x := (I 2 (Int32.toNatClampNeg 2))) rfl rfl ?_
  refine tt_const ?_
  refine tt_cmp ?_ ?_
  · skip
    refine tt_aload rfl ?_
    refine tt_cavV (t := []) ⟨Nat.le_of_ble_eq_true rfl, Nat.le_of_ble_eq_true rfl⟩ rfl rfl rfl (fun I1 => ?_)
    refine tt_aload rfl ?_
    refine tt_cavI (t := []) ⟨Nat.le_of_ble_eq_true rfl, Nat.le_of_ble_eq_true rfl⟩ rfl rfl rfl (fun x2 I2 => ?_)
    refine tt_mask rfl ?_
    exact rfl
  · skip
    refine tt_aload rfl ?_
    refine tt_cavV (t := []) ⟨Nat.le_of_ble_eq_true rfl, Nat.le_of_ble_eq_true rfl⟩ rfl rfl rfl (fun I3 => ?_)
    exact rfl
set_option maxRecDepth 100000 in
theorem eX9_flowStatement_24 (N : Nat) (s0 : Int32) (I : gM) : hX9_flowStatement_24 N s0 I =
  (ck 2746 0 <| hI (fX9_takeOther N [.ref 0, .int 0, .int ((gb_sub ((I 2 (Int32.toNatClampNeg 0))) 1)), .int s0] (gS (rg 0 18) I)) (rg 0 18) I fun x4 I4 => hI (fX9_takeNumber N [.ref 0, .int 0, .int 300] (gS (rg 0 18) I4)) (rg 0 18) I4 fun x5 I5 => hI (fX9_isWord N [.ref 0, .ref 1017] (gS (rg 0 18) I5)) (rg 0 18) I5 fun x6 I6 => hX9_flowStatement_58 N s0 x4 x5 0 x6 I6) := by
  show (fX9_flowStatement_k24 N) [some (.ref 0), none, none, none, none] [.int s0] I = _
  unfold fX9_flowStatement_k24
  refine tt_istore (L2 := [some (.ref 0), some (.int s0), none, none, none]) (tt_lt rfl) rfl ?_
  refine tt_aload rfl ?_
  refine tt_const ?_
  refine tt_aload rfl ?_
  refine tt_getr (q := 2) rfl rfl ?_
  refine tt_const ?_
  refine tt_ald (x := (I 2 (Int32.toNatClampNeg 0))) rfl rfl ?_
  refine tt_const ?_
  refine tt_bin ?_
  refine tt_iload rfl ?_
  refine tt_cavI (t := []) ⟨Nat.le_of_ble_eq_true rfl, Nat.le_of_ble_eq_true rfl⟩ rfl rfl rfl (fun x4 I4 => ?_)
  refine tt_istore (L2 := [some (.ref 0), some (.int s0), some (.int x4), none, none]) (tt_lt rfl) rfl ?_
  refine tt_aload rfl ?_
  refine tt_const ?_
  refine tt_const ?_
  refine tt_cavI (t := []) ⟨Nat.le_of_ble_eq_true rfl, Nat.le_of_ble_eq_true rfl⟩ rfl rfl rfl (fun x5 I5 => ?_)
  refine tt_istore (L2 := [some (.ref 0), some (.int s0), some (.int x4), some (.int x5), none]) (tt_lt rfl) rfl ?_
  refine tt_const ?_
  refine tt_istore (L2 := [some (.ref 0), some (.int s0), some (.int x4), some (.int x5), some (.int 0)]) (tt_lt rfl) rfl ?_
  refine tt_aload rfl ?_
  refine tt_pref (q2 := 1017) rfl ?_
  refine tt_cavI (t := []) ⟨Nat.le_of_ble_eq_true rfl, Nat.le_of_ble_eq_true rfl⟩ rfl rfl rfl (fun x6 I6 => ?_)
  refine tt_mask rfl ?_
  exact rfl
set_option maxRecDepth 100000 in
theorem eX9_flowStatement_58 (N : Nat) (v1 : Int32) (v2 : Int32) (v3 : Int32) (v4 : Int32) (s0 : Int32) (I : gM) : hX9_flowStatement_58 N v1 v2 v3 v4 s0 I =
  (if gz_eq s0 = true then (hX9_flowStatement_75 N v1 v2 v3 v4 I) else (hV (fX9_step N [.ref 0] (gS (rg 0 18) I)) (rg 0 18) I fun I7 => hI (fX9_takeNumber N [.ref 0, .int 0, .int 200] (gS (rg 0 18) I7)) (rg 0 18) I7 fun x8 I8 => hX9_flowStatement_75 N v1 v2 v3 x8 I8)) := by
  show (fX9_flowStatement_k58 N) [some (.ref 0), some (.int v1), some (.int v2), some (.int v3), some (.int v4)] [.int s0] I = _
  unfold fX9_flowStatement_k58
  refine tt_if ?_ ?_
  · skip
    refine tt_mask rfl ?_
    exact rfl
  · skip
    refine tt_aload rfl ?_
    refine tt_cavV (t := []) ⟨Nat.le_of_ble_eq_true rfl, Nat.le_of_ble_eq_true rfl⟩ rfl rfl rfl (fun I7 => ?_)
    refine tt_aload rfl ?_
    refine tt_const ?_
    refine tt_const ?_
    refine tt_cavI (t := []) ⟨Nat.le_of_ble_eq_true rfl, Nat.le_of_ble_eq_true rfl⟩ rfl rfl rfl (fun x8 I8 => ?_)
    refine tt_istore (L2 := [some (.ref 0), some (.int v1), some (.int v2), some (.int v3), some (.int x8)]) (tt_lt rfl) rfl ?_
    refine tt_mask rfl ?_
    exact rfl
set_option maxRecDepth 100000 in
theorem eX9_flowStatement_75 (N : Nat) (v1 : Int32) (v2 : Int32) (v3 : Int32) (v4 : Int32) (I : gM) : hX9_flowStatement_75 N v1 v2 v3 v4 I =
  (hV (fX9_layFlow N [.ref 0, .int v1, .int v2, .int v3, .int v4] (gS [2] I)) [2] I fun I9 => some (.inl none, I9)) := by
  show (fX9_flowStatement_k75 N) [some (.ref 0), some (.int v1), some (.int v2), some (.int v3), some (.int v4)] [] I = _
  unfold fX9_flowStatement_k75
  refine tt_aload rfl ?_
  refine tt_getr (q := 2) rfl rfl ?_
  refine tt_iload rfl ?_
  refine tt_iload rfl ?_
  refine tt_iload rfl ?_
  refine tt_iload rfl ?_
  refine tt_caV (t := []) ⟨Nat.le_of_ble_eq_true rfl, Nat.le_of_ble_eq_true rfl⟩ rfl rfl rfl (fun I9 => ?_)
  exact rfl
set_option maxRecDepth 100000 in
theorem eX9_flowStatement (N : Nat) (I : gM) : fX9_flowStatement N [.ref 0] I = hX9_flowStatement_0 N I := by
  show gFn 5 (fX9_flowStatement_k0 N) [.ref 0] I = (fX9_flowStatement_k0 N) [some (.ref 0), none, none, none, none] [] I
  exact tt_fn rfl rfl

def hX9_once_0 (N : Nat) (p1 : Nat) (v2 : Int32) (I : gM) : gO := fX9_once_k0 N [some (.ref 0), some (.ref p1), some (.int v2)] [] I
def hX9_once_25 (N : Nat) (v2 : Int32) (I : gM) : gO := fX9_once_k25 N [some (.ref 0), none, some (.int v2)] [] I
set_option maxRecDepth 100000 in
theorem eX9_once_0 (N : Nat) (p1 : Nat) (v2 : Int32) (I : gM) (hp1 : 1000 ≤ p1) : hX9_once_0 N p1 v2 I =
  (hI (fX9_isWord N [.ref 0, .ref p1] (gS (rg 0 18) I)) (rg 0 18) I fun x1 I1 => if gz_ne x1 = true then (hI (fX9_has N [.int (I1 0 14), .int v2] (gS [] I1)) [] I1 fun x2 I2 => if gz_eq x2 = true then (hX9_once_25 N v2 I2) else (hV (fX9_fail N [.ref 0] (gS (rg 0 18) I2)) (rg 0 18) I2 fun I3 => hX9_once_25 N v2 I3)) else (some (.inl (some (.int 0)), I1))) := by
  show (fX9_once_k0 N) [some (.ref 0), some (.ref p1), some (.int v2)] [] I = _
  unfold fX9_once_k0
  refine tt_aload rfl ?_
  refine tt_aload rfl ?_
  refine tt_cavI (t := []) ⟨Nat.le_of_ble_eq_true rfl, Nat.le_of_ble_eq_true rfl⟩ (gBk_c (by decide) rfl (by decide) (gBk_p hp1 rfl)) rfl rfl (fun x1 I1 => ?_)
  refine tt_if ?_ ?_
  · skip
    refine tt_aload rfl ?_
    refine tt_get (x := (I1 0 14)) rfl rfl rfl ?_
    refine tt_iload rfl ?_
    refine tt_caI (t := []) ⟨Nat.le_of_ble_eq_true rfl, Nat.le_of_ble_eq_true rfl⟩ rfl rfl rfl (fun x2 I2 => ?_)
    refine tt_if ?_ ?_
    · skip
      refine tt_mask rfl ?_
      exact rfl
    · skip
      refine tt_aload rfl ?_
      refine tt_cavV (t := []) ⟨Nat.le_of_ble_eq_true rfl, Nat.le_of_ble_eq_true rfl⟩ rfl rfl rfl (fun I3 => ?_)
      refine tt_mask rfl ?_
      exact rfl
  · skip
    refine tt_const ?_
    exact tt_zret (by decide)
set_option maxRecDepth 100000 in
theorem eX9_once_25 (N : Nat) (v2 : Int32) (I : gM) : hX9_once_25 N v2 I =
  (hI (fX9_isGood N [.ref 0] (gS (rg 0 18) (gU I 0 14 ((gb_or (I 0 14) (gb_shl 1 v2)))))) (rg 0 18) (gU I 0 14 ((gb_or (I 0 14) (gb_shl 1 v2)))) fun x4 I4 => if gz_eq x4 = true then (some (.inl (some (.int 1)), I4)) else (hV (fX9_step N [.ref 0] (gS (rg 0 18) I4)) (rg 0 18) I4 fun I5 => some (.inl (some (.int 1)), I5))) := by
  show (fX9_once_k25 N) [some (.ref 0), none, some (.int v2)] [] I = _
  unfold fX9_once_k25
  refine tt_aload rfl ?_
  refine tt_dup rfl ?_
  refine tt_get (x := (I 0 14)) rfl rfl rfl ?_
  refine tt_const ?_
  refine tt_iload rfl ?_
  refine tt_bin ?_
  refine tt_bin ?_
  refine tt_put rfl rfl ?_
  refine tt_aload rfl ?_
  refine tt_cavI (t := []) ⟨Nat.le_of_ble_eq_true rfl, Nat.le_of_ble_eq_true rfl⟩ rfl rfl rfl (fun x4 I4 => ?_)
  refine tt_if ?_ ?_
  · skip
    refine tt_const ?_
    exact tt_zret (by decide)
  · skip
    refine tt_aload rfl ?_
    refine tt_cavV (t := []) ⟨Nat.le_of_ble_eq_true rfl, Nat.le_of_ble_eq_true rfl⟩ rfl rfl rfl (fun I5 => ?_)
    refine tt_const ?_
    exact tt_zret (by decide)
set_option maxRecDepth 100000 in
theorem eX9_once (N : Nat) (p1 : Nat) (v2 : Int32) (I : gM) : fX9_once N [.ref 0, .ref p1, .int v2] I = hX9_once_0 N p1 v2 I := by
  show gFn 3 (fX9_once_k0 N) [.ref 0, .ref p1, .int v2] I = (fX9_once_k0 N) [some (.ref 0), some (.ref p1), some (.int v2)] [] I
  exact tt_fn rfl rfl

def hX9_takeWord_0 (N : Nat) (p1 : Nat) (p2 : Nat) (I : gM) : gO := fX9_takeWord_k0 N [some (.ref 0), some (.ref p1), some (.ref p2), none] [] I
def hX9_takeWord_13 (N : Nat) (p1 : Nat) (s0 : Int32) (I : gM) : gO := fX9_takeWord_k13 N [some (.ref 0), some (.ref p1), none, none] [.int s0] I
def hX9_takeWord_27 (N : Nat) (v3 : Int32) (I : gM) : gO := fX9_takeWord_k27 N [some (.ref 0), none, none, some (.int v3)] [] I
set_option maxRecDepth 100000 in
theorem eX9_takeWord_0 (N : Nat) (p1 : Nat) (p2 : Nat) (I : gM) (hp1 : 1000 ≤ p1) (hp2 : 1000 ≤ p2) : hX9_takeWord_0 N p1 p2 I =
  (hI (fX9_isWord N [.ref 0, .ref p2] (gS (rg 0 18) I)) (rg 0 18) I fun x1 I1 => if gz_eq x1 = true then (hX9_takeWord_13 N p1 0 I1) else (hX9_takeWord_13 N p1 1 I1)) := by
  show (fX9_takeWord_k0 N) [some (.ref 0), some (.ref p1), some (.ref p2), none] [] I = _
  unfold fX9_takeWord_k0
  refine tt_aload rfl ?_
  refine tt_aload rfl ?_
  refine tt_cavI (t := []) ⟨Nat.le_of_ble_eq_true rfl, Nat.le_of_ble_eq_true rfl⟩ (gBk_c (by decide) rfl (by decide) (gBk_p hp2 rfl)) rfl rfl (fun x1 I1 => ?_)
  refine tt_if ?_ ?_
  · skip
    refine tt_const ?_
    refine tt_mask rfl ?_
    exact rfl
  · skip
    refine tt_const ?_
    refine tt_mask rfl ?_
    exact rfl
set_option maxRecDepth 100000 in
theorem eX9_takeWord_13 (N : Nat) (p1 : Nat) (s0 : Int32) (I : gM) (hp1 : 1000 ≤ p1) : hX9_takeWord_13 N p1 s0 I =
  (if gc_eq s0 1 = true then (hX9_takeWord_27 N s0 I) else (hI (fX9_isWord N [.ref 0, .ref p1] (gS (rg 0 18) I)) (rg 0 18) I fun x2 I2 => if gz_eq x2 = true then (hV (fX9_fail N [.ref 0] (gS (rg 0 18) I2)) (rg 0 18) I2 fun I3 => some (.inl (some (.int s0)), I3)) else (hX9_takeWord_27 N s0 I2))) := by
  show (fX9_takeWord_k13 N) [some (.ref 0), some (.ref p1), none, none] [.int s0] I = _
  unfold fX9_takeWord_k13
  refine tt_istore (L2 := [some (.ref 0), some (.ref p1), none, some (.int s0)]) (tt_lt rfl) rfl ?_
  refine tt_iload rfl ?_
  refine tt_const ?_
  refine tt_cmp ?_ ?_
  · skip
    refine tt_mask rfl ?_
    exact rfl
  · skip
    refine tt_aload rfl ?_
    refine tt_aload rfl ?_
    refine tt_cavI (t := []) ⟨Nat.le_of_ble_eq_true rfl, Nat.le_of_ble_eq_true rfl⟩ (gBk_c (by decide) rfl (by decide) (gBk_p hp1 rfl)) rfl rfl (fun x2 I2 => ?_)
    refine tt_if ?_ ?_
    · skip
      refine tt_aload rfl ?_
      refine tt_cavV (t := []) ⟨Nat.le_of_ble_eq_true rfl, Nat.le_of_ble_eq_true rfl⟩ rfl rfl rfl (fun I3 => ?_)
      refine tt_iload rfl ?_
      exact rfl
    · skip
      refine tt_mask rfl ?_
      exact rfl
set_option maxRecDepth 100000 in
theorem eX9_takeWord_27 (N : Nat) (v3 : Int32) (I : gM) : hX9_takeWord_27 N v3 I =
  (hV (fX9_step N [.ref 0] (gS (rg 0 18) I)) (rg 0 18) I fun I4 => some (.inl (some (.int v3)), I4)) := by
  show (fX9_takeWord_k27 N) [some (.ref 0), none, none, some (.int v3)] [] I = _
  unfold fX9_takeWord_k27
  refine tt_aload rfl ?_
  refine tt_cavV (t := []) ⟨Nat.le_of_ble_eq_true rfl, Nat.le_of_ble_eq_true rfl⟩ rfl rfl rfl (fun I4 => ?_)
  refine tt_iload rfl ?_
  exact rfl
set_option maxRecDepth 100000 in
theorem eX9_takeWord (N : Nat) (p1 : Nat) (p2 : Nat) (I : gM) : fX9_takeWord N [.ref 0, .ref p1, .ref p2] I = hX9_takeWord_0 N p1 p2 I := by
  show gFn 4 (fX9_takeWord_k0 N) [.ref 0, .ref p1, .ref p2] I = (fX9_takeWord_k0 N) [some (.ref 0), some (.ref p1), some (.ref p2), none] [] I
  exact tt_fn rfl rfl

def hX9_readStatement_0 (N : Nat) (I : gM) : gO := fX9_readStatement_k0 N [some (.ref 0)] [] I
def hX9_readStatement_22 (N : Nat) (s0 : Int32) (I : gM) : gO := fX9_readStatement_k22 N [some (.ref 0)] [.int s0] I
def hX9_readStatement_82 (N : Nat) (s0 : Int32) (I : gM) : gO := fX9_readStatement_k82 N [some (.ref 0)] [.int s0] I
def hX9_readStatement_45 (N : Nat) (I : gM) : gO := fX9_readStatement_k45 N [none] [] I
def hX9_readStatement_123 (N : Nat) (s1 : Int32) (s2 : Int32) (I : gM) : gO := fX9_readStatement_k123 N [none] [.int s2, .int s1, .ref 2] I
set_option maxRecDepth 100000 in
theorem eX9_readStatement_0 (N : Nat) (I : gM) : hX9_readStatement_0 N I =
  (hI (fX9_isWord N [.ref 0, .ref 1014] (gS (rg 0 18) I)) (rg 0 18) I fun x1 I1 => if gz_eq x1 = true then (hI (fX9_isWord N [.ref 0, .ref 1015] (gS (rg 0 18) I1)) (rg 0 18) I1 fun x2 I2 => hX9_readStatement_22 N x2 I2) else (hV (fX9_linkStatement N [.ref 0] (gS (rg 0 18) I1)) (rg 0 18) I1 fun I3 => some (.inl none, I3))) := by
  show (fX9_readStatement_k0 N) [some (.ref 0)] [] I = _
  unfold fX9_readStatement_k0
  refine tt_aload rfl ?_
  refine tt_pref (q2 := 1014) rfl ?_
  refine tt_cavI (t := []) ⟨Nat.le_of_ble_eq_true rfl, Nat.le_of_ble_eq_true rfl⟩ rfl rfl rfl (fun x1 I1 => ?_)
  refine tt_if ?_ ?_
  · skip
    refine tt_aload rfl ?_
    refine tt_pref (q2 := 1015) rfl ?_
    refine tt_cavI (t := []) ⟨Nat.le_of_ble_eq_true rfl, Nat.le_of_ble_eq_true rfl⟩ rfl rfl rfl (fun x2 I2 => ?_)
    refine tt_mask rfl ?_
    exact rfl
  · skip
    refine tt_aload rfl ?_
    refine tt_cavV (t := []) ⟨Nat.le_of_ble_eq_true rfl, Nat.le_of_ble_eq_true rfl⟩ rfl rfl rfl (fun I3 => ?_)
    exact rfl
set_option maxRecDepth 100000 in
theorem eX9_readStatement_22 (N : Nat) (s0 : Int32) (I : gM) : hX9_readStatement_22 N s0 I =
  (if gz_eq s0 = true then (hI (fX9_isWord N [.ref 0, .ref 1016] (gS (rg 0 18) I)) (rg 0 18) I fun x4 I4 => if gz_eq x4 = true then (hI (fX9_once N [.ref 0, .ref 1018, .int 0] (gS (rg 0 18) I4)) (rg 0 18) I4 fun x5 I5 => if gz_eq x5 = true then (hI (fX9_once N [.ref 0, .ref 1021, .int 1] (gS (rg 0 18) I5)) (rg 0 18) I5 fun x6 I6 => hX9_readStatement_82 N x6 I6) else (hI (fX9_takeWord N [.ref 0, .ref 1019, .ref 1020] (gS (rg 0 18) I5)) (rg 0 18) I5 fun x7 I7 => ck 2746 3 <| some (.inl none, (gU I7 2 (Int32.toNatClampNeg 3) x7)))) else (hV (fX9_flowStatement N [.ref 0] (gS (rg 0 18) I4)) (rg 0 18) I4 fun I8 => hX9_readStatement_45 N I8)) else (hV (fX9_conflictStatement N [.ref 0] (gS (rg 0 18) I)) (rg 0 18) I fun I9 => some (.inl none, I9))) := by
  show (fX9_readStatement_k22 N) [some (.ref 0)] [.int s0] I = _
  unfold fX9_readStatement_k22
  refine tt_if ?_ ?_
  · skip
    refine tt_aload rfl ?_
    refine tt_pref (q2 := 1016) rfl ?_
    refine tt_cavI (t := []) ⟨Nat.le_of_ble_eq_true rfl, Nat.le_of_ble_eq_true rfl⟩ rfl rfl rfl (fun x4 I4 => ?_)
    refine tt_if ?_ ?_
    · skip
      refine tt_aload rfl ?_
      refine tt_pref (q2 := 1018) rfl ?_
      refine tt_const ?_
      refine tt_cavI (t := []) ⟨Nat.le_of_ble_eq_true rfl, Nat.le_of_ble_eq_true rfl⟩ rfl rfl rfl (fun x5 I5 => ?_)
      refine tt_if ?_ ?_
      · skip
        refine tt_aload rfl ?_
        refine tt_pref (q2 := 1021) rfl ?_
        refine tt_const ?_
        refine tt_cavI (t := []) ⟨Nat.le_of_ble_eq_true rfl, Nat.le_of_ble_eq_true rfl⟩ rfl rfl rfl (fun x6 I6 => ?_)
        refine tt_mask rfl ?_
        exact rfl
      · skip
        refine tt_aload rfl ?_
        refine tt_getr (q := 2) rfl rfl ?_
        refine tt_const ?_
        refine tt_aload rfl ?_
        refine tt_pref (q2 := 1019) rfl ?_
        refine tt_pref (q2 := 1020) rfl ?_
        refine tt_cavI (t := [.int 3, .ref 2]) ⟨Nat.le_of_ble_eq_true rfl, Nat.le_of_ble_eq_true rfl⟩ rfl rfl rfl (fun x7 I7 => ?_)
        refine tt_ast (v := x7) rfl rfl ?_
        exact rfl
    · skip
      refine tt_aload rfl ?_
      refine tt_cavV (t := []) ⟨Nat.le_of_ble_eq_true rfl, Nat.le_of_ble_eq_true rfl⟩ rfl rfl rfl (fun I8 => ?_)
      refine tt_mask rfl ?_
      exact rfl
  · skip
    refine tt_aload rfl ?_
    refine tt_cavV (t := []) ⟨Nat.le_of_ble_eq_true rfl, Nat.le_of_ble_eq_true rfl⟩ rfl rfl rfl (fun I9 => ?_)
    exact rfl
set_option maxRecDepth 100000 in
theorem eX9_readStatement_82 (N : Nat) (s0 : Int32) (I : gM) : hX9_readStatement_82 N s0 I =
  (if gz_eq s0 = true then (hI (fX9_once N [.ref 0, .ref 1022, .int 2] (gS (rg 0 18) I)) (rg 0 18) I fun x10 I10 => if gz_eq x10 = true then (hI (fX9_once N [.ref 0, .ref 1023, .int 3] (gS (rg 0 18) I10)) (rg 0 18) I10 fun x11 I11 => if gz_eq x11 = true then (hV (fX9_fail N [.ref 0] (gS (rg 0 18) I11)) (rg 0 18) I11 fun I12 => some (.inl none, I12)) else (hI (fX9_takeWord N [.ref 0, .ref 1024, .ref 1025] (gS (rg 0 18) I11)) (rg 0 18) I11 fun x13 I13 => ck 2746 6 <| some (.inl none, (gU I13 2 (Int32.toNatClampNeg 6) x13)))) else (hI (fX9_takeNumber N [.ref 0, .int 0, .int 20] (gS (rg 0 18) I10)) (rg 0 18) I10 fun x14 I14 => hX9_readStatement_123 N 5 x14 I14)) else (hI (fX9_takeNumber N [.ref 0, .int 0, .int 50] (gS (rg 0 18) I)) (rg 0 18) I fun x15 I15 => ck 2746 4 <| some (.inl none, (gU I15 2 (Int32.toNatClampNeg 4) x15)))) := by
  show (fX9_readStatement_k82 N) [some (.ref 0)] [.int s0] I = _
  unfold fX9_readStatement_k82
  refine tt_if ?_ ?_
  · skip
    refine tt_aload rfl ?_
    refine tt_pref (q2 := 1022) rfl ?_
    refine tt_const ?_
    refine tt_cavI (t := []) ⟨Nat.le_of_ble_eq_true rfl, Nat.le_of_ble_eq_true rfl⟩ rfl rfl rfl (fun x10 I10 => ?_)
    refine tt_if ?_ ?_
    · skip
      refine tt_aload rfl ?_
      refine tt_pref (q2 := 1023) rfl ?_
      refine tt_const ?_
      refine tt_cavI (t := []) ⟨Nat.le_of_ble_eq_true rfl, Nat.le_of_ble_eq_true rfl⟩ rfl rfl rfl (fun x11 I11 => ?_)
      refine tt_if ?_ ?_
      · skip
        refine tt_aload rfl ?_
        refine tt_cavV (t := []) ⟨Nat.le_of_ble_eq_true rfl, Nat.le_of_ble_eq_true rfl⟩ rfl rfl rfl (fun I12 => ?_)
        exact rfl
      · skip
        refine tt_aload rfl ?_
        refine tt_getr (q := 2) rfl rfl ?_
        refine tt_const ?_
        refine tt_aload rfl ?_
        refine tt_pref (q2 := 1024) rfl ?_
        refine tt_pref (q2 := 1025) rfl ?_
        refine tt_cavI (t := [.int 6, .ref 2]) ⟨Nat.le_of_ble_eq_true rfl, Nat.le_of_ble_eq_true rfl⟩ rfl rfl rfl (fun x13 I13 => ?_)
        refine tt_ast (v := x13) rfl rfl ?_
        exact rfl
    · skip
      refine tt_aload rfl ?_
      refine tt_getr (q := 2) rfl rfl ?_
      refine tt_const ?_
      refine tt_aload rfl ?_
      refine tt_const ?_
      refine tt_const ?_
      refine tt_cavI (t := [.int 5, .ref 2]) ⟨Nat.le_of_ble_eq_true rfl, Nat.le_of_ble_eq_true rfl⟩ rfl rfl rfl (fun x14 I14 => ?_)
      refine tt_mask rfl ?_
      exact rfl
  · skip
    refine tt_aload rfl ?_
    refine tt_getr (q := 2) rfl rfl ?_
    refine tt_const ?_
    refine tt_aload rfl ?_
    refine tt_const ?_
    refine tt_const ?_
    refine tt_cavI (t := [.int 4, .ref 2]) ⟨Nat.le_of_ble_eq_true rfl, Nat.le_of_ble_eq_true rfl⟩ rfl rfl rfl (fun x15 I15 => ?_)
    refine tt_ast (v := x15) rfl rfl ?_
    exact rfl
set_option maxRecDepth 100000 in
theorem eX9_readStatement_45 (N : Nat) (I : gM) : hX9_readStatement_45 N I =
  (some (.inl none, I)) := by
  show (fX9_readStatement_k45 N) [none] [] I = _
  unfold fX9_readStatement_k45
  exact rfl
set_option maxRecDepth 100000 in
theorem eX9_readStatement_123 (N : Nat) (s1 : Int32) (s2 : Int32) (I : gM) : hX9_readStatement_123 N s1 s2 I =
  (ck 2746 s1 <| some (.inl none, (gU I 2 (Int32.toNatClampNeg s1) s2))) := by
  show (fX9_readStatement_k123 N) [none] [.int s2, .int s1, .ref 2] I = _
  unfold fX9_readStatement_k123
  refine tt_ast (v := s2) rfl rfl ?_
  exact rfl
set_option maxRecDepth 100000 in
theorem eX9_readStatement (N : Nat) (I : gM) : fX9_readStatement N [.ref 0] I = hX9_readStatement_0 N I := by
  show gFn 1 (fX9_readStatement_k0 N) [.ref 0] I = (fX9_readStatement_k0 N) [some (.ref 0)] [] I
  exact tt_fn rfl rfl

def hX9_parse_0 (N : Nat) (I : gM) : gO := fX9_parse_k0 N [some (.ref 0)] [] I
def hX9_parse_24 (N : Nat) (s0 : Int32) (I : gM) : gO := fX9_parse_k24 N [some (.ref 0)] [.int s0] I
def hX9_parse_51 (N : Nat) (n51 : Nat) (I : gM) : gO := s_lp (fX9_parse_b51 N) n51 [some (.ref 0)] [] I
def hX9_parse_91 (N : Nat) (I : gM) : gO := fX9_parse_k91 N [some (.ref 0)] [] I
def hX9_parse_88 (N : Nat) (n51 : Nat) (I : gM) : gO := fX9_parse_k88 N (s_lp (fX9_parse_b51 N) n51) [some (.ref 0)] [] I
set_option maxRecDepth 100000 in
theorem eX9_parse_0 (N : Nat) (I : gM) : hX9_parse_0 N I =
  (hV (fX9_begin N [.ref 0] (gS (rg 0 18) (gU (gU I 0 3 0) 0 7 (-1)))) (rg 0 18) (gU (gU I 0 3 0) 0 7 (-1)) fun I1 => hV (fX9_step N [.ref 0] (gS (rg 0 18) I1)) (rg 0 18) I1 fun I2 => hI (fX9_isWord N [.ref 0, .ref 1013] (gS (rg 0 18) I2)) (rg 0 18) I2 fun x3 I3 => hX9_parse_24 N x3 I3) := by
  show (fX9_parse_k0 N) [some (.ref 0)] [] I = _
  unfold fX9_parse_k0
  refine tt_aload rfl ?_
  refine tt_const ?_
  refine tt_put rfl rfl ?_
  refine tt_aload rfl ?_
  refine tt_const ?_
  refine tt_put rfl rfl ?_
  refine tt_aload rfl ?_
  refine tt_cavV (t := []) ⟨Nat.le_of_ble_eq_true rfl, Nat.le_of_ble_eq_true rfl⟩ rfl rfl rfl (fun I1 => ?_)
  refine tt_aload rfl ?_
  refine tt_cavV (t := []) ⟨Nat.le_of_ble_eq_true rfl, Nat.le_of_ble_eq_true rfl⟩ rfl rfl rfl (fun I2 => ?_)
  refine tt_aload rfl ?_
  refine tt_pref (q2 := 1013) rfl ?_
  refine tt_cavI (t := []) ⟨Nat.le_of_ble_eq_true rfl, Nat.le_of_ble_eq_true rfl⟩ rfl rfl rfl (fun x3 I3 => ?_)
  refine tt_mask rfl ?_
  exact rfl
set_option maxRecDepth 100000 in
theorem eX9_parse_24 (N : Nat) (s0 : Int32) (I : gM) : hX9_parse_24 N s0 I =
  (if gz_eq s0 = true then (hV (fX9_fail N [.ref 0] (gS (rg 0 18) I)) (rg 0 18) I fun I4 => hX9_parse_51 N N I4) else (hV (fX9_step N [.ref 0] (gS (rg 0 18) I)) (rg 0 18) I fun I5 => hI (fX9_takeNumber N [.ref 0, .int 2, .int 10] (gS (rg 0 18) I5)) (rg 0 18) I5 fun x6 I6 => ck 2746 0 <| hX9_parse_51 N N (gU I6 2 (Int32.toNatClampNeg 0) x6))) := by
  show (fX9_parse_k24 N) [some (.ref 0)] [.int s0] I = _
  unfold fX9_parse_k24
  refine tt_if ?_ ?_
  · skip
    refine tt_aload rfl ?_
    refine tt_cavV (t := []) ⟨Nat.le_of_ble_eq_true rfl, Nat.le_of_ble_eq_true rfl⟩ rfl rfl rfl (fun I4 => ?_)
    refine tt_mask rfl ?_
    exact rfl
  · skip
    refine tt_aload rfl ?_
    refine tt_cavV (t := []) ⟨Nat.le_of_ble_eq_true rfl, Nat.le_of_ble_eq_true rfl⟩ rfl rfl rfl (fun I5 => ?_)
    refine tt_aload rfl ?_
    refine tt_getr (q := 2) rfl rfl ?_
    refine tt_const ?_
    refine tt_aload rfl ?_
    refine tt_const ?_
    refine tt_const ?_
    refine tt_cavI (t := [.int 0, .ref 2]) ⟨Nat.le_of_ble_eq_true rfl, Nat.le_of_ble_eq_true rfl⟩ rfl rfl rfl (fun x6 I6 => ?_)
    refine tt_ast (v := x6) rfl rfl ?_
    refine tt_mask rfl ?_
    exact rfl
set_option maxRecDepth 100000 in
theorem eX9_parse_51 (N : Nat) (n51 : Nat) (I : gM) : hX9_parse_51 N (n51 + 1) I =
  (hI (fX9_isGood N [.ref 0] (gS (rg 0 18) I)) (rg 0 18) I fun x7 I7 => if gz_eq x7 = true then (hX9_parse_91 N I7) else (if gc_ne (I7 0 5) 3 = true then (hX9_parse_91 N I7) else (ck 700 (I7 0 4) <| if gc_ne ((I7 1 ((Int32.toNatClampNeg (I7 0 4))))) 59 = true then (hX9_parse_91 N I7) else (hV (fX9_step N [.ref 0] (gS (rg 0 18) I7)) (rg 0 18) I7 fun I8 => hV (fX9_readStatement N [.ref 0] (gS (rg 0 18) I8)) (rg 0 18) I8 fun I9 => hX9_parse_88 N n51 I9)))) := by
  show (fX9_parse_b51 N (s_lp (fX9_parse_b51 N) n51)) [some (.ref 0)] [] I = _
  unfold fX9_parse_b51
  refine tt_aload rfl ?_
  refine tt_cavI (t := []) ⟨Nat.le_of_ble_eq_true rfl, Nat.le_of_ble_eq_true rfl⟩ rfl rfl rfl (fun x7 I7 => ?_)
  refine tt_if ?_ ?_
  · skip
    refine tt_mask rfl ?_
    exact rfl
  · skip
    refine tt_aload rfl ?_
    refine tt_get (x := (I7 0 5)) rfl rfl rfl ?_
    refine tt_const ?_
    refine tt_cmp ?_ ?_
    · skip
      refine tt_mask rfl ?_
      exact rfl
    · skip
      refine tt_aload rfl ?_
      refine tt_getr (q := 1) rfl rfl ?_
      refine tt_aload rfl ?_
      refine tt_get (x := (I7 0 4)) rfl rfl rfl ?_
      refine tt_ald (x := (I7 1 ((Int32.toNatClampNeg (I7 0 4))))) rfl rfl ?_
      refine tt_const ?_
      refine tt_cmp ?_ ?_
      · skip
        refine tt_mask rfl ?_
        exact rfl
      · skip
        refine tt_aload rfl ?_
        refine tt_cavV (t := []) ⟨Nat.le_of_ble_eq_true rfl, Nat.le_of_ble_eq_true rfl⟩ rfl rfl rfl (fun I8 => ?_)
        refine tt_aload rfl ?_
        refine tt_cavV (t := []) ⟨Nat.le_of_ble_eq_true rfl, Nat.le_of_ble_eq_true rfl⟩ rfl rfl rfl (fun I9 => ?_)
        refine tt_mask rfl ?_
        exact rfl
theorem eX9_parse_51z (N : Nat) (I : gM) : hX9_parse_51 N 0 I = none := (rfl)
set_option maxRecDepth 100000 in
theorem eX9_parse_91 (N : Nat) (I : gM) : hX9_parse_91 N I =
  (hI (fX9_isGood N [.ref 0] (gS (rg 0 18) I)) (rg 0 18) I fun x10 I10 => if gz_eq x10 = true then (some (.inl (some (.int (I10 0 7))), I10)) else (if gz_eq (I10 0 5) = true then (some (.inl (some (.int (I10 0 7))), I10)) else (hV (fX9_fail N [.ref 0] (gS (rg 0 18) I10)) (rg 0 18) I10 fun I11 => some (.inl (some (.int (I11 0 7))), I11)))) := by
  show (fX9_parse_k91 N) [some (.ref 0)] [] I = _
  unfold fX9_parse_k91
  refine tt_aload rfl ?_
  refine tt_cavI (t := []) ⟨Nat.le_of_ble_eq_true rfl, Nat.le_of_ble_eq_true rfl⟩ rfl rfl rfl (fun x10 I10 => ?_)
  refine tt_if ?_ ?_
  · skip
    refine tt_aload rfl ?_
    refine tt_get (x := (I10 0 7)) rfl rfl rfl ?_
    exact rfl
  · skip
    refine tt_aload rfl ?_
    refine tt_get (x := (I10 0 5)) rfl rfl rfl ?_
    refine tt_if ?_ ?_
    · skip
      refine tt_aload rfl ?_
      refine tt_get (x := (I10 0 7)) rfl rfl rfl ?_
      exact rfl
    · skip
      refine tt_aload rfl ?_
      refine tt_cavV (t := []) ⟨Nat.le_of_ble_eq_true rfl, Nat.le_of_ble_eq_true rfl⟩ rfl rfl rfl (fun I11 => ?_)
      refine tt_aload rfl ?_
      refine tt_get (x := (I11 0 7)) rfl rfl rfl ?_
      exact rfl
set_option maxRecDepth 100000 in
theorem eX9_parse_88 (N : Nat) (n51 : Nat) (I : gM) : hX9_parse_88 N n51 I =
  (hX9_parse_51 N n51 I) := by
  show (fX9_parse_k88 N (s_lp (fX9_parse_b51 N) n51)) [some (.ref 0)] [] I = _
  unfold fX9_parse_k88
  refine tt_mask rfl ?_
  exact rfl
set_option maxRecDepth 100000 in
theorem eX9_parse (N : Nat) (I : gM) : fX9_parse N [.ref 0] I = hX9_parse_0 N I := by
  show gFn 1 (fX9_parse_k0 N) [.ref 0] I = (fX9_parse_k0 N) [some (.ref 0)] [] I
  exact tt_fn rfl rfl

def hX9_errorPosition_0 (N : Nat) (I : gM) : gO := fX9_errorPosition_k0 N [some (.ref 0)] [] I
set_option maxRecDepth 100000 in
theorem eX9_errorPosition_0 (N : Nat) (I : gM) : hX9_errorPosition_0 N I =
  (hI (fX9_parse N [.ref 0] (gS (rg 0 18) (gU I 0 0 0))) (rg 0 18) (gU I 0 0 0) fun x1 I1 => some (.inl (some (.int x1)), I1)) := by
  show (fX9_errorPosition_k0 N) [some (.ref 0)] [] I = _
  unfold fX9_errorPosition_k0
  refine tt_aload rfl ?_
  refine tt_const ?_
  refine tt_put rfl rfl ?_
  refine tt_aload rfl ?_
  refine tt_cavI (t := []) ⟨Nat.le_of_ble_eq_true rfl, Nat.le_of_ble_eq_true rfl⟩ rfl rfl rfl (fun x1 I1 => ?_)
  exact rfl
set_option maxRecDepth 100000 in
theorem eX9_errorPosition (N : Nat) (I : gM) : fX9_errorPosition N [.ref 0] I = hX9_errorPosition_0 N I := by
  show gFn 1 (fX9_errorPosition_k0 N) [.ref 0] I = (fX9_errorPosition_k0 N) [some (.ref 0)] [] I
  exact tt_fn rfl rfl

def hX9_copy_0 (N : Nat) (n1 n2 : Nat) (v1 : Int32) (v3 : Int32) (I : gM) : gO := fX9_copy_k0 N n1 n2 [some (.ref 0), some (.int v1), some (.ref 1), some (.int v3), none] [] I
def hX9_copy_3 (N : Nat) (n1 n2 : Nat) (n3 : Nat) (v1 : Int32) (v3 : Int32) (v4 : Int32) (I : gM) : gO := s_lp (fX9_copy_b3 N n1 n2) n3 [some (.ref 0), some (.int v1), some (.ref 1), some (.int v3), some (.int v4)] [] I
set_option maxRecDepth 100000 in
theorem eX9_copy_0 (N : Nat) (n1 n2 : Nat) (v1 : Int32) (v3 : Int32) (I : gM) : hX9_copy_0 N n1 n2 v1 v3 I =
  (hX9_copy_3 N n1 n2 N v1 v3 0 I) := by
  show (fX9_copy_k0 N n1 n2) [some (.ref 0), some (.int v1), some (.ref 1), some (.int v3), none] [] I = _
  unfold fX9_copy_k0
  refine tt_const ?_
  refine tt_istore (L2 := [some (.ref 0), some (.int v1), some (.ref 1), some (.int v3), some (.int 0)]) (tt_lt rfl) rfl ?_
  refine tt_mask rfl ?_
  exact rfl
set_option maxRecDepth 100000 in
theorem eX9_copy_3 (N : Nat) (n1 n2 : Nat) (n3 : Nat) (v1 : Int32) (v3 : Int32) (v4 : Int32) (I : gM) : hX9_copy_3 N n1 n2 (n3 + 1) v1 v3 v4 I =
  (if gc_ge v4 2746 = true then (some (.inl none, I)) else (ck n1 (gb_add v1 v4) <| ck n2 (gb_add v3 v4) <| hX9_copy_3 N n1 n2 n3 v1 v3 (v4 + 1) (gU I 1 ((Int32.toNatClampNeg (gb_add v3 v4))) ((I 0 ((Int32.toNatClampNeg (gb_add v1 v4)))))))) := by
  show (fX9_copy_b3 N n1 n2 (s_lp (fX9_copy_b3 N n1 n2) n3)) [some (.ref 0), some (.int v1), some (.ref 1), some (.int v3), some (.int v4)] [] I = _
  unfold fX9_copy_b3
  refine tt_iload rfl ?_
  refine tt_const ?_
  refine tt_cmp ?_ ?_
  · skip
    exact rfl
  · skip
    refine tt_aload rfl ?_
    refine tt_iload rfl ?_
    refine tt_iload rfl ?_
    refine tt_bin ?_
    refine tt_aload rfl ?_
    refine tt_iload rfl ?_
    refine tt_iload rfl ?_
    refine tt_bin ?_
    refine tt_ald (x := (I 0 ((Int32.toNatClampNeg (gb_add v1 v4))))) rfl rfl ?_
    refine tt_ast (v := (I 0 ((Int32.toNatClampNeg (gb_add v1 v4))))) rfl rfl ?_
    refine tt_iinc (L2 := [some (.ref 0), some (.int v1), some (.ref 1), some (.int v3), some (.int (v4 + 1))]) rfl rfl ?_
    refine tt_mask rfl ?_
    exact rfl
theorem eX9_copy_3z (N : Nat) (n1 n2 : Nat) (v1 : Int32) (v3 : Int32) (v4 : Int32) (I : gM) : hX9_copy_3 N n1 n2 0 v1 v3 v4 I = none := (rfl)
set_option maxRecDepth 100000 in
theorem eX9_copy (N : Nat) (n1 n2 : Nat) (v1 : Int32) (v3 : Int32) (I : gM) : fX9_copy N n1 n2 [.ref 0, .int v1, .ref 1, .int v3] I = hX9_copy_0 N n1 n2 v1 v3 I := by
  show gFn 5 (fX9_copy_k0 N n1 n2) [.ref 0, .int v1, .ref 1, .int v3] I = (fX9_copy_k0 N n1 n2) [some (.ref 0), some (.int v1), some (.ref 1), some (.int v3), none] [] I
  exact tt_fn rfl rfl

def hX9_takeRead_0 (N : Nat) (I : gM) : gO := fX9_takeRead_k0 N [some (.ref 0)] [] I
set_option maxRecDepth 100000 in
theorem eX9_takeRead_0 (N : Nat) (I : gM) : hX9_takeRead_0 N I =
  (hV (fX9_copy N 2746 2746 [.ref 0, .int 0, .ref 1, .int 0] (gS (rg 2 2) I)) (rg 2 2) I fun I1 => some (.inl none, (gU (gU I1 0 13 0) 0 16 0))) := by
  show (fX9_takeRead_k0 N) [some (.ref 0)] [] I = _
  unfold fX9_takeRead_k0
  refine tt_aload rfl ?_
  refine tt_getr (q := 2) rfl rfl ?_
  refine tt_const ?_
  refine tt_aload rfl ?_
  refine tt_getr (q := 3) rfl rfl ?_
  refine tt_const ?_
  refine tt_caV (t := []) ⟨Nat.le_of_ble_eq_true rfl, Nat.le_of_ble_eq_true rfl⟩ rfl rfl rfl (fun I1 => ?_)
  refine tt_aload rfl ?_
  refine tt_const ?_
  refine tt_put rfl rfl ?_
  refine tt_aload rfl ?_
  refine tt_const ?_
  refine tt_putz1 rfl rfl (by decide) ?_
  exact rfl
set_option maxRecDepth 100000 in
theorem eX9_takeRead (N : Nat) (I : gM) : fX9_takeRead N [.ref 0] I = hX9_takeRead_0 N I := by
  show gFn 1 (fX9_takeRead_k0 N) [.ref 0] I = (fX9_takeRead_k0 N) [some (.ref 0)] [] I
  exact tt_fn rfl rfl

def hX9_load_0 (N : Nat) (I : gM) : gO := fX9_load_k0 N [some (.ref 0)] [] I
def hX9_load_18 (N : Nat) (s1 : Int32) (I : gM) : gO := fX9_load_k18 N [some (.ref 0)] [.int s1, .ref 0] I
set_option maxRecDepth 100000 in
theorem eX9_load_0 (N : Nat) (I : gM) : hX9_load_0 N I =
  (hI (fX9_parse N [.ref 0] (gS (rg 0 18) (gU I 0 0 0))) (rg 0 18) (gU I 0 0 0) fun x1 I1 => if gz_ge x1 = true then (hX9_load_18 N 0 I1) else (hX9_load_18 N 1 I1)) := by
  show (fX9_load_k0 N) [some (.ref 0)] [] I = _
  unfold fX9_load_k0
  refine tt_aload rfl ?_
  refine tt_const ?_
  refine tt_put rfl rfl ?_
  refine tt_aload rfl ?_
  refine tt_aload rfl ?_
  refine tt_cavI (t := [.ref 0]) ⟨Nat.le_of_ble_eq_true rfl, Nat.le_of_ble_eq_true rfl⟩ rfl rfl rfl (fun x1 I1 => ?_)
  refine tt_if ?_ ?_
  · skip
    refine tt_const ?_
    refine tt_mask rfl ?_
    exact rfl
  · skip
    refine tt_const ?_
    refine tt_mask rfl ?_
    exact rfl
set_option maxRecDepth 100000 in
theorem eX9_load_18 (N : Nat) (s1 : Int32) (I : gM) : hX9_load_18 N s1 I =
  (hI (fX9_fails N [.ref 0, .int s1, .int 1] (gS (rg 0 18) I)) (rg 0 18) I fun x2 I2 => if gz_eq x2 = true then (hV (fX9_takeRead N [.ref 0] (gS (rg 0 18) I2)) (rg 0 18) I2 fun I3 => ck 2746 1 <| some (.inl (some (.int ((I3 3 (Int32.toNatClampNeg 1))))), (gU I3 0 2 0))) else (some (.inl (some (.int 0)), I2))) := by
  show (fX9_load_k18 N) [some (.ref 0)] [.int s1, .ref 0] I = _
  unfold fX9_load_k18
  refine tt_const ?_
  refine tt_cavI (t := []) ⟨Nat.le_of_ble_eq_true rfl, Nat.le_of_ble_eq_true rfl⟩ rfl rfl rfl (fun x2 I2 => ?_)
  refine tt_if ?_ ?_
  · skip
    refine tt_aload rfl ?_
    refine tt_cavV (t := []) ⟨Nat.le_of_ble_eq_true rfl, Nat.le_of_ble_eq_true rfl⟩ rfl rfl rfl (fun I3 => ?_)
    refine tt_aload rfl ?_
    refine tt_const ?_
    refine tt_put rfl rfl ?_
    refine tt_aload rfl ?_
    refine tt_getr (q := 3) rfl rfl ?_
    refine tt_const ?_
    refine tt_ald (x := (I3 3 (Int32.toNatClampNeg 1))) rfl rfl ?_
    exact rfl
  · skip
    refine tt_const ?_
    exact rfl
set_option maxRecDepth 100000 in
theorem eX9_load (N : Nat) (I : gM) : fX9_load N [.ref 0] I = hX9_load_0 N I := by
  show gFn 1 (fX9_load_k0 N) [.ref 0] I = (fX9_load_k0 N) [some (.ref 0)] [] I
  exact tt_fn rfl rfl

def hX9_record_0 (N : Nat) (I : gM) : gO := fX9_record_k0 N [some (.ref 0), none] [] I
def hX9_record_52 (N : Nat) (I : gM) : gO := fX9_record_k52 N [some (.ref 0), none] [] I
def hX9_record_13 (N : Nat) (n13 : Nat) (v1 : Int32) (I : gM) : gO := s_lp (fX9_record_b13 N) n13 [some (.ref 0), some (.int v1)] [] I
set_option maxRecDepth 100000 in
theorem eX9_record_0 (N : Nat) (I : gM) : hX9_record_0 N I =
  (if gc_ne (I 0 13) 6 = true then (hX9_record_52 N I) else (hX9_record_13 N N 2746 I)) := by
  show (fX9_record_k0 N) [some (.ref 0), none] [] I = _
  unfold fX9_record_k0
  refine tt_aload rfl ?_
  refine tt_get (x := (I 0 13)) rfl rfl rfl ?_
  refine tt_const ?_
  refine tt_cmp ?_ ?_
  · skip
    refine tt_mask rfl ?_
    exact rfl
  · skip
    refine tt_const ?_
    refine tt_istore (L2 := [some (.ref 0), some (.int 2746)]) (tt_lt rfl) rfl ?_
    refine tt_mask rfl ?_
    exact rfl
set_option maxRecDepth 100000 in
theorem eX9_record_52 (N : Nat) (I : gM) : hX9_record_52 N I =
  (hV (fX9_copy N 2746 16476 [.ref 0, .int 0, .ref 1, .int ((gb_mul 2746 (I 0 13)))] (gS [3, 6] I)) [3, 6] I fun I1 => some (.inl none, (gU I1 0 13 ((gb_add (I1 0 13) 1))))) := by
  show (fX9_record_k52 N) [some (.ref 0), none] [] I = _
  unfold fX9_record_k52
  refine tt_aload rfl ?_
  refine tt_getr (q := 3) rfl rfl ?_
  refine tt_const ?_
  refine tt_aload rfl ?_
  refine tt_getr (q := 6) rfl rfl ?_
  refine tt_const ?_
  refine tt_aload rfl ?_
  refine tt_get (x := (I 0 13)) rfl rfl rfl ?_
  refine tt_bin ?_
  refine tt_caV (t := []) ⟨Nat.le_of_ble_eq_true rfl, Nat.le_of_ble_eq_true rfl⟩ rfl rfl rfl (fun I1 => ?_)
  refine tt_aload rfl ?_
  refine tt_dup rfl ?_
  refine tt_get (x := (I1 0 13)) rfl rfl rfl ?_
  refine tt_const ?_
  refine tt_bin ?_
  refine tt_put rfl rfl ?_
  exact rfl
set_option maxRecDepth 100000 in
theorem eX9_record_13 (N : Nat) (n13 : Nat) (v1 : Int32) (I : gM) : hX9_record_13 N (n13 + 1) v1 I =
  (if gc_ge v1 16476 = true then (hX9_record_52 N (gU I 0 13 ((gb_sub (I 0 13) 1)))) else (ck 16476 v1 <| ck 16476 (gb_sub v1 2746) <| hX9_record_13 N n13 (v1 + 1) (gU I 6 ((Int32.toNatClampNeg (gb_sub v1 2746))) ((I 6 (Int32.toNatClampNeg v1)))))) := by
  show (fX9_record_b13 N (s_lp (fX9_record_b13 N) n13)) [some (.ref 0), some (.int v1)] [] I = _
  unfold fX9_record_b13
  refine tt_iload rfl ?_
  refine tt_const ?_
  refine tt_cmp ?_ ?_
  · skip
    refine tt_aload rfl ?_
    refine tt_dup rfl ?_
    refine tt_get (x := (I 0 13)) rfl rfl rfl ?_
    refine tt_const ?_
    refine tt_bin ?_
    refine tt_put rfl rfl ?_
    refine tt_mask rfl ?_
    exact rfl
  · skip
    refine tt_aload rfl ?_
    refine tt_getr (q := 6) rfl rfl ?_
    refine tt_iload rfl ?_
    refine tt_const ?_
    refine tt_bin ?_
    refine tt_aload rfl ?_
    refine tt_getr (q := 6) rfl rfl ?_
    refine tt_iload rfl ?_
    refine tt_ald (x := (I 6 (Int32.toNatClampNeg v1))) rfl rfl ?_
    refine tt_ast (v := (I 6 (Int32.toNatClampNeg v1))) rfl rfl ?_
    refine tt_iinc (L2 := [some (.ref 0), some (.int (v1 + 1))]) rfl rfl ?_
    refine tt_mask rfl ?_
    exact rfl
theorem eX9_record_13z (N : Nat) (v1 : Int32) (I : gM) : hX9_record_13 N 0 v1 I = none := (rfl)
set_option maxRecDepth 100000 in
theorem eX9_record (N : Nat) (I : gM) : fX9_record N [.ref 0] I = hX9_record_0 N I := by
  show gFn 2 (fX9_record_k0 N) [.ref 0] I = (fX9_record_k0 N) [some (.ref 0), none] [] I
  exact tt_fn rfl rfl

def hX9_undo_0 (N : Nat) (I : gM) : gO := fX9_undo_k0 N [some (.ref 0)] [] I
def hX9_undo_18 (N : Nat) (s1 : Int32) (I : gM) : gO := fX9_undo_k18 N [some (.ref 0)] [.int s1, .ref 0] I
set_option maxRecDepth 100000 in
theorem eX9_undo_0 (N : Nat) (I : gM) : hX9_undo_0 N I =
  (if gz_le (I 0 13) = true then (hX9_undo_18 N 0 (gU I 0 0 0)) else (hX9_undo_18 N 1 (gU I 0 0 0))) := by
  show (fX9_undo_k0 N) [some (.ref 0)] [] I = _
  unfold fX9_undo_k0
  refine tt_aload rfl ?_
  refine tt_const ?_
  refine tt_put rfl rfl ?_
  refine tt_aload rfl ?_
  refine tt_aload rfl ?_
  refine tt_get (x := (I 0 13)) rfl rfl rfl ?_
  refine tt_if ?_ ?_
  · skip
    refine tt_const ?_
    refine tt_mask rfl ?_
    exact rfl
  · skip
    refine tt_const ?_
    refine tt_mask rfl ?_
    exact rfl
set_option maxRecDepth 100000 in
theorem eX9_undo_18 (N : Nat) (s1 : Int32) (I : gM) : hX9_undo_18 N s1 I =
  (hI (fX9_fails N [.ref 0, .int s1, .int 1] (gS (rg 0 18) I)) (rg 0 18) I fun x1 I1 => if gz_eq x1 = true then (hV (fX9_copy N 16476 2746 [.ref 0, .int ((gb_mul 2746 ((gb_sub (I1 0 13) 1)))), .ref 1, .int 0] (gS [6, 3] (gU I1 0 13 ((gb_sub (I1 0 13) 1))))) [6, 3] (gU I1 0 13 ((gb_sub (I1 0 13) 1))) fun I2 => some (.inl (some (.int (I2 0 13))), I2)) else (some (.inl (some (.int 0)), I1))) := by
  show (fX9_undo_k18 N) [some (.ref 0)] [.int s1, .ref 0] I = _
  unfold fX9_undo_k18
  refine tt_const ?_
  refine tt_cavI (t := []) ⟨Nat.le_of_ble_eq_true rfl, Nat.le_of_ble_eq_true rfl⟩ rfl rfl rfl (fun x1 I1 => ?_)
  refine tt_if ?_ ?_
  · skip
    refine tt_aload rfl ?_
    refine tt_dup rfl ?_
    refine tt_get (x := (I1 0 13)) rfl rfl rfl ?_
    refine tt_const ?_
    refine tt_bin ?_
    refine tt_put rfl rfl ?_
    refine tt_aload rfl ?_
    refine tt_getr (q := 6) rfl rfl ?_
    refine tt_const ?_
    refine tt_aload rfl ?_
    refine tt_get (x := (gb_sub (I1 0 13) 1)) rfl rfl rfl ?_
    refine tt_bin ?_
    refine tt_aload rfl ?_
    refine tt_getr (q := 3) rfl rfl ?_
    refine tt_const ?_
    refine tt_caV (t := []) ⟨Nat.le_of_ble_eq_true rfl, Nat.le_of_ble_eq_true rfl⟩ rfl rfl rfl (fun I2 => ?_)
    refine tt_aload rfl ?_
    refine tt_get (x := (I2 0 13)) rfl rfl rfl ?_
    exact rfl
  · skip
    refine tt_const ?_
    exact rfl
set_option maxRecDepth 100000 in
theorem eX9_undo (N : Nat) (I : gM) : fX9_undo N [.ref 0] I = hX9_undo_0 N I := by
  show gFn 1 (fX9_undo_k0 N) [.ref 0] I = (fX9_undo_k0 N) [some (.ref 0)] [] I
  exact tt_fn rfl rfl

def hX9_undoCount_0 (N : Nat) (I : gM) : gO := fX9_undoCount_k0 N [some (.ref 0)] [] I
set_option maxRecDepth 100000 in
theorem eX9_undoCount_0 (N : Nat) (I : gM) : hX9_undoCount_0 N I =
  (some (.inl (some (.int (I 0 13))), (gU I 0 0 0))) := by
  show (fX9_undoCount_k0 N) [some (.ref 0)] [] I = _
  unfold fX9_undoCount_k0
  refine tt_aload rfl ?_
  refine tt_const ?_
  refine tt_put rfl rfl ?_
  refine tt_aload rfl ?_
  refine tt_get (x := (I 0 13)) rfl rfl rfl ?_
  exact rfl
set_option maxRecDepth 100000 in
theorem eX9_undoCount (N : Nat) (I : gM) : fX9_undoCount N [.ref 0] I = hX9_undoCount_0 N I := by
  show gFn 1 (fX9_undoCount_k0 N) [.ref 0] I = (fX9_undoCount_k0 N) [some (.ref 0)] [] I
  exact tt_fn rfl rfl

def hX9_save_0 (N : Nat) (I : gM) : gO := fX9_save_k0 N [some (.ref 0)] [] I
set_option maxRecDepth 100000 in
theorem eX9_save_0 (N : Nat) (I : gM) : hX9_save_0 N I =
  (hV (fX9_copy N 2746 2746 [.ref 0, .int 0, .ref 1, .int 0] (gS [3, 5] (gU I 0 0 0))) [3, 5] (gU I 0 0 0) fun I1 => ck 2746 7 <| some (.inl (some (.int ((I1 3 (Int32.toNatClampNeg 7))))), (gU I1 0 16 1))) := by
  show (fX9_save_k0 N) [some (.ref 0)] [] I = _
  unfold fX9_save_k0
  refine tt_aload rfl ?_
  refine tt_const ?_
  refine tt_put rfl rfl ?_
  refine tt_aload rfl ?_
  refine tt_getr (q := 3) rfl rfl ?_
  refine tt_const ?_
  refine tt_aload rfl ?_
  refine tt_getr (q := 5) rfl rfl ?_
  refine tt_const ?_
  refine tt_caV (t := []) ⟨Nat.le_of_ble_eq_true rfl, Nat.le_of_ble_eq_true rfl⟩ rfl rfl rfl (fun I1 => ?_)
  refine tt_aload rfl ?_
  refine tt_const ?_
  refine tt_putz1 rfl rfl (by decide) ?_
  refine tt_aload rfl ?_
  refine tt_getr (q := 3) rfl rfl ?_
  refine tt_const ?_
  refine tt_ald (x := (I1 3 (Int32.toNatClampNeg 7))) rfl rfl ?_
  exact rfl
set_option maxRecDepth 100000 in
theorem eX9_save (N : Nat) (I : gM) : fX9_save N [.ref 0] I = hX9_save_0 N I := by
  show gFn 1 (fX9_save_k0 N) [.ref 0] I = (fX9_save_k0 N) [some (.ref 0)] [] I
  exact tt_fn rfl rfl

def hX9_restore_0 (N : Nat) (I : gM) : gO := fX9_restore_k0 N [some (.ref 0)] [] I
set_option maxRecDepth 100000 in
theorem eX9_restore_0 (N : Nat) (I : gM) : hX9_restore_0 N I =
  (hI (fX9_fails N [.ref 0, .int (I 0 16), .int 1] (gS (rg 0 18) (gU I 0 0 0))) (rg 0 18) (gU I 0 0 0) fun x1 I1 => if gz_eq x1 = true then (hV (fX9_copy N 2746 2746 [.ref 0, .int 0, .ref 1, .int 0] (gS [5, 3] I1)) [5, 3] I1 fun I2 => ck 2746 7 <| some (.inl (some (.int ((I2 3 (Int32.toNatClampNeg 7))))), (gU I2 0 13 0))) else (some (.inl (some (.int 0)), I1))) := by
  show (fX9_restore_k0 N) [some (.ref 0)] [] I = _
  unfold fX9_restore_k0
  refine tt_aload rfl ?_
  refine tt_const ?_
  refine tt_put rfl rfl ?_
  refine tt_aload rfl ?_
  refine tt_aload rfl ?_
  refine tt_get (x := (I 0 16)) rfl rfl rfl ?_
  refine tt_const ?_
  refine tt_cavI (t := []) ⟨Nat.le_of_ble_eq_true rfl, Nat.le_of_ble_eq_true rfl⟩ rfl rfl rfl (fun x1 I1 => ?_)
  refine tt_if ?_ ?_
  · skip
    refine tt_aload rfl ?_
    refine tt_getr (q := 5) rfl rfl ?_
    refine tt_const ?_
    refine tt_aload rfl ?_
    refine tt_getr (q := 3) rfl rfl ?_
    refine tt_const ?_
    refine tt_caV (t := []) ⟨Nat.le_of_ble_eq_true rfl, Nat.le_of_ble_eq_true rfl⟩ rfl rfl rfl (fun I2 => ?_)
    refine tt_aload rfl ?_
    refine tt_const ?_
    refine tt_put rfl rfl ?_
    refine tt_aload rfl ?_
    refine tt_getr (q := 3) rfl rfl ?_
    refine tt_const ?_
    refine tt_ald (x := (I2 3 (Int32.toNatClampNeg 7))) rfl rfl ?_
    exact rfl
  · skip
    refine tt_const ?_
    exact rfl
set_option maxRecDepth 100000 in
theorem eX9_restore (N : Nat) (I : gM) : fX9_restore N [.ref 0] I = hX9_restore_0 N I := by
  show gFn 1 (fX9_restore_k0 N) [.ref 0] I = (fX9_restore_k0 N) [some (.ref 0)] [] I
  exact tt_fn rfl rfl

def hX9_linkPart_0 (N : Nat) (v1 : Int32) (v2 : Int32) (I : gM) : gO := fX9_linkPart_k0 N [some (.ref 0), some (.int v1), some (.int v2)] [] I
set_option maxRecDepth 100000 in
theorem eX9_linkPart_0 (N : Nat) (v1 : Int32) (v2 : Int32) (I : gM) : hX9_linkPart_0 N v1 v2 I =
  (ck 2746 ((gb_add ((gb_add 9 (gb_mul 4 v1))) v2)) <| some (.inl (some (.int ((I 3 ((Int32.toNatClampNeg ((gb_add ((gb_add 9 (gb_mul 4 v1))) v2)))))))), I)) := by
  show (fX9_linkPart_k0 N) [some (.ref 0), some (.int v1), some (.int v2)] [] I = _
  unfold fX9_linkPart_k0
  refine tt_aload rfl ?_
  refine tt_getr (q := 3) rfl rfl ?_
  refine tt_const ?_
  refine tt_const ?_
  refine tt_iload rfl ?_
  refine tt_bin ?_
  refine tt_bin ?_
  refine tt_iload rfl ?_
  refine tt_bin ?_
  refine tt_ald (x := (I 3 ((Int32.toNatClampNeg ((gb_add ((gb_add 9 (gb_mul 4 v1))) v2)))))) rfl rfl ?_
  exact rfl
set_option maxRecDepth 100000 in
theorem eX9_linkPart (N : Nat) (v1 : Int32) (v2 : Int32) (I : gM) : fX9_linkPart N [.ref 0, .int v1, .int v2] I = hX9_linkPart_0 N v1 v2 I := by
  show gFn 3 (fX9_linkPart_k0 N) [.ref 0, .int v1, .int v2] I = (fX9_linkPart_k0 N) [some (.ref 0), some (.int v1), some (.int v2)] [] I
  exact tt_fn rfl rfl

def hX9_flowPart_0 (N : Nat) (v1 : Int32) (v2 : Int32) (I : gM) : gO := fX9_flowPart_k0 N [some (.ref 0), some (.int v1), some (.int v2)] [] I
set_option maxRecDepth 100000 in
theorem eX9_flowPart_0 (N : Nat) (v1 : Int32) (v2 : Int32) (I : gM) : hX9_flowPart_0 N v1 v2 I =
  (ck 2746 ((gb_add ((gb_add 65 (gb_mul 11 v1))) v2)) <| some (.inl (some (.int ((I 3 ((Int32.toNatClampNeg ((gb_add ((gb_add 65 (gb_mul 11 v1))) v2)))))))), I)) := by
  show (fX9_flowPart_k0 N) [some (.ref 0), some (.int v1), some (.int v2)] [] I = _
  unfold fX9_flowPart_k0
  refine tt_aload rfl ?_
  refine tt_getr (q := 3) rfl rfl ?_
  refine tt_const ?_
  refine tt_const ?_
  refine tt_iload rfl ?_
  refine tt_bin ?_
  refine tt_bin ?_
  refine tt_iload rfl ?_
  refine tt_bin ?_
  refine tt_ald (x := (I 3 ((Int32.toNatClampNeg ((gb_add ((gb_add 65 (gb_mul 11 v1))) v2)))))) rfl rfl ?_
  exact rfl
set_option maxRecDepth 100000 in
theorem eX9_flowPart (N : Nat) (v1 : Int32) (v2 : Int32) (I : gM) : fX9_flowPart N [.ref 0, .int v1, .int v2] I = hX9_flowPart_0 N v1 v2 I := by
  show gFn 3 (fX9_flowPart_k0 N) [.ref 0, .int v1, .int v2] I = (fX9_flowPart_k0 N) [some (.ref 0), some (.int v1), some (.int v2)] [] I
  exact tt_fn rfl rfl

def hX9_count_0 (N : Nat) (v1 : Int32) (v2 : Int32) (v3 : Int32) (I : gM) : gO := fX9_count_k0 N [some (.ref 0), some (.int v1), some (.int v2), some (.int v3)] [] I
set_option maxRecDepth 100000 in
theorem eX9_count_0 (N : Nat) (v1 : Int32) (v2 : Int32) (v3 : Int32) (I : gM) : hX9_count_0 N v1 v2 v3 I =
  (ck 2746 ((gb_add ((gb_add 65 (gb_mul 11 v1))) v2)) <| ck 2746 ((gb_add ((gb_add 65 (gb_mul 11 v1))) v2)) <| some (.inl none, (gU I 3 ((Int32.toNatClampNeg ((gb_add ((gb_add 65 (gb_mul 11 v1))) v2)))) ((gb_add ((I 3 ((Int32.toNatClampNeg ((gb_add ((gb_add 65 (gb_mul 11 v1))) v2)))))) v3))))) := by
  show (fX9_count_k0 N) [some (.ref 0), some (.int v1), some (.int v2), some (.int v3)] [] I = _
  unfold fX9_count_k0
  refine tt_aload rfl ?_
  refine tt_getr (q := 3) rfl rfl ?_
  refine tt_const ?_
  refine tt_const ?_
  refine tt_iload rfl ?_
  refine tt_bin ?_
  refine tt_bin ?_
  refine tt_iload rfl ?_
  refine tt_bin ?_
  refine tt_dup2 rfl rfl ?_
  refine tt_ald (x := (I 3 ((Int32.toNatClampNeg ((gb_add ((gb_add 65 (gb_mul 11 v1))) v2)))))) rfl rfl ?_
  refine tt_iload rfl ?_
  refine tt_bin ?_
  refine tt_ast (v := (gb_add ((I 3 ((Int32.toNatClampNeg ((gb_add ((gb_add 65 (gb_mul 11 v1))) v2)))))) v3)) rfl rfl ?_
  exact rfl
set_option maxRecDepth 100000 in
theorem eX9_count (N : Nat) (v1 : Int32) (v2 : Int32) (v3 : Int32) (I : gM) : fX9_count N [.ref 0, .int v1, .int v2, .int v3] I = hX9_count_0 N v1 v2 v3 I := by
  show gFn 4 (fX9_count_k0 N) [.ref 0, .int v1, .int v2, .int v3] I = (fX9_count_k0 N) [some (.ref 0), some (.int v1), some (.int v2), some (.int v3)] [] I
  exact tt_fn rfl rfl

def hX9_packetPart_0 (N : Nat) (v1 : Int32) (v2 : Int32) (I : gM) : gO := fX9_packetPart_k0 N [some (.ref 0), some (.int v1), some (.int v2)] [] I
set_option maxRecDepth 100000 in
theorem eX9_packetPart_0 (N : Nat) (v1 : Int32) (v2 : Int32) (I : gM) : hX9_packetPart_0 N v1 v2 I =
  (ck 2746 ((gb_add ((gb_add 246 (gb_mul 5 v1))) v2)) <| some (.inl (some (.int ((I 3 ((Int32.toNatClampNeg ((gb_add ((gb_add 246 (gb_mul 5 v1))) v2)))))))), I)) := by
  show (fX9_packetPart_k0 N) [some (.ref 0), some (.int v1), some (.int v2)] [] I = _
  unfold fX9_packetPart_k0
  refine tt_aload rfl ?_
  refine tt_getr (q := 3) rfl rfl ?_
  refine tt_const ?_
  refine tt_const ?_
  refine tt_iload rfl ?_
  refine tt_bin ?_
  refine tt_bin ?_
  refine tt_iload rfl ?_
  refine tt_bin ?_
  refine tt_ald (x := (I 3 ((Int32.toNatClampNeg ((gb_add ((gb_add 246 (gb_mul 5 v1))) v2)))))) rfl rfl ?_
  exact rfl
set_option maxRecDepth 100000 in
theorem eX9_packetPart (N : Nat) (v1 : Int32) (v2 : Int32) (I : gM) : fX9_packetPart N [.ref 0, .int v1, .int v2] I = hX9_packetPart_0 N v1 v2 I := by
  show gFn 3 (fX9_packetPart_k0 N) [.ref 0, .int v1, .int v2] I = (fX9_packetPart_k0 N) [some (.ref 0), some (.int v1), some (.int v2)] [] I
  exact tt_fn rfl rfl

def hX9_goalOf_0 (N : Nat) (v1 : Int32) (I : gM) : gO := fX9_goalOf_k0 N [some (.ref 0), some (.int v1)] [] I
set_option maxRecDepth 100000 in
theorem eX9_goalOf_0 (N : Nat) (v1 : Int32) (I : gM) : hX9_goalOf_0 N v1 I =
  (hI (fX9_packetPart N [.ref 0, .int v1, .int 0] (gS (rg 0 18) I)) (rg 0 18) I fun x1 I1 => hI (fX9_flowPart N [.ref 0, .int x1, .int 1] (gS (rg 0 18) I1)) (rg 0 18) I1 fun x2 I2 => some (.inl (some (.int x2)), I2)) := by
  show (fX9_goalOf_k0 N) [some (.ref 0), some (.int v1)] [] I = _
  unfold fX9_goalOf_k0
  refine tt_aload rfl ?_
  refine tt_aload rfl ?_
  refine tt_iload rfl ?_
  refine tt_const ?_
  refine tt_cavI (t := [.ref 0]) ⟨Nat.le_of_ble_eq_true rfl, Nat.le_of_ble_eq_true rfl⟩ rfl rfl rfl (fun x1 I1 => ?_)
  refine tt_const ?_
  refine tt_cavI (t := []) ⟨Nat.le_of_ble_eq_true rfl, Nat.le_of_ble_eq_true rfl⟩ rfl rfl rfl (fun x2 I2 => ?_)
  exact rfl
set_option maxRecDepth 100000 in
theorem eX9_goalOf (N : Nat) (v1 : Int32) (I : gM) : fX9_goalOf N [.ref 0, .int v1] I = hX9_goalOf_0 N v1 I := by
  show gFn 2 (fX9_goalOf_k0 N) [.ref 0, .int v1] I = (fX9_goalOf_k0 N) [some (.ref 0), some (.int v1)] [] I
  exact tt_fn rfl rfl

def hX9_isQueued_0 (N : Nat) (v1 : Int32) (v2 : Int32) (v3 : Int32) (I : gM) : gO := fX9_isQueued_k0 N [some (.ref 0), some (.int v1), some (.int v2), some (.int v3)] [] I
set_option maxRecDepth 100000 in
theorem eX9_isQueued_0 (N : Nat) (v1 : Int32) (v2 : Int32) (v3 : Int32) (I : gM) : hX9_isQueued_0 N v1 v2 v3 I =
  (hI (fX9_packetPart N [.ref 0, .int v1, .int 4] (gS (rg 0 18) I)) (rg 0 18) I fun x1 I1 => if gc_ne x1 v2 = true then (some (.inl (some (.int 0)), I1)) else (hI (fX9_goalOf N [.ref 0, .int v1] (gS (rg 0 18) I1)) (rg 0 18) I1 fun x2 I2 => if gc_ne x2 v3 = true then (some (.inl (some (.int 0)), I2)) else (some (.inl (some (.int 1)), I2)))) := by
  show (fX9_isQueued_k0 N) [some (.ref 0), some (.int v1), some (.int v2), some (.int v3)] [] I = _
  unfold fX9_isQueued_k0
  refine tt_aload rfl ?_
  refine tt_iload rfl ?_
  refine tt_const ?_
  refine tt_cavI (t := []) ⟨Nat.le_of_ble_eq_true rfl, Nat.le_of_ble_eq_true rfl⟩ rfl rfl rfl (fun x1 I1 => ?_)
  refine tt_iload rfl ?_
  refine tt_cmp ?_ ?_
  · skip
    refine tt_const ?_
    exact tt_zret (by decide)
  · skip
    refine tt_aload rfl ?_
    refine tt_iload rfl ?_
    refine tt_cavI (t := []) ⟨Nat.le_of_ble_eq_true rfl, Nat.le_of_ble_eq_true rfl⟩ rfl rfl rfl (fun x2 I2 => ?_)
    refine tt_iload rfl ?_
    refine tt_cmp ?_ ?_
    · skip
      refine tt_const ?_
      exact tt_zret (by decide)
    · skip
      refine tt_const ?_
      exact tt_zret (by decide)
set_option maxRecDepth 100000 in
theorem eX9_isQueued (N : Nat) (v1 : Int32) (v2 : Int32) (v3 : Int32) (I : gM) : fX9_isQueued N [.ref 0, .int v1, .int v2, .int v3] I = hX9_isQueued_0 N v1 v2 v3 I := by
  show gFn 4 (fX9_isQueued_k0 N) [.ref 0, .int v1, .int v2, .int v3] I = (fX9_isQueued_k0 N) [some (.ref 0), some (.int v1), some (.int v2), some (.int v3)] [] I
  exact tt_fn rfl rfl

