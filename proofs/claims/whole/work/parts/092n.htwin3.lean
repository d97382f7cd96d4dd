def hX9_isFlow_0 (N : Nat) (v1 : Int32) (I : gM) : gO := fX9_isFlow_k0 N [some (.ref 0), some (.int v1)] [] I
set_option maxRecDepth 100000 in
theorem eX9_isFlow_0 (N : Nat) (v1 : Int32) (I : gM) : hX9_isFlow_0 N v1 I =
  (ck 2746 2 <| hI (fX9_in N [.long ((v1).toInt64), .long 0, .long (((gb_sub ((I 3 (Int32.toNatClampNeg 2))) 1)).toInt64)] (gS [] I)) [] I fun x1 I1 => if x1 = 0 ∨ x1 = 1 then some (.inl (some (.int x1)), I1) else none) := by
  show (fX9_isFlow_k0 N) [some (.ref 0), some (.int v1)] [] I = _
  unfold fX9_isFlow_k0
  refine tt_iload rfl ?_
  refine tt_i2l ?_
  refine tt_lconst ?_
  refine tt_aload rfl ?_
  refine tt_getr (q := 3) rfl rfl ?_
  refine tt_const ?_
  refine tt_ald (x := (I 3 (Int32.toNatClampNeg 2))) rfl rfl ?_
  refine tt_const ?_
  refine tt_bin ?_
  refine tt_i2l ?_
  refine tt_caI (t := []) ⟨Nat.le_of_ble_eq_true rfl, Nat.le_of_ble_eq_true rfl⟩ rfl rfl rfl (fun x1 I1 => ?_)
  exact rfl
set_option maxRecDepth 100000 in
theorem eX9_isFlow (N : Nat) (v1 : Int32) (I : gM) : fX9_isFlow N [.ref 0, .int v1] I = hX9_isFlow_0 N v1 I := by
  show gFn 2 (fX9_isFlow_k0 N) [.ref 0, .int v1] I = (fX9_isFlow_k0 N) [some (.ref 0), some (.int v1)] [] I
  exact tt_fn rfl rfl

def hX9_areNodes_0 (N : Nat) (v1 : Int32) (v2 : Int32) (I : gM) : gO := fX9_areNodes_k0 N [some (.ref 0), some (.int v1), some (.int v2)] [] I
set_option maxRecDepth 100000 in
theorem eX9_areNodes_0 (N : Nat) (v1 : Int32) (v2 : Int32) (I : gM) : hX9_areNodes_0 N v1 v2 I =
  (hI (fX9_isNode N [.ref 0, .int v1] (gS (rg 0 18) I)) (rg 0 18) I fun x1 I1 => if gz_eq x1 = true then (some (.inl (some (.int 0)), I1)) else (hI (fX9_isNode N [.ref 0, .int v2] (gS (rg 0 18) I1)) (rg 0 18) I1 fun x2 I2 => if gz_eq x2 = true then (some (.inl (some (.int 0)), I2)) else (some (.inl (some (.int 1)), I2)))) := by
  show (fX9_areNodes_k0 N) [some (.ref 0), some (.int v1), some (.int v2)] [] I = _
  unfold fX9_areNodes_k0
  refine tt_aload rfl ?_
  refine tt_iload rfl ?_
  refine tt_cavI (t := []) ⟨Nat.le_of_ble_eq_true rfl, Nat.le_of_ble_eq_true rfl⟩ rfl rfl rfl (fun x1 I1 => ?_)
  refine tt_if ?_ ?_
  · skip
    refine tt_const ?_
    exact tt_zret (by decide)
  · skip
    refine tt_aload rfl ?_
    refine tt_iload rfl ?_
    refine tt_cavI (t := []) ⟨Nat.le_of_ble_eq_true rfl, Nat.le_of_ble_eq_true rfl⟩ rfl rfl rfl (fun x2 I2 => ?_)
    refine tt_if ?_ ?_
    · skip
      refine tt_const ?_
      exact tt_zret (by decide)
    · skip
      refine tt_const ?_
      exact tt_zret (by decide)
set_option maxRecDepth 100000 in
theorem eX9_areNodes (N : Nat) (v1 : Int32) (v2 : Int32) (I : gM) : fX9_areNodes N [.ref 0, .int v1, .int v2] I = hX9_areNodes_0 N v1 v2 I := by
  show gFn 3 (fX9_areNodes_k0 N) [.ref 0, .int v1, .int v2] I = (fX9_areNodes_k0 N) [some (.ref 0), some (.int v1), some (.int v2)] [] I
  exact tt_fn rfl rfl

def hX9_addLink_0 (N : Nat) (v1 : Int32) (v2 : Int32) (v3 : Int32) (I : gM) : gO := fX9_addLink_k0 N [some (.ref 0), some (.int v1), some (.int v2), some (.int v3)] [] I
def hX9_addLink_41 (N : Nat) (v1 : Int32) (v2 : Int32) (v3 : Int32) (I : gM) : gO := fX9_addLink_k41 N [some (.ref 0), some (.int v1), some (.int v2), some (.int v3)] [.ref 0] I
def hX9_addLink_34 (N : Nat) (v1 : Int32) (v2 : Int32) (v3 : Int32) (s1 : Int32) (I : gM) : gO := fX9_addLink_k34 N [some (.ref 0), some (.int v1), some (.int v2), some (.int v3)] [.int s1, .ref 0] I
def hX9_addLink_42 (N : Nat) (v1 : Int32) (v2 : Int32) (v3 : Int32) (s1 : Int32) (I : gM) : gO := fX9_addLink_k42 N [some (.ref 0), some (.int v1), some (.int v2), some (.int v3)] [.int s1, .ref 0] I
def hX9_addLink_80 (N : Nat) (v1 : Int32) (v2 : Int32) (v3 : Int32) (I : gM) : gO := fX9_addLink_k80 N [some (.ref 0), some (.int v1), some (.int v2), some (.int v3)] [.ref 0] I
def hX9_addLink_81 (N : Nat) (v1 : Int32) (v2 : Int32) (v3 : Int32) (s1 : Int32) (I : gM) : gO := fX9_addLink_k81 N [some (.ref 0), some (.int v1), some (.int v2), some (.int v3)] [.int s1, .ref 0] I
def hX9_addLink_104 (N : Nat) (I : gM) : gO := fX9_addLink_k104 N [some (.ref 0), none, none, none] [] I
set_option maxRecDepth 100000 in
theorem eX9_addLink_0 (N : Nat) (v1 : Int32) (v2 : Int32) (v3 : Int32) (I : gM) : hX9_addLink_0 N v1 v2 v3 I =
  (hI (fX9_areNodes N [.ref 0, .int v1, .int v2] (gS (rg 0 18) (gU I 0 0 0))) (rg 0 18) (gU I 0 0 0) fun x1 I1 => hI (fX9_fails N [.ref 0, .int x1, .int 1] (gS (rg 0 18) I1)) (rg 0 18) I1 fun x2 I2 => if gz_ne x2 = true then (some (.inl (some (.int 0)), I2)) else (if gc_eq v1 v2 = true then (hX9_addLink_41 N v1 v2 v3 I2) else (hI (fX9_in N [.long ((v3).toInt64), .long 1, .long 5] (gS [] I2)) [] I2 fun x3 I3 => hX9_addLink_34 N v1 v2 v3 x3 I3))) := by
  show (fX9_addLink_k0 N) [some (.ref 0), some (.int v1), some (.int v2), some (.int v3)] [] I = _
  unfold fX9_addLink_k0
  refine tt_aload rfl ?_
  refine tt_const ?_
  refine tt_put rfl rfl ?_
  refine tt_aload rfl ?_
  refine tt_aload rfl ?_
  refine tt_iload rfl ?_
  refine tt_iload rfl ?_
  refine tt_cavI (t := [.ref 0]) ⟨Nat.le_of_ble_eq_true rfl, Nat.le_of_ble_eq_true rfl⟩ rfl rfl rfl (fun x1 I1 => ?_)
  refine tt_const ?_
  refine tt_cavI (t := []) ⟨Nat.le_of_ble_eq_true rfl, Nat.le_of_ble_eq_true rfl⟩ rfl rfl rfl (fun x2 I2 => ?_)
  refine tt_if ?_ ?_
  · skip
    refine tt_const ?_
    exact rfl
  · skip
    refine tt_aload rfl ?_
    refine tt_iload rfl ?_
    refine tt_iload rfl ?_
    refine tt_cmp ?_ ?_
    · skip
      refine tt_mask rfl ?_
      exact rfl
    · skip
      refine tt_iload rfl ?_
      refine tt_i2l ?_
      refine tt_lconst ?_
      refine tt_lconst ?_
      refine tt_caI (t := [.ref 0]) ⟨Nat.le_of_ble_eq_true rfl, Nat.le_of_ble_eq_true rfl⟩ rfl rfl rfl (fun x3 I3 => ?_)
      refine tt_mask rfl ?_
      exact rfl
set_option maxRecDepth 100000 in
theorem eX9_addLink_41 (N : Nat) (v1 : Int32) (v2 : Int32) (v3 : Int32) (I : gM) : hX9_addLink_41 N v1 v2 v3 I =
  (hX9_addLink_42 N v1 v2 v3 0 I) := by
  show (fX9_addLink_k41 N) [some (.ref 0), some (.int v1), some (.int v2), some (.int v3)] [.ref 0] I = _
  unfold fX9_addLink_k41
  refine tt_const ?_
  refine tt_mask rfl ?_
  exact rfl
set_option maxRecDepth 100000 in
theorem eX9_addLink_34 (N : Nat) (v1 : Int32) (v2 : Int32) (v3 : Int32) (s1 : Int32) (I : gM) : hX9_addLink_34 N v1 v2 v3 s1 I =
  (if gz_eq s1 = true then (hX9_addLink_41 N v1 v2 v3 I) else (hX9_addLink_42 N v1 v2 v3 1 I)) := by
  show (fX9_addLink_k34 N) [some (.ref 0), some (.int v1), some (.int v2), some (.int v3)] [.int s1, .ref 0] I = _
  unfold fX9_addLink_k34
  refine tt_if ?_ ?_
  · skip
    refine tt_mask rfl ?_
    exact rfl
  · skip
    refine tt_const ?_
    refine tt_mask rfl ?_
    exact rfl
set_option maxRecDepth 100000 in
theorem eX9_addLink_42 (N : Nat) (v1 : Int32) (v2 : Int32) (v3 : Int32) (s1 : Int32) (I : gM) : hX9_addLink_42 N v1 v2 v3 s1 I =
  (hI (fX9_fails N [.ref 0, .int s1, .int 2] (gS (rg 0 18) I)) (rg 0 18) I fun x4 I4 => if gz_eq x4 = true then (hI (fX9_linkIn N [.ref 0, .int v1, .int v2] (gS [3] I4)) [3] I4 fun x5 I5 => if gc_ne x5 (-1) = true then (hX9_addLink_80 N v1 v2 v3 I5) else (ck 2746 1 <| if gc_ge ((I5 3 (Int32.toNatClampNeg 1))) 14 = true then (hX9_addLink_80 N v1 v2 v3 I5) else (hX9_addLink_81 N v1 v2 v3 1 I5))) else (some (.inl (some (.int 0)), I4))) := by
  show (fX9_addLink_k42 N) [some (.ref 0), some (.int v1), some (.int v2), some (.int v3)] [.int s1, .ref 0] I = _
  unfold fX9_addLink_k42
  refine tt_const ?_
  refine tt_cavI (t := []) ⟨Nat.le_of_ble_eq_true rfl, Nat.le_of_ble_eq_true rfl⟩ rfl rfl rfl (fun x4 I4 => ?_)
  refine tt_if ?_ ?_
  · skip
    refine tt_aload rfl ?_
    refine tt_aload rfl ?_
    refine tt_getr (q := 3) rfl rfl ?_
    refine tt_iload rfl ?_
    refine tt_iload rfl ?_
    refine tt_caI (t := [.ref 0]) ⟨Nat.le_of_ble_eq_true rfl, Nat.le_of_ble_eq_true rfl⟩ rfl rfl rfl (fun x5 I5 => ?_)
    refine tt_const ?_
    refine tt_cmp ?_ ?_
    · skip
      refine tt_mask rfl ?_
      exact rfl
    · skip
      refine tt_aload rfl ?_
      refine tt_getr (q := 3) rfl rfl ?_
      refine tt_const ?_
      refine tt_ald (x := (I5 3 (Int32.toNatClampNeg 1))) rfl rfl ?_
      refine tt_const ?_
      refine tt_cmp ?_ ?_
      · skip
        refine tt_mask rfl ?_
        exact rfl
      · skip
        refine tt_const ?_
        refine tt_mask rfl ?_
        exact rfl
  · skip
    refine tt_const ?_
    exact rfl
set_option maxRecDepth 100000 in
theorem eX9_addLink_80 (N : Nat) (v1 : Int32) (v2 : Int32) (v3 : Int32) (I : gM) : hX9_addLink_80 N v1 v2 v3 I =
  (hX9_addLink_81 N v1 v2 v3 0 I) := by
  show (fX9_addLink_k80 N) [some (.ref 0), some (.int v1), some (.int v2), some (.int v3)] [.ref 0] I = _
  unfold fX9_addLink_k80
  refine tt_const ?_
  refine tt_mask rfl ?_
  exact rfl
set_option maxRecDepth 100000 in
theorem eX9_addLink_81 (N : Nat) (v1 : Int32) (v2 : Int32) (v3 : Int32) (s1 : Int32) (I : gM) : hX9_addLink_81 N v1 v2 v3 s1 I =
  (hI (fX9_fails N [.ref 0, .int s1, .int 3] (gS (rg 0 18) I)) (rg 0 18) I fun x6 I6 => if gz_eq x6 = true then (hV (fX9_record N [.ref 0] (gS (rg 0 18) I6)) (rg 0 18) I6 fun I7 => hV (fX9_layLink N [.ref 0, .int v1, .int v2, .int v3] (gS [3] I7)) [3] I7 fun I8 => hX9_addLink_104 N I8) else (some (.inl (some (.int 0)), I6))) := by
  show (fX9_addLink_k81 N) [some (.ref 0), some (.int v1), some (.int v2), some (.int v3)] [.int s1, .ref 0] I = _
  unfold fX9_addLink_k81
  refine tt_const ?_
  refine tt_cavI (t := []) ⟨Nat.le_of_ble_eq_true rfl, Nat.le_of_ble_eq_true rfl⟩ rfl rfl rfl (fun x6 I6 => ?_)
  refine tt_if ?_ ?_
  · skip
    refine tt_aload rfl ?_
    refine tt_cavV (t := []) ⟨Nat.le_of_ble_eq_true rfl, Nat.le_of_ble_eq_true rfl⟩ rfl rfl rfl (fun I7 => ?_)
    refine tt_aload rfl ?_
    refine tt_getr (q := 3) rfl rfl ?_
    refine tt_iload rfl ?_
    refine tt_iload rfl ?_
    refine tt_iload rfl ?_
    refine tt_caV (t := []) ⟨Nat.le_of_ble_eq_true rfl, Nat.le_of_ble_eq_true rfl⟩ rfl rfl rfl (fun I8 => ?_)
    refine tt_mask rfl ?_
    exact rfl
  · skip
    refine tt_const ?_
    exact rfl
set_option maxRecDepth 100000 in
theorem eX9_addLink_104 (N : Nat) (I : gM) : hX9_addLink_104 N I =
  (ck 2746 1 <| some (.inl (some (.int ((gb_sub ((I 3 (Int32.toNatClampNeg 1))) 1)))), I)) := by
  show (fX9_addLink_k104 N) [some (.ref 0), none, none, none] [] I = _
  unfold fX9_addLink_k104
  refine tt_aload rfl ?_
  refine tt_getr (q := 3) rfl rfl ?_
  refine tt_const ?_
  refine tt_ald (x := (I 3 (Int32.toNatClampNeg 1))) rfl rfl ?_
  refine tt_const ?_
  refine tt_bin ?_
  exact rfl
set_option maxRecDepth 100000 in
theorem eX9_addLink (N : Nat) (v1 : Int32) (v2 : Int32) (v3 : Int32) (I : gM) : fX9_addLink N [.ref 0, .int v1, .int v2, .int v3] I = hX9_addLink_0 N v1 v2 v3 I := by
  show gFn 4 (fX9_addLink_k0 N) [.ref 0, .int v1, .int v2, .int v3] I = (fX9_addLink_k0 N) [some (.ref 0), some (.int v1), some (.int v2), some (.int v3)] [] I
  exact tt_fn rfl rfl

def hX9_become_0 (N : Nat) (v1 : Int32) (v2 : Int32) (I : gM) : gO := fX9_become_k0 N [some (.ref 0), some (.int v1), some (.int v2), none] [] I
set_option maxRecDepth 100000 in
theorem eX9_become_0 (N : Nat) (v1 : Int32) (v2 : Int32) (I : gM) : hX9_become_0 N v1 v2 I =
  (hV (fX9_record N [.ref 0] (gS (rg 0 18) I)) (rg 0 18) I fun I1 => ck 2746 v1 <| ck 2746 v1 <| some (.inl (some (.int ((I1 3 (Int32.toNatClampNeg v1))))), (gU I1 3 (Int32.toNatClampNeg v1) v2))) := by
  show (fX9_become_k0 N) [some (.ref 0), some (.int v1), some (.int v2), none] [] I = _
  unfold fX9_become_k0
  refine tt_aload rfl ?_
  refine tt_cavV (t := []) ⟨Nat.le_of_ble_eq_true rfl, Nat.le_of_ble_eq_true rfl⟩ rfl rfl rfl (fun I1 => ?_)
  refine tt_aload rfl ?_
  refine tt_getr (q := 3) rfl rfl ?_
  refine tt_iload rfl ?_
  refine tt_ald (x := (I1 3 (Int32.toNatClampNeg v1))) rfl rfl ?_
  refine tt_istore (L2 := [some (.ref 0), some (.int v1), some (.int v2), some (.int ((I1 3 (Int32.toNatClampNeg v1))))]) (tt_lt rfl) rfl ?_
  refine tt_aload rfl ?_
  refine tt_getr (q := 3) rfl rfl ?_
  refine tt_iload rfl ?_
  refine tt_iload rfl ?_
  refine tt_ast (v := v2) rfl rfl ?_
  refine tt_iload rfl ?_
  exact rfl
set_option maxRecDepth 100000 in
theorem eX9_become (N : Nat) (v1 : Int32) (v2 : Int32) (I : gM) : fX9_become N [.ref 0, .int v1, .int v2] I = hX9_become_0 N v1 v2 I := by
  show gFn 4 (fX9_become_k0 N) [.ref 0, .int v1, .int v2] I = (fX9_become_k0 N) [some (.ref 0), some (.int v1), some (.int v2), none] [] I
  exact tt_fn rfl rfl

def hX9_setCapacity_0 (N : Nat) (v1 : Int32) (v2 : Int32) (I : gM) : gO := fX9_setCapacity_k0 N [some (.ref 0), some (.int v1), some (.int v2)] [] I
def hX9_setCapacity_28 (N : Nat) (v1 : Int32) (v2 : Int32) (s1 : Int32) (I : gM) : gO := fX9_setCapacity_k28 N [some (.ref 0), some (.int v1), some (.int v2)] [.int s1, .ref 0] I
set_option maxRecDepth 100000 in
theorem eX9_setCapacity_0 (N : Nat) (v1 : Int32) (v2 : Int32) (I : gM) : hX9_setCapacity_0 N v1 v2 I =
  (hI (fX9_isLink N [.ref 0, .int v1] (gS (rg 0 18) (gU I 0 0 0))) (rg 0 18) (gU I 0 0 0) fun x1 I1 => hI (fX9_fails N [.ref 0, .int x1, .int 1] (gS (rg 0 18) I1)) (rg 0 18) I1 fun x2 I2 => if gz_ne x2 = true then (some (.inl (some (.int 0)), I2)) else (hI (fX9_in N [.long ((v2).toInt64), .long 1, .long 5] (gS [] I2)) [] I2 fun x3 I3 => hX9_setCapacity_28 N v1 v2 x3 I3)) := by
  show (fX9_setCapacity_k0 N) [some (.ref 0), some (.int v1), some (.int v2)] [] I = _
  unfold fX9_setCapacity_k0
  refine tt_aload rfl ?_
  refine tt_const ?_
  refine tt_put rfl rfl ?_
  refine tt_aload rfl ?_
  refine tt_aload rfl ?_
  refine tt_iload rfl ?_
  refine tt_cavI (t := [.ref 0]) ⟨Nat.le_of_ble_eq_true rfl, Nat.le_of_ble_eq_true rfl⟩ rfl rfl rfl (fun x1 I1 => ?_)
  refine tt_const ?_
  refine tt_cavI (t := []) ⟨Nat.le_of_ble_eq_true rfl, Nat.le_of_ble_eq_true rfl⟩ rfl rfl rfl (fun x2 I2 => ?_)
  refine tt_if ?_ ?_
  · skip
    refine tt_const ?_
    exact rfl
  · skip
    refine tt_aload rfl ?_
    refine tt_iload rfl ?_
    refine tt_i2l ?_
    refine tt_lconst ?_
    refine tt_lconst ?_
    refine tt_caI (t := [.ref 0]) ⟨Nat.le_of_ble_eq_true rfl, Nat.le_of_ble_eq_true rfl⟩ rfl rfl rfl (fun x3 I3 => ?_)
    refine tt_mask rfl ?_
    exact rfl
set_option maxRecDepth 100000 in
theorem eX9_setCapacity_28 (N : Nat) (v1 : Int32) (v2 : Int32) (s1 : Int32) (I : gM) : hX9_setCapacity_28 N v1 v2 s1 I =
  (hI (fX9_fails N [.ref 0, .int s1, .int 2] (gS (rg 0 18) I)) (rg 0 18) I fun x4 I4 => if gz_eq x4 = true then (hI (fX9_become N [.ref 0, .int ((gb_add ((gb_add 9 (gb_mul 4 v1))) 2)), .int v2] (gS (rg 0 18) I4)) (rg 0 18) I4 fun x5 I5 => some (.inl (some (.int x5)), I5)) else (some (.inl (some (.int 0)), I4))) := by
  show (fX9_setCapacity_k28 N) [some (.ref 0), some (.int v1), some (.int v2)] [.int s1, .ref 0] I = _
  unfold fX9_setCapacity_k28
  refine tt_const ?_
  refine tt_cavI (t := []) ⟨Nat.le_of_ble_eq_true rfl, Nat.le_of_ble_eq_true rfl⟩ rfl rfl rfl (fun x4 I4 => ?_)
  refine tt_if ?_ ?_
  · skip
    refine tt_aload rfl ?_
    refine tt_const ?_
    refine tt_const ?_
    refine tt_iload rfl ?_
    refine tt_bin ?_
    refine tt_bin ?_
    refine tt_const ?_
    refine tt_bin ?_
    refine tt_iload rfl ?_
    refine tt_cavI (t := []) ⟨Nat.le_of_ble_eq_true rfl, Nat.le_of_ble_eq_true rfl⟩ rfl rfl rfl (fun x5 I5 => ?_)
    exact rfl
  · skip
    refine tt_const ?_
    exact rfl
set_option maxRecDepth 100000 in
theorem eX9_setCapacity (N : Nat) (v1 : Int32) (v2 : Int32) (I : gM) : fX9_setCapacity N [.ref 0, .int v1, .int v2] I = hX9_setCapacity_0 N v1 v2 I := by
  show gFn 3 (fX9_setCapacity_k0 N) [.ref 0, .int v1, .int v2] I = (fX9_setCapacity_k0 N) [some (.ref 0), some (.int v1), some (.int v2)] [] I
  exact tt_fn rfl rfl

def hX9_setConflict_0 (N : Nat) (v1 : Int32) (v2 : Int32) (v3 : Int32) (I : gM) : gO := fX9_setConflict_k0 N [some (.ref 0), some (.int v1), some (.int v2), some (.int v3), none, none] [] I
def hX9_setConflict_26 (N : Nat) (v1 : Int32) (v2 : Int32) (v3 : Int32) (I : gM) : gO := fX9_setConflict_k26 N [some (.ref 0), some (.int v1), some (.int v2), some (.int v3), none, none] [.ref 0] I
def hX9_setConflict_27 (N : Nat) (v1 : Int32) (v2 : Int32) (v3 : Int32) (s1 : Int32) (I : gM) : gO := fX9_setConflict_k27 N [some (.ref 0), some (.int v1), some (.int v2), some (.int v3), none, none] [.int s1, .ref 0] I
def hX9_setConflict_45 (N : Nat) (v1 : Int32) (v2 : Int32) (v3 : Int32) (s1 : Int32) (I : gM) : gO := fX9_setConflict_k45 N [some (.ref 0), some (.int v1), some (.int v2), some (.int v3), none, none] [.int s1, .ref 0] I
def hX9_setConflict_72 (N : Nat) (v1 : Int32) (v2 : Int32) (v3 : Int32) (s0 : Int32) (I : gM) : gO := fX9_setConflict_k72 N [some (.ref 0), some (.int v1), some (.int v2), some (.int v3), none, none] [.int s0] I
set_option maxRecDepth 100000 in
theorem eX9_setConflict_0 (N : Nat) (v1 : Int32) (v2 : Int32) (v3 : Int32) (I : gM) : hX9_setConflict_0 N v1 v2 v3 I =
  (hI (fX9_isLink N [.ref 0, .int v1] (gS (rg 0 18) (gU I 0 0 0))) (rg 0 18) (gU I 0 0 0) fun x1 I1 => if gz_eq x1 = true then (hX9_setConflict_26 N v1 v2 v3 I1) else (hI (fX9_isLink N [.ref 0, .int v2] (gS (rg 0 18) I1)) (rg 0 18) I1 fun x2 I2 => if gz_eq x2 = true then (hX9_setConflict_26 N v1 v2 v3 I2) else (hX9_setConflict_27 N v1 v2 v3 1 I2))) := by
  show (fX9_setConflict_k0 N) [some (.ref 0), some (.int v1), some (.int v2), some (.int v3), none, none] [] I = _
  unfold fX9_setConflict_k0
  refine tt_aload rfl ?_
  refine tt_const ?_
  refine tt_put rfl rfl ?_
  refine tt_aload rfl ?_
  refine tt_aload rfl ?_
  refine tt_iload rfl ?_
  refine tt_cavI (t := [.ref 0]) ⟨Nat.le_of_ble_eq_true rfl, Nat.le_of_ble_eq_true rfl⟩ rfl rfl rfl (fun x1 I1 => ?_)
  refine tt_if ?_ ?_
  · skip
    refine tt_mask rfl ?_
    exact rfl
  · skip
    refine tt_aload rfl ?_
    refine tt_iload rfl ?_
    refine tt_cavI (t := [.ref 0]) ⟨Nat.le_of_ble_eq_true rfl, Nat.le_of_ble_eq_true rfl⟩ rfl rfl rfl (fun x2 I2 => ?_)
    refine tt_if ?_ ?_
    · skip
      refine tt_mask rfl ?_
      exact rfl
    · skip
      refine tt_const ?_
      refine tt_mask rfl ?_
      exact rfl
set_option maxRecDepth 100000 in
theorem eX9_setConflict_26 (N : Nat) (v1 : Int32) (v2 : Int32) (v3 : Int32) (I : gM) : hX9_setConflict_26 N v1 v2 v3 I =
  (hX9_setConflict_27 N v1 v2 v3 0 I) := by
  show (fX9_setConflict_k26 N) [some (.ref 0), some (.int v1), some (.int v2), some (.int v3), none, none] [.ref 0] I = _
  unfold fX9_setConflict_k26
  refine tt_const ?_
  refine tt_mask rfl ?_
  exact rfl
set_option maxRecDepth 100000 in
theorem eX9_setConflict_27 (N : Nat) (v1 : Int32) (v2 : Int32) (v3 : Int32) (s1 : Int32) (I : gM) : hX9_setConflict_27 N v1 v2 v3 s1 I =
  (hI (fX9_fails N [.ref 0, .int s1, .int 1] (gS (rg 0 18) I)) (rg 0 18) I fun x3 I3 => if gz_ne x3 = true then (some (.inl (some (.int 0)), I3)) else (if gc_eq v1 v2 = true then (hX9_setConflict_45 N v1 v2 v3 0 I3) else (hX9_setConflict_45 N v1 v2 v3 1 I3))) := by
  show (fX9_setConflict_k27 N) [some (.ref 0), some (.int v1), some (.int v2), some (.int v3), none, none] [.int s1, .ref 0] I = _
  unfold fX9_setConflict_k27
  refine tt_const ?_
  refine tt_cavI (t := []) ⟨Nat.le_of_ble_eq_true rfl, Nat.le_of_ble_eq_true rfl⟩ rfl rfl rfl (fun x3 I3 => ?_)
  refine tt_if ?_ ?_
  · skip
    refine tt_const ?_
    exact tt_zret (by decide)
  · skip
    refine tt_aload rfl ?_
    refine tt_iload rfl ?_
    refine tt_iload rfl ?_
    refine tt_cmp ?_ ?_
    · skip
      refine tt_const ?_
      refine tt_mask rfl ?_
      exact rfl
    · skip
      refine tt_const ?_
      refine tt_mask rfl ?_
      exact rfl
set_option maxRecDepth 100000 in
theorem eX9_setConflict_45 (N : Nat) (v1 : Int32) (v2 : Int32) (v3 : Int32) (s1 : Int32) (I : gM) : hX9_setConflict_45 N v1 v2 v3 s1 I =
  (hI (fX9_fails N [.ref 0, .int s1, .int 2] (gS (rg 0 18) I)) (rg 0 18) I fun x4 I4 => if gz_eq x4 = true then (hV (fX9_record N [.ref 0] (gS (rg 0 18) I4)) (rg 0 18) I4 fun I5 => ck 2746 (gb_add 131 v1) <| hI (fX9_has N [.int ((I5 3 ((Int32.toNatClampNeg (gb_add 131 v1))))), .int v2] (gS [] I5)) [] I5 fun x6 I6 => hX9_setConflict_72 N v1 v2 v3 x6 I6) else (some (.inl (some (.int 0)), I4))) := by
  show (fX9_setConflict_k45 N) [some (.ref 0), some (.int v1), some (.int v2), some (.int v3), none, none] [.int s1, .ref 0] I = _
  unfold fX9_setConflict_k45
  refine tt_const ?_
  refine tt_cavI (t := []) ⟨Nat.le_of_ble_eq_true rfl, Nat.le_of_ble_eq_true rfl⟩ rfl rfl rfl (fun x4 I4 => ?_)
  refine tt_if ?_ ?_
  · skip
    refine tt_aload rfl ?_
    refine tt_cavV (t := []) ⟨Nat.le_of_ble_eq_true rfl, Nat.le_of_ble_eq_true rfl⟩ rfl rfl rfl (fun I5 => ?_)
    refine tt_aload rfl ?_
    refine tt_getr (q := 3) rfl rfl ?_
    refine tt_const ?_
    refine tt_iload rfl ?_
    refine tt_bin ?_
    refine tt_ald (x := (I5 3 ((Int32.toNatClampNeg (gb_add 131 v1))))) rfl rfl ?_
    refine tt_iload rfl ?_
    refine tt_caI (t := []) ⟨Nat.le_of_ble_eq_true rfl, Nat.le_of_ble_eq_true rfl⟩ rfl rfl rfl (fun x6 I6 => ?_)
    refine tt_mask rfl ?_
    exact rfl
  · skip
    refine tt_const ?_
    exact tt_zret (by decide)
set_option maxRecDepth 100000 in
theorem eX9_setConflict_72 (N : Nat) (v1 : Int32) (v2 : Int32) (v3 : Int32) (s0 : Int32) (I : gM) : hX9_setConflict_72 N v1 v2 v3 s0 I =
  (if gc_eq s0 v3 = true then (if s0 = 0 ∨ s0 = 1 then some (.inl (some (.int s0)), I) else none) else (ck 2746 (gb_add 131 v1) <| ck 2746 (gb_add 131 v1) <| ck 2746 (gb_add 131 v2) <| ck 2746 (gb_add 131 v2) <| if s0 = 0 ∨ s0 = 1 then some (.inl (some (.int s0)), (gU (gU I 3 ((Int32.toNatClampNeg (gb_add 131 v1))) ((gb_xor ((I 3 ((Int32.toNatClampNeg (gb_add 131 v1))))) ((gb_and ((gb_or (gb_shl 1 v1) (gb_shl 1 v2))) ((gb_xor (gb_shl 1 v1) (-1)))))))) 3 ((Int32.toNatClampNeg (gb_add 131 v2))) ((gb_xor (((gU I 3 ((Int32.toNatClampNeg (gb_add 131 v1))) ((gb_xor ((I 3 ((Int32.toNatClampNeg (gb_add 131 v1))))) ((gb_and ((gb_or (gb_shl 1 v1) (gb_shl 1 v2))) ((gb_xor (gb_shl 1 v1) (-1)))))))) 3 ((Int32.toNatClampNeg (gb_add 131 v2))))) ((gb_and ((gb_or (gb_shl 1 v1) (gb_shl 1 v2))) ((gb_xor (gb_shl 1 v2) (-1))))))))) else none)) := by
  show (fX9_setConflict_k72 N) [some (.ref 0), some (.int v1), some (.int v2), some (.int v3), none, none] [.int s0] I = _
  unfold fX9_setConflict_k72
  refine tt_istore (L2 := [some (.ref 0), some (.int v1), some (.int v2), some (.int v3), some (.int s0), none]) (tt_lt rfl) rfl ?_
  refine tt_const ?_
  refine tt_iload rfl ?_
  refine tt_bin ?_
  refine tt_const ?_
  refine tt_iload rfl ?_
  refine tt_bin ?_
  refine tt_bin ?_
  refine tt_istore (L2 := [some (.ref 0), some (.int v1), some (.int v2), some (.int v3), some (.int s0), some (.int ((gb_or (gb_shl 1 v1) (gb_shl 1 v2))))]) (tt_lt rfl) rfl ?_
  refine tt_iload rfl ?_
  refine tt_iload rfl ?_
  refine tt_cmp ?_ ?_
  · skip
    refine tt_iload rfl ?_
    exact rfl
  · skip
    refine tt_aload rfl ?_
    refine tt_getr (q := 3) rfl rfl ?_
    refine tt_const ?_
    refine tt_iload rfl ?_
    refine tt_bin ?_
    refine tt_dup2 rfl rfl ?_
    refine tt_ald (x := (I 3 ((Int32.toNatClampNeg (gb_add 131 v1))))) rfl rfl ?_
    refine tt_iload rfl ?_
    refine tt_const ?_
    refine tt_iload rfl ?_
    refine tt_bin ?_
    refine tt_const ?_
    refine tt_bin ?_
    refine tt_bin ?_
    refine tt_bin ?_
    refine tt_ast (v := (gb_xor ((I 3 ((Int32.toNatClampNeg (gb_add 131 v1))))) ((gb_and ((gb_or (gb_shl 1 v1) (gb_shl 1 v2))) ((gb_xor (gb_shl 1 v1) (-1))))))) rfl rfl ?_
    refine tt_aload rfl ?_
    refine tt_getr (q := 3) rfl rfl ?_
    refine tt_const ?_
    refine tt_iload rfl ?_
    refine tt_bin ?_
    refine tt_dup2 rfl rfl ?_
    refine tt_ald (x := ((gU I 3 ((Int32.toNatClampNeg (gb_add 131 v1))) ((gb_xor ((I 3 ((Int32.toNatClampNeg (gb_add 131 v1))))) ((gb_and ((gb_or (gb_shl 1 v1) (gb_shl 1 v2))) ((gb_xor (gb_shl 1 v1) (-1)))))))) 3 ((Int32.toNatClampNeg (gb_add 131 v2))))) rfl rfl ?_
    refine tt_iload rfl ?_
    refine tt_const ?_
    refine tt_iload rfl ?_
    refine tt_bin ?_
    refine tt_const ?_
    refine tt_bin ?_
    refine tt_bin ?_
    refine tt_bin ?_
    refine tt_ast (v := (gb_xor (((gU I 3 ((Int32.toNatClampNeg (gb_add 131 v1))) ((gb_xor ((I 3 ((Int32.toNatClampNeg (gb_add 131 v1))))) ((gb_and ((gb_or (gb_shl 1 v1) (gb_shl 1 v2))) ((gb_xor (gb_shl 1 v1) (-1)))))))) 3 ((Int32.toNatClampNeg (gb_add 131 v2))))) ((gb_and ((gb_or (gb_shl 1 v1) (gb_shl 1 v2))) ((gb_xor (gb_shl 1 v2) (-1))))))) rfl rfl ?_
    refine tt_iload rfl ?_
    exact rfl
set_option maxRecDepth 100000 in
theorem eX9_setConflict (N : Nat) (v1 : Int32) (v2 : Int32) (v3 : Int32) (I : gM) : fX9_setConflict N [.ref 0, .int v1, .int v2, .int v3] I = hX9_setConflict_0 N v1 v2 v3 I := by
  show gFn 6 (fX9_setConflict_k0 N) [.ref 0, .int v1, .int v2, .int v3] I = (fX9_setConflict_k0 N) [some (.ref 0), some (.int v1), some (.int v2), some (.int v3), none, none] [] I
  exact tt_fn rfl rfl

def hX9_addFlow_0 (N : Nat) (v1 : Int32) (v2 : Int32) (v3 : Int32) (v4 : Int32) (I : gM) : gO := fX9_addFlow_k0 N [some (.ref 0), some (.int v1), some (.int v2), some (.int v3), some (.int v4)] [] I
def hX9_addFlow_56 (N : Nat) (v1 : Int32) (v2 : Int32) (v3 : Int32) (v4 : Int32) (I : gM) : gO := fX9_addFlow_k56 N [some (.ref 0), some (.int v1), some (.int v2), some (.int v3), some (.int v4)] [.ref 0] I
def hX9_addFlow_36 (N : Nat) (v1 : Int32) (v2 : Int32) (v3 : Int32) (v4 : Int32) (s1 : Int32) (I : gM) : gO := fX9_addFlow_k36 N [some (.ref 0), some (.int v1), some (.int v2), some (.int v3), some (.int v4)] [.int s1, .ref 0] I
def hX9_addFlow_57 (N : Nat) (v1 : Int32) (v2 : Int32) (v3 : Int32) (v4 : Int32) (s1 : Int32) (I : gM) : gO := fX9_addFlow_k57 N [some (.ref 0), some (.int v1), some (.int v2), some (.int v3), some (.int v4)] [.int s1, .ref 0] I
def hX9_addFlow_81 (N : Nat) (v1 : Int32) (v2 : Int32) (v3 : Int32) (v4 : Int32) (s1 : Int32) (I : gM) : gO := fX9_addFlow_k81 N [some (.ref 0), some (.int v1), some (.int v2), some (.int v3), some (.int v4)] [.int s1, .ref 0] I
def hX9_addFlow_106 (N : Nat) (I : gM) : gO := fX9_addFlow_k106 N [some (.ref 0), none, none, none, none] [] I
set_option maxRecDepth 100000 in
theorem eX9_addFlow_0 (N : Nat) (v1 : Int32) (v2 : Int32) (v3 : Int32) (v4 : Int32) (I : gM) : hX9_addFlow_0 N v1 v2 v3 v4 I =
  (hI (fX9_areNodes N [.ref 0, .int v1, .int v2] (gS (rg 0 18) (gU I 0 0 0))) (rg 0 18) (gU I 0 0 0) fun x1 I1 => hI (fX9_fails N [.ref 0, .int x1, .int 1] (gS (rg 0 18) I1)) (rg 0 18) I1 fun x2 I2 => if gz_eq x2 = true then (if gc_eq v1 v2 = true then (hX9_addFlow_56 N v1 v2 v3 v4 I2) else (hI (fX9_in N [.long ((v3).toInt64), .long 0, .long 300] (gS [] I2)) [] I2 fun x3 I3 => hX9_addFlow_36 N v1 v2 v3 v4 x3 I3)) else (some (.inl (some (.int 0)), I2))) := by
  show (fX9_addFlow_k0 N) [some (.ref 0), some (.int v1), some (.int v2), some (.int v3), some (.int v4)] [] I = _
  unfold fX9_addFlow_k0
  refine tt_aload rfl ?_
  refine tt_const ?_
  refine tt_put rfl rfl ?_
  refine tt_aload rfl ?_
  refine tt_aload rfl ?_
  refine tt_iload rfl ?_
  refine tt_iload rfl ?_
  refine tt_cavI (t := [.ref 0]) ⟨Nat.le_of_ble_eq_true rfl, Nat.le_of_ble_eq_true rfl⟩ rfl rfl rfl (fun x1 I1 => ?_)
  refine tt_const ?_
  refine tt_cavI (t := []) ⟨Nat.le_of_ble_eq_true rfl, Nat.le_of_ble_eq_true rfl⟩ rfl rfl rfl (fun x2 I2 => ?_)
  refine tt_if ?_ ?_
  · skip
    refine tt_aload rfl ?_
    refine tt_iload rfl ?_
    refine tt_iload rfl ?_
    refine tt_cmp ?_ ?_
    · skip
      refine tt_mask rfl ?_
      exact rfl
    · skip
      refine tt_iload rfl ?_
      refine tt_i2l ?_
      refine tt_lconst ?_
      refine tt_lconst ?_
      refine tt_caI (t := [.ref 0]) ⟨Nat.le_of_ble_eq_true rfl, Nat.le_of_ble_eq_true rfl⟩ rfl rfl rfl (fun x3 I3 => ?_)
      refine tt_mask rfl ?_
      exact rfl
  · skip
    refine tt_const ?_
    exact rfl
set_option maxRecDepth 100000 in
theorem eX9_addFlow_56 (N : Nat) (v1 : Int32) (v2 : Int32) (v3 : Int32) (v4 : Int32) (I : gM) : hX9_addFlow_56 N v1 v2 v3 v4 I =
  (hX9_addFlow_57 N v1 v2 v3 v4 0 I) := by
  show (fX9_addFlow_k56 N) [some (.ref 0), some (.int v1), some (.int v2), some (.int v3), some (.int v4)] [.ref 0] I = _
  unfold fX9_addFlow_k56
  refine tt_const ?_
  refine tt_mask rfl ?_
  exact rfl
set_option maxRecDepth 100000 in
theorem eX9_addFlow_36 (N : Nat) (v1 : Int32) (v2 : Int32) (v3 : Int32) (v4 : Int32) (s1 : Int32) (I : gM) : hX9_addFlow_36 N v1 v2 v3 v4 s1 I =
  (if gz_eq s1 = true then (hX9_addFlow_56 N v1 v2 v3 v4 I) else (hI (fX9_in N [.long ((v4).toInt64), .long 0, .long 200] (gS [] I)) [] I fun x4 I4 => if gz_eq x4 = true then (hX9_addFlow_56 N v1 v2 v3 v4 I4) else (hX9_addFlow_57 N v1 v2 v3 v4 1 I4))) := by
  show (fX9_addFlow_k36 N) [some (.ref 0), some (.int v1), some (.int v2), some (.int v3), some (.int v4)] [.int s1, .ref 0] I = _
  unfold fX9_addFlow_k36
  refine tt_if ?_ ?_
  · skip
    refine tt_mask rfl ?_
    exact rfl
  · skip
    refine tt_iload rfl ?_
    refine tt_i2l ?_
    refine tt_lconst ?_
    refine tt_lconst ?_
    refine tt_caI (t := [.ref 0]) ⟨Nat.le_of_ble_eq_true rfl, Nat.le_of_ble_eq_true rfl⟩ rfl rfl rfl (fun x4 I4 => ?_)
    refine tt_if ?_ ?_
    · skip
      refine tt_mask rfl ?_
      exact rfl
    · skip
      refine tt_const ?_
      refine tt_mask rfl ?_
      exact rfl
set_option maxRecDepth 100000 in
theorem eX9_addFlow_57 (N : Nat) (v1 : Int32) (v2 : Int32) (v3 : Int32) (v4 : Int32) (s1 : Int32) (I : gM) : hX9_addFlow_57 N v1 v2 v3 v4 s1 I =
  (hI (fX9_fails N [.ref 0, .int s1, .int 2] (gS (rg 0 18) I)) (rg 0 18) I fun x5 I5 => if gz_ne x5 = true then (some (.inl (some (.int 0)), I5)) else (ck 2746 2 <| if gc_ge ((I5 3 (Int32.toNatClampNeg 2))) 6 = true then (hX9_addFlow_81 N v1 v2 v3 v4 0 I5) else (hX9_addFlow_81 N v1 v2 v3 v4 1 I5))) := by
  show (fX9_addFlow_k57 N) [some (.ref 0), some (.int v1), some (.int v2), some (.int v3), some (.int v4)] [.int s1, .ref 0] I = _
  unfold fX9_addFlow_k57
  refine tt_const ?_
  refine tt_cavI (t := []) ⟨Nat.le_of_ble_eq_true rfl, Nat.le_of_ble_eq_true rfl⟩ rfl rfl rfl (fun x5 I5 => ?_)
  refine tt_if ?_ ?_
  · skip
    refine tt_const ?_
    exact rfl
  · skip
    refine tt_aload rfl ?_
    refine tt_aload rfl ?_
    refine tt_getr (q := 3) rfl rfl ?_
    refine tt_const ?_
    refine tt_ald (x := (I5 3 (Int32.toNatClampNeg 2))) rfl rfl ?_
    refine tt_const ?_
    refine tt_cmp ?_ ?_
    · skip
      refine tt_const ?_
      refine tt_mask rfl ?_
      exact rfl
    · skip
      refine tt_const ?_
      refine tt_mask rfl ?_
      exact rfl
set_option maxRecDepth 100000 in
theorem eX9_addFlow_81 (N : Nat) (v1 : Int32) (v2 : Int32) (v3 : Int32) (v4 : Int32) (s1 : Int32) (I : gM) : hX9_addFlow_81 N v1 v2 v3 v4 s1 I =
  (hI (fX9_fails N [.ref 0, .int s1, .int 3] (gS (rg 0 18) I)) (rg 0 18) I fun x6 I6 => if gz_eq x6 = true then (hV (fX9_record N [.ref 0] (gS (rg 0 18) I6)) (rg 0 18) I6 fun I7 => hV (fX9_layFlow N [.ref 0, .int v1, .int v2, .int v3, .int v4] (gS [3] I7)) [3] I7 fun I8 => hX9_addFlow_106 N I8) else (some (.inl (some (.int 0)), I6))) := by
  show (fX9_addFlow_k81 N) [some (.ref 0), some (.int v1), some (.int v2), some (.int v3), some (.int v4)] [.int s1, .ref 0] I = _
  unfold fX9_addFlow_k81
  refine tt_const ?_
  refine tt_cavI (t := []) ⟨Nat.le_of_ble_eq_true rfl, Nat.le_of_ble_eq_true rfl⟩ rfl rfl rfl (fun x6 I6 => ?_)
  refine tt_if ?_ ?_
  · skip
    refine tt_aload rfl ?_
    refine tt_cavV (t := []) ⟨Nat.le_of_ble_eq_true rfl, Nat.le_of_ble_eq_true rfl⟩ rfl rfl rfl (fun I7 => ?_)
    refine tt_aload rfl ?_
    refine tt_getr (q := 3) rfl rfl ?_
    refine tt_iload rfl ?_
    refine tt_iload rfl ?_
    refine tt_iload rfl ?_
    refine tt_iload rfl ?_
    refine tt_caV (t := []) ⟨Nat.le_of_ble_eq_true rfl, Nat.le_of_ble_eq_true rfl⟩ rfl rfl rfl (fun I8 => ?_)
    refine tt_mask rfl ?_
    exact rfl
  · skip
    refine tt_const ?_
    exact rfl
set_option maxRecDepth 100000 in
theorem eX9_addFlow_106 (N : Nat) (I : gM) : hX9_addFlow_106 N I =
  (ck 2746 2 <| some (.inl (some (.int ((gb_sub ((I 3 (Int32.toNatClampNeg 2))) 1)))), I)) := by
  show (fX9_addFlow_k106 N) [some (.ref 0), none, none, none, none] [] I = _
  unfold fX9_addFlow_k106
  refine tt_aload rfl ?_
  refine tt_getr (q := 3) rfl rfl ?_
  refine tt_const ?_
  refine tt_ald (x := (I 3 (Int32.toNatClampNeg 2))) rfl rfl ?_
  refine tt_const ?_
  refine tt_bin ?_
  exact rfl
set_option maxRecDepth 100000 in
theorem eX9_addFlow (N : Nat) (v1 : Int32) (v2 : Int32) (v3 : Int32) (v4 : Int32) (I : gM) : fX9_addFlow N [.ref 0, .int v1, .int v2, .int v3, .int v4] I = hX9_addFlow_0 N v1 v2 v3 v4 I := by
  show gFn 5 (fX9_addFlow_k0 N) [.ref 0, .int v1, .int v2, .int v3, .int v4] I = (fX9_addFlow_k0 N) [some (.ref 0), some (.int v1), some (.int v2), some (.int v3), some (.int v4)] [] I
  exact tt_fn rfl rfl

def hX9_setRate_0 (N : Nat) (v1 : Int32) (v2 : Int32) (I : gM) : gO := fX9_setRate_k0 N [some (.ref 0), some (.int v1), some (.int v2)] [] I
def hX9_setRate_28 (N : Nat) (v1 : Int32) (v2 : Int32) (s1 : Int32) (I : gM) : gO := fX9_setRate_k28 N [some (.ref 0), some (.int v1), some (.int v2)] [.int s1, .ref 0] I
set_option maxRecDepth 100000 in
theorem eX9_setRate_0 (N : Nat) (v1 : Int32) (v2 : Int32) (I : gM) : hX9_setRate_0 N v1 v2 I =
  (hI (fX9_isFlow N [.ref 0, .int v1] (gS (rg 0 18) (gU I 0 0 0))) (rg 0 18) (gU I 0 0 0) fun x1 I1 => hI (fX9_fails N [.ref 0, .int x1, .int 1] (gS (rg 0 18) I1)) (rg 0 18) I1 fun x2 I2 => if gz_ne x2 = true then (some (.inl (some (.int 0)), I2)) else (hI (fX9_in N [.long ((v2).toInt64), .long 0, .long 300] (gS [] I2)) [] I2 fun x3 I3 => hX9_setRate_28 N v1 v2 x3 I3)) := by
  show (fX9_setRate_k0 N) [some (.ref 0), some (.int v1), some (.int v2)] [] I = _
  unfold fX9_setRate_k0
  refine tt_aload rfl ?_
  refine tt_const ?_
  refine tt_put rfl rfl ?_
  refine tt_aload rfl ?_
  refine tt_aload rfl ?_
  refine tt_iload rfl ?_
  refine tt_cavI (t := [.ref 0]) ⟨Nat.le_of_ble_eq_true rfl, Nat.le_of_ble_eq_true rfl⟩ rfl rfl rfl (fun x1 I1 => ?_)
  refine tt_const ?_
  refine tt_cavI (t := []) ⟨Nat.le_of_ble_eq_true rfl, Nat.le_of_ble_eq_true rfl⟩ rfl rfl rfl (fun x2 I2 => ?_)
  refine tt_if ?_ ?_
  · skip
    refine tt_const ?_
    exact rfl
  · skip
    refine tt_aload rfl ?_
    refine tt_iload rfl ?_
    refine tt_i2l ?_
    refine tt_lconst ?_
    refine tt_lconst ?_
    refine tt_caI (t := [.ref 0]) ⟨Nat.le_of_ble_eq_true rfl, Nat.le_of_ble_eq_true rfl⟩ rfl rfl rfl (fun x3 I3 => ?_)
    refine tt_mask rfl ?_
    exact rfl
set_option maxRecDepth 100000 in
theorem eX9_setRate_28 (N : Nat) (v1 : Int32) (v2 : Int32) (s1 : Int32) (I : gM) : hX9_setRate_28 N v1 v2 s1 I =
  (hI (fX9_fails N [.ref 0, .int s1, .int 2] (gS (rg 0 18) I)) (rg 0 18) I fun x4 I4 => if gz_eq x4 = true then (hI (fX9_become N [.ref 0, .int ((gb_add ((gb_add 65 (gb_mul 11 v1))) 2)), .int v2] (gS (rg 0 18) I4)) (rg 0 18) I4 fun x5 I5 => some (.inl (some (.int x5)), I5)) else (some (.inl (some (.int 0)), I4))) := by
  show (fX9_setRate_k28 N) [some (.ref 0), some (.int v1), some (.int v2)] [.int s1, .ref 0] I = _
  unfold fX9_setRate_k28
  refine tt_const ?_
  refine tt_cavI (t := []) ⟨Nat.le_of_ble_eq_true rfl, Nat.le_of_ble_eq_true rfl⟩ rfl rfl rfl (fun x4 I4 => ?_)
  refine tt_if ?_ ?_
  · skip
    refine tt_aload rfl ?_
    refine tt_const ?_
    refine tt_const ?_
    refine tt_iload rfl ?_
    refine tt_bin ?_
    refine tt_bin ?_
    refine tt_const ?_
    refine tt_bin ?_
    refine tt_iload rfl ?_
    refine tt_cavI (t := []) ⟨Nat.le_of_ble_eq_true rfl, Nat.le_of_ble_eq_true rfl⟩ rfl rfl rfl (fun x5 I5 => ?_)
    exact rfl
  · skip
    refine tt_const ?_
    exact rfl
set_option maxRecDepth 100000 in
theorem eX9_setRate (N : Nat) (v1 : Int32) (v2 : Int32) (I : gM) : fX9_setRate N [.ref 0, .int v1, .int v2] I = hX9_setRate_0 N v1 v2 I := by
  show gFn 3 (fX9_setRate_k0 N) [.ref 0, .int v1, .int v2] I = (fX9_setRate_k0 N) [some (.ref 0), some (.int v1), some (.int v2)] [] I
  exact tt_fn rfl rfl

def hX9_setBudget_0 (N : Nat) (v1 : Int32) (v2 : Int32) (I : gM) : gO := fX9_setBudget_k0 N [some (.ref 0), some (.int v1), some (.int v2)] [] I
def hX9_setBudget_28 (N : Nat) (v1 : Int32) (v2 : Int32) (s1 : Int32) (I : gM) : gO := fX9_setBudget_k28 N [some (.ref 0), some (.int v1), some (.int v2)] [.int s1, .ref 0] I
set_option maxRecDepth 100000 in
theorem eX9_setBudget_0 (N : Nat) (v1 : Int32) (v2 : Int32) (I : gM) : hX9_setBudget_0 N v1 v2 I =
  (hI (fX9_isFlow N [.ref 0, .int v1] (gS (rg 0 18) (gU I 0 0 0))) (rg 0 18) (gU I 0 0 0) fun x1 I1 => hI (fX9_fails N [.ref 0, .int x1, .int 1] (gS (rg 0 18) I1)) (rg 0 18) I1 fun x2 I2 => if gz_ne x2 = true then (some (.inl (some (.int 0)), I2)) else (hI (fX9_in N [.long ((v2).toInt64), .long 0, .long 200] (gS [] I2)) [] I2 fun x3 I3 => hX9_setBudget_28 N v1 v2 x3 I3)) := by
  show (fX9_setBudget_k0 N) [some (.ref 0), some (.int v1), some (.int v2)] [] I = _
  unfold fX9_setBudget_k0
  refine tt_aload rfl ?_
  refine tt_const ?_
  refine tt_put rfl rfl ?_
  refine tt_aload rfl ?_
  refine tt_aload rfl ?_
  refine tt_iload rfl ?_
  refine tt_cavI (t := [.ref 0]) ⟨Nat.le_of_ble_eq_true rfl, Nat.le_of_ble_eq_true rfl⟩ rfl rfl rfl (fun x1 I1 => ?_)
  refine tt_const ?_
  refine tt_cavI (t := []) ⟨Nat.le_of_ble_eq_true rfl, Nat.le_of_ble_eq_true rfl⟩ rfl rfl rfl (fun x2 I2 => ?_)
  refine tt_if ?_ ?_
  · skip
    refine tt_const ?_
    exact rfl
  · skip
    refine tt_aload rfl ?_
    refine tt_iload rfl ?_
    refine tt_i2l ?_
    refine tt_lconst ?_
    refine tt_lconst ?_
    refine tt_caI (t := [.ref 0]) ⟨Nat.le_of_ble_eq_true rfl, Nat.le_of_ble_eq_true rfl⟩ rfl rfl rfl (fun x3 I3 => ?_)
    refine tt_mask rfl ?_
    exact rfl
set_option maxRecDepth 100000 in
theorem eX9_setBudget_28 (N : Nat) (v1 : Int32) (v2 : Int32) (s1 : Int32) (I : gM) : hX9_setBudget_28 N v1 v2 s1 I =
  (hI (fX9_fails N [.ref 0, .int s1, .int 2] (gS (rg 0 18) I)) (rg 0 18) I fun x4 I4 => if gz_eq x4 = true then (hI (fX9_become N [.ref 0, .int ((gb_add ((gb_add 65 (gb_mul 11 v1))) 3)), .int v2] (gS (rg 0 18) I4)) (rg 0 18) I4 fun x5 I5 => some (.inl (some (.int x5)), I5)) else (some (.inl (some (.int 0)), I4))) := by
  show (fX9_setBudget_k28 N) [some (.ref 0), some (.int v1), some (.int v2)] [.int s1, .ref 0] I = _
  unfold fX9_setBudget_k28
  refine tt_const ?_
  refine tt_cavI (t := []) ⟨Nat.le_of_ble_eq_true rfl, Nat.le_of_ble_eq_true rfl⟩ rfl rfl rfl (fun x4 I4 => ?_)
  refine tt_if ?_ ?_
  · skip
    refine tt_aload rfl ?_
    refine tt_const ?_
    refine tt_const ?_
    refine tt_iload rfl ?_
    refine tt_bin ?_
    refine tt_bin ?_
    refine tt_const ?_
    refine tt_bin ?_
    refine tt_iload rfl ?_
    refine tt_cavI (t := []) ⟨Nat.le_of_ble_eq_true rfl, Nat.le_of_ble_eq_true rfl⟩ rfl rfl rfl (fun x5 I5 => ?_)
    exact rfl
  · skip
    refine tt_const ?_
    exact rfl
set_option maxRecDepth 100000 in
theorem eX9_setBudget (N : Nat) (v1 : Int32) (v2 : Int32) (I : gM) : fX9_setBudget N [.ref 0, .int v1, .int v2] I = hX9_setBudget_0 N v1 v2 I := by
  show gFn 3 (fX9_setBudget_k0 N) [.ref 0, .int v1, .int v2] I = (fX9_setBudget_k0 N) [some (.ref 0), some (.int v1), some (.int v2)] [] I
  exact tt_fn rfl rfl

def hX9_mostOf_0 (N : Nat) (v0 : Int32) (I : gM) : gO := fX9_mostOf_k0 N [some (.int v0)] [] I
set_option maxRecDepth 100000 in
theorem eX9_mostOf_0 (N : Nat) (v0 : Int32) (I : gM) : hX9_mostOf_0 N v0 I =
  (if gc_ne v0 1 = true then (if gc_ne v0 2 = true then (some (.inl (some (.int 1)), I)) else (some (.inl (some (.int 20)), I))) else (some (.inl (some (.int 50)), I))) := by
  show (fX9_mostOf_k0 N) [some (.int v0)] [] I = _
  unfold fX9_mostOf_k0
  refine tt_iload rfl ?_
  refine tt_const ?_
  refine tt_cmp ?_ ?_
  · skip
    refine tt_iload rfl ?_
    refine tt_const ?_
    refine tt_cmp ?_ ?_
    · skip
      refine tt_const ?_
      exact rfl
    · skip
      refine tt_const ?_
      exact rfl
  · skip
    refine tt_const ?_
    exact rfl
set_option maxRecDepth 100000 in
theorem eX9_mostOf (N : Nat) (v0 : Int32) (I : gM) : fX9_mostOf N [.int v0] I = hX9_mostOf_0 N v0 I := by
  show gFn 1 (fX9_mostOf_k0 N) [.int v0] I = (fX9_mostOf_k0 N) [some (.int v0)] [] I
  exact tt_fn rfl rfl

def hX9_set_0 (N : Nat) (v1 : Int32) (v2 : Int32) (I : gM) : gO := fX9_set_k0 N [some (.ref 0), some (.int v1), some (.int v2)] [] I
def hX9_set_36 (N : Nat) (v1 : Int32) (v2 : Int32) (I : gM) : gO := fX9_set_k36 N [some (.ref 0), some (.int v1), some (.int v2)] [.ref 0] I
def hX9_set_29 (N : Nat) (v1 : Int32) (v2 : Int32) (s1 : Int32) (I : gM) : gO := fX9_set_k29 N [some (.ref 0), some (.int v1), some (.int v2)] [.int s1, .ref 0] I
def hX9_set_37 (N : Nat) (v1 : Int32) (v2 : Int32) (s1 : Int32) (I : gM) : gO := fX9_set_k37 N [some (.ref 0), some (.int v1), some (.int v2)] [.int s1, .ref 0] I
set_option maxRecDepth 100000 in
theorem eX9_set_0 (N : Nat) (v1 : Int32) (v2 : Int32) (I : gM) : hX9_set_0 N v1 v2 I =
  (hI (fX9_in N [.long ((v1).toInt64), .long 0, .long 3] (gS [] (gU I 0 0 0))) [] (gU I 0 0 0) fun x1 I1 => if gz_eq x1 = true then (hX9_set_36 N v1 v2 I1) else (hI (fX9_mostOf N [.int v1] (gS [] I1)) [] I1 fun x2 I2 => hI (fX9_in N [.long ((v2).toInt64), .long 0, .long ((x2).toInt64)] (gS [] I2)) [] I2 fun x3 I3 => hX9_set_29 N v1 v2 x3 I3)) := by
  show (fX9_set_k0 N) [some (.ref 0), some (.int v1), some (.int v2)] [] I = _
  unfold fX9_set_k0
  refine tt_aload rfl ?_
  refine tt_const ?_
  refine tt_put rfl rfl ?_
  refine tt_aload rfl ?_
  refine tt_iload rfl ?_
  refine tt_i2l ?_
  refine tt_lconst ?_
  refine tt_lconst ?_
  refine tt_caI (t := [.ref 0]) ⟨Nat.le_of_ble_eq_true rfl, Nat.le_of_ble_eq_true rfl⟩ rfl rfl rfl (fun x1 I1 => ?_)
  refine tt_if ?_ ?_
  · skip
    refine tt_mask rfl ?_
    exact rfl
  · skip
    refine tt_iload rfl ?_
    refine tt_i2l ?_
    refine tt_lconst ?_
    refine tt_iload rfl ?_
    refine tt_caI (t := [.long 0, .long ((v2).toInt64), .ref 0]) ⟨Nat.le_of_ble_eq_true rfl, Nat.le_of_ble_eq_true rfl⟩ rfl rfl rfl (fun x2 I2 => ?_)
    refine tt_i2l ?_
    refine tt_caI (t := [.ref 0]) ⟨Nat.le_of_ble_eq_true rfl, Nat.le_of_ble_eq_true rfl⟩ rfl rfl rfl (fun x3 I3 => ?_)
    refine tt_mask rfl ?_
    exact rfl
set_option maxRecDepth 100000 in
theorem eX9_set_36 (N : Nat) (v1 : Int32) (v2 : Int32) (I : gM) : hX9_set_36 N v1 v2 I =
  (hX9_set_37 N v1 v2 0 I) := by
  show (fX9_set_k36 N) [some (.ref 0), some (.int v1), some (.int v2)] [.ref 0] I = _
  unfold fX9_set_k36
  refine tt_const ?_
  refine tt_mask rfl ?_
  exact rfl
set_option maxRecDepth 100000 in
theorem eX9_set_29 (N : Nat) (v1 : Int32) (v2 : Int32) (s1 : Int32) (I : gM) : hX9_set_29 N v1 v2 s1 I =
  (if gz_eq s1 = true then (hX9_set_36 N v1 v2 I) else (hX9_set_37 N v1 v2 1 I)) := by
  show (fX9_set_k29 N) [some (.ref 0), some (.int v1), some (.int v2)] [.int s1, .ref 0] I = _
  unfold fX9_set_k29
  refine tt_if ?_ ?_
  · skip
    refine tt_mask rfl ?_
    exact rfl
  · skip
    refine tt_const ?_
    refine tt_mask rfl ?_
    exact rfl
set_option maxRecDepth 100000 in
theorem eX9_set_37 (N : Nat) (v1 : Int32) (v2 : Int32) (s1 : Int32) (I : gM) : hX9_set_37 N v1 v2 s1 I =
  (hI (fX9_fails N [.ref 0, .int s1, .int 1] (gS (rg 0 18) I)) (rg 0 18) I fun x4 I4 => if gz_eq x4 = true then (hI (fX9_become N [.ref 0, .int (gb_add 3 v1), .int v2] (gS (rg 0 18) I4)) (rg 0 18) I4 fun x5 I5 => some (.inl (some (.int x5)), I5)) else (some (.inl (some (.int 0)), I4))) := by
  show (fX9_set_k37 N) [some (.ref 0), some (.int v1), some (.int v2)] [.int s1, .ref 0] I = _
  unfold fX9_set_k37
  refine tt_const ?_
  refine tt_cavI (t := []) ⟨Nat.le_of_ble_eq_true rfl, Nat.le_of_ble_eq_true rfl⟩ rfl rfl rfl (fun x4 I4 => ?_)
  refine tt_if ?_ ?_
  · skip
    refine tt_aload rfl ?_
    refine tt_const ?_
    refine tt_iload rfl ?_
    refine tt_bin ?_
    refine tt_iload rfl ?_
    refine tt_cavI (t := []) ⟨Nat.le_of_ble_eq_true rfl, Nat.le_of_ble_eq_true rfl⟩ rfl rfl rfl (fun x5 I5 => ?_)
    exact rfl
  · skip
    refine tt_const ?_
    exact rfl
set_option maxRecDepth 100000 in
theorem eX9_set (N : Nat) (v1 : Int32) (v2 : Int32) (I : gM) : fX9_set N [.ref 0, .int v1, .int v2] I = hX9_set_0 N v1 v2 I := by
  show gFn 3 (fX9_set_k0 N) [.ref 0, .int v1, .int v2] I = (fX9_set_k0 N) [some (.ref 0), some (.int v1), some (.int v2)] [] I
  exact tt_fn rfl rfl

def hX9_inject_0 (N : Nat) (v1 : Int32) (v2 : Int32) (I : gM) : gO := fX9_inject_k0 N [some (.ref 0), some (.int v1), some (.int v2)] [] I
def hX9_inject_28 (N : Nat) (v1 : Int32) (v2 : Int32) (s1 : Int32) (I : gM) : gO := fX9_inject_k28 N [some (.ref 0), some (.int v1), some (.int v2)] [.int s1, .ref 0] I
set_option maxRecDepth 100000 in
theorem eX9_inject_0 (N : Nat) (v1 : Int32) (v2 : Int32) (I : gM) : hX9_inject_0 N v1 v2 I =
  (hI (fX9_isFlow N [.ref 0, .int v1] (gS (rg 0 18) (gU I 0 0 0))) (rg 0 18) (gU I 0 0 0) fun x1 I1 => hI (fX9_fails N [.ref 0, .int x1, .int 1] (gS (rg 0 18) I1)) (rg 0 18) I1 fun x2 I2 => if gz_ne x2 = true then (some (.inl (some (.int 0)), I2)) else (hI (fX9_in N [.long ((v2).toInt64), .long 1, .long 100] (gS [] I2)) [] I2 fun x3 I3 => hX9_inject_28 N v1 v2 x3 I3)) := by
  show (fX9_inject_k0 N) [some (.ref 0), some (.int v1), some (.int v2)] [] I = _
  unfold fX9_inject_k0
  refine tt_aload rfl ?_
  refine tt_const ?_
  refine tt_put rfl rfl ?_
  refine tt_aload rfl ?_
  refine tt_aload rfl ?_
  refine tt_iload rfl ?_
  refine tt_cavI (t := [.ref 0]) ⟨Nat.le_of_ble_eq_true rfl, Nat.le_of_ble_eq_true rfl⟩ rfl rfl rfl (fun x1 I1 => ?_)
  refine tt_const ?_
  refine tt_cavI (t := []) ⟨Nat.le_of_ble_eq_true rfl, Nat.le_of_ble_eq_true rfl⟩ rfl rfl rfl (fun x2 I2 => ?_)
  refine tt_if ?_ ?_
  · skip
    refine tt_const ?_
    exact rfl
  · skip
    refine tt_aload rfl ?_
    refine tt_iload rfl ?_
    refine tt_i2l ?_
    refine tt_lconst ?_
    refine tt_lconst ?_
    refine tt_caI (t := [.ref 0]) ⟨Nat.le_of_ble_eq_true rfl, Nat.le_of_ble_eq_true rfl⟩ rfl rfl rfl (fun x3 I3 => ?_)
    refine tt_mask rfl ?_
    exact rfl
set_option maxRecDepth 100000 in
theorem eX9_inject_28 (N : Nat) (v1 : Int32) (v2 : Int32) (s1 : Int32) (I : gM) : hX9_inject_28 N v1 v2 s1 I =
  (hI (fX9_fails N [.ref 0, .int s1, .int 2] (gS (rg 0 18) I)) (rg 0 18) I fun x4 I4 => if gz_eq x4 = true then (hV (fX9_record N [.ref 0] (gS (rg 0 18) I4)) (rg 0 18) I4 fun I5 => hI (fX9_arrive N [.ref 0, .int v1, .int v2] (gS (rg 0 18) I5)) (rg 0 18) I5 fun x6 I6 => some (.inl (some (.int x6)), I6)) else (some (.inl (some (.int 0)), I4))) := by
  show (fX9_inject_k28 N) [some (.ref 0), some (.int v1), some (.int v2)] [.int s1, .ref 0] I = _
  unfold fX9_inject_k28
  refine tt_const ?_
  refine tt_cavI (t := []) ⟨Nat.le_of_ble_eq_true rfl, Nat.le_of_ble_eq_true rfl⟩ rfl rfl rfl (fun x4 I4 => ?_)
  refine tt_if ?_ ?_
  · skip
    refine tt_aload rfl ?_
    refine tt_cavV (t := []) ⟨Nat.le_of_ble_eq_true rfl, Nat.le_of_ble_eq_true rfl⟩ rfl rfl rfl (fun I5 => ?_)
    refine tt_aload rfl ?_
    refine tt_iload rfl ?_
    refine tt_iload rfl ?_
    refine tt_cavI (t := []) ⟨Nat.le_of_ble_eq_true rfl, Nat.le_of_ble_eq_true rfl⟩ rfl rfl rfl (fun x6 I6 => ?_)
    exact rfl
  · skip
    refine tt_const ?_
    exact rfl
set_option maxRecDepth 100000 in
theorem eX9_inject (N : Nat) (v1 : Int32) (v2 : Int32) (I : gM) : fX9_inject N [.ref 0, .int v1, .int v2] I = hX9_inject_0 N v1 v2 I := by
  show gFn 3 (fX9_inject_k0 N) [.ref 0, .int v1, .int v2] I = (fX9_inject_k0 N) [some (.ref 0), some (.int v1), some (.int v2)] [] I
  exact tt_fn rfl rfl

def hX9_flush_0 (N : Nat) (v1 : Int32) (v2 : Int32) (I : gM) : gO := fX9_flush_k0 N [some (.ref 0), some (.int v1), some (.int v2), none] [] I
def hX9_flush_30 (N : Nat) (v1 : Int32) (v2 : Int32) (s1 : Int32) (I : gM) : gO := fX9_flush_k30 N [some (.ref 0), some (.int v1), some (.int v2), none] [.int s1, .ref 0] I
def hX9_flush_47 (N : Nat) (v1 : Int32) (v2 : Int32) (I : gM) : gO := fX9_flush_k47 N [some (.ref 0), some (.int v1), some (.int v2), none] [] I
def hX9_flush_49 (N : Nat) (n49 : Nat) (v1 : Int32) (v2 : Int32) (v3 : Int32) (I : gM) : gO := s_lp (fX9_flush_b49 N) n49 [some (.ref 0), some (.int v1), some (.int v2), some (.int v3)] [] I
def hX9_flush_96 (N : Nat) (n49 : Nat) (v1 : Int32) (v2 : Int32) (v3 : Int32) (s1 : Int32) (s2 : Int32) (s3 : Int32) (I : gM) : gO := fX9_flush_k96 N (s_lp (fX9_flush_b49 N) n49) [some (.ref 0), some (.int v1), some (.int v2), some (.int v3)] [.int s3, .int s2, .int s1, .ref 0] I
set_option maxRecDepth 100000 in
theorem eX9_flush_0 (N : Nat) (v1 : Int32) (v2 : Int32) (I : gM) : hX9_flush_0 N v1 v2 I =
  (hI (fX9_areNodes N [.ref 0, .int v1, .int v2] (gS (rg 0 18) (gU I 0 0 0))) (rg 0 18) (gU I 0 0 0) fun x1 I1 => hI (fX9_fails N [.ref 0, .int x1, .int 1] (gS (rg 0 18) I1)) (rg 0 18) I1 fun x2 I2 => if gz_ne x2 = true then (some (.inl (some (.int 0)), I2)) else (if gc_eq v1 v2 = true then (hX9_flush_30 N v1 v2 0 I2) else (hX9_flush_30 N v1 v2 1 I2))) := by
  show (fX9_flush_k0 N) [some (.ref 0), some (.int v1), some (.int v2), none] [] I = _
  unfold fX9_flush_k0
  refine tt_aload rfl ?_
  refine tt_const ?_
  refine tt_put rfl rfl ?_
  refine tt_aload rfl ?_
  refine tt_aload rfl ?_
  refine tt_iload rfl ?_
  refine tt_iload rfl ?_
  refine tt_cavI (t := [.ref 0]) ⟨Nat.le_of_ble_eq_true rfl, Nat.le_of_ble_eq_true rfl⟩ rfl rfl rfl (fun x1 I1 => ?_)
  refine tt_const ?_
  refine tt_cavI (t := []) ⟨Nat.le_of_ble_eq_true rfl, Nat.le_of_ble_eq_true rfl⟩ rfl rfl rfl (fun x2 I2 => ?_)
  refine tt_if ?_ ?_
  · skip
    refine tt_const ?_
    exact rfl
  · skip
    refine tt_aload rfl ?_
    refine tt_iload rfl ?_
    refine tt_iload rfl ?_
    refine tt_cmp ?_ ?_
    · skip
      refine tt_const ?_
      refine tt_mask rfl ?_
      exact rfl
    · skip
      refine tt_const ?_
      refine tt_mask rfl ?_
      exact rfl
set_option maxRecDepth 100000 in
theorem eX9_flush_30 (N : Nat) (v1 : Int32) (v2 : Int32) (s1 : Int32) (I : gM) : hX9_flush_30 N v1 v2 s1 I =
  (hI (fX9_fails N [.ref 0, .int s1, .int 2] (gS (rg 0 18) I)) (rg 0 18) I fun x3 I3 => if gz_eq x3 = true then (hV (fX9_record N [.ref 0] (gS (rg 0 18) I3)) (rg 0 18) I3 fun I4 => hV (fX9_stayAll N [.ref 0] (gS (rg 0 18) I4)) (rg 0 18) I4 fun I5 => hX9_flush_47 N v1 v2 I5) else (some (.inl (some (.int 0)), I3))) := by
  show (fX9_flush_k30 N) [some (.ref 0), some (.int v1), some (.int v2), none] [.int s1, .ref 0] I = _
  unfold fX9_flush_k30
  refine tt_const ?_
  refine tt_cavI (t := []) ⟨Nat.le_of_ble_eq_true rfl, Nat.le_of_ble_eq_true rfl⟩ rfl rfl rfl (fun x3 I3 => ?_)
  refine tt_if ?_ ?_
  · skip
    refine tt_aload rfl ?_
    refine tt_cavV (t := []) ⟨Nat.le_of_ble_eq_true rfl, Nat.le_of_ble_eq_true rfl⟩ rfl rfl rfl (fun I4 => ?_)
    refine tt_aload rfl ?_
    refine tt_cavV (t := []) ⟨Nat.le_of_ble_eq_true rfl, Nat.le_of_ble_eq_true rfl⟩ rfl rfl rfl (fun I5 => ?_)
    refine tt_mask rfl ?_
    exact rfl
  · skip
    refine tt_const ?_
    exact rfl
set_option maxRecDepth 100000 in
theorem eX9_flush_47 (N : Nat) (v1 : Int32) (v2 : Int32) (I : gM) : hX9_flush_47 N v1 v2 I =
  (hX9_flush_49 N N v1 v2 0 I) := by
  show (fX9_flush_k47 N) [some (.ref 0), some (.int v1), some (.int v2), none] [] I = _
  unfold fX9_flush_k47
  refine tt_const ?_
  refine tt_istore (L2 := [some (.ref 0), some (.int v1), some (.int v2), some (.int 0)]) (tt_lt rfl) rfl ?_
  refine tt_mask rfl ?_
  exact rfl
set_option maxRecDepth 100000 in
theorem eX9_flush_49 (N : Nat) (n49 : Nat) (v1 : Int32) (v2 : Int32) (v3 : Int32) (I : gM) : hX9_flush_49 N (n49 + 1) v1 v2 v3 I =
  (ck 2746 245 <| if gc_ge v3 ((I 3 (Int32.toNatClampNeg 245))) = true then (hI (fX9_closeUp N [.ref 0] (gS (rg 0 18) I)) (rg 0 18) I fun x6 I6 => some (.inl (some (.int x6)), I6)) else (hI (fX9_isQueued N [.ref 0, .int v3, .int v1, .int v2] (gS (rg 0 18) I)) (rg 0 18) I fun x7 I7 => ck 500 v3 <| hI (fX9_packetPart N [.ref 0, .int v3, .int 0] (gS (rg 0 18) (gU I7 7 (Int32.toNatClampNeg v3) (vp_nar .boolean x7)))) (rg 0 18) (gU I7 7 (Int32.toNatClampNeg v3) (vp_nar .boolean x7)) fun x8 I8 => ck 500 v3 <| if gz_eq ((I8 7 (Int32.toNatClampNeg v3))) = true then (hX9_flush_96 N n49 v1 v2 v3 x8 5 0 I8) else (hX9_flush_96 N n49 v1 v2 v3 x8 5 1 I8))) := by
  show (fX9_flush_b49 N (s_lp (fX9_flush_b49 N) n49)) [some (.ref 0), some (.int v1), some (.int v2), some (.int v3)] [] I = _
  unfold fX9_flush_b49
  refine tt_iload rfl ?_
  refine tt_aload rfl ?_
  refine tt_getr (q := 3) rfl rfl ?_
  refine tt_const ?_
  refine tt_ald (x := (I 3 (Int32.toNatClampNeg 245))) rfl rfl ?_
  refine tt_cmp ?_ ?_
  · skip
    refine tt_aload rfl ?_
    refine tt_cavI (t := []) ⟨Nat.le_of_ble_eq_true rfl, Nat.le_of_ble_eq_true rfl⟩ rfl rfl rfl (fun x6 I6 => ?_)
    exact rfl
  · skip
    refine tt_aload rfl ?_
    refine tt_getr (q := 7) rfl rfl ?_
    refine tt_iload rfl ?_
    refine tt_aload rfl ?_
    refine tt_iload rfl ?_
    refine tt_iload rfl ?_
    refine tt_iload rfl ?_
    refine tt_cavI (t := [.int v3, .ref 7]) ⟨Nat.le_of_ble_eq_true rfl, Nat.le_of_ble_eq_true rfl⟩ rfl rfl rfl (fun x7 I7 => ?_)
    refine tt_ast (v := (vp_nar .boolean x7)) rfl rfl ?_
    refine tt_aload rfl ?_
    refine tt_aload rfl ?_
    refine tt_iload rfl ?_
    refine tt_const ?_
    refine tt_cavI (t := [.ref 0]) ⟨Nat.le_of_ble_eq_true rfl, Nat.le_of_ble_eq_true rfl⟩ rfl rfl rfl (fun x8 I8 => ?_)
    refine tt_const ?_
    refine tt_aload rfl ?_
    refine tt_getr (q := 7) rfl rfl ?_
    refine tt_iload rfl ?_
    refine tt_ald (x := (I8 7 (Int32.toNatClampNeg v3))) rfl rfl ?_
    refine tt_if ?_ ?_
    · skip
      refine tt_const ?_
      refine tt_mask rfl ?_
      exact rfl
    · skip
      refine tt_const ?_
      refine tt_mask rfl ?_
      exact rfl
theorem eX9_flush_49z (N : Nat) (v1 : Int32) (v2 : Int32) (v3 : Int32) (I : gM) : hX9_flush_49 N 0 v1 v2 v3 I = none := (rfl)
set_option maxRecDepth 100000 in
theorem eX9_flush_96 (N : Nat) (n49 : Nat) (v1 : Int32) (v2 : Int32) (v3 : Int32) (s1 : Int32) (s2 : Int32) (s3 : Int32) (I : gM) : hX9_flush_96 N n49 v1 v2 v3 s1 s2 s3 I =
  (hV (fX9_count N [.ref 0, .int s1, .int s2, .int s3] (gS (rg 0 18) I)) (rg 0 18) I fun I9 => hX9_flush_49 N n49 v1 v2 (v3 + 1) I9) := by
  show (fX9_flush_k96 N (s_lp (fX9_flush_b49 N) n49)) [some (.ref 0), some (.int v1), some (.int v2), some (.int v3)] [.int s3, .int s2, .int s1, .ref 0] I = _
  unfold fX9_flush_k96
  refine tt_cavV (t := []) ⟨Nat.le_of_ble_eq_true rfl, Nat.le_of_ble_eq_true rfl⟩ rfl rfl rfl (fun I9 => ?_)
  refine tt_iinc (L2 := [some (.ref 0), some (.int v1), some (.int v2), some (.int (v3 + 1))]) rfl rfl ?_
  refine tt_mask rfl ?_
  exact rfl
set_option maxRecDepth 100000 in
theorem eX9_flush (N : Nat) (v1 : Int32) (v2 : Int32) (I : gM) : fX9_flush N [.ref 0, .int v1, .int v2] I = hX9_flush_0 N v1 v2 I := by
  show gFn 4 (fX9_flush_k0 N) [.ref 0, .int v1, .int v2] I = (fX9_flush_k0 N) [some (.ref 0), some (.int v1), some (.int v2), none] [] I
  exact tt_fn rfl rfl

def hX9_shadows_0 (N : Nat) (v1 : Int32) (I : gM) : gO := fX9_shadows_k0 N [some (.ref 0), some (.int v1), none, none, none, none, none] [] I
def hX9_shadows_5 (N : Nat) (n5 : Nat) (v1 : Int32) (v2 : Int64) (v4 : Int32) (I : gM) : gO := s_lp (fX9_shadows_b5 N) n5 [some (.ref 0), some (.int v1), some (.long v2), none, some (.int v4), none, none] [] I
def hX9_shadows_41 (N : Nat) (n5 : Nat) (v1 : Int32) (v4 : Int32) (s0 : Int64) (s1 : Int64) (I : gM) : gO := fX9_shadows_k41 N (s_lp (fX9_shadows_b5 N) n5) [some (.ref 0), some (.int v1), none, none, some (.int v4), none, none] [.long s1, .long s0] I
set_option maxRecDepth 100000 in
theorem eX9_shadows_0 (N : Nat) (v1 : Int32) (I : gM) : hX9_shadows_0 N v1 I =
  (hX9_shadows_5 N N v1 0 0 I) := by
  show (fX9_shadows_k0 N) [some (.ref 0), some (.int v1), none, none, none, none, none] [] I = _
  unfold fX9_shadows_k0
  refine tt_lconst ?_
  refine tt_lstore (L2 := [some (.ref 0), some (.int v1), some (.long 0), none, none, none, none]) (tt_lt rfl) rfl ?_
  refine tt_const ?_
  refine tt_istore (L2 := [some (.ref 0), some (.int v1), some (.long 0), none, some (.int 0), none, none]) (tt_lt rfl) rfl ?_
  refine tt_mask rfl ?_
  exact rfl
set_option maxRecDepth 100000 in
theorem eX9_shadows_5 (N : Nat) (n5 : Nat) (v1 : Int32) (v2 : Int64) (v4 : Int32) (I : gM) : hX9_shadows_5 N (n5 + 1) v1 v2 v4 I =
  (if gc_ge v4 100 = true then (some (.inl (some (.long v2)), I)) else (ck 2746 (gb_add 145 v4) <| if gz_eq v1 = true then (hX9_shadows_41 N n5 v1 v4 v2 (((I 3 ((Int32.toNatClampNeg (gb_add 145 v4))))).toInt64) I) else (hX9_shadows_41 N n5 v1 v4 v2 ((gb_lmul (((I 3 ((Int32.toNatClampNeg (gb_add 145 v4))))).toInt64) (((I 3 ((Int32.toNatClampNeg (gb_add 145 v4))))).toInt64))) I))) := by
  show (fX9_shadows_b5 N (s_lp (fX9_shadows_b5 N) n5)) [some (.ref 0), some (.int v1), some (.long v2), none, some (.int v4), none, none] [] I = _
  unfold fX9_shadows_b5
  refine tt_iload rfl ?_
  refine tt_const ?_
  refine tt_cmp ?_ ?_
  · skip
    refine tt_lload rfl ?_
    exact rfl
  · skip
    refine tt_aload rfl ?_
    refine tt_getr (q := 3) rfl rfl ?_
    refine tt_const ?_
    refine tt_iload rfl ?_
    refine tt_bin ?_
    refine tt_ald (x := (I 3 ((Int32.toNatClampNeg (gb_add 145 v4))))) rfl rfl ?_
    refine tt_i2l ?_
    refine tt_lstore (L2 := [some (.ref 0), some (.int v1), some (.long v2), none, some (.int v4), some (.long (((I 3 ((Int32.toNatClampNeg (gb_add 145 v4))))).toInt64)), none]) (tt_lt rfl) rfl ?_
    refine tt_lload rfl ?_
    refine tt_iload rfl ?_
    refine tt_if ?_ ?_
    · skip
      refine tt_lload rfl ?_
      refine tt_mask rfl ?_
      exact rfl
    · skip
      refine tt_lload rfl ?_
      refine tt_lload rfl ?_
      refine tt_lbin ?_
      refine tt_mask rfl ?_
      exact rfl
theorem eX9_shadows_5z (N : Nat) (v1 : Int32) (v2 : Int64) (v4 : Int32) (I : gM) : hX9_shadows_5 N 0 v1 v2 v4 I = none := (rfl)
set_option maxRecDepth 100000 in
theorem eX9_shadows_41 (N : Nat) (n5 : Nat) (v1 : Int32) (v4 : Int32) (s0 : Int64) (s1 : Int64) (I : gM) : hX9_shadows_41 N n5 v1 v4 s0 s1 I =
  (hX9_shadows_5 N n5 v1 (gb_ladd s0 s1) (v4 + 1) I) := by
  show (fX9_shadows_k41 N (s_lp (fX9_shadows_b5 N) n5)) [some (.ref 0), some (.int v1), none, none, some (.int v4), none, none] [.long s1, .long s0] I = _
  unfold fX9_shadows_k41
  refine tt_lbin ?_
  refine tt_lstore (L2 := [some (.ref 0), some (.int v1), some (.long (gb_ladd s0 s1)), none, some (.int v4), none, none]) (tt_lt rfl) rfl ?_
  refine tt_iinc (L2 := [some (.ref 0), some (.int v1), some (.long (gb_ladd s0 s1)), none, some (.int (v4 + 1)), none, none]) rfl rfl ?_
  refine tt_mask rfl ?_
  exact rfl
set_option maxRecDepth 100000 in
theorem eX9_shadows (N : Nat) (v1 : Int32) (I : gM) : fX9_shadows N [.ref 0, .int v1] I = hX9_shadows_0 N v1 I := by
  show gFn 7 (fX9_shadows_k0 N) [.ref 0, .int v1] I = (fX9_shadows_k0 N) [some (.ref 0), some (.int v1), none, none, none, none, none] [] I
  exact tt_fn rfl rfl

def hX9_resetShadows_0 (N : Nat) (I : gM) : gO := fX9_resetShadows_k0 N [some (.ref 0), none, none] [] I
def hX9_resetShadows_18 (N : Nat) (n18 : Nat) (v1 : Int32) (v2 : Int32) (I : gM) : gO := s_lp (fX9_resetShadows_b18 N) n18 [some (.ref 0), some (.int v1), some (.int v2)] [] I
set_option maxRecDepth 100000 in
theorem eX9_resetShadows_0 (N : Nat) (I : gM) : hX9_resetShadows_0 N I =
  (hV (fX9_record N [.ref 0] (gS (rg 0 18) (gU I 0 0 0))) (rg 0 18) (gU I 0 0 0) fun I1 => hJ (fX9_shadows N [.ref 0, .int 0] (gS (rg 0 18) I1)) (rg 0 18) I1 fun x2 I2 => hX9_resetShadows_18 N N ((x2).toInt32) 0 I2) := by
  show (fX9_resetShadows_k0 N) [some (.ref 0), none, none] [] I = _
  unfold fX9_resetShadows_k0
  refine tt_aload rfl ?_
  refine tt_const ?_
  refine tt_put rfl rfl ?_
  refine tt_aload rfl ?_
  refine tt_cavV (t := []) ⟨Nat.le_of_ble_eq_true rfl, Nat.le_of_ble_eq_true rfl⟩ rfl rfl rfl (fun I1 => ?_)
  refine tt_aload rfl ?_
  refine tt_const ?_
  refine tt_cavJ (t := []) ⟨Nat.le_of_ble_eq_true rfl, Nat.le_of_ble_eq_true rfl⟩ rfl rfl rfl (fun x2 I2 => ?_)
  refine tt_l2i ?_
  refine tt_istore (L2 := [some (.ref 0), some (.int ((x2).toInt32)), none]) (tt_lt rfl) rfl ?_
  refine tt_const ?_
  refine tt_istore (L2 := [some (.ref 0), some (.int ((x2).toInt32)), some (.int 0)]) (tt_lt rfl) rfl ?_
  refine tt_mask rfl ?_
  exact rfl
set_option maxRecDepth 100000 in
theorem eX9_resetShadows_18 (N : Nat) (n18 : Nat) (v1 : Int32) (v2 : Int32) (I : gM) : hX9_resetShadows_18 N (n18 + 1) v1 v2 I =
  (if gc_ge v2 100 = true then (some (.inl (some (.int v1)), I)) else (ck 2746 (gb_add 145 v2) <| hX9_resetShadows_18 N n18 v1 (v2 + 1) (gU I 3 ((Int32.toNatClampNeg (gb_add 145 v2))) 0))) := by
  show (fX9_resetShadows_b18 N (s_lp (fX9_resetShadows_b18 N) n18)) [some (.ref 0), some (.int v1), some (.int v2)] [] I = _
  unfold fX9_resetShadows_b18
  refine tt_iload rfl ?_
  refine tt_const ?_
  refine tt_cmp ?_ ?_
  · skip
    refine tt_iload rfl ?_
    exact rfl
  · skip
    refine tt_aload rfl ?_
    refine tt_getr (q := 3) rfl rfl ?_
    refine tt_const ?_
    refine tt_iload rfl ?_
    refine tt_bin ?_
    refine tt_const ?_
    refine tt_ast (v := 0) rfl rfl ?_
    refine tt_iinc (L2 := [some (.ref 0), some (.int v1), some (.int (v2 + 1))]) rfl rfl ?_
    refine tt_mask rfl ?_
    exact rfl
theorem eX9_resetShadows_18z (N : Nat) (v1 : Int32) (v2 : Int32) (I : gM) : hX9_resetShadows_18 N 0 v1 v2 I = none := (rfl)
set_option maxRecDepth 100000 in
theorem eX9_resetShadows (N : Nat) (I : gM) : fX9_resetShadows N [.ref 0] I = hX9_resetShadows_0 N I := by
  show gFn 3 (fX9_resetShadows_k0 N) [.ref 0] I = (fX9_resetShadows_k0 N) [some (.ref 0), none, none] [] I
  exact tt_fn rfl rfl

def hX9_areSlots_0 (N : Nat) (v0 : Int32) (I : gM) : gO := fX9_areSlots_k0 N [some (.int v0)] [] I
set_option maxRecDepth 100000 in
theorem eX9_areSlots_0 (N : Nat) (v0 : Int32) (I : gM) : hX9_areSlots_0 N v0 I =
  (hI (fX9_in N [.long ((v0).toInt64), .long 1, .long 50] (gS [] I)) [] I fun x1 I1 => if x1 = 0 ∨ x1 = 1 then some (.inl (some (.int x1)), I1) else none) := by
  show (fX9_areSlots_k0 N) [some (.int v0)] [] I = _
  unfold fX9_areSlots_k0
  refine tt_iload rfl ?_
  refine tt_i2l ?_
  refine tt_lconst ?_
  refine tt_lconst ?_
  refine tt_caI (t := []) ⟨Nat.le_of_ble_eq_true rfl, Nat.le_of_ble_eq_true rfl⟩ rfl rfl rfl (fun x1 I1 => ?_)
  exact rfl
set_option maxRecDepth 100000 in
theorem eX9_areSlots (N : Nat) (v0 : Int32) (I : gM) : fX9_areSlots N [.int v0] I = hX9_areSlots_0 N v0 I := by
  show gFn 1 (fX9_areSlots_k0 N) [.int v0] I = (fX9_areSlots_k0 N) [some (.int v0)] [] I
  exact tt_fn rfl rfl

def hX9_count__0 (N : Nat) (v1 : Int32) (I : gM) : gO := fX9_count__k0 N [some (.ref 0), some (.int v1)] [] I
set_option maxRecDepth 100000 in
theorem eX9_count__0 (N : Nat) (v1 : Int32) (I : gM) : hX9_count__0 N v1 I =
  (hI (fX9_in N [.long ((v1).toInt64), .long 0, .long 6] (gS [] (gU I 0 0 0))) [] (gU I 0 0 0) fun x1 I1 => hI (fX9_fails N [.ref 0, .int x1, .int 1] (gS (rg 0 18) I1)) (rg 0 18) I1 fun x2 I2 => if gz_eq x2 = true then (ck 2746 v1 <| some (.inl (some (.int ((I2 3 (Int32.toNatClampNeg v1))))), I2)) else (some (.inl (some (.int 0)), I2))) := by
  show (fX9_count__k0 N) [some (.ref 0), some (.int v1)] [] I = _
  unfold fX9_count__k0
  refine tt_aload rfl ?_
  refine tt_const ?_
  refine tt_put rfl rfl ?_
  refine tt_aload rfl ?_
  refine tt_iload rfl ?_
  refine tt_i2l ?_
  refine tt_lconst ?_
  refine tt_lconst ?_
  refine tt_caI (t := [.ref 0]) ⟨Nat.le_of_ble_eq_true rfl, Nat.le_of_ble_eq_true rfl⟩ rfl rfl rfl (fun x1 I1 => ?_)
  refine tt_const ?_
  refine tt_cavI (t := []) ⟨Nat.le_of_ble_eq_true rfl, Nat.le_of_ble_eq_true rfl⟩ rfl rfl rfl (fun x2 I2 => ?_)
  refine tt_if ?_ ?_
  · skip
    refine tt_aload rfl ?_
    refine tt_getr (q := 3) rfl rfl ?_
    refine tt_iload rfl ?_
    refine tt_ald (x := (I2 3 (Int32.toNatClampNeg v1))) rfl rfl ?_
    exact rfl
  · skip
    refine tt_const ?_
    exact rfl
set_option maxRecDepth 100000 in
theorem eX9_count_ (N : Nat) (v1 : Int32) (I : gM) : fX9_count_ N [.ref 0, .int v1] I = hX9_count__0 N v1 I := by
  show gFn 2 (fX9_count__k0 N) [.ref 0, .int v1] I = (fX9_count__k0 N) [some (.ref 0), some (.int v1)] [] I
  exact tt_fn rfl rfl

def hX9_conflicts_0 (N : Nat) (v1 : Int32) (I : gM) : gO := fX9_conflicts_k0 N [some (.ref 0), some (.int v1)] [] I
set_option maxRecDepth 100000 in
theorem eX9_conflicts_0 (N : Nat) (v1 : Int32) (I : gM) : hX9_conflicts_0 N v1 I =
  (hI (fX9_isLink N [.ref 0, .int v1] (gS (rg 0 18) (gU I 0 0 0))) (rg 0 18) (gU I 0 0 0) fun x1 I1 => hI (fX9_fails N [.ref 0, .int x1, .int 1] (gS (rg 0 18) I1)) (rg 0 18) I1 fun x2 I2 => if gz_eq x2 = true then (ck 2746 (gb_add 131 v1) <| some (.inl (some (.int ((I2 3 ((Int32.toNatClampNeg (gb_add 131 v1))))))), I2)) else (some (.inl (some (.int 0)), I2))) := by
  show (fX9_conflicts_k0 N) [some (.ref 0), some (.int v1)] [] I = _
  unfold fX9_conflicts_k0
  refine tt_aload rfl ?_
  refine tt_const ?_
  refine tt_put rfl rfl ?_
  refine tt_aload rfl ?_
  refine tt_aload rfl ?_
  refine tt_iload rfl ?_
  refine tt_cavI (t := [.ref 0]) ⟨Nat.le_of_ble_eq_true rfl, Nat.le_of_ble_eq_true rfl⟩ rfl rfl rfl (fun x1 I1 => ?_)
  refine tt_const ?_
  refine tt_cavI (t := []) ⟨Nat.le_of_ble_eq_true rfl, Nat.le_of_ble_eq_true rfl⟩ rfl rfl rfl (fun x2 I2 => ?_)
  refine tt_if ?_ ?_
  · skip
    refine tt_aload rfl ?_
    refine tt_getr (q := 3) rfl rfl ?_
    refine tt_const ?_
    refine tt_iload rfl ?_
    refine tt_bin ?_
    refine tt_ald (x := (I2 3 ((Int32.toNatClampNeg (gb_add 131 v1))))) rfl rfl ?_
    exact rfl
  · skip
    refine tt_const ?_
    exact rfl
set_option maxRecDepth 100000 in
theorem eX9_conflicts (N : Nat) (v1 : Int32) (I : gM) : fX9_conflicts N [.ref 0, .int v1] I = hX9_conflicts_0 N v1 I := by
  show gFn 2 (fX9_conflicts_k0 N) [.ref 0, .int v1] I = (fX9_conflicts_k0 N) [some (.ref 0), some (.int v1)] [] I
  exact tt_fn rfl rfl

def hX9_flow_0 (N : Nat) (v1 : Int32) (v2 : Int32) (I : gM) : gO := fX9_flow_k0 N [some (.ref 0), some (.int v1), some (.int v2)] [] I
def hX9_flow_28 (N : Nat) (v1 : Int32) (v2 : Int32) (s1 : Int32) (I : gM) : gO := fX9_flow_k28 N [some (.ref 0), some (.int v1), some (.int v2)] [.int s1, .ref 0] I
set_option maxRecDepth 100000 in
theorem eX9_flow_0 (N : Nat) (v1 : Int32) (v2 : Int32) (I : gM) : hX9_flow_0 N v1 v2 I =
  (hI (fX9_isFlow N [.ref 0, .int v1] (gS (rg 0 18) (gU I 0 0 0))) (rg 0 18) (gU I 0 0 0) fun x1 I1 => hI (fX9_fails N [.ref 0, .int x1, .int 1] (gS (rg 0 18) I1)) (rg 0 18) I1 fun x2 I2 => if gz_ne x2 = true then (some (.inl (some (.int 0)), I2)) else (hI (fX9_in N [.long ((v2).toInt64), .long 0, .long 10] (gS [] I2)) [] I2 fun x3 I3 => hX9_flow_28 N v1 v2 x3 I3)) := by
  show (fX9_flow_k0 N) [some (.ref 0), some (.int v1), some (.int v2)] [] I = _
  unfold fX9_flow_k0
  refine tt_aload rfl ?_
  refine tt_const ?_
  refine tt_put rfl rfl ?_
  refine tt_aload rfl ?_
  refine tt_aload rfl ?_
  refine tt_iload rfl ?_
  refine tt_cavI (t := [.ref 0]) ⟨Nat.le_of_ble_eq_true rfl, Nat.le_of_ble_eq_true rfl⟩ rfl rfl rfl (fun x1 I1 => ?_)
  refine tt_const ?_
  refine tt_cavI (t := []) ⟨Nat.le_of_ble_eq_true rfl, Nat.le_of_ble_eq_true rfl⟩ rfl rfl rfl (fun x2 I2 => ?_)
  refine tt_if ?_ ?_
  · skip
    refine tt_const ?_
    exact rfl
  · skip
    refine tt_aload rfl ?_
    refine tt_iload rfl ?_
    refine tt_i2l ?_
    refine tt_lconst ?_
    refine tt_lconst ?_
    refine tt_caI (t := [.ref 0]) ⟨Nat.le_of_ble_eq_true rfl, Nat.le_of_ble_eq_true rfl⟩ rfl rfl rfl (fun x3 I3 => ?_)
    refine tt_mask rfl ?_
    exact rfl
set_option maxRecDepth 100000 in
theorem eX9_flow_28 (N : Nat) (v1 : Int32) (v2 : Int32) (s1 : Int32) (I : gM) : hX9_flow_28 N v1 v2 s1 I =
  (hI (fX9_fails N [.ref 0, .int s1, .int 2] (gS (rg 0 18) I)) (rg 0 18) I fun x4 I4 => if gz_eq x4 = true then (hI (fX9_flowPart N [.ref 0, .int v1, .int v2] (gS (rg 0 18) I4)) (rg 0 18) I4 fun x5 I5 => some (.inl (some (.int x5)), I5)) else (some (.inl (some (.int 0)), I4))) := by
  show (fX9_flow_k28 N) [some (.ref 0), some (.int v1), some (.int v2)] [.int s1, .ref 0] I = _
  unfold fX9_flow_k28
  refine tt_const ?_
  refine tt_cavI (t := []) ⟨Nat.le_of_ble_eq_true rfl, Nat.le_of_ble_eq_true rfl⟩ rfl rfl rfl (fun x4 I4 => ?_)
  refine tt_if ?_ ?_
  · skip
    refine tt_aload rfl ?_
    refine tt_iload rfl ?_
    refine tt_iload rfl ?_
    refine tt_cavI (t := []) ⟨Nat.le_of_ble_eq_true rfl, Nat.le_of_ble_eq_true rfl⟩ rfl rfl rfl (fun x5 I5 => ?_)
    exact rfl
  · skip
    refine tt_const ?_
    exact rfl
set_option maxRecDepth 100000 in
theorem eX9_flow (N : Nat) (v1 : Int32) (v2 : Int32) (I : gM) : fX9_flow N [.ref 0, .int v1, .int v2] I = hX9_flow_0 N v1 v2 I := by
  show gFn 3 (fX9_flow_k0 N) [.ref 0, .int v1, .int v2] I = (fX9_flow_k0 N) [some (.ref 0), some (.int v1), some (.int v2)] [] I
  exact tt_fn rfl rfl

def hX9_hops_0 (N : Nat) (v1 : Int32) (v2 : Int32) (I : gM) : gO := fX9_hops_k0 N [some (.ref 0), some (.int v1), some (.int v2)] [] I
def hX9_hops_25 (N : Nat) (v1 : Int32) (v2 : Int32) (I : gM) : gO := fX9_hops_k25 N [some (.ref 0), some (.int v1), some (.int v2)] [] I
set_option maxRecDepth 100000 in
theorem eX9_hops_0 (N : Nat) (v1 : Int32) (v2 : Int32) (I : gM) : hX9_hops_0 N v1 v2 I =
  (hI (fX9_areNodes N [.ref 0, .int v1, .int v2] (gS (rg 0 18) (gU I 0 0 0))) (rg 0 18) (gU I 0 0 0) fun x1 I1 => hI (fX9_fails N [.ref 0, .int x1, .int 1] (gS (rg 0 18) I1)) (rg 0 18) I1 fun x2 I2 => if gz_eq x2 = true then (hV (fX9_layHops N [.ref 0] (gS (rg 0 18) I2)) (rg 0 18) I2 fun I3 => hX9_hops_25 N v1 v2 I3) else (some (.inl (some (.int 0)), I2))) := by
  show (fX9_hops_k0 N) [some (.ref 0), some (.int v1), some (.int v2)] [] I = _
  unfold fX9_hops_k0
  refine tt_aload rfl ?_
  refine tt_const ?_
  refine tt_put rfl rfl ?_
  refine tt_aload rfl ?_
  refine tt_aload rfl ?_
  refine tt_iload rfl ?_
  refine tt_iload rfl ?_
  refine tt_cavI (t := [.ref 0]) ⟨Nat.le_of_ble_eq_true rfl, Nat.le_of_ble_eq_true rfl⟩ rfl rfl rfl (fun x1 I1 => ?_)
  refine tt_const ?_
  refine tt_cavI (t := []) ⟨Nat.le_of_ble_eq_true rfl, Nat.le_of_ble_eq_true rfl⟩ rfl rfl rfl (fun x2 I2 => ?_)
  refine tt_if ?_ ?_
  · skip
    refine tt_aload rfl ?_
    refine tt_cavV (t := []) ⟨Nat.le_of_ble_eq_true rfl, Nat.le_of_ble_eq_true rfl⟩ rfl rfl rfl (fun I3 => ?_)
    refine tt_mask rfl ?_
    exact rfl
  · skip
    refine tt_const ?_
    exact rfl
set_option maxRecDepth 100000 in
theorem eX9_hops_25 (N : Nat) (v1 : Int32) (v2 : Int32) (I : gM) : hX9_hops_25 N v1 v2 I =
  (ck 100 ((gb_add (gb_mul 10 v1) v2)) <| some (.inl (some (.int ((I 8 ((Int32.toNatClampNeg ((gb_add (gb_mul 10 v1) v2)))))))), I)) := by
  show (fX9_hops_k25 N) [some (.ref 0), some (.int v1), some (.int v2)] [] I = _
  unfold fX9_hops_k25
  refine tt_aload rfl ?_
  refine tt_getr (q := 8) rfl rfl ?_
  refine tt_const ?_
  refine tt_iload rfl ?_
  refine tt_bin ?_
  refine tt_iload rfl ?_
  refine tt_bin ?_
  refine tt_ald (x := (I 8 ((Int32.toNatClampNeg ((gb_add (gb_mul 10 v1) v2)))))) rfl rfl ?_
  exact rfl
set_option maxRecDepth 100000 in
theorem eX9_hops (N : Nat) (v1 : Int32) (v2 : Int32) (I : gM) : fX9_hops N [.ref 0, .int v1, .int v2] I = hX9_hops_0 N v1 v2 I := by
  show gFn 3 (fX9_hops_k0 N) [.ref 0, .int v1, .int v2] I = (fX9_hops_k0 N) [some (.ref 0), some (.int v1), some (.int v2)] [] I
  exact tt_fn rfl rfl

def hX9_reach_0 (N : Nat) (v1 : Int32) (I : gM) : gO := fX9_reach_k0 N [some (.ref 0), some (.int v1), none, none] [] I
def hX9_reach_9 (N : Nat) (n9 : Nat) (v2 : Int32) (I : gM) : gO := s_lp (fX9_reach_b9 N) n9 [some (.ref 0), none, some (.int v2), none] [] I
def hX9_reach_17 (N : Nat) (n9 : Nat) (n17 : Nat) (v2 : Int32) (v3 : Int32) (I : gM) : gO := s_lp (fX9_reach_b17 N (s_lp (fX9_reach_b9 N) n9)) n17 [some (.ref 0), none, some (.int v2), some (.int v3)] [] I
def hX9_reach_90 (N : Nat) (n9 : Nat) (n17 : Nat) (v2 : Int32) (v3 : Int32) (I : gM) : gO := fX9_reach_k90 N (s_lp (fX9_reach_b9 N) n9) (s_lp (fX9_reach_b17 N (s_lp (fX9_reach_b9 N) n9)) n17) [some (.ref 0), none, some (.int v2), some (.int v3)] [] I
set_option maxRecDepth 100000 in
theorem eX9_reach_0 (N : Nat) (v1 : Int32) (I : gM) : hX9_reach_0 N v1 I =
  (hX9_reach_9 N N 1 (gU I 0 30 (gb_shl 1 v1))) := by
  show (fX9_reach_k0 N) [some (.ref 0), some (.int v1), none, none] [] I = _
  unfold fX9_reach_k0
  refine tt_aload rfl ?_
  refine tt_const ?_
  refine tt_iload rfl ?_
  refine tt_bin ?_
  refine tt_put rfl rfl ?_
  refine tt_const ?_
  refine tt_istore (L2 := [some (.ref 0), some (.int v1), some (.int 1), none]) (tt_lt rfl) rfl ?_
  refine tt_mask rfl ?_
  exact rfl
set_option maxRecDepth 100000 in
theorem eX9_reach_9 (N : Nat) (n9 : Nat) (v2 : Int32) (I : gM) : hX9_reach_9 N (n9 + 1) v2 I =
  (if gz_eq v2 = true then (some (.inl none, I)) else (hX9_reach_17 N n9 N 0 0 I)) := by
  show (fX9_reach_b9 N (s_lp (fX9_reach_b9 N) n9)) [some (.ref 0), none, some (.int v2), none] [] I = _
  unfold fX9_reach_b9
  refine tt_iload rfl ?_
  refine tt_if ?_ ?_
  · skip
    exact rfl
  · skip
    refine tt_const ?_
    refine tt_istore (L2 := [some (.ref 0), none, some (.int 0), none]) (tt_lt rfl) rfl ?_
    refine tt_const ?_
    refine tt_istore (L2 := [some (.ref 0), none, some (.int 0), some (.int 0)]) (tt_lt rfl) rfl ?_
    refine tt_mask rfl ?_
    exact rfl
theorem eX9_reach_9z (N : Nat) (v2 : Int32) (I : gM) : hX9_reach_9 N 0 v2 I = none := (rfl)
set_option maxRecDepth 100000 in
theorem eX9_reach_17 (N : Nat) (n9 : Nat) (n17 : Nat) (v2 : Int32) (v3 : Int32) (I : gM) : hX9_reach_17 N n9 (n17 + 1) v2 v3 I =
  (if gc_ge v3 100 = true then (hX9_reach_9 N n9 v2 I) else (ck 100 v3 <| if gz_le ((I 16 (Int32.toNatClampNeg v3))) = true then (hX9_reach_90 N n9 n17 v2 v3 I) else (if (10 : Int32) = 0 then none else hI (fX9_has N [.int (I 0 30), .int (gb_div v3 10)] (gS [] I)) [] I fun x1 I1 => if gz_eq x1 = true then (hX9_reach_90 N n9 n17 v2 v3 I1) else (if (10 : Int32) = 0 then none else hI (fX9_has N [.int (I1 0 30), .int (gb_rem v3 10)] (gS [] I1)) [] I1 fun x2 I2 => if gz_ne x2 = true then (hX9_reach_90 N n9 n17 v2 v3 I2) else (if (10 : Int32) = 0 then none else if (10 : Int32) = 0 then none else if (10 : Int32) = 0 then none else ck 10 (gb_rem v3 10) <| hX9_reach_90 N n9 n17 1 v3 (gU (gU I2 0 30 ((gb_or (I2 0 30) ((gb_shl 1 (gb_rem v3 10)))))) 17 ((Int32.toNatClampNeg (gb_rem v3 10))) (gb_div v3 10))))))) := by
  show (fX9_reach_b17 N (s_lp (fX9_reach_b9 N) n9) (s_lp (fX9_reach_b17 N (s_lp (fX9_reach_b9 N) n9)) n17)) [some (.ref 0), none, some (.int v2), some (.int v3)] [] I = _
  unfold fX9_reach_b17
  refine tt_iload rfl ?_
  refine tt_const ?_
  refine tt_cmp ?_ ?_
  · skip
    refine tt_mask rfl ?_
    exact rfl
  · skip
    refine tt_aload rfl ?_
    refine tt_getr (q := 16) rfl rfl ?_
    refine tt_iload rfl ?_
    refine tt_ald (x := (I 16 (Int32.toNatClampNeg v3))) rfl rfl ?_
    refine tt_if ?_ ?_
    · skip
      refine tt_mask rfl ?_
      exact rfl
    · skip
      refine tt_aload rfl ?_
      refine tt_get (x := (I 0 30)) rfl rfl rfl ?_
      refine tt_iload rfl ?_
      refine tt_const ?_
      refine tt_div ?_
      refine tt_caI (t := []) ⟨Nat.le_of_ble_eq_true rfl, Nat.le_of_ble_eq_true rfl⟩ rfl rfl rfl (fun x1 I1 => ?_)
      refine tt_if ?_ ?_
      · skip
        refine tt_mask rfl ?_
        exact rfl
      · skip
        refine tt_aload rfl ?_
        refine tt_get (x := (I1 0 30)) rfl rfl rfl ?_
        refine tt_iload rfl ?_
        refine tt_const ?_
        refine tt_div ?_
        refine tt_caI (t := []) ⟨Nat.le_of_ble_eq_true rfl, Nat.le_of_ble_eq_true rfl⟩ rfl rfl rfl (fun x2 I2 => ?_)
        refine tt_if ?_ ?_
        · skip
          refine tt_mask rfl ?_
          exact rfl
        · skip
          refine tt_aload rfl ?_
          refine tt_dup rfl ?_
          refine tt_get (x := (I2 0 30)) rfl rfl rfl ?_
          refine tt_const ?_
          refine tt_iload rfl ?_
          refine tt_const ?_
          refine tt_div ?_
          refine tt_bin ?_
          refine tt_bin ?_
          refine tt_put rfl rfl ?_
          refine tt_aload rfl ?_
          refine tt_getr (q := 17) rfl rfl ?_
          refine tt_iload rfl ?_
          refine tt_const ?_
          refine tt_div ?_
          refine tt_iload rfl ?_
          refine tt_const ?_
          refine tt_div ?_
          refine tt_ast (v := (gb_div v3 10)) rfl rfl ?_
          refine tt_const ?_
          refine tt_istore (L2 := [some (.ref 0), none, some (.int 1), some (.int v3)]) (tt_lt rfl) rfl ?_
          refine tt_mask rfl ?_
          exact rfl
theorem eX9_reach_17z (N : Nat) (n9 : Nat) (v2 : Int32) (v3 : Int32) (I : gM) : hX9_reach_17 N n9 0 v2 v3 I = none := (rfl)
set_option maxRecDepth 100000 in
theorem eX9_reach_90 (N : Nat) (n9 : Nat) (n17 : Nat) (v2 : Int32) (v3 : Int32) (I : gM) : hX9_reach_90 N n9 n17 v2 v3 I =
  (hX9_reach_17 N n9 n17 v2 (v3 + 1) I) := by
  show (fX9_reach_k90 N (s_lp (fX9_reach_b9 N) n9) (s_lp (fX9_reach_b17 N (s_lp (fX9_reach_b9 N) n9)) n17)) [some (.ref 0), none, some (.int v2), some (.int v3)] [] I = _
  unfold fX9_reach_k90
  refine tt_iinc (L2 := [some (.ref 0), none, some (.int v2), some (.int (v3 + 1))]) rfl rfl ?_
  refine tt_mask rfl ?_
  exact rfl
set_option maxRecDepth 100000 in
theorem eX9_reach (N : Nat) (v1 : Int32) (I : gM) : fX9_reach N [.ref 0, .int v1] I = hX9_reach_0 N v1 I := by
  show gFn 4 (fX9_reach_k0 N) [.ref 0, .int v1] I = (fX9_reach_k0 N) [some (.ref 0), some (.int v1), none, none] [] I
  exact tt_fn rfl rfl

def hX9_greatestFlow_0 (N : Nat) (v1 : Int32) (v2 : Int32) (I : gM) : gO := fX9_greatestFlow_k0 N [some (.ref 0), some (.int v1), some (.int v2), none, none] [] I
def hX9_greatestFlow_2 (N : Nat) (n2 : Nat) (v1 : Int32) (v2 : Int32) (v3 : Int32) (I : gM) : gO := s_lp (fX9_greatestFlow_b2 N) n2 [some (.ref 0), some (.int v1), some (.int v2), some (.int v3), none] [] I
def hX9_greatestFlow_23 (N : Nat) (n23 : Nat) (v1 : Int32) (v2 : Int32) (v3 : Int32) (I : gM) : gO := s_lp (fX9_greatestFlow_b23 N) n23 [some (.ref 0), some (.int v1), some (.int v2), some (.int v3), none] [] I
def hX9_greatestFlow_73 (N : Nat) (n73 : Nat) (v1 : Int32) (v2 : Int32) (v3 : Int32) (I : gM) : gO := s_lp (fX9_greatestFlow_b73 N) n73 [some (.ref 0), some (.int v1), some (.int v2), some (.int v3), none] [] I
def hX9_greatestFlow_59 (N : Nat) (n23 : Nat) (v1 : Int32) (v2 : Int32) (v3 : Int32) (s1 : Int32) (s2 : Int32) (I : gM) : gO := fX9_greatestFlow_k59 N (s_lp (fX9_greatestFlow_b23 N) n23) [some (.ref 0), some (.int v1), some (.int v2), some (.int v3), none] [.int s2, .int s1, .ref 16] I
def hX9_greatestFlow_87 (N : Nat) (n73 : Nat) (n87 : Nat) (v1 : Int32) (v2 : Int32) (v3 : Int32) (v4 : Int32) (I : gM) : gO := s_lp (fX9_greatestFlow_b87 N (s_lp (fX9_greatestFlow_b73 N) n73)) n87 [some (.ref 0), some (.int v1), some (.int v2), some (.int v3), some (.int v4)] [] I
set_option maxRecDepth 100000 in
theorem eX9_greatestFlow_0 (N : Nat) (v1 : Int32) (v2 : Int32) (I : gM) : hX9_greatestFlow_0 N v1 v2 I =
  (hX9_greatestFlow_2 N N v1 v2 0 I) := by
  show (fX9_greatestFlow_k0 N) [some (.ref 0), some (.int v1), some (.int v2), none, none] [] I = _
  unfold fX9_greatestFlow_k0
  refine tt_const ?_
  refine tt_istore (L2 := [some (.ref 0), some (.int v1), some (.int v2), some (.int 0), none]) (tt_lt rfl) rfl ?_
  refine tt_mask rfl ?_
  exact rfl
set_option maxRecDepth 100000 in
theorem eX9_greatestFlow_2 (N : Nat) (n2 : Nat) (v1 : Int32) (v2 : Int32) (v3 : Int32) (I : gM) : hX9_greatestFlow_2 N (n2 + 1) v1 v2 v3 I =
  (if gc_ge v3 100 = true then (hX9_greatestFlow_23 N N v1 v2 0 I) else (ck 100 v3 <| hX9_greatestFlow_2 N n2 v1 v2 (v3 + 1) (gU I 16 (Int32.toNatClampNeg v3) 0))) := by
  show (fX9_greatestFlow_b2 N (s_lp (fX9_greatestFlow_b2 N) n2)) [some (.ref 0), some (.int v1), some (.int v2), some (.int v3), none] [] I = _
  unfold fX9_greatestFlow_b2
  refine tt_iload rfl ?_
  refine tt_const ?_
  refine tt_cmp ?_ ?_
  · skip
    refine tt_const ?_
    refine tt_istore (L2 := [some (.ref 0), some (.int v1), some (.int v2), some (.int 0), none]) (tt_lt rfl) rfl ?_
    refine tt_mask rfl ?_
    exact rfl
  · skip
    refine tt_aload rfl ?_
    refine tt_getr (q := 16) rfl rfl ?_
    refine tt_iload rfl ?_
    refine tt_const ?_
    refine tt_ast (v := 0) rfl rfl ?_
    refine tt_iinc (L2 := [some (.ref 0), some (.int v1), some (.int v2), some (.int (v3 + 1)), none]) rfl rfl ?_
    refine tt_mask rfl ?_
    exact rfl
theorem eX9_greatestFlow_2z (N : Nat) (v1 : Int32) (v2 : Int32) (v3 : Int32) (I : gM) : hX9_greatestFlow_2 N 0 v1 v2 v3 I = none := (rfl)
set_option maxRecDepth 100000 in
theorem eX9_greatestFlow_23 (N : Nat) (n23 : Nat) (v1 : Int32) (v2 : Int32) (v3 : Int32) (I : gM) : hX9_greatestFlow_23 N (n23 + 1) v1 v2 v3 I =
  (ck 2746 1 <| if gc_ge v3 ((I 3 (Int32.toNatClampNeg 1))) = true then (hV (fX9_reach N [.ref 0, .int v1] (gS (rg 0 18) I)) (rg 0 18) I fun I1 => hX9_greatestFlow_73 N N v1 v2 0 I1) else (hI (fX9_linkPart N [.ref 0, .int v3, .int 0] (gS (rg 0 18) I)) (rg 0 18) I fun x2 I2 => hI (fX9_linkPart N [.ref 0, .int v3, .int 1] (gS (rg 0 18) I2)) (rg 0 18) I2 fun x3 I3 => hI (fX9_linkPart N [.ref 0, .int v3, .int 2] (gS (rg 0 18) I3)) (rg 0 18) I3 fun x4 I4 => hX9_greatestFlow_59 N n23 v1 v2 v3 ((gb_add (gb_mul 10 x2) x3)) x4 I4)) := by
  show (fX9_greatestFlow_b23 N (s_lp (fX9_greatestFlow_b23 N) n23)) [some (.ref 0), some (.int v1), some (.int v2), some (.int v3), none] [] I = _
  unfold fX9_greatestFlow_b23
  refine tt_iload rfl ?_
  refine tt_aload rfl ?_
  refine tt_getr (q := 3) rfl rfl ?_
  refine tt_const ?_
  refine tt_ald (x := (I 3 (Int32.toNatClampNeg 1))) rfl rfl ?_
  refine tt_cmp ?_ ?_
  · skip
    refine tt_const ?_
    refine tt_istore (L2 := [some (.ref 0), some (.int v1), some (.int v2), some (.int 0), none]) (tt_lt rfl) rfl ?_
    refine tt_aload rfl ?_
    refine tt_iload rfl ?_
    refine tt_cavV (t := []) ⟨Nat.le_of_ble_eq_true rfl, Nat.le_of_ble_eq_true rfl⟩ rfl rfl rfl (fun I1 => ?_)
    refine tt_mask rfl ?_
    exact rfl
  · skip
    refine tt_aload rfl ?_
    refine tt_getr (q := 16) rfl rfl ?_
    refine tt_const ?_
    refine tt_aload rfl ?_
    refine tt_iload rfl ?_
    refine tt_const ?_
    refine tt_cavI (t := [.int 10, .ref 16]) ⟨Nat.le_of_ble_eq_true rfl, Nat.le_of_ble_eq_true rfl⟩ rfl rfl rfl (fun x2 I2 => ?_)
    refine tt_bin ?_
    refine tt_aload rfl ?_
    refine tt_iload rfl ?_
    refine tt_const ?_
    refine tt_cavI (t := [.int (gb_mul 10 x2), .ref 16]) ⟨Nat.le_of_ble_eq_true rfl, Nat.le_of_ble_eq_true rfl⟩ rfl rfl rfl (fun x3 I3 => ?_)
    refine tt_bin ?_
    refine tt_aload rfl ?_
    refine tt_iload rfl ?_
    refine tt_const ?_
    refine tt_cavI (t := [.int ((gb_add (gb_mul 10 x2) x3)), .ref 16]) ⟨Nat.le_of_ble_eq_true rfl, Nat.le_of_ble_eq_true rfl⟩ rfl rfl rfl (fun x4 I4 => ?_)
    refine tt_mask rfl ?_
    exact rfl
theorem eX9_greatestFlow_23z (N : Nat) (v1 : Int32) (v2 : Int32) (v3 : Int32) (I : gM) : hX9_greatestFlow_23 N 0 v1 v2 v3 I = none := (rfl)
set_option maxRecDepth 100000 in
theorem eX9_greatestFlow_73 (N : Nat) (n73 : Nat) (v1 : Int32) (v2 : Int32) (v3 : Int32) (I : gM) : hX9_greatestFlow_73 N (n73 + 1) v1 v2 v3 I =
  (hI (fX9_has N [.int (I 0 30), .int v2] (gS [] I)) [] I fun x5 I5 => if gz_eq x5 = true then (some (.inl (some (.int v3)), I5)) else (hX9_greatestFlow_87 N n73 N v1 v2 v3 v2 I5)) := by
  show (fX9_greatestFlow_b73 N (s_lp (fX9_greatestFlow_b73 N) n73)) [some (.ref 0), some (.int v1), some (.int v2), some (.int v3), none] [] I = _
  unfold fX9_greatestFlow_b73
  refine tt_aload rfl ?_
  refine tt_get (x := (I 0 30)) rfl rfl rfl ?_
  refine tt_iload rfl ?_
  refine tt_caI (t := []) ⟨Nat.le_of_ble_eq_true rfl, Nat.le_of_ble_eq_true rfl⟩ rfl rfl rfl (fun x5 I5 => ?_)
  refine tt_if ?_ ?_
  · skip
    refine tt_iload rfl ?_
    exact rfl
  · skip
    refine tt_iload rfl ?_
    refine tt_istore (L2 := [some (.ref 0), some (.int v1), some (.int v2), some (.int v3), some (.int v2)]) (tt_lt rfl) rfl ?_
    refine tt_mask rfl ?_
    exact rfl
theorem eX9_greatestFlow_73z (N : Nat) (v1 : Int32) (v2 : Int32) (v3 : Int32) (I : gM) : hX9_greatestFlow_73 N 0 v1 v2 v3 I = none := (rfl)
set_option maxRecDepth 100000 in
theorem eX9_greatestFlow_59 (N : Nat) (n23 : Nat) (v1 : Int32) (v2 : Int32) (v3 : Int32) (s1 : Int32) (s2 : Int32) (I : gM) : hX9_greatestFlow_59 N n23 v1 v2 v3 s1 s2 I =
  (ck 100 s1 <| hX9_greatestFlow_23 N n23 v1 v2 (v3 + 1) (gU I 16 (Int32.toNatClampNeg s1) s2)) := by
  show (fX9_greatestFlow_k59 N (s_lp (fX9_greatestFlow_b23 N) n23)) [some (.ref 0), some (.int v1), some (.int v2), some (.int v3), none] [.int s2, .int s1, .ref 16] I = _
  unfold fX9_greatestFlow_k59
  refine tt_ast (v := s2) rfl rfl ?_
  refine tt_iinc (L2 := [some (.ref 0), some (.int v1), some (.int v2), some (.int (v3 + 1)), none]) rfl rfl ?_
  refine tt_mask rfl ?_
  exact rfl
set_option maxRecDepth 100000 in
theorem eX9_greatestFlow_87 (N : Nat) (n73 : Nat) (n87 : Nat) (v1 : Int32) (v2 : Int32) (v3 : Int32) (v4 : Int32) (I : gM) : hX9_greatestFlow_87 N n73 (n87 + 1) v1 v2 v3 v4 I =
  (if gc_eq v4 v1 = true then (hV (fX9_reach N [.ref 0, .int v1] (gS (rg 0 18) I)) (rg 0 18) I fun I6 => hX9_greatestFlow_73 N n73 v1 v2 (v3 + 1) I6) else (ck 10 v4 <| ck 100 ((gb_add ((gb_mul 10 ((I 17 (Int32.toNatClampNeg v4))))) v4)) <| ck 100 ((gb_add ((gb_mul 10 ((I 17 (Int32.toNatClampNeg v4))))) v4)) <| ck 10 v4 <| ck 100 ((gb_add (gb_mul 10 v4) ((I 17 (Int32.toNatClampNeg v4))))) <| ck 100 ((gb_add (gb_mul 10 v4) ((I 17 (Int32.toNatClampNeg v4))))) <| ck 10 v4 <| hX9_greatestFlow_87 N n73 n87 v1 v2 v3 ((I 17 (Int32.toNatClampNeg v4))) (gU (gU I 16 ((Int32.toNatClampNeg ((gb_add ((gb_mul 10 ((I 17 (Int32.toNatClampNeg v4))))) v4)))) ((gb_sub ((I 16 ((Int32.toNatClampNeg ((gb_add ((gb_mul 10 ((I 17 (Int32.toNatClampNeg v4))))) v4)))))) 1))) 16 ((Int32.toNatClampNeg ((gb_add (gb_mul 10 v4) ((I 17 (Int32.toNatClampNeg v4))))))) ((gb_add (((gU I 16 ((Int32.toNatClampNeg ((gb_add ((gb_mul 10 ((I 17 (Int32.toNatClampNeg v4))))) v4)))) ((gb_sub ((I 16 ((Int32.toNatClampNeg ((gb_add ((gb_mul 10 ((I 17 (Int32.toNatClampNeg v4))))) v4)))))) 1))) 16 ((Int32.toNatClampNeg ((gb_add (gb_mul 10 v4) ((I 17 (Int32.toNatClampNeg v4))))))))) 1))))) := by
  show (fX9_greatestFlow_b87 N (s_lp (fX9_greatestFlow_b73 N) n73) (s_lp (fX9_greatestFlow_b87 N (s_lp (fX9_greatestFlow_b73 N) n73)) n87)) [some (.ref 0), some (.int v1), some (.int v2), some (.int v3), some (.int v4)] [] I = _
  unfold fX9_greatestFlow_b87
  refine tt_iload rfl ?_
  refine tt_iload rfl ?_
  refine tt_cmp ?_ ?_
  · skip
    refine tt_iinc (L2 := [some (.ref 0), some (.int v1), some (.int v2), some (.int (v3 + 1)), some (.int v4)]) rfl rfl ?_
    refine tt_aload rfl ?_
    refine tt_iload rfl ?_
    refine tt_cavV (t := []) ⟨Nat.le_of_ble_eq_true rfl, Nat.le_of_ble_eq_true rfl⟩ rfl rfl rfl (fun I6 => ?_)
    refine tt_mask rfl ?_
    exact rfl
  · skip
    refine tt_aload rfl ?_
    refine tt_getr (q := 16) rfl rfl ?_
    refine tt_const ?_
    refine tt_aload rfl ?_
    refine tt_getr (q := 17) rfl rfl ?_
    refine tt_iload rfl ?_
    refine tt_ald (x := (I 17 (Int32.toNatClampNeg v4))) rfl rfl ?_
    refine tt_bin ?_
    refine tt_iload rfl ?_
    refine tt_bin ?_
    refine tt_dup2 rfl rfl ?_
    refine tt_ald (x := (I 16 ((Int32.toNatClampNeg ((gb_add ((gb_mul 10 ((I 17 (Int32.toNatClampNeg v4))))) v4)))))) rfl rfl ?_
    refine tt_const ?_
    refine tt_bin ?_
    refine tt_ast (v := (gb_sub ((I 16 ((Int32.toNatClampNeg ((gb_add ((gb_mul 10 ((I 17 (Int32.toNatClampNeg v4))))) v4)))))) 1)) rfl rfl ?_
    refine tt_aload rfl ?_
    refine tt_getr (q := 16) rfl rfl ?_
    refine tt_const ?_
    refine tt_iload rfl ?_
    refine tt_bin ?_
    refine tt_aload rfl ?_
    refine tt_getr (q := 17) rfl rfl ?_
    refine tt_iload rfl ?_
    refine tt_ald (x := (I 17 (Int32.toNatClampNeg v4))) rfl rfl ?_
    refine tt_bin ?_
    refine tt_dup2 rfl rfl ?_
    refine tt_ald (x := ((gU I 16 ((Int32.toNatClampNeg ((gb_add ((gb_mul 10 ((I 17 (Int32.toNatClampNeg v4))))) v4)))) ((gb_sub ((I 16 ((Int32.toNatClampNeg ((gb_add ((gb_mul 10 ((I 17 (Int32.toNatClampNeg v4))))) v4)))))) 1))) 16 ((Int32.toNatClampNeg ((gb_add (gb_mul 10 v4) ((I 17 (Int32.toNatClampNeg v4))))))))) rfl rfl ?_
    refine tt_const ?_
    refine tt_bin ?_
    refine tt_ast (v := (gb_add (((gU I 16 ((Int32.toNatClampNeg ((gb_add ((gb_mul 10 ((I 17 (Int32.toNatClampNeg v4))))) v4)))) ((gb_sub ((I 16 ((Int32.toNatClampNeg ((gb_add ((gb_mul 10 ((I 17 (Int32.toNatClampNeg v4))))) v4)))))) 1))) 16 ((Int32.toNatClampNeg ((gb_add (gb_mul 10 v4) ((I 17 (Int32.toNatClampNeg v4))))))))) 1)) rfl rfl ?_
    refine tt_aload rfl ?_
    refine tt_getr (q := 17) rfl rfl ?_
    refine tt_iload rfl ?_
    refine tt_ald (x := (I 17 (Int32.toNatClampNeg v4))) rfl rfl ?_
    refine tt_istore (L2 := [some (.ref 0), some (.int v1), some (.int v2), some (.int v3), some (.int ((I 17 (Int32.toNatClampNeg v4))))]) (tt_lt rfl) rfl ?_
    refine tt_mask rfl ?_
    exact rfl
theorem eX9_greatestFlow_87z (N : Nat) (n73 : Nat) (v1 : Int32) (v2 : Int32) (v3 : Int32) (v4 : Int32) (I : gM) : hX9_greatestFlow_87 N n73 0 v1 v2 v3 v4 I = none := (rfl)
set_option maxRecDepth 100000 in
theorem eX9_greatestFlow (N : Nat) (v1 : Int32) (v2 : Int32) (I : gM) : fX9_greatestFlow N [.ref 0, .int v1, .int v2] I = hX9_greatestFlow_0 N v1 v2 I := by
  show gFn 5 (fX9_greatestFlow_k0 N) [.ref 0, .int v1, .int v2] I = (fX9_greatestFlow_k0 N) [some (.ref 0), some (.int v1), some (.int v2), none, none] [] I
  exact tt_fn rfl rfl

