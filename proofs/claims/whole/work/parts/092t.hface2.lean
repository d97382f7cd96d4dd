def hX8_conflicts_0 (N : Nat) (v1 : Int32) (I : gM) : gO := fX8_conflicts_k0 N [some (.ref 0), some (.int v1)] [] I
set_option maxRecDepth 100000 in
theorem eX8_conflicts_0 (N : Nat) (v1 : Int32) (I : gM) : hX8_conflicts_0 N v1 I =
  (hXV (fX8_checkLink N [.ref 0, .int v1] (gS (rg 0 204) I)) (rg 0 204) I fun I1 => ck 14 v1 <| some (.inl (some (.int ((I1 7 (Int32.toNatClampNeg v1))))), I1)) := by
  show (fX8_conflicts_k0 N) [some (.ref 0), some (.int v1)] [] I = _
  unfold fX8_conflicts_k0
  refine tt_aload rfl ?_
  refine tt_iload rfl ?_
  refine tt_cavXV (t := []) ⟨Nat.le_of_ble_eq_true rfl, Nat.le_of_ble_eq_true rfl⟩ rfl rfl rfl (fun I1 => ?_)
  refine tt_aload rfl ?_
  refine tt_getr (q := 1) rfl rfl ?_
  refine tt_getr (q := 2) rfl rfl ?_
  refine tt_getr (q := 7) rfl rfl ?_
  refine tt_iload rfl ?_
  refine tt_ald (x := (I1 7 (Int32.toNatClampNeg v1))) rfl rfl ?_
  exact rfl
set_option maxRecDepth 100000 in
theorem eX8_conflicts (N : Nat) (v1 : Int32) (I : gM) : fX8_conflicts N [.ref 0, .int v1] I = hX8_conflicts_0 N v1 I := by
  show gFn 2 (fX8_conflicts_k0 N) [.ref 0, .int v1] I = (fX8_conflicts_k0 N) [some (.ref 0), some (.int v1)] [] I
  exact tt_fn rfl rfl

def hX8_flow_0 (N : Nat) (v1 : Int32) (v2 : Int32) (I : gM) : gO := fX8_flow_k0 N [some (.ref 0), some (.int v1), some (.int v2)] [] I
set_option maxRecDepth 100000 in
theorem eX8_flow_0 (N : Nat) (v1 : Int32) (v2 : Int32) (I : gM) : hX8_flow_0 N v1 v2 I =
  (hXV (fX8_checkFlow N [.ref 0, .int v1] (gS (rg 0 204) I)) (rg 0 204) I fun I1 => hXV (fX8_checkRange N [.int v2, .int 0, .int 10] (gS [] I1)) [] I1 fun I2 => hI (fX2_getNumber N [.ref 0, .int v1, .int v2] (gS (rg 2 9) I2)) (rg 2 9) I2 fun x3 I3 => some (.inl (some (.int x3)), I3)) := by
  show (fX8_flow_k0 N) [some (.ref 0), some (.int v1), some (.int v2)] [] I = _
  unfold fX8_flow_k0
  refine tt_aload rfl ?_
  refine tt_iload rfl ?_
  refine tt_cavXV (t := []) ⟨Nat.le_of_ble_eq_true rfl, Nat.le_of_ble_eq_true rfl⟩ rfl rfl rfl (fun I1 => ?_)
  refine tt_iload rfl ?_
  refine tt_const ?_
  refine tt_const ?_
  refine tt_caXV (t := []) ⟨Nat.le_of_ble_eq_true rfl, Nat.le_of_ble_eq_true rfl⟩ rfl rfl rfl (fun I2 => ?_)
  refine tt_aload rfl ?_
  refine tt_getr (q := 1) rfl rfl ?_
  refine tt_getr (q := 2) rfl rfl ?_
  refine tt_iload rfl ?_
  refine tt_iload rfl ?_
  refine tt_cavI (t := []) ⟨Nat.le_of_ble_eq_true rfl, Nat.le_of_ble_eq_true rfl⟩ rfl rfl rfl (fun x3 I3 => ?_)
  exact rfl
set_option maxRecDepth 100000 in
theorem eX8_flow (N : Nat) (v1 : Int32) (v2 : Int32) (I : gM) : fX8_flow N [.ref 0, .int v1, .int v2] I = hX8_flow_0 N v1 v2 I := by
  show gFn 3 (fX8_flow_k0 N) [.ref 0, .int v1, .int v2] I = (fX8_flow_k0 N) [some (.ref 0), some (.int v1), some (.int v2)] [] I
  exact tt_fn rfl rfl

def hX8_hops_0 (N : Nat) (v1 : Int32) (v2 : Int32) (I : gM) : gO := fX8_hops_k0 N [some (.ref 0), some (.int v1), some (.int v2)] [] I
set_option maxRecDepth 100000 in
theorem eX8_hops_0 (N : Nat) (v1 : Int32) (v2 : Int32) (I : gM) : hX8_hops_0 N v1 v2 I =
  (hXV (fX8_checkNode N [.ref 0, .int v1] (gS (rg 0 204) I)) (rg 0 204) I fun I1 => hXV (fX8_checkNode N [.ref 0, .int v2] (gS (rg 0 204) I1)) (rg 0 204) I1 fun I2 => hI (fX8_pair N [.int v1, .int v2] (gS [] I2)) [] I2 fun x3 I3 => ck 100 x3 <| some (.inl (some (.int ((I3 10 (Int32.toNatClampNeg x3))))), I3)) := by
  show (fX8_hops_k0 N) [some (.ref 0), some (.int v1), some (.int v2)] [] I = _
  unfold fX8_hops_k0
  refine tt_aload rfl ?_
  refine tt_iload rfl ?_
  refine tt_cavXV (t := []) ⟨Nat.le_of_ble_eq_true rfl, Nat.le_of_ble_eq_true rfl⟩ rfl rfl rfl (fun I1 => ?_)
  refine tt_aload rfl ?_
  refine tt_iload rfl ?_
  refine tt_cavXV (t := []) ⟨Nat.le_of_ble_eq_true rfl, Nat.le_of_ble_eq_true rfl⟩ rfl rfl rfl (fun I2 => ?_)
  refine tt_aload rfl ?_
  refine tt_getr (q := 1) rfl rfl ?_
  refine tt_getr (q := 2) rfl rfl ?_
  refine tt_getr (q := 10) rfl rfl ?_
  refine tt_iload rfl ?_
  refine tt_iload rfl ?_
  refine tt_caI (t := [.ref 10]) ⟨Nat.le_of_ble_eq_true rfl, Nat.le_of_ble_eq_true rfl⟩ rfl rfl rfl (fun x3 I3 => ?_)
  refine tt_ald (x := (I3 10 (Int32.toNatClampNeg x3))) rfl rfl ?_
  exact rfl
set_option maxRecDepth 100000 in
theorem eX8_hops (N : Nat) (v1 : Int32) (v2 : Int32) (I : gM) : fX8_hops N [.ref 0, .int v1, .int v2] I = hX8_hops_0 N v1 v2 I := by
  show gFn 3 (fX8_hops_k0 N) [.ref 0, .int v1, .int v2] I = (fX8_hops_k0 N) [some (.ref 0), some (.int v1), some (.int v2)] [] I
  exact tt_fn rfl rfl

def hX8_maxFlow_0 (N : Nat) (v1 : Int32) (v2 : Int32) (I : gM) : gO := fX8_maxFlow_k0 N [some (.ref 0), some (.int v1), some (.int v2)] [] I
set_option maxRecDepth 100000 in
theorem eX8_maxFlow_0 (N : Nat) (v1 : Int32) (v2 : Int32) (I : gM) : hX8_maxFlow_0 N v1 v2 I =
  (hXV (fX8_checkTwoNodes N [.ref 0, .int v1, .int v2] (gS (rg 0 204) I)) (rg 0 204) I fun I1 => hV (fX0_find N [.ref 0, .ref 3, .int v1, .int v2] (gS (rg 201 3 ++ rg 2 9) I1)) (rg 201 3 ++ rg 2 9) I1 fun I2 => some (.inl (some (.int (I2 201 2))), I2)) := by
  show (fX8_maxFlow_k0 N) [some (.ref 0), some (.int v1), some (.int v2)] [] I = _
  unfold fX8_maxFlow_k0
  refine tt_aload rfl ?_
  refine tt_iload rfl ?_
  refine tt_iload rfl ?_
  refine tt_cavXV (t := []) ⟨Nat.le_of_ble_eq_true rfl, Nat.le_of_ble_eq_true rfl⟩ rfl rfl rfl (fun I1 => ?_)
  refine tt_aload rfl ?_
  refine tt_getr (q := 201) rfl rfl ?_
  refine tt_aload rfl ?_
  refine tt_getr (q := 1) rfl rfl ?_
  refine tt_getr (q := 2) rfl rfl ?_
  refine tt_iload rfl ?_
  refine tt_iload rfl ?_
  refine tt_cavV (t := []) ⟨Nat.le_of_ble_eq_true rfl, Nat.le_of_ble_eq_true rfl⟩ rfl rfl rfl (fun I2 => ?_)
  refine tt_aload rfl ?_
  refine tt_getr (q := 201) rfl rfl ?_
  refine tt_get (x := (I2 201 2)) rfl rfl rfl ?_
  exact rfl
set_option maxRecDepth 100000 in
theorem eX8_maxFlow (N : Nat) (v1 : Int32) (v2 : Int32) (I : gM) : fX8_maxFlow N [.ref 0, .int v1, .int v2] I = hX8_maxFlow_0 N v1 v2 I := by
  show gFn 3 (fX8_maxFlow_k0 N) [.ref 0, .int v1, .int v2] I = (fX8_maxFlow_k0 N) [some (.ref 0), some (.int v1), some (.int v2)] [] I
  exact tt_fn rfl rfl

def hX8_cutSide_0 (N : Nat) (v1 : Int32) (v2 : Int32) (I : gM) : gO := fX8_cutSide_k0 N [some (.ref 0), some (.int v1), some (.int v2)] [] I
set_option maxRecDepth 100000 in
theorem eX8_cutSide_0 (N : Nat) (v1 : Int32) (v2 : Int32) (I : gM) : hX8_cutSide_0 N v1 v2 I =
  (hXV (fX8_checkTwoNodes N [.ref 0, .int v1, .int v2] (gS (rg 0 204) I)) (rg 0 204) I fun I1 => hV (fX0_find N [.ref 0, .ref 3, .int v1, .int v2] (gS (rg 201 3 ++ rg 2 9) I1)) (rg 201 3 ++ rg 2 9) I1 fun I2 => some (.inl (some (.int (I2 201 3))), I2)) := by
  show (fX8_cutSide_k0 N) [some (.ref 0), some (.int v1), some (.int v2)] [] I = _
  unfold fX8_cutSide_k0
  refine tt_aload rfl ?_
  refine tt_iload rfl ?_
  refine tt_iload rfl ?_
  refine tt_cavXV (t := []) ⟨Nat.le_of_ble_eq_true rfl, Nat.le_of_ble_eq_true rfl⟩ rfl rfl rfl (fun I1 => ?_)
  refine tt_aload rfl ?_
  refine tt_getr (q := 201) rfl rfl ?_
  refine tt_aload rfl ?_
  refine tt_getr (q := 1) rfl rfl ?_
  refine tt_getr (q := 2) rfl rfl ?_
  refine tt_iload rfl ?_
  refine tt_iload rfl ?_
  refine tt_cavV (t := []) ⟨Nat.le_of_ble_eq_true rfl, Nat.le_of_ble_eq_true rfl⟩ rfl rfl rfl (fun I2 => ?_)
  refine tt_aload rfl ?_
  refine tt_getr (q := 201) rfl rfl ?_
  refine tt_get (x := (I2 201 3)) rfl rfl rfl ?_
  exact rfl
set_option maxRecDepth 100000 in
theorem eX8_cutSide (N : Nat) (v1 : Int32) (v2 : Int32) (I : gM) : fX8_cutSide N [.ref 0, .int v1, .int v2] I = hX8_cutSide_0 N v1 v2 I := by
  show gFn 3 (fX8_cutSide_k0 N) [.ref 0, .int v1, .int v2] I = (fX8_cutSide_k0 N) [some (.ref 0), some (.int v1), some (.int v2)] [] I
  exact tt_fn rfl rfl

def hX8_overloaded_0 (N : Nat) (I : gM) : gO := fX8_overloaded_k0 N [some (.ref 0), none, none, none] [] I
def hX8_overloaded_12 (N : Nat) (n12 : Nat) (v2 : Int32) (v3 : Int32) (I : gM) : gO := s_lp (fX8_overloaded_b12 N) n12 [some (.ref 0), some (.ref 2), some (.int v2), some (.int v3)] [] I
def hX8_overloaded_40 (N : Nat) (n12 : Nat) (v2 : Int32) (v3 : Int32) (I : gM) : gO := fX8_overloaded_k40 N (s_lp (fX8_overloaded_b12 N) n12) [some (.ref 0), some (.ref 2), some (.int v2), some (.int v3)] [] I
def hX8_overloaded_65 (N : Nat) (n12 : Nat) (v2 : Int32) (v3 : Int32) (I : gM) : gO := fX8_overloaded_k65 N (s_lp (fX8_overloaded_b12 N) n12) [some (.ref 0), some (.ref 2), some (.int v2), some (.int v3)] [] I
set_option maxRecDepth 100000 in
theorem eX8_overloaded_0 (N : Nat) (I : gM) : hX8_overloaded_0 N I =
  (hX8_overloaded_12 N N 0 0 I) := by
  show (fX8_overloaded_k0 N) [some (.ref 0), none, none, none] [] I = _
  unfold fX8_overloaded_k0
  refine tt_aload rfl ?_
  refine tt_getr (q := 1) rfl rfl ?_
  refine tt_getr (q := 2) rfl rfl ?_
  refine tt_astore (L2 := [some (.ref 0), some (.ref 2), none, none]) (tt_lt rfl) rfl ?_
  refine tt_const ?_
  refine tt_istore (L2 := [some (.ref 0), some (.ref 2), some (.int 0), none]) (tt_lt rfl) rfl ?_
  refine tt_const ?_
  refine tt_istore (L2 := [some (.ref 0), some (.ref 2), some (.int 0), some (.int 0)]) (tt_lt rfl) rfl ?_
  refine tt_mask rfl ?_
  exact rfl
set_option maxRecDepth 100000 in
theorem eX8_overloaded_12 (N : Nat) (n12 : Nat) (v2 : Int32) (v3 : Int32) (I : gM) : hX8_overloaded_12 N (n12 + 1) v2 v3 I =
  (if gc_ge v3 (I 2 2) = true then (some (.inl (some (.int v2)), I)) else (hI (fX2_getNumber N [.ref 0, .int v3, .int 0] (gS (rg 2 9) I)) (rg 2 9) I fun x1 I1 => hI (fX2_getNumber N [.ref 0, .int v3, .int 1] (gS (rg 2 9) I1)) (rg 2 9) I1 fun x2 I2 => hV (fX0_find N [.ref 0, .ref 3, .int x1, .int x2] (gS (rg 201 3 ++ rg 2 9) I2)) (rg 201 3 ++ rg 2 9) I2 fun I3 => hX8_overloaded_40 N n12 v2 v3 I3)) := by
  show (fX8_overloaded_b12 N (s_lp (fX8_overloaded_b12 N) n12)) [some (.ref 0), some (.ref 2), some (.int v2), some (.int v3)] [] I = _
  unfold fX8_overloaded_b12
  refine tt_iload rfl ?_
  refine tt_aload rfl ?_
  refine tt_get (x := (I 2 2)) rfl rfl rfl ?_
  refine tt_cmp ?_ ?_
  · skip
    refine tt_iload rfl ?_
    exact rfl
  · skip
    refine tt_aload rfl ?_
    refine tt_getr (q := 201) rfl rfl ?_
    refine tt_aload rfl ?_
    refine tt_aload rfl ?_
    refine tt_iload rfl ?_
    refine tt_const ?_
    refine tt_cavI (t := [.ref 2, .ref 201]) ⟨Nat.le_of_ble_eq_true rfl, Nat.le_of_ble_eq_true rfl⟩ rfl rfl rfl (fun x1 I1 => ?_)
    refine tt_aload rfl ?_
    refine tt_iload rfl ?_
    refine tt_const ?_
    refine tt_cavI (t := [.int x1, .ref 2, .ref 201]) ⟨Nat.le_of_ble_eq_true rfl, Nat.le_of_ble_eq_true rfl⟩ rfl rfl rfl (fun x2 I2 => ?_)
    refine tt_cavV (t := []) ⟨Nat.le_of_ble_eq_true rfl, Nat.le_of_ble_eq_true rfl⟩ rfl rfl rfl (fun I3 => ?_)
    refine tt_mask rfl ?_
    exact rfl
theorem eX8_overloaded_12z (N : Nat) (v2 : Int32) (v3 : Int32) (I : gM) : hX8_overloaded_12 N 0 v2 v3 I = none := (rfl)
set_option maxRecDepth 100000 in
theorem eX8_overloaded_40 (N : Nat) (n12 : Nat) (v2 : Int32) (v3 : Int32) (I : gM) : hX8_overloaded_40 N n12 v2 v3 I =
  (hI (fX2_getNumber N [.ref 0, .int v3, .int 2] (gS (rg 2 9) I)) (rg 2 9) I fun x4 I4 => if gc_le x4 ((gb_mul 100 (I4 201 2))) = true then (hX8_overloaded_65 N n12 v2 v3 I4) else (hX8_overloaded_65 N n12 ((gb_or v2 (gb_shl 1 v3))) v3 I4)) := by
  show (fX8_overloaded_k40 N (s_lp (fX8_overloaded_b12 N) n12)) [some (.ref 0), some (.ref 2), some (.int v2), some (.int v3)] [] I = _
  unfold fX8_overloaded_k40
  refine tt_aload rfl ?_
  refine tt_iload rfl ?_
  refine tt_const ?_
  refine tt_cavI (t := []) ⟨Nat.le_of_ble_eq_true rfl, Nat.le_of_ble_eq_true rfl⟩ rfl rfl rfl (fun x4 I4 => ?_)
  refine tt_const ?_
  refine tt_aload rfl ?_
  refine tt_getr (q := 201) rfl rfl ?_
  refine tt_get (x := (I4 201 2)) rfl rfl rfl ?_
  refine tt_bin ?_
  refine tt_cmp ?_ ?_
  · skip
    refine tt_mask rfl ?_
    exact rfl
  · skip
    refine tt_iload rfl ?_
    refine tt_const ?_
    refine tt_iload rfl ?_
    refine tt_bin ?_
    refine tt_bin ?_
    refine tt_istore (L2 := [some (.ref 0), some (.ref 2), some (.int ((gb_or v2 (gb_shl 1 v3)))), some (.int v3)]) (tt_lt rfl) rfl ?_
    refine tt_mask rfl ?_
    exact rfl
set_option maxRecDepth 100000 in
theorem eX8_overloaded_65 (N : Nat) (n12 : Nat) (v2 : Int32) (v3 : Int32) (I : gM) : hX8_overloaded_65 N n12 v2 v3 I =
  (hX8_overloaded_12 N n12 v2 (v3 + 1) I) := by
  show (fX8_overloaded_k65 N (s_lp (fX8_overloaded_b12 N) n12)) [some (.ref 0), some (.ref 2), some (.int v2), some (.int v3)] [] I = _
  unfold fX8_overloaded_k65
  refine tt_iinc (L2 := [some (.ref 0), some (.ref 2), some (.int v2), some (.int (v3 + 1))]) rfl rfl ?_
  refine tt_mask rfl ?_
  exact rfl
set_option maxRecDepth 100000 in
theorem eX8_overloaded (N : Nat) (I : gM) : fX8_overloaded N [.ref 0] I = hX8_overloaded_0 N I := by
  show gFn 4 (fX8_overloaded_k0 N) [.ref 0] I = (fX8_overloaded_k0 N) [some (.ref 0), none, none, none] [] I
  exact tt_fn rfl rfl

def hX8_queue_0 (N : Nat) (v1 : Int32) (v2 : Int32) (I : gM) : gO := fX8_queue_k0 N [some (.ref 0), some (.int v1), some (.int v2)] [] I
set_option maxRecDepth 100000 in
theorem eX8_queue_0 (N : Nat) (v1 : Int32) (v2 : Int32) (I : gM) : hX8_queue_0 N v1 v2 I =
  (hXV (fX8_checkTwoNodes N [.ref 0, .int v1, .int v2] (gS (rg 0 204) I)) (rg 0 204) I fun I1 => hI (fX8_pair N [.int v1, .int v2] (gS [] I1)) [] I1 fun x2 I2 => ck 100 x2 <| some (.inl (some (.int ((I2 14 (Int32.toNatClampNeg x2))))), I2)) := by
  show (fX8_queue_k0 N) [some (.ref 0), some (.int v1), some (.int v2)] [] I = _
  unfold fX8_queue_k0
  refine tt_aload rfl ?_
  refine tt_iload rfl ?_
  refine tt_iload rfl ?_
  refine tt_cavXV (t := []) ⟨Nat.le_of_ble_eq_true rfl, Nat.le_of_ble_eq_true rfl⟩ rfl rfl rfl (fun I1 => ?_)
  refine tt_aload rfl ?_
  refine tt_getr (q := 1) rfl rfl ?_
  refine tt_getr (q := 11) rfl rfl ?_
  refine tt_getr (q := 14) rfl rfl ?_
  refine tt_iload rfl ?_
  refine tt_iload rfl ?_
  refine tt_caI (t := [.ref 14]) ⟨Nat.le_of_ble_eq_true rfl, Nat.le_of_ble_eq_true rfl⟩ rfl rfl rfl (fun x2 I2 => ?_)
  refine tt_ald (x := (I2 14 (Int32.toNatClampNeg x2))) rfl rfl ?_
  exact rfl
set_option maxRecDepth 100000 in
theorem eX8_queue (N : Nat) (v1 : Int32) (v2 : Int32) (I : gM) : fX8_queue N [.ref 0, .int v1, .int v2] I = hX8_queue_0 N v1 v2 I := by
  show gFn 3 (fX8_queue_k0 N) [.ref 0, .int v1, .int v2] I = (fX8_queue_k0 N) [some (.ref 0), some (.int v1), some (.int v2)] [] I
  exact tt_fn rfl rfl

def hX8_shadow_0 (N : Nat) (v1 : Int32) (v2 : Int32) (I : gM) : gO := fX8_shadow_k0 N [some (.ref 0), some (.int v1), some (.int v2)] [] I
set_option maxRecDepth 100000 in
theorem eX8_shadow_0 (N : Nat) (v1 : Int32) (v2 : Int32) (I : gM) : hX8_shadow_0 N v1 v2 I =
  (hXV (fX8_checkTwoNodes N [.ref 0, .int v1, .int v2] (gS (rg 0 204) I)) (rg 0 204) I fun I1 => hI (fX8_pair N [.int v1, .int v2] (gS [] I1)) [] I1 fun x2 I2 => ck 100 x2 <| some (.inl (some (.int ((I2 15 (Int32.toNatClampNeg x2))))), I2)) := by
  show (fX8_shadow_k0 N) [some (.ref 0), some (.int v1), some (.int v2)] [] I = _
  unfold fX8_shadow_k0
  refine tt_aload rfl ?_
  refine tt_iload rfl ?_
  refine tt_iload rfl ?_
  refine tt_cavXV (t := []) ⟨Nat.le_of_ble_eq_true rfl, Nat.le_of_ble_eq_true rfl⟩ rfl rfl rfl (fun I1 => ?_)
  refine tt_aload rfl ?_
  refine tt_getr (q := 1) rfl rfl ?_
  refine tt_getr (q := 11) rfl rfl ?_
  refine tt_getr (q := 15) rfl rfl ?_
  refine tt_iload rfl ?_
  refine tt_iload rfl ?_
  refine tt_caI (t := [.ref 15]) ⟨Nat.le_of_ble_eq_true rfl, Nat.le_of_ble_eq_true rfl⟩ rfl rfl rfl (fun x2 I2 => ?_)
  refine tt_ald (x := (I2 15 (Int32.toNatClampNeg x2))) rfl rfl ?_
  exact rfl
set_option maxRecDepth 100000 in
theorem eX8_shadow (N : Nat) (v1 : Int32) (v2 : Int32) (I : gM) : fX8_shadow N [.ref 0, .int v1, .int v2] I = hX8_shadow_0 N v1 v2 I := by
  show gFn 3 (fX8_shadow_k0 N) [.ref 0, .int v1, .int v2] I = (fX8_shadow_k0 N) [some (.ref 0), some (.int v1), some (.int v2)] [] I
  exact tt_fn rfl rfl

def hX8_packet_0 (N : Nat) (v1 : Int32) (v2 : Int32) (v3 : Int32) (v4 : Int32) (I : gM) : gO := fX8_packet_k0 N [some (.ref 0), some (.int v1), some (.int v2), some (.int v3), some (.int v4), none] [] I
def hX8_packet_25 (N : Nat) (v3 : Int32) (v4 : Int32) (s1 : Int32) (I : gM) : gO := fX8_packet_k25 N [some (.ref 0), none, none, some (.int v3), some (.int v4), none] [.int s1, .ref 11] I
set_option maxRecDepth 100000 in
theorem eX8_packet_0 (N : Nat) (v1 : Int32) (v2 : Int32) (v3 : Int32) (v4 : Int32) (I : gM) : hX8_packet_0 N v1 v2 v3 v4 I =
  (hXV (fX8_checkTwoNodes N [.ref 0, .int v1, .int v2] (gS (rg 0 204) I)) (rg 0 204) I fun I1 => hXV (fX8_checkRange N [.int v4, .int 0, .int 3] (gS [] I1)) [] I1 fun I2 => hI (fX8_pair N [.int v1, .int v2] (gS [] I2)) [] I2 fun x3 I3 => hX8_packet_25 N v3 v4 x3 I3) := by
  show (fX8_packet_k0 N) [some (.ref 0), some (.int v1), some (.int v2), some (.int v3), some (.int v4), none] [] I = _
  unfold fX8_packet_k0
  refine tt_aload rfl ?_
  refine tt_iload rfl ?_
  refine tt_iload rfl ?_
  refine tt_cavXV (t := []) ⟨Nat.le_of_ble_eq_true rfl, Nat.le_of_ble_eq_true rfl⟩ rfl rfl rfl (fun I1 => ?_)
  refine tt_iload rfl ?_
  refine tt_const ?_
  refine tt_const ?_
  refine tt_caXV (t := []) ⟨Nat.le_of_ble_eq_true rfl, Nat.le_of_ble_eq_true rfl⟩ rfl rfl rfl (fun I2 => ?_)
  refine tt_aload rfl ?_
  refine tt_getr (q := 1) rfl rfl ?_
  refine tt_getr (q := 11) rfl rfl ?_
  refine tt_iload rfl ?_
  refine tt_iload rfl ?_
  refine tt_caI (t := [.ref 11]) ⟨Nat.le_of_ble_eq_true rfl, Nat.le_of_ble_eq_true rfl⟩ rfl rfl rfl (fun x3 I3 => ?_)
  refine tt_mask rfl ?_
  exact rfl
set_option maxRecDepth 100000 in
theorem eX8_packet_25 (N : Nat) (v3 : Int32) (v4 : Int32) (s1 : Int32) (I : gM) : hX8_packet_25 N v3 v4 s1 I =
  (hI (fX4_find N [.ref 0, .int s1, .int v3] (gS (rg 11 10) I)) (rg 11 10) I fun x4 I4 => if gc_ne x4 (-1) = true then (hT v4 0 2 (ck 500 x4 <| some (.inl (some (.int ((I4 20 (Int32.toNatClampNeg x4))))), I4)) [ck 500 x4 <| some (.inl (some (.int ((I4 17 (Int32.toNatClampNeg x4))))), I4), ck 500 x4 <| some (.inl (some (.int ((I4 18 (Int32.toNatClampNeg x4))))), I4), ck 500 x4 <| some (.inl (some (.int ((I4 19 (Int32.toNatClampNeg x4))))), I4)]) else (some (.inr "java/util/NoSuchElementException", I4))) := by
  show (fX8_packet_k25 N) [some (.ref 0), none, none, some (.int v3), some (.int v4), none] [.int s1, .ref 11] I = _
  unfold fX8_packet_k25
  refine tt_iload rfl ?_
  refine tt_cavI (t := []) ⟨Nat.le_of_ble_eq_true rfl, Nat.le_of_ble_eq_true rfl⟩ rfl rfl rfl (fun x4 I4 => ?_)
  refine tt_istore (L2 := [some (.ref 0), none, none, some (.int v3), some (.int v4), some (.int x4)]) (tt_lt rfl) rfl ?_
  refine tt_iload rfl ?_
  refine tt_const ?_
  refine tt_cmp ?_ ?_
  · skip
    refine tt_iload rfl ?_
    refine tt_tab ?_ ?_
    · skip
      refine tt_aload rfl ?_
      refine tt_getr (q := 1) rfl rfl ?_
      refine tt_getr (q := 11) rfl rfl ?_
      refine tt_getr (q := 20) rfl rfl ?_
      refine tt_iload rfl ?_
      refine tt_ald (x := (I4 20 (Int32.toNatClampNeg x4))) rfl rfl ?_
      exact rfl
    · skip
      refine (List.cons_eq_cons.mpr ⟨?_, (List.cons_eq_cons.mpr ⟨?_, (List.cons_eq_cons.mpr ⟨?_, rfl⟩)⟩)⟩)
      · skip
        refine tt_aload rfl ?_
        refine tt_getr (q := 1) rfl rfl ?_
        refine tt_getr (q := 11) rfl rfl ?_
        refine tt_getr (q := 17) rfl rfl ?_
        refine tt_iload rfl ?_
        refine tt_ald (x := (I4 17 (Int32.toNatClampNeg x4))) rfl rfl ?_
        exact rfl
      · skip
        refine tt_aload rfl ?_
        refine tt_getr (q := 1) rfl rfl ?_
        refine tt_getr (q := 11) rfl rfl ?_
        refine tt_getr (q := 18) rfl rfl ?_
        refine tt_iload rfl ?_
        refine tt_ald (x := (I4 18 (Int32.toNatClampNeg x4))) rfl rfl ?_
        exact rfl
      · skip
        refine tt_aload rfl ?_
        refine tt_getr (q := 1) rfl rfl ?_
        refine tt_getr (q := 11) rfl rfl ?_
        refine tt_getr (q := 19) rfl rfl ?_
        refine tt_iload rfl ?_
        refine tt_ald (x := (I4 19 (Int32.toNatClampNeg x4))) rfl rfl ?_
        exact rfl
  · skip
    exact tt_throw (Nat.le_of_ble_eq_true rfl)
set_option maxRecDepth 100000 in
theorem eX8_packet (N : Nat) (v1 : Int32) (v2 : Int32) (v3 : Int32) (v4 : Int32) (I : gM) : fX8_packet N [.ref 0, .int v1, .int v2, .int v3, .int v4] I = hX8_packet_0 N v1 v2 v3 v4 I := by
  show gFn 6 (fX8_packet_k0 N) [.ref 0, .int v1, .int v2, .int v3, .int v4] I = (fX8_packet_k0 N) [some (.ref 0), some (.int v1), some (.int v2), some (.int v3), some (.int v4), none] [] I
  exact tt_fn rfl rfl

def hX8_totalOf_0 (N : Nat) (v1 : Int32) (I : gM) : gO := fX8_totalOf_k0 N [some (.ref 0), some (.int v1)] [] I
set_option maxRecDepth 100000 in
theorem eX8_totalOf_0 (N : Nat) (v1 : Int32) (I : gM) : hX8_totalOf_0 N v1 I =
  (hT v1 0 4 (hJ (fX8_sumOfSquares N [.ref 0] (gS [14] I)) [14] I fun x1 I1 => some (.inl (some (.long x1)), I1)) [some (.inl (some (.long (((I 0 2)).toInt64))), I), some (.inl (some (.long (((I 10 11)).toInt64))), I), some (.inl (some (.long (((I 0 3)).toInt64))), I), hJ (fX8_sum N [.ref 0] (gS [14] I)) [14] I fun x2 I2 => some (.inl (some (.long x2)), I2), hJ (fX8_sumOfSquares N [.ref 0] (gS [13] I)) [13] I fun x3 I3 => some (.inl (some (.long x3)), I3)]) := by
  show (fX8_totalOf_k0 N) [some (.ref 0), some (.int v1)] [] I = _
  unfold fX8_totalOf_k0
  refine tt_iload rfl ?_
  refine tt_tab ?_ ?_
  · skip
    refine tt_aload rfl ?_
    refine tt_getr (q := 10) rfl rfl ?_
    refine tt_getr (q := 14) rfl rfl ?_
    refine tt_caJ (t := []) ⟨Nat.le_of_ble_eq_true rfl, Nat.le_of_ble_eq_true rfl⟩ rfl rfl rfl (fun x1 I1 => ?_)
    exact rfl
  · skip
    refine (List.cons_eq_cons.mpr ⟨?_, (List.cons_eq_cons.mpr ⟨?_, (List.cons_eq_cons.mpr ⟨?_, (List.cons_eq_cons.mpr ⟨?_, (List.cons_eq_cons.mpr ⟨?_, rfl⟩)⟩)⟩)⟩)⟩)
    · skip
      refine tt_aload rfl ?_
      refine tt_get (x := (I 0 2)) rfl rfl rfl ?_
      refine tt_i2l ?_
      exact rfl
    · skip
      refine tt_aload rfl ?_
      refine tt_getr (q := 10) rfl rfl ?_
      refine tt_get (x := (I 10 11)) rfl rfl rfl ?_
      refine tt_i2l ?_
      exact rfl
    · skip
      refine tt_aload rfl ?_
      refine tt_get (x := (I 0 3)) rfl rfl rfl ?_
      refine tt_i2l ?_
      exact rfl
    · skip
      refine tt_aload rfl ?_
      refine tt_getr (q := 10) rfl rfl ?_
      refine tt_getr (q := 14) rfl rfl ?_
      refine tt_caJ (t := []) ⟨Nat.le_of_ble_eq_true rfl, Nat.le_of_ble_eq_true rfl⟩ rfl rfl rfl (fun x2 I2 => ?_)
      exact rfl
    · skip
      refine tt_aload rfl ?_
      refine tt_getr (q := 10) rfl rfl ?_
      refine tt_getr (q := 13) rfl rfl ?_
      refine tt_caJ (t := []) ⟨Nat.le_of_ble_eq_true rfl, Nat.le_of_ble_eq_true rfl⟩ rfl rfl rfl (fun x3 I3 => ?_)
      exact rfl
set_option maxRecDepth 100000 in
theorem eX8_totalOf (N : Nat) (v1 : Int32) (I : gM) : fX8_totalOf N [.ref 0, .int v1] I = hX8_totalOf_0 N v1 I := by
  show gFn 2 (fX8_totalOf_k0 N) [.ref 0, .int v1] I = (fX8_totalOf_k0 N) [some (.ref 0), some (.int v1)] [] I
  exact tt_fn rfl rfl

def hX8_total_0 (N : Nat) (v1 : Int32) (I : gM) : gO := fX8_total_k0 N [some (.ref 0), some (.int v1)] [] I
set_option maxRecDepth 100000 in
theorem eX8_total_0 (N : Nat) (v1 : Int32) (I : gM) : hX8_total_0 N v1 I =
  (hXV (fX8_checkRange N [.int v1, .int 0, .int 5] (gS [] I)) [] I fun I1 => hJ (fX8_totalOf N [.ref 0, .int v1] (gS (rg 1 20) I1)) (rg 1 20) I1 fun x2 I2 => some (.inl (some (.long x2)), I2)) := by
  show (fX8_total_k0 N) [some (.ref 0), some (.int v1)] [] I = _
  unfold fX8_total_k0
  refine tt_iload rfl ?_
  refine tt_const ?_
  refine tt_const ?_
  refine tt_caXV (t := []) ⟨Nat.le_of_ble_eq_true rfl, Nat.le_of_ble_eq_true rfl⟩ rfl rfl rfl (fun I1 => ?_)
  refine tt_aload rfl ?_
  refine tt_getr (q := 1) rfl rfl ?_
  refine tt_iload rfl ?_
  refine tt_caJ (t := []) ⟨Nat.le_of_ble_eq_true rfl, Nat.le_of_ble_eq_true rfl⟩ rfl rfl rfl (fun x2 I2 => ?_)
  exact rfl
set_option maxRecDepth 100000 in
theorem eX8_total (N : Nat) (v1 : Int32) (I : gM) : fX8_total N [.ref 0, .int v1] I = hX8_total_0 N v1 I := by
  show gFn 2 (fX8_total_k0 N) [.ref 0, .int v1] I = (fX8_total_k0 N) [some (.ref 0), some (.int v1)] [] I
  exact tt_fn rfl rfl

def hX8_fullest_0 (N : Nat) (I : gM) : gO := fX8_fullest_k0 N [some (.ref 0), none, none, none] [] I
def hX8_fullest_15 (N : Nat) (n15 : Nat) (v2 : Int32) (v3 : Int32) (I : gM) : gO := s_lp (fX8_fullest_b15 N) n15 [none, some (.ref 14), some (.int v2), some (.int v3)] [] I
def hX8_fullest_32 (N : Nat) (n15 : Nat) (v2 : Int32) (v3 : Int32) (I : gM) : gO := fX8_fullest_k32 N (s_lp (fX8_fullest_b15 N) n15) [none, some (.ref 14), some (.int v2), some (.int v3)] [] I
set_option maxRecDepth 100000 in
theorem eX8_fullest_0 (N : Nat) (I : gM) : hX8_fullest_0 N I =
  (hX8_fullest_15 N N 0 1 I) := by
  show (fX8_fullest_k0 N) [some (.ref 0), none, none, none] [] I = _
  unfold fX8_fullest_k0
  refine tt_aload rfl ?_
  refine tt_getr (q := 1) rfl rfl ?_
  refine tt_getr (q := 11) rfl rfl ?_
  refine tt_getr (q := 14) rfl rfl ?_
  refine tt_astore (L2 := [some (.ref 0), some (.ref 14), none, none]) (tt_lt rfl) rfl ?_
  refine tt_const ?_
  refine tt_istore (L2 := [some (.ref 0), some (.ref 14), some (.int 0), none]) (tt_lt rfl) rfl ?_
  refine tt_const ?_
  refine tt_istore (L2 := [some (.ref 0), some (.ref 14), some (.int 0), some (.int 1)]) (tt_lt rfl) rfl ?_
  refine tt_mask rfl ?_
  exact rfl
set_option maxRecDepth 100000 in
theorem eX8_fullest_15 (N : Nat) (n15 : Nat) (v2 : Int32) (v3 : Int32) (I : gM) : hX8_fullest_15 N (n15 + 1) v2 v3 I =
  (if gc_ge v3 100 = true then (ck 100 v2 <| if gz_ne ((I 14 (Int32.toNatClampNeg v2))) = true then (if (10 : Int32) = 0 then none else if (10 : Int32) = 0 then none else some (.inl (some (.int ((gb_add ((gb_mul 100 (gb_div v2 10))) (gb_rem v2 10))))), I)) else (some (.inr "java/util/NoSuchElementException", I))) else (ck 100 v3 <| ck 100 v2 <| if gc_le ((I 14 (Int32.toNatClampNeg v3))) ((I 14 (Int32.toNatClampNeg v2))) = true then (hX8_fullest_32 N n15 v2 v3 I) else (hX8_fullest_32 N n15 v3 v3 I))) := by
  show (fX8_fullest_b15 N (s_lp (fX8_fullest_b15 N) n15)) [none, some (.ref 14), some (.int v2), some (.int v3)] [] I = _
  unfold fX8_fullest_b15
  refine tt_iload rfl ?_
  refine tt_const ?_
  refine tt_cmp ?_ ?_
  · skip
    refine tt_aload rfl ?_
    refine tt_iload rfl ?_
    refine tt_ald (x := (I 14 (Int32.toNatClampNeg v2))) rfl rfl ?_
    refine tt_if ?_ ?_
    · skip
      refine tt_const ?_
      refine tt_iload rfl ?_
      refine tt_const ?_
      refine tt_div ?_
      refine tt_bin ?_
      refine tt_iload rfl ?_
      refine tt_const ?_
      refine tt_div ?_
      refine tt_bin ?_
      exact rfl
    · skip
      exact tt_throw (Nat.le_of_ble_eq_true rfl)
  · skip
    refine tt_aload rfl ?_
    refine tt_iload rfl ?_
    refine tt_ald (x := (I 14 (Int32.toNatClampNeg v3))) rfl rfl ?_
    refine tt_aload rfl ?_
    refine tt_iload rfl ?_
    refine tt_ald (x := (I 14 (Int32.toNatClampNeg v2))) rfl rfl ?_
    refine tt_cmp ?_ ?_
    · skip
      refine tt_mask rfl ?_
      exact rfl
    · skip
      refine tt_iload rfl ?_
      refine tt_istore (L2 := [none, some (.ref 14), some (.int v3), some (.int v3)]) (tt_lt rfl) rfl ?_
      refine tt_mask rfl ?_
      exact rfl
theorem eX8_fullest_15z (N : Nat) (v2 : Int32) (v3 : Int32) (I : gM) : hX8_fullest_15 N 0 v2 v3 I = none := (rfl)
set_option maxRecDepth 100000 in
theorem eX8_fullest_32 (N : Nat) (n15 : Nat) (v2 : Int32) (v3 : Int32) (I : gM) : hX8_fullest_32 N n15 v2 v3 I =
  (hX8_fullest_15 N n15 v2 (v3 + 1) I) := by
  show (fX8_fullest_k32 N (s_lp (fX8_fullest_b15 N) n15)) [none, some (.ref 14), some (.int v2), some (.int v3)] [] I = _
  unfold fX8_fullest_k32
  refine tt_iinc (L2 := [none, some (.ref 14), some (.int v2), some (.int (v3 + 1))]) rfl rfl ?_
  refine tt_mask rfl ?_
  exact rfl
set_option maxRecDepth 100000 in
theorem eX8_fullest (N : Nat) (I : gM) : fX8_fullest N [.ref 0] I = hX8_fullest_0 N I := by
  show gFn 4 (fX8_fullest_k0 N) [.ref 0] I = (fX8_fullest_k0 N) [some (.ref 0), none, none, none] [] I
  exact tt_fn rfl rfl

def hX8_urgent_0 (N : Nat) (I : gM) : gO := fX8_urgent_k0 N [some (.ref 0), none] [] I
set_option maxRecDepth 100000 in
theorem eX8_urgent_0 (N : Nat) (I : gM) : hX8_urgent_0 N I =
  (hI (fX7_leastDeadline N [.ref 0] (gS (rg 1 20) I)) (rg 1 20) I fun x1 I1 => if gc_ne x1 (-1) = true then (some (.inl (some (.int ((gj_max 0 ((gb_sub x1 (I1 1 2))))))), I1)) else (some (.inr "java/util/NoSuchElementException", I1))) := by
  show (fX8_urgent_k0 N) [some (.ref 0), none] [] I = _
  unfold fX8_urgent_k0
  refine tt_aload rfl ?_
  refine tt_getr (q := 1) rfl rfl ?_
  refine tt_cavI (t := []) ⟨Nat.le_of_ble_eq_true rfl, Nat.le_of_ble_eq_true rfl⟩ rfl rfl rfl (fun x1 I1 => ?_)
  refine tt_istore (L2 := [some (.ref 0), some (.int x1)]) (tt_lt rfl) rfl ?_
  refine tt_iload rfl ?_
  refine tt_const ?_
  refine tt_cmp ?_ ?_
  · skip
    refine tt_const ?_
    refine tt_iload rfl ?_
    refine tt_aload rfl ?_
    refine tt_getr (q := 1) rfl rfl ?_
    refine tt_get (x := (I1 1 2)) rfl rfl rfl ?_
    refine tt_bin ?_
    refine tt_jmath (Nat.le_of_ble_eq_true rfl) ?_
    exact rfl
  · skip
    exact tt_throw (Nat.le_of_ble_eq_true rfl)
set_option maxRecDepth 100000 in
theorem eX8_urgent (N : Nat) (I : gM) : fX8_urgent N [.ref 0] I = hX8_urgent_0 N I := by
  show gFn 2 (fX8_urgent_k0 N) [.ref 0] I = (fX8_urgent_k0 N) [some (.ref 0), none] [] I
  exact tt_fn rfl rfl

def hX8_meanDelay_0 (N : Nat) (v1 : Int32) (v2 : Int32) (I : gM) : gO := fX8_meanDelay_k0 N [some (.ref 0), some (.int v1), some (.int v2), none, none, none] [] I
def hX8_meanDelay_32 (N : Nat) (v2 : Int32) (v3 : Int32) (s0 : Int32) (I : gM) : gO := fX8_meanDelay_k32 N [none, none, some (.int v2), some (.int v3), none, none] [.int s0] I
set_option maxRecDepth 100000 in
theorem eX8_meanDelay_0 (N : Nat) (v1 : Int32) (v2 : Int32) (I : gM) : hX8_meanDelay_0 N v1 v2 I =
  (hXV (fX8_checkFlow N [.ref 0, .int v1] (gS (rg 0 204) I)) (rg 0 204) I fun I1 => hI (fX2_getNumber N [.ref 0, .int v1, .int 9] (gS (rg 2 9) I1)) (rg 2 9) I1 fun x2 I2 => hI (fX2_getNumber N [.ref 0, .int v1, .int 6] (gS (rg 2 9) I2)) (rg 2 9) I2 fun x3 I3 => hX8_meanDelay_32 N v2 x2 x3 I3) := by
  show (fX8_meanDelay_k0 N) [some (.ref 0), some (.int v1), some (.int v2), none, none, none] [] I = _
  unfold fX8_meanDelay_k0
  refine tt_aload rfl ?_
  refine tt_iload rfl ?_
  refine tt_cavXV (t := []) ⟨Nat.le_of_ble_eq_true rfl, Nat.le_of_ble_eq_true rfl⟩ rfl rfl rfl (fun I1 => ?_)
  refine tt_aload rfl ?_
  refine tt_getr (q := 1) rfl rfl ?_
  refine tt_getr (q := 2) rfl rfl ?_
  refine tt_iload rfl ?_
  refine tt_const ?_
  refine tt_cavI (t := []) ⟨Nat.le_of_ble_eq_true rfl, Nat.le_of_ble_eq_true rfl⟩ rfl rfl rfl (fun x2 I2 => ?_)
  refine tt_istore (L2 := [some (.ref 0), some (.int v1), some (.int v2), some (.int x2), none, none]) (tt_lt rfl) rfl ?_
  refine tt_aload rfl ?_
  refine tt_getr (q := 1) rfl rfl ?_
  refine tt_getr (q := 2) rfl rfl ?_
  refine tt_iload rfl ?_
  refine tt_const ?_
  refine tt_cavI (t := []) ⟨Nat.le_of_ble_eq_true rfl, Nat.le_of_ble_eq_true rfl⟩ rfl rfl rfl (fun x3 I3 => ?_)
  refine tt_mask rfl ?_
  exact rfl
set_option maxRecDepth 100000 in
theorem eX8_meanDelay_32 (N : Nat) (v2 : Int32) (v3 : Int32) (s0 : Int32) (I : gM) : hX8_meanDelay_32 N v2 v3 s0 I =
  (hI (fX8_commonDivisor N [.int v3, .int s0] (gS [] I)) [] I fun x4 I4 => if gz_eq s0 = true then (some (.inr "java/util/NoSuchElementException", I4)) else (if gz_ne x4 = true then (if gz_eq v2 = true then (if x4 = 0 then none else some (.inl (some (.int (gb_div v3 x4))), I4)) else (if x4 = 0 then none else some (.inl (some (.int (gb_div s0 x4))), I4))) else (some (.inr "java/util/NoSuchElementException", I4)))) := by
  show (fX8_meanDelay_k32 N) [none, none, some (.int v2), some (.int v3), none, none] [.int s0] I = _
  unfold fX8_meanDelay_k32
  refine tt_istore (L2 := [none, none, some (.int v2), some (.int v3), some (.int s0), none]) (tt_lt rfl) rfl ?_
  refine tt_iload rfl ?_
  refine tt_iload rfl ?_
  refine tt_caI (t := []) ⟨Nat.le_of_ble_eq_true rfl, Nat.le_of_ble_eq_true rfl⟩ rfl rfl rfl (fun x4 I4 => ?_)
  refine tt_istore (L2 := [none, none, some (.int v2), some (.int v3), some (.int s0), some (.int x4)]) (tt_lt rfl) rfl ?_
  refine tt_iload rfl ?_
  refine tt_if ?_ ?_
  · skip
    exact tt_throw (Nat.le_of_ble_eq_true rfl)
  · skip
    refine tt_iload rfl ?_
    refine tt_if ?_ ?_
    · skip
      refine tt_iload rfl ?_
      refine tt_if ?_ ?_
      · skip
        refine tt_iload rfl ?_
        refine tt_iload rfl ?_
        refine tt_div ?_
        exact rfl
      · skip
        refine tt_iload rfl ?_
        refine tt_iload rfl ?_
        refine tt_div ?_
        exact rfl
    · skip
      exact tt_throw (Nat.le_of_ble_eq_true rfl)
set_option maxRecDepth 100000 in
theorem eX8_meanDelay (N : Nat) (v1 : Int32) (v2 : Int32) (I : gM) : fX8_meanDelay N [.ref 0, .int v1, .int v2] I = hX8_meanDelay_0 N v1 v2 I := by
  show gFn 6 (fX8_meanDelay_k0 N) [.ref 0, .int v1, .int v2] I = (fX8_meanDelay_k0 N) [some (.ref 0), some (.int v1), some (.int v2), none, none, none] [] I
  exact tt_fn rfl rfl

