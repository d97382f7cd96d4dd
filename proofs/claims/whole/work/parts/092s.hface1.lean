def hX8_setRate_0 (N : Nat) (v1 : Int32) (v2 : Int32) (I : gM) : gO := fX8_setRate_k0 N [some (.ref 0), some (.int v1), some (.int v2)] [] I
set_option maxRecDepth 100000 in
theorem eX8_setRate_0 (N : Nat) (v1 : Int32) (v2 : Int32) (I : gM) : hX8_setRate_0 N v1 v2 I =
  (hXV (fX8_checkFlow N [.ref 0, .int v1] (gS (rg 0 204) I)) (rg 0 204) I fun I1 => hXV (fX8_checkRange N [.int v2, .int 0, .int 300] (gS [] I1)) [] I1 fun I2 => hI (fX8_replaceNumber N [.ref 0, .int v1, .int 2, .int v2] (gS (rg 0 204) I2)) (rg 0 204) I2 fun x3 I3 => some (.inl (some (.int x3)), I3)) := by
  show (fX8_setRate_k0 N) [some (.ref 0), some (.int v1), some (.int v2)] [] I = _
  unfold fX8_setRate_k0
  refine tt_aload rfl ?_
  refine tt_iload rfl ?_
  refine tt_cavXV (t := []) ⟨Nat.le_of_ble_eq_true rfl, Nat.le_of_ble_eq_true rfl⟩ rfl rfl rfl (fun I1 => ?_)
  refine tt_iload rfl ?_
  refine tt_const ?_
  refine tt_const ?_
  refine tt_caXV (t := []) ⟨Nat.le_of_ble_eq_true rfl, Nat.le_of_ble_eq_true rfl⟩ rfl rfl rfl (fun I2 => ?_)
  refine tt_aload rfl ?_
  refine tt_iload rfl ?_
  refine tt_const ?_
  refine tt_iload rfl ?_
  refine tt_cavI (t := []) ⟨Nat.le_of_ble_eq_true rfl, Nat.le_of_ble_eq_true rfl⟩ rfl rfl rfl (fun x3 I3 => ?_)
  exact rfl
set_option maxRecDepth 100000 in
theorem eX8_setRate (N : Nat) (v1 : Int32) (v2 : Int32) (I : gM) : fX8_setRate N [.ref 0, .int v1, .int v2] I = hX8_setRate_0 N v1 v2 I := by
  show gFn 3 (fX8_setRate_k0 N) [.ref 0, .int v1, .int v2] I = (fX8_setRate_k0 N) [some (.ref 0), some (.int v1), some (.int v2)] [] I
  exact tt_fn rfl rfl

def hX8_setBudget_0 (N : Nat) (v1 : Int32) (v2 : Int32) (I : gM) : gO := fX8_setBudget_k0 N [some (.ref 0), some (.int v1), some (.int v2)] [] I
set_option maxRecDepth 100000 in
theorem eX8_setBudget_0 (N : Nat) (v1 : Int32) (v2 : Int32) (I : gM) : hX8_setBudget_0 N v1 v2 I =
  (hXV (fX8_checkFlow N [.ref 0, .int v1] (gS (rg 0 204) I)) (rg 0 204) I fun I1 => hXV (fX8_checkRange N [.int v2, .int 0, .int 200] (gS [] I1)) [] I1 fun I2 => hI (fX8_replaceNumber N [.ref 0, .int v1, .int 3, .int v2] (gS (rg 0 204) I2)) (rg 0 204) I2 fun x3 I3 => some (.inl (some (.int x3)), I3)) := by
  show (fX8_setBudget_k0 N) [some (.ref 0), some (.int v1), some (.int v2)] [] I = _
  unfold fX8_setBudget_k0
  refine tt_aload rfl ?_
  refine tt_iload rfl ?_
  refine tt_cavXV (t := []) ⟨Nat.le_of_ble_eq_true rfl, Nat.le_of_ble_eq_true rfl⟩ rfl rfl rfl (fun I1 => ?_)
  refine tt_iload rfl ?_
  refine tt_const ?_
  refine tt_const ?_
  refine tt_caXV (t := []) ⟨Nat.le_of_ble_eq_true rfl, Nat.le_of_ble_eq_true rfl⟩ rfl rfl rfl (fun I2 => ?_)
  refine tt_aload rfl ?_
  refine tt_iload rfl ?_
  refine tt_const ?_
  refine tt_iload rfl ?_
  refine tt_cavI (t := []) ⟨Nat.le_of_ble_eq_true rfl, Nat.le_of_ble_eq_true rfl⟩ rfl rfl rfl (fun x3 I3 => ?_)
  exact rfl
set_option maxRecDepth 100000 in
theorem eX8_setBudget (N : Nat) (v1 : Int32) (v2 : Int32) (I : gM) : fX8_setBudget N [.ref 0, .int v1, .int v2] I = hX8_setBudget_0 N v1 v2 I := by
  show gFn 3 (fX8_setBudget_k0 N) [.ref 0, .int v1, .int v2] I = (fX8_setBudget_k0 N) [some (.ref 0), some (.int v1), some (.int v2)] [] I
  exact tt_fn rfl rfl

def hX8_set_0 (N : Nat) (v1 : Int32) (v2 : Int32) (I : gM) : gO := fX8_set_k0 N [some (.ref 0), some (.int v1), some (.int v2), none] [] I
def hX8_set_27 (N : Nat) (v1 : Int32) (v2 : Int32) (I : gM) : gO := fX8_set_k27 N [some (.ref 0), some (.int v1), some (.int v2), none] [] I
set_option maxRecDepth 100000 in
theorem eX8_set_0 (N : Nat) (v1 : Int32) (v2 : Int32) (I : gM) : hX8_set_0 N v1 v2 I =
  (hXV (fX8_checkRange N [.int v1, .int 0, .int 3] (gS [] I)) [] I fun I1 => if gRng 1200 1201 1200 ∧ ¬ (v1 < 0 ∨ 4 ≤ (v1).toNatClampNeg) then hXV (fX8_checkRange N [.int v2, .int 0, .int ((gGS.getD (v1).toNatClampNeg 0))] (gS [] I1)) [] I1 fun I2 => hV (fX1_remember N [.ref 0, .ref 122] (gS (rg 61 122 ++ rg 1 20) I2)) (rg 61 122 ++ rg 1 20) I2 fun I3 => hX8_set_27 N v1 v2 I3 else none) := by
  show (fX8_set_k0 N) [some (.ref 0), some (.int v1), some (.int v2), none] [] I = _
  unfold fX8_set_k0
  refine tt_iload rfl ?_
  refine tt_const ?_
  refine tt_const ?_
  refine tt_caXV (t := []) ⟨Nat.le_of_ble_eq_true rfl, Nat.le_of_ble_eq_true rfl⟩ rfl rfl rfl (fun I1 => ?_)
  refine tt_iload rfl ?_
  refine tt_const ?_
  refine tt_pref rfl ?_
  refine tt_iload rfl ?_
  refine tt_tld ?_
  refine tt_caXV (t := []) ⟨Nat.le_of_ble_eq_true rfl, Nat.le_of_ble_eq_true rfl⟩ rfl rfl rfl (fun I2 => ?_)
  refine tt_aload rfl ?_
  refine tt_getr (q := 61) rfl rfl ?_
  refine tt_aload rfl ?_
  refine tt_getr (q := 1) rfl rfl ?_
  refine tt_cavV (t := []) ⟨Nat.le_of_ble_eq_true rfl, Nat.le_of_ble_eq_true rfl⟩ rfl rfl rfl (fun I3 => ?_)
  refine tt_mask rfl ?_
  exact rfl
set_option maxRecDepth 100000 in
theorem eX8_set_27 (N : Nat) (v1 : Int32) (v2 : Int32) (I : gM) : hX8_set_27 N v1 v2 I =
  (ck 4 v1 <| ck 4 v1 <| some (.inl (some (.int ((I 8 (Int32.toNatClampNeg v1))))), (gU I 8 (Int32.toNatClampNeg v1) v2))) := by
  show (fX8_set_k27 N) [some (.ref 0), some (.int v1), some (.int v2), none] [] I = _
  unfold fX8_set_k27
  refine tt_aload rfl ?_
  refine tt_getr (q := 1) rfl rfl ?_
  refine tt_getr (q := 2) rfl rfl ?_
  refine tt_getr (q := 8) rfl rfl ?_
  refine tt_iload rfl ?_
  refine tt_ald (x := (I 8 (Int32.toNatClampNeg v1))) rfl rfl ?_
  refine tt_istore (L2 := [some (.ref 0), some (.int v1), some (.int v2), some (.int ((I 8 (Int32.toNatClampNeg v1))))]) (tt_lt rfl) rfl ?_
  refine tt_aload rfl ?_
  refine tt_getr (q := 1) rfl rfl ?_
  refine tt_getr (q := 2) rfl rfl ?_
  refine tt_getr (q := 8) rfl rfl ?_
  refine tt_iload rfl ?_
  refine tt_iload rfl ?_
  refine tt_ast (v := v2) rfl rfl ?_
  refine tt_iload rfl ?_
  exact rfl
set_option maxRecDepth 100000 in
theorem eX8_set (N : Nat) (v1 : Int32) (v2 : Int32) (I : gM) : fX8_set N [.ref 0, .int v1, .int v2] I = hX8_set_0 N v1 v2 I := by
  show gFn 4 (fX8_set_k0 N) [.ref 0, .int v1, .int v2] I = (fX8_set_k0 N) [some (.ref 0), some (.int v1), some (.int v2), none] [] I
  exact tt_fn rfl rfl

def hX8_inject_0 (N : Nat) (v1 : Int32) (v2 : Int32) (I : gM) : gO := fX8_inject_k0 N [some (.ref 0), some (.int v1), some (.int v2)] [] I
def hX8_inject_23 (N : Nat) (v1 : Int32) (v2 : Int32) (I : gM) : gO := fX8_inject_k23 N [some (.ref 0), some (.int v1), some (.int v2)] [] I
set_option maxRecDepth 100000 in
theorem eX8_inject_0 (N : Nat) (v1 : Int32) (v2 : Int32) (I : gM) : hX8_inject_0 N v1 v2 I =
  (hXV (fX8_checkFlow N [.ref 0, .int v1] (gS (rg 0 204) I)) (rg 0 204) I fun I1 => hXV (fX8_checkRange N [.int v2, .int 1, .int 100] (gS [] I1)) [] I1 fun I2 => hV (fX1_remember N [.ref 0, .ref 122] (gS (rg 61 122 ++ rg 1 20) I2)) (rg 61 122 ++ rg 1 20) I2 fun I3 => hX8_inject_23 N v1 v2 I3) := by
  show (fX8_inject_k0 N) [some (.ref 0), some (.int v1), some (.int v2)] [] I = _
  unfold fX8_inject_k0
  refine tt_aload rfl ?_
  refine tt_iload rfl ?_
  refine tt_cavXV (t := []) ⟨Nat.le_of_ble_eq_true rfl, Nat.le_of_ble_eq_true rfl⟩ rfl rfl rfl (fun I1 => ?_)
  refine tt_iload rfl ?_
  refine tt_const ?_
  refine tt_const ?_
  refine tt_caXV (t := []) ⟨Nat.le_of_ble_eq_true rfl, Nat.le_of_ble_eq_true rfl⟩ rfl rfl rfl (fun I2 => ?_)
  refine tt_aload rfl ?_
  refine tt_getr (q := 61) rfl rfl ?_
  refine tt_aload rfl ?_
  refine tt_getr (q := 1) rfl rfl ?_
  refine tt_cavV (t := []) ⟨Nat.le_of_ble_eq_true rfl, Nat.le_of_ble_eq_true rfl⟩ rfl rfl rfl (fun I3 => ?_)
  refine tt_mask rfl ?_
  exact rfl
set_option maxRecDepth 100000 in
theorem eX8_inject_23 (N : Nat) (v1 : Int32) (v2 : Int32) (I : gM) : hX8_inject_23 N v1 v2 I =
  (hI (fX7_arrive N [.ref 0, .int v1, .int v2] (gS (rg 1 20) I)) (rg 1 20) I fun x4 I4 => some (.inl (some (.int x4)), I4)) := by
  show (fX8_inject_k23 N) [some (.ref 0), some (.int v1), some (.int v2)] [] I = _
  unfold fX8_inject_k23
  refine tt_aload rfl ?_
  refine tt_getr (q := 1) rfl rfl ?_
  refine tt_iload rfl ?_
  refine tt_iload rfl ?_
  refine tt_cavI (t := []) ⟨Nat.le_of_ble_eq_true rfl, Nat.le_of_ble_eq_true rfl⟩ rfl rfl rfl (fun x4 I4 => ?_)
  exact rfl
set_option maxRecDepth 100000 in
theorem eX8_inject (N : Nat) (v1 : Int32) (v2 : Int32) (I : gM) : fX8_inject N [.ref 0, .int v1, .int v2] I = hX8_inject_0 N v1 v2 I := by
  show gFn 3 (fX8_inject_k0 N) [.ref 0, .int v1, .int v2] I = (fX8_inject_k0 N) [some (.ref 0), some (.int v1), some (.int v2)] [] I
  exact tt_fn rfl rfl

def hX8_flush_0 (N : Nat) (v1 : Int32) (v2 : Int32) (I : gM) : gO := fX8_flush_k0 N [some (.ref 0), some (.int v1), some (.int v2)] [] I
def hX8_flush_26 (N : Nat) (s1 : Int32) (I : gM) : gO := fX8_flush_k26 N [none, none, none] [.int s1, .ref 1] I
set_option maxRecDepth 100000 in
theorem eX8_flush_0 (N : Nat) (v1 : Int32) (v2 : Int32) (I : gM) : hX8_flush_0 N v1 v2 I =
  (hXV (fX8_checkTwoNodes N [.ref 0, .int v1, .int v2] (gS (rg 0 204) I)) (rg 0 204) I fun I1 => hV (fX1_remember N [.ref 0, .ref 122] (gS (rg 61 122 ++ rg 1 20) I1)) (rg 61 122 ++ rg 1 20) I1 fun I2 => hI (fX8_pair N [.int v1, .int v2] (gS [] I2)) [] I2 fun x3 I3 => hX8_flush_26 N x3 I3) := by
  show (fX8_flush_k0 N) [some (.ref 0), some (.int v1), some (.int v2)] [] I = _
  unfold fX8_flush_k0
  refine tt_aload rfl ?_
  refine tt_iload rfl ?_
  refine tt_iload rfl ?_
  refine tt_cavXV (t := []) ⟨Nat.le_of_ble_eq_true rfl, Nat.le_of_ble_eq_true rfl⟩ rfl rfl rfl (fun I1 => ?_)
  refine tt_aload rfl ?_
  refine tt_getr (q := 61) rfl rfl ?_
  refine tt_aload rfl ?_
  refine tt_getr (q := 1) rfl rfl ?_
  refine tt_cavV (t := []) ⟨Nat.le_of_ble_eq_true rfl, Nat.le_of_ble_eq_true rfl⟩ rfl rfl rfl (fun I2 => ?_)
  refine tt_aload rfl ?_
  refine tt_getr (q := 1) rfl rfl ?_
  refine tt_iload rfl ?_
  refine tt_iload rfl ?_
  refine tt_caI (t := [.ref 1]) ⟨Nat.le_of_ble_eq_true rfl, Nat.le_of_ble_eq_true rfl⟩ rfl rfl rfl (fun x3 I3 => ?_)
  refine tt_mask rfl ?_
  exact rfl
set_option maxRecDepth 100000 in
theorem eX8_flush_26 (N : Nat) (s1 : Int32) (I : gM) : hX8_flush_26 N s1 I =
  (hI (fX7_loseAll N [.ref 0, .int s1] (gS (rg 1 20) I)) (rg 1 20) I fun x4 I4 => some (.inl (some (.int x4)), I4)) := by
  show (fX8_flush_k26 N) [none, none, none] [.int s1, .ref 1] I = _
  unfold fX8_flush_k26
  refine tt_cavI (t := []) ⟨Nat.le_of_ble_eq_true rfl, Nat.le_of_ble_eq_true rfl⟩ rfl rfl rfl (fun x4 I4 => ?_)
  exact rfl
set_option maxRecDepth 100000 in
theorem eX8_flush (N : Nat) (v1 : Int32) (v2 : Int32) (I : gM) : fX8_flush N [.ref 0, .int v1, .int v2] I = hX8_flush_0 N v1 v2 I := by
  show gFn 3 (fX8_flush_k0 N) [.ref 0, .int v1, .int v2] I = (fX8_flush_k0 N) [some (.ref 0), some (.int v1), some (.int v2)] [] I
  exact tt_fn rfl rfl

def hX8_resetShadows_0 (N : Nat) (I : gM) : gO := fX8_resetShadows_k0 N [some (.ref 0), none] [] I
set_option maxRecDepth 100000 in
theorem eX8_resetShadows_0 (N : Nat) (I : gM) : hX8_resetShadows_0 N I =
  (hV (fX1_remember N [.ref 0, .ref 122] (gS (rg 61 122 ++ rg 1 20) I)) (rg 61 122 ++ rg 1 20) I fun I1 => hJ (fX8_sum N [.ref 0] (gS [15] I1)) [15] I1 fun x2 I2 => hV (fJF_fill N 100 [.ref 0, .int 0] (gS [15] I2)) [15] I2 fun I3 => some (.inl (some (.int ((x2).toInt32))), I3)) := by
  show (fX8_resetShadows_k0 N) [some (.ref 0), none] [] I = _
  unfold fX8_resetShadows_k0
  refine tt_aload rfl ?_
  refine tt_getr (q := 61) rfl rfl ?_
  refine tt_aload rfl ?_
  refine tt_getr (q := 1) rfl rfl ?_
  refine tt_cavV (t := []) ⟨Nat.le_of_ble_eq_true rfl, Nat.le_of_ble_eq_true rfl⟩ rfl rfl rfl (fun I1 => ?_)
  refine tt_aload rfl ?_
  refine tt_getr (q := 1) rfl rfl ?_
  refine tt_getr (q := 11) rfl rfl ?_
  refine tt_getr (q := 15) rfl rfl ?_
  refine tt_caJ (t := []) ⟨Nat.le_of_ble_eq_true rfl, Nat.le_of_ble_eq_true rfl⟩ rfl rfl rfl (fun x2 I2 => ?_)
  refine tt_l2i ?_
  refine tt_istore (L2 := [some (.ref 0), some (.int ((x2).toInt32))]) (tt_lt rfl) rfl ?_
  refine tt_aload rfl ?_
  refine tt_getr (q := 1) rfl rfl ?_
  refine tt_getr (q := 11) rfl rfl ?_
  refine tt_getr (q := 15) rfl rfl ?_
  refine tt_const ?_
  refine tt_caV (t := []) ⟨Nat.le_of_ble_eq_true rfl, Nat.le_of_ble_eq_true rfl⟩ rfl rfl rfl (fun I3 => ?_)
  refine tt_iload rfl ?_
  exact rfl
set_option maxRecDepth 100000 in
theorem eX8_resetShadows (N : Nat) (I : gM) : fX8_resetShadows N [.ref 0] I = hX8_resetShadows_0 N I := by
  show gFn 2 (fX8_resetShadows_k0 N) [.ref 0] I = (fX8_resetShadows_k0 N) [some (.ref 0), none] [] I
  exact tt_fn rfl rfl

def hX8_run_0 (N : Nat) (v1 : Int32) (I : gM) : gO := fX8_run_k0 N [some (.ref 0), some (.int v1)] [] I
def hX8_run_55 (N : Nat) (I : gM) : gO := fX8_run_k55 N [some (.ref 0), none] [] I
set_option maxRecDepth 100000 in
theorem eX8_run_0 (N : Nat) (v1 : Int32) (I : gM) : hX8_run_0 N v1 I =
  (hXV (fX8_checkRange N [.int v1, .int 1, .int 50] (gS [] I)) [] I fun I1 => if gc_le ((gb_add (I1 1 2) v1)) 9999 = true then (hV (fX1_remember N [.ref 0, .ref 122] (gS (rg 61 122 ++ rg 1 20) I1)) (rg 61 122 ++ rg 1 20) I1 fun I2 => hV (fX6_passSlots N [.ref 0, .ref 7, .int v1] (gS (rg 194 7 ++ rg 1 20) I2)) (rg 194 7 ++ rg 1 20) I2 fun I3 => hX8_run_55 N I3) else (some (.inr "java/lang/IllegalArgumentException", I1))) := by
  show (fX8_run_k0 N) [some (.ref 0), some (.int v1)] [] I = _
  unfold fX8_run_k0
  refine tt_iload rfl ?_
  refine tt_const ?_
  refine tt_const ?_
  refine tt_caXV (t := []) ⟨Nat.le_of_ble_eq_true rfl, Nat.le_of_ble_eq_true rfl⟩ rfl rfl rfl (fun I1 => ?_)
  refine tt_aload rfl ?_
  refine tt_getr (q := 1) rfl rfl ?_
  refine tt_get (x := (I1 1 2)) rfl rfl rfl ?_
  refine tt_iload rfl ?_
  refine tt_bin ?_
  refine tt_const ?_
  refine tt_cmp ?_ ?_
  · skip
    refine tt_aload rfl ?_
    refine tt_getr (q := 61) rfl rfl ?_
    refine tt_aload rfl ?_
    refine tt_getr (q := 1) rfl rfl ?_
    refine tt_cavV (t := []) ⟨Nat.le_of_ble_eq_true rfl, Nat.le_of_ble_eq_true rfl⟩ rfl rfl rfl (fun I2 => ?_)
    refine tt_aload rfl ?_
    refine tt_getr (q := 194) rfl rfl ?_
    refine tt_aload rfl ?_
    refine tt_getr (q := 1) rfl rfl ?_
    refine tt_iload rfl ?_
    refine tt_cavV (t := []) ⟨Nat.le_of_ble_eq_true rfl, Nat.le_of_ble_eq_true rfl⟩ rfl rfl rfl (fun I3 => ?_)
    refine tt_mask rfl ?_
    exact rfl
  · skip
    exact tt_throw (Nat.le_of_ble_eq_true rfl)
set_option maxRecDepth 100000 in
theorem eX8_run_55 (N : Nat) (I : gM) : hX8_run_55 N I =
  (some (.inl (some (.int (I 11 11))), I)) := by
  show (fX8_run_k55 N) [some (.ref 0), none] [] I = _
  unfold fX8_run_k55
  refine tt_aload rfl ?_
  refine tt_getr (q := 1) rfl rfl ?_
  refine tt_getr (q := 11) rfl rfl ?_
  refine tt_get (x := (I 11 11)) rfl rfl rfl ?_
  exact rfl
set_option maxRecDepth 100000 in
theorem eX8_run (N : Nat) (v1 : Int32) (I : gM) : fX8_run N [.ref 0, .int v1] I = hX8_run_0 N v1 I := by
  show gFn 2 (fX8_run_k0 N) [.ref 0, .int v1] I = (fX8_run_k0 N) [some (.ref 0), some (.int v1)] [] I
  exact tt_fn rfl rfl

def hX8_undo_0 (N : Nat) (I : gM) : gO := fX8_undo_k0 N [some (.ref 0)] [] I
set_option maxRecDepth 100000 in
theorem eX8_undo_0 (N : Nat) (I : gM) : hX8_undo_0 N I =
  (if gz_ne (I 61 1) = true then (hV (fX1_takeBack N [.ref 0, .ref 122] (gS (rg 61 122 ++ rg 1 20) I)) (rg 61 122 ++ rg 1 20) I fun I1 => some (.inl (some (.int (I1 61 1))), I1)) else (some (.inr "java/lang/IllegalStateException", I))) := by
  show (fX8_undo_k0 N) [some (.ref 0)] [] I = _
  unfold fX8_undo_k0
  refine tt_aload rfl ?_
  refine tt_getr (q := 61) rfl rfl ?_
  refine tt_get (x := (I 61 1)) rfl rfl rfl ?_
  refine tt_if ?_ ?_
  · skip
    refine tt_aload rfl ?_
    refine tt_getr (q := 61) rfl rfl ?_
    refine tt_aload rfl ?_
    refine tt_getr (q := 1) rfl rfl ?_
    refine tt_cavV (t := []) ⟨Nat.le_of_ble_eq_true rfl, Nat.le_of_ble_eq_true rfl⟩ rfl rfl rfl (fun I1 => ?_)
    refine tt_aload rfl ?_
    refine tt_getr (q := 61) rfl rfl ?_
    refine tt_get (x := (I1 61 1)) rfl rfl rfl ?_
    exact rfl
  · skip
    exact tt_throw (Nat.le_of_ble_eq_true rfl)
set_option maxRecDepth 100000 in
theorem eX8_undo (N : Nat) (I : gM) : fX8_undo N [.ref 0] I = hX8_undo_0 N I := by
  show gFn 1 (fX8_undo_k0 N) [.ref 0] I = (fX8_undo_k0 N) [some (.ref 0)] [] I
  exact tt_fn rfl rfl

def hX8_undoCount_0 (N : Nat) (I : gM) : gO := fX8_undoCount_k0 N [some (.ref 0)] [] I
set_option maxRecDepth 100000 in
theorem eX8_undoCount_0 (N : Nat) (I : gM) : hX8_undoCount_0 N I =
  (some (.inl (some (.int (I 61 1))), I)) := by
  show (fX8_undoCount_k0 N) [some (.ref 0)] [] I = _
  unfold fX8_undoCount_k0
  refine tt_aload rfl ?_
  refine tt_getr (q := 61) rfl rfl ?_
  refine tt_get (x := (I 61 1)) rfl rfl rfl ?_
  exact rfl
set_option maxRecDepth 100000 in
theorem eX8_undoCount (N : Nat) (I : gM) : fX8_undoCount N [.ref 0] I = hX8_undoCount_0 N I := by
  show gFn 1 (fX8_undoCount_k0 N) [.ref 0] I = (fX8_undoCount_k0 N) [some (.ref 0)] [] I
  exact tt_fn rfl rfl

def hX8_save_0 (N : Nat) (I : gM) : gO := fX8_save_k0 N [some (.ref 0)] [] I
set_option maxRecDepth 100000 in
theorem eX8_save_0 (N : Nat) (I : gM) : hX8_save_0 N I =
  (hV (fX7_copyFrom N [.ref 0, .ref 20] (gS (rg 21 20 ++ rg 1 20) I)) (rg 21 20 ++ rg 1 20) I fun I1 => some (.inl (some (.int (I1 1 2))), (gU I1 0 7 1))) := by
  show (fX8_save_k0 N) [some (.ref 0)] [] I = _
  unfold fX8_save_k0
  refine tt_aload rfl ?_
  refine tt_getr (q := 21) rfl rfl ?_
  refine tt_aload rfl ?_
  refine tt_getr (q := 1) rfl rfl ?_
  refine tt_cavV (t := []) ⟨Nat.le_of_ble_eq_true rfl, Nat.le_of_ble_eq_true rfl⟩ rfl rfl rfl (fun I1 => ?_)
  refine tt_aload rfl ?_
  refine tt_const ?_
  refine tt_putz1 rfl rfl (by decide) ?_
  refine tt_aload rfl ?_
  refine tt_getr (q := 1) rfl rfl ?_
  refine tt_get (x := (I1 1 2)) rfl rfl rfl ?_
  exact rfl
set_option maxRecDepth 100000 in
theorem eX8_save (N : Nat) (I : gM) : fX8_save N [.ref 0] I = hX8_save_0 N I := by
  show gFn 1 (fX8_save_k0 N) [.ref 0] I = (fX8_save_k0 N) [some (.ref 0)] [] I
  exact tt_fn rfl rfl

def hX8_restore_0 (N : Nat) (I : gM) : gO := fX8_restore_k0 N [some (.ref 0)] [] I
set_option maxRecDepth 100000 in
theorem eX8_restore_0 (N : Nat) (I : gM) : hX8_restore_0 N I =
  (if gz_ne (I 0 7) = true then (hV (fX7_copyFrom N [.ref 0, .ref 20] (gS (rg 1 40) I)) (rg 1 40) I fun I1 => some (.inl (some (.int (I1 1 2))), (gU I1 61 1 0))) else (some (.inr "java/lang/IllegalStateException", I))) := by
  show (fX8_restore_k0 N) [some (.ref 0)] [] I = _
  unfold fX8_restore_k0
  refine tt_aload rfl ?_
  refine tt_get (x := (I 0 7)) rfl rfl rfl ?_
  refine tt_if ?_ ?_
  · skip
    refine tt_aload rfl ?_
    refine tt_getr (q := 1) rfl rfl ?_
    refine tt_aload rfl ?_
    refine tt_getr (q := 21) rfl rfl ?_
    refine tt_cavV (t := []) ⟨Nat.le_of_ble_eq_true rfl, Nat.le_of_ble_eq_true rfl⟩ rfl rfl rfl (fun I1 => ?_)
    refine tt_aload rfl ?_
    refine tt_getr (q := 61) rfl rfl ?_
    refine tt_const ?_
    refine tt_put rfl rfl ?_
    refine tt_aload rfl ?_
    refine tt_getr (q := 1) rfl rfl ?_
    refine tt_get (x := (I1 1 2)) rfl rfl rfl ?_
    exact rfl
  · skip
    exact tt_throw (Nat.le_of_ble_eq_true rfl)
set_option maxRecDepth 100000 in
theorem eX8_restore (N : Nat) (I : gM) : fX8_restore N [.ref 0] I = hX8_restore_0 N I := by
  show gFn 1 (fX8_restore_k0 N) [.ref 0] I = (fX8_restore_k0 N) [some (.ref 0)] [] I
  exact tt_fn rfl rfl

def hX8_count_0 (N : Nat) (v1 : Int32) (I : gM) : gO := fX8_count_k0 N [some (.ref 0), some (.int v1)] [] I
set_option maxRecDepth 100000 in
theorem eX8_count_0 (N : Nat) (v1 : Int32) (I : gM) : hX8_count_0 N v1 I =
  (hXV (fX8_checkRange N [.int v1, .int 0, .int 6] (gS [] I)) [] I fun I1 => hT v1 0 2 (ck 4 (gb_sub v1 3) <| some (.inl (some (.int ((I1 8 ((Int32.toNatClampNeg (gb_sub v1 3))))))), I1)) [some (.inl (some (.int (I1 2 0))), I1), some (.inl (some (.int (I1 2 1))), I1), some (.inl (some (.int (I1 2 2))), I1)]) := by
  show (fX8_count_k0 N) [some (.ref 0), some (.int v1)] [] I = _
  unfold fX8_count_k0
  refine tt_iload rfl ?_
  refine tt_const ?_
  refine tt_const ?_
  refine tt_caXV (t := []) ⟨Nat.le_of_ble_eq_true rfl, Nat.le_of_ble_eq_true rfl⟩ rfl rfl rfl (fun I1 => ?_)
  refine tt_iload rfl ?_
  refine tt_tab ?_ ?_
  · skip
    refine tt_aload rfl ?_
    refine tt_getr (q := 1) rfl rfl ?_
    refine tt_getr (q := 2) rfl rfl ?_
    refine tt_getr (q := 8) rfl rfl ?_
    refine tt_iload rfl ?_
    refine tt_const ?_
    refine tt_bin ?_
    refine tt_ald (x := (I1 8 ((Int32.toNatClampNeg (gb_sub v1 3))))) rfl rfl ?_
    exact rfl
  · skip
    refine (List.cons_eq_cons.mpr ⟨?_, (List.cons_eq_cons.mpr ⟨?_, (List.cons_eq_cons.mpr ⟨?_, rfl⟩)⟩)⟩)
    · skip
      refine tt_aload rfl ?_
      refine tt_getr (q := 1) rfl rfl ?_
      refine tt_getr (q := 2) rfl rfl ?_
      refine tt_get (x := (I1 2 0)) rfl rfl rfl ?_
      exact rfl
    · skip
      refine tt_aload rfl ?_
      refine tt_getr (q := 1) rfl rfl ?_
      refine tt_getr (q := 2) rfl rfl ?_
      refine tt_get (x := (I1 2 1)) rfl rfl rfl ?_
      exact rfl
    · skip
      refine tt_aload rfl ?_
      refine tt_getr (q := 1) rfl rfl ?_
      refine tt_getr (q := 2) rfl rfl ?_
      refine tt_get (x := (I1 2 2)) rfl rfl rfl ?_
      exact rfl
set_option maxRecDepth 100000 in
theorem eX8_count (N : Nat) (v1 : Int32) (I : gM) : fX8_count N [.ref 0, .int v1] I = hX8_count_0 N v1 I := by
  show gFn 2 (fX8_count_k0 N) [.ref 0, .int v1] I = (fX8_count_k0 N) [some (.ref 0), some (.int v1)] [] I
  exact tt_fn rfl rfl

def hX8_plannedNumber_0 (N : Nat) (v1 : Int32) (v2 : Int32) (I : gM) : gO := fX8_plannedNumber_k0 N [some (.ref 0), some (.int v1), some (.int v2), none, none] [] I
set_option maxRecDepth 100000 in
theorem eX8_plannedNumber_0 (N : Nat) (v1 : Int32) (v2 : Int32) (I : gM) : hX8_plannedNumber_0 N v1 v2 I =
  (ck 4 3 <| hI (fX3_choose N [.ref 0, .ref 3, .int ((I 8 (Int32.toNatClampNeg 3)))] (gS (rg 195 3 ++ rg 1 20) I)) (rg 195 3 ++ rg 1 20) I fun x1 I1 => hT v2 4 6 (hI (fX3_countCarried N [.ref 0, .ref 3, .int x1, .int v1] (gS (rg 195 3 ++ rg 1 20) I1)) (rg 195 3 ++ rg 1 20) I1 fun x2 I2 => some (.inl (some (.int x2)), I2)) [ck 14 v1 <| some (.inl (some (.int ((I1 196 (Int32.toNatClampNeg v1))))), I1), ck 14 v1 <| some (.inl (some (.int ((I1 197 (Int32.toNatClampNeg v1))))), I1), some (.inl (some (.int ((gb_and (gb_shr x1 v1) 1)))), I1)]) := by
  show (fX8_plannedNumber_k0 N) [some (.ref 0), some (.int v1), some (.int v2), none, none] [] I = _
  unfold fX8_plannedNumber_k0
  refine tt_aload rfl ?_
  refine tt_getr (q := 194) rfl rfl ?_
  refine tt_getr (q := 195) rfl rfl ?_
  refine tt_astore (L2 := [some (.ref 0), some (.int v1), some (.int v2), some (.ref 195), none]) (tt_lt rfl) rfl ?_
  refine tt_aload rfl ?_
  refine tt_aload rfl ?_
  refine tt_getr (q := 1) rfl rfl ?_
  refine tt_aload rfl ?_
  refine tt_getr (q := 1) rfl rfl ?_
  refine tt_getr (q := 2) rfl rfl ?_
  refine tt_getr (q := 8) rfl rfl ?_
  refine tt_const ?_
  refine tt_ald (x := (I 8 (Int32.toNatClampNeg 3))) rfl rfl ?_
  refine tt_cavI (t := []) ⟨Nat.le_of_ble_eq_true rfl, Nat.le_of_ble_eq_true rfl⟩ rfl rfl rfl (fun x1 I1 => ?_)
  refine tt_istore (L2 := [some (.ref 0), some (.int v1), some (.int v2), some (.ref 195), some (.int x1)]) (tt_lt rfl) rfl ?_
  refine tt_iload rfl ?_
  refine tt_tab ?_ ?_
  · skip
    refine tt_aload rfl ?_
    refine tt_aload rfl ?_
    refine tt_getr (q := 1) rfl rfl ?_
    refine tt_iload rfl ?_
    refine tt_iload rfl ?_
    refine tt_cavI (t := []) ⟨Nat.le_of_ble_eq_true rfl, Nat.le_of_ble_eq_true rfl⟩ rfl rfl rfl (fun x2 I2 => ?_)
    exact rfl
  · skip
    refine (List.cons_eq_cons.mpr ⟨?_, (List.cons_eq_cons.mpr ⟨?_, (List.cons_eq_cons.mpr ⟨?_, rfl⟩)⟩)⟩)
    · skip
      refine tt_aload rfl ?_
      refine tt_getr (q := 196) rfl rfl ?_
      refine tt_iload rfl ?_
      refine tt_ald (x := (I1 196 (Int32.toNatClampNeg v1))) rfl rfl ?_
      exact rfl
    · skip
      refine tt_aload rfl ?_
      refine tt_getr (q := 197) rfl rfl ?_
      refine tt_iload rfl ?_
      refine tt_ald (x := (I1 197 (Int32.toNatClampNeg v1))) rfl rfl ?_
      exact rfl
    · skip
      refine tt_iload rfl ?_
      refine tt_iload rfl ?_
      refine tt_bin ?_
      refine tt_const ?_
      refine tt_bin ?_
      exact rfl
set_option maxRecDepth 100000 in
theorem eX8_plannedNumber (N : Nat) (v1 : Int32) (v2 : Int32) (I : gM) : fX8_plannedNumber N [.ref 0, .int v1, .int v2] I = hX8_plannedNumber_0 N v1 v2 I := by
  show gFn 5 (fX8_plannedNumber_k0 N) [.ref 0, .int v1, .int v2] I = (fX8_plannedNumber_k0 N) [some (.ref 0), some (.int v1), some (.int v2), none, none] [] I
  exact tt_fn rfl rfl

def hX8_link_0 (N : Nat) (v1 : Int32) (v2 : Int32) (I : gM) : gO := fX8_link_k0 N [some (.ref 0), some (.int v1), some (.int v2)] [] I
set_option maxRecDepth 100000 in
theorem eX8_link_0 (N : Nat) (v1 : Int32) (v2 : Int32) (I : gM) : hX8_link_0 N v1 v2 I =
  (hXV (fX8_checkLink N [.ref 0, .int v1] (gS (rg 0 204) I)) (rg 0 204) I fun I1 => hXV (fX8_checkRange N [.int v2, .int 0, .int 7] (gS [] I1)) [] I1 fun I2 => hT v2 0 3 (hI (fX8_plannedNumber N [.ref 0, .int v1, .int v2] (gS (rg 0 204) I2)) (rg 0 204) I2 fun x3 I3 => some (.inl (some (.int x3)), I3)) [ck 14 v1 <| some (.inl (some (.int ((I2 3 (Int32.toNatClampNeg v1))))), I2), ck 14 v1 <| some (.inl (some (.int ((I2 4 (Int32.toNatClampNeg v1))))), I2), ck 14 v1 <| some (.inl (some (.int ((I2 5 (Int32.toNatClampNeg v1))))), I2), ck 14 v1 <| some (.inl (some (.int ((I2 6 (Int32.toNatClampNeg v1))))), I2)]) := by
  show (fX8_link_k0 N) [some (.ref 0), some (.int v1), some (.int v2)] [] I = _
  unfold fX8_link_k0
  refine tt_aload rfl ?_
  refine tt_iload rfl ?_
  refine tt_cavXV (t := []) ⟨Nat.le_of_ble_eq_true rfl, Nat.le_of_ble_eq_true rfl⟩ rfl rfl rfl (fun I1 => ?_)
  refine tt_iload rfl ?_
  refine tt_const ?_
  refine tt_const ?_
  refine tt_caXV (t := []) ⟨Nat.le_of_ble_eq_true rfl, Nat.le_of_ble_eq_true rfl⟩ rfl rfl rfl (fun I2 => ?_)
  refine tt_iload rfl ?_
  refine tt_tab ?_ ?_
  · skip
    refine tt_aload rfl ?_
    refine tt_iload rfl ?_
    refine tt_iload rfl ?_
    refine tt_cavI (t := []) ⟨Nat.le_of_ble_eq_true rfl, Nat.le_of_ble_eq_true rfl⟩ rfl rfl rfl (fun x3 I3 => ?_)
    exact rfl
  · skip
    refine (List.cons_eq_cons.mpr ⟨?_, (List.cons_eq_cons.mpr ⟨?_, (List.cons_eq_cons.mpr ⟨?_, (List.cons_eq_cons.mpr ⟨?_, rfl⟩)⟩)⟩)⟩)
    · skip
      refine tt_aload rfl ?_
      refine tt_getr (q := 1) rfl rfl ?_
      refine tt_getr (q := 2) rfl rfl ?_
      refine tt_getr (q := 3) rfl rfl ?_
      refine tt_iload rfl ?_
      refine tt_ald (x := (I2 3 (Int32.toNatClampNeg v1))) rfl rfl ?_
      exact rfl
    · skip
      refine tt_aload rfl ?_
      refine tt_getr (q := 1) rfl rfl ?_
      refine tt_getr (q := 2) rfl rfl ?_
      refine tt_getr (q := 4) rfl rfl ?_
      refine tt_iload rfl ?_
      refine tt_ald (x := (I2 4 (Int32.toNatClampNeg v1))) rfl rfl ?_
      exact rfl
    · skip
      refine tt_aload rfl ?_
      refine tt_getr (q := 1) rfl rfl ?_
      refine tt_getr (q := 2) rfl rfl ?_
      refine tt_getr (q := 5) rfl rfl ?_
      refine tt_iload rfl ?_
      refine tt_ald (x := (I2 5 (Int32.toNatClampNeg v1))) rfl rfl ?_
      exact rfl
    · skip
      refine tt_aload rfl ?_
      refine tt_getr (q := 1) rfl rfl ?_
      refine tt_getr (q := 2) rfl rfl ?_
      refine tt_getr (q := 6) rfl rfl ?_
      refine tt_iload rfl ?_
      refine tt_ald (x := (I2 6 (Int32.toNatClampNeg v1))) rfl rfl ?_
      exact rfl
set_option maxRecDepth 100000 in
theorem eX8_link (N : Nat) (v1 : Int32) (v2 : Int32) (I : gM) : fX8_link N [.ref 0, .int v1, .int v2] I = hX8_link_0 N v1 v2 I := by
  show gFn 3 (fX8_link_k0 N) [.ref 0, .int v1, .int v2] I = (fX8_link_k0 N) [some (.ref 0), some (.int v1), some (.int v2)] [] I
  exact tt_fn rfl rfl

