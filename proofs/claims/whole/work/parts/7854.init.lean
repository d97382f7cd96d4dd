/-! ===== the constructors' ends, read straight ===== -/
theorem k81 (N : Nat) (I : gM) : fX8_init_k81 N [some (.ref 0)] [] I = (hV (fX2_clear N [.ref 0, .int 3] (gS (rg 2 9) I)) (rg 2 9) I fun I1 => hV (fX2_putLink N [.ref 0, .int 0, .int 1, .int 1] (gS (rg 2 9) I1)) (rg 2 9) I1 fun I2 => hV (fX2_putLink N [.ref 0, .int 1, .int 2, .int 1] (gS (rg 2 9) I2)) (rg 2 9) I2 fun I3 => hV (fX2_putFlow N [.ref 0, .int 0, .int 2, .int 50, .int 0] (gS (rg 2 9) I3)) (rg 2 9) I3 fun I4 => some (.inl none, I4)) := by
  unfold fX8_init_k81
  refine tt_aload rfl ?_
  refine tt_getr (q := 1) rfl rfl ?_
  refine tt_getr (q := 2) rfl rfl ?_
  refine tt_const ?_
  refine tt_cavV (t := []) ⟨Nat.le_of_ble_eq_true rfl, Nat.le_of_ble_eq_true rfl⟩ rfl rfl rfl (fun I1 => ?_)
  refine tt_aload rfl ?_
  refine tt_getr (q := 1) rfl rfl ?_
  refine tt_getr (q := 2) rfl rfl ?_
  refine tt_const ?_
  refine tt_const ?_
  refine tt_const ?_
  refine tt_cavV (t := []) ⟨Nat.le_of_ble_eq_true rfl, Nat.le_of_ble_eq_true rfl⟩ rfl rfl rfl (fun I2 => ?_)
  refine tt_aload rfl ?_
  refine tt_getr (q := 1) rfl rfl ?_
  refine tt_getr (q := 2) rfl rfl ?_
  refine tt_const ?_
  refine tt_const ?_
  refine tt_const ?_
  refine tt_cavV (t := []) ⟨Nat.le_of_ble_eq_true rfl, Nat.le_of_ble_eq_true rfl⟩ rfl rfl rfl (fun I3 => ?_)
  refine tt_aload rfl ?_
  refine tt_getr (q := 1) rfl rfl ?_
  refine tt_getr (q := 2) rfl rfl ?_
  refine tt_const ?_
  refine tt_const ?_
  refine tt_const ?_
  refine tt_const ?_
  refine tt_cavV (t := []) ⟨Nat.le_of_ble_eq_true rfl, Nat.le_of_ble_eq_true rfl⟩ rfl rfl rfl (fun I4 => ?_)
  exact rfl
theorem k148 (N : Nat) (I : gM) : fX9_init_k148 N [some (.ref 0)] [] I = (hV (fX9_begin N [.ref 0] (gS (rg 0 18) I)) (rg 0 18) I fun I1 => ck 2746 0 <| hV (fX9_layLink N [.ref 0, .int 0, .int 1, .int 1] (gS [2] (gU I1 2 (Int32.toNatClampNeg 0) 3))) [2] (gU I1 2 (Int32.toNatClampNeg 0) 3) fun I2 => hV (fX9_layLink N [.ref 0, .int 1, .int 2, .int 1] (gS [2] I2)) [2] I2 fun I3 => hV (fX9_layFlow N [.ref 0, .int 0, .int 2, .int 50, .int 0] (gS [2] I3)) [2] I3 fun I4 => hV (fX9_takeRead N [.ref 0] (gS (rg 0 18) I4)) (rg 0 18) I4 fun I5 => some (.inl none, I5)) := by
  unfold fX9_init_k148
  refine tt_aload rfl ?_
  refine tt_cavV (t := []) ⟨Nat.le_of_ble_eq_true rfl, Nat.le_of_ble_eq_true rfl⟩ rfl rfl rfl (fun I1 => ?_)
  refine tt_aload rfl ?_
  refine tt_getr (q := 2) rfl rfl ?_
  refine tt_const ?_
  refine tt_const ?_
  refine tt_ast (v := 3) rfl rfl ?_
  refine tt_aload rfl ?_
  refine tt_getr (q := 2) rfl rfl ?_
  refine tt_const ?_
  refine tt_const ?_
  refine tt_const ?_
  refine tt_caV (t := []) ⟨Nat.le_of_ble_eq_true rfl, Nat.le_of_ble_eq_true rfl⟩ rfl rfl rfl (fun I2 => ?_)
  refine tt_aload rfl ?_
  refine tt_getr (q := 2) rfl rfl ?_
  refine tt_const ?_
  refine tt_const ?_
  refine tt_const ?_
  refine tt_caV (t := []) ⟨Nat.le_of_ble_eq_true rfl, Nat.le_of_ble_eq_true rfl⟩ rfl rfl rfl (fun I3 => ?_)
  refine tt_aload rfl ?_
  refine tt_getr (q := 2) rfl rfl ?_
  refine tt_const ?_
  refine tt_const ?_
  refine tt_const ?_
  refine tt_const ?_
  refine tt_caV (t := []) ⟨Nat.le_of_ble_eq_true rfl, Nat.le_of_ble_eq_true rfl⟩ rfl rfl rfl (fun I4 => ?_)
  refine tt_aload rfl ?_
  refine tt_cavV (t := []) ⟨Nat.le_of_ble_eq_true rfl, Nat.le_of_ble_eq_true rfl⟩ rfl rfl rfl (fun I5 => ?_)
  exact rfl
