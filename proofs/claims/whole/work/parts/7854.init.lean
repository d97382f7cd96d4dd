/-! ===== the constructors' ends, read straight ===== -/
theorem k81 (N : Nat) (I : gM) : fX8_init_k81 N [some (.ref 0)] [] I = (hV (fX2_clear N [.ref 0, .int 3] (gS (rg 2 9) I)) (rg 2 9) I fun I1 => hV (fX2_putLink N [.ref 0, .int 0, .int 1, .int 1] (gS (rg 2 9) I1)) (rg 2 9) I1 fun I2 => hV (fX2_putLink N [.ref 0, .int 1, .int 2, .int 1] (gS (rg 2 9) I2)) (rg 2 9) I2 fun I3 => hV (fX2_putFlow N [.ref 0, .int 0, .int 2, .int 50, .int 0] (gS (rg 2 9) I3)) (rg 2 9) I3 fun I4 => some (.inl none, I4)) := by
  unfold fX8_init_k81
  refine tt_aload rfl ?_
  refine tt_getr (q := 1) rfl rfl ?_
  refine tt_getr (q := 2) rfl rfl ?_
  refine tt_const ?_
  refine tt_cavV (t := []) ⟨Nat.le_of_ble_eq_true rfl, Nat.le_of_ble_eq_true rfl⟩ rfl rfl rfl (fun I1 => ?_)
  refine tt_aload rfl ?_
  refine tt_getr (q := 1) rfl rfl ?_
  refine tt_getr (q := 2) rfl rfl ?_
  refine tt_const ?_
  refine tt_const ?_
  refine tt_const ?_
  refine tt_cavV (t := []) ⟨Nat.le_of_ble_eq_true rfl, Nat.le_of_ble_eq_true rfl⟩ rfl rfl rfl (fun I2 => ?_)
  refine tt_aload rfl ?_
  refine tt_getr (q := 1) rfl rfl ?_
  refine tt_getr (q := 2) rfl rfl ?_
  refine tt_const ?_
  refine tt_const ?_
  refine tt_const ?_
  refine tt_cavV (t := []) ⟨Nat.le_of_ble_eq_true rfl, Nat.le_of_ble_eq_true rfl⟩ rfl rfl rfl (fun I3 => ?_)
  refine tt_aload rfl ?_
  refine tt_getr (q := 1) rfl rfl ?_
  refine tt_getr (q := 2) rfl rfl ?_
  refine tt_const ?_
  refine tt_const ?_
  refine tt_const ?_
  refine tt_const ?_
  refine tt_cavV (t := []) ⟨Nat.le_of_ble_eq_true rfl, Nat.le_of_ble_eq_true rfl⟩ rfl rfl rfl (fun I4 => ?_)
  exact rfl
