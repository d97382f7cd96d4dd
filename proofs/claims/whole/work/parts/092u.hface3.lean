def hX8_schedule_0 (N : Nat) (v1 : Int32) (I : gM) : gO := fX8_schedule_k0 N [some (.ref 0), some (.int v1)] [] I
set_option maxRecDepth 100000 in
theorem eX8_schedule_0 (N : Nat) (v1 : Int32) (I : gM) : hX8_schedule_0 N v1 I =
  (if gRng 1200 1201 1200 ∧ ¬ (3 < 0 ∨ 4 ≤ (3 : Int32).toNatClampNeg) then hXV (fX8_checkRange N [.int v1, .int 0, .int ((gGS.getD (3 : Int32).toNatClampNeg 0))] (gS [] I)) [] I fun I1 => hI (fX3_choose N [.ref 0, .ref 3, .int v1] (gS (rg 195 3 ++ rg 1 20) I1)) (rg 195 3 ++ rg 1 20) I1 fun x2 I2 => some (.inl (some (.int x2)), I2) else none) := by
  show (fX8_schedule_k0 N) [some (.ref 0), some (.int v1)] [] I = _
  unfold fX8_schedule_k0
  refine tt_iload rfl ?_
  refine tt_const ?_
  refine tt_pref rfl ?_
  refine tt_const ?_
  refine tt_tld ?_
  refine tt_caXV (t := []) ⟨Nat.le_of_ble_eq_true rfl, Nat.le_of_ble_eq_true rfl⟩ rfl rfl rfl (fun I1 => ?_)
  refine tt_aload rfl ?_
  refine tt_getr (q := 194) rfl rfl ?_
  refine tt_getr (q := 195) rfl rfl ?_
  refine tt_aload rfl ?_
  refine tt_getr (q := 1) rfl rfl ?_
  refine tt_iload rfl ?_
  refine tt_cavI (t := []) ⟨Nat.le_of_ble_eq_true rfl, Nat.le_of_ble_eq_true rfl⟩ rfl rfl rfl (fun x2 I2 => ?_)
  exact rfl
set_option maxRecDepth 100000 in
theorem eX8_schedule (N : Nat) (v1 : Int32) (I : gM) : fX8_schedule N [.ref 0, .int v1] I = hX8_schedule_0 N v1 I := by
  show gFn 2 (fX8_schedule_k0 N) [.ref 0, .int v1] I = (fX8_schedule_k0 N) [some (.ref 0), some (.int v1)] [] I
  exact tt_fn rfl rfl

def hX8_scheduleWeight_0 (N : Nat) (v1 : Int32) (I : gM) : gO := fX8_scheduleWeight_k0 N [some (.ref 0), some (.int v1)] [] I
set_option maxRecDepth 100000 in
theorem eX8_scheduleWeight_0 (N : Nat) (v1 : Int32) (I : gM) : hX8_scheduleWeight_0 N v1 I =
  (if gRng 1200 1201 1200 ∧ ¬ (3 < 0 ∨ 4 ≤ (3 : Int32).toNatClampNeg) then hXV (fX8_checkRange N [.int v1, .int 0, .int ((gGS.getD (3 : Int32).toNatClampNeg 0))] (gS [] I)) [] I fun I1 => hI (fX3_choose N [.ref 0, .ref 3, .int v1] (gS (rg 195 3 ++ rg 1 20) I1)) (rg 195 3 ++ rg 1 20) I1 fun x2 I2 => hI (fX3_sumOfWeights N [.int x2, .ref 0] (gS [197] I2)) [197] I2 fun x3 I3 => some (.inl (some (.int x3)), I3) else none) := by
  show (fX8_scheduleWeight_k0 N) [some (.ref 0), some (.int v1)] [] I = _
  unfold fX8_scheduleWeight_k0
  refine tt_iload rfl ?_
  refine tt_const ?_
  refine tt_pref rfl ?_
  refine tt_const ?_
  refine tt_tld ?_
  refine tt_caXV (t := []) ⟨Nat.le_of_ble_eq_true rfl, Nat.le_of_ble_eq_true rfl⟩ rfl rfl rfl (fun I1 => ?_)
  refine tt_aload rfl ?_
  refine tt_getr (q := 194) rfl rfl ?_
  refine tt_getr (q := 195) rfl rfl ?_
  refine tt_aload rfl ?_
  refine tt_getr (q := 1) rfl rfl ?_
  refine tt_iload rfl ?_
  refine tt_cavI (t := []) ⟨Nat.le_of_ble_eq_true rfl, Nat.le_of_ble_eq_true rfl⟩ rfl rfl rfl (fun x2 I2 => ?_)
  refine tt_aload rfl ?_
  refine tt_getr (q := 194) rfl rfl ?_
  refine tt_getr (q := 195) rfl rfl ?_
  refine tt_getr (q := 197) rfl rfl ?_
  refine tt_caI (t := []) ⟨Nat.le_of_ble_eq_true rfl, Nat.le_of_ble_eq_true rfl⟩ rfl rfl rfl (fun x3 I3 => ?_)
  exact rfl
set_option maxRecDepth 100000 in
theorem eX8_scheduleWeight (N : Nat) (v1 : Int32) (I : gM) : fX8_scheduleWeight N [.ref 0, .int v1] I = hX8_scheduleWeight_0 N v1 I := by
  show gFn 2 (fX8_scheduleWeight_k0 N) [.ref 0, .int v1] I = (fX8_scheduleWeight_k0 N) [some (.ref 0), some (.int v1)] [] I
  exact tt_fn rfl rfl

def hX8_forecast_0 (N : Nat) (v1 : Int32) (v2 : Int32) (I : gM) : gO := fX8_forecast_k0 N [some (.ref 0), some (.int v1), some (.int v2)] [] I
def hX8_forecast_24 (N : Nat) (v1 : Int32) (v2 : Int32) (I : gM) : gO := fX8_forecast_k24 N [some (.ref 0), some (.int v1), some (.int v2)] [] I
set_option maxRecDepth 100000 in
theorem eX8_forecast_0 (N : Nat) (v1 : Int32) (v2 : Int32) (I : gM) : hX8_forecast_0 N v1 v2 I =
  (hXV (fX8_checkRange N [.int v1, .int 1, .int 50] (gS [] I)) [] I fun I1 => hXV (fX8_checkRange N [.int v2, .int 0, .int 5] (gS [] I1)) [] I1 fun I2 => hV (fX7_copyFrom N [.ref 0, .ref 20] (gS (rg 41 20 ++ rg 1 20) I2)) (rg 41 20 ++ rg 1 20) I2 fun I3 => hX8_forecast_24 N v1 v2 I3) := by
  show (fX8_forecast_k0 N) [some (.ref 0), some (.int v1), some (.int v2)] [] I = _
  unfold fX8_forecast_k0
  refine tt_iload rfl ?_
  refine tt_const ?_
  refine tt_const ?_
  refine tt_caXV (t := []) ⟨Nat.le_of_ble_eq_true rfl, Nat.le_of_ble_eq_true rfl⟩ rfl rfl rfl (fun I1 => ?_)
  refine tt_iload rfl ?_
  refine tt_const ?_
  refine tt_const ?_
  refine tt_caXV (t := []) ⟨Nat.le_of_ble_eq_true rfl, Nat.le_of_ble_eq_true rfl⟩ rfl rfl rfl (fun I2 => ?_)
  refine tt_aload rfl ?_
  refine tt_getr (q := 41) rfl rfl ?_
  refine tt_aload rfl ?_
  refine tt_getr (q := 1) rfl rfl ?_
  refine tt_cavV (t := []) ⟨Nat.le_of_ble_eq_true rfl, Nat.le_of_ble_eq_true rfl⟩ rfl rfl rfl (fun I3 => ?_)
  refine tt_mask rfl ?_
  exact rfl
set_option maxRecDepth 100000 in
theorem eX8_forecast_24 (N : Nat) (v1 : Int32) (v2 : Int32) (I : gM) : hX8_forecast_24 N v1 v2 I =
  (hV (fX6_passSlots N [.ref 0, .ref 7, .int v1] (gS (rg 194 7 ++ rg 41 20) I)) (rg 194 7 ++ rg 41 20) I fun I4 => hJ (fX8_totalOf N [.ref 0, .int v2] (gS (rg 41 20) I4)) (rg 41 20) I4 fun x5 I5 => some (.inl (some (.long x5)), I5)) := by
  show (fX8_forecast_k24 N) [some (.ref 0), some (.int v1), some (.int v2)] [] I = _
  unfold fX8_forecast_k24
  refine tt_aload rfl ?_
  refine tt_getr (q := 194) rfl rfl ?_
  refine tt_aload rfl ?_
  refine tt_getr (q := 41) rfl rfl ?_
  refine tt_iload rfl ?_
  refine tt_cavV (t := []) ⟨Nat.le_of_ble_eq_true rfl, Nat.le_of_ble_eq_true rfl⟩ rfl rfl rfl (fun I4 => ?_)
  refine tt_aload rfl ?_
  refine tt_getr (q := 41) rfl rfl ?_
  refine tt_iload rfl ?_
  refine tt_caJ (t := []) ⟨Nat.le_of_ble_eq_true rfl, Nat.le_of_ble_eq_true rfl⟩ rfl rfl rfl (fun x5 I5 => ?_)
  exact rfl
set_option maxRecDepth 100000 in
theorem eX8_forecast (N : Nat) (v1 : Int32) (v2 : Int32) (I : gM) : fX8_forecast N [.ref 0, .int v1, .int v2] I = hX8_forecast_0 N v1 v2 I := by
  show gFn 3 (fX8_forecast_k0 N) [.ref 0, .int v1, .int v2] I = (fX8_forecast_k0 N) [some (.ref 0), some (.int v1), some (.int v2)] [] I
  exact tt_fn rfl rfl

def hX8_forecastFlow_0 (N : Nat) (v1 : Int32) (v2 : Int32) (v3 : Int32) (I : gM) : gO := fX8_forecastFlow_k0 N [some (.ref 0), some (.int v1), some (.int v2), some (.int v3)] [] I
def hX8_forecastFlow_19 (N : Nat) (v1 : Int32) (v2 : Int32) (v3 : Int32) (I : gM) : gO := fX8_forecastFlow_k19 N [some (.ref 0), some (.int v1), some (.int v2), some (.int v3)] [] I
set_option maxRecDepth 100000 in
theorem eX8_forecastFlow_0 (N : Nat) (v1 : Int32) (v2 : Int32) (v3 : Int32) (I : gM) : hX8_forecastFlow_0 N v1 v2 v3 I =
  (hXV (fX8_checkFlow N [.ref 0, .int v1] (gS (rg 0 204) I)) (rg 0 204) I fun I1 => hXV (fX8_checkRange N [.int v2, .int 1, .int 50] (gS [] I1)) [] I1 fun I2 => hXV (fX8_checkRange N [.int v3, .int 0, .int 10] (gS [] I2)) [] I2 fun I3 => hX8_forecastFlow_19 N v1 v2 v3 I3) := by
  show (fX8_forecastFlow_k0 N) [some (.ref 0), some (.int v1), some (.int v2), some (.int v3)] [] I = _
  unfold fX8_forecastFlow_k0
  refine tt_aload rfl ?_
  refine tt_iload rfl ?_
  refine tt_cavXV (t := []) ⟨Nat.le_of_ble_eq_true rfl, Nat.le_of_ble_eq_true rfl⟩ rfl rfl rfl (fun I1 => ?_)
  refine tt_iload rfl ?_
  refine tt_const ?_
  refine tt_const ?_
  refine tt_caXV (t := []) ⟨Nat.le_of_ble_eq_true rfl, Nat.le_of_ble_eq_true rfl⟩ rfl rfl rfl (fun I2 => ?_)
  refine tt_iload rfl ?_
  refine tt_const ?_
  refine tt_const ?_
  refine tt_caXV (t := []) ⟨Nat.le_of_ble_eq_true rfl, Nat.le_of_ble_eq_true rfl⟩ rfl rfl rfl (fun I3 => ?_)
  refine tt_mask rfl ?_
  exact rfl
set_option maxRecDepth 100000 in
theorem eX8_forecastFlow_19 (N : Nat) (v1 : Int32) (v2 : Int32) (v3 : Int32) (I : gM) : hX8_forecastFlow_19 N v1 v2 v3 I =
  (hV (fX7_copyFrom N [.ref 0, .ref 20] (gS (rg 41 20 ++ rg 1 20) I)) (rg 41 20 ++ rg 1 20) I fun I4 => hV (fX6_passSlots N [.ref 0, .ref 7, .int v2] (gS (rg 194 7 ++ rg 41 20) I4)) (rg 194 7 ++ rg 41 20) I4 fun I5 => hI (fX2_getNumber N [.ref 0, .int v1, .int v3] (gS (rg 42 9) I5)) (rg 42 9) I5 fun x6 I6 => some (.inl (some (.int x6)), I6)) := by
  show (fX8_forecastFlow_k19 N) [some (.ref 0), some (.int v1), some (.int v2), some (.int v3)] [] I = _
  unfold fX8_forecastFlow_k19
  refine tt_aload rfl ?_
  refine tt_getr (q := 41) rfl rfl ?_
  refine tt_aload rfl ?_
  refine tt_getr (q := 1) rfl rfl ?_
  refine tt_cavV (t := []) ⟨Nat.le_of_ble_eq_true rfl, Nat.le_of_ble_eq_true rfl⟩ rfl rfl rfl (fun I4 => ?_)
  refine tt_aload rfl ?_
  refine tt_getr (q := 194) rfl rfl ?_
  refine tt_aload rfl ?_
  refine tt_getr (q := 41) rfl rfl ?_
  refine tt_iload rfl ?_
  refine tt_cavV (t := []) ⟨Nat.le_of_ble_eq_true rfl, Nat.le_of_ble_eq_true rfl⟩ rfl rfl rfl (fun I5 => ?_)
  refine tt_aload rfl ?_
  refine tt_getr (q := 41) rfl rfl ?_
  refine tt_getr (q := 42) rfl rfl ?_
  refine tt_iload rfl ?_
  refine tt_iload rfl ?_
  refine tt_cavI (t := []) ⟨Nat.le_of_ble_eq_true rfl, Nat.le_of_ble_eq_true rfl⟩ rfl rfl rfl (fun x6 I6 => ?_)
  exact rfl
set_option maxRecDepth 100000 in
theorem eX8_forecastFlow (N : Nat) (v1 : Int32) (v2 : Int32) (v3 : Int32) (I : gM) : fX8_forecastFlow N [.ref 0, .int v1, .int v2, .int v3] I = hX8_forecastFlow_0 N v1 v2 v3 I := by
  show gFn 4 (fX8_forecastFlow_k0 N) [.ref 0, .int v1, .int v2, .int v3] I = (fX8_forecastFlow_k0 N) [some (.ref 0), some (.int v1), some (.int v2), some (.int v3)] [] I
  exact tt_fn rfl rfl

def hX8_slotsToFull_0 (N : Nat) (v1 : Int32) (v2 : Int32) (I : gM) : gO := fX8_slotsToFull_k0 N [some (.ref 0), some (.int v1), some (.int v2), none] [] I
def hX8_slotsToFull_26 (N : Nat) (v1 : Int32) (v2 : Int32) (I : gM) : gO := fX8_slotsToFull_k26 N [some (.ref 0), some (.int v1), some (.int v2), none] [] I
def hX8_slotsToFull_28 (N : Nat) (n28 : Nat) (v1 : Int32) (v2 : Int32) (v3 : Int32) (I : gM) : gO := s_lp (fX8_slotsToFull_b28 N) n28 [some (.ref 0), some (.int v1), some (.int v2), some (.int v3)] [] I
def hX8_slotsToFull_65 (N : Nat) (n28 : Nat) (v1 : Int32) (v2 : Int32) (v3 : Int32) (I : gM) : gO := fX8_slotsToFull_k65 N (s_lp (fX8_slotsToFull_b28 N) n28) [some (.ref 0), some (.int v1), some (.int v2), some (.int v3)] [] I
set_option maxRecDepth 100000 in
theorem eX8_slotsToFull_0 (N : Nat) (v1 : Int32) (v2 : Int32) (I : gM) : hX8_slotsToFull_0 N v1 v2 I =
  (hXV (fX8_checkRange N [.int v1, .int 1, .int 50] (gS [] I)) [] I fun I1 => hXV (fX8_checkRange N [.int v2, .int 1, .int 500] (gS [] I1)) [] I1 fun I2 => hV (fX7_copyFrom N [.ref 0, .ref 20] (gS (rg 41 20 ++ rg 1 20) I2)) (rg 41 20 ++ rg 1 20) I2 fun I3 => hX8_slotsToFull_26 N v1 v2 I3) := by
  show (fX8_slotsToFull_k0 N) [some (.ref 0), some (.int v1), some (.int v2), none] [] I = _
  unfold fX8_slotsToFull_k0
  refine tt_iload rfl ?_
  refine tt_const ?_
  refine tt_const ?_
  refine tt_caXV (t := []) ⟨Nat.le_of_ble_eq_true rfl, Nat.le_of_ble_eq_true rfl⟩ rfl rfl rfl (fun I1 => ?_)
  refine tt_iload rfl ?_
  refine tt_const ?_
  refine tt_const ?_
  refine tt_caXV (t := []) ⟨Nat.le_of_ble_eq_true rfl, Nat.le_of_ble_eq_true rfl⟩ rfl rfl rfl (fun I2 => ?_)
  refine tt_aload rfl ?_
  refine tt_getr (q := 41) rfl rfl ?_
  refine tt_aload rfl ?_
  refine tt_getr (q := 1) rfl rfl ?_
  refine tt_cavV (t := []) ⟨Nat.le_of_ble_eq_true rfl, Nat.le_of_ble_eq_true rfl⟩ rfl rfl rfl (fun I3 => ?_)
  refine tt_mask rfl ?_
  exact rfl
set_option maxRecDepth 100000 in
theorem eX8_slotsToFull_26 (N : Nat) (v1 : Int32) (v2 : Int32) (I : gM) : hX8_slotsToFull_26 N v1 v2 I =
  (hX8_slotsToFull_28 N N v1 v2 0 I) := by
  show (fX8_slotsToFull_k26 N) [some (.ref 0), some (.int v1), some (.int v2), none] [] I = _
  unfold fX8_slotsToFull_k26
  refine tt_const ?_
  refine tt_istore (L2 := [some (.ref 0), some (.int v1), some (.int v2), some (.int 0)]) (tt_lt rfl) rfl ?_
  refine tt_mask rfl ?_
  exact rfl
set_option maxRecDepth 100000 in
theorem eX8_slotsToFull_28 (N : Nat) (n28 : Nat) (v1 : Int32) (v2 : Int32) (v3 : Int32) (I : gM) : hX8_slotsToFull_28 N (n28 + 1) v1 v2 v3 I =
  (if gc_gt v3 v1 = true then (some (.inr "java/util/NoSuchElementException", I)) else (if gc_lt (I 51 11) v2 = true then (if gc_ge v3 v1 = true then (hX8_slotsToFull_65 N n28 v1 v2 v3 I) else (hV (fX6_passSlot N [.ref 0, .ref 7] (gS (rg 194 7 ++ rg 41 20) I)) (rg 194 7 ++ rg 41 20) I fun I4 => hX8_slotsToFull_65 N n28 v1 v2 v3 I4)) else (some (.inl (some (.int v3)), I)))) := by
  show (fX8_slotsToFull_b28 N (s_lp (fX8_slotsToFull_b28 N) n28)) [some (.ref 0), some (.int v1), some (.int v2), some (.int v3)] [] I = _
  unfold fX8_slotsToFull_b28
  refine tt_iload rfl ?_
  refine tt_iload rfl ?_
  refine tt_cmp ?_ ?_
  · skip
    exact tt_throw (Nat.le_of_ble_eq_true rfl)
  · skip
    refine tt_aload rfl ?_
    refine tt_getr (q := 41) rfl rfl ?_
    refine tt_getr (q := 51) rfl rfl ?_
    refine tt_get (x := (I 51 11)) rfl rfl rfl ?_
    refine tt_iload rfl ?_
    refine tt_cmp ?_ ?_
    · skip
      refine tt_iload rfl ?_
      refine tt_iload rfl ?_
      refine tt_cmp ?_ ?_
      · skip
        refine tt_mask rfl ?_
        exact rfl
      · skip
        refine tt_aload rfl ?_
        refine tt_getr (q := 194) rfl rfl ?_
        refine tt_aload rfl ?_
        refine tt_getr (q := 41) rfl rfl ?_
        refine tt_cavV (t := []) ⟨Nat.le_of_ble_eq_true rfl, Nat.le_of_ble_eq_true rfl⟩ rfl rfl rfl (fun I4 => ?_)
        refine tt_mask rfl ?_
        exact rfl
    · skip
      refine tt_iload rfl ?_
      exact rfl
theorem eX8_slotsToFull_28z (N : Nat) (v1 : Int32) (v2 : Int32) (v3 : Int32) (I : gM) : hX8_slotsToFull_28 N 0 v1 v2 v3 I = none := (rfl)
set_option maxRecDepth 100000 in
theorem eX8_slotsToFull_65 (N : Nat) (n28 : Nat) (v1 : Int32) (v2 : Int32) (v3 : Int32) (I : gM) : hX8_slotsToFull_65 N n28 v1 v2 v3 I =
  (hX8_slotsToFull_28 N n28 v1 v2 (v3 + 1) I) := by
  show (fX8_slotsToFull_k65 N (s_lp (fX8_slotsToFull_b28 N) n28)) [some (.ref 0), some (.int v1), some (.int v2), some (.int v3)] [] I = _
  unfold fX8_slotsToFull_k65
  refine tt_iinc (L2 := [some (.ref 0), some (.int v1), some (.int v2), some (.int (v3 + 1))]) rfl rfl ?_
  refine tt_mask rfl ?_
  exact rfl
set_option maxRecDepth 100000 in
theorem eX8_slotsToFull (N : Nat) (v1 : Int32) (v2 : Int32) (I : gM) : fX8_slotsToFull N [.ref 0, .int v1, .int v2] I = hX8_slotsToFull_0 N v1 v2 I := by
  show gFn 4 (fX8_slotsToFull_k0 N) [.ref 0, .int v1, .int v2] I = (fX8_slotsToFull_k0 N) [some (.ref 0), some (.int v1), some (.int v2), none] [] I
  exact tt_fn rfl rfl

def hX8_bestBias_0 (N : Nat) (v1 : Int32) (I : gM) : gO := fX8_bestBias_k0 N [some (.ref 0), some (.int v1), none, none, none, none, none, none] [] I
def hX8_bestBias_17 (N : Nat) (n17 : Nat) (v1 : Int32) (v2 : Int32) (v3 : Int32) (v4 : Int32) (v5 : Int32) (I : gM) : gO := s_lp (fX8_bestBias_b17 N) n17 [some (.ref 0), some (.int v1), some (.int v2), some (.int v3), some (.int v4), some (.int v5), none, none] [] I
def hX8_bestBias_88 (N : Nat) (n17 : Nat) (v1 : Int32) (v2 : Int32) (v3 : Int32) (v4 : Int32) (v5 : Int32) (v6 : Int32) (s0 : Int32) (I : gM) : gO := fX8_bestBias_k88 N (s_lp (fX8_bestBias_b17 N) n17) [some (.ref 0), some (.int v1), some (.int v2), some (.int v3), some (.int v4), some (.int v5), some (.int v6), none] [.int s0] I
def hX8_bestBias_114 (N : Nat) (n17 : Nat) (v1 : Int32) (v5 : Int32) (v6 : Int32) (v7 : Int32) (I : gM) : gO := fX8_bestBias_k114 N (s_lp (fX8_bestBias_b17 N) n17) [some (.ref 0), some (.int v1), none, none, none, some (.int v5), some (.int v6), some (.int v7)] [] I
def hX8_bestBias_124 (N : Nat) (n17 : Nat) (v1 : Int32) (v2 : Int32) (v3 : Int32) (v4 : Int32) (v5 : Int32) (I : gM) : gO := fX8_bestBias_k124 N (s_lp (fX8_bestBias_b17 N) n17) [some (.ref 0), some (.int v1), some (.int v2), some (.int v3), some (.int v4), some (.int v5), none, none] [] I
set_option maxRecDepth 100000 in
theorem eX8_bestBias_0 (N : Nat) (v1 : Int32) (I : gM) : hX8_bestBias_0 N v1 I =
  (hXV (fX8_checkRange N [.int v1, .int 1, .int 50] (gS [] I)) [] I fun I1 => hX8_bestBias_17 N N v1 0 0 0 0 I1) := by
  show (fX8_bestBias_k0 N) [some (.ref 0), some (.int v1), none, none, none, none, none, none] [] I = _
  unfold fX8_bestBias_k0
  refine tt_iload rfl ?_
  refine tt_const ?_
  refine tt_const ?_
  refine tt_caXV (t := []) ⟨Nat.le_of_ble_eq_true rfl, Nat.le_of_ble_eq_true rfl⟩ rfl rfl rfl (fun I1 => ?_)
  refine tt_const ?_
  refine tt_istore (L2 := [some (.ref 0), some (.int v1), some (.int 0), none, none, none, none, none]) (tt_lt rfl) rfl ?_
  refine tt_const ?_
  refine tt_istore (L2 := [some (.ref 0), some (.int v1), some (.int 0), some (.int 0), none, none, none, none]) (tt_lt rfl) rfl ?_
  refine tt_const ?_
  refine tt_istore (L2 := [some (.ref 0), some (.int v1), some (.int 0), some (.int 0), some (.int 0), none, none, none]) (tt_lt rfl) rfl ?_
  refine tt_const ?_
  refine tt_istore (L2 := [some (.ref 0), some (.int v1), some (.int 0), some (.int 0), some (.int 0), some (.int 0), none, none]) (tt_lt rfl) rfl ?_
  refine tt_mask rfl ?_
  exact rfl
set_option maxRecDepth 100000 in
theorem eX8_bestBias_17 (N : Nat) (n17 : Nat) (v1 : Int32) (v2 : Int32) (v3 : Int32) (v4 : Int32) (v5 : Int32) (I : gM) : hX8_bestBias_17 N (n17 + 1) v1 v2 v3 v4 v5 I =
  (if gRng 1200 1201 1200 ∧ ¬ (2 < 0 ∨ 4 ≤ (2 : Int32).toNatClampNeg) then if gc_gt v5 ((gGS.getD (2 : Int32).toNatClampNeg 0)) = true then (some (.inl (some (.int v2)), I)) else (hV (fX7_copyFrom N [.ref 0, .ref 20] (gS (rg 41 20 ++ rg 1 20) I)) (rg 41 20 ++ rg 1 20) I fun I2 => ck 4 2 <| hV (fX6_passSlots N [.ref 0, .ref 7, .int v1] (gS (rg 194 7 ++ rg 41 20) (gU I2 48 (Int32.toNatClampNeg 2) v5))) (rg 194 7 ++ rg 41 20) (gU I2 48 (Int32.toNatClampNeg 2) v5) fun I3 => hI (fX2_sumNumber N [.ref 0, .int 8] (gS (rg 42 9) I3)) (rg 42 9) I3 fun x4 I4 => hX8_bestBias_88 N n17 v1 v2 v3 v4 v5 (I3 51 11) x4 I4) else none) := by
  show (fX8_bestBias_b17 N (s_lp (fX8_bestBias_b17 N) n17)) [some (.ref 0), some (.int v1), some (.int v2), some (.int v3), some (.int v4), some (.int v5), none, none] [] I = _
  unfold fX8_bestBias_b17
  refine tt_iload rfl ?_
  refine tt_pref rfl ?_
  refine tt_const ?_
  refine tt_tld ?_
  refine tt_cmp ?_ ?_
  · skip
    refine tt_iload rfl ?_
    exact rfl
  · skip
    refine tt_aload rfl ?_
    refine tt_getr (q := 41) rfl rfl ?_
    refine tt_aload rfl ?_
    refine tt_getr (q := 1) rfl rfl ?_
    refine tt_cavV (t := []) ⟨Nat.le_of_ble_eq_true rfl, Nat.le_of_ble_eq_true rfl⟩ rfl rfl rfl (fun I2 => ?_)
    refine tt_aload rfl ?_
    refine tt_getr (q := 41) rfl rfl ?_
    refine tt_getr (q := 42) rfl rfl ?_
    refine tt_getr (q := 48) rfl rfl ?_
    refine tt_const ?_
    refine tt_iload rfl ?_
    refine tt_ast (v := v5) rfl rfl ?_
    refine tt_aload rfl ?_
    refine tt_getr (q := 194) rfl rfl ?_
    refine tt_aload rfl ?_
    refine tt_getr (q := 41) rfl rfl ?_
    refine tt_iload rfl ?_
    refine tt_cavV (t := []) ⟨Nat.le_of_ble_eq_true rfl, Nat.le_of_ble_eq_true rfl⟩ rfl rfl rfl (fun I3 => ?_)
    refine tt_aload rfl ?_
    refine tt_getr (q := 41) rfl rfl ?_
    refine tt_getr (q := 51) rfl rfl ?_
    refine tt_get (x := (I3 51 11)) rfl rfl rfl ?_
    refine tt_istore (L2 := [some (.ref 0), some (.int v1), some (.int v2), some (.int v3), some (.int v4), some (.int v5), some (.int (I3 51 11)), none]) (tt_lt rfl) rfl ?_
    refine tt_aload rfl ?_
    refine tt_getr (q := 41) rfl rfl ?_
    refine tt_getr (q := 42) rfl rfl ?_
    refine tt_const ?_
    refine tt_cavI (t := []) ⟨Nat.le_of_ble_eq_true rfl, Nat.le_of_ble_eq_true rfl⟩ rfl rfl rfl (fun x4 I4 => ?_)
    refine tt_mask rfl ?_
    exact rfl
theorem eX8_bestBias_17z (N : Nat) (v1 : Int32) (v2 : Int32) (v3 : Int32) (v4 : Int32) (v5 : Int32) (I : gM) : hX8_bestBias_17 N 0 v1 v2 v3 v4 v5 I = none := (rfl)
set_option maxRecDepth 100000 in
theorem eX8_bestBias_88 (N : Nat) (n17 : Nat) (v1 : Int32) (v2 : Int32) (v3 : Int32) (v4 : Int32) (v5 : Int32) (v6 : Int32) (s0 : Int32) (I : gM) : hX8_bestBias_88 N n17 v1 v2 v3 v4 v5 v6 s0 I =
  (if gz_eq v5 = true then (hX8_bestBias_114 N n17 v1 v5 v6 s0 I) else (if gc_lt v6 v3 = true then (hX8_bestBias_114 N n17 v1 v5 v6 s0 I) else (if gc_ne v6 v3 = true then (hX8_bestBias_124 N n17 v1 v2 v3 v4 v5 I) else (if gc_ge s0 v4 = true then (hX8_bestBias_124 N n17 v1 v2 v3 v4 v5 I) else (hX8_bestBias_114 N n17 v1 v5 v6 s0 I))))) := by
  show (fX8_bestBias_k88 N (s_lp (fX8_bestBias_b17 N) n17)) [some (.ref 0), some (.int v1), some (.int v2), some (.int v3), some (.int v4), some (.int v5), some (.int v6), none] [.int s0] I = _
  unfold fX8_bestBias_k88
  refine tt_istore (L2 := [some (.ref 0), some (.int v1), some (.int v2), some (.int v3), some (.int v4), some (.int v5), some (.int v6), some (.int s0)]) (tt_lt rfl) rfl ?_
  refine tt_iload rfl ?_
  refine tt_if ?_ ?_
  · skip
    refine tt_mask rfl ?_
    exact rfl
  · skip
    refine tt_iload rfl ?_
    refine tt_iload rfl ?_
    refine tt_cmp ?_ ?_
    · skip
      refine tt_mask rfl ?_
      exact rfl
    · skip
      refine tt_iload rfl ?_
      refine tt_iload rfl ?_
      refine tt_cmp ?_ ?_
      · skip
        refine tt_mask rfl ?_
        exact rfl
      · skip
        refine tt_iload rfl ?_
        refine tt_iload rfl ?_
        refine tt_cmp ?_ ?_
        · skip
          refine tt_mask rfl ?_
          exact rfl
        · skip
          refine tt_mask rfl ?_
          exact rfl
set_option maxRecDepth 100000 in
theorem eX8_bestBias_114 (N : Nat) (n17 : Nat) (v1 : Int32) (v5 : Int32) (v6 : Int32) (v7 : Int32) (I : gM) : hX8_bestBias_114 N n17 v1 v5 v6 v7 I =
  (hX8_bestBias_124 N n17 v1 v5 v6 v7 v5 I) := by
  show (fX8_bestBias_k114 N (s_lp (fX8_bestBias_b17 N) n17)) [some (.ref 0), some (.int v1), none, none, none, some (.int v5), some (.int v6), some (.int v7)] [] I = _
  unfold fX8_bestBias_k114
  refine tt_iload rfl ?_
  refine tt_istore (L2 := [some (.ref 0), some (.int v1), some (.int v5), none, none, some (.int v5), some (.int v6), some (.int v7)]) (tt_lt rfl) rfl ?_
  refine tt_iload rfl ?_
  refine tt_istore (L2 := [some (.ref 0), some (.int v1), some (.int v5), some (.int v6), none, some (.int v5), some (.int v6), some (.int v7)]) (tt_lt rfl) rfl ?_
  refine tt_iload rfl ?_
  refine tt_istore (L2 := [some (.ref 0), some (.int v1), some (.int v5), some (.int v6), some (.int v7), some (.int v5), some (.int v6), some (.int v7)]) (tt_lt rfl) rfl ?_
  refine tt_mask rfl ?_
  exact rfl
set_option maxRecDepth 100000 in
theorem eX8_bestBias_124 (N : Nat) (n17 : Nat) (v1 : Int32) (v2 : Int32) (v3 : Int32) (v4 : Int32) (v5 : Int32) (I : gM) : hX8_bestBias_124 N n17 v1 v2 v3 v4 v5 I =
  (hX8_bestBias_17 N n17 v1 v2 v3 v4 (v5 + 1) I) := by
  show (fX8_bestBias_k124 N (s_lp (fX8_bestBias_b17 N) n17)) [some (.ref 0), some (.int v1), some (.int v2), some (.int v3), some (.int v4), some (.int v5), none, none] [] I = _
  unfold fX8_bestBias_k124
  refine tt_iinc (L2 := [some (.ref 0), some (.int v1), some (.int v2), some (.int v3), some (.int v4), some (.int (v5 + 1)), none, none]) rfl rfl ?_
  refine tt_mask rfl ?_
  exact rfl
set_option maxRecDepth 100000 in
theorem eX8_bestBias (N : Nat) (v1 : Int32) (I : gM) : fX8_bestBias N [.ref 0, .int v1] I = hX8_bestBias_0 N v1 I := by
  show gFn 8 (fX8_bestBias_k0 N) [.ref 0, .int v1] I = (fX8_bestBias_k0 N) [some (.ref 0), some (.int v1), none, none, none, none, none, none] [] I
  exact tt_fn rfl rfl

def hX8_bestExcess_0 (N : Nat) (v1 : Int32) (I : gM) : gO := fX8_bestExcess_k0 N [some (.ref 0), some (.int v1), none, none, none, none] [] I
def hX8_bestExcess_14 (N : Nat) (n14 : Nat) (v1 : Int32) (v2 : Int32) (v3 : Int32) (v4 : Int32) (I : gM) : gO := s_lp (fX8_bestExcess_b14 N) n14 [some (.ref 0), some (.int v1), some (.int v2), some (.int v3), some (.int v4), none] [] I
def hX8_bestExcess_86 (N : Nat) (n14 : Nat) (v1 : Int32) (v2 : Int32) (v3 : Int32) (v4 : Int32) (s0 : Int32) (I : gM) : gO := fX8_bestExcess_k86 N (s_lp (fX8_bestExcess_b14 N) n14) [some (.ref 0), some (.int v1), some (.int v2), some (.int v3), some (.int v4), none] [.int s0] I
def hX8_bestExcess_100 (N : Nat) (n14 : Nat) (v1 : Int32) (v2 : Int32) (v3 : Int32) (v4 : Int32) (I : gM) : gO := fX8_bestExcess_k100 N (s_lp (fX8_bestExcess_b14 N) n14) [some (.ref 0), some (.int v1), some (.int v2), some (.int v3), some (.int v4), none] [] I
set_option maxRecDepth 100000 in
theorem eX8_bestExcess_0 (N : Nat) (v1 : Int32) (I : gM) : hX8_bestExcess_0 N v1 I =
  (hXV (fX8_checkRange N [.int v1, .int 1, .int 50] (gS [] I)) [] I fun I1 => hX8_bestExcess_14 N N v1 0 (-1) 0 I1) := by
  show (fX8_bestExcess_k0 N) [some (.ref 0), some (.int v1), none, none, none, none] [] I = _
  unfold fX8_bestExcess_k0
  refine tt_iload rfl ?_
  refine tt_const ?_
  refine tt_const ?_
  refine tt_caXV (t := []) ⟨Nat.le_of_ble_eq_true rfl, Nat.le_of_ble_eq_true rfl⟩ rfl rfl rfl (fun I1 => ?_)
  refine tt_const ?_
  refine tt_istore (L2 := [some (.ref 0), some (.int v1), some (.int 0), none, none, none]) (tt_lt rfl) rfl ?_
  refine tt_const ?_
  refine tt_istore (L2 := [some (.ref 0), some (.int v1), some (.int 0), some (.int (-1)), none, none]) (tt_lt rfl) rfl ?_
  refine tt_const ?_
  refine tt_istore (L2 := [some (.ref 0), some (.int v1), some (.int 0), some (.int (-1)), some (.int 0), none]) (tt_lt rfl) rfl ?_
  refine tt_mask rfl ?_
  exact rfl
set_option maxRecDepth 100000 in
theorem eX8_bestExcess_14 (N : Nat) (n14 : Nat) (v1 : Int32) (v2 : Int32) (v3 : Int32) (v4 : Int32) (I : gM) : hX8_bestExcess_14 N (n14 + 1) v1 v2 v3 v4 I =
  (if gRng 1200 1201 1200 ∧ ¬ (1 < 0 ∨ 4 ≤ (1 : Int32).toNatClampNeg) then if gc_gt v4 ((gGS.getD (1 : Int32).toNatClampNeg 0)) = true then (some (.inl (some (.int v2)), I)) else (hV (fX7_copyFrom N [.ref 0, .ref 20] (gS (rg 41 20 ++ rg 1 20) I)) (rg 41 20 ++ rg 1 20) I fun I2 => ck 4 0 <| ck 4 1 <| hV (fX6_passSlots N [.ref 0, .ref 7, .int v1] (gS (rg 194 7 ++ rg 41 20) (gU (gU I2 48 (Int32.toNatClampNeg 0) 1) 48 (Int32.toNatClampNeg 1) v4))) (rg 194 7 ++ rg 41 20) (gU (gU I2 48 (Int32.toNatClampNeg 0) 1) 48 (Int32.toNatClampNeg 1) v4) fun I3 => hI (fX2_sumNumber N [.ref 0, .int 6] (gS (rg 42 9) I3)) (rg 42 9) I3 fun x4 I4 => hX8_bestExcess_86 N n14 v1 v2 v3 v4 x4 I4) else none) := by
  show (fX8_bestExcess_b14 N (s_lp (fX8_bestExcess_b14 N) n14)) [some (.ref 0), some (.int v1), some (.int v2), some (.int v3), some (.int v4), none] [] I = _
  unfold fX8_bestExcess_b14
  refine tt_iload rfl ?_
  refine tt_pref rfl ?_
  refine tt_const ?_
  refine tt_tld ?_
  refine tt_cmp ?_ ?_
  · skip
    refine tt_iload rfl ?_
    exact rfl
  · skip
    refine tt_aload rfl ?_
    refine tt_getr (q := 41) rfl rfl ?_
    refine tt_aload rfl ?_
    refine tt_getr (q := 1) rfl rfl ?_
    refine tt_cavV (t := []) ⟨Nat.le_of_ble_eq_true rfl, Nat.le_of_ble_eq_true rfl⟩ rfl rfl rfl (fun I2 => ?_)
    refine tt_aload rfl ?_
    refine tt_getr (q := 41) rfl rfl ?_
    refine tt_getr (q := 42) rfl rfl ?_
    refine tt_getr (q := 48) rfl rfl ?_
    refine tt_const ?_
    refine tt_const ?_
    refine tt_ast (v := 1) rfl rfl ?_
    refine tt_aload rfl ?_
    refine tt_getr (q := 41) rfl rfl ?_
    refine tt_getr (q := 42) rfl rfl ?_
    refine tt_getr (q := 48) rfl rfl ?_
    refine tt_const ?_
    refine tt_iload rfl ?_
    refine tt_ast (v := v4) rfl rfl ?_
    refine tt_aload rfl ?_
    refine tt_getr (q := 194) rfl rfl ?_
    refine tt_aload rfl ?_
    refine tt_getr (q := 41) rfl rfl ?_
    refine tt_iload rfl ?_
    refine tt_cavV (t := []) ⟨Nat.le_of_ble_eq_true rfl, Nat.le_of_ble_eq_true rfl⟩ rfl rfl rfl (fun I3 => ?_)
    refine tt_aload rfl ?_
    refine tt_getr (q := 41) rfl rfl ?_
    refine tt_getr (q := 42) rfl rfl ?_
    refine tt_const ?_
    refine tt_cavI (t := []) ⟨Nat.le_of_ble_eq_true rfl, Nat.le_of_ble_eq_true rfl⟩ rfl rfl rfl (fun x4 I4 => ?_)
    refine tt_mask rfl ?_
    exact rfl
theorem eX8_bestExcess_14z (N : Nat) (v1 : Int32) (v2 : Int32) (v3 : Int32) (v4 : Int32) (I : gM) : hX8_bestExcess_14 N 0 v1 v2 v3 v4 I = none := (rfl)
set_option maxRecDepth 100000 in
theorem eX8_bestExcess_86 (N : Nat) (n14 : Nat) (v1 : Int32) (v2 : Int32) (v3 : Int32) (v4 : Int32) (s0 : Int32) (I : gM) : hX8_bestExcess_86 N n14 v1 v2 v3 v4 s0 I =
  (if gc_le s0 v3 = true then (hX8_bestExcess_100 N n14 v1 v2 v3 v4 I) else (hX8_bestExcess_100 N n14 v1 v4 s0 v4 I)) := by
  show (fX8_bestExcess_k86 N (s_lp (fX8_bestExcess_b14 N) n14)) [some (.ref 0), some (.int v1), some (.int v2), some (.int v3), some (.int v4), none] [.int s0] I = _
  unfold fX8_bestExcess_k86
  refine tt_istore (L2 := [some (.ref 0), some (.int v1), some (.int v2), some (.int v3), some (.int v4), some (.int s0)]) (tt_lt rfl) rfl ?_
  refine tt_iload rfl ?_
  refine tt_iload rfl ?_
  refine tt_cmp ?_ ?_
  · skip
    refine tt_mask rfl ?_
    exact rfl
  · skip
    refine tt_iload rfl ?_
    refine tt_istore (L2 := [some (.ref 0), some (.int v1), some (.int v4), some (.int v3), some (.int v4), some (.int s0)]) (tt_lt rfl) rfl ?_
    refine tt_iload rfl ?_
    refine tt_istore (L2 := [some (.ref 0), some (.int v1), some (.int v4), some (.int s0), some (.int v4), some (.int s0)]) (tt_lt rfl) rfl ?_
    refine tt_mask rfl ?_
    exact rfl
set_option maxRecDepth 100000 in
theorem eX8_bestExcess_100 (N : Nat) (n14 : Nat) (v1 : Int32) (v2 : Int32) (v3 : Int32) (v4 : Int32) (I : gM) : hX8_bestExcess_100 N n14 v1 v2 v3 v4 I =
  (hX8_bestExcess_14 N n14 v1 v2 v3 (v4 + 10) I) := by
  show (fX8_bestExcess_k100 N (s_lp (fX8_bestExcess_b14 N) n14)) [some (.ref 0), some (.int v1), some (.int v2), some (.int v3), some (.int v4), none] [] I = _
  unfold fX8_bestExcess_k100
  refine tt_iinc (L2 := [some (.ref 0), some (.int v1), some (.int v2), some (.int v3), some (.int (v4 + 10)), none]) rfl rfl ?_
  refine tt_mask rfl ?_
  exact rfl
set_option maxRecDepth 100000 in
theorem eX8_bestExcess (N : Nat) (v1 : Int32) (I : gM) : fX8_bestExcess N [.ref 0, .int v1] I = hX8_bestExcess_0 N v1 I := by
  show gFn 6 (fX8_bestExcess_k0 N) [.ref 0, .int v1] I = (fX8_bestExcess_k0 N) [some (.ref 0), some (.int v1), none, none, none, none] [] I
  exact tt_fn rfl rfl

def hX8_bestSettings_0 (N : Nat) (v1 : Int32) (I : gM) : gO := fX8_bestSettings_k0 N [some (.ref 0), some (.int v1), none, none, none, none, none, none, none] [] I
def hX8_bestSettings_14 (N : Nat) (n14 : Nat) (v1 : Int32) (v2 : Int32) (v3 : Int64) (v5 : Int32) (I : gM) : gO := s_lp (fX8_bestSettings_b14 N) n14 [some (.ref 0), some (.int v1), some (.int v2), some (.long v3), none, some (.int v5), none, none, none] [] I
def hX8_bestSettings_27 (N : Nat) (n14 : Nat) (n27 : Nat) (v1 : Int32) (v2 : Int32) (v3 : Int64) (v5 : Int32) (v6 : Int32) (I : gM) : gO := s_lp (fX8_bestSettings_b27 N (s_lp (fX8_bestSettings_b14 N) n14)) n27 [some (.ref 0), some (.int v1), some (.int v2), some (.long v3), none, some (.int v5), some (.int v6), none, none] [] I
def hX8_bestSettings_101 (N : Nat) (n14 : Nat) (n27 : Nat) (v1 : Int32) (v2 : Int32) (v3 : Int64) (v5 : Int32) (v6 : Int32) (s0 : Int64) (I : gM) : gO := fX8_bestSettings_k101 N (s_lp (fX8_bestSettings_b14 N) n14) (s_lp (fX8_bestSettings_b27 N (s_lp (fX8_bestSettings_b14 N) n14)) n27) [some (.ref 0), some (.int v1), some (.int v2), some (.long v3), none, some (.int v5), some (.int v6), none, none] [.long s0] I
def hX8_bestSettings_115 (N : Nat) (n14 : Nat) (n27 : Nat) (v1 : Int32) (v5 : Int32) (v6 : Int32) (v7 : Int64) (I : gM) : gO := fX8_bestSettings_k115 N (s_lp (fX8_bestSettings_b14 N) n14) (s_lp (fX8_bestSettings_b27 N (s_lp (fX8_bestSettings_b14 N) n14)) n27) [some (.ref 0), some (.int v1), none, none, none, some (.int v5), some (.int v6), some (.long v7), none] [] I
def hX8_bestSettings_127 (N : Nat) (n14 : Nat) (n27 : Nat) (v1 : Int32) (v2 : Int32) (v3 : Int64) (v5 : Int32) (v6 : Int32) (I : gM) : gO := fX8_bestSettings_k127 N (s_lp (fX8_bestSettings_b14 N) n14) (s_lp (fX8_bestSettings_b27 N (s_lp (fX8_bestSettings_b14 N) n14)) n27) [some (.ref 0), some (.int v1), some (.int v2), some (.long v3), none, some (.int v5), some (.int v6), none, none] [] I
set_option maxRecDepth 100000 in
theorem eX8_bestSettings_0 (N : Nat) (v1 : Int32) (I : gM) : hX8_bestSettings_0 N v1 I =
  (hXV (fX8_checkRange N [.int v1, .int 1, .int 50] (gS [] I)) [] I fun I1 => hX8_bestSettings_14 N N v1 (-1) 0 0 I1) := by
  show (fX8_bestSettings_k0 N) [some (.ref 0), some (.int v1), none, none, none, none, none, none, none] [] I = _
  unfold fX8_bestSettings_k0
  refine tt_iload rfl ?_
  refine tt_const ?_
  refine tt_const ?_
  refine tt_caXV (t := []) ⟨Nat.le_of_ble_eq_true rfl, Nat.le_of_ble_eq_true rfl⟩ rfl rfl rfl (fun I1 => ?_)
  refine tt_const ?_
  refine tt_istore (L2 := [some (.ref 0), some (.int v1), some (.int (-1)), none, none, none, none, none, none]) (tt_lt rfl) rfl ?_
  refine tt_lconst ?_
  refine tt_lstore (L2 := [some (.ref 0), some (.int v1), some (.int (-1)), some (.long 0), none, none, none, none, none]) (tt_lt rfl) rfl ?_
  refine tt_const ?_
  refine tt_istore (L2 := [some (.ref 0), some (.int v1), some (.int (-1)), some (.long 0), none, some (.int 0), none, none, none]) (tt_lt rfl) rfl ?_
  refine tt_mask rfl ?_
  exact rfl
set_option maxRecDepth 100000 in
theorem eX8_bestSettings_14 (N : Nat) (n14 : Nat) (v1 : Int32) (v2 : Int32) (v3 : Int64) (v5 : Int32) (I : gM) : hX8_bestSettings_14 N (n14 + 1) v1 v2 v3 v5 I =
  (if gRng 1200 1201 1200 ∧ ¬ (0 < 0 ∨ 4 ≤ (0 : Int32).toNatClampNeg) then if gc_gt v5 ((gGS.getD (0 : Int32).toNatClampNeg 0)) = true then (some (.inl (some (.int v2)), I)) else (hX8_bestSettings_27 N n14 N v1 v2 v3 v5 0 I) else none) := by
  show (fX8_bestSettings_b14 N (s_lp (fX8_bestSettings_b14 N) n14)) [some (.ref 0), some (.int v1), some (.int v2), some (.long v3), none, some (.int v5), none, none, none] [] I = _
  unfold fX8_bestSettings_b14
  refine tt_iload rfl ?_
  refine tt_pref rfl ?_
  refine tt_const ?_
  refine tt_tld ?_
  refine tt_cmp ?_ ?_
  · skip
    refine tt_iload rfl ?_
    exact rfl
  · skip
    refine tt_const ?_
    refine tt_istore (L2 := [some (.ref 0), some (.int v1), some (.int v2), some (.long v3), none, some (.int v5), some (.int 0), none, none]) (tt_lt rfl) rfl ?_
    refine tt_mask rfl ?_
    exact rfl
theorem eX8_bestSettings_14z (N : Nat) (v1 : Int32) (v2 : Int32) (v3 : Int64) (v5 : Int32) (I : gM) : hX8_bestSettings_14 N 0 v1 v2 v3 v5 I = none := (rfl)
set_option maxRecDepth 100000 in
theorem eX8_bestSettings_27 (N : Nat) (n14 : Nat) (n27 : Nat) (v1 : Int32) (v2 : Int32) (v3 : Int64) (v5 : Int32) (v6 : Int32) (I : gM) : hX8_bestSettings_27 N n14 (n27 + 1) v1 v2 v3 v5 v6 I =
  (if gRng 1200 1201 1200 ∧ ¬ (3 < 0 ∨ 4 ≤ (3 : Int32).toNatClampNeg) then if gc_gt v6 ((gGS.getD (3 : Int32).toNatClampNeg 0)) = true then (hX8_bestSettings_14 N n14 v1 v2 v3 (v5 + 1) I) else (hV (fX7_copyFrom N [.ref 0, .ref 20] (gS (rg 41 20 ++ rg 1 20) I)) (rg 41 20 ++ rg 1 20) I fun I2 => ck 4 0 <| ck 4 3 <| hV (fX6_passSlots N [.ref 0, .ref 7, .int v1] (gS (rg 194 7 ++ rg 41 20) (gU (gU I2 48 (Int32.toNatClampNeg 0) v5) 48 (Int32.toNatClampNeg 3) v6))) (rg 194 7 ++ rg 41 20) (gU (gU I2 48 (Int32.toNatClampNeg 0) v5) 48 (Int32.toNatClampNeg 3) v6) fun I3 => hJ (fX8_sumOfSquares N [.ref 0] (gS [54] I3)) [54] I3 fun x4 I4 => hX8_bestSettings_101 N n14 n27 v1 v2 v3 v5 v6 x4 I4) else none) := by
  show (fX8_bestSettings_b27 N (s_lp (fX8_bestSettings_b14 N) n14) (s_lp (fX8_bestSettings_b27 N (s_lp (fX8_bestSettings_b14 N) n14)) n27)) [some (.ref 0), some (.int v1), some (.int v2), some (.long v3), none, some (.int v5), some (.int v6), none, none] [] I = _
  unfold fX8_bestSettings_b27
  refine tt_iload rfl ?_
  refine tt_pref rfl ?_
  refine tt_const ?_
  refine tt_tld ?_
  refine tt_cmp ?_ ?_
  · skip
    refine tt_iinc (L2 := [some (.ref 0), some (.int v1), some (.int v2), some (.long v3), none, some (.int (v5 + 1)), some (.int v6), none, none]) rfl rfl ?_
    refine tt_mask rfl ?_
    exact rfl
  · skip
    refine tt_aload rfl ?_
    refine tt_getr (q := 41) rfl rfl ?_
    refine tt_aload rfl ?_
    refine tt_getr (q := 1) rfl rfl ?_
    refine tt_cavV (t := []) ⟨Nat.le_of_ble_eq_true rfl, Nat.le_of_ble_eq_true rfl⟩ rfl rfl rfl (fun I2 => ?_)
    refine tt_aload rfl ?_
    refine tt_getr (q := 41) rfl rfl ?_
    refine tt_getr (q := 42) rfl rfl ?_
    refine tt_getr (q := 48) rfl rfl ?_
    refine tt_const ?_
    refine tt_iload rfl ?_
    refine tt_ast (v := v5) rfl rfl ?_
    refine tt_aload rfl ?_
    refine tt_getr (q := 41) rfl rfl ?_
    refine tt_getr (q := 42) rfl rfl ?_
    refine tt_getr (q := 48) rfl rfl ?_
    refine tt_const ?_
    refine tt_iload rfl ?_
    refine tt_ast (v := v6) rfl rfl ?_
    refine tt_aload rfl ?_
    refine tt_getr (q := 194) rfl rfl ?_
    refine tt_aload rfl ?_
    refine tt_getr (q := 41) rfl rfl ?_
    refine tt_iload rfl ?_
    refine tt_cavV (t := []) ⟨Nat.le_of_ble_eq_true rfl, Nat.le_of_ble_eq_true rfl⟩ rfl rfl rfl (fun I3 => ?_)
    refine tt_aload rfl ?_
    refine tt_getr (q := 41) rfl rfl ?_
    refine tt_getr (q := 51) rfl rfl ?_
    refine tt_getr (q := 54) rfl rfl ?_
    refine tt_caJ (t := []) ⟨Nat.le_of_ble_eq_true rfl, Nat.le_of_ble_eq_true rfl⟩ rfl rfl rfl (fun x4 I4 => ?_)
    refine tt_mask rfl ?_
    exact rfl
theorem eX8_bestSettings_27z (N : Nat) (n14 : Nat) (v1 : Int32) (v2 : Int32) (v3 : Int64) (v5 : Int32) (v6 : Int32) (I : gM) : hX8_bestSettings_27 N n14 0 v1 v2 v3 v5 v6 I = none := (rfl)
set_option maxRecDepth 100000 in
theorem eX8_bestSettings_101 (N : Nat) (n14 : Nat) (n27 : Nat) (v1 : Int32) (v2 : Int32) (v3 : Int64) (v5 : Int32) (v6 : Int32) (s0 : Int64) (I : gM) : hX8_bestSettings_101 N n14 n27 v1 v2 v3 v5 v6 s0 I =
  (if gc_eq v2 (-1) = true then (hX8_bestSettings_115 N n14 n27 v1 v5 v6 s0 I) else (if gz_ge (lg_cmp s0 v3) = true then (hX8_bestSettings_127 N n14 n27 v1 v2 v3 v5 v6 I) else (hX8_bestSettings_115 N n14 n27 v1 v5 v6 s0 I))) := by
  show (fX8_bestSettings_k101 N (s_lp (fX8_bestSettings_b14 N) n14) (s_lp (fX8_bestSettings_b27 N (s_lp (fX8_bestSettings_b14 N) n14)) n27)) [some (.ref 0), some (.int v1), some (.int v2), some (.long v3), none, some (.int v5), some (.int v6), none, none] [.long s0] I = _
  unfold fX8_bestSettings_k101
  refine tt_lstore (L2 := [some (.ref 0), some (.int v1), some (.int v2), some (.long v3), none, some (.int v5), some (.int v6), some (.long s0), none]) (tt_lt rfl) rfl ?_
  refine tt_iload rfl ?_
  refine tt_const ?_
  refine tt_cmp ?_ ?_
  · skip
    refine tt_mask rfl ?_
    exact rfl
  · skip
    refine tt_lload rfl ?_
    refine tt_lload rfl ?_
    refine tt_lcmp ?_
    refine tt_if ?_ ?_
    · skip
      refine tt_mask rfl ?_
      exact rfl
    · skip
      refine tt_mask rfl ?_
      exact rfl
set_option maxRecDepth 100000 in
theorem eX8_bestSettings_115 (N : Nat) (n14 : Nat) (n27 : Nat) (v1 : Int32) (v5 : Int32) (v6 : Int32) (v7 : Int64) (I : gM) : hX8_bestSettings_115 N n14 n27 v1 v5 v6 v7 I =
  (hX8_bestSettings_127 N n14 n27 v1 ((gb_add (gb_mul 10 v5) v6)) v7 v5 v6 I) := by
  show (fX8_bestSettings_k115 N (s_lp (fX8_bestSettings_b14 N) n14) (s_lp (fX8_bestSettings_b27 N (s_lp (fX8_bestSettings_b14 N) n14)) n27)) [some (.ref 0), some (.int v1), none, none, none, some (.int v5), some (.int v6), some (.long v7), none] [] I = _
  unfold fX8_bestSettings_k115
  refine tt_const ?_
  refine tt_iload rfl ?_
  refine tt_bin ?_
  refine tt_iload rfl ?_
  refine tt_bin ?_
  refine tt_istore (L2 := [some (.ref 0), some (.int v1), some (.int ((gb_add (gb_mul 10 v5) v6))), none, none, some (.int v5), some (.int v6), some (.long v7), none]) (tt_lt rfl) rfl ?_
  refine tt_lload rfl ?_
  refine tt_lstore (L2 := [some (.ref 0), some (.int v1), some (.int ((gb_add (gb_mul 10 v5) v6))), some (.long v7), none, some (.int v5), some (.int v6), some (.long v7), none]) (tt_lt rfl) rfl ?_
  refine tt_mask rfl ?_
  exact rfl
set_option maxRecDepth 100000 in
theorem eX8_bestSettings_127 (N : Nat) (n14 : Nat) (n27 : Nat) (v1 : Int32) (v2 : Int32) (v3 : Int64) (v5 : Int32) (v6 : Int32) (I : gM) : hX8_bestSettings_127 N n14 n27 v1 v2 v3 v5 v6 I =
  (hX8_bestSettings_27 N n14 n27 v1 v2 v3 v5 (v6 + 1) I) := by
  show (fX8_bestSettings_k127 N (s_lp (fX8_bestSettings_b14 N) n14) (s_lp (fX8_bestSettings_b27 N (s_lp (fX8_bestSettings_b14 N) n14)) n27)) [some (.ref 0), some (.int v1), some (.int v2), some (.long v3), none, some (.int v5), some (.int v6), none, none] [] I = _
  unfold fX8_bestSettings_k127
  refine tt_iinc (L2 := [some (.ref 0), some (.int v1), some (.int v2), some (.long v3), none, some (.int v5), some (.int (v6 + 1)), none, none]) rfl rfl ?_
  refine tt_mask rfl ?_
  exact rfl
set_option maxRecDepth 100000 in
theorem eX8_bestSettings (N : Nat) (v1 : Int32) (I : gM) : fX8_bestSettings N [.ref 0, .int v1] I = hX8_bestSettings_0 N v1 I := by
  show gFn 9 (fX8_bestSettings_k0 N) [.ref 0, .int v1] I = (fX8_bestSettings_k0 N) [some (.ref 0), some (.int v1), none, none, none, none, none, none, none] [] I
  exact tt_fn rfl rfl

def hX8_staysSmall_0 (N : Nat) (v1 : Int32) (v2 : Int32) (v3 : Int32) (I : gM) : gO := fX8_staysSmall_k0 N [some (.ref 0), some (.int v1), some (.int v2), some (.int v3), none] [] I
def hX8_staysSmall_27 (N : Nat) (n27 : Nat) (v3 : Int32) (v4 : Int32) (I : gM) : gO := s_lp (fX8_staysSmall_b27 N) n27 [some (.ref 0), none, none, some (.int v3), some (.int v4)] [] I
set_option maxRecDepth 100000 in
theorem eX8_staysSmall_0 (N : Nat) (v1 : Int32) (v2 : Int32) (v3 : Int32) (I : gM) : hX8_staysSmall_0 N v1 v2 v3 I =
  (hV (fX7_copyFrom N [.ref 0, .ref 20] (gS (rg 41 20 ++ rg 1 20) I)) (rg 41 20 ++ rg 1 20) I fun I1 => hV (fX2_putNumber N [.ref 0, .int v1, .int 2, .int v2] (gS (rg 42 9) I1)) (rg 42 9) I1 fun I2 => hX8_staysSmall_27 N N v3 0 I2) := by
  show (fX8_staysSmall_k0 N) [some (.ref 0), some (.int v1), some (.int v2), some (.int v3), none] [] I = _
  unfold fX8_staysSmall_k0
  refine tt_aload rfl ?_
  refine tt_getr (q := 41) rfl rfl ?_
  refine tt_aload rfl ?_
  refine tt_getr (q := 1) rfl rfl ?_
  refine tt_cavV (t := []) ⟨Nat.le_of_ble_eq_true rfl, Nat.le_of_ble_eq_true rfl⟩ rfl rfl rfl (fun I1 => ?_)
  refine tt_aload rfl ?_
  refine tt_getr (q := 41) rfl rfl ?_
  refine tt_getr (q := 42) rfl rfl ?_
  refine tt_iload rfl ?_
  refine tt_const ?_
  refine tt_iload rfl ?_
  refine tt_cavV (t := []) ⟨Nat.le_of_ble_eq_true rfl, Nat.le_of_ble_eq_true rfl⟩ rfl rfl rfl (fun I2 => ?_)
  refine tt_const ?_
  refine tt_istore (L2 := [some (.ref 0), some (.int v1), some (.int v2), some (.int v3), some (.int 0)]) (tt_lt rfl) rfl ?_
  refine tt_mask rfl ?_
  exact rfl
set_option maxRecDepth 100000 in
theorem eX8_staysSmall_27 (N : Nat) (n27 : Nat) (v3 : Int32) (v4 : Int32) (I : gM) : hX8_staysSmall_27 N (n27 + 1) v3 v4 I =
  (if gc_ge v4 v3 = true then (some (.inl (some (.int 1)), I)) else (hV (fX6_passSlot N [.ref 0, .ref 7] (gS (rg 194 7 ++ rg 41 20) I)) (rg 194 7 ++ rg 41 20) I fun I3 => if gc_le (I3 51 11) 100 = true then (hX8_staysSmall_27 N n27 v3 (v4 + 1) I3) else (some (.inl (some (.int 0)), I3)))) := by
  show (fX8_staysSmall_b27 N (s_lp (fX8_staysSmall_b27 N) n27)) [some (.ref 0), none, none, some (.int v3), some (.int v4)] [] I = _
  unfold fX8_staysSmall_b27
  refine tt_iload rfl ?_
  refine tt_iload rfl ?_
  refine tt_cmp ?_ ?_
  · skip
    refine tt_const ?_
    exact tt_zret (by decide)
  · skip
    refine tt_aload rfl ?_
    refine tt_getr (q := 194) rfl rfl ?_
    refine tt_aload rfl ?_
    refine tt_getr (q := 41) rfl rfl ?_
    refine tt_cavV (t := []) ⟨Nat.le_of_ble_eq_true rfl, Nat.le_of_ble_eq_true rfl⟩ rfl rfl rfl (fun I3 => ?_)
    refine tt_aload rfl ?_
    refine tt_getr (q := 41) rfl rfl ?_
    refine tt_getr (q := 51) rfl rfl ?_
    refine tt_get (x := (I3 51 11)) rfl rfl rfl ?_
    refine tt_const ?_
    refine tt_cmp ?_ ?_
    · skip
      refine tt_iinc (L2 := [some (.ref 0), none, none, some (.int v3), some (.int (v4 + 1))]) rfl rfl ?_
      refine tt_mask rfl ?_
      exact rfl
    · skip
      refine tt_const ?_
      exact tt_zret (by decide)
theorem eX8_staysSmall_27z (N : Nat) (v3 : Int32) (v4 : Int32) (I : gM) : hX8_staysSmall_27 N 0 v3 v4 I = none := (rfl)
set_option maxRecDepth 100000 in
theorem eX8_staysSmall (N : Nat) (v1 : Int32) (v2 : Int32) (v3 : Int32) (I : gM) : fX8_staysSmall N [.ref 0, .int v1, .int v2, .int v3] I = hX8_staysSmall_0 N v1 v2 v3 I := by
  show gFn 5 (fX8_staysSmall_k0 N) [.ref 0, .int v1, .int v2, .int v3] I = (fX8_staysSmall_k0 N) [some (.ref 0), some (.int v1), some (.int v2), some (.int v3), none] [] I
  exact tt_fn rfl rfl

def hX8_sustainable_0 (N : Nat) (v1 : Int32) (v2 : Int32) (I : gM) : gO := fX8_sustainable_k0 N [some (.ref 0), some (.int v1), some (.int v2), none, none] [] I
def hX8_sustainable_17 (N : Nat) (n17 : Nat) (v1 : Int32) (v2 : Int32) (v3 : Int32) (v4 : Int32) (I : gM) : gO := s_lp (fX8_sustainable_b17 N) n17 [some (.ref 0), some (.int v1), some (.int v2), some (.int v3), some (.int v4)] [] I
set_option maxRecDepth 100000 in
theorem eX8_sustainable_0 (N : Nat) (v1 : Int32) (v2 : Int32) (I : gM) : hX8_sustainable_0 N v1 v2 I =
  (hXV (fX8_checkFlow N [.ref 0, .int v1] (gS (rg 0 204) I)) (rg 0 204) I fun I1 => hXV (fX8_checkRange N [.int v2, .int 1, .int 20] (gS [] I1)) [] I1 fun I2 => hX8_sustainable_17 N N v1 v2 (-1) 0 I2) := by
  show (fX8_sustainable_k0 N) [some (.ref 0), some (.int v1), some (.int v2), none, none] [] I = _
  unfold fX8_sustainable_k0
  refine tt_aload rfl ?_
  refine tt_iload rfl ?_
  refine tt_cavXV (t := []) ⟨Nat.le_of_ble_eq_true rfl, Nat.le_of_ble_eq_true rfl⟩ rfl rfl rfl (fun I1 => ?_)
  refine tt_iload rfl ?_
  refine tt_const ?_
  refine tt_const ?_
  refine tt_caXV (t := []) ⟨Nat.le_of_ble_eq_true rfl, Nat.le_of_ble_eq_true rfl⟩ rfl rfl rfl (fun I2 => ?_)
  refine tt_const ?_
  refine tt_istore (L2 := [some (.ref 0), some (.int v1), some (.int v2), some (.int (-1)), none]) (tt_lt rfl) rfl ?_
  refine tt_const ?_
  refine tt_istore (L2 := [some (.ref 0), some (.int v1), some (.int v2), some (.int (-1)), some (.int 0)]) (tt_lt rfl) rfl ?_
  refine tt_mask rfl ?_
  exact rfl
set_option maxRecDepth 100000 in
theorem eX8_sustainable_17 (N : Nat) (n17 : Nat) (v1 : Int32) (v2 : Int32) (v3 : Int32) (v4 : Int32) (I : gM) : hX8_sustainable_17 N (n17 + 1) v1 v2 v3 v4 I =
  (if gc_gt v4 300 = true then (some (.inl (some (.int v3)), I)) else (hI (fX8_staysSmall N [.ref 0, .int v1, .int v4, .int v2] (gS (rg 0 204) I)) (rg 0 204) I fun x3 I3 => if gz_ne x3 = true then (hX8_sustainable_17 N n17 v1 v2 v4 (v4 + 1) I3) else (some (.inl (some (.int v3)), I3)))) := by
  show (fX8_sustainable_b17 N (s_lp (fX8_sustainable_b17 N) n17)) [some (.ref 0), some (.int v1), some (.int v2), some (.int v3), some (.int v4)] [] I = _
  unfold fX8_sustainable_b17
  refine tt_iload rfl ?_
  refine tt_const ?_
  refine tt_cmp ?_ ?_
  · skip
    refine tt_iload rfl ?_
    exact rfl
  · skip
    refine tt_aload rfl ?_
    refine tt_iload rfl ?_
    refine tt_iload rfl ?_
    refine tt_iload rfl ?_
    refine tt_cavI (t := []) ⟨Nat.le_of_ble_eq_true rfl, Nat.le_of_ble_eq_true rfl⟩ rfl rfl rfl (fun x3 I3 => ?_)
    refine tt_if ?_ ?_
    · skip
      refine tt_iload rfl ?_
      refine tt_istore (L2 := [some (.ref 0), some (.int v1), some (.int v2), some (.int v4), some (.int v4)]) (tt_lt rfl) rfl ?_
      refine tt_iinc (L2 := [some (.ref 0), some (.int v1), some (.int v2), some (.int v4), some (.int (v4 + 1))]) rfl rfl ?_
      refine tt_mask rfl ?_
      exact rfl
    · skip
      refine tt_iload rfl ?_
      exact rfl
theorem eX8_sustainable_17z (N : Nat) (v1 : Int32) (v2 : Int32) (v3 : Int32) (v4 : Int32) (I : gM) : hX8_sustainable_17 N 0 v1 v2 v3 v4 I = none := (rfl)
set_option maxRecDepth 100000 in
theorem eX8_sustainable (N : Nat) (v1 : Int32) (v2 : Int32) (I : gM) : fX8_sustainable N [.ref 0, .int v1, .int v2] I = hX8_sustainable_0 N v1 v2 I := by
  show gFn 5 (fX8_sustainable_k0 N) [.ref 0, .int v1, .int v2] I = (fX8_sustainable_k0 N) [some (.ref 0), some (.int v1), some (.int v2), none, none] [] I
  exact tt_fn rfl rfl

