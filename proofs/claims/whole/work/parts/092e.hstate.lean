def hX7_begin_0 (N : Nat) (I : gM) : gO := fX7_begin_k0 N [some (.ref 0), some (.ref 20)] [] I
set_option maxRecDepth 100000 in
theorem eX7_begin_0 (N : Nat) (I : gM) : hX7_begin_0 N I =
  (hV (fX2_copyFrom N [.ref 0, .ref 9] (gS (rg 1 9 ++ rg 20 9) I)) (rg 1 9 ++ rg 20 9) I fun I1 => hV (fX4_clear N [.ref 0] (gS (rg 10 10) I1)) (rg 10 10) I1 fun I2 => some (.inl none, (gU (gU I2 0 2 0) 0 3 0))) := by
  show (fX7_begin_k0 N) [some (.ref 0), some (.ref 20)] [] I = _
  unfold fX7_begin_k0
  refine tt_aload rfl ?_
  refine tt_getr (q := 1) rfl rfl ?_
  refine tt_aload rfl ?_
  refine tt_cavV (t := []) ⟨Nat.le_of_ble_eq_true rfl, Nat.le_of_ble_eq_true rfl⟩ rfl rfl rfl (fun I1 => ?_)
  refine tt_aload rfl ?_
  refine tt_getr (q := 10) rfl rfl ?_
  refine tt_cavV (t := []) ⟨Nat.le_of_ble_eq_true rfl, Nat.le_of_ble_eq_true rfl⟩ rfl rfl rfl (fun I2 => ?_)
  refine tt_aload rfl ?_
  refine tt_const ?_
  refine tt_put rfl rfl ?_
  refine tt_aload rfl ?_
  refine tt_const ?_
  refine tt_put rfl rfl ?_
  exact rfl
set_option maxRecDepth 100000 in
theorem eX7_begin (N : Nat) (I : gM) : fX7_begin N [.ref 0, .ref 20] I = hX7_begin_0 N I := by
  show gFn 2 (fX7_begin_k0 N) [.ref 0, .ref 20] I = (fX7_begin_k0 N) [some (.ref 0), some (.ref 20)] [] I
  exact tt_fn rfl rfl

def hX7_copyFrom_0 (N : Nat) (I : gM) : gO := fX7_copyFrom_k0 N [some (.ref 0), some (.ref 20)] [] I
set_option maxRecDepth 100000 in
theorem eX7_copyFrom_0 (N : Nat) (I : gM) : hX7_copyFrom_0 N I =
  (hV (fX2_copyFrom N [.ref 0, .ref 9] (gS (rg 1 9 ++ rg 21 9) I)) (rg 1 9 ++ rg 21 9) I fun I1 => hV (fX4_copyFrom N [.ref 0, .ref 10] (gS (rg 10 10 ++ rg 30 10) I1)) (rg 10 10 ++ rg 30 10) I1 fun I2 => some (.inl none, (gU (gU I2 0 2 (I2 20 2)) 0 3 (I2 20 3)))) := by
  show (fX7_copyFrom_k0 N) [some (.ref 0), some (.ref 20)] [] I = _
  unfold fX7_copyFrom_k0
  refine tt_aload rfl ?_
  refine tt_getr (q := 1) rfl rfl ?_
  refine tt_aload rfl ?_
  refine tt_getr (q := 21) rfl rfl ?_
  refine tt_cavV (t := []) ⟨Nat.le_of_ble_eq_true rfl, Nat.le_of_ble_eq_true rfl⟩ rfl rfl rfl (fun I1 => ?_)
  refine tt_aload rfl ?_
  refine tt_getr (q := 10) rfl rfl ?_
  refine tt_aload rfl ?_
  refine tt_getr (q := 30) rfl rfl ?_
  refine tt_cavV (t := []) ⟨Nat.le_of_ble_eq_true rfl, Nat.le_of_ble_eq_true rfl⟩ rfl rfl rfl (fun I2 => ?_)
  refine tt_aload rfl ?_
  refine tt_aload rfl ?_
  refine tt_get (x := (I2 20 2)) rfl rfl rfl ?_
  refine tt_put rfl rfl ?_
  refine tt_aload rfl ?_
  refine tt_aload rfl ?_
  refine tt_get (x := (I2 20 3)) rfl rfl rfl ?_
  refine tt_put rfl rfl ?_
  exact rfl
set_option maxRecDepth 100000 in
theorem eX7_copyFrom (N : Nat) (I : gM) : fX7_copyFrom N [.ref 0, .ref 20] I = hX7_copyFrom_0 N I := by
  show gFn 2 (fX7_copyFrom_k0 N) [.ref 0, .ref 20] I = (fX7_copyFrom_k0 N) [some (.ref 0), some (.ref 20)] [] I
  exact tt_fn rfl rfl

def hX7_arrive_0 (N : Nat) (v1 : Int32) (v2 : Int32) (I : gM) : gO := fX7_arrive_k0 N [some (.ref 0), some (.int v1), some (.int v2), none, none, none, none] [] I
def hX7_arrive_23 (N : Nat) (v1 : Int32) (v2 : Int32) (v3 : Int32) (s0 : Int32) (I : gM) : gO := fX7_arrive_k23 N [some (.ref 0), some (.int v1), some (.int v2), some (.int v3), none, none, none] [.int s0] I
def hX7_arrive_31 (N : Nat) (n31 : Nat) (v1 : Int32) (v2 : Int32) (v3 : Int32) (v4 : Int32) (v5 : Int32) (v6 : Int32) (I : gM) : gO := s_lp (fX7_arrive_b31 N) n31 [some (.ref 0), some (.int v1), some (.int v2), some (.int v3), some (.int v4), some (.int v5), some (.int v6)] [] I
def hX7_arrive_58 (N : Nat) (n31 : Nat) (v1 : Int32) (v2 : Int32) (v3 : Int32) (v4 : Int32) (v5 : Int32) (v6 : Int32) (I : gM) : gO := fX7_arrive_k58 N (s_lp (fX7_arrive_b31 N) n31) [some (.ref 0), some (.int v1), some (.int v2), some (.int v3), some (.int v4), some (.int v5), some (.int v6)] [] I
set_option maxRecDepth 100000 in
theorem eX7_arrive_0 (N : Nat) (v1 : Int32) (v2 : Int32) (I : gM) : hX7_arrive_0 N v1 v2 I =
  (hI (fX2_getNumber N [.ref 0, .int v1, .int 0] (gS (rg 1 9) I)) (rg 1 9) I fun x1 I1 => hI (fX2_getNumber N [.ref 0, .int v1, .int 1] (gS (rg 1 9) I1)) (rg 1 9) I1 fun x2 I2 => hI (fX8_pair N [.int x1, .int x2] (gS [] I2)) [] I2 fun x3 I3 => hX7_arrive_23 N v1 v2 x1 x3 I3) := by
  show (fX7_arrive_k0 N) [some (.ref 0), some (.int v1), some (.int v2), none, none, none, none] [] I = _
  unfold fX7_arrive_k0
  refine tt_aload rfl ?_
  refine tt_getr (q := 1) rfl rfl ?_
  refine tt_iload rfl ?_
  refine tt_const ?_
  refine tt_cavI (t := []) ⟨Nat.le_of_ble_eq_true rfl, Nat.le_of_ble_eq_true rfl⟩ rfl rfl rfl (fun x1 I1 => ?_)
  refine tt_istore (L2 := [some (.ref 0), some (.int v1), some (.int v2), some (.int x1), none, none, none]) (tt_lt rfl) rfl ?_
  refine tt_iload rfl ?_
  refine tt_aload rfl ?_
  refine tt_getr (q := 1) rfl rfl ?_
  refine tt_iload rfl ?_
  refine tt_const ?_
  refine tt_cavI (t := [.int x1]) ⟨Nat.le_of_ble_eq_true rfl, Nat.le_of_ble_eq_true rfl⟩ rfl rfl rfl (fun x2 I2 => ?_)
  refine tt_caI (t := []) ⟨Nat.le_of_ble_eq_true rfl, Nat.le_of_ble_eq_true rfl⟩ rfl rfl rfl (fun x3 I3 => ?_)
  refine tt_mask rfl ?_
  exact rfl
set_option maxRecDepth 100000 in
theorem eX7_arrive_23 (N : Nat) (v1 : Int32) (v2 : Int32) (v3 : Int32) (s0 : Int32) (I : gM) : hX7_arrive_23 N v1 v2 v3 s0 I =
  (hX7_arrive_31 N N v1 v2 v3 s0 0 0 I) := by
  show (fX7_arrive_k23 N) [some (.ref 0), some (.int v1), some (.int v2), some (.int v3), none, none, none] [.int s0] I = _
  unfold fX7_arrive_k23
  refine tt_istore (L2 := [some (.ref 0), some (.int v1), some (.int v2), some (.int v3), some (.int s0), none, none]) (tt_lt rfl) rfl ?_
  refine tt_const ?_
  refine tt_istore (L2 := [some (.ref 0), some (.int v1), some (.int v2), some (.int v3), some (.int s0), some (.int 0), none]) (tt_lt rfl) rfl ?_
  refine tt_const ?_
  refine tt_istore (L2 := [some (.ref 0), some (.int v1), some (.int v2), some (.int v3), some (.int s0), some (.int 0), some (.int 0)]) (tt_lt rfl) rfl ?_
  refine tt_mask rfl ?_
  exact rfl
set_option maxRecDepth 100000 in
theorem eX7_arrive_31 (N : Nat) (n31 : Nat) (v1 : Int32) (v2 : Int32) (v3 : Int32) (v4 : Int32) (v5 : Int32) (v6 : Int32) (I : gM) : hX7_arrive_31 N (n31 + 1) v1 v2 v3 v4 v5 v6 I =
  (if gc_ge v6 v2 = true then (hV (fX2_addNumber N [.ref 0, .int v1, .int 4, .int v2] (gS (rg 1 9) I)) (rg 1 9) I fun I4 => hV (fX2_addNumber N [.ref 0, .int v1, .int 5, .int (gb_sub v2 v5)] (gS (rg 1 9) I4)) (rg 1 9) I4 fun I5 => some (.inl (some (.int v5)), I5)) else (hI (fX4_enter N [.ref 0, .int v4, .int v1, .int (I 0 2), .int v3] (gS (rg 10 10) I)) (rg 10 10) I fun x6 I6 => if gz_eq x6 = true then (hX7_arrive_58 N n31 v1 v2 v3 v4 v5 v6 I6) else (hX7_arrive_58 N n31 v1 v2 v3 v4 (v5 + 1) v6 I6))) := by
  show (fX7_arrive_b31 N (s_lp (fX7_arrive_b31 N) n31)) [some (.ref 0), some (.int v1), some (.int v2), some (.int v3), some (.int v4), some (.int v5), some (.int v6)] [] I = _
  unfold fX7_arrive_b31
  refine tt_iload rfl ?_
  refine tt_iload rfl ?_
  refine tt_cmp ?_ ?_
  · skip
    refine tt_aload rfl ?_
    refine tt_getr (q := 1) rfl rfl ?_
    refine tt_iload rfl ?_
    refine tt_const ?_
    refine tt_iload rfl ?_
    refine tt_cavV (t := []) ⟨Nat.le_of_ble_eq_true rfl, Nat.le_of_ble_eq_true rfl⟩ rfl rfl rfl (fun I4 => ?_)
    refine tt_aload rfl ?_
    refine tt_getr (q := 1) rfl rfl ?_
    refine tt_iload rfl ?_
    refine tt_const ?_
    refine tt_iload rfl ?_
    refine tt_iload rfl ?_
    refine tt_bin ?_
    refine tt_cavV (t := []) ⟨Nat.le_of_ble_eq_true rfl, Nat.le_of_ble_eq_true rfl⟩ rfl rfl rfl (fun I5 => ?_)
    refine tt_iload rfl ?_
    exact rfl
  · skip
    refine tt_aload rfl ?_
    refine tt_getr (q := 10) rfl rfl ?_
    refine tt_iload rfl ?_
    refine tt_iload rfl ?_
    refine tt_aload rfl ?_
    refine tt_get (x := (I 0 2)) rfl rfl rfl ?_
    refine tt_iload rfl ?_
    refine tt_cavI (t := []) ⟨Nat.le_of_ble_eq_true rfl, Nat.le_of_ble_eq_true rfl⟩ rfl rfl rfl (fun x6 I6 => ?_)
    refine tt_if ?_ ?_
    · skip
      refine tt_mask rfl ?_
      exact rfl
    · skip
      refine tt_iinc (L2 := [some (.ref 0), some (.int v1), some (.int v2), some (.int v3), some (.int v4), some (.int (v5 + 1)), some (.int v6)]) rfl rfl ?_
      refine tt_mask rfl ?_
      exact rfl
theorem eX7_arrive_31z (N : Nat) (v1 : Int32) (v2 : Int32) (v3 : Int32) (v4 : Int32) (v5 : Int32) (v6 : Int32) (I : gM) : hX7_arrive_31 N 0 v1 v2 v3 v4 v5 v6 I = none := (rfl)
set_option maxRecDepth 100000 in
theorem eX7_arrive_58 (N : Nat) (n31 : Nat) (v1 : Int32) (v2 : Int32) (v3 : Int32) (v4 : Int32) (v5 : Int32) (v6 : Int32) (I : gM) : hX7_arrive_58 N n31 v1 v2 v3 v4 v5 v6 I =
  (hX7_arrive_31 N n31 v1 v2 v3 v4 v5 (v6 + 1) I) := by
  show (fX7_arrive_k58 N (s_lp (fX7_arrive_b31 N) n31)) [some (.ref 0), some (.int v1), some (.int v2), some (.int v3), some (.int v4), some (.int v5), some (.int v6)] [] I = _
  unfold fX7_arrive_k58
  refine tt_iinc (L2 := [some (.ref 0), some (.int v1), some (.int v2), some (.int v3), some (.int v4), some (.int v5), some (.int (v6 + 1))]) rfl rfl ?_
  refine tt_mask rfl ?_
  exact rfl
set_option maxRecDepth 100000 in
theorem eX7_arrive (N : Nat) (v1 : Int32) (v2 : Int32) (I : gM) : fX7_arrive N [.ref 0, .int v1, .int v2] I = hX7_arrive_0 N v1 v2 I := by
  show gFn 7 (fX7_arrive_k0 N) [.ref 0, .int v1, .int v2] I = (fX7_arrive_k0 N) [some (.ref 0), some (.int v1), some (.int v2), none, none, none, none] [] I
  exact tt_fn rfl rfl

def hX7_loseAll_0 (N : Nat) (v1 : Int32) (I : gM) : gO := fX7_loseAll_k0 N [some (.ref 0), some (.int v1), none, none, none] [] I
def hX7_loseAll_12 (N : Nat) (n12 : Nat) (v1 : Int32) (v2 : Int32) (v3 : Int32) (I : gM) : gO := s_lp (fX7_loseAll_b12 N) n12 [some (.ref 0), some (.int v1), some (.int v2), some (.int v3), none] [] I
def hX7_loseAll_62 (N : Nat) (n12 : Nat) (v1 : Int32) (v2 : Int32) (v3 : Int32) (I : gM) : gO := fX7_loseAll_k62 N (s_lp (fX7_loseAll_b12 N) n12) [some (.ref 0), some (.int v1), some (.int v2), some (.int v3), none] [] I
set_option maxRecDepth 100000 in
theorem eX7_loseAll_0 (N : Nat) (v1 : Int32) (I : gM) : hX7_loseAll_0 N v1 I =
  (ck 100 v1 <| hX7_loseAll_12 N N v1 ((I 13 (Int32.toNatClampNeg v1))) 0 I) := by
  show (fX7_loseAll_k0 N) [some (.ref 0), some (.int v1), none, none, none] [] I = _
  unfold fX7_loseAll_k0
  refine tt_aload rfl ?_
  refine tt_getr (q := 10) rfl rfl ?_
  refine tt_getr (q := 13) rfl rfl ?_
  refine tt_iload rfl ?_
  refine tt_ald (x := (I 13 (Int32.toNatClampNeg v1))) rfl rfl ?_
  refine tt_istore (L2 := [some (.ref 0), some (.int v1), some (.int ((I 13 (Int32.toNatClampNeg v1)))), none, none]) (tt_lt rfl) rfl ?_
  refine tt_const ?_
  refine tt_istore (L2 := [some (.ref 0), some (.int v1), some (.int ((I 13 (Int32.toNatClampNeg v1)))), some (.int 0), none]) (tt_lt rfl) rfl ?_
  refine tt_mask rfl ?_
  exact rfl
set_option maxRecDepth 100000 in
theorem eX7_loseAll_12 (N : Nat) (n12 : Nat) (v1 : Int32) (v2 : Int32) (v3 : Int32) (I : gM) : hX7_loseAll_12 N (n12 + 1) v1 v2 v3 I =
  (if gc_ge v3 v2 = true then (some (.inl (some (.int v2)), I)) else (hI (fX4_takeBehind N [.ref 0, .int v1, .int (-1)] (gS (rg 10 10) I)) (rg 10 10) I fun x1 I1 => if gc_eq x1 (-1) = true then (hX7_loseAll_62 N n12 v1 v2 v3 I1) else (ck 500 x1 <| hV (fX2_addNumber N [.ref 0, .int ((I1 16 (Int32.toNatClampNeg x1))), .int 5, .int 1] (gS (rg 1 9) I1)) (rg 1 9) I1 fun I2 => hV (fX4_release N [.ref 0, .int x1] (gS (rg 10 10) I2)) (rg 10 10) I2 fun I3 => hX7_loseAll_62 N n12 v1 v2 v3 I3))) := by
  show (fX7_loseAll_b12 N (s_lp (fX7_loseAll_b12 N) n12)) [some (.ref 0), some (.int v1), some (.int v2), some (.int v3), none] [] I = _
  unfold fX7_loseAll_b12
  refine tt_iload rfl ?_
  refine tt_iload rfl ?_
  refine tt_cmp ?_ ?_
  · skip
    refine tt_iload rfl ?_
    exact rfl
  · skip
    refine tt_aload rfl ?_
    refine tt_getr (q := 10) rfl rfl ?_
    refine tt_iload rfl ?_
    refine tt_const ?_
    refine tt_cavI (t := []) ⟨Nat.le_of_ble_eq_true rfl, Nat.le_of_ble_eq_true rfl⟩ rfl rfl rfl (fun x1 I1 => ?_)
    refine tt_istore (L2 := [some (.ref 0), some (.int v1), some (.int v2), some (.int v3), some (.int x1)]) (tt_lt rfl) rfl ?_
    refine tt_iload rfl ?_
    refine tt_const ?_
    refine tt_cmp ?_ ?_
    · skip
      refine tt_mask rfl ?_
      exact rfl
    · skip
      refine tt_aload rfl ?_
      refine tt_getr (q := 1) rfl rfl ?_
      refine tt_aload rfl ?_
      refine tt_getr (q := 10) rfl rfl ?_
      refine tt_getr (q := 16) rfl rfl ?_
      refine tt_iload rfl ?_
      refine tt_ald (x := (I1 16 (Int32.toNatClampNeg x1))) rfl rfl ?_
      refine tt_const ?_
      refine tt_const ?_
      refine tt_cavV (t := []) ⟨Nat.le_of_ble_eq_true rfl, Nat.le_of_ble_eq_true rfl⟩ rfl rfl rfl (fun I2 => ?_)
      refine tt_aload rfl ?_
      refine tt_getr (q := 10) rfl rfl ?_
      refine tt_iload rfl ?_
      refine tt_cavV (t := []) ⟨Nat.le_of_ble_eq_true rfl, Nat.le_of_ble_eq_true rfl⟩ rfl rfl rfl (fun I3 => ?_)
      refine tt_mask rfl ?_
      exact rfl
theorem eX7_loseAll_12z (N : Nat) (v1 : Int32) (v2 : Int32) (v3 : Int32) (I : gM) : hX7_loseAll_12 N 0 v1 v2 v3 I = none := (rfl)
set_option maxRecDepth 100000 in
theorem eX7_loseAll_62 (N : Nat) (n12 : Nat) (v1 : Int32) (v2 : Int32) (v3 : Int32) (I : gM) : hX7_loseAll_62 N n12 v1 v2 v3 I =
  (hX7_loseAll_12 N n12 v1 v2 (v3 + 1) I) := by
  show (fX7_loseAll_k62 N (s_lp (fX7_loseAll_b12 N) n12)) [some (.ref 0), some (.int v1), some (.int v2), some (.int v3), none] [] I = _
  unfold fX7_loseAll_k62
  refine tt_iinc (L2 := [some (.ref 0), some (.int v1), some (.int v2), some (.int (v3 + 1)), none]) rfl rfl ?_
  refine tt_mask rfl ?_
  exact rfl
set_option maxRecDepth 100000 in
theorem eX7_loseAll (N : Nat) (v1 : Int32) (I : gM) : fX7_loseAll N [.ref 0, .int v1] I = hX7_loseAll_0 N v1 I := by
  show gFn 5 (fX7_loseAll_k0 N) [.ref 0, .int v1] I = (fX7_loseAll_k0 N) [some (.ref 0), some (.int v1), none, none, none] [] I
  exact tt_fn rfl rfl

def hX7_deadline_0 (N : Nat) (v1 : Int32) (I : gM) : gO := fX7_deadline_k0 N [some (.ref 0), some (.int v1), none] [] I
set_option maxRecDepth 100000 in
theorem eX7_deadline_0 (N : Nat) (v1 : Int32) (I : gM) : hX7_deadline_0 N v1 I =
  (ck 500 v1 <| hI (fX2_getNumber N [.ref 0, .int ((I 16 (Int32.toNatClampNeg v1))), .int 3] (gS (rg 1 9) I)) (rg 1 9) I fun x1 I1 => if gz_ne x1 = true then (ck 500 v1 <| some (.inl (some (.int ((gb_add ((I1 17 (Int32.toNatClampNeg v1))) x1)))), I1)) else (some (.inl (some (.int (-1))), I1))) := by
  show (fX7_deadline_k0 N) [some (.ref 0), some (.int v1), none] [] I = _
  unfold fX7_deadline_k0
  refine tt_aload rfl ?_
  refine tt_getr (q := 1) rfl rfl ?_
  refine tt_aload rfl ?_
  refine tt_getr (q := 10) rfl rfl ?_
  refine tt_getr (q := 16) rfl rfl ?_
  refine tt_iload rfl ?_
  refine tt_ald (x := (I 16 (Int32.toNatClampNeg v1))) rfl rfl ?_
  refine tt_const ?_
  refine tt_cavI (t := []) ⟨Nat.le_of_ble_eq_true rfl, Nat.le_of_ble_eq_true rfl⟩ rfl rfl rfl (fun x1 I1 => ?_)
  refine tt_istore (L2 := [some (.ref 0), some (.int v1), some (.int x1)]) (tt_lt rfl) rfl ?_
  refine tt_iload rfl ?_
  refine tt_if ?_ ?_
  · skip
    refine tt_aload rfl ?_
    refine tt_getr (q := 10) rfl rfl ?_
    refine tt_getr (q := 17) rfl rfl ?_
    refine tt_iload rfl ?_
    refine tt_ald (x := (I1 17 (Int32.toNatClampNeg v1))) rfl rfl ?_
    refine tt_iload rfl ?_
    refine tt_bin ?_
    exact rfl
  · skip
    refine tt_const ?_
    exact rfl
set_option maxRecDepth 100000 in
theorem eX7_deadline (N : Nat) (v1 : Int32) (I : gM) : fX7_deadline N [.ref 0, .int v1] I = hX7_deadline_0 N v1 I := by
  show gFn 3 (fX7_deadline_k0 N) [.ref 0, .int v1] I = (fX7_deadline_k0 N) [some (.ref 0), some (.int v1), none] [] I
  exact tt_fn rfl rfl

def hX7_leastDeadline_0 (N : Nat) (I : gM) : gO := fX7_leastDeadline_k0 N [some (.ref 0), none, none, none, none, none, none] [] I
def hX7_leastDeadline_4 (N : Nat) (n4 : Nat) (v1 : Int32) (v2 : Int32) (I : gM) : gO := s_lp (fX7_leastDeadline_b4 N) n4 [some (.ref 0), some (.int v1), some (.int v2), none, none, none, none] [] I
def hX7_leastDeadline_34 (N : Nat) (n4 : Nat) (n34 : Nat) (v1 : Int32) (v2 : Int32) (v3 : Int32) (v4 : Int32) (v5 : Int32) (I : gM) : gO := s_lp (fX7_leastDeadline_b34 N (s_lp (fX7_leastDeadline_b4 N) n4)) n34 [some (.ref 0), some (.int v1), some (.int v2), some (.int v3), some (.int v4), some (.int v5), none] [] I
def hX7_leastDeadline_92 (N : Nat) (n4 : Nat) (v1 : Int32) (v2 : Int32) (I : gM) : gO := fX7_leastDeadline_k92 N (s_lp (fX7_leastDeadline_b4 N) n4) [some (.ref 0), some (.int v1), some (.int v2), none, none, none, none] [] I
def hX7_leastDeadline_74 (N : Nat) (n4 : Nat) (n34 : Nat) (v1 : Int32) (v2 : Int32) (v3 : Int32) (v4 : Int32) (v5 : Int32) (I : gM) : gO := fX7_leastDeadline_k74 N (s_lp (fX7_leastDeadline_b4 N) n4) (s_lp (fX7_leastDeadline_b34 N (s_lp (fX7_leastDeadline_b4 N) n4)) n34) [some (.ref 0), some (.int v1), some (.int v2), some (.int v3), some (.int v4), some (.int v5), none] [] I
def hX7_leastDeadline_71 (N : Nat) (n4 : Nat) (n34 : Nat) (v2 : Int32) (v3 : Int32) (v4 : Int32) (v5 : Int32) (v6 : Int32) (I : gM) : gO := fX7_leastDeadline_k71 N (s_lp (fX7_leastDeadline_b4 N) n4) (s_lp (fX7_leastDeadline_b34 N (s_lp (fX7_leastDeadline_b4 N) n4)) n34) [some (.ref 0), none, some (.int v2), some (.int v3), some (.int v4), some (.int v5), some (.int v6)] [] I
set_option maxRecDepth 100000 in
theorem eX7_leastDeadline_0 (N : Nat) (I : gM) : hX7_leastDeadline_0 N I =
  (hX7_leastDeadline_4 N N (-1) 0 I) := by
  show (fX7_leastDeadline_k0 N) [some (.ref 0), none, none, none, none, none, none] [] I = _
  unfold fX7_leastDeadline_k0
  refine tt_const ?_
  refine tt_istore (L2 := [some (.ref 0), some (.int (-1)), none, none, none, none, none]) (tt_lt rfl) rfl ?_
  refine tt_const ?_
  refine tt_istore (L2 := [some (.ref 0), some (.int (-1)), some (.int 0), none, none, none, none]) (tt_lt rfl) rfl ?_
  refine tt_mask rfl ?_
  exact rfl
set_option maxRecDepth 100000 in
theorem eX7_leastDeadline_4 (N : Nat) (n4 : Nat) (v1 : Int32) (v2 : Int32) (I : gM) : hX7_leastDeadline_4 N (n4 + 1) v1 v2 I =
  (if gc_ge v2 100 = true then (some (.inl (some (.int v1)), I)) else (ck 100 v2 <| ck 100 v2 <| hX7_leastDeadline_34 N n4 N v1 v2 ((I 13 (Int32.toNatClampNeg v2))) ((I 11 (Int32.toNatClampNeg v2))) 0 I)) := by
  show (fX7_leastDeadline_b4 N (s_lp (fX7_leastDeadline_b4 N) n4)) [some (.ref 0), some (.int v1), some (.int v2), none, none, none, none] [] I = _
  unfold fX7_leastDeadline_b4
  refine tt_iload rfl ?_
  refine tt_const ?_
  refine tt_cmp ?_ ?_
  · skip
    refine tt_iload rfl ?_
    exact rfl
  · skip
    refine tt_aload rfl ?_
    refine tt_getr (q := 10) rfl rfl ?_
    refine tt_getr (q := 13) rfl rfl ?_
    refine tt_iload rfl ?_
    refine tt_ald (x := (I 13 (Int32.toNatClampNeg v2))) rfl rfl ?_
    refine tt_istore (L2 := [some (.ref 0), some (.int v1), some (.int v2), some (.int ((I 13 (Int32.toNatClampNeg v2)))), none, none, none]) (tt_lt rfl) rfl ?_
    refine tt_aload rfl ?_
    refine tt_getr (q := 10) rfl rfl ?_
    refine tt_getr (q := 11) rfl rfl ?_
    refine tt_iload rfl ?_
    refine tt_ald (x := (I 11 (Int32.toNatClampNeg v2))) rfl rfl ?_
    refine tt_istore (L2 := [some (.ref 0), some (.int v1), some (.int v2), some (.int ((I 13 (Int32.toNatClampNeg v2)))), some (.int ((I 11 (Int32.toNatClampNeg v2)))), none, none]) (tt_lt rfl) rfl ?_
    refine tt_const ?_
    refine tt_istore (L2 := [some (.ref 0), some (.int v1), some (.int v2), some (.int ((I 13 (Int32.toNatClampNeg v2)))), some (.int ((I 11 (Int32.toNatClampNeg v2)))), some (.int 0), none]) (tt_lt rfl) rfl ?_
    refine tt_mask rfl ?_
    exact rfl
theorem eX7_leastDeadline_4z (N : Nat) (v1 : Int32) (v2 : Int32) (I : gM) : hX7_leastDeadline_4 N 0 v1 v2 I = none := (rfl)
set_option maxRecDepth 100000 in
theorem eX7_leastDeadline_34 (N : Nat) (n4 : Nat) (n34 : Nat) (v1 : Int32) (v2 : Int32) (v3 : Int32) (v4 : Int32) (v5 : Int32) (I : gM) : hX7_leastDeadline_34 N n4 (n34 + 1) v1 v2 v3 v4 v5 I =
  (if gc_ge v5 v3 = true then (hX7_leastDeadline_92 N n4 v1 v2 I) else (if gc_eq v4 (-1) = true then (hX7_leastDeadline_92 N n4 v1 v2 I) else (hI (fX7_deadline N [.ref 0, .int v4] (gS (rg 0 20) I)) (rg 0 20) I fun x1 I1 => if gc_eq x1 (-1) = true then (hX7_leastDeadline_74 N n4 n34 v1 v2 v3 v4 v5 I1) else (if gc_eq v1 (-1) = true then (hX7_leastDeadline_71 N n4 n34 v2 v3 v4 v5 x1 I1) else (if gc_ge x1 v1 = true then (hX7_leastDeadline_74 N n4 n34 v1 v2 v3 v4 v5 I1) else (hX7_leastDeadline_71 N n4 n34 v2 v3 v4 v5 x1 I1)))))) := by
  show (fX7_leastDeadline_b34 N (s_lp (fX7_leastDeadline_b4 N) n4) (s_lp (fX7_leastDeadline_b34 N (s_lp (fX7_leastDeadline_b4 N) n4)) n34)) [some (.ref 0), some (.int v1), some (.int v2), some (.int v3), some (.int v4), some (.int v5), none] [] I = _
  unfold fX7_leastDeadline_b34
  refine tt_iload rfl ?_
  refine tt_iload rfl ?_
  refine tt_cmp ?_ ?_
  · skip
    refine tt_mask rfl ?_
    exact rfl
  · skip
    refine tt_iload rfl ?_
    refine tt_const ?_
    refine tt_cmp ?_ ?_
    · skip
      refine tt_mask rfl ?_
      exact rfl
    · skip
      refine tt_aload rfl ?_
      refine tt_iload rfl ?_
      refine tt_cavI (t := []) ⟨Nat.le_of_ble_eq_true rfl, Nat.le_of_ble_eq_true rfl⟩ rfl rfl rfl (fun x1 I1 => ?_)
      refine tt_istore (L2 := [some (.ref 0), some (.int v1), some (.int v2), some (.int v3), some (.int v4), some (.int v5), some (.int x1)]) (tt_lt rfl) rfl ?_
      refine tt_iload rfl ?_
      refine tt_const ?_
      refine tt_cmp ?_ ?_
      · skip
        refine tt_mask rfl ?_
        exact rfl
      · skip
        refine tt_iload rfl ?_
        refine tt_const ?_
        refine tt_cmp ?_ ?_
        · skip
          refine tt_mask rfl ?_
          exact rfl
        · skip
          refine tt_iload rfl ?_
          refine tt_iload rfl ?_
          refine tt_cmp ?_ ?_
          · skip
            refine tt_mask rfl ?_
            exact rfl
          · skip
            refine tt_mask rfl ?_
            exact rfl
theorem eX7_leastDeadline_34z (N : Nat) (n4 : Nat) (v1 : Int32) (v2 : Int32) (v3 : Int32) (v4 : Int32) (v5 : Int32) (I : gM) : hX7_leastDeadline_34 N n4 0 v1 v2 v3 v4 v5 I = none := (rfl)
set_option maxRecDepth 100000 in
theorem eX7_leastDeadline_92 (N : Nat) (n4 : Nat) (v1 : Int32) (v2 : Int32) (I : gM) : hX7_leastDeadline_92 N n4 v1 v2 I =
  (hX7_leastDeadline_4 N n4 v1 (v2 + 1) I) := by
  show (fX7_leastDeadline_k92 N (s_lp (fX7_leastDeadline_b4 N) n4)) [some (.ref 0), some (.int v1), some (.int v2), none, none, none, none] [] I = _
  unfold fX7_leastDeadline_k92
  refine tt_iinc (L2 := [some (.ref 0), some (.int v1), some (.int (v2 + 1)), none, none, none, none]) rfl rfl ?_
  refine tt_mask rfl ?_
  exact rfl
set_option maxRecDepth 100000 in
theorem eX7_leastDeadline_74 (N : Nat) (n4 : Nat) (n34 : Nat) (v1 : Int32) (v2 : Int32) (v3 : Int32) (v4 : Int32) (v5 : Int32) (I : gM) : hX7_leastDeadline_74 N n4 n34 v1 v2 v3 v4 v5 I =
  (ck 500 v4 <| hX7_leastDeadline_34 N n4 n34 v1 v2 v3 ((I 15 (Int32.toNatClampNeg v4))) (v5 + 1) I) := by
  show (fX7_leastDeadline_k74 N (s_lp (fX7_leastDeadline_b4 N) n4) (s_lp (fX7_leastDeadline_b34 N (s_lp (fX7_leastDeadline_b4 N) n4)) n34)) [some (.ref 0), some (.int v1), some (.int v2), some (.int v3), some (.int v4), some (.int v5), none] [] I = _
  unfold fX7_leastDeadline_k74
  refine tt_aload rfl ?_
  refine tt_getr (q := 10) rfl rfl ?_
  refine tt_getr (q := 15) rfl rfl ?_
  refine tt_iload rfl ?_
  refine tt_ald (x := (I 15 (Int32.toNatClampNeg v4))) rfl rfl ?_
  refine tt_istore (L2 := [some (.ref 0), some (.int v1), some (.int v2), some (.int v3), some (.int ((I 15 (Int32.toNatClampNeg v4)))), some (.int v5), none]) (tt_lt rfl) rfl ?_
  refine tt_iinc (L2 := [some (.ref 0), some (.int v1), some (.int v2), some (.int v3), some (.int ((I 15 (Int32.toNatClampNeg v4)))), some (.int (v5 + 1)), none]) rfl rfl ?_
  refine tt_mask rfl ?_
  exact rfl
set_option maxRecDepth 100000 in
theorem eX7_leastDeadline_71 (N : Nat) (n4 : Nat) (n34 : Nat) (v2 : Int32) (v3 : Int32) (v4 : Int32) (v5 : Int32) (v6 : Int32) (I : gM) : hX7_leastDeadline_71 N n4 n34 v2 v3 v4 v5 v6 I =
  (hX7_leastDeadline_74 N n4 n34 v6 v2 v3 v4 v5 I) := by
  show (fX7_leastDeadline_k71 N (s_lp (fX7_leastDeadline_b4 N) n4) (s_lp (fX7_leastDeadline_b34 N (s_lp (fX7_leastDeadline_b4 N) n4)) n34)) [some (.ref 0), none, some (.int v2), some (.int v3), some (.int v4), some (.int v5), some (.int v6)] [] I = _
  unfold fX7_leastDeadline_k71
  refine tt_iload rfl ?_
  refine tt_istore (L2 := [some (.ref 0), some (.int v6), some (.int v2), some (.int v3), some (.int v4), some (.int v5), some (.int v6)]) (tt_lt rfl) rfl ?_
  refine tt_mask rfl ?_
  exact rfl
set_option maxRecDepth 100000 in
theorem eX7_leastDeadline (N : Nat) (I : gM) : fX7_leastDeadline N [.ref 0] I = hX7_leastDeadline_0 N I := by
  show gFn 7 (fX7_leastDeadline_k0 N) [.ref 0] I = (fX7_leastDeadline_k0 N) [some (.ref 0), none, none, none, none, none, none] [] I
  exact tt_fn rfl rfl

def hX7_expireIn_0 (N : Nat) (v1 : Int32) (I : gM) : gO := fX7_expireIn_k0 N [some (.ref 0), some (.int v1), none, none, none, none, none, none] [] I
def hX7_expireIn_26 (N : Nat) (n26 : Nat) (v1 : Int32) (v2 : Int32) (v3 : Int32) (v4 : Int32) (v5 : Int32) (I : gM) : gO := s_lp (fX7_expireIn_b26 N) n26 [some (.ref 0), some (.int v1), some (.int v2), some (.int v3), some (.int v4), some (.int v5), none, none] [] I
def hX7_expireIn_117 (N : Nat) (n26 : Nat) (v1 : Int32) (v2 : Int32) (v4 : Int32) (v5 : Int32) (v6 : Int32) (I : gM) : gO := fX7_expireIn_k117 N (s_lp (fX7_expireIn_b26 N) n26) [some (.ref 0), some (.int v1), some (.int v2), none, some (.int v4), some (.int v5), some (.int v6), none] [] I
def hX7_expireIn_105 (N : Nat) (n26 : Nat) (v1 : Int32) (v2 : Int32) (v3 : Int32) (v4 : Int32) (v5 : Int32) (v6 : Int32) (I : gM) : gO := fX7_expireIn_k105 N (s_lp (fX7_expireIn_b26 N) n26) [some (.ref 0), some (.int v1), some (.int v2), some (.int v3), some (.int v4), some (.int v5), some (.int v6), none] [] I
def hX7_expireIn_120 (N : Nat) (n26 : Nat) (v1 : Int32) (v2 : Int32) (v3 : Int32) (v5 : Int32) (v6 : Int32) (I : gM) : gO := fX7_expireIn_k120 N (s_lp (fX7_expireIn_b26 N) n26) [some (.ref 0), some (.int v1), some (.int v2), some (.int v3), none, some (.int v5), some (.int v6), none] [] I
set_option maxRecDepth 100000 in
theorem eX7_expireIn_0 (N : Nat) (v1 : Int32) (I : gM) : hX7_expireIn_0 N v1 I =
  (ck 100 v1 <| ck 100 v1 <| hX7_expireIn_26 N N v1 ((I 13 (Int32.toNatClampNeg v1))) (-1) ((I 11 (Int32.toNatClampNeg v1))) 0 I) := by
  show (fX7_expireIn_k0 N) [some (.ref 0), some (.int v1), none, none, none, none, none, none] [] I = _
  unfold fX7_expireIn_k0
  refine tt_aload rfl ?_
  refine tt_getr (q := 10) rfl rfl ?_
  refine tt_getr (q := 13) rfl rfl ?_
  refine tt_iload rfl ?_
  refine tt_ald (x := (I 13 (Int32.toNatClampNeg v1))) rfl rfl ?_
  refine tt_istore (L2 := [some (.ref 0), some (.int v1), some (.int ((I 13 (Int32.toNatClampNeg v1)))), none, none, none, none, none]) (tt_lt rfl) rfl ?_
  refine tt_const ?_
  refine tt_istore (L2 := [some (.ref 0), some (.int v1), some (.int ((I 13 (Int32.toNatClampNeg v1)))), some (.int (-1)), none, none, none, none]) (tt_lt rfl) rfl ?_
  refine tt_aload rfl ?_
  refine tt_getr (q := 10) rfl rfl ?_
  refine tt_getr (q := 11) rfl rfl ?_
  refine tt_iload rfl ?_
  refine tt_ald (x := (I 11 (Int32.toNatClampNeg v1))) rfl rfl ?_
  refine tt_istore (L2 := [some (.ref 0), some (.int v1), some (.int ((I 13 (Int32.toNatClampNeg v1)))), some (.int (-1)), some (.int ((I 11 (Int32.toNatClampNeg v1)))), none, none, none]) (tt_lt rfl) rfl ?_
  refine tt_const ?_
  refine tt_istore (L2 := [some (.ref 0), some (.int v1), some (.int ((I 13 (Int32.toNatClampNeg v1)))), some (.int (-1)), some (.int ((I 11 (Int32.toNatClampNeg v1)))), some (.int 0), none, none]) (tt_lt rfl) rfl ?_
  refine tt_mask rfl ?_
  exact rfl
set_option maxRecDepth 100000 in
theorem eX7_expireIn_26 (N : Nat) (n26 : Nat) (v1 : Int32) (v2 : Int32) (v3 : Int32) (v4 : Int32) (v5 : Int32) (I : gM) : hX7_expireIn_26 N (n26 + 1) v1 v2 v3 v4 v5 I =
  (if gc_ge v5 v2 = true then (some (.inl none, I)) else (if gc_eq v4 (-1) = true then (some (.inl none, I)) else (ck 500 v4 <| hI (fX7_deadline N [.ref 0, .int v4] (gS (rg 0 20) I)) (rg 0 20) I fun x1 I1 => if gc_eq x1 (-1) = true then (hX7_expireIn_117 N n26 v1 v2 v4 v5 ((I 15 (Int32.toNatClampNeg v4))) I1) else (if gc_lt ((gb_add (I1 0 2) 1)) x1 = true then (hX7_expireIn_117 N n26 v1 v2 v4 v5 ((I 15 (Int32.toNatClampNeg v4))) I1) else (hI (fX4_takeBehind N [.ref 0, .int v1, .int v3] (gS (rg 10 10) I1)) (rg 10 10) I1 fun x2 I2 => ck 500 v4 <| hV (fX2_addNumber N [.ref 0, .int ((I2 16 (Int32.toNatClampNeg v4))), .int 7, .int 1] (gS (rg 1 9) I2)) (rg 1 9) I2 fun I3 => hX7_expireIn_105 N n26 v1 v2 v3 v4 v5 ((I 15 (Int32.toNatClampNeg v4))) I3))))) := by
  show (fX7_expireIn_b26 N (s_lp (fX7_expireIn_b26 N) n26)) [some (.ref 0), some (.int v1), some (.int v2), some (.int v3), some (.int v4), some (.int v5), none, none] [] I = _
  unfold fX7_expireIn_b26
  refine tt_iload rfl ?_
  refine tt_iload rfl ?_
  refine tt_cmp ?_ ?_
  · skip
    exact rfl
  · skip
    refine tt_iload rfl ?_
    refine tt_const ?_
    refine tt_cmp ?_ ?_
    · skip
      exact rfl
    · skip
      refine tt_aload rfl ?_
      refine tt_getr (q := 10) rfl rfl ?_
      refine tt_getr (q := 15) rfl rfl ?_
      refine tt_iload rfl ?_
      refine tt_ald (x := (I 15 (Int32.toNatClampNeg v4))) rfl rfl ?_
      refine tt_istore (L2 := [some (.ref 0), some (.int v1), some (.int v2), some (.int v3), some (.int v4), some (.int v5), some (.int ((I 15 (Int32.toNatClampNeg v4)))), none]) (tt_lt rfl) rfl ?_
      refine tt_aload rfl ?_
      refine tt_iload rfl ?_
      refine tt_cavI (t := []) ⟨Nat.le_of_ble_eq_true rfl, Nat.le_of_ble_eq_true rfl⟩ rfl rfl rfl (fun x1 I1 => ?_)
      refine tt_istore (L2 := [some (.ref 0), some (.int v1), some (.int v2), some (.int v3), some (.int v4), some (.int v5), some (.int ((I 15 (Int32.toNatClampNeg v4)))), some (.int x1)]) (tt_lt rfl) rfl ?_
      refine tt_iload rfl ?_
      refine tt_const ?_
      refine tt_cmp ?_ ?_
      · skip
        refine tt_mask rfl ?_
        exact rfl
      · skip
        refine tt_aload rfl ?_
        refine tt_get (x := (I1 0 2)) rfl rfl rfl ?_
        refine tt_const ?_
        refine tt_bin ?_
        refine tt_iload rfl ?_
        refine tt_cmp ?_ ?_
        · skip
          refine tt_mask rfl ?_
          exact rfl
        · skip
          refine tt_aload rfl ?_
          refine tt_getr (q := 10) rfl rfl ?_
          refine tt_iload rfl ?_
          refine tt_iload rfl ?_
          refine tt_cavI (t := []) ⟨Nat.le_of_ble_eq_true rfl, Nat.le_of_ble_eq_true rfl⟩ rfl rfl rfl (fun x2 I2 => ?_)
          refine tt_pop rfl ?_
          refine tt_aload rfl ?_
          refine tt_getr (q := 1) rfl rfl ?_
          refine tt_aload rfl ?_
          refine tt_getr (q := 10) rfl rfl ?_
          refine tt_getr (q := 16) rfl rfl ?_
          refine tt_iload rfl ?_
          refine tt_ald (x := (I2 16 (Int32.toNatClampNeg v4))) rfl rfl ?_
          refine tt_const ?_
          refine tt_const ?_
          refine tt_cavV (t := []) ⟨Nat.le_of_ble_eq_true rfl, Nat.le_of_ble_eq_true rfl⟩ rfl rfl rfl (fun I3 => ?_)
          refine tt_mask rfl ?_
          exact rfl
theorem eX7_expireIn_26z (N : Nat) (v1 : Int32) (v2 : Int32) (v3 : Int32) (v4 : Int32) (v5 : Int32) (I : gM) : hX7_expireIn_26 N 0 v1 v2 v3 v4 v5 I = none := (rfl)
set_option maxRecDepth 100000 in
theorem eX7_expireIn_117 (N : Nat) (n26 : Nat) (v1 : Int32) (v2 : Int32) (v4 : Int32) (v5 : Int32) (v6 : Int32) (I : gM) : hX7_expireIn_117 N n26 v1 v2 v4 v5 v6 I =
  (hX7_expireIn_120 N n26 v1 v2 v4 v5 v6 I) := by
  show (fX7_expireIn_k117 N (s_lp (fX7_expireIn_b26 N) n26)) [some (.ref 0), some (.int v1), some (.int v2), none, some (.int v4), some (.int v5), some (.int v6), none] [] I = _
  unfold fX7_expireIn_k117
  refine tt_iload rfl ?_
  refine tt_istore (L2 := [some (.ref 0), some (.int v1), some (.int v2), some (.int v4), some (.int v4), some (.int v5), some (.int v6), none]) (tt_lt rfl) rfl ?_
  refine tt_mask rfl ?_
  exact rfl
set_option maxRecDepth 100000 in
theorem eX7_expireIn_105 (N : Nat) (n26 : Nat) (v1 : Int32) (v2 : Int32) (v3 : Int32) (v4 : Int32) (v5 : Int32) (v6 : Int32) (I : gM) : hX7_expireIn_105 N n26 v1 v2 v3 v4 v5 v6 I =
  (hV (fX4_release N [.ref 0, .int v4] (gS (rg 10 10) I)) (rg 10 10) I fun I4 => hX7_expireIn_120 N n26 v1 v2 v3 v5 v6 I4) := by
  show (fX7_expireIn_k105 N (s_lp (fX7_expireIn_b26 N) n26)) [some (.ref 0), some (.int v1), some (.int v2), some (.int v3), some (.int v4), some (.int v5), some (.int v6), none] [] I = _
  unfold fX7_expireIn_k105
  refine tt_aload rfl ?_
  refine tt_getr (q := 10) rfl rfl ?_
  refine tt_iload rfl ?_
  refine tt_cavV (t := []) ⟨Nat.le_of_ble_eq_true rfl, Nat.le_of_ble_eq_true rfl⟩ rfl rfl rfl (fun I4 => ?_)
  refine tt_mask rfl ?_
  exact rfl
set_option maxRecDepth 100000 in
theorem eX7_expireIn_120 (N : Nat) (n26 : Nat) (v1 : Int32) (v2 : Int32) (v3 : Int32) (v5 : Int32) (v6 : Int32) (I : gM) : hX7_expireIn_120 N n26 v1 v2 v3 v5 v6 I =
  (hX7_expireIn_26 N n26 v1 v2 v3 v6 (v5 + 1) I) := by
  show (fX7_expireIn_k120 N (s_lp (fX7_expireIn_b26 N) n26)) [some (.ref 0), some (.int v1), some (.int v2), some (.int v3), none, some (.int v5), some (.int v6), none] [] I = _
  unfold fX7_expireIn_k120
  refine tt_iload rfl ?_
  refine tt_istore (L2 := [some (.ref 0), some (.int v1), some (.int v2), some (.int v3), some (.int v6), some (.int v5), some (.int v6), none]) (tt_lt rfl) rfl ?_
  refine tt_iinc (L2 := [some (.ref 0), some (.int v1), some (.int v2), some (.int v3), some (.int v6), some (.int (v5 + 1)), some (.int v6), none]) rfl rfl ?_
  refine tt_mask rfl ?_
  exact rfl
set_option maxRecDepth 100000 in
theorem eX7_expireIn (N : Nat) (v1 : Int32) (I : gM) : fX7_expireIn N [.ref 0, .int v1] I = hX7_expireIn_0 N v1 I := by
  show gFn 8 (fX7_expireIn_k0 N) [.ref 0, .int v1] I = (fX7_expireIn_k0 N) [some (.ref 0), some (.int v1), none, none, none, none, none, none] [] I
  exact tt_fn rfl rfl

def hX7_expireAll_0 (N : Nat) (I : gM) : gO := fX7_expireAll_k0 N [some (.ref 0), none] [] I
def hX7_expireAll_23 (N : Nat) (n23 : Nat) (v1 : Int32) (I : gM) : gO := s_lp (fX7_expireAll_b23 N) n23 [some (.ref 0), some (.int v1)] [] I
def hX7_expireAll_46 (N : Nat) (n23 : Nat) (v1 : Int32) (I : gM) : gO := fX7_expireAll_k46 N (s_lp (fX7_expireAll_b23 N) n23) [some (.ref 0), some (.int v1)] [] I
set_option maxRecDepth 100000 in
theorem eX7_expireAll_0 (N : Nat) (I : gM) : hX7_expireAll_0 N I =
  (if gz_eq (I 10 11) = true then (some (.inl none, I)) else (hI (fX2_hasBudget N [.ref 0] (gS (rg 1 9) I)) (rg 1 9) I fun x1 I1 => if gz_ne x1 = true then (hX7_expireAll_23 N N 0 I1) else (some (.inl none, I1)))) := by
  show (fX7_expireAll_k0 N) [some (.ref 0), none] [] I = _
  unfold fX7_expireAll_k0
  refine tt_aload rfl ?_
  refine tt_getr (q := 10) rfl rfl ?_
  refine tt_get (x := (I 10 11)) rfl rfl rfl ?_
  refine tt_if ?_ ?_
  · skip
    exact rfl
  · skip
    refine tt_aload rfl ?_
    refine tt_getr (q := 1) rfl rfl ?_
    refine tt_cavI (t := []) ⟨Nat.le_of_ble_eq_true rfl, Nat.le_of_ble_eq_true rfl⟩ rfl rfl rfl (fun x1 I1 => ?_)
    refine tt_if ?_ ?_
    · skip
      refine tt_const ?_
      refine tt_istore (L2 := [some (.ref 0), some (.int 0)]) (tt_lt rfl) rfl ?_
      refine tt_mask rfl ?_
      exact rfl
    · skip
      exact rfl
set_option maxRecDepth 100000 in
theorem eX7_expireAll_23 (N : Nat) (n23 : Nat) (v1 : Int32) (I : gM) : hX7_expireAll_23 N (n23 + 1) v1 I =
  (if gc_ge v1 100 = true then (some (.inl none, I)) else (ck 100 v1 <| if gz_le ((I 13 (Int32.toNatClampNeg v1))) = true then (hX7_expireAll_46 N n23 v1 I) else (hV (fX7_expireIn N [.ref 0, .int v1] (gS (rg 0 20) I)) (rg 0 20) I fun I2 => hX7_expireAll_46 N n23 v1 I2))) := by
  show (fX7_expireAll_b23 N (s_lp (fX7_expireAll_b23 N) n23)) [some (.ref 0), some (.int v1)] [] I = _
  unfold fX7_expireAll_b23
  refine tt_iload rfl ?_
  refine tt_const ?_
  refine tt_cmp ?_ ?_
  · skip
    exact rfl
  · skip
    refine tt_aload rfl ?_
    refine tt_getr (q := 10) rfl rfl ?_
    refine tt_getr (q := 13) rfl rfl ?_
    refine tt_iload rfl ?_
    refine tt_ald (x := (I 13 (Int32.toNatClampNeg v1))) rfl rfl ?_
    refine tt_if ?_ ?_
    · skip
      refine tt_mask rfl ?_
      exact rfl
    · skip
      refine tt_aload rfl ?_
      refine tt_iload rfl ?_
      refine tt_cavV (t := []) ⟨Nat.le_of_ble_eq_true rfl, Nat.le_of_ble_eq_true rfl⟩ rfl rfl rfl (fun I2 => ?_)
      refine tt_mask rfl ?_
      exact rfl
theorem eX7_expireAll_23z (N : Nat) (v1 : Int32) (I : gM) : hX7_expireAll_23 N 0 v1 I = none := (rfl)
set_option maxRecDepth 100000 in
theorem eX7_expireAll_46 (N : Nat) (n23 : Nat) (v1 : Int32) (I : gM) : hX7_expireAll_46 N n23 v1 I =
  (hX7_expireAll_23 N n23 (v1 + 1) I) := by
  show (fX7_expireAll_k46 N (s_lp (fX7_expireAll_b23 N) n23)) [some (.ref 0), some (.int v1)] [] I = _
  unfold fX7_expireAll_k46
  refine tt_iinc (L2 := [some (.ref 0), some (.int (v1 + 1))]) rfl rfl ?_
  refine tt_mask rfl ?_
  exact rfl
set_option maxRecDepth 100000 in
theorem eX7_expireAll (N : Nat) (I : gM) : fX7_expireAll N [.ref 0] I = hX7_expireAll_0 N I := by
  show gFn 2 (fX7_expireAll_k0 N) [.ref 0] I = (fX7_expireAll_k0 N) [some (.ref 0), none] [] I
  exact tt_fn rfl rfl

