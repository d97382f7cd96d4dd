def hX6_growth_0 (N : Nat) (v0 : Int32) (v1 : Int32) (I : gM) : gO := fX6_growth_k0 N [some (.int v0), some (.int v1)] [] I
set_option maxRecDepth 100000 in
theorem eX6_growth_0 (N : Nat) (v0 : Int32) (v1 : Int32) (I : gM) : hX6_growth_0 N v0 v1 I =
  (if (10000 : Int32) = 0 then none else if (10000 : Int32) = 0 then none else some (.inl (some (.int ((gb_sub ((gb_div ((gb_mul (gb_add v0 1) v1)) 10000)) ((gb_div (gb_mul v0 v1) 10000)))))), I)) := by
  show (fX6_growth_k0 N) [some (.int v0), some (.int v1)] [] I = _
  unfold fX6_growth_k0
  refine tt_iload rfl ?_
  refine tt_const ?_
  refine tt_bin ?_
  refine tt_iload rfl ?_
  refine tt_bin ?_
  refine tt_const ?_
  refine tt_div ?_
  refine tt_iload rfl ?_
  refine tt_iload rfl ?_
  refine tt_bin ?_
  refine tt_const ?_
  refine tt_div ?_
  refine tt_bin ?_
  exact rfl
set_option maxRecDepth 100000 in
theorem eX6_growth (N : Nat) (v0 : Int32) (v1 : Int32) (I : gM) : fX6_growth N [.int v0, .int v1] I = hX6_growth_0 N v0 v1 I := by
  show gFn 2 (fX6_growth_k0 N) [.int v0, .int v1] I = (fX6_growth_k0 N) [some (.int v0), some (.int v1)] [] I
  exact tt_fn rfl rfl

def hX6_letArrive_0 (N : Nat) (v1 : Int32) (I : gM) : gO := fX6_letArrive_k0 N [some (.ref 0), some (.int v1), none, none, none] [] I
def hX6_letArrive_28 (N : Nat) (v1 : Int32) (v3 : Int32) (s0 : Int32) (I : gM) : gO := fX6_letArrive_k28 N [some (.ref 0), some (.int v1), some (.ref 1), some (.int v3), none] [.int s0] I
def hX6_letArrive_44 (N : Nat) (v3 : Int32) (s0 : Int32) (I : gM) : gO := fX6_letArrive_k44 N [some (.ref 0), none, some (.ref 1), some (.int v3), none] [.int s0] I
set_option maxRecDepth 100000 in
theorem eX6_letArrive_0 (N : Nat) (v1 : Int32) (I : gM) : hX6_letArrive_0 N v1 I =
  (hI (fX2_getNumber N [.ref 0, .int v1, .int 2] (gS (rg 1 9) I)) (rg 1 9) I fun x1 I1 => hI (fX6_growth N [.int (I1 0 2), .int (gb_mul x1 100)] (gS [] I1)) [] I1 fun x2 I2 => hI (fX7_arrive N [.ref 0, .int v1, .int x2] (gS (rg 0 20) I2)) (rg 0 20) I2 fun x3 I3 => hX6_letArrive_28 N v1 x1 x3 I3) := by
  show (fX6_letArrive_k0 N) [some (.ref 0), some (.int v1), none, none, none] [] I = _
  unfold fX6_letArrive_k0
  refine tt_aload rfl ?_
  refine tt_getr (q := 1) rfl rfl ?_
  refine tt_astore (L2 := [some (.ref 0), some (.int v1), some (.ref 1), none, none]) (tt_lt rfl) rfl ?_
  refine tt_aload rfl ?_
  refine tt_iload rfl ?_
  refine tt_const ?_
  refine tt_cavI (t := []) ⟨Nat.le_of_ble_eq_true rfl, Nat.le_of_ble_eq_true rfl⟩ rfl rfl rfl (fun x1 I1 => ?_)
  refine tt_istore (L2 := [some (.ref 0), some (.int v1), some (.ref 1), some (.int x1), none]) (tt_lt rfl) rfl ?_
  refine tt_aload rfl ?_
  refine tt_iload rfl ?_
  refine tt_aload rfl ?_
  refine tt_get (x := (I1 0 2)) rfl rfl rfl ?_
  refine tt_iload rfl ?_
  refine tt_const ?_
  refine tt_bin ?_
  refine tt_caI (t := [.int v1, .ref 0]) ⟨Nat.le_of_ble_eq_true rfl, Nat.le_of_ble_eq_true rfl⟩ rfl rfl rfl (fun x2 I2 => ?_)
  refine tt_cavI (t := []) ⟨Nat.le_of_ble_eq_true rfl, Nat.le_of_ble_eq_true rfl⟩ rfl rfl rfl (fun x3 I3 => ?_)
  refine tt_mask rfl ?_
  exact rfl
set_option maxRecDepth 100000 in
theorem eX6_letArrive_28 (N : Nat) (v1 : Int32) (v3 : Int32) (s0 : Int32) (I : gM) : hX6_letArrive_28 N v1 v3 s0 I =
  (hI (fX2_getNumber N [.ref 0, .int v1, .int 0] (gS (rg 1 9) I)) (rg 1 9) I fun x4 I4 => hI (fX2_getNumber N [.ref 0, .int v1, .int 1] (gS (rg 1 9) I4)) (rg 1 9) I4 fun x5 I5 => hI (fX8_pair N [.int x4, .int x5] (gS [] I5)) [] I5 fun x6 I6 => hX6_letArrive_44 N v3 x6 I6) := by
  show (fX6_letArrive_k28 N) [some (.ref 0), some (.int v1), some (.ref 1), some (.int v3), none] [.int s0] I = _
  unfold fX6_letArrive_k28
  refine tt_pop rfl ?_
  refine tt_aload rfl ?_
  refine tt_iload rfl ?_
  refine tt_const ?_
  refine tt_cavI (t := []) ⟨Nat.le_of_ble_eq_true rfl, Nat.le_of_ble_eq_true rfl⟩ rfl rfl rfl (fun x4 I4 => ?_)
  refine tt_aload rfl ?_
  refine tt_iload rfl ?_
  refine tt_const ?_
  refine tt_cavI (t := [.int x4]) ⟨Nat.le_of_ble_eq_true rfl, Nat.le_of_ble_eq_true rfl⟩ rfl rfl rfl (fun x5 I5 => ?_)
  refine tt_caI (t := []) ⟨Nat.le_of_ble_eq_true rfl, Nat.le_of_ble_eq_true rfl⟩ rfl rfl rfl (fun x6 I6 => ?_)
  refine tt_mask rfl ?_
  exact rfl
set_option maxRecDepth 100000 in
theorem eX6_letArrive_44 (N : Nat) (v3 : Int32) (s0 : Int32) (I : gM) : hX6_letArrive_44 N v3 s0 I =
  (ck 100 s0 <| ck 4 1 <| hI (fX6_growth N [.int (I 0 2), .int ((gb_mul v3 ((gb_add 100 ((I 7 (Int32.toNatClampNeg 1)))))))] (gS [] I)) [] I fun x7 I7 => ck 100 s0 <| some (.inl none, (gU I7 14 (Int32.toNatClampNeg s0) ((gb_add ((I 14 (Int32.toNatClampNeg s0))) x7))))) := by
  show (fX6_letArrive_k44 N) [some (.ref 0), none, some (.ref 1), some (.int v3), none] [.int s0] I = _
  unfold fX6_letArrive_k44
  refine tt_istore (L2 := [some (.ref 0), none, some (.ref 1), some (.int v3), some (.int s0)]) (tt_lt rfl) rfl ?_
  refine tt_aload rfl ?_
  refine tt_getr (q := 10) rfl rfl ?_
  refine tt_getr (q := 14) rfl rfl ?_
  refine tt_iload rfl ?_
  refine tt_dup2 rfl rfl ?_
  refine tt_ald (x := (I 14 (Int32.toNatClampNeg s0))) rfl rfl ?_
  refine tt_aload rfl ?_
  refine tt_get (x := (I 0 2)) rfl rfl rfl ?_
  refine tt_iload rfl ?_
  refine tt_const ?_
  refine tt_aload rfl ?_
  refine tt_getr (q := 7) rfl rfl ?_
  refine tt_const ?_
  refine tt_ald (x := (I 7 (Int32.toNatClampNeg 1))) rfl rfl ?_
  refine tt_bin ?_
  refine tt_bin ?_
  refine tt_caI (t := [.int ((I 14 (Int32.toNatClampNeg s0))), .int s0, .ref 14]) ⟨Nat.le_of_ble_eq_true rfl, Nat.le_of_ble_eq_true rfl⟩ rfl rfl rfl (fun x7 I7 => ?_)
  refine tt_bin ?_
  refine tt_ast (v := (gb_add ((I 14 (Int32.toNatClampNeg s0))) x7)) rfl rfl ?_
  exact rfl
set_option maxRecDepth 100000 in
theorem eX6_letArrive (N : Nat) (v1 : Int32) (I : gM) : fX6_letArrive N [.ref 0, .int v1] I = hX6_letArrive_0 N v1 I := by
  show gFn 5 (fX6_letArrive_k0 N) [.ref 0, .int v1] I = (fX6_letArrive_k0 N) [some (.ref 0), some (.int v1), none, none, none] [] I
  exact tt_fn rfl rfl

def hX6_deliver_0 (N : Nat) (v1 : Int32) (I : gM) : gO := fX6_deliver_k0 N [some (.ref 0), some (.int v1), none, none, none] [] I
def hX6_deliver_63 (N : Nat) (v1 : Int32) (s1 : Int32) (s2 : Int32) (s3 : Int32) (s4 : Int32) (I : gM) : gO := fX6_deliver_k63 N [some (.ref 0), some (.int v1), none, none, none] [.int s4, .int s3, .int s2, .int s1, .ref 1] I
set_option maxRecDepth 100000 in
theorem eX6_deliver_0 (N : Nat) (v1 : Int32) (I : gM) : hX6_deliver_0 N v1 I =
  (ck 500 v1 <| ck 500 v1 <| hV (fX2_addNumber N [.ref 0, .int ((I 16 (Int32.toNatClampNeg v1))), .int 6, .int 1] (gS (rg 1 9) I)) (rg 1 9) I fun I1 => hV (fX2_addNumber N [.ref 0, .int ((I 16 (Int32.toNatClampNeg v1))), .int 9, .int ((gb_sub ((gb_add (I 0 2) 1)) ((I 17 (Int32.toNatClampNeg v1)))))] (gS (rg 1 9) I1)) (rg 1 9) I1 fun I2 => hI (fX2_getNumber N [.ref 0, .int ((I 16 (Int32.toNatClampNeg v1))), .int 10] (gS (rg 1 9) I2)) (rg 1 9) I2 fun x3 I3 => hX6_deliver_63 N v1 ((I 16 (Int32.toNatClampNeg v1))) 10 ((gb_sub ((gb_add (I 0 2) 1)) ((I 17 (Int32.toNatClampNeg v1))))) x3 I3) := by
  show (fX6_deliver_k0 N) [some (.ref 0), some (.int v1), none, none, none] [] I = _
  unfold fX6_deliver_k0
  refine tt_aload rfl ?_
  refine tt_getr (q := 1) rfl rfl ?_
  refine tt_astore (L2 := [some (.ref 0), some (.int v1), some (.ref 1), none, none]) (tt_lt rfl) rfl ?_
  refine tt_aload rfl ?_
  refine tt_getr (q := 10) rfl rfl ?_
  refine tt_getr (q := 16) rfl rfl ?_
  refine tt_iload rfl ?_
  refine tt_ald (x := (I 16 (Int32.toNatClampNeg v1))) rfl rfl ?_
  refine tt_istore (L2 := [some (.ref 0), some (.int v1), some (.ref 1), some (.int ((I 16 (Int32.toNatClampNeg v1)))), none]) (tt_lt rfl) rfl ?_
  refine tt_aload rfl ?_
  refine tt_get (x := (I 0 2)) rfl rfl rfl ?_
  refine tt_const ?_
  refine tt_bin ?_
  refine tt_aload rfl ?_
  refine tt_getr (q := 10) rfl rfl ?_
  refine tt_getr (q := 17) rfl rfl ?_
  refine tt_iload rfl ?_
  refine tt_ald (x := (I 17 (Int32.toNatClampNeg v1))) rfl rfl ?_
  refine tt_bin ?_
  refine tt_istore (L2 := [some (.ref 0), some (.int v1), some (.ref 1), some (.int ((I 16 (Int32.toNatClampNeg v1)))), some (.int ((gb_sub ((gb_add (I 0 2) 1)) ((I 17 (Int32.toNatClampNeg v1))))))]) (tt_lt rfl) rfl ?_
  refine tt_aload rfl ?_
  refine tt_iload rfl ?_
  refine tt_const ?_
  refine tt_const ?_
  refine tt_cavV (t := []) ⟨Nat.le_of_ble_eq_true rfl, Nat.le_of_ble_eq_true rfl⟩ rfl rfl rfl (fun I1 => ?_)
  refine tt_aload rfl ?_
  refine tt_iload rfl ?_
  refine tt_const ?_
  refine tt_iload rfl ?_
  refine tt_cavV (t := []) ⟨Nat.le_of_ble_eq_true rfl, Nat.le_of_ble_eq_true rfl⟩ rfl rfl rfl (fun I2 => ?_)
  refine tt_aload rfl ?_
  refine tt_iload rfl ?_
  refine tt_const ?_
  refine tt_iload rfl ?_
  refine tt_aload rfl ?_
  refine tt_iload rfl ?_
  refine tt_const ?_
  refine tt_cavI (t := [.int ((gb_sub ((gb_add (I 0 2) 1)) ((I 17 (Int32.toNatClampNeg v1))))), .int 10, .int ((I 16 (Int32.toNatClampNeg v1))), .ref 1]) ⟨Nat.le_of_ble_eq_true rfl, Nat.le_of_ble_eq_true rfl⟩ rfl rfl rfl (fun x3 I3 => ?_)
  refine tt_mask rfl ?_
  exact rfl
set_option maxRecDepth 100000 in
theorem eX6_deliver_63 (N : Nat) (v1 : Int32) (s1 : Int32) (s2 : Int32) (s3 : Int32) (s4 : Int32) (I : gM) : hX6_deliver_63 N v1 s1 s2 s3 s4 I =
  (hV (fX2_putNumber N [.ref 0, .int s1, .int s2, .int (gj_max s3 s4)] (gS (rg 1 9) I)) (rg 1 9) I fun I4 => hV (fX4_release N [.ref 0, .int v1] (gS (rg 10 10) I4)) (rg 10 10) I4 fun I5 => some (.inl none, I5)) := by
  show (fX6_deliver_k63 N) [some (.ref 0), some (.int v1), none, none, none] [.int s4, .int s3, .int s2, .int s1, .ref 1] I = _
  unfold fX6_deliver_k63
  refine tt_jmath (Nat.le_of_ble_eq_true rfl) ?_
  refine tt_cavV (t := []) ⟨Nat.le_of_ble_eq_true rfl, Nat.le_of_ble_eq_true rfl⟩ rfl rfl rfl (fun I4 => ?_)
  refine tt_aload rfl ?_
  refine tt_getr (q := 10) rfl rfl ?_
  refine tt_iload rfl ?_
  refine tt_cavV (t := []) ⟨Nat.le_of_ble_eq_true rfl, Nat.le_of_ble_eq_true rfl⟩ rfl rfl rfl (fun I5 => ?_)
  exact rfl
set_option maxRecDepth 100000 in
theorem eX6_deliver (N : Nat) (v1 : Int32) (I : gM) : fX6_deliver N [.ref 0, .int v1] I = hX6_deliver_0 N v1 I := by
  show gFn 5 (fX6_deliver_k0 N) [.ref 0, .int v1] I = (fX6_deliver_k0 N) [some (.ref 0), some (.int v1), none, none, none] [] I
  exact tt_fn rfl rfl

def hX6_pass_0 (N : Nat) (v1 : Int32) (v2 : Int32) (v3 : Int32) (I : gM) : gO := fX6_pass_k0 N [some (.ref 0), some (.int v1), some (.int v2), some (.int v3), none] [] I
def hX6_pass_49 (N : Nat) (v1 : Int32) (v2 : Int32) (v3 : Int32) (I : gM) : gO := fX6_pass_k49 N [none, some (.int v1), some (.int v2), some (.int v3), some (.ref 10)] [] I
set_option maxRecDepth 100000 in
theorem eX6_pass_0 (N : Nat) (v1 : Int32) (v2 : Int32) (v3 : Int32) (I : gM) : hX6_pass_0 N v1 v2 v3 I =
  (ck 500 v1 <| ck 500 v1 <| ck 500 v1 <| if gc_ne ((gb_and ((gb_shr ((I 19 (Int32.toNatClampNeg v1))) v3)) 1)) 1 = true then (hX6_pass_49 N v1 v2 v3 (gU I 18 (Int32.toNatClampNeg v1) ((gb_add ((I 18 (Int32.toNatClampNeg v1))) 1)))) else (ck 500 v1 <| hV (fX2_addNumber N [.ref 0, .int ((I 16 (Int32.toNatClampNeg v1))), .int 8, .int 1] (gS (rg 1 9) (gU I 18 (Int32.toNatClampNeg v1) ((gb_add ((I 18 (Int32.toNatClampNeg v1))) 1))))) (rg 1 9) (gU I 18 (Int32.toNatClampNeg v1) ((gb_add ((I 18 (Int32.toNatClampNeg v1))) 1))) fun I1 => hX6_pass_49 N v1 v2 v3 I1)) := by
  show (fX6_pass_k0 N) [some (.ref 0), some (.int v1), some (.int v2), some (.int v3), none] [] I = _
  unfold fX6_pass_k0
  refine tt_aload rfl ?_
  refine tt_getr (q := 10) rfl rfl ?_
  refine tt_astore (L2 := [some (.ref 0), some (.int v1), some (.int v2), some (.int v3), some (.ref 10)]) (tt_lt rfl) rfl ?_
  refine tt_aload rfl ?_
  refine tt_getr (q := 18) rfl rfl ?_
  refine tt_iload rfl ?_
  refine tt_dup2 rfl rfl ?_
  refine tt_ald (x := (I 18 (Int32.toNatClampNeg v1))) rfl rfl ?_
  refine tt_const ?_
  refine tt_bin ?_
  refine tt_ast (v := (gb_add ((I 18 (Int32.toNatClampNeg v1))) 1)) rfl rfl ?_
  refine tt_aload rfl ?_
  refine tt_getr (q := 19) rfl rfl ?_
  refine tt_iload rfl ?_
  refine tt_ald (x := (I 19 (Int32.toNatClampNeg v1))) rfl rfl ?_
  refine tt_iload rfl ?_
  refine tt_bin ?_
  refine tt_const ?_
  refine tt_bin ?_
  refine tt_const ?_
  refine tt_cmp ?_ ?_
  · skip
    refine tt_mask rfl ?_
    exact rfl
  · skip
    refine tt_aload rfl ?_
    refine tt_getr (q := 1) rfl rfl ?_
    refine tt_aload rfl ?_
    refine tt_getr (q := 16) rfl rfl ?_
    refine tt_iload rfl ?_
    refine tt_ald (x := (I 16 (Int32.toNatClampNeg v1))) rfl rfl ?_
    refine tt_const ?_
    refine tt_const ?_
    refine tt_cavV (t := []) ⟨Nat.le_of_ble_eq_true rfl, Nat.le_of_ble_eq_true rfl⟩ rfl rfl rfl (fun I1 => ?_)
    refine tt_mask rfl ?_
    exact rfl
set_option maxRecDepth 100000 in
theorem eX6_pass_49 (N : Nat) (v1 : Int32) (v2 : Int32) (v3 : Int32) (I : gM) : hX6_pass_49 N v1 v2 v3 I =
  (ck 500 v1 <| ck 500 v1 <| hV (fX4_putLast N [.ref 0, .int v2, .int v1] (gS (rg 10 10) (gU I 19 (Int32.toNatClampNeg v1) ((gb_or ((I 19 (Int32.toNatClampNeg v1))) (gb_shl 1 v3)))))) (rg 10 10) (gU I 19 (Int32.toNatClampNeg v1) ((gb_or ((I 19 (Int32.toNatClampNeg v1))) (gb_shl 1 v3)))) fun I2 => some (.inl none, I2)) := by
  show (fX6_pass_k49 N) [none, some (.int v1), some (.int v2), some (.int v3), some (.ref 10)] [] I = _
  unfold fX6_pass_k49
  refine tt_aload rfl ?_
  refine tt_getr (q := 19) rfl rfl ?_
  refine tt_iload rfl ?_
  refine tt_dup2 rfl rfl ?_
  refine tt_ald (x := (I 19 (Int32.toNatClampNeg v1))) rfl rfl ?_
  refine tt_const ?_
  refine tt_iload rfl ?_
  refine tt_bin ?_
  refine tt_bin ?_
  refine tt_ast (v := (gb_or ((I 19 (Int32.toNatClampNeg v1))) (gb_shl 1 v3))) rfl rfl ?_
  refine tt_aload rfl ?_
  refine tt_iload rfl ?_
  refine tt_iload rfl ?_
  refine tt_cavV (t := []) ⟨Nat.le_of_ble_eq_true rfl, Nat.le_of_ble_eq_true rfl⟩ rfl rfl rfl (fun I2 => ?_)
  exact rfl
set_option maxRecDepth 100000 in
theorem eX6_pass (N : Nat) (v1 : Int32) (v2 : Int32) (v3 : Int32) (I : gM) : fX6_pass N [.ref 0, .int v1, .int v2, .int v3] I = hX6_pass_0 N v1 v2 v3 I := by
  show gFn 5 (fX6_pass_k0 N) [.ref 0, .int v1, .int v2, .int v3] I = (fX6_pass_k0 N) [some (.ref 0), some (.int v1), some (.int v2), some (.int v3), none] [] I
  exact tt_fn rfl rfl

def hX6_takeFor_0 (N : Nat) (v2 : Int32) (I : gM) : gO := fX6_takeFor_k0 N [some (.ref 0), some (.ref 7), some (.int v2), none, none, none, none] [] I
def hX6_takeFor_52 (N : Nat) (n52 : Nat) (v2 : Int32) (v3 : Int32) (v4 : Int32) (v5 : Int32) (v6 : Int32) (I : gM) : gO := s_lp (fX6_takeFor_b52 N) n52 [some (.ref 0), some (.ref 7), some (.int v2), some (.int v3), some (.int v4), some (.int v5), some (.int v6)] [] I
set_option maxRecDepth 100000 in
theorem eX6_takeFor_0 (N : Nat) (v2 : Int32) (I : gM) : hX6_takeFor_0 N v2 I =
  (ck 14 v2 <| ck 14 v2 <| ck 14 v2 <| hI (fX8_pair N [.int ((I 9 (Int32.toNatClampNeg v2))), .int ((I 2 (Int32.toNatClampNeg v2)))] (gS [] I)) [] I fun x1 I1 => ck 100 x1 <| hX6_takeFor_52 N N v2 ((I 11 (Int32.toNatClampNeg v2))) x1 ((gj_min ((I 11 (Int32.toNatClampNeg v2))) ((I1 20 (Int32.toNatClampNeg x1))))) 0 I1) := by
  show (fX6_takeFor_k0 N) [some (.ref 0), some (.ref 7), some (.int v2), none, none, none, none] [] I = _
  unfold fX6_takeFor_k0
  refine tt_aload rfl ?_
  refine tt_getr (q := 8) rfl rfl ?_
  refine tt_getr (q := 11) rfl rfl ?_
  refine tt_iload rfl ?_
  refine tt_ald (x := (I 11 (Int32.toNatClampNeg v2))) rfl rfl ?_
  refine tt_istore (L2 := [some (.ref 0), some (.ref 7), some (.int v2), some (.int ((I 11 (Int32.toNatClampNeg v2)))), none, none, none]) (tt_lt rfl) rfl ?_
  refine tt_aload rfl ?_
  refine tt_getr (q := 8) rfl rfl ?_
  refine tt_getr (q := 9) rfl rfl ?_
  refine tt_iload rfl ?_
  refine tt_ald (x := (I 9 (Int32.toNatClampNeg v2))) rfl rfl ?_
  refine tt_aload rfl ?_
  refine tt_getr (q := 1) rfl rfl ?_
  refine tt_getr (q := 2) rfl rfl ?_
  refine tt_iload rfl ?_
  refine tt_ald (x := (I 2 (Int32.toNatClampNeg v2))) rfl rfl ?_
  refine tt_caI (t := []) ⟨Nat.le_of_ble_eq_true rfl, Nat.le_of_ble_eq_true rfl⟩ rfl rfl rfl (fun x1 I1 => ?_)
  refine tt_istore (L2 := [some (.ref 0), some (.ref 7), some (.int v2), some (.int ((I 11 (Int32.toNatClampNeg v2)))), some (.int x1), none, none]) (tt_lt rfl) rfl ?_
  refine tt_iload rfl ?_
  refine tt_aload rfl ?_
  refine tt_getr (q := 17) rfl rfl ?_
  refine tt_getr (q := 20) rfl rfl ?_
  refine tt_iload rfl ?_
  refine tt_ald (x := (I1 20 (Int32.toNatClampNeg x1))) rfl rfl ?_
  refine tt_jmath (Nat.le_of_ble_eq_true rfl) ?_
  refine tt_istore (L2 := [some (.ref 0), some (.ref 7), some (.int v2), some (.int ((I 11 (Int32.toNatClampNeg v2)))), some (.int x1), some (.int ((gj_min ((I 11 (Int32.toNatClampNeg v2))) ((I1 20 (Int32.toNatClampNeg x1)))))), none]) (tt_lt rfl) rfl ?_
  refine tt_const ?_
  refine tt_istore (L2 := [some (.ref 0), some (.ref 7), some (.int v2), some (.int ((I 11 (Int32.toNatClampNeg v2)))), some (.int x1), some (.int ((gj_min ((I 11 (Int32.toNatClampNeg v2))) ((I1 20 (Int32.toNatClampNeg x1)))))), some (.int 0)]) (tt_lt rfl) rfl ?_
  refine tt_mask rfl ?_
  exact rfl
set_option maxRecDepth 100000 in
theorem eX6_takeFor_52 (N : Nat) (n52 : Nat) (v2 : Int32) (v3 : Int32) (v4 : Int32) (v5 : Int32) (v6 : Int32) (I : gM) : hX6_takeFor_52 N (n52 + 1) v2 v3 v4 v5 v6 I =
  (if gc_ge v6 v5 = true then (ck 14 v2 <| ck 14 v2 <| ck 14 v2 <| ck 100 v4 <| ck 14 v2 <| ck 100 v4 <| ck 14 v2 <| ck 100 v4 <| some (.inl none, (gU (gU (gU (gU I 5 (Int32.toNatClampNeg v2) v5) 12 (Int32.toNatClampNeg v2) ((gb_add ((I 12 (Int32.toNatClampNeg v2))) v5))) 6 (Int32.toNatClampNeg v2) ((gj_min v3 ((I 21 (Int32.toNatClampNeg v4)))))) 21 (Int32.toNatClampNeg v4) ((gb_sub ((I 21 (Int32.toNatClampNeg v4))) (((gU (gU (gU I 5 (Int32.toNatClampNeg v2) v5) 12 (Int32.toNatClampNeg v2) ((gb_add ((I 12 (Int32.toNatClampNeg v2))) v5))) 6 (Int32.toNatClampNeg v2) ((gj_min v3 ((I 21 (Int32.toNatClampNeg v4)))))) 6 (Int32.toNatClampNeg v2)))))))) else (hI (fX4_takeBehind N [.ref 0, .int v4, .int (-1)] (gS (rg 17 10) I)) (rg 17 10) I fun x2 I2 => ck 70 ((gb_add (gb_mul v2 5) v6)) <| hX6_takeFor_52 N n52 v2 v3 v4 v5 (v6 + 1) (gU I2 4 ((Int32.toNatClampNeg ((gb_add (gb_mul v2 5) v6)))) x2))) := by
  show (fX6_takeFor_b52 N (s_lp (fX6_takeFor_b52 N) n52)) [some (.ref 0), some (.ref 7), some (.int v2), some (.int v3), some (.int v4), some (.int v5), some (.int v6)] [] I = _
  unfold fX6_takeFor_b52
  refine tt_iload rfl ?_
  refine tt_iload rfl ?_
  refine tt_cmp ?_ ?_
  · skip
    refine tt_aload rfl ?_
    refine tt_getr (q := 5) rfl rfl ?_
    refine tt_iload rfl ?_
    refine tt_iload rfl ?_
    refine tt_ast (v := v5) rfl rfl ?_
    refine tt_aload rfl ?_
    refine tt_getr (q := 8) rfl rfl ?_
    refine tt_getr (q := 12) rfl rfl ?_
    refine tt_iload rfl ?_
    refine tt_dup2 rfl rfl ?_
    refine tt_ald (x := (I 12 (Int32.toNatClampNeg v2))) rfl rfl ?_
    refine tt_iload rfl ?_
    refine tt_bin ?_
    refine tt_ast (v := (gb_add ((I 12 (Int32.toNatClampNeg v2))) v5)) rfl rfl ?_
    refine tt_aload rfl ?_
    refine tt_getr (q := 6) rfl rfl ?_
    refine tt_iload rfl ?_
    refine tt_iload rfl ?_
    refine tt_aload rfl ?_
    refine tt_getr (q := 17) rfl rfl ?_
    refine tt_getr (q := 21) rfl rfl ?_
    refine tt_iload rfl ?_
    refine tt_ald (x := (I 21 (Int32.toNatClampNeg v4))) rfl rfl ?_
    refine tt_jmath (Nat.le_of_ble_eq_true rfl) ?_
    refine tt_ast (v := (gj_min v3 ((I 21 (Int32.toNatClampNeg v4))))) rfl rfl ?_
    refine tt_aload rfl ?_
    refine tt_getr (q := 17) rfl rfl ?_
    refine tt_getr (q := 21) rfl rfl ?_
    refine tt_iload rfl ?_
    refine tt_dup2 rfl rfl ?_
    refine tt_ald (x := (I 21 (Int32.toNatClampNeg v4))) rfl rfl ?_
    refine tt_aload rfl ?_
    refine tt_getr (q := 6) rfl rfl ?_
    refine tt_iload rfl ?_
    refine tt_ald (x := ((gU (gU (gU I 5 (Int32.toNatClampNeg v2) v5) 12 (Int32.toNatClampNeg v2) ((gb_add ((I 12 (Int32.toNatClampNeg v2))) v5))) 6 (Int32.toNatClampNeg v2) ((gj_min v3 ((I 21 (Int32.toNatClampNeg v4)))))) 6 (Int32.toNatClampNeg v2))) rfl rfl ?_
    refine tt_bin ?_
    refine tt_ast (v := (gb_sub ((I 21 (Int32.toNatClampNeg v4))) (((gU (gU (gU I 5 (Int32.toNatClampNeg v2) v5) 12 (Int32.toNatClampNeg v2) ((gb_add ((I 12 (Int32.toNatClampNeg v2))) v5))) 6 (Int32.toNatClampNeg v2) ((gj_min v3 ((I 21 (Int32.toNatClampNeg v4)))))) 6 (Int32.toNatClampNeg v2))))) rfl rfl ?_
    exact rfl
  · skip
    refine tt_aload rfl ?_
    refine tt_getr (q := 4) rfl rfl ?_
    refine tt_iload rfl ?_
    refine tt_const ?_
    refine tt_bin ?_
    refine tt_iload rfl ?_
    refine tt_bin ?_
    refine tt_aload rfl ?_
    refine tt_getr (q := 17) rfl rfl ?_
    refine tt_iload rfl ?_
    refine tt_const ?_
    refine tt_cavI (t := [.int ((gb_add (gb_mul v2 5) v6)), .ref 4]) ⟨Nat.le_of_ble_eq_true rfl, Nat.le_of_ble_eq_true rfl⟩ rfl rfl rfl (fun x2 I2 => ?_)
    refine tt_ast (v := x2) rfl rfl ?_
    refine tt_iinc (L2 := [some (.ref 0), some (.ref 7), some (.int v2), some (.int v3), some (.int v4), some (.int v5), some (.int (v6 + 1))]) rfl rfl ?_
    refine tt_mask rfl ?_
    exact rfl
theorem eX6_takeFor_52z (N : Nat) (v2 : Int32) (v3 : Int32) (v4 : Int32) (v5 : Int32) (v6 : Int32) (I : gM) : hX6_takeFor_52 N 0 v2 v3 v4 v5 v6 I = none := (rfl)
set_option maxRecDepth 100000 in
theorem eX6_takeFor (N : Nat) (v2 : Int32) (I : gM) : fX6_takeFor N [.ref 0, .ref 7, .int v2] I = hX6_takeFor_0 N v2 I := by
  show gFn 7 (fX6_takeFor_k0 N) [.ref 0, .ref 7, .int v2] I = (fX6_takeFor_k0 N) [some (.ref 0), some (.ref 7), some (.int v2), none, none, none, none] [] I
  exact tt_fn rfl rfl

def hX6_bringOver_0 (N : Nat) (v2 : Int32) (I : gM) : gO := fX6_bringOver_k0 N [some (.ref 0), some (.ref 7), some (.int v2), none, none, none, none, none] [] I
def hX6_bringOver_28 (N : Nat) (v2 : Int32) (v3 : Int32) (s0 : Int32) (I : gM) : gO := fX6_bringOver_k28 N [some (.ref 0), some (.ref 7), some (.int v2), some (.int v3), none, none, none, none] [.int s0] I
def hX6_bringOver_48 (N : Nat) (n48 : Nat) (v2 : Int32) (v3 : Int32) (v4 : Int32) (v5 : Int32) (v6 : Int32) (I : gM) : gO := s_lp (fX6_bringOver_b48 N) n48 [some (.ref 0), some (.ref 7), some (.int v2), some (.int v3), some (.int v4), some (.int v5), some (.int v6), none] [] I
def hX6_bringOver_92 (N : Nat) (n48 : Nat) (v2 : Int32) (v3 : Int32) (v4 : Int32) (v5 : Int32) (v6 : Int32) (v7 : Int32) (I : gM) : gO := fX6_bringOver_k92 N (s_lp (fX6_bringOver_b48 N) n48) [some (.ref 0), some (.ref 7), some (.int v2), some (.int v3), some (.int v4), some (.int v5), some (.int v6), some (.int v7)] [] I
def hX6_bringOver_107 (N : Nat) (n48 : Nat) (v2 : Int32) (v3 : Int32) (v4 : Int32) (v5 : Int32) (v6 : Int32) (I : gM) : gO := fX6_bringOver_k107 N (s_lp (fX6_bringOver_b48 N) n48) [some (.ref 0), some (.ref 7), some (.int v2), some (.int v3), some (.int v4), some (.int v5), some (.int v6), none] [] I
set_option maxRecDepth 100000 in
theorem eX6_bringOver_0 (N : Nat) (v2 : Int32) (I : gM) : hX6_bringOver_0 N v2 I =
  (ck 14 v2 <| ck 14 v2 <| if gc_ne ((I 10 (Int32.toNatClampNeg v2))) ((I 2 (Int32.toNatClampNeg v2))) = true then (hX6_bringOver_28 N v2 ((I 10 (Int32.toNatClampNeg v2))) 0 I) else (hX6_bringOver_28 N v2 ((I 10 (Int32.toNatClampNeg v2))) 1 I)) := by
  show (fX6_bringOver_k0 N) [some (.ref 0), some (.ref 7), some (.int v2), none, none, none, none, none] [] I = _
  unfold fX6_bringOver_k0
  refine tt_aload rfl ?_
  refine tt_getr (q := 8) rfl rfl ?_
  refine tt_getr (q := 10) rfl rfl ?_
  refine tt_iload rfl ?_
  refine tt_ald (x := (I 10 (Int32.toNatClampNeg v2))) rfl rfl ?_
  refine tt_istore (L2 := [some (.ref 0), some (.ref 7), some (.int v2), some (.int ((I 10 (Int32.toNatClampNeg v2)))), none, none, none, none]) (tt_lt rfl) rfl ?_
  refine tt_iload rfl ?_
  refine tt_aload rfl ?_
  refine tt_getr (q := 1) rfl rfl ?_
  refine tt_getr (q := 2) rfl rfl ?_
  refine tt_iload rfl ?_
  refine tt_ald (x := (I 2 (Int32.toNatClampNeg v2))) rfl rfl ?_
  refine tt_cmp ?_ ?_
  · skip
    refine tt_const ?_
    refine tt_mask rfl ?_
    exact rfl
  · skip
    refine tt_const ?_
    refine tt_mask rfl ?_
    exact rfl
set_option maxRecDepth 100000 in
theorem eX6_bringOver_28 (N : Nat) (v2 : Int32) (v3 : Int32) (s0 : Int32) (I : gM) : hX6_bringOver_28 N v2 v3 s0 I =
  (ck 14 v2 <| hI (fX8_pair N [.int v3, .int ((I 2 (Int32.toNatClampNeg v2)))] (gS [] I)) [] I fun x1 I1 => hX6_bringOver_48 N N v2 v3 s0 x1 0 I1) := by
  show (fX6_bringOver_k28 N) [some (.ref 0), some (.ref 7), some (.int v2), some (.int v3), none, none, none, none] [.int s0] I = _
  unfold fX6_bringOver_k28
  refine tt_istore (L2 := [some (.ref 0), some (.ref 7), some (.int v2), some (.int v3), some (.int s0), none, none, none]) (tt_lt rfl) rfl ?_
  refine tt_iload rfl ?_
  refine tt_aload rfl ?_
  refine tt_getr (q := 1) rfl rfl ?_
  refine tt_getr (q := 2) rfl rfl ?_
  refine tt_iload rfl ?_
  refine tt_ald (x := (I 2 (Int32.toNatClampNeg v2))) rfl rfl ?_
  refine tt_caI (t := []) ⟨Nat.le_of_ble_eq_true rfl, Nat.le_of_ble_eq_true rfl⟩ rfl rfl rfl (fun x1 I1 => ?_)
  refine tt_istore (L2 := [some (.ref 0), some (.ref 7), some (.int v2), some (.int v3), some (.int s0), some (.int x1), none, none]) (tt_lt rfl) rfl ?_
  refine tt_const ?_
  refine tt_istore (L2 := [some (.ref 0), some (.ref 7), some (.int v2), some (.int v3), some (.int s0), some (.int x1), some (.int 0), none]) (tt_lt rfl) rfl ?_
  refine tt_mask rfl ?_
  exact rfl
set_option maxRecDepth 100000 in
theorem eX6_bringOver_48 (N : Nat) (n48 : Nat) (v2 : Int32) (v3 : Int32) (v4 : Int32) (v5 : Int32) (v6 : Int32) (I : gM) : hX6_bringOver_48 N (n48 + 1) v2 v3 v4 v5 v6 I =
  (ck 14 v2 <| if gc_ge v6 ((I 5 (Int32.toNatClampNeg v2))) = true then (if gz_ne v4 = true then (some (.inl none, I)) else (ck 100 v5 <| ck 14 v2 <| ck 100 v5 <| some (.inl none, (gU I 21 (Int32.toNatClampNeg v5) ((gb_add ((I 21 (Int32.toNatClampNeg v5))) ((I 6 (Int32.toNatClampNeg v2))))))))) else (ck 70 ((gb_add (gb_mul v2 5) v6)) <| if gc_eq ((I 4 ((Int32.toNatClampNeg ((gb_add (gb_mul v2 5) v6)))))) (-1) = true then (hX6_bringOver_92 N n48 v2 v3 v4 v5 v6 ((I 4 ((Int32.toNatClampNeg ((gb_add (gb_mul v2 5) v6)))))) I) else (if gz_eq v4 = true then (hX6_bringOver_92 N n48 v2 v3 v4 v5 v6 ((I 4 ((Int32.toNatClampNeg ((gb_add (gb_mul v2 5) v6)))))) I) else (hV (fX6_deliver N [.ref 0, .int ((I 4 ((Int32.toNatClampNeg ((gb_add (gb_mul v2 5) v6))))))] (gS (rg 7 20) I)) (rg 7 20) I fun I2 => hX6_bringOver_107 N n48 v2 v3 v4 v5 v6 I2)))) := by
  show (fX6_bringOver_b48 N (s_lp (fX6_bringOver_b48 N) n48)) [some (.ref 0), some (.ref 7), some (.int v2), some (.int v3), some (.int v4), some (.int v5), some (.int v6), none] [] I = _
  unfold fX6_bringOver_b48
  refine tt_iload rfl ?_
  refine tt_aload rfl ?_
  refine tt_getr (q := 5) rfl rfl ?_
  refine tt_iload rfl ?_
  refine tt_ald (x := (I 5 (Int32.toNatClampNeg v2))) rfl rfl ?_
  refine tt_cmp ?_ ?_
  · skip
    refine tt_iload rfl ?_
    refine tt_if ?_ ?_
    · skip
      exact rfl
    · skip
      refine tt_aload rfl ?_
      refine tt_getr (q := 17) rfl rfl ?_
      refine tt_getr (q := 21) rfl rfl ?_
      refine tt_iload rfl ?_
      refine tt_dup2 rfl rfl ?_
      refine tt_ald (x := (I 21 (Int32.toNatClampNeg v5))) rfl rfl ?_
      refine tt_aload rfl ?_
      refine tt_getr (q := 6) rfl rfl ?_
      refine tt_iload rfl ?_
      refine tt_ald (x := (I 6 (Int32.toNatClampNeg v2))) rfl rfl ?_
      refine tt_bin ?_
      refine tt_ast (v := (gb_add ((I 21 (Int32.toNatClampNeg v5))) ((I 6 (Int32.toNatClampNeg v2))))) rfl rfl ?_
      exact rfl
  · skip
    refine tt_aload rfl ?_
    refine tt_getr (q := 4) rfl rfl ?_
    refine tt_iload rfl ?_
    refine tt_const ?_
    refine tt_bin ?_
    refine tt_iload rfl ?_
    refine tt_bin ?_
    refine tt_ald (x := (I 4 ((Int32.toNatClampNeg ((gb_add (gb_mul v2 5) v6)))))) rfl rfl ?_
    refine tt_istore (L2 := [some (.ref 0), some (.ref 7), some (.int v2), some (.int v3), some (.int v4), some (.int v5), some (.int v6), some (.int ((I 4 ((Int32.toNatClampNeg ((gb_add (gb_mul v2 5) v6)))))))]) (tt_lt rfl) rfl ?_
    refine tt_iload rfl ?_
    refine tt_const ?_
    refine tt_cmp ?_ ?_
    · skip
      refine tt_mask rfl ?_
      exact rfl
    · skip
      refine tt_iload rfl ?_
      refine tt_if ?_ ?_
      · skip
        refine tt_mask rfl ?_
        exact rfl
      · skip
        refine tt_aload rfl ?_
        refine tt_iload rfl ?_
        refine tt_caV (t := []) ⟨Nat.le_of_ble_eq_true rfl, Nat.le_of_ble_eq_true rfl⟩ rfl rfl rfl (fun I2 => ?_)
        refine tt_mask rfl ?_
        exact rfl
theorem eX6_bringOver_48z (N : Nat) (v2 : Int32) (v3 : Int32) (v4 : Int32) (v5 : Int32) (v6 : Int32) (I : gM) : hX6_bringOver_48 N 0 v2 v3 v4 v5 v6 I = none := (rfl)
set_option maxRecDepth 100000 in
theorem eX6_bringOver_92 (N : Nat) (n48 : Nat) (v2 : Int32) (v3 : Int32) (v4 : Int32) (v5 : Int32) (v6 : Int32) (v7 : Int32) (I : gM) : hX6_bringOver_92 N n48 v2 v3 v4 v5 v6 v7 I =
  (if gc_eq v7 (-1) = true then (hX6_bringOver_107 N n48 v2 v3 v4 v5 v6 I) else (hV (fX6_pass N [.ref 0, .int v7, .int v5, .int v3] (gS (rg 7 20) I)) (rg 7 20) I fun I3 => hX6_bringOver_107 N n48 v2 v3 v4 v5 v6 I3)) := by
  show (fX6_bringOver_k92 N (s_lp (fX6_bringOver_b48 N) n48)) [some (.ref 0), some (.ref 7), some (.int v2), some (.int v3), some (.int v4), some (.int v5), some (.int v6), some (.int v7)] [] I = _
  unfold fX6_bringOver_k92
  refine tt_iload rfl ?_
  refine tt_const ?_
  refine tt_cmp ?_ ?_
  · skip
    refine tt_mask rfl ?_
    exact rfl
  · skip
    refine tt_aload rfl ?_
    refine tt_iload rfl ?_
    refine tt_iload rfl ?_
    refine tt_iload rfl ?_
    refine tt_caV (t := []) ⟨Nat.le_of_ble_eq_true rfl, Nat.le_of_ble_eq_true rfl⟩ rfl rfl rfl (fun I3 => ?_)
    refine tt_mask rfl ?_
    exact rfl
set_option maxRecDepth 100000 in
theorem eX6_bringOver_107 (N : Nat) (n48 : Nat) (v2 : Int32) (v3 : Int32) (v4 : Int32) (v5 : Int32) (v6 : Int32) (I : gM) : hX6_bringOver_107 N n48 v2 v3 v4 v5 v6 I =
  (hX6_bringOver_48 N n48 v2 v3 v4 v5 (v6 + 1) I) := by
  show (fX6_bringOver_k107 N (s_lp (fX6_bringOver_b48 N) n48)) [some (.ref 0), some (.ref 7), some (.int v2), some (.int v3), some (.int v4), some (.int v5), some (.int v6), none] [] I = _
  unfold fX6_bringOver_k107
  refine tt_iinc (L2 := [some (.ref 0), some (.ref 7), some (.int v2), some (.int v3), some (.int v4), some (.int v5), some (.int (v6 + 1)), none]) rfl rfl ?_
  refine tt_mask rfl ?_
  exact rfl
set_option maxRecDepth 100000 in
theorem eX6_bringOver (N : Nat) (v2 : Int32) (I : gM) : fX6_bringOver N [.ref 0, .ref 7, .int v2] I = hX6_bringOver_0 N v2 I := by
  show gFn 8 (fX6_bringOver_k0 N) [.ref 0, .ref 7, .int v2] I = (fX6_bringOver_k0 N) [some (.ref 0), some (.ref 7), some (.int v2), none, none, none, none, none] [] I
  exact tt_fn rfl rfl

def hX6_transmit_0 (N : Nat) (v2 : Int32) (I : gM) : gO := fX6_transmit_k0 N [some (.ref 0), some (.ref 7), some (.int v2), none] [] I
def hX6_transmit_2 (N : Nat) (n2 : Nat) (v2 : Int32) (v3 : Int32) (I : gM) : gO := s_lp (fX6_transmit_b2 N) n2 [some (.ref 0), some (.ref 7), some (.int v2), some (.int v3)] [] I
def hX6_transmit_36 (N : Nat) (n36 : Nat) (v2 : Int32) (v3 : Int32) (I : gM) : gO := s_lp (fX6_transmit_b36 N) n36 [some (.ref 0), some (.ref 7), some (.int v2), some (.int v3)] [] I
def hX6_transmit_28 (N : Nat) (n2 : Nat) (v2 : Int32) (v3 : Int32) (I : gM) : gO := fX6_transmit_k28 N (s_lp (fX6_transmit_b2 N) n2) [some (.ref 0), some (.ref 7), some (.int v2), some (.int v3)] [] I
def hX6_transmit_62 (N : Nat) (n36 : Nat) (v2 : Int32) (v3 : Int32) (I : gM) : gO := fX6_transmit_k62 N (s_lp (fX6_transmit_b36 N) n36) [some (.ref 0), some (.ref 7), some (.int v2), some (.int v3)] [] I
set_option maxRecDepth 100000 in
theorem eX6_transmit_0 (N : Nat) (v2 : Int32) (I : gM) : hX6_transmit_0 N v2 I =
  (hX6_transmit_2 N N v2 0 I) := by
  show (fX6_transmit_k0 N) [some (.ref 0), some (.ref 7), some (.int v2), none] [] I = _
  unfold fX6_transmit_k0
  refine tt_const ?_
  refine tt_istore (L2 := [some (.ref 0), some (.ref 7), some (.int v2), some (.int 0)]) (tt_lt rfl) rfl ?_
  refine tt_mask rfl ?_
  exact rfl
set_option maxRecDepth 100000 in
theorem eX6_transmit_2 (N : Nat) (n2 : Nat) (v2 : Int32) (v3 : Int32) (I : gM) : hX6_transmit_2 N (n2 + 1) v2 v3 I =
  (if gc_ge v3 (I 8 1) = true then (hX6_transmit_36 N N v2 0 I) else (if gc_ne ((gb_and (gb_shr v2 v3) 1)) 1 = true then (hX6_transmit_28 N n2 v2 v3 I) else (hV (fX6_takeFor N [.ref 0, .ref 7, .int v3] (gS (rg 0 27) I)) (rg 0 27) I fun I1 => hX6_transmit_28 N n2 v2 v3 I1))) := by
  show (fX6_transmit_b2 N (s_lp (fX6_transmit_b2 N) n2)) [some (.ref 0), some (.ref 7), some (.int v2), some (.int v3)] [] I = _
  unfold fX6_transmit_b2
  refine tt_iload rfl ?_
  refine tt_aload rfl ?_
  refine tt_getr (q := 8) rfl rfl ?_
  refine tt_get (x := (I 8 1)) rfl rfl rfl ?_
  refine tt_cmp ?_ ?_
  · skip
    refine tt_const ?_
    refine tt_istore (L2 := [some (.ref 0), some (.ref 7), some (.int v2), some (.int 0)]) (tt_lt rfl) rfl ?_
    refine tt_mask rfl ?_
    exact rfl
  · skip
    refine tt_iload rfl ?_
    refine tt_iload rfl ?_
    refine tt_bin ?_
    refine tt_const ?_
    refine tt_bin ?_
    refine tt_const ?_
    refine tt_cmp ?_ ?_
    · skip
      refine tt_mask rfl ?_
      exact rfl
    · skip
      refine tt_aload rfl ?_
      refine tt_aload rfl ?_
      refine tt_iload rfl ?_
      refine tt_cavV (t := []) ⟨Nat.le_of_ble_eq_true rfl, Nat.le_of_ble_eq_true rfl⟩ rfl rfl rfl (fun I1 => ?_)
      refine tt_mask rfl ?_
      exact rfl
theorem eX6_transmit_2z (N : Nat) (v2 : Int32) (v3 : Int32) (I : gM) : hX6_transmit_2 N 0 v2 v3 I = none := (rfl)
set_option maxRecDepth 100000 in
theorem eX6_transmit_36 (N : Nat) (n36 : Nat) (v2 : Int32) (v3 : Int32) (I : gM) : hX6_transmit_36 N (n36 + 1) v2 v3 I =
  (if gc_ge v3 (I 8 1) = true then (some (.inl none, I)) else (if gc_ne ((gb_and (gb_shr v2 v3) 1)) 1 = true then (hX6_transmit_62 N n36 v2 v3 I) else (hV (fX6_bringOver N [.ref 0, .ref 7, .int v3] (gS (rg 0 27) I)) (rg 0 27) I fun I2 => hX6_transmit_62 N n36 v2 v3 I2))) := by
  show (fX6_transmit_b36 N (s_lp (fX6_transmit_b36 N) n36)) [some (.ref 0), some (.ref 7), some (.int v2), some (.int v3)] [] I = _
  unfold fX6_transmit_b36
  refine tt_iload rfl ?_
  refine tt_aload rfl ?_
  refine tt_getr (q := 8) rfl rfl ?_
  refine tt_get (x := (I 8 1)) rfl rfl rfl ?_
  refine tt_cmp ?_ ?_
  · skip
    exact rfl
  · skip
    refine tt_iload rfl ?_
    refine tt_iload rfl ?_
    refine tt_bin ?_
    refine tt_const ?_
    refine tt_bin ?_
    refine tt_const ?_
    refine tt_cmp ?_ ?_
    · skip
      refine tt_mask rfl ?_
      exact rfl
    · skip
      refine tt_aload rfl ?_
      refine tt_aload rfl ?_
      refine tt_iload rfl ?_
      refine tt_cavV (t := []) ⟨Nat.le_of_ble_eq_true rfl, Nat.le_of_ble_eq_true rfl⟩ rfl rfl rfl (fun I2 => ?_)
      refine tt_mask rfl ?_
      exact rfl
theorem eX6_transmit_36z (N : Nat) (v2 : Int32) (v3 : Int32) (I : gM) : hX6_transmit_36 N 0 v2 v3 I = none := (rfl)
set_option maxRecDepth 100000 in
theorem eX6_transmit_28 (N : Nat) (n2 : Nat) (v2 : Int32) (v3 : Int32) (I : gM) : hX6_transmit_28 N n2 v2 v3 I =
  (hX6_transmit_2 N n2 v2 (v3 + 1) I) := by
  show (fX6_transmit_k28 N (s_lp (fX6_transmit_b2 N) n2)) [some (.ref 0), some (.ref 7), some (.int v2), some (.int v3)] [] I = _
  unfold fX6_transmit_k28
  refine tt_iinc (L2 := [some (.ref 0), some (.ref 7), some (.int v2), some (.int (v3 + 1))]) rfl rfl ?_
  refine tt_mask rfl ?_
  exact rfl
set_option maxRecDepth 100000 in
theorem eX6_transmit_62 (N : Nat) (n36 : Nat) (v2 : Int32) (v3 : Int32) (I : gM) : hX6_transmit_62 N n36 v2 v3 I =
  (hX6_transmit_36 N n36 v2 (v3 + 1) I) := by
  show (fX6_transmit_k62 N (s_lp (fX6_transmit_b36 N) n36)) [some (.ref 0), some (.ref 7), some (.int v2), some (.int v3)] [] I = _
  unfold fX6_transmit_k62
  refine tt_iinc (L2 := [some (.ref 0), some (.ref 7), some (.int v2), some (.int (v3 + 1))]) rfl rfl ?_
  refine tt_mask rfl ?_
  exact rfl
set_option maxRecDepth 100000 in
theorem eX6_transmit (N : Nat) (v2 : Int32) (I : gM) : fX6_transmit N [.ref 0, .ref 7, .int v2] I = hX6_transmit_0 N v2 I := by
  show gFn 4 (fX6_transmit_k0 N) [.ref 0, .ref 7, .int v2] I = (fX6_transmit_k0 N) [some (.ref 0), some (.ref 7), some (.int v2), none] [] I
  exact tt_fn rfl rfl

