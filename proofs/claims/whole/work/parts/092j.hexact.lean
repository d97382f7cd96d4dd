def hX3_heaviest_0 (N : Nat) (g : List Value → gM → Option (gR × gM)) (v0 : Int32) (v1 : Int32) (I : gM) : gO := fX3_heaviest_k0 N g [some (.int v0), some (.int v1), some (.ref 0), some (.ref 1), none, none, none, none] [] I
def hX3_heaviest_88 (N : Nat) (g : List Value → gM → Option (gR × gM)) (v6 : Int32) (s0 : Int32) (I : gM) : gO := fX3_heaviest_k88 N g [none, none, some (.ref 0), none, none, none, some (.int v6), none] [.int s0] I
set_option maxRecDepth 100000 in
theorem eX3_heaviest_0 (N : Nat) (g : List Value → gM → Option (gR × gM)) (v0 : Int32) (v1 : Int32) (I : gM) : hX3_heaviest_0 N g v0 v1 I =
  (if gz_eq v0 = true then (some (.inl (some (.int 0)), I)) else (if gz_lt v1 = true then (some (.inl (some (.int 0)), I)) else (if gc_lt v1 14 = true then (if gc_ne ((gb_and v0 ((gb_xor (gb_shl 1 v1) (-1))))) v0 = true then (ck 14 v1 <| hI (g [.int ((gb_and ((gb_and v0 ((gb_xor (gb_shl 1 v1) (-1))))) ((gb_xor ((I 1 (Int32.toNatClampNeg v1))) (-1))))), .int (gb_sub v1 1), .ref 0, .ref 1] (gS (rg 0 2) I)) (rg 0 2) I fun x1 I1 => if gc_ne ((gb_and ((gb_and v0 ((gb_xor (gb_shl 1 v1) (-1))))) ((gb_xor ((I 1 (Int32.toNatClampNeg v1))) (-1))))) ((gb_and v0 ((gb_xor (gb_shl 1 v1) (-1))))) = true then (hI (g [.int ((gb_and v0 ((gb_xor (gb_shl 1 v1) (-1))))), .int (gb_sub v1 1), .ref 0, .ref 1] (gS (rg 0 2) I1)) (rg 0 2) I1 fun x2 I2 => hX3_heaviest_88 N g ((gb_or (gb_shl 1 v1) x1)) x2 I2) else (some (.inl (some (.int ((gb_or (gb_shl 1 v1) x1)))), I1))) else (hI (g [.int ((gb_and v0 ((gb_xor (gb_shl 1 v1) (-1))))), .int (gb_sub v1 1), .ref 0, .ref 1] (gS (rg 0 2) I)) (rg 0 2) I fun x3 I3 => some (.inl (some (.int x3)), I3))) else (some (.inl (some (.int 0)), I))))) := by
  show (fX3_heaviest_k0 N g) [some (.int v0), some (.int v1), some (.ref 0), some (.ref 1), none, none, none, none] [] I = _
  unfold fX3_heaviest_k0
  refine tt_iload rfl ?_
  refine tt_if ?_ ?_
  · skip
    refine tt_const ?_
    exact rfl
  · skip
    refine tt_iload rfl ?_
    refine tt_if ?_ ?_
    · skip
      refine tt_const ?_
      exact rfl
    · skip
      refine tt_iload rfl ?_
      refine tt_const ?_
      refine tt_cmp ?_ ?_
      · skip
        refine tt_iload rfl ?_
        refine tt_const ?_
        refine tt_iload rfl ?_
        refine tt_bin ?_
        refine tt_const ?_
        refine tt_bin ?_
        refine tt_bin ?_
        refine tt_istore (L2 := [some (.int v0), some (.int v1), some (.ref 0), some (.ref 1), some (.int ((gb_and v0 ((gb_xor (gb_shl 1 v1) (-1)))))), none, none, none]) (tt_lt rfl) rfl ?_
        refine tt_iload rfl ?_
        refine tt_iload rfl ?_
        refine tt_cmp ?_ ?_
        · skip
          refine tt_iload rfl ?_
          refine tt_aload rfl ?_
          refine tt_iload rfl ?_
          refine tt_ald (x := (I 1 (Int32.toNatClampNeg v1))) rfl rfl ?_
          refine tt_const ?_
          refine tt_bin ?_
          refine tt_bin ?_
          refine tt_istore (L2 := [some (.int v0), some (.int v1), some (.ref 0), some (.ref 1), some (.int ((gb_and v0 ((gb_xor (gb_shl 1 v1) (-1)))))), some (.int ((gb_and ((gb_and v0 ((gb_xor (gb_shl 1 v1) (-1))))) ((gb_xor ((I 1 (Int32.toNatClampNeg v1))) (-1)))))), none, none]) (tt_lt rfl) rfl ?_
          refine tt_const ?_
          refine tt_iload rfl ?_
          refine tt_bin ?_
          refine tt_iload rfl ?_
          refine tt_iload rfl ?_
          refine tt_const ?_
          refine tt_bin ?_
          refine tt_aload rfl ?_
          refine tt_aload rfl ?_
          refine tt_caI (t := [.int (gb_shl 1 v1)]) ⟨Nat.le_of_ble_eq_true rfl, Nat.le_of_ble_eq_true rfl⟩ rfl rfl rfl (fun x1 I1 => ?_)
          refine tt_bin ?_
          refine tt_istore (L2 := [some (.int v0), some (.int v1), some (.ref 0), some (.ref 1), some (.int ((gb_and v0 ((gb_xor (gb_shl 1 v1) (-1)))))), some (.int ((gb_and ((gb_and v0 ((gb_xor (gb_shl 1 v1) (-1))))) ((gb_xor ((I 1 (Int32.toNatClampNeg v1))) (-1)))))), some (.int ((gb_or (gb_shl 1 v1) x1))), none]) (tt_lt rfl) rfl ?_
          refine tt_iload rfl ?_
          refine tt_iload rfl ?_
          refine tt_cmp ?_ ?_
          · skip
            refine tt_iload rfl ?_
            refine tt_iload rfl ?_
            refine tt_const ?_
            refine tt_bin ?_
            refine tt_aload rfl ?_
            refine tt_aload rfl ?_
            refine tt_caI (t := []) ⟨Nat.le_of_ble_eq_true rfl, Nat.le_of_ble_eq_true rfl⟩ rfl rfl rfl (fun x2 I2 => ?_)
            refine tt_mask rfl ?_
            exact rfl
          · skip
            refine tt_iload rfl ?_
            exact rfl
        · skip
          refine tt_iload rfl ?_
          refine tt_iload rfl ?_
          refine tt_const ?_
          refine tt_bin ?_
          refine tt_aload rfl ?_
          refine tt_aload rfl ?_
          refine tt_caI (t := []) ⟨Nat.le_of_ble_eq_true rfl, Nat.le_of_ble_eq_true rfl⟩ rfl rfl rfl (fun x3 I3 => ?_)
          exact rfl
      · skip
        refine tt_const ?_
        exact rfl
set_option maxRecDepth 100000 in
theorem eX3_heaviest_88 (N : Nat) (g : List Value → gM → Option (gR × gM)) (v6 : Int32) (s0 : Int32) (I : gM) : hX3_heaviest_88 N g v6 s0 I =
  (hI (fX3_sumOfWeights N [.int v6, .ref 0] (gS [0] I)) [0] I fun x4 I4 => hI (fX3_sumOfWeights N [.int s0, .ref 0] (gS [0] I4)) [0] I4 fun x5 I5 => if gc_le x4 x5 = true then (some (.inl (some (.int s0)), I5)) else (some (.inl (some (.int v6)), I5))) := by
  show (fX3_heaviest_k88 N g) [none, none, some (.ref 0), none, none, none, some (.int v6), none] [.int s0] I = _
  unfold fX3_heaviest_k88
  refine tt_istore (L2 := [none, none, some (.ref 0), none, none, none, some (.int v6), some (.int s0)]) (tt_lt rfl) rfl ?_
  refine tt_iload rfl ?_
  refine tt_aload rfl ?_
  refine tt_caI (t := []) ⟨Nat.le_of_ble_eq_true rfl, Nat.le_of_ble_eq_true rfl⟩ rfl rfl rfl (fun x4 I4 => ?_)
  refine tt_iload rfl ?_
  refine tt_aload rfl ?_
  refine tt_caI (t := [.int x4]) ⟨Nat.le_of_ble_eq_true rfl, Nat.le_of_ble_eq_true rfl⟩ rfl rfl rfl (fun x5 I5 => ?_)
  refine tt_cmp ?_ ?_
  · skip
    refine tt_iload rfl ?_
    exact rfl
  · skip
    refine tt_iload rfl ?_
    exact rfl
theorem eX3_heaviest (N d : Nat) (v0 : Int32) (v1 : Int32) (I : gM) : fX3_heaviest N (d + 1) [.int v0, .int v1, .ref 0, .ref 1] I = hX3_heaviest_0 N (fX3_heaviest N d) v0 v1 I := by
  show gFn 8 (fX3_heaviest_k0 N (fX3_heaviest N d)) [.int v0, .int v1, .ref 0, .ref 1] I = (fX3_heaviest_k0 N (fX3_heaviest N d)) [some (.int v0), some (.int v1), some (.ref 0), some (.ref 1), none, none, none, none] [] I
  exact tt_fn rfl rfl

def hX3_choose_0 (N : Nat) (v2 : Int32) (I : gM) : gO := fX3_choose_k0 N [some (.ref 0), some (.ref 3), some (.int v2), none, none] [] I
def hX3_choose_5 (N : Nat) (n5 : Nat) (v2 : Int32) (v3 : Int32) (v4 : Int32) (I : gM) : gO := s_lp (fX3_choose_b5 N) n5 [some (.ref 0), some (.ref 3), some (.int v2), some (.int v3), some (.int v4)] [] I
def hX3_choose_41 (N : Nat) (n5 : Nat) (v2 : Int32) (v3 : Int32) (v4 : Int32) (I : gM) : gO := fX3_choose_k41 N (s_lp (fX3_choose_b5 N) n5) [some (.ref 0), some (.ref 3), some (.int v2), some (.int v3), some (.int v4)] [] I
set_option maxRecDepth 100000 in
theorem eX3_choose_0 (N : Nat) (v2 : Int32) (I : gM) : hX3_choose_0 N v2 I =
  (hX3_choose_5 N N v2 0 0 I) := by
  show (fX3_choose_k0 N) [some (.ref 0), some (.ref 3), some (.int v2), none, none] [] I = _
  unfold fX3_choose_k0
  refine tt_const ?_
  refine tt_istore (L2 := [some (.ref 0), some (.ref 3), some (.int v2), some (.int 0), none]) (tt_lt rfl) rfl ?_
  refine tt_const ?_
  refine tt_istore (L2 := [some (.ref 0), some (.ref 3), some (.int v2), some (.int 0), some (.int 0)]) (tt_lt rfl) rfl ?_
  refine tt_mask rfl ?_
  exact rfl
set_option maxRecDepth 100000 in
theorem eX3_choose_5 (N : Nat) (n5 : Nat) (v2 : Int32) (v3 : Int32) (v4 : Int32) (I : gM) : hX3_choose_5 N (n5 + 1) v2 v3 v4 I =
  (if gc_ge v4 (I 4 1) = true then (if gz_ne v2 = true then (hI (fX3_heaviest N 16 [.int v3, .int 13, .ref 0, .ref 1] (gS [2, 9] I)) [2, 9] I fun x1 I1 => some (.inl (some (.int x1)), I1)) else (hI (fX3_greediest N [.ref 0, .int v3, .ref 3] (gS (rg 0 3 ++ rg 4 9) I)) (rg 0 3 ++ rg 4 9) I fun x2 I2 => some (.inl (some (.int x2)), I2))) else (hV (fX3_weigh N [.ref 0, .ref 3, .int v4] (gS (rg 0 23) I)) (rg 0 23) I fun I3 => ck 14 v4 <| if gz_le ((I3 2 (Int32.toNatClampNeg v4))) = true then (hX3_choose_41 N n5 v2 v3 v4 I3) else (hX3_choose_41 N n5 v2 ((gb_or v3 (gb_shl 1 v4))) v4 I3))) := by
  show (fX3_choose_b5 N (s_lp (fX3_choose_b5 N) n5)) [some (.ref 0), some (.ref 3), some (.int v2), some (.int v3), some (.int v4)] [] I = _
  unfold fX3_choose_b5
  refine tt_iload rfl ?_
  refine tt_aload rfl ?_
  refine tt_getr (q := 4) rfl rfl ?_
  refine tt_get (x := (I 4 1)) rfl rfl rfl ?_
  refine tt_cmp ?_ ?_
  · skip
    refine tt_iload rfl ?_
    refine tt_if ?_ ?_
    · skip
      refine tt_iload rfl ?_
      refine tt_const ?_
      refine tt_aload rfl ?_
      refine tt_getr (q := 2) rfl rfl ?_
      refine tt_aload rfl ?_
      refine tt_getr (q := 4) rfl rfl ?_
      refine tt_getr (q := 9) rfl rfl ?_
      refine tt_caI (t := []) ⟨Nat.le_of_ble_eq_true rfl, Nat.le_of_ble_eq_true rfl⟩ rfl rfl rfl (fun x1 I1 => ?_)
      exact rfl
    · skip
      refine tt_aload rfl ?_
      refine tt_iload rfl ?_
      refine tt_aload rfl ?_
      refine tt_getr (q := 4) rfl rfl ?_
      refine tt_cavI (t := []) ⟨Nat.le_of_ble_eq_true rfl, Nat.le_of_ble_eq_true rfl⟩ rfl rfl rfl (fun x2 I2 => ?_)
      exact rfl
  · skip
    refine tt_aload rfl ?_
    refine tt_aload rfl ?_
    refine tt_iload rfl ?_
    refine tt_cavV (t := []) ⟨Nat.le_of_ble_eq_true rfl, Nat.le_of_ble_eq_true rfl⟩ rfl rfl rfl (fun I3 => ?_)
    refine tt_aload rfl ?_
    refine tt_getr (q := 2) rfl rfl ?_
    refine tt_iload rfl ?_
    refine tt_ald (x := (I3 2 (Int32.toNatClampNeg v4))) rfl rfl ?_
    refine tt_if ?_ ?_
    · skip
      refine tt_mask rfl ?_
      exact rfl
    · skip
      refine tt_iload rfl ?_
      refine tt_const ?_
      refine tt_iload rfl ?_
      refine tt_bin ?_
      refine tt_bin ?_
      refine tt_istore (L2 := [some (.ref 0), some (.ref 3), some (.int v2), some (.int ((gb_or v3 (gb_shl 1 v4)))), some (.int v4)]) (tt_lt rfl) rfl ?_
      refine tt_mask rfl ?_
      exact rfl
theorem eX3_choose_5z (N : Nat) (v2 : Int32) (v3 : Int32) (v4 : Int32) (I : gM) : hX3_choose_5 N 0 v2 v3 v4 I = none := (rfl)
set_option maxRecDepth 100000 in
theorem eX3_choose_41 (N : Nat) (n5 : Nat) (v2 : Int32) (v3 : Int32) (v4 : Int32) (I : gM) : hX3_choose_41 N n5 v2 v3 v4 I =
  (hX3_choose_5 N n5 v2 v3 (v4 + 1) I) := by
  show (fX3_choose_k41 N (s_lp (fX3_choose_b5 N) n5)) [some (.ref 0), some (.ref 3), some (.int v2), some (.int v3), some (.int v4)] [] I = _
  unfold fX3_choose_k41
  refine tt_iinc (L2 := [some (.ref 0), some (.ref 3), some (.int v2), some (.int v3), some (.int (v4 + 1))]) rfl rfl ?_
  refine tt_mask rfl ?_
  exact rfl
set_option maxRecDepth 100000 in
theorem eX3_choose (N : Nat) (v2 : Int32) (I : gM) : fX3_choose N [.ref 0, .ref 3, .int v2] I = hX3_choose_0 N v2 I := by
  show gFn 5 (fX3_choose_k0 N) [.ref 0, .ref 3, .int v2] I = (fX3_choose_k0 N) [some (.ref 0), some (.ref 3), some (.int v2), none, none] [] I
  exact tt_fn rfl rfl

def hX6_passSlot_0 (N : Nat) (I : gM) : gO := fX6_passSlot_k0 N [some (.ref 0), some (.ref 7), none] [] I
def hX6_passSlot_2 (N : Nat) (n2 : Nat) (v2 : Int32) (I : gM) : gO := s_lp (fX6_passSlot_b2 N) n2 [some (.ref 0), some (.ref 7), some (.int v2)] [] I
def hX6_passSlot_46 (N : Nat) (I : gM) : gO := fX6_passSlot_k46 N [none, some (.ref 7), none] [] I
set_option maxRecDepth 100000 in
theorem eX6_passSlot_0 (N : Nat) (I : gM) : hX6_passSlot_0 N I =
  (hX6_passSlot_2 N N 0 I) := by
  show (fX6_passSlot_k0 N) [some (.ref 0), some (.ref 7), none] [] I = _
  unfold fX6_passSlot_k0
  refine tt_const ?_
  refine tt_istore (L2 := [some (.ref 0), some (.ref 7), some (.int 0)]) (tt_lt rfl) rfl ?_
  refine tt_mask rfl ?_
  exact rfl
set_option maxRecDepth 100000 in
theorem eX6_passSlot_2 (N : Nat) (n2 : Nat) (v2 : Int32) (I : gM) : hX6_passSlot_2 N (n2 + 1) v2 I =
  (if gc_ge v2 (I 8 2) = true then (ck 4 3 <| hI (fX3_choose N [.ref 0, .ref 3, .int ((I 14 (Int32.toNatClampNeg 3)))] (gS (rg 1 3 ++ rg 7 20) I)) (rg 1 3 ++ rg 7 20) I fun x1 I1 => hV (fX6_transmit N [.ref 0, .ref 7, .int x1] (gS (rg 0 27) I1)) (rg 0 27) I1 fun I2 => hX6_passSlot_46 N I2) else (hV (fX6_letArrive N [.ref 0, .int v2] (gS (rg 7 20) I)) (rg 7 20) I fun I3 => hX6_passSlot_2 N n2 (v2 + 1) I3)) := by
  show (fX6_passSlot_b2 N (s_lp (fX6_passSlot_b2 N) n2)) [some (.ref 0), some (.ref 7), some (.int v2)] [] I = _
  unfold fX6_passSlot_b2
  refine tt_iload rfl ?_
  refine tt_aload rfl ?_
  refine tt_getr (q := 8) rfl rfl ?_
  refine tt_get (x := (I 8 2)) rfl rfl rfl ?_
  refine tt_cmp ?_ ?_
  · skip
    refine tt_aload rfl ?_
    refine tt_aload rfl ?_
    refine tt_aload rfl ?_
    refine tt_getr (q := 1) rfl rfl ?_
    refine tt_aload rfl ?_
    refine tt_aload rfl ?_
    refine tt_getr (q := 8) rfl rfl ?_
    refine tt_getr (q := 14) rfl rfl ?_
    refine tt_const ?_
    refine tt_ald (x := (I 14 (Int32.toNatClampNeg 3))) rfl rfl ?_
    refine tt_cavI (t := [.ref 7, .ref 0]) ⟨Nat.le_of_ble_eq_true rfl, Nat.le_of_ble_eq_true rfl⟩ rfl rfl rfl (fun x1 I1 => ?_)
    refine tt_cavV (t := []) ⟨Nat.le_of_ble_eq_true rfl, Nat.le_of_ble_eq_true rfl⟩ rfl rfl rfl (fun I2 => ?_)
    refine tt_mask rfl ?_
    exact rfl
  · skip
    refine tt_aload rfl ?_
    refine tt_iload rfl ?_
    refine tt_caV (t := []) ⟨Nat.le_of_ble_eq_true rfl, Nat.le_of_ble_eq_true rfl⟩ rfl rfl rfl (fun I3 => ?_)
    refine tt_iinc (L2 := [some (.ref 0), some (.ref 7), some (.int (v2 + 1))]) rfl rfl ?_
    refine tt_mask rfl ?_
    exact rfl
theorem eX6_passSlot_2z (N : Nat) (v2 : Int32) (I : gM) : hX6_passSlot_2 N 0 v2 I = none := (rfl)
set_option maxRecDepth 100000 in
theorem eX6_passSlot_46 (N : Nat) (I : gM) : hX6_passSlot_46 N I =
  (hV (fX7_expireAll N [.ref 0] (gS (rg 7 20) I)) (rg 7 20) I fun I4 => some (.inl none, (gU (gU I4 7 2 ((gb_add (I4 7 2) 1))) 7 3 ((gj_max (I4 7 3) (I4 17 11)))))) := by
  show (fX6_passSlot_k46 N) [none, some (.ref 7), none] [] I = _
  unfold fX6_passSlot_k46
  refine tt_aload rfl ?_
  refine tt_cavV (t := []) ⟨Nat.le_of_ble_eq_true rfl, Nat.le_of_ble_eq_true rfl⟩ rfl rfl rfl (fun I4 => ?_)
  refine tt_aload rfl ?_
  refine tt_dup rfl ?_
  refine tt_get (x := (I4 7 2)) rfl rfl rfl ?_
  refine tt_const ?_
  refine tt_bin ?_
  refine tt_put rfl rfl ?_
  refine tt_aload rfl ?_
  refine tt_aload rfl ?_
  refine tt_get (x := (I4 7 3)) rfl rfl rfl ?_
  refine tt_aload rfl ?_
  refine tt_getr (q := 17) rfl rfl ?_
  refine tt_get (x := (I4 17 11)) rfl rfl rfl ?_
  refine tt_jmath (Nat.le_of_ble_eq_true rfl) ?_
  refine tt_put rfl rfl ?_
  exact rfl
set_option maxRecDepth 100000 in
theorem eX6_passSlot (N : Nat) (I : gM) : fX6_passSlot N [.ref 0, .ref 7] I = hX6_passSlot_0 N I := by
  show gFn 3 (fX6_passSlot_k0 N) [.ref 0, .ref 7] I = (fX6_passSlot_k0 N) [some (.ref 0), some (.ref 7), none] [] I
  exact tt_fn rfl rfl

def hX6_passSlots_0 (N : Nat) (v2 : Int32) (I : gM) : gO := fX6_passSlots_k0 N [some (.ref 0), some (.ref 7), some (.int v2), none] [] I
def hX6_passSlots_2 (N : Nat) (n2 : Nat) (v2 : Int32) (v3 : Int32) (I : gM) : gO := s_lp (fX6_passSlots_b2 N) n2 [some (.ref 0), some (.ref 7), some (.int v2), some (.int v3)] [] I
set_option maxRecDepth 100000 in
theorem eX6_passSlots_0 (N : Nat) (v2 : Int32) (I : gM) : hX6_passSlots_0 N v2 I =
  (hX6_passSlots_2 N N v2 0 I) := by
  show (fX6_passSlots_k0 N) [some (.ref 0), some (.ref 7), some (.int v2), none] [] I = _
  unfold fX6_passSlots_k0
  refine tt_const ?_
  refine tt_istore (L2 := [some (.ref 0), some (.ref 7), some (.int v2), some (.int 0)]) (tt_lt rfl) rfl ?_
  refine tt_mask rfl ?_
  exact rfl
set_option maxRecDepth 100000 in
theorem eX6_passSlots_2 (N : Nat) (n2 : Nat) (v2 : Int32) (v3 : Int32) (I : gM) : hX6_passSlots_2 N (n2 + 1) v2 v3 I =
  (if gc_ge v3 v2 = true then (some (.inl none, I)) else (hV (fX6_passSlot N [.ref 0, .ref 7] (gS (rg 0 27) I)) (rg 0 27) I fun I1 => hX6_passSlots_2 N n2 v2 (v3 + 1) I1)) := by
  show (fX6_passSlots_b2 N (s_lp (fX6_passSlots_b2 N) n2)) [some (.ref 0), some (.ref 7), some (.int v2), some (.int v3)] [] I = _
  unfold fX6_passSlots_b2
  refine tt_iload rfl ?_
  refine tt_iload rfl ?_
  refine tt_cmp ?_ ?_
  · skip
    exact rfl
  · skip
    refine tt_aload rfl ?_
    refine tt_aload rfl ?_
    refine tt_cavV (t := []) ⟨Nat.le_of_ble_eq_true rfl, Nat.le_of_ble_eq_true rfl⟩ rfl rfl rfl (fun I1 => ?_)
    refine tt_iinc (L2 := [some (.ref 0), some (.ref 7), some (.int v2), some (.int (v3 + 1))]) rfl rfl ?_
    refine tt_mask rfl ?_
    exact rfl
theorem eX6_passSlots_2z (N : Nat) (v2 : Int32) (v3 : Int32) (I : gM) : hX6_passSlots_2 N 0 v2 v3 I = none := (rfl)
set_option maxRecDepth 100000 in
theorem eX6_passSlots (N : Nat) (v2 : Int32) (I : gM) : fX6_passSlots N [.ref 0, .ref 7, .int v2] I = hX6_passSlots_0 N v2 I := by
  show gFn 4 (fX6_passSlots_k0 N) [.ref 0, .ref 7, .int v2] I = (fX6_passSlots_k0 N) [some (.ref 0), some (.ref 7), some (.int v2), none] [] I
  exact tt_fn rfl rfl

