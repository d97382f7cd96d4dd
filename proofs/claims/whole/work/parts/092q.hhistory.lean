def hX1_remember_0 (N : Nat) (I : gM) : gO := fX1_remember_k0 N [some (.ref 0), some (.ref 122), none, none] [] I
def hX1_remember_56 (N : Nat) (I : gM) : gO := fX1_remember_k56 N [some (.ref 0), some (.ref 122), none, none] [] I
def hX1_remember_18 (N : Nat) (n18 : Nat) (p2 : Nat) (v3 : Int32) (I : gM) : gO := s_lp (fX1_remember_b18 N) n18 [some (.ref 0), some (.ref 122), some (.ref p2), some (.int v3)] [] I
set_option maxRecDepth 100000 in
theorem eX1_remember_0 (N : Nat) (I : gM) : hX1_remember_0 N I =
  (if gc_lt (I 0 1) 6 = true then (hX1_remember_56 N I) else (if 0 < 0 ∨ 6 ≤ (0 : Int32).toNatClampNeg then none else hQ [2, 22, 42, 62, 82, 102] (I 1 (Int32.toNatClampNeg 0)) fun q101 => hX1_remember_18 N N q101 1 I)) := by
  show (fX1_remember_k0 N) [some (.ref 0), some (.ref 122), none, none] [] I = _
  unfold fX1_remember_k0
  refine tt_aload rfl ?_
  refine tt_get (x := (I 0 1)) rfl rfl rfl ?_
  refine tt_const ?_
  refine tt_cmp ?_ ?_
  · skip
    refine tt_mask rfl ?_
    exact rfl
  · skip
    refine tt_aload rfl ?_
    refine tt_getr (q := 1) rfl rfl ?_
    refine tt_const ?_
    refine tt_qld (lay := gyH) (ps := [2, 22, 42, 62, 82, 102]) (v := (I 1 (Int32.toNatClampNeg 0))) rfl rfl (fun q101 => ?_)
    refine tt_astore (L2 := [some (.ref 0), some (.ref 122), some (.ref q101), none]) (tt_lt rfl) rfl ?_
    refine tt_const ?_
    refine tt_istore (L2 := [some (.ref 0), some (.ref 122), some (.ref q101), some (.int 1)]) (tt_lt rfl) rfl ?_
    refine tt_mask rfl ?_
    exact rfl
set_option maxRecDepth 100000 in
theorem eX1_remember_56 (N : Nat) (I : gM) : hX1_remember_56 N I =
  (if (I 0 1) < 0 ∨ 6 ≤ ((I 0 1)).toNatClampNeg then none else hQ [2, 22, 42, 62, 82, 102] (I 1 ((Int32.toNatClampNeg (I 0 1)))) fun q102 => hD q102 [(2, hV (fX7_copyFrom N [.ref 0, .ref 20] (gS (rg 2 20 ++ rg 122 20) I)) (rg 2 20 ++ rg 122 20) I fun I3 => some (.inl none, (gU I3 0 1 ((gb_add (I3 0 1) 1))))), (22, hV (fX7_copyFrom N [.ref 0, .ref 20] (gS (rg 22 20 ++ rg 122 20) I)) (rg 22 20 ++ rg 122 20) I fun I4 => some (.inl none, (gU I4 0 1 ((gb_add (I4 0 1) 1))))), (42, hV (fX7_copyFrom N [.ref 0, .ref 20] (gS (rg 42 20 ++ rg 122 20) I)) (rg 42 20 ++ rg 122 20) I fun I5 => some (.inl none, (gU I5 0 1 ((gb_add (I5 0 1) 1))))), (62, hV (fX7_copyFrom N [.ref 0, .ref 20] (gS (rg 62 20 ++ rg 122 20) I)) (rg 62 20 ++ rg 122 20) I fun I6 => some (.inl none, (gU I6 0 1 ((gb_add (I6 0 1) 1))))), (82, hV (fX7_copyFrom N [.ref 0, .ref 20] (gS (rg 82 20 ++ rg 122 20) I)) (rg 82 20 ++ rg 122 20) I fun I7 => some (.inl none, (gU I7 0 1 ((gb_add (I7 0 1) 1))))), (102, hV (fX7_copyFrom N [.ref 0, .ref 20] (gS (rg 102 40) I)) (rg 102 40) I fun I8 => some (.inl none, (gU I8 0 1 ((gb_add (I8 0 1) 1)))))]) := by
  show (fX1_remember_k56 N) [some (.ref 0), some (.ref 122), none, none] [] I = _
  unfold fX1_remember_k56
  refine tt_aload rfl ?_
  refine tt_getr (q := 1) rfl rfl ?_
  refine tt_aload rfl ?_
  refine tt_get (x := (I 0 1)) rfl rfl rfl ?_
  refine tt_qld (lay := gyH) (ps := [2, 22, 42, 62, 82, 102]) (v := (I 1 ((Int32.toNatClampNeg (I 0 1))))) rfl rfl (fun q102 => ?_)
  refine tt_aload rfl ?_
  refine tt_dy (q := q102) rfl (List.cons_eq_cons.mpr ⟨Prod.ext rfl ?_, (List.cons_eq_cons.mpr ⟨Prod.ext rfl ?_, (List.cons_eq_cons.mpr ⟨Prod.ext rfl ?_, (List.cons_eq_cons.mpr ⟨Prod.ext rfl ?_, (List.cons_eq_cons.mpr ⟨Prod.ext rfl ?_, (List.cons_eq_cons.mpr ⟨Prod.ext rfl ?_, rfl⟩)⟩)⟩)⟩)⟩)⟩)
  · skip
    dsimp only
    refine tt_cavV (t := []) ⟨Nat.le_of_ble_eq_true rfl, Nat.le_of_ble_eq_true rfl⟩ rfl rfl rfl (fun I3 => ?_)
    refine tt_aload rfl ?_
    refine tt_dup rfl ?_
    refine tt_get (x := (I3 0 1)) rfl rfl rfl ?_
    refine tt_const ?_
    refine tt_bin ?_
    refine tt_put rfl rfl ?_
    exact rfl
  · skip
    dsimp only
    refine tt_cavV (t := []) ⟨Nat.le_of_ble_eq_true rfl, Nat.le_of_ble_eq_true rfl⟩ rfl rfl rfl (fun I4 => ?_)
    refine tt_aload rfl ?_
    refine tt_dup rfl ?_
    refine tt_get (x := (I4 0 1)) rfl rfl rfl ?_
    refine tt_const ?_
    refine tt_bin ?_
    refine tt_put rfl rfl ?_
    exact rfl
  · skip
    dsimp only
    refine tt_cavV (t := []) ⟨Nat.le_of_ble_eq_true rfl, Nat.le_of_ble_eq_true rfl⟩ rfl rfl rfl (fun I5 => ?_)
    refine tt_aload rfl ?_
    refine tt_dup rfl ?_
    refine tt_get (x := (I5 0 1)) rfl rfl rfl ?_
    refine tt_const ?_
    refine tt_bin ?_
    refine tt_put rfl rfl ?_
    exact rfl
  · skip
    dsimp only
    refine tt_cavV (t := []) ⟨Nat.le_of_ble_eq_true rfl, Nat.le_of_ble_eq_true rfl⟩ rfl rfl rfl (fun I6 => ?_)
    refine tt_aload rfl ?_
    refine tt_dup rfl ?_
    refine tt_get (x := (I6 0 1)) rfl rfl rfl ?_
    refine tt_const ?_
    refine tt_bin ?_
    refine tt_put rfl rfl ?_
    exact rfl
  · skip
    dsimp only
    refine tt_cavV (t := []) ⟨Nat.le_of_ble_eq_true rfl, Nat.le_of_ble_eq_true rfl⟩ rfl rfl rfl (fun I7 => ?_)
    refine tt_aload rfl ?_
    refine tt_dup rfl ?_
    refine tt_get (x := (I7 0 1)) rfl rfl rfl ?_
    refine tt_const ?_
    refine tt_bin ?_
    refine tt_put rfl rfl ?_
    exact rfl
  · skip
    dsimp only
    refine tt_cavV (t := []) ⟨Nat.le_of_ble_eq_true rfl, Nat.le_of_ble_eq_true rfl⟩ rfl rfl rfl (fun I8 => ?_)
    refine tt_aload rfl ?_
    refine tt_dup rfl ?_
    refine tt_get (x := (I8 0 1)) rfl rfl rfl ?_
    refine tt_const ?_
    refine tt_bin ?_
    refine tt_put rfl rfl ?_
    exact rfl
set_option maxRecDepth 100000 in
theorem eX1_remember_18 (N : Nat) (n18 : Nat) (p2 : Nat) (v3 : Int32) (I : gM) : hX1_remember_18 N (n18 + 1) p2 v3 I =
  (if gc_ge v3 6 = true then (s_qst gyH (fun _ _ J9 => hX1_remember_56 N (gU J9 0 1 5)) [] [.ref p2, .int 5, .ref 1] I) else (if v3 < 0 ∨ 6 ≤ (v3).toNatClampNeg then none else hQ [2, 22, 42, 62, 82, 102] (I 1 (Int32.toNatClampNeg v3)) fun q110 => s_qst gyH (fun _ _ J11 => hX1_remember_18 N n18 p2 (v3 + 1) J11) [] [.ref q110, .int (gb_sub v3 1), .ref 1] I)) := by
  show (fX1_remember_b18 N (s_lp (fX1_remember_b18 N) n18)) [some (.ref 0), some (.ref 122), some (.ref p2), some (.int v3)] [] I = _
  unfold fX1_remember_b18
  refine tt_iload rfl ?_
  refine tt_const ?_
  refine tt_cmp ?_ ?_
  · skip
    refine tt_aload rfl ?_
    refine tt_getr (q := 1) rfl rfl ?_
    refine tt_const ?_
    refine tt_aload rfl ?_
    refine tt_qst (fun J9 => ?_)
    refine tt_aload rfl ?_
    refine tt_const ?_
    refine tt_put rfl rfl ?_
    refine tt_mask rfl ?_
    exact rfl
  · skip
    refine tt_aload rfl ?_
    refine tt_getr (q := 1) rfl rfl ?_
    refine tt_iload rfl ?_
    refine tt_const ?_
    refine tt_bin ?_
    refine tt_aload rfl ?_
    refine tt_getr (q := 1) rfl rfl ?_
    refine tt_iload rfl ?_
    refine tt_qld (lay := gyH) (ps := [2, 22, 42, 62, 82, 102]) (v := (I 1 (Int32.toNatClampNeg v3))) rfl rfl (fun q110 => ?_)
    refine tt_qst (fun J11 => ?_)
    refine tt_iinc (L2 := [some (.ref 0), some (.ref 122), some (.ref p2), some (.int (v3 + 1))]) rfl rfl ?_
    refine tt_mask rfl ?_
    exact rfl
theorem eX1_remember_18z (N : Nat) (p2 : Nat) (v3 : Int32) (I : gM) : hX1_remember_18 N 0 p2 v3 I = none := (rfl)
set_option maxRecDepth 100000 in
theorem eX1_remember (N : Nat) (I : gM) : fX1_remember N [.ref 0, .ref 122] I = hX1_remember_0 N I := by
  show gFn 4 (fX1_remember_k0 N) [.ref 0, .ref 122] I = (fX1_remember_k0 N) [some (.ref 0), some (.ref 122), none, none] [] I
  exact tt_fn rfl rfl

def hX1_takeBack_0 (N : Nat) (I : gM) : gO := fX1_takeBack_k0 N [some (.ref 0), some (.ref 122)] [] I
set_option maxRecDepth 100000 in
theorem eX1_takeBack_0 (N : Nat) (I : gM) : hX1_takeBack_0 N I =
  (if gz_le (I 0 1) = true then (some (.inl none, I)) else (if (gb_sub (I 0 1) 1) < 0 ∨ 6 ≤ ((gb_sub (I 0 1) 1)).toNatClampNeg then none else hQ [2, 22, 42, 62, 82, 102] (I 1 ((Int32.toNatClampNeg ((gb_sub (I 0 1) 1))))) fun q101 => hD q101 [(2, hV (fX7_copyFrom N [.ref 0, .ref 20] (gS (rg 122 20 ++ rg 2 20) (gU I 0 1 ((gb_sub (I 0 1) 1))))) (rg 122 20 ++ rg 2 20) (gU I 0 1 ((gb_sub (I 0 1) 1))) fun I2 => some (.inl none, I2)), (22, hV (fX7_copyFrom N [.ref 0, .ref 20] (gS (rg 122 20 ++ rg 22 20) (gU I 0 1 ((gb_sub (I 0 1) 1))))) (rg 122 20 ++ rg 22 20) (gU I 0 1 ((gb_sub (I 0 1) 1))) fun I3 => some (.inl none, I3)), (42, hV (fX7_copyFrom N [.ref 0, .ref 20] (gS (rg 122 20 ++ rg 42 20) (gU I 0 1 ((gb_sub (I 0 1) 1))))) (rg 122 20 ++ rg 42 20) (gU I 0 1 ((gb_sub (I 0 1) 1))) fun I4 => some (.inl none, I4)), (62, hV (fX7_copyFrom N [.ref 0, .ref 20] (gS (rg 122 20 ++ rg 62 20) (gU I 0 1 ((gb_sub (I 0 1) 1))))) (rg 122 20 ++ rg 62 20) (gU I 0 1 ((gb_sub (I 0 1) 1))) fun I5 => some (.inl none, I5)), (82, hV (fX7_copyFrom N [.ref 0, .ref 20] (gS (rg 122 20 ++ rg 82 20) (gU I 0 1 ((gb_sub (I 0 1) 1))))) (rg 122 20 ++ rg 82 20) (gU I 0 1 ((gb_sub (I 0 1) 1))) fun I6 => some (.inl none, I6)), (102, hV (fX7_copyFrom N [.ref 0, .ref 20] (gS (rg 122 20 ++ rg 102 20) (gU I 0 1 ((gb_sub (I 0 1) 1))))) (rg 122 20 ++ rg 102 20) (gU I 0 1 ((gb_sub (I 0 1) 1))) fun I7 => some (.inl none, I7))])) := by
  show (fX1_takeBack_k0 N) [some (.ref 0), some (.ref 122)] [] I = _
  unfold fX1_takeBack_k0
  refine tt_aload rfl ?_
  refine tt_get (x := (I 0 1)) rfl rfl rfl ?_
  refine tt_if ?_ ?_
  · skip
    exact rfl
  · skip
    refine tt_aload rfl ?_
    refine tt_dup rfl ?_
    refine tt_get (x := (I 0 1)) rfl rfl rfl ?_
    refine tt_const ?_
    refine tt_bin ?_
    refine tt_put rfl rfl ?_
    refine tt_aload rfl ?_
    refine tt_aload rfl ?_
    refine tt_getr (q := 1) rfl rfl ?_
    refine tt_aload rfl ?_
    refine tt_get (x := (gb_sub (I 0 1) 1)) rfl rfl rfl ?_
    refine tt_qld (lay := gyH) (ps := [2, 22, 42, 62, 82, 102]) (v := (I 1 ((Int32.toNatClampNeg ((gb_sub (I 0 1) 1)))))) rfl rfl (fun q101 => ?_)
    refine tt_dy (q := q101) rfl (List.cons_eq_cons.mpr ⟨Prod.ext rfl ?_, (List.cons_eq_cons.mpr ⟨Prod.ext rfl ?_, (List.cons_eq_cons.mpr ⟨Prod.ext rfl ?_, (List.cons_eq_cons.mpr ⟨Prod.ext rfl ?_, (List.cons_eq_cons.mpr ⟨Prod.ext rfl ?_, (List.cons_eq_cons.mpr ⟨Prod.ext rfl ?_, rfl⟩)⟩)⟩)⟩)⟩)⟩)
    · skip
      dsimp only
      refine tt_cavV (t := []) ⟨Nat.le_of_ble_eq_true rfl, Nat.le_of_ble_eq_true rfl⟩ rfl rfl rfl (fun I2 => ?_)
      exact rfl
    · skip
      dsimp only
      refine tt_cavV (t := []) ⟨Nat.le_of_ble_eq_true rfl, Nat.le_of_ble_eq_true rfl⟩ rfl rfl rfl (fun I3 => ?_)
      exact rfl
    · skip
      dsimp only
      refine tt_cavV (t := []) ⟨Nat.le_of_ble_eq_true rfl, Nat.le_of_ble_eq_true rfl⟩ rfl rfl rfl (fun I4 => ?_)
      exact rfl
    · skip
      dsimp only
      refine tt_cavV (t := []) ⟨Nat.le_of_ble_eq_true rfl, Nat.le_of_ble_eq_true rfl⟩ rfl rfl rfl (fun I5 => ?_)
      exact rfl
    · skip
      dsimp only
      refine tt_cavV (t := []) ⟨Nat.le_of_ble_eq_true rfl, Nat.le_of_ble_eq_true rfl⟩ rfl rfl rfl (fun I6 => ?_)
      exact rfl
    · skip
      dsimp only
      refine tt_cavV (t := []) ⟨Nat.le_of_ble_eq_true rfl, Nat.le_of_ble_eq_true rfl⟩ rfl rfl rfl (fun I7 => ?_)
      exact rfl
set_option maxRecDepth 100000 in
theorem eX1_takeBack (N : Nat) (I : gM) : fX1_takeBack N [.ref 0, .ref 122] I = hX1_takeBack_0 N I := by
  show gFn 2 (fX1_takeBack_k0 N) [.ref 0, .ref 122] I = (fX1_takeBack_k0 N) [some (.ref 0), some (.ref 122)] [] I
  exact tt_fn rfl rfl

