def hX2_findLink_0 (N : Nat) (v1 : Int32) (v2 : Int32) (I : gM) : gO := fX2_findLink_k0 N [some (.ref 0), some (.int v1), some (.int v2), none] [] I
def hX2_findLink_2 (N : Nat) (n2 : Nat) (v1 : Int32) (v2 : Int32) (v3 : Int32) (I : gM) : gO := s_lp (fX2_findLink_b2 N) n2 [some (.ref 0), some (.int v1), some (.int v2), some (.int v3)] [] I
def hX2_findLink_32 (N : Nat) (n2 : Nat) (v1 : Int32) (v2 : Int32) (v3 : Int32) (I : gM) : gO := fX2_findLink_k32 N (s_lp (fX2_findLink_b2 N) n2) [some (.ref 0), some (.int v1), some (.int v2), some (.int v3)] [] I
set_option maxRecDepth 100000 in
theorem eX2_findLink_0 (N : Nat) (v1 : Int32) (v2 : Int32) (I : gM) : hX2_findLink_0 N v1 v2 I =
  (hX2_findLink_2 N N v1 v2 0 I) := by
  show (fX2_findLink_k0 N) [some (.ref 0), some (.int v1), some (.int v2), none] [] I = _
  unfold fX2_findLink_k0
  refine tt_const ?_
  refine tt_istore (L2 := [some (.ref 0), some (.int v1), some (.int v2), some (.int 0)]) (tt_lt rfl) rfl ?_
  refine tt_mask rfl ?_
  exact rfl
set_option maxRecDepth 100000 in
theorem eX2_findLink_2 (N : Nat) (n2 : Nat) (v1 : Int32) (v2 : Int32) (v3 : Int32) (I : gM) : hX2_findLink_2 N (n2 + 1) v1 v2 v3 I =
  (if gc_ge v3 (I 0 1) = true then (some (.inl (some (.int (-1))), I)) else (ck 14 v3 <| if gc_ne ((I 1 (Int32.toNatClampNeg v3))) v1 = true then (hX2_findLink_32 N n2 v1 v2 v3 I) else (ck 14 v3 <| if gc_ne ((I 2 (Int32.toNatClampNeg v3))) v2 = true then (hX2_findLink_32 N n2 v1 v2 v3 I) else (some (.inl (some (.int v3)), I))))) := by
  show (fX2_findLink_b2 N (s_lp (fX2_findLink_b2 N) n2)) [some (.ref 0), some (.int v1), some (.int v2), some (.int v3)] [] I = _
  unfold fX2_findLink_b2
  refine tt_iload rfl ?_
  refine tt_aload rfl ?_
  refine tt_get (x := (I 0 1)) rfl rfl rfl ?_
  refine tt_cmp ?_ ?_
  · skip
    refine tt_const ?_
    exact rfl
  · skip
    refine tt_aload rfl ?_
    refine tt_getr (q := 1) rfl rfl ?_
    refine tt_iload rfl ?_
    refine tt_ald (x := (I 1 (Int32.toNatClampNeg v3))) rfl rfl ?_
    refine tt_iload rfl ?_
    refine tt_cmp ?_ ?_
    · skip
      refine tt_mask rfl ?_
      exact rfl
    · skip
      refine tt_aload rfl ?_
      refine tt_getr (q := 2) rfl rfl ?_
      refine tt_iload rfl ?_
      refine tt_ald (x := (I 2 (Int32.toNatClampNeg v3))) rfl rfl ?_
      refine tt_iload rfl ?_
      refine tt_cmp ?_ ?_
      · skip
        refine tt_mask rfl ?_
        exact rfl
      · skip
        refine tt_iload rfl ?_
        exact rfl
theorem eX2_findLink_2z (N : Nat) (v1 : Int32) (v2 : Int32) (v3 : Int32) (I : gM) : hX2_findLink_2 N 0 v1 v2 v3 I = none := (rfl)
set_option maxRecDepth 100000 in
theorem eX2_findLink_32 (N : Nat) (n2 : Nat) (v1 : Int32) (v2 : Int32) (v3 : Int32) (I : gM) : hX2_findLink_32 N n2 v1 v2 v3 I =
  (hX2_findLink_2 N n2 v1 v2 (v3 + 1) I) := by
  show (fX2_findLink_k32 N (s_lp (fX2_findLink_b2 N) n2)) [some (.ref 0), some (.int v1), some (.int v2), some (.int v3)] [] I = _
  unfold fX2_findLink_k32
  refine tt_iinc (L2 := [some (.ref 0), some (.int v1), some (.int v2), some (.int (v3 + 1))]) rfl rfl ?_
  refine tt_mask rfl ?_
  exact rfl
set_option maxRecDepth 100000 in
theorem eX2_findLink (N : Nat) (v1 : Int32) (v2 : Int32) (I : gM) : fX2_findLink N [.ref 0, .int v1, .int v2] I = hX2_findLink_0 N v1 v2 I := by
  show gFn 4 (fX2_findLink_k0 N) [.ref 0, .int v1, .int v2] I = (fX2_findLink_k0 N) [some (.ref 0), some (.int v1), some (.int v2), none] [] I
  exact tt_fn rfl rfl

def hX2_shortenDistances_0 (N : Nat) (v1 : Int32) (v2 : Int32) (I : gM) : gO := fX2_shortenDistances_k0 N [some (.ref 0), some (.int v1), some (.int v2), none, none, none, none] [] I
def hX2_shortenDistances_2 (N : Nat) (n2 : Nat) (v1 : Int32) (v2 : Int32) (v3 : Int32) (I : gM) : gO := s_lp (fX2_shortenDistances_b2 N) n2 [some (.ref 0), some (.int v1), some (.int v2), some (.int v3), none, none, none] [] I
def hX2_shortenDistances_25 (N : Nat) (n2 : Nat) (n25 : Nat) (v1 : Int32) (v2 : Int32) (v3 : Int32) (v4 : Int32) (v5 : Int32) (I : gM) : gO := s_lp (fX2_shortenDistances_b25 N (s_lp (fX2_shortenDistances_b2 N) n2)) n25 [some (.ref 0), some (.int v1), some (.int v2), some (.int v3), some (.int v4), some (.int v5), none] [] I
def hX2_shortenDistances_81 (N : Nat) (n2 : Nat) (n25 : Nat) (v1 : Int32) (v2 : Int32) (v3 : Int32) (v4 : Int32) (v5 : Int32) (I : gM) : gO := fX2_shortenDistances_k81 N (s_lp (fX2_shortenDistances_b2 N) n2) (s_lp (fX2_shortenDistances_b25 N (s_lp (fX2_shortenDistances_b2 N) n2)) n25) [some (.ref 0), some (.int v1), some (.int v2), some (.int v3), some (.int v4), some (.int v5), none] [] I
def hX2_shortenDistances_78 (N : Nat) (n2 : Nat) (n25 : Nat) (v1 : Int32) (v2 : Int32) (v3 : Int32) (v4 : Int32) (v5 : Int32) (v6 : Int32) (s1 : Int32) (I : gM) : gO := fX2_shortenDistances_k78 N (s_lp (fX2_shortenDistances_b2 N) n2) (s_lp (fX2_shortenDistances_b25 N (s_lp (fX2_shortenDistances_b2 N) n2)) n25) [some (.ref 0), some (.int v1), some (.int v2), some (.int v3), some (.int v4), some (.int v5), some (.int v6)] [.int s1, .ref 8] I
set_option maxRecDepth 100000 in
theorem eX2_shortenDistances_0 (N : Nat) (v1 : Int32) (v2 : Int32) (I : gM) : hX2_shortenDistances_0 N v1 v2 I =
  (hX2_shortenDistances_2 N N v1 v2 0 I) := by
  show (fX2_shortenDistances_k0 N) [some (.ref 0), some (.int v1), some (.int v2), none, none, none, none] [] I = _
  unfold fX2_shortenDistances_k0
  refine tt_const ?_
  refine tt_istore (L2 := [some (.ref 0), some (.int v1), some (.int v2), some (.int 0), none, none, none]) (tt_lt rfl) rfl ?_
  refine tt_mask rfl ?_
  exact rfl
set_option maxRecDepth 100000 in
theorem eX2_shortenDistances_2 (N : Nat) (n2 : Nat) (v1 : Int32) (v2 : Int32) (v3 : Int32) (I : gM) : hX2_shortenDistances_2 N (n2 + 1) v1 v2 v3 I =
  (if gc_ge v3 (I 0 0) = true then (some (.inl none, I)) else (hI (fX8_pair N [.int v3, .int v1] (gS [] I)) [] I fun x1 I1 => ck 100 x1 <| hX2_shortenDistances_25 N n2 N v1 v2 v3 ((I1 8 (Int32.toNatClampNeg x1))) 0 I1)) := by
  show (fX2_shortenDistances_b2 N (s_lp (fX2_shortenDistances_b2 N) n2)) [some (.ref 0), some (.int v1), some (.int v2), some (.int v3), none, none, none] [] I = _
  unfold fX2_shortenDistances_b2
  refine tt_iload rfl ?_
  refine tt_aload rfl ?_
  refine tt_get (x := (I 0 0)) rfl rfl rfl ?_
  refine tt_cmp ?_ ?_
  · skip
    exact rfl
  · skip
    refine tt_aload rfl ?_
    refine tt_getr (q := 8) rfl rfl ?_
    refine tt_iload rfl ?_
    refine tt_iload rfl ?_
    refine tt_caI (t := [.ref 8]) ⟨Nat.le_of_ble_eq_true rfl, Nat.le_of_ble_eq_true rfl⟩ rfl rfl rfl (fun x1 I1 => ?_)
    refine tt_ald (x := (I1 8 (Int32.toNatClampNeg x1))) rfl rfl ?_
    refine tt_istore (L2 := [some (.ref 0), some (.int v1), some (.int v2), some (.int v3), some (.int ((I1 8 (Int32.toNatClampNeg x1)))), none, none]) (tt_lt rfl) rfl ?_
    refine tt_const ?_
    refine tt_istore (L2 := [some (.ref 0), some (.int v1), some (.int v2), some (.int v3), some (.int ((I1 8 (Int32.toNatClampNeg x1)))), some (.int 0), none]) (tt_lt rfl) rfl ?_
    refine tt_mask rfl ?_
    exact rfl
theorem eX2_shortenDistances_2z (N : Nat) (v1 : Int32) (v2 : Int32) (v3 : Int32) (I : gM) : hX2_shortenDistances_2 N 0 v1 v2 v3 I = none := (rfl)
set_option maxRecDepth 100000 in
theorem eX2_shortenDistances_25 (N : Nat) (n2 : Nat) (n25 : Nat) (v1 : Int32) (v2 : Int32) (v3 : Int32) (v4 : Int32) (v5 : Int32) (I : gM) : hX2_shortenDistances_25 N n2 (n25 + 1) v1 v2 v3 v4 v5 I =
  (if gc_ge v5 (I 0 0) = true then (hX2_shortenDistances_2 N n2 v1 v2 (v3 + 1) I) else (hI (fX8_pair N [.int v2, .int v5] (gS [] I)) [] I fun x2 I2 => ck 100 x2 <| hI (fX8_pair N [.int v3, .int v5] (gS [] I2)) [] I2 fun x3 I3 => ck 100 x3 <| if gc_ge ((gb_add (gb_add v4 1) ((I2 8 (Int32.toNatClampNeg x2))))) ((I3 8 (Int32.toNatClampNeg x3))) = true then (hX2_shortenDistances_81 N n2 n25 v1 v2 v3 v4 v5 I3) else (hI (fX8_pair N [.int v3, .int v5] (gS [] I3)) [] I3 fun x4 I4 => hX2_shortenDistances_78 N n2 n25 v1 v2 v3 v4 v5 ((gb_add (gb_add v4 1) ((I2 8 (Int32.toNatClampNeg x2))))) x4 I4))) := by
  show (fX2_shortenDistances_b25 N (s_lp (fX2_shortenDistances_b2 N) n2) (s_lp (fX2_shortenDistances_b25 N (s_lp (fX2_shortenDistances_b2 N) n2)) n25)) [some (.ref 0), some (.int v1), some (.int v2), some (.int v3), some (.int v4), some (.int v5), none] [] I = _
  unfold fX2_shortenDistances_b25
  refine tt_iload rfl ?_
  refine tt_aload rfl ?_
  refine tt_get (x := (I 0 0)) rfl rfl rfl ?_
  refine tt_cmp ?_ ?_
  · skip
    refine tt_iinc (L2 := [some (.ref 0), some (.int v1), some (.int v2), some (.int (v3 + 1)), some (.int v4), some (.int v5), none]) rfl rfl ?_
    refine tt_mask rfl ?_
    exact rfl
  · skip
    refine tt_iload rfl ?_
    refine tt_const ?_
    refine tt_bin ?_
    refine tt_aload rfl ?_
    refine tt_getr (q := 8) rfl rfl ?_
    refine tt_iload rfl ?_
    refine tt_iload rfl ?_
    refine tt_caI (t := [.ref 8, .int (gb_add v4 1)]) ⟨Nat.le_of_ble_eq_true rfl, Nat.le_of_ble_eq_true rfl⟩ rfl rfl rfl (fun x2 I2 => ?_)
    refine tt_ald (x := (I2 8 (Int32.toNatClampNeg x2))) rfl rfl ?_
    refine tt_bin ?_
    refine tt_istore (L2 := [some (.ref 0), some (.int v1), some (.int v2), some (.int v3), some (.int v4), some (.int v5), some (.int ((gb_add (gb_add v4 1) ((I2 8 (Int32.toNatClampNeg x2))))))]) (tt_lt rfl) rfl ?_
    refine tt_iload rfl ?_
    refine tt_aload rfl ?_
    refine tt_getr (q := 8) rfl rfl ?_
    refine tt_iload rfl ?_
    refine tt_iload rfl ?_
    refine tt_caI (t := [.ref 8, .int ((gb_add (gb_add v4 1) ((I2 8 (Int32.toNatClampNeg x2)))))]) ⟨Nat.le_of_ble_eq_true rfl, Nat.le_of_ble_eq_true rfl⟩ rfl rfl rfl (fun x3 I3 => ?_)
    refine tt_ald (x := (I3 8 (Int32.toNatClampNeg x3))) rfl rfl ?_
    refine tt_cmp ?_ ?_
    · skip
      refine tt_mask rfl ?_
      exact rfl
    · skip
      refine tt_aload rfl ?_
      refine tt_getr (q := 8) rfl rfl ?_
      refine tt_iload rfl ?_
      refine tt_iload rfl ?_
      refine tt_caI (t := [.ref 8]) ⟨Nat.le_of_ble_eq_true rfl, Nat.le_of_ble_eq_true rfl⟩ rfl rfl rfl (fun x4 I4 => ?_)
      refine tt_mask rfl ?_
      exact rfl
theorem eX2_shortenDistances_25z (N : Nat) (n2 : Nat) (v1 : Int32) (v2 : Int32) (v3 : Int32) (v4 : Int32) (v5 : Int32) (I : gM) : hX2_shortenDistances_25 N n2 0 v1 v2 v3 v4 v5 I = none := (rfl)
set_option maxRecDepth 100000 in
theorem eX2_shortenDistances_81 (N : Nat) (n2 : Nat) (n25 : Nat) (v1 : Int32) (v2 : Int32) (v3 : Int32) (v4 : Int32) (v5 : Int32) (I : gM) : hX2_shortenDistances_81 N n2 n25 v1 v2 v3 v4 v5 I =
  (hX2_shortenDistances_25 N n2 n25 v1 v2 v3 v4 (v5 + 1) I) := by
  show (fX2_shortenDistances_k81 N (s_lp (fX2_shortenDistances_b2 N) n2) (s_lp (fX2_shortenDistances_b25 N (s_lp (fX2_shortenDistances_b2 N) n2)) n25)) [some (.ref 0), some (.int v1), some (.int v2), some (.int v3), some (.int v4), some (.int v5), none] [] I = _
  unfold fX2_shortenDistances_k81
  refine tt_iinc (L2 := [some (.ref 0), some (.int v1), some (.int v2), some (.int v3), some (.int v4), some (.int (v5 + 1)), none]) rfl rfl ?_
  refine tt_mask rfl ?_
  exact rfl
set_option maxRecDepth 100000 in
theorem eX2_shortenDistances_78 (N : Nat) (n2 : Nat) (n25 : Nat) (v1 : Int32) (v2 : Int32) (v3 : Int32) (v4 : Int32) (v5 : Int32) (v6 : Int32) (s1 : Int32) (I : gM) : hX2_shortenDistances_78 N n2 n25 v1 v2 v3 v4 v5 v6 s1 I =
  (ck 100 s1 <| hX2_shortenDistances_81 N n2 n25 v1 v2 v3 v4 v5 (gU I 8 (Int32.toNatClampNeg s1) v6)) := by
  show (fX2_shortenDistances_k78 N (s_lp (fX2_shortenDistances_b2 N) n2) (s_lp (fX2_shortenDistances_b25 N (s_lp (fX2_shortenDistances_b2 N) n2)) n25)) [some (.ref 0), some (.int v1), some (.int v2), some (.int v3), some (.int v4), some (.int v5), some (.int v6)] [.int s1, .ref 8] I = _
  unfold fX2_shortenDistances_k78
  refine tt_iload rfl ?_
  refine tt_ast (v := v6) rfl rfl ?_
  refine tt_mask rfl ?_
  exact rfl
set_option maxRecDepth 100000 in
theorem eX2_shortenDistances (N : Nat) (v1 : Int32) (v2 : Int32) (I : gM) : fX2_shortenDistances N [.ref 0, .int v1, .int v2] I = hX2_shortenDistances_0 N v1 v2 I := by
  show gFn 7 (fX2_shortenDistances_k0 N) [.ref 0, .int v1, .int v2] I = (fX2_shortenDistances_k0 N) [some (.ref 0), some (.int v1), some (.int v2), none, none, none, none] [] I
  exact tt_fn rfl rfl

def hX2_putLink_0 (N : Nat) (v1 : Int32) (v2 : Int32) (v3 : Int32) (I : gM) : gO := fX2_putLink_k0 N [some (.ref 0), some (.int v1), some (.int v2), some (.int v3)] [] I
set_option maxRecDepth 100000 in
theorem eX2_putLink_0 (N : Nat) (v1 : Int32) (v2 : Int32) (v3 : Int32) (I : gM) : hX2_putLink_0 N v1 v2 v3 I =
  (if gc_lt (I 0 1) 14 = true then (ck 14 (I 0 1) <| ck 14 (I 0 1) <| ck 14 (I 0 1) <| ck 14 (I 0 1) <| ck 14 (I 0 1) <| hV (fX2_shortenDistances N [.ref 0, .int v1, .int v2] (gS (rg 0 9) (gU (gU (gU (gU (gU (gU I 1 ((Int32.toNatClampNeg (I 0 1))) v1) 2 ((Int32.toNatClampNeg (I 0 1))) v2) 3 ((Int32.toNatClampNeg (I 0 1))) v3) 4 ((Int32.toNatClampNeg (I 0 1))) 0) 5 ((Int32.toNatClampNeg (I 0 1))) 0) 0 1 ((gb_add (I 0 1) 1))))) (rg 0 9) (gU (gU (gU (gU (gU (gU I 1 ((Int32.toNatClampNeg (I 0 1))) v1) 2 ((Int32.toNatClampNeg (I 0 1))) v2) 3 ((Int32.toNatClampNeg (I 0 1))) v3) 4 ((Int32.toNatClampNeg (I 0 1))) 0) 5 ((Int32.toNatClampNeg (I 0 1))) 0) 0 1 ((gb_add (I 0 1) 1))) fun I1 => some (.inl none, I1)) else (some (.inl none, I))) := by
  show (fX2_putLink_k0 N) [some (.ref 0), some (.int v1), some (.int v2), some (.int v3)] [] I = _
  unfold fX2_putLink_k0
  refine tt_aload rfl ?_
  refine tt_get (x := (I 0 1)) rfl rfl rfl ?_
  refine tt_const ?_
  refine tt_cmp ?_ ?_
  · skip
    refine tt_aload rfl ?_
    refine tt_getr (q := 1) rfl rfl ?_
    refine tt_aload rfl ?_
    refine tt_get (x := (I 0 1)) rfl rfl rfl ?_
    refine tt_iload rfl ?_
    refine tt_ast (v := v1) rfl rfl ?_
    refine tt_aload rfl ?_
    refine tt_getr (q := 2) rfl rfl ?_
    refine tt_aload rfl ?_
    refine tt_get (x := (I 0 1)) rfl rfl rfl ?_
    refine tt_iload rfl ?_
    refine tt_ast (v := v2) rfl rfl ?_
    refine tt_aload rfl ?_
    refine tt_getr (q := 3) rfl rfl ?_
    refine tt_aload rfl ?_
    refine tt_get (x := (I 0 1)) rfl rfl rfl ?_
    refine tt_iload rfl ?_
    refine tt_ast (v := v3) rfl rfl ?_
    refine tt_aload rfl ?_
    refine tt_getr (q := 4) rfl rfl ?_
    refine tt_aload rfl ?_
    refine tt_get (x := (I 0 1)) rfl rfl rfl ?_
    refine tt_const ?_
    refine tt_ast (v := 0) rfl rfl ?_
    refine tt_aload rfl ?_
    refine tt_getr (q := 5) rfl rfl ?_
    refine tt_aload rfl ?_
    refine tt_get (x := (I 0 1)) rfl rfl rfl ?_
    refine tt_const ?_
    refine tt_ast (v := 0) rfl rfl ?_
    refine tt_aload rfl ?_
    refine tt_dup rfl ?_
    refine tt_get (x := (I 0 1)) rfl rfl rfl ?_
    refine tt_const ?_
    refine tt_bin ?_
    refine tt_put rfl rfl ?_
    refine tt_aload rfl ?_
    refine tt_iload rfl ?_
    refine tt_iload rfl ?_
    refine tt_cavV (t := []) ⟨Nat.le_of_ble_eq_true rfl, Nat.le_of_ble_eq_true rfl⟩ rfl rfl rfl (fun I1 => ?_)
    exact rfl
  · skip
    exact rfl
set_option maxRecDepth 100000 in
theorem eX2_putLink (N : Nat) (v1 : Int32) (v2 : Int32) (v3 : Int32) (I : gM) : fX2_putLink N [.ref 0, .int v1, .int v2, .int v3] I = hX2_putLink_0 N v1 v2 v3 I := by
  show gFn 4 (fX2_putLink_k0 N) [.ref 0, .int v1, .int v2, .int v3] I = (fX2_putLink_k0 N) [some (.ref 0), some (.int v1), some (.int v2), some (.int v3)] [] I
  exact tt_fn rfl rfl

def hX2_inConflict_0 (N : Nat) (v1 : Int32) (v2 : Int32) (I : gM) : gO := fX2_inConflict_k0 N [some (.ref 0), some (.int v1), some (.int v2)] [] I
set_option maxRecDepth 100000 in
theorem eX2_inConflict_0 (N : Nat) (v1 : Int32) (v2 : Int32) (I : gM) : hX2_inConflict_0 N v1 v2 I =
  (ck 14 v1 <| if gc_ne ((gb_and ((gb_shr ((I 5 (Int32.toNatClampNeg v1))) v2)) 1)) 1 = true then (some (.inl (some (.int 0)), I)) else (some (.inl (some (.int 1)), I))) := by
  show (fX2_inConflict_k0 N) [some (.ref 0), some (.int v1), some (.int v2)] [] I = _
  unfold fX2_inConflict_k0
  refine tt_aload rfl ?_
  refine tt_getr (q := 5) rfl rfl ?_
  refine tt_iload rfl ?_
  refine tt_ald (x := (I 5 (Int32.toNatClampNeg v1))) rfl rfl ?_
  refine tt_iload rfl ?_
  refine tt_bin ?_
  refine tt_const ?_
  refine tt_bin ?_
  refine tt_const ?_
  refine tt_cmp ?_ ?_
  · skip
    refine tt_const ?_
    exact tt_zret (by decide)
  · skip
    refine tt_const ?_
    exact tt_zret (by decide)
set_option maxRecDepth 100000 in
theorem eX2_inConflict (N : Nat) (v1 : Int32) (v2 : Int32) (I : gM) : fX2_inConflict N [.ref 0, .int v1, .int v2] I = hX2_inConflict_0 N v1 v2 I := by
  show gFn 3 (fX2_inConflict_k0 N) [.ref 0, .int v1, .int v2] I = (fX2_inConflict_k0 N) [some (.ref 0), some (.int v1), some (.int v2)] [] I
  exact tt_fn rfl rfl

def hX2_putConflict_0 (N : Nat) (v1 : Int32) (v2 : Int32) (v3 : Int32) (I : gM) : gO := fX2_putConflict_k0 N [some (.ref 0), some (.int v1), some (.int v2), some (.int v3)] [] I
set_option maxRecDepth 100000 in
theorem eX2_putConflict_0 (N : Nat) (v1 : Int32) (v2 : Int32) (v3 : Int32) (I : gM) : hX2_putConflict_0 N v1 v2 v3 I =
  (if gz_eq v3 = true then (ck 14 v1 <| ck 14 v1 <| ck 14 v2 <| ck 14 v2 <| some (.inl none, (gU (gU I 5 (Int32.toNatClampNeg v1) ((gb_and ((I 5 (Int32.toNatClampNeg v1))) ((gb_xor (gb_shl 1 v2) (-1)))))) 5 (Int32.toNatClampNeg v2) ((gb_and (((gU I 5 (Int32.toNatClampNeg v1) ((gb_and ((I 5 (Int32.toNatClampNeg v1))) ((gb_xor (gb_shl 1 v2) (-1)))))) 5 (Int32.toNatClampNeg v2))) ((gb_xor (gb_shl 1 v1) (-1)))))))) else (ck 14 v1 <| ck 14 v1 <| ck 14 v2 <| ck 14 v2 <| some (.inl none, (gU (gU I 5 (Int32.toNatClampNeg v1) ((gb_or ((I 5 (Int32.toNatClampNeg v1))) (gb_shl 1 v2)))) 5 (Int32.toNatClampNeg v2) ((gb_or (((gU I 5 (Int32.toNatClampNeg v1) ((gb_or ((I 5 (Int32.toNatClampNeg v1))) (gb_shl 1 v2)))) 5 (Int32.toNatClampNeg v2))) (gb_shl 1 v1))))))) := by
  show (fX2_putConflict_k0 N) [some (.ref 0), some (.int v1), some (.int v2), some (.int v3)] [] I = _
  unfold fX2_putConflict_k0
  refine tt_iload rfl ?_
  refine tt_if ?_ ?_
  · skip
    refine tt_aload rfl ?_
    refine tt_getr (q := 5) rfl rfl ?_
    refine tt_iload rfl ?_
    refine tt_dup2 rfl rfl ?_
    refine tt_ald (x := (I 5 (Int32.toNatClampNeg v1))) rfl rfl ?_
    refine tt_const ?_
    refine tt_iload rfl ?_
    refine tt_bin ?_
    refine tt_const ?_
    refine tt_bin ?_
    refine tt_bin ?_
    refine tt_ast (v := (gb_and ((I 5 (Int32.toNatClampNeg v1))) ((gb_xor (gb_shl 1 v2) (-1))))) rfl rfl ?_
    refine tt_aload rfl ?_
    refine tt_getr (q := 5) rfl rfl ?_
    refine tt_iload rfl ?_
    refine tt_dup2 rfl rfl ?_
    refine tt_ald (x := ((gU I 5 (Int32.toNatClampNeg v1) ((gb_and ((I 5 (Int32.toNatClampNeg v1))) ((gb_xor (gb_shl 1 v2) (-1)))))) 5 (Int32.toNatClampNeg v2))) rfl rfl ?_
    refine tt_const ?_
    refine tt_iload rfl ?_
    refine tt_bin ?_
    refine tt_const ?_
    refine tt_bin ?_
    refine tt_bin ?_
    refine tt_ast (v := (gb_and (((gU I 5 (Int32.toNatClampNeg v1) ((gb_and ((I 5 (Int32.toNatClampNeg v1))) ((gb_xor (gb_shl 1 v2) (-1)))))) 5 (Int32.toNatClampNeg v2))) ((gb_xor (gb_shl 1 v1) (-1))))) rfl rfl ?_
    exact rfl
  · skip
    refine tt_aload rfl ?_
    refine tt_getr (q := 5) rfl rfl ?_
    refine tt_iload rfl ?_
    refine tt_dup2 rfl rfl ?_
    refine tt_ald (x := (I 5 (Int32.toNatClampNeg v1))) rfl rfl ?_
    refine tt_const ?_
    refine tt_iload rfl ?_
    refine tt_bin ?_
    refine tt_bin ?_
    refine tt_ast (v := (gb_or ((I 5 (Int32.toNatClampNeg v1))) (gb_shl 1 v2))) rfl rfl ?_
    refine tt_aload rfl ?_
    refine tt_getr (q := 5) rfl rfl ?_
    refine tt_iload rfl ?_
    refine tt_dup2 rfl rfl ?_
    refine tt_ald (x := ((gU I 5 (Int32.toNatClampNeg v1) ((gb_or ((I 5 (Int32.toNatClampNeg v1))) (gb_shl 1 v2)))) 5 (Int32.toNatClampNeg v2))) rfl rfl ?_
    refine tt_const ?_
    refine tt_iload rfl ?_
    refine tt_bin ?_
    refine tt_bin ?_
    refine tt_ast (v := (gb_or (((gU I 5 (Int32.toNatClampNeg v1) ((gb_or ((I 5 (Int32.toNatClampNeg v1))) (gb_shl 1 v2)))) 5 (Int32.toNatClampNeg v2))) (gb_shl 1 v1))) rfl rfl ?_
    exact rfl
set_option maxRecDepth 100000 in
theorem eX2_putConflict (N : Nat) (v1 : Int32) (v2 : Int32) (v3 : Int32) (I : gM) : fX2_putConflict N [.ref 0, .int v1, .int v2, .int v3] I = hX2_putConflict_0 N v1 v2 v3 I := by
  show gFn 4 (fX2_putConflict_k0 N) [.ref 0, .int v1, .int v2, .int v3] I = (fX2_putConflict_k0 N) [some (.ref 0), some (.int v1), some (.int v2), some (.int v3)] [] I
  exact tt_fn rfl rfl

def hX2_getNumber_0 (N : Nat) (v1 : Int32) (v2 : Int32) (I : gM) : gO := fX2_getNumber_k0 N [some (.ref 0), some (.int v1), some (.int v2)] [] I
set_option maxRecDepth 100000 in
theorem eX2_getNumber_0 (N : Nat) (v1 : Int32) (v2 : Int32) (I : gM) : hX2_getNumber_0 N v1 v2 I =
  (ck 66 ((gb_add (gb_mul v1 11) v2)) <| some (.inl (some (.int ((I 7 ((Int32.toNatClampNeg ((gb_add (gb_mul v1 11) v2)))))))), I)) := by
  show (fX2_getNumber_k0 N) [some (.ref 0), some (.int v1), some (.int v2)] [] I = _
  unfold fX2_getNumber_k0
  refine tt_aload rfl ?_
  refine tt_getr (q := 7) rfl rfl ?_
  refine tt_iload rfl ?_
  refine tt_const ?_
  refine tt_bin ?_
  refine tt_iload rfl ?_
  refine tt_bin ?_
  refine tt_ald (x := (I 7 ((Int32.toNatClampNeg ((gb_add (gb_mul v1 11) v2)))))) rfl rfl ?_
  exact rfl
set_option maxRecDepth 100000 in
theorem eX2_getNumber (N : Nat) (v1 : Int32) (v2 : Int32) (I : gM) : fX2_getNumber N [.ref 0, .int v1, .int v2] I = hX2_getNumber_0 N v1 v2 I := by
  show gFn 3 (fX2_getNumber_k0 N) [.ref 0, .int v1, .int v2] I = (fX2_getNumber_k0 N) [some (.ref 0), some (.int v1), some (.int v2)] [] I
  exact tt_fn rfl rfl

def hX2_putNumber_0 (N : Nat) (v1 : Int32) (v2 : Int32) (v3 : Int32) (I : gM) : gO := fX2_putNumber_k0 N [some (.ref 0), some (.int v1), some (.int v2), some (.int v3)] [] I
set_option maxRecDepth 100000 in
theorem eX2_putNumber_0 (N : Nat) (v1 : Int32) (v2 : Int32) (v3 : Int32) (I : gM) : hX2_putNumber_0 N v1 v2 v3 I =
  (ck 66 ((gb_add (gb_mul v1 11) v2)) <| some (.inl none, (gU I 7 ((Int32.toNatClampNeg ((gb_add (gb_mul v1 11) v2)))) v3))) := by
  show (fX2_putNumber_k0 N) [some (.ref 0), some (.int v1), some (.int v2), some (.int v3)] [] I = _
  unfold fX2_putNumber_k0
  refine tt_aload rfl ?_
  refine tt_getr (q := 7) rfl rfl ?_
  refine tt_iload rfl ?_
  refine tt_const ?_
  refine tt_bin ?_
  refine tt_iload rfl ?_
  refine tt_bin ?_
  refine tt_iload rfl ?_
  refine tt_ast (v := v3) rfl rfl ?_
  exact rfl
set_option maxRecDepth 100000 in
theorem eX2_putNumber (N : Nat) (v1 : Int32) (v2 : Int32) (v3 : Int32) (I : gM) : fX2_putNumber N [.ref 0, .int v1, .int v2, .int v3] I = hX2_putNumber_0 N v1 v2 v3 I := by
  show gFn 4 (fX2_putNumber_k0 N) [.ref 0, .int v1, .int v2, .int v3] I = (fX2_putNumber_k0 N) [some (.ref 0), some (.int v1), some (.int v2), some (.int v3)] [] I
  exact tt_fn rfl rfl

def hX2_addNumber_0 (N : Nat) (v1 : Int32) (v2 : Int32) (v3 : Int32) (I : gM) : gO := fX2_addNumber_k0 N [some (.ref 0), some (.int v1), some (.int v2), some (.int v3)] [] I
set_option maxRecDepth 100000 in
theorem eX2_addNumber_0 (N : Nat) (v1 : Int32) (v2 : Int32) (v3 : Int32) (I : gM) : hX2_addNumber_0 N v1 v2 v3 I =
  (ck 66 ((gb_add (gb_mul v1 11) v2)) <| ck 66 ((gb_add (gb_mul v1 11) v2)) <| some (.inl none, (gU I 7 ((Int32.toNatClampNeg ((gb_add (gb_mul v1 11) v2)))) ((gb_add ((I 7 ((Int32.toNatClampNeg ((gb_add (gb_mul v1 11) v2)))))) v3))))) := by
  show (fX2_addNumber_k0 N) [some (.ref 0), some (.int v1), some (.int v2), some (.int v3)] [] I = _
  unfold fX2_addNumber_k0
  refine tt_aload rfl ?_
  refine tt_getr (q := 7) rfl rfl ?_
  refine tt_iload rfl ?_
  refine tt_const ?_
  refine tt_bin ?_
  refine tt_iload rfl ?_
  refine tt_bin ?_
  refine tt_dup2 rfl rfl ?_
  refine tt_ald (x := (I 7 ((Int32.toNatClampNeg ((gb_add (gb_mul v1 11) v2)))))) rfl rfl ?_
  refine tt_iload rfl ?_
  refine tt_bin ?_
  refine tt_ast (v := (gb_add ((I 7 ((Int32.toNatClampNeg ((gb_add (gb_mul v1 11) v2)))))) v3)) rfl rfl ?_
  exact rfl
set_option maxRecDepth 100000 in
theorem eX2_addNumber (N : Nat) (v1 : Int32) (v2 : Int32) (v3 : Int32) (I : gM) : fX2_addNumber N [.ref 0, .int v1, .int v2, .int v3] I = hX2_addNumber_0 N v1 v2 v3 I := by
  show gFn 4 (fX2_addNumber_k0 N) [.ref 0, .int v1, .int v2, .int v3] I = (fX2_addNumber_k0 N) [some (.ref 0), some (.int v1), some (.int v2), some (.int v3)] [] I
  exact tt_fn rfl rfl

def hX2_putFlow_0 (N : Nat) (v1 : Int32) (v2 : Int32) (v3 : Int32) (v4 : Int32) (I : gM) : gO := fX2_putFlow_k0 N [some (.ref 0), some (.int v1), some (.int v2), some (.int v3), some (.int v4), none, none] [] I
def hX2_putFlow_29 (N : Nat) (n29 : Nat) (v1 : Int32) (v2 : Int32) (v3 : Int32) (v4 : Int32) (v5 : Int32) (v6 : Int32) (I : gM) : gO := s_lp (fX2_putFlow_b29 N) n29 [some (.ref 0), some (.int v1), some (.int v2), some (.int v3), some (.int v4), some (.int v5), some (.int v6)] [] I
def hX2_putFlow_67 (N : Nat) (v3 : Int32) (v4 : Int32) (v5 : Int32) (I : gM) : gO := fX2_putFlow_k67 N [some (.ref 0), none, none, some (.int v3), some (.int v4), some (.int v5), none] [] I
set_option maxRecDepth 100000 in
theorem eX2_putFlow_0 (N : Nat) (v1 : Int32) (v2 : Int32) (v3 : Int32) (v4 : Int32) (I : gM) : hX2_putFlow_0 N v1 v2 v3 v4 I =
  (if gc_lt (I 0 2) 6 = true then (hX2_putFlow_29 N N v1 v2 v3 v4 (I 0 2) 0 (gU I 0 2 ((gb_add (I 0 2) 1)))) else (some (.inl none, I))) := by
  show (fX2_putFlow_k0 N) [some (.ref 0), some (.int v1), some (.int v2), some (.int v3), some (.int v4), none, none] [] I = _
  unfold fX2_putFlow_k0
  refine tt_aload rfl ?_
  refine tt_get (x := (I 0 2)) rfl rfl rfl ?_
  refine tt_const ?_
  refine tt_cmp ?_ ?_
  · skip
    refine tt_aload rfl ?_
    refine tt_get (x := (I 0 2)) rfl rfl rfl ?_
    refine tt_istore (L2 := [some (.ref 0), some (.int v1), some (.int v2), some (.int v3), some (.int v4), some (.int (I 0 2)), none]) (tt_lt rfl) rfl ?_
    refine tt_aload rfl ?_
    refine tt_dup rfl ?_
    refine tt_get (x := (I 0 2)) rfl rfl rfl ?_
    refine tt_const ?_
    refine tt_bin ?_
    refine tt_put rfl rfl ?_
    refine tt_const ?_
    refine tt_istore (L2 := [some (.ref 0), some (.int v1), some (.int v2), some (.int v3), some (.int v4), some (.int (I 0 2)), some (.int 0)]) (tt_lt rfl) rfl ?_
    refine tt_mask rfl ?_
    exact rfl
  · skip
    exact rfl
set_option maxRecDepth 100000 in
theorem eX2_putFlow_29 (N : Nat) (n29 : Nat) (v1 : Int32) (v2 : Int32) (v3 : Int32) (v4 : Int32) (v5 : Int32) (v6 : Int32) (I : gM) : hX2_putFlow_29 N (n29 + 1) v1 v2 v3 v4 v5 v6 I =
  (if gc_ge v6 11 = true then (hV (fX2_putNumber N [.ref 0, .int v5, .int 0, .int v1] (gS (rg 0 9) I)) (rg 0 9) I fun I1 => hV (fX2_putNumber N [.ref 0, .int v5, .int 1, .int v2] (gS (rg 0 9) I1)) (rg 0 9) I1 fun I2 => hX2_putFlow_67 N v3 v4 v5 I2) else (hV (fX2_putNumber N [.ref 0, .int v5, .int v6, .int 0] (gS (rg 0 9) I)) (rg 0 9) I fun I3 => hX2_putFlow_29 N n29 v1 v2 v3 v4 v5 (v6 + 1) I3)) := by
  show (fX2_putFlow_b29 N (s_lp (fX2_putFlow_b29 N) n29)) [some (.ref 0), some (.int v1), some (.int v2), some (.int v3), some (.int v4), some (.int v5), some (.int v6)] [] I = _
  unfold fX2_putFlow_b29
  refine tt_iload rfl ?_
  refine tt_const ?_
  refine tt_cmp ?_ ?_
  · skip
    refine tt_aload rfl ?_
    refine tt_iload rfl ?_
    refine tt_const ?_
    refine tt_iload rfl ?_
    refine tt_cavV (t := []) ⟨Nat.le_of_ble_eq_true rfl, Nat.le_of_ble_eq_true rfl⟩ rfl rfl rfl (fun I1 => ?_)
    refine tt_aload rfl ?_
    refine tt_iload rfl ?_
    refine tt_const ?_
    refine tt_iload rfl ?_
    refine tt_cavV (t := []) ⟨Nat.le_of_ble_eq_true rfl, Nat.le_of_ble_eq_true rfl⟩ rfl rfl rfl (fun I2 => ?_)
    refine tt_mask rfl ?_
    exact rfl
  · skip
    refine tt_aload rfl ?_
    refine tt_iload rfl ?_
    refine tt_iload rfl ?_
    refine tt_const ?_
    refine tt_cavV (t := []) ⟨Nat.le_of_ble_eq_true rfl, Nat.le_of_ble_eq_true rfl⟩ rfl rfl rfl (fun I3 => ?_)
    refine tt_iinc (L2 := [some (.ref 0), some (.int v1), some (.int v2), some (.int v3), some (.int v4), some (.int v5), some (.int (v6 + 1))]) rfl rfl ?_
    refine tt_mask rfl ?_
    exact rfl
theorem eX2_putFlow_29z (N : Nat) (v1 : Int32) (v2 : Int32) (v3 : Int32) (v4 : Int32) (v5 : Int32) (v6 : Int32) (I : gM) : hX2_putFlow_29 N 0 v1 v2 v3 v4 v5 v6 I = none := (rfl)
set_option maxRecDepth 100000 in
theorem eX2_putFlow_67 (N : Nat) (v3 : Int32) (v4 : Int32) (v5 : Int32) (I : gM) : hX2_putFlow_67 N v3 v4 v5 I =
  (hV (fX2_putNumber N [.ref 0, .int v5, .int 2, .int v3] (gS (rg 0 9) I)) (rg 0 9) I fun I4 => hV (fX2_putNumber N [.ref 0, .int v5, .int 3, .int v4] (gS (rg 0 9) I4)) (rg 0 9) I4 fun I5 => some (.inl none, I5)) := by
  show (fX2_putFlow_k67 N) [some (.ref 0), none, none, some (.int v3), some (.int v4), some (.int v5), none] [] I = _
  unfold fX2_putFlow_k67
  refine tt_aload rfl ?_
  refine tt_iload rfl ?_
  refine tt_const ?_
  refine tt_iload rfl ?_
  refine tt_cavV (t := []) ⟨Nat.le_of_ble_eq_true rfl, Nat.le_of_ble_eq_true rfl⟩ rfl rfl rfl (fun I4 => ?_)
  refine tt_aload rfl ?_
  refine tt_iload rfl ?_
  refine tt_const ?_
  refine tt_iload rfl ?_
  refine tt_cavV (t := []) ⟨Nat.le_of_ble_eq_true rfl, Nat.le_of_ble_eq_true rfl⟩ rfl rfl rfl (fun I5 => ?_)
  exact rfl
set_option maxRecDepth 100000 in
theorem eX2_putFlow (N : Nat) (v1 : Int32) (v2 : Int32) (v3 : Int32) (v4 : Int32) (I : gM) : fX2_putFlow N [.ref 0, .int v1, .int v2, .int v3, .int v4] I = hX2_putFlow_0 N v1 v2 v3 v4 I := by
  show gFn 7 (fX2_putFlow_k0 N) [.ref 0, .int v1, .int v2, .int v3, .int v4] I = (fX2_putFlow_k0 N) [some (.ref 0), some (.int v1), some (.int v2), some (.int v3), some (.int v4), none, none] [] I
  exact tt_fn rfl rfl

def hX2_sumNumber_0 (N : Nat) (v1 : Int32) (I : gM) : gO := fX2_sumNumber_k0 N [some (.ref 0), some (.int v1), none, none] [] I
def hX2_sumNumber_4 (N : Nat) (n4 : Nat) (v1 : Int32) (v2 : Int32) (v3 : Int32) (I : gM) : gO := s_lp (fX2_sumNumber_b4 N) n4 [some (.ref 0), some (.int v1), some (.int v2), some (.int v3)] [] I
set_option maxRecDepth 100000 in
theorem eX2_sumNumber_0 (N : Nat) (v1 : Int32) (I : gM) : hX2_sumNumber_0 N v1 I =
  (hX2_sumNumber_4 N N v1 0 0 I) := by
  show (fX2_sumNumber_k0 N) [some (.ref 0), some (.int v1), none, none] [] I = _
  unfold fX2_sumNumber_k0
  refine tt_const ?_
  refine tt_istore (L2 := [some (.ref 0), some (.int v1), some (.int 0), none]) (tt_lt rfl) rfl ?_
  refine tt_const ?_
  refine tt_istore (L2 := [some (.ref 0), some (.int v1), some (.int 0), some (.int 0)]) (tt_lt rfl) rfl ?_
  refine tt_mask rfl ?_
  exact rfl
set_option maxRecDepth 100000 in
theorem eX2_sumNumber_4 (N : Nat) (n4 : Nat) (v1 : Int32) (v2 : Int32) (v3 : Int32) (I : gM) : hX2_sumNumber_4 N (n4 + 1) v1 v2 v3 I =
  (if gc_ge v3 (I 0 2) = true then (some (.inl (some (.int v2)), I)) else (hI (fX2_getNumber N [.ref 0, .int v3, .int v1] (gS (rg 0 9) I)) (rg 0 9) I fun x1 I1 => hX2_sumNumber_4 N n4 v1 (gb_add v2 x1) (v3 + 1) I1)) := by
  show (fX2_sumNumber_b4 N (s_lp (fX2_sumNumber_b4 N) n4)) [some (.ref 0), some (.int v1), some (.int v2), some (.int v3)] [] I = _
  unfold fX2_sumNumber_b4
  refine tt_iload rfl ?_
  refine tt_aload rfl ?_
  refine tt_get (x := (I 0 2)) rfl rfl rfl ?_
  refine tt_cmp ?_ ?_
  · skip
    refine tt_iload rfl ?_
    exact rfl
  · skip
    refine tt_iload rfl ?_
    refine tt_aload rfl ?_
    refine tt_iload rfl ?_
    refine tt_iload rfl ?_
    refine tt_cavI (t := [.int v2]) ⟨Nat.le_of_ble_eq_true rfl, Nat.le_of_ble_eq_true rfl⟩ rfl rfl rfl (fun x1 I1 => ?_)
    refine tt_bin ?_
    refine tt_istore (L2 := [some (.ref 0), some (.int v1), some (.int (gb_add v2 x1)), some (.int v3)]) (tt_lt rfl) rfl ?_
    refine tt_iinc (L2 := [some (.ref 0), some (.int v1), some (.int (gb_add v2 x1)), some (.int (v3 + 1))]) rfl rfl ?_
    refine tt_mask rfl ?_
    exact rfl
theorem eX2_sumNumber_4z (N : Nat) (v1 : Int32) (v2 : Int32) (v3 : Int32) (I : gM) : hX2_sumNumber_4 N 0 v1 v2 v3 I = none := (rfl)
set_option maxRecDepth 100000 in
theorem eX2_sumNumber (N : Nat) (v1 : Int32) (I : gM) : fX2_sumNumber N [.ref 0, .int v1] I = hX2_sumNumber_0 N v1 I := by
  show gFn 4 (fX2_sumNumber_k0 N) [.ref 0, .int v1] I = (fX2_sumNumber_k0 N) [some (.ref 0), some (.int v1), none, none] [] I
  exact tt_fn rfl rfl

def hX2_hasBudget_0 (N : Nat) (I : gM) : gO := fX2_hasBudget_k0 N [some (.ref 0), none] [] I
def hX2_hasBudget_2 (N : Nat) (n2 : Nat) (v1 : Int32) (I : gM) : gO := s_lp (fX2_hasBudget_b2 N) n2 [some (.ref 0), some (.int v1)] [] I
set_option maxRecDepth 100000 in
theorem eX2_hasBudget_0 (N : Nat) (I : gM) : hX2_hasBudget_0 N I =
  (hX2_hasBudget_2 N N 0 I) := by
  show (fX2_hasBudget_k0 N) [some (.ref 0), none] [] I = _
  unfold fX2_hasBudget_k0
  refine tt_const ?_
  refine tt_istore (L2 := [some (.ref 0), some (.int 0)]) (tt_lt rfl) rfl ?_
  refine tt_mask rfl ?_
  exact rfl
set_option maxRecDepth 100000 in
theorem eX2_hasBudget_2 (N : Nat) (n2 : Nat) (v1 : Int32) (I : gM) : hX2_hasBudget_2 N (n2 + 1) v1 I =
  (if gc_ge v1 (I 0 2) = true then (some (.inl (some (.int 0)), I)) else (hI (fX2_getNumber N [.ref 0, .int v1, .int 3] (gS (rg 0 9) I)) (rg 0 9) I fun x1 I1 => if gz_le x1 = true then (hX2_hasBudget_2 N n2 (v1 + 1) I1) else (some (.inl (some (.int 1)), I1)))) := by
  show (fX2_hasBudget_b2 N (s_lp (fX2_hasBudget_b2 N) n2)) [some (.ref 0), some (.int v1)] [] I = _
  unfold fX2_hasBudget_b2
  refine tt_iload rfl ?_
  refine tt_aload rfl ?_
  refine tt_get (x := (I 0 2)) rfl rfl rfl ?_
  refine tt_cmp ?_ ?_
  · skip
    refine tt_const ?_
    exact tt_zret (by decide)
  · skip
    refine tt_aload rfl ?_
    refine tt_iload rfl ?_
    refine tt_const ?_
    refine tt_cavI (t := []) ⟨Nat.le_of_ble_eq_true rfl, Nat.le_of_ble_eq_true rfl⟩ rfl rfl rfl (fun x1 I1 => ?_)
    refine tt_if ?_ ?_
    · skip
      refine tt_iinc (L2 := [some (.ref 0), some (.int (v1 + 1))]) rfl rfl ?_
      refine tt_mask rfl ?_
      exact rfl
    · skip
      refine tt_const ?_
      exact tt_zret (by decide)
theorem eX2_hasBudget_2z (N : Nat) (v1 : Int32) (I : gM) : hX2_hasBudget_2 N 0 v1 I = none := (rfl)
set_option maxRecDepth 100000 in
theorem eX2_hasBudget (N : Nat) (I : gM) : fX2_hasBudget N [.ref 0] I = hX2_hasBudget_0 N I := by
  show gFn 2 (fX2_hasBudget_k0 N) [.ref 0] I = (fX2_hasBudget_k0 N) [some (.ref 0), none] [] I
  exact tt_fn rfl rfl

def hX2_clear_0 (N : Nat) (v1 : Int32) (I : gM) : gO := fX2_clear_k0 N [some (.ref 0), some (.int v1), none] [] I
def hX2_clear_41 (N : Nat) (n41 : Nat) (v1 : Int32) (v2 : Int32) (I : gM) : gO := s_lp (fX2_clear_b41 N) n41 [some (.ref 0), some (.int v1), some (.int v2)] [] I
set_option maxRecDepth 100000 in
theorem eX2_clear_0 (N : Nat) (v1 : Int32) (I : gM) : hX2_clear_0 N v1 I =
  (hV (fJF_fill N 4 [.ref 0, .int 0] (gS [6] (gU (gU (gU I 0 0 v1) 0 1 0) 0 2 0))) [6] (gU (gU (gU I 0 0 v1) 0 1 0) 0 2 0) fun I1 => ck 4 1 <| hV (fJF_fill N 100 [.ref 0, .int v1] (gS [8] (gU I1 6 (Int32.toNatClampNeg 1) 10))) [8] (gU I1 6 (Int32.toNatClampNeg 1) 10) fun I2 => hX2_clear_41 N N v1 0 I2) := by
  show (fX2_clear_k0 N) [some (.ref 0), some (.int v1), none] [] I = _
  unfold fX2_clear_k0
  refine tt_aload rfl ?_
  refine tt_iload rfl ?_
  refine tt_put rfl rfl ?_
  refine tt_aload rfl ?_
  refine tt_const ?_
  refine tt_put rfl rfl ?_
  refine tt_aload rfl ?_
  refine tt_const ?_
  refine tt_put rfl rfl ?_
  refine tt_aload rfl ?_
  refine tt_getr (q := 6) rfl rfl ?_
  refine tt_const ?_
  refine tt_caV (t := []) ⟨Nat.le_of_ble_eq_true rfl, Nat.le_of_ble_eq_true rfl⟩ rfl rfl rfl (fun I1 => ?_)
  refine tt_aload rfl ?_
  refine tt_getr (q := 6) rfl rfl ?_
  refine tt_const ?_
  refine tt_const ?_
  refine tt_ast (v := 10) rfl rfl ?_
  refine tt_aload rfl ?_
  refine tt_getr (q := 8) rfl rfl ?_
  refine tt_iload rfl ?_
  refine tt_caV (t := []) ⟨Nat.le_of_ble_eq_true rfl, Nat.le_of_ble_eq_true rfl⟩ rfl rfl rfl (fun I2 => ?_)
  refine tt_const ?_
  refine tt_istore (L2 := [some (.ref 0), some (.int v1), some (.int 0)]) (tt_lt rfl) rfl ?_
  refine tt_mask rfl ?_
  exact rfl
set_option maxRecDepth 100000 in
theorem eX2_clear_41 (N : Nat) (n41 : Nat) (v1 : Int32) (v2 : Int32) (I : gM) : hX2_clear_41 N (n41 + 1) v1 v2 I =
  (if gc_ge v2 v1 = true then (some (.inl none, I)) else (hI (fX8_pair N [.int v2, .int v2] (gS [] I)) [] I fun x3 I3 => ck 100 x3 <| hX2_clear_41 N n41 v1 (v2 + 1) (gU I3 8 (Int32.toNatClampNeg x3) 0))) := by
  show (fX2_clear_b41 N (s_lp (fX2_clear_b41 N) n41)) [some (.ref 0), some (.int v1), some (.int v2)] [] I = _
  unfold fX2_clear_b41
  refine tt_iload rfl ?_
  refine tt_iload rfl ?_
  refine tt_cmp ?_ ?_
  · skip
    exact rfl
  · skip
    refine tt_aload rfl ?_
    refine tt_getr (q := 8) rfl rfl ?_
    refine tt_iload rfl ?_
    refine tt_iload rfl ?_
    refine tt_caI (t := [.ref 8]) ⟨Nat.le_of_ble_eq_true rfl, Nat.le_of_ble_eq_true rfl⟩ rfl rfl rfl (fun x3 I3 => ?_)
    refine tt_const ?_
    refine tt_ast (v := 0) rfl rfl ?_
    refine tt_iinc (L2 := [some (.ref 0), some (.int v1), some (.int (v2 + 1))]) rfl rfl ?_
    refine tt_mask rfl ?_
    exact rfl
theorem eX2_clear_41z (N : Nat) (v1 : Int32) (v2 : Int32) (I : gM) : hX2_clear_41 N 0 v1 v2 I = none := (rfl)
set_option maxRecDepth 100000 in
theorem eX2_clear (N : Nat) (v1 : Int32) (I : gM) : fX2_clear N [.ref 0, .int v1] I = hX2_clear_0 N v1 I := by
  show gFn 3 (fX2_clear_k0 N) [.ref 0, .int v1] I = (fX2_clear_k0 N) [some (.ref 0), some (.int v1), none] [] I
  exact tt_fn rfl rfl

def hX2_copyFrom_0 (N : Nat) (I : gM) : gO := fX2_copyFrom_k0 N [some (.ref 0), some (.ref 9)] [] I
def hX2_copyFrom_63 (N : Nat) (I : gM) : gO := fX2_copyFrom_k63 N [some (.ref 0), some (.ref 9)] [] I
def hX2_copyFrom_101 (N : Nat) (I : gM) : gO := fX2_copyFrom_k101 N [some (.ref 0), some (.ref 9)] [] I
set_option maxRecDepth 100000 in
theorem eX2_copyFrom_0 (N : Nat) (I : gM) : hX2_copyFrom_0 N I =
  (hV (fX8_copyRow N 14 14 [.ref 0, .ref 1, .int 14] (gS [10, 1] (gU (gU (gU I 0 0 (I 9 0)) 0 1 (I 9 1)) 0 2 (I 9 2)))) [10, 1] (gU (gU (gU I 0 0 (I 9 0)) 0 1 (I 9 1)) 0 2 (I 9 2)) fun I1 => hV (fX8_copyRow N 14 14 [.ref 0, .ref 1, .int 14] (gS [11, 2] I1)) [11, 2] I1 fun I2 => hV (fX8_copyRow N 14 14 [.ref 0, .ref 1, .int 14] (gS [12, 3] I2)) [12, 3] I2 fun I3 => hX2_copyFrom_63 N I3) := by
  show (fX2_copyFrom_k0 N) [some (.ref 0), some (.ref 9)] [] I = _
  unfold fX2_copyFrom_k0
  refine tt_aload rfl ?_
  refine tt_aload rfl ?_
  refine tt_get (x := (I 9 0)) rfl rfl rfl ?_
  refine tt_put rfl rfl ?_
  refine tt_aload rfl ?_
  refine tt_aload rfl ?_
  refine tt_get (x := (I 9 1)) rfl rfl rfl ?_
  refine tt_put rfl rfl ?_
  refine tt_aload rfl ?_
  refine tt_aload rfl ?_
  refine tt_get (x := (I 9 2)) rfl rfl rfl ?_
  refine tt_put rfl rfl ?_
  refine tt_aload rfl ?_
  refine tt_getr (q := 10) rfl rfl ?_
  refine tt_aload rfl ?_
  refine tt_getr (q := 1) rfl rfl ?_
  refine tt_const ?_
  refine tt_caV (t := []) ⟨Nat.le_of_ble_eq_true rfl, Nat.le_of_ble_eq_true rfl⟩ rfl rfl rfl (fun I1 => ?_)
  refine tt_aload rfl ?_
  refine tt_getr (q := 11) rfl rfl ?_
  refine tt_aload rfl ?_
  refine tt_getr (q := 2) rfl rfl ?_
  refine tt_const ?_
  refine tt_caV (t := []) ⟨Nat.le_of_ble_eq_true rfl, Nat.le_of_ble_eq_true rfl⟩ rfl rfl rfl (fun I2 => ?_)
  refine tt_aload rfl ?_
  refine tt_getr (q := 12) rfl rfl ?_
  refine tt_aload rfl ?_
  refine tt_getr (q := 3) rfl rfl ?_
  refine tt_const ?_
  refine tt_caV (t := []) ⟨Nat.le_of_ble_eq_true rfl, Nat.le_of_ble_eq_true rfl⟩ rfl rfl rfl (fun I3 => ?_)
  refine tt_mask rfl ?_
  exact rfl
set_option maxRecDepth 100000 in
theorem eX2_copyFrom_63 (N : Nat) (I : gM) : hX2_copyFrom_63 N I =
  (hV (fX8_copyRow N 14 14 [.ref 0, .ref 1, .int 14] (gS [13, 4] I)) [13, 4] I fun I4 => hV (fX8_copyRow N 14 14 [.ref 0, .ref 1, .int 14] (gS [14, 5] I4)) [14, 5] I4 fun I5 => hV (fX8_copyRow N 4 4 [.ref 0, .ref 1, .int 4] (gS [15, 6] I5)) [15, 6] I5 fun I6 => hX2_copyFrom_101 N I6) := by
  show (fX2_copyFrom_k63 N) [some (.ref 0), some (.ref 9)] [] I = _
  unfold fX2_copyFrom_k63
  refine tt_aload rfl ?_
  refine tt_getr (q := 13) rfl rfl ?_
  refine tt_aload rfl ?_
  refine tt_getr (q := 4) rfl rfl ?_
  refine tt_const ?_
  refine tt_caV (t := []) ⟨Nat.le_of_ble_eq_true rfl, Nat.le_of_ble_eq_true rfl⟩ rfl rfl rfl (fun I4 => ?_)
  refine tt_aload rfl ?_
  refine tt_getr (q := 14) rfl rfl ?_
  refine tt_aload rfl ?_
  refine tt_getr (q := 5) rfl rfl ?_
  refine tt_const ?_
  refine tt_caV (t := []) ⟨Nat.le_of_ble_eq_true rfl, Nat.le_of_ble_eq_true rfl⟩ rfl rfl rfl (fun I5 => ?_)
  refine tt_aload rfl ?_
  refine tt_getr (q := 15) rfl rfl ?_
  refine tt_aload rfl ?_
  refine tt_getr (q := 6) rfl rfl ?_
  refine tt_const ?_
  refine tt_caV (t := []) ⟨Nat.le_of_ble_eq_true rfl, Nat.le_of_ble_eq_true rfl⟩ rfl rfl rfl (fun I6 => ?_)
  refine tt_mask rfl ?_
  exact rfl
set_option maxRecDepth 100000 in
theorem eX2_copyFrom_101 (N : Nat) (I : gM) : hX2_copyFrom_101 N I =
  (hV (fX8_copyRow N 66 66 [.ref 0, .ref 1, .int 66] (gS [16, 7] I)) [16, 7] I fun I7 => hV (fX8_copyRow N 100 100 [.ref 0, .ref 1, .int 100] (gS [17, 8] I7)) [17, 8] I7 fun I8 => some (.inl none, I8)) := by
  show (fX2_copyFrom_k101 N) [some (.ref 0), some (.ref 9)] [] I = _
  unfold fX2_copyFrom_k101
  refine tt_aload rfl ?_
  refine tt_getr (q := 16) rfl rfl ?_
  refine tt_aload rfl ?_
  refine tt_getr (q := 7) rfl rfl ?_
  refine tt_const ?_
  refine tt_caV (t := []) ⟨Nat.le_of_ble_eq_true rfl, Nat.le_of_ble_eq_true rfl⟩ rfl rfl rfl (fun I7 => ?_)
  refine tt_aload rfl ?_
  refine tt_getr (q := 17) rfl rfl ?_
  refine tt_aload rfl ?_
  refine tt_getr (q := 8) rfl rfl ?_
  refine tt_const ?_
  refine tt_caV (t := []) ⟨Nat.le_of_ble_eq_true rfl, Nat.le_of_ble_eq_true rfl⟩ rfl rfl rfl (fun I8 => ?_)
  exact rfl
set_option maxRecDepth 100000 in
theorem eX2_copyFrom (N : Nat) (I : gM) : fX2_copyFrom N [.ref 0, .ref 9] I = hX2_copyFrom_0 N I := by
  show gFn 2 (fX2_copyFrom_k0 N) [.ref 0, .ref 9] I = (fX2_copyFrom_k0 N) [some (.ref 0), some (.ref 9)] [] I
  exact tt_fn rfl rfl

