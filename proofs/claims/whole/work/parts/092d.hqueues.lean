def hX4_clear_0 (N : Nat) (I : gM) : gO := fX4_clear_k0 N [some (.ref 0)] [] I
set_option maxRecDepth 100000 in
theorem eX4_clear_0 (N : Nat) (I : gM) : hX4_clear_0 N I =
  (hV (fJF_fill N 100 [.ref 0, .int 0] (gS [3] I)) [3] I fun I1 => hV (fJF_fill N 100 [.ref 0, .int 0] (gS [4] I1)) [4] I1 fun I2 => some (.inl none, (gU (gU (gU I2 0 9 0) 0 10 (-1)) 0 11 0))) := by
  show (fX4_clear_k0 N) [some (.ref 0)] [] I = _
  unfold fX4_clear_k0
  refine tt_aload rfl ?_
  refine tt_getr (q := 3) rfl rfl ?_
  refine tt_const ?_
  refine tt_caV (t := []) ⟨Nat.le_of_ble_eq_true rfl, Nat.le_of_ble_eq_true rfl⟩ rfl rfl rfl (fun I1 => ?_)
  refine tt_aload rfl ?_
  refine tt_getr (q := 4) rfl rfl ?_
  refine tt_const ?_
  refine tt_caV (t := []) ⟨Nat.le_of_ble_eq_true rfl, Nat.le_of_ble_eq_true rfl⟩ rfl rfl rfl (fun I2 => ?_)
  refine tt_aload rfl ?_
  refine tt_const ?_
  refine tt_put rfl rfl ?_
  refine tt_aload rfl ?_
  refine tt_const ?_
  refine tt_put rfl rfl ?_
  refine tt_aload rfl ?_
  refine tt_const ?_
  refine tt_put rfl rfl ?_
  exact rfl
set_option maxRecDepth 100000 in
theorem eX4_clear (N : Nat) (I : gM) : fX4_clear N [.ref 0] I = hX4_clear_0 N I := by
  show gFn 1 (fX4_clear_k0 N) [.ref 0] I = (fX4_clear_k0 N) [some (.ref 0)] [] I
  exact tt_fn rfl rfl

def hX4_putLast_0 (N : Nat) (v1 : Int32) (v2 : Int32) (I : gM) : gO := fX4_putLast_k0 N [some (.ref 0), some (.int v1), some (.int v2)] [] I
def hX4_putLast_38 (N : Nat) (v1 : Int32) (v2 : Int32) (I : gM) : gO := fX4_putLast_k38 N [some (.ref 0), some (.int v1), some (.int v2)] [] I
set_option maxRecDepth 100000 in
theorem eX4_putLast_0 (N : Nat) (v1 : Int32) (v2 : Int32) (I : gM) : hX4_putLast_0 N v1 v2 I =
  (ck 500 v2 <| ck 100 v1 <| if gz_ne ((I 3 (Int32.toNatClampNeg v1))) = true then (ck 100 v1 <| ck 500 ((I 2 (Int32.toNatClampNeg v1))) <| hX4_putLast_38 N v1 v2 (gU (gU I 5 (Int32.toNatClampNeg v2) (-1)) 5 ((Int32.toNatClampNeg ((I 2 (Int32.toNatClampNeg v1))))) v2)) else (ck 100 v1 <| hX4_putLast_38 N v1 v2 (gU (gU I 5 (Int32.toNatClampNeg v2) (-1)) 1 (Int32.toNatClampNeg v1) v2))) := by
  show (fX4_putLast_k0 N) [some (.ref 0), some (.int v1), some (.int v2)] [] I = _
  unfold fX4_putLast_k0
  refine tt_aload rfl ?_
  refine tt_getr (q := 5) rfl rfl ?_
  refine tt_iload rfl ?_
  refine tt_const ?_
  refine tt_ast (v := (-1)) rfl rfl ?_
  refine tt_aload rfl ?_
  refine tt_getr (q := 3) rfl rfl ?_
  refine tt_iload rfl ?_
  refine tt_ald (x := (I 3 (Int32.toNatClampNeg v1))) rfl rfl ?_
  refine tt_if ?_ ?_
  · skip
    refine tt_aload rfl ?_
    refine tt_getr (q := 5) rfl rfl ?_
    refine tt_aload rfl ?_
    refine tt_getr (q := 2) rfl rfl ?_
    refine tt_iload rfl ?_
    refine tt_ald (x := (I 2 (Int32.toNatClampNeg v1))) rfl rfl ?_
    refine tt_iload rfl ?_
    refine tt_ast (v := v2) rfl rfl ?_
    refine tt_mask rfl ?_
    exact rfl
  · skip
    refine tt_aload rfl ?_
    refine tt_getr (q := 1) rfl rfl ?_
    refine tt_iload rfl ?_
    refine tt_iload rfl ?_
    refine tt_ast (v := v2) rfl rfl ?_
    refine tt_mask rfl ?_
    exact rfl
set_option maxRecDepth 100000 in
theorem eX4_putLast_38 (N : Nat) (v1 : Int32) (v2 : Int32) (I : gM) : hX4_putLast_38 N v1 v2 I =
  (ck 100 v1 <| ck 100 v1 <| ck 100 v1 <| some (.inl none, (gU (gU I 2 (Int32.toNatClampNeg v1) v2) 3 (Int32.toNatClampNeg v1) ((gb_add ((I 3 (Int32.toNatClampNeg v1))) 1))))) := by
  show (fX4_putLast_k38 N) [some (.ref 0), some (.int v1), some (.int v2)] [] I = _
  unfold fX4_putLast_k38
  refine tt_aload rfl ?_
  refine tt_getr (q := 2) rfl rfl ?_
  refine tt_iload rfl ?_
  refine tt_iload rfl ?_
  refine tt_ast (v := v2) rfl rfl ?_
  refine tt_aload rfl ?_
  refine tt_getr (q := 3) rfl rfl ?_
  refine tt_iload rfl ?_
  refine tt_dup2 rfl rfl ?_
  refine tt_ald (x := (I 3 (Int32.toNatClampNeg v1))) rfl rfl ?_
  refine tt_const ?_
  refine tt_bin ?_
  refine tt_ast (v := (gb_add ((I 3 (Int32.toNatClampNeg v1))) 1)) rfl rfl ?_
  exact rfl
set_option maxRecDepth 100000 in
theorem eX4_putLast (N : Nat) (v1 : Int32) (v2 : Int32) (I : gM) : fX4_putLast N [.ref 0, .int v1, .int v2] I = hX4_putLast_0 N v1 v2 I := by
  show gFn 3 (fX4_putLast_k0 N) [.ref 0, .int v1, .int v2] I = (fX4_putLast_k0 N) [some (.ref 0), some (.int v1), some (.int v2)] [] I
  exact tt_fn rfl rfl

def hX4_enter_0 (N : Nat) (v1 : Int32) (v2 : Int32) (v3 : Int32) (v4 : Int32) (I : gM) : gO := fX4_enter_k0 N [some (.ref 0), some (.int v1), some (.int v2), some (.int v3), some (.int v4), none] [] I
def hX4_enter_30 (N : Nat) (v1 : Int32) (v2 : Int32) (v3 : Int32) (v4 : Int32) (I : gM) : gO := fX4_enter_k30 N [some (.ref 0), some (.int v1), some (.int v2), some (.int v3), some (.int v4), none] [] I
def hX4_enter_72 (N : Nat) (v1 : Int32) (v2 : Int32) (v3 : Int32) (v4 : Int32) (v5 : Int32) (I : gM) : gO := fX4_enter_k72 N [some (.ref 0), some (.int v1), some (.int v2), some (.int v3), some (.int v4), some (.int v5)] [] I
set_option maxRecDepth 100000 in
theorem eX4_enter_0 (N : Nat) (v1 : Int32) (v2 : Int32) (v3 : Int32) (v4 : Int32) (I : gM) : hX4_enter_0 N v1 v2 v3 v4 I =
  (if gc_ge (I 0 11) 500 = true then (some (.inl (some (.int 0)), I)) else (if gc_ne (I 0 10) (-1) = true then (hX4_enter_30 N v1 v2 v3 v4 I) else (if gc_lt (I 0 9) 500 = true then (hX4_enter_30 N v1 v2 v3 v4 I) else (some (.inl (some (.int 0)), I))))) := by
  show (fX4_enter_k0 N) [some (.ref 0), some (.int v1), some (.int v2), some (.int v3), some (.int v4), none] [] I = _
  unfold fX4_enter_k0
  refine tt_aload rfl ?_
  refine tt_get (x := (I 0 11)) rfl rfl rfl ?_
  refine tt_const ?_
  refine tt_cmp ?_ ?_
  · skip
    refine tt_const ?_
    exact tt_zret (by decide)
  · skip
    refine tt_aload rfl ?_
    refine tt_get (x := (I 0 10)) rfl rfl rfl ?_
    refine tt_const ?_
    refine tt_cmp ?_ ?_
    · skip
      refine tt_mask rfl ?_
      exact rfl
    · skip
      refine tt_aload rfl ?_
      refine tt_get (x := (I 0 9)) rfl rfl rfl ?_
      refine tt_const ?_
      refine tt_cmp ?_ ?_
      · skip
        refine tt_mask rfl ?_
        exact rfl
      · skip
        refine tt_const ?_
        exact tt_zret (by decide)
set_option maxRecDepth 100000 in
theorem eX4_enter_30 (N : Nat) (v1 : Int32) (v2 : Int32) (v3 : Int32) (v4 : Int32) (I : gM) : hX4_enter_30 N v1 v2 v3 v4 I =
  (if gc_eq (I 0 10) (-1) = true then (hX4_enter_72 N v1 v2 v3 v4 (I 0 9) (gU I 0 9 ((gb_add (I 0 9) 1)))) else (ck 500 (I 0 10) <| hX4_enter_72 N v1 v2 v3 v4 (I 0 10) (gU I 0 10 ((I 5 ((Int32.toNatClampNeg (I 0 10)))))))) := by
  show (fX4_enter_k30 N) [some (.ref 0), some (.int v1), some (.int v2), some (.int v3), some (.int v4), none] [] I = _
  unfold fX4_enter_k30
  refine tt_aload rfl ?_
  refine tt_get (x := (I 0 10)) rfl rfl rfl ?_
  refine tt_istore (L2 := [some (.ref 0), some (.int v1), some (.int v2), some (.int v3), some (.int v4), some (.int (I 0 10))]) (tt_lt rfl) rfl ?_
  refine tt_iload rfl ?_
  refine tt_const ?_
  refine tt_cmp ?_ ?_
  · skip
    refine tt_aload rfl ?_
    refine tt_get (x := (I 0 9)) rfl rfl rfl ?_
    refine tt_istore (L2 := [some (.ref 0), some (.int v1), some (.int v2), some (.int v3), some (.int v4), some (.int (I 0 9))]) (tt_lt rfl) rfl ?_
    refine tt_aload rfl ?_
    refine tt_dup rfl ?_
    refine tt_get (x := (I 0 9)) rfl rfl rfl ?_
    refine tt_const ?_
    refine tt_bin ?_
    refine tt_put rfl rfl ?_
    refine tt_mask rfl ?_
    exact rfl
  · skip
    refine tt_aload rfl ?_
    refine tt_aload rfl ?_
    refine tt_getr (q := 5) rfl rfl ?_
    refine tt_iload rfl ?_
    refine tt_ald (x := (I 5 ((Int32.toNatClampNeg (I 0 10))))) rfl rfl ?_
    refine tt_put rfl rfl ?_
    refine tt_mask rfl ?_
    exact rfl
set_option maxRecDepth 100000 in
theorem eX4_enter_72 (N : Nat) (v1 : Int32) (v2 : Int32) (v3 : Int32) (v4 : Int32) (v5 : Int32) (I : gM) : hX4_enter_72 N v1 v2 v3 v4 v5 I =
  (ck 500 v5 <| ck 500 v5 <| ck 500 v5 <| ck 500 v5 <| hV (fX4_putLast N [.ref 0, .int v1, .int v5] (gS (rg 0 10) (gU (gU (gU (gU (gU I 6 (Int32.toNatClampNeg v5) v2) 7 (Int32.toNatClampNeg v5) v3) 8 (Int32.toNatClampNeg v5) 0) 9 (Int32.toNatClampNeg v5) (gb_shl 1 v4)) 0 11 ((gb_add (I 0 11) 1))))) (rg 0 10) (gU (gU (gU (gU (gU I 6 (Int32.toNatClampNeg v5) v2) 7 (Int32.toNatClampNeg v5) v3) 8 (Int32.toNatClampNeg v5) 0) 9 (Int32.toNatClampNeg v5) (gb_shl 1 v4)) 0 11 ((gb_add (I 0 11) 1))) fun I1 => some (.inl (some (.int 1)), I1)) := by
  show (fX4_enter_k72 N) [some (.ref 0), some (.int v1), some (.int v2), some (.int v3), some (.int v4), some (.int v5)] [] I = _
  unfold fX4_enter_k72
  refine tt_aload rfl ?_
  refine tt_getr (q := 6) rfl rfl ?_
  refine tt_iload rfl ?_
  refine tt_iload rfl ?_
  refine tt_ast (v := v2) rfl rfl ?_
  refine tt_aload rfl ?_
  refine tt_getr (q := 7) rfl rfl ?_
  refine tt_iload rfl ?_
  refine tt_iload rfl ?_
  refine tt_ast (v := v3) rfl rfl ?_
  refine tt_aload rfl ?_
  refine tt_getr (q := 8) rfl rfl ?_
  refine tt_iload rfl ?_
  refine tt_const ?_
  refine tt_ast (v := 0) rfl rfl ?_
  refine tt_aload rfl ?_
  refine tt_getr (q := 9) rfl rfl ?_
  refine tt_iload rfl ?_
  refine tt_const ?_
  refine tt_iload rfl ?_
  refine tt_bin ?_
  refine tt_ast (v := (gb_shl 1 v4)) rfl rfl ?_
  refine tt_aload rfl ?_
  refine tt_dup rfl ?_
  refine tt_get (x := (I 0 11)) rfl rfl rfl ?_
  refine tt_const ?_
  refine tt_bin ?_
  refine tt_put rfl rfl ?_
  refine tt_aload rfl ?_
  refine tt_iload rfl ?_
  refine tt_iload rfl ?_
  refine tt_cavV (t := []) ⟨Nat.le_of_ble_eq_true rfl, Nat.le_of_ble_eq_true rfl⟩ rfl rfl rfl (fun I1 => ?_)
  refine tt_const ?_
  exact tt_zret (by decide)
set_option maxRecDepth 100000 in
theorem eX4_enter (N : Nat) (v1 : Int32) (v2 : Int32) (v3 : Int32) (v4 : Int32) (I : gM) : fX4_enter N [.ref 0, .int v1, .int v2, .int v3, .int v4] I = hX4_enter_0 N v1 v2 v3 v4 I := by
  show gFn 6 (fX4_enter_k0 N) [.ref 0, .int v1, .int v2, .int v3, .int v4] I = (fX4_enter_k0 N) [some (.ref 0), some (.int v1), some (.int v2), some (.int v3), some (.int v4), none] [] I
  exact tt_fn rfl rfl

def hX4_takeBehind_0 (N : Nat) (v1 : Int32) (v2 : Int32) (I : gM) : gO := fX4_takeBehind_k0 N [some (.ref 0), some (.int v1), some (.int v2), none] [] I
def hX4_takeBehind_31 (N : Nat) (v1 : Int32) (v2 : Int32) (s0 : Int32) (I : gM) : gO := fX4_takeBehind_k31 N [some (.ref 0), some (.int v1), some (.int v2), none] [.int s0] I
def hX4_takeBehind_71 (N : Nat) (v1 : Int32) (v2 : Int32) (v3 : Int32) (I : gM) : gO := fX4_takeBehind_k71 N [some (.ref 0), some (.int v1), some (.int v2), some (.int v3)] [] I
def hX4_takeBehind_88 (N : Nat) (v1 : Int32) (v3 : Int32) (I : gM) : gO := fX4_takeBehind_k88 N [some (.ref 0), some (.int v1), none, some (.int v3)] [] I
set_option maxRecDepth 100000 in
theorem eX4_takeBehind_0 (N : Nat) (v1 : Int32) (v2 : Int32) (I : gM) : hX4_takeBehind_0 N v1 v2 I =
  (ck 100 v1 <| if gz_ne ((I 3 (Int32.toNatClampNeg v1))) = true then (if gc_ne v2 (-1) = true then (ck 500 v2 <| hX4_takeBehind_31 N v1 v2 ((I 5 (Int32.toNatClampNeg v2))) I) else (ck 100 v1 <| hX4_takeBehind_31 N v1 v2 ((I 1 (Int32.toNatClampNeg v1))) I)) else (some (.inl (some (.int (-1))), I))) := by
  show (fX4_takeBehind_k0 N) [some (.ref 0), some (.int v1), some (.int v2), none] [] I = _
  unfold fX4_takeBehind_k0
  refine tt_aload rfl ?_
  refine tt_getr (q := 3) rfl rfl ?_
  refine tt_iload rfl ?_
  refine tt_ald (x := (I 3 (Int32.toNatClampNeg v1))) rfl rfl ?_
  refine tt_if ?_ ?_
  · skip
    refine tt_iload rfl ?_
    refine tt_const ?_
    refine tt_cmp ?_ ?_
    · skip
      refine tt_aload rfl ?_
      refine tt_getr (q := 5) rfl rfl ?_
      refine tt_iload rfl ?_
      refine tt_ald (x := (I 5 (Int32.toNatClampNeg v2))) rfl rfl ?_
      refine tt_mask rfl ?_
      exact rfl
    · skip
      refine tt_aload rfl ?_
      refine tt_getr (q := 1) rfl rfl ?_
      refine tt_iload rfl ?_
      refine tt_ald (x := (I 1 (Int32.toNatClampNeg v1))) rfl rfl ?_
      refine tt_mask rfl ?_
      exact rfl
  · skip
    refine tt_const ?_
    exact rfl
set_option maxRecDepth 100000 in
theorem eX4_takeBehind_31 (N : Nat) (v1 : Int32) (v2 : Int32) (s0 : Int32) (I : gM) : hX4_takeBehind_31 N v1 v2 s0 I =
  (if gc_ne s0 (-1) = true then (if gc_ne v2 (-1) = true then (ck 500 s0 <| ck 500 v2 <| hX4_takeBehind_71 N v1 v2 s0 (gU I 5 (Int32.toNatClampNeg v2) ((I 5 (Int32.toNatClampNeg s0))))) else (ck 500 s0 <| ck 100 v1 <| hX4_takeBehind_71 N v1 v2 s0 (gU I 1 (Int32.toNatClampNeg v1) ((I 5 (Int32.toNatClampNeg s0)))))) else (some (.inl (some (.int (-1))), I))) := by
  show (fX4_takeBehind_k31 N) [some (.ref 0), some (.int v1), some (.int v2), none] [.int s0] I = _
  unfold fX4_takeBehind_k31
  refine tt_istore (L2 := [some (.ref 0), some (.int v1), some (.int v2), some (.int s0)]) (tt_lt rfl) rfl ?_
  refine tt_iload rfl ?_
  refine tt_const ?_
  refine tt_cmp ?_ ?_
  · skip
    refine tt_iload rfl ?_
    refine tt_const ?_
    refine tt_cmp ?_ ?_
    · skip
      refine tt_aload rfl ?_
      refine tt_getr (q := 5) rfl rfl ?_
      refine tt_iload rfl ?_
      refine tt_aload rfl ?_
      refine tt_getr (q := 5) rfl rfl ?_
      refine tt_iload rfl ?_
      refine tt_ald (x := (I 5 (Int32.toNatClampNeg s0))) rfl rfl ?_
      refine tt_ast (v := (I 5 (Int32.toNatClampNeg s0))) rfl rfl ?_
      refine tt_mask rfl ?_
      exact rfl
    · skip
      refine tt_aload rfl ?_
      refine tt_getr (q := 1) rfl rfl ?_
      refine tt_iload rfl ?_
      refine tt_aload rfl ?_
      refine tt_getr (q := 5) rfl rfl ?_
      refine tt_iload rfl ?_
      refine tt_ald (x := (I 5 (Int32.toNatClampNeg s0))) rfl rfl ?_
      refine tt_ast (v := (I 5 (Int32.toNatClampNeg s0))) rfl rfl ?_
      refine tt_mask rfl ?_
      exact rfl
  · skip
    refine tt_const ?_
    exact rfl
set_option maxRecDepth 100000 in
theorem eX4_takeBehind_71 (N : Nat) (v1 : Int32) (v2 : Int32) (v3 : Int32) (I : gM) : hX4_takeBehind_71 N v1 v2 v3 I =
  (ck 500 v3 <| if gc_ne ((I 5 (Int32.toNatClampNeg v3))) (-1) = true then (hX4_takeBehind_88 N v1 v3 I) else (ck 100 v1 <| hX4_takeBehind_88 N v1 v3 (gU I 2 (Int32.toNatClampNeg v1) v2))) := by
  show (fX4_takeBehind_k71 N) [some (.ref 0), some (.int v1), some (.int v2), some (.int v3)] [] I = _
  unfold fX4_takeBehind_k71
  refine tt_aload rfl ?_
  refine tt_getr (q := 5) rfl rfl ?_
  refine tt_iload rfl ?_
  refine tt_ald (x := (I 5 (Int32.toNatClampNeg v3))) rfl rfl ?_
  refine tt_const ?_
  refine tt_cmp ?_ ?_
  · skip
    refine tt_mask rfl ?_
    exact rfl
  · skip
    refine tt_aload rfl ?_
    refine tt_getr (q := 2) rfl rfl ?_
    refine tt_iload rfl ?_
    refine tt_iload rfl ?_
    refine tt_ast (v := v2) rfl rfl ?_
    refine tt_mask rfl ?_
    exact rfl
set_option maxRecDepth 100000 in
theorem eX4_takeBehind_88 (N : Nat) (v1 : Int32) (v3 : Int32) (I : gM) : hX4_takeBehind_88 N v1 v3 I =
  (ck 100 v1 <| ck 100 v1 <| some (.inl (some (.int v3)), (gU I 3 (Int32.toNatClampNeg v1) ((gb_sub ((I 3 (Int32.toNatClampNeg v1))) 1))))) := by
  show (fX4_takeBehind_k88 N) [some (.ref 0), some (.int v1), none, some (.int v3)] [] I = _
  unfold fX4_takeBehind_k88
  refine tt_aload rfl ?_
  refine tt_getr (q := 3) rfl rfl ?_
  refine tt_iload rfl ?_
  refine tt_dup2 rfl rfl ?_
  refine tt_ald (x := (I 3 (Int32.toNatClampNeg v1))) rfl rfl ?_
  refine tt_const ?_
  refine tt_bin ?_
  refine tt_ast (v := (gb_sub ((I 3 (Int32.toNatClampNeg v1))) 1)) rfl rfl ?_
  refine tt_iload rfl ?_
  exact rfl
set_option maxRecDepth 100000 in
theorem eX4_takeBehind (N : Nat) (v1 : Int32) (v2 : Int32) (I : gM) : fX4_takeBehind N [.ref 0, .int v1, .int v2] I = hX4_takeBehind_0 N v1 v2 I := by
  show gFn 4 (fX4_takeBehind_k0 N) [.ref 0, .int v1, .int v2] I = (fX4_takeBehind_k0 N) [some (.ref 0), some (.int v1), some (.int v2), none] [] I
  exact tt_fn rfl rfl

def hX4_release_0 (N : Nat) (v1 : Int32) (I : gM) : gO := fX4_release_k0 N [some (.ref 0), some (.int v1)] [] I
set_option maxRecDepth 100000 in
theorem eX4_release_0 (N : Nat) (v1 : Int32) (I : gM) : hX4_release_0 N v1 I =
  (ck 500 v1 <| some (.inl none, (gU (gU (gU I 5 (Int32.toNatClampNeg v1) (I 0 10)) 0 10 v1) 0 11 ((gb_sub (I 0 11) 1))))) := by
  show (fX4_release_k0 N) [some (.ref 0), some (.int v1)] [] I = _
  unfold fX4_release_k0
  refine tt_aload rfl ?_
  refine tt_getr (q := 5) rfl rfl ?_
  refine tt_iload rfl ?_
  refine tt_aload rfl ?_
  refine tt_get (x := (I 0 10)) rfl rfl rfl ?_
  refine tt_ast (v := (I 0 10)) rfl rfl ?_
  refine tt_aload rfl ?_
  refine tt_iload rfl ?_
  refine tt_put rfl rfl ?_
  refine tt_aload rfl ?_
  refine tt_dup rfl ?_
  refine tt_get (x := (I 0 11)) rfl rfl rfl ?_
  refine tt_const ?_
  refine tt_bin ?_
  refine tt_put rfl rfl ?_
  exact rfl
set_option maxRecDepth 100000 in
theorem eX4_release (N : Nat) (v1 : Int32) (I : gM) : fX4_release N [.ref 0, .int v1] I = hX4_release_0 N v1 I := by
  show gFn 2 (fX4_release_k0 N) [.ref 0, .int v1] I = (fX4_release_k0 N) [some (.ref 0), some (.int v1)] [] I
  exact tt_fn rfl rfl

def hX4_find_0 (N : Nat) (v1 : Int32) (v2 : Int32) (I : gM) : gO := fX4_find_k0 N [some (.ref 0), some (.int v1), some (.int v2), none, none] [] I
def hX4_find_26 (N : Nat) (n26 : Nat) (v2 : Int32) (v3 : Int32) (v4 : Int32) (I : gM) : gO := s_lp (fX4_find_b26 N) n26 [some (.ref 0), none, some (.int v2), some (.int v3), some (.int v4)] [] I
set_option maxRecDepth 100000 in
theorem eX4_find_0 (N : Nat) (v1 : Int32) (v2 : Int32) (I : gM) : hX4_find_0 N v1 v2 I =
  (if gz_lt v2 = true then (some (.inl (some (.int (-1))), I)) else (ck 100 v1 <| if gc_lt v2 ((I 3 (Int32.toNatClampNeg v1))) = true then (ck 100 v1 <| hX4_find_26 N N v2 ((I 1 (Int32.toNatClampNeg v1))) 0 I) else (some (.inl (some (.int (-1))), I)))) := by
  show (fX4_find_k0 N) [some (.ref 0), some (.int v1), some (.int v2), none, none] [] I = _
  unfold fX4_find_k0
  refine tt_iload rfl ?_
  refine tt_if ?_ ?_
  · skip
    refine tt_const ?_
    exact rfl
  · skip
    refine tt_iload rfl ?_
    refine tt_aload rfl ?_
    refine tt_getr (q := 3) rfl rfl ?_
    refine tt_iload rfl ?_
    refine tt_ald (x := (I 3 (Int32.toNatClampNeg v1))) rfl rfl ?_
    refine tt_cmp ?_ ?_
    · skip
      refine tt_aload rfl ?_
      refine tt_getr (q := 1) rfl rfl ?_
      refine tt_iload rfl ?_
      refine tt_ald (x := (I 1 (Int32.toNatClampNeg v1))) rfl rfl ?_
      refine tt_istore (L2 := [some (.ref 0), some (.int v1), some (.int v2), some (.int ((I 1 (Int32.toNatClampNeg v1)))), none]) (tt_lt rfl) rfl ?_
      refine tt_const ?_
      refine tt_istore (L2 := [some (.ref 0), some (.int v1), some (.int v2), some (.int ((I 1 (Int32.toNatClampNeg v1)))), some (.int 0)]) (tt_lt rfl) rfl ?_
      refine tt_mask rfl ?_
      exact rfl
    · skip
      refine tt_const ?_
      exact rfl
set_option maxRecDepth 100000 in
theorem eX4_find_26 (N : Nat) (n26 : Nat) (v2 : Int32) (v3 : Int32) (v4 : Int32) (I : gM) : hX4_find_26 N (n26 + 1) v2 v3 v4 I =
  (if gc_ge v4 v2 = true then (some (.inl (some (.int v3)), I)) else (if gc_eq v3 (-1) = true then (some (.inl (some (.int v3)), I)) else (ck 500 v3 <| hX4_find_26 N n26 v2 ((I 5 (Int32.toNatClampNeg v3))) (v4 + 1) I))) := by
  show (fX4_find_b26 N (s_lp (fX4_find_b26 N) n26)) [some (.ref 0), none, some (.int v2), some (.int v3), some (.int v4)] [] I = _
  unfold fX4_find_b26
  refine tt_iload rfl ?_
  refine tt_iload rfl ?_
  refine tt_cmp ?_ ?_
  · skip
    refine tt_iload rfl ?_
    exact rfl
  · skip
    refine tt_iload rfl ?_
    refine tt_const ?_
    refine tt_cmp ?_ ?_
    · skip
      refine tt_iload rfl ?_
      exact rfl
    · skip
      refine tt_aload rfl ?_
      refine tt_getr (q := 5) rfl rfl ?_
      refine tt_iload rfl ?_
      refine tt_ald (x := (I 5 (Int32.toNatClampNeg v3))) rfl rfl ?_
      refine tt_istore (L2 := [some (.ref 0), none, some (.int v2), some (.int ((I 5 (Int32.toNatClampNeg v3)))), some (.int v4)]) (tt_lt rfl) rfl ?_
      refine tt_iinc (L2 := [some (.ref 0), none, some (.int v2), some (.int ((I 5 (Int32.toNatClampNeg v3)))), some (.int (v4 + 1))]) rfl rfl ?_
      refine tt_mask rfl ?_
      exact rfl
theorem eX4_find_26z (N : Nat) (v2 : Int32) (v3 : Int32) (v4 : Int32) (I : gM) : hX4_find_26 N 0 v2 v3 v4 I = none := (rfl)
set_option maxRecDepth 100000 in
theorem eX4_find (N : Nat) (v1 : Int32) (v2 : Int32) (I : gM) : fX4_find N [.ref 0, .int v1, .int v2] I = hX4_find_0 N v1 v2 I := by
  show gFn 5 (fX4_find_k0 N) [.ref 0, .int v1, .int v2] I = (fX4_find_k0 N) [some (.ref 0), some (.int v1), some (.int v2), none, none] [] I
  exact tt_fn rfl rfl

def hX4_copyFrom_0 (N : Nat) (I : gM) : gO := fX4_copyFrom_k0 N [some (.ref 0), some (.ref 10)] [] I
def hX4_copyFrom_39 (N : Nat) (I : gM) : gO := fX4_copyFrom_k39 N [some (.ref 0), some (.ref 10)] [] I
def hX4_copyFrom_106 (N : Nat) (I : gM) : gO := fX4_copyFrom_k106 N [some (.ref 0), some (.ref 10)] [] I
set_option maxRecDepth 100000 in
theorem eX4_copyFrom_0 (N : Nat) (I : gM) : hX4_copyFrom_0 N I =
  (hV (fX8_copyRow N 100 100 [.ref 0, .ref 1, .int 100] (gS [11, 1] I)) [11, 1] I fun I1 => hV (fX8_copyRow N 100 100 [.ref 0, .ref 1, .int 100] (gS [12, 2] I1)) [12, 2] I1 fun I2 => hV (fX8_copyRow N 100 100 [.ref 0, .ref 1, .int 100] (gS [13, 3] I2)) [13, 3] I2 fun I3 => hX4_copyFrom_39 N I3) := by
  show (fX4_copyFrom_k0 N) [some (.ref 0), some (.ref 10)] [] I = _
  unfold fX4_copyFrom_k0
  refine tt_aload rfl ?_
  refine tt_getr (q := 11) rfl rfl ?_
  refine tt_aload rfl ?_
  refine tt_getr (q := 1) rfl rfl ?_
  refine tt_const ?_
  refine tt_caV (t := []) ⟨Nat.le_of_ble_eq_true rfl, Nat.le_of_ble_eq_true rfl⟩ rfl rfl rfl (fun I1 => ?_)
  refine tt_aload rfl ?_
  refine tt_getr (q := 12) rfl rfl ?_
  refine tt_aload rfl ?_
  refine tt_getr (q := 2) rfl rfl ?_
  refine tt_const ?_
  refine tt_caV (t := []) ⟨Nat.le_of_ble_eq_true rfl, Nat.le_of_ble_eq_true rfl⟩ rfl rfl rfl (fun I2 => ?_)
  refine tt_aload rfl ?_
  refine tt_getr (q := 13) rfl rfl ?_
  refine tt_aload rfl ?_
  refine tt_getr (q := 3) rfl rfl ?_
  refine tt_const ?_
  refine tt_caV (t := []) ⟨Nat.le_of_ble_eq_true rfl, Nat.le_of_ble_eq_true rfl⟩ rfl rfl rfl (fun I3 => ?_)
  refine tt_mask rfl ?_
  exact rfl
set_option maxRecDepth 100000 in
theorem eX4_copyFrom_39 (N : Nat) (I : gM) : hX4_copyFrom_39 N I =
  (hV (fX8_copyRow N 100 100 [.ref 0, .ref 1, .int 100] (gS [14, 4] I)) [14, 4] I fun I4 => hV (fX8_copyRow N 500 500 [.ref 0, .ref 1, .int (I4 10 9)] (gS [15, 5] (gU (gU (gU I4 0 9 (I4 10 9)) 0 10 (I4 10 10)) 0 11 (I4 10 11)))) [15, 5] (gU (gU (gU I4 0 9 (I4 10 9)) 0 10 (I4 10 10)) 0 11 (I4 10 11)) fun I5 => hV (fX8_copyRow N 500 500 [.ref 0, .ref 1, .int (I5 0 9)] (gS [16, 6] I5)) [16, 6] I5 fun I6 => hX4_copyFrom_106 N I6) := by
  show (fX4_copyFrom_k39 N) [some (.ref 0), some (.ref 10)] [] I = _
  unfold fX4_copyFrom_k39
  refine tt_aload rfl ?_
  refine tt_getr (q := 14) rfl rfl ?_
  refine tt_aload rfl ?_
  refine tt_getr (q := 4) rfl rfl ?_
  refine tt_const ?_
  refine tt_caV (t := []) ⟨Nat.le_of_ble_eq_true rfl, Nat.le_of_ble_eq_true rfl⟩ rfl rfl rfl (fun I4 => ?_)
  refine tt_aload rfl ?_
  refine tt_aload rfl ?_
  refine tt_get (x := (I4 10 9)) rfl rfl rfl ?_
  refine tt_put rfl rfl ?_
  refine tt_aload rfl ?_
  refine tt_aload rfl ?_
  refine tt_get (x := (I4 10 10)) rfl rfl rfl ?_
  refine tt_put rfl rfl ?_
  refine tt_aload rfl ?_
  refine tt_aload rfl ?_
  refine tt_get (x := (I4 10 11)) rfl rfl rfl ?_
  refine tt_put rfl rfl ?_
  refine tt_aload rfl ?_
  refine tt_getr (q := 15) rfl rfl ?_
  refine tt_aload rfl ?_
  refine tt_getr (q := 5) rfl rfl ?_
  refine tt_aload rfl ?_
  refine tt_get (x := (I4 10 9)) rfl rfl rfl ?_
  refine tt_caV (t := []) ⟨Nat.le_of_ble_eq_true rfl, Nat.le_of_ble_eq_true rfl⟩ rfl rfl rfl (fun I5 => ?_)
  refine tt_aload rfl ?_
  refine tt_getr (q := 16) rfl rfl ?_
  refine tt_aload rfl ?_
  refine tt_getr (q := 6) rfl rfl ?_
  refine tt_aload rfl ?_
  refine tt_get (x := (I5 0 9)) rfl rfl rfl ?_
  refine tt_caV (t := []) ⟨Nat.le_of_ble_eq_true rfl, Nat.le_of_ble_eq_true rfl⟩ rfl rfl rfl (fun I6 => ?_)
  refine tt_mask rfl ?_
  exact rfl
set_option maxRecDepth 100000 in
theorem eX4_copyFrom_106 (N : Nat) (I : gM) : hX4_copyFrom_106 N I =
  (hV (fX8_copyRow N 500 500 [.ref 0, .ref 1, .int (I 0 9)] (gS [17, 7] I)) [17, 7] I fun I7 => hV (fX8_copyRow N 500 500 [.ref 0, .ref 1, .int (I7 0 9)] (gS [18, 8] I7)) [18, 8] I7 fun I8 => hV (fX8_copyRow N 500 500 [.ref 0, .ref 1, .int (I8 0 9)] (gS [19, 9] I8)) [19, 9] I8 fun I9 => some (.inl none, I9)) := by
  show (fX4_copyFrom_k106 N) [some (.ref 0), some (.ref 10)] [] I = _
  unfold fX4_copyFrom_k106
  refine tt_aload rfl ?_
  refine tt_getr (q := 17) rfl rfl ?_
  refine tt_aload rfl ?_
  refine tt_getr (q := 7) rfl rfl ?_
  refine tt_aload rfl ?_
  refine tt_get (x := (I 0 9)) rfl rfl rfl ?_
  refine tt_caV (t := []) ⟨Nat.le_of_ble_eq_true rfl, Nat.le_of_ble_eq_true rfl⟩ rfl rfl rfl (fun I7 => ?_)
  refine tt_aload rfl ?_
  refine tt_getr (q := 18) rfl rfl ?_
  refine tt_aload rfl ?_
  refine tt_getr (q := 8) rfl rfl ?_
  refine tt_aload rfl ?_
  refine tt_get (x := (I7 0 9)) rfl rfl rfl ?_
  refine tt_caV (t := []) ⟨Nat.le_of_ble_eq_true rfl, Nat.le_of_ble_eq_true rfl⟩ rfl rfl rfl (fun I8 => ?_)
  refine tt_aload rfl ?_
  refine tt_getr (q := 19) rfl rfl ?_
  refine tt_aload rfl ?_
  refine tt_getr (q := 9) rfl rfl ?_
  refine tt_aload rfl ?_
  refine tt_get (x := (I8 0 9)) rfl rfl rfl ?_
  refine tt_caV (t := []) ⟨Nat.le_of_ble_eq_true rfl, Nat.le_of_ble_eq_true rfl⟩ rfl rfl rfl (fun I9 => ?_)
  exact rfl
set_option maxRecDepth 100000 in
theorem eX4_copyFrom (N : Nat) (I : gM) : fX4_copyFrom N [.ref 0, .ref 10] I = hX4_copyFrom_0 N I := by
  show gFn 2 (fX4_copyFrom_k0 N) [.ref 0, .ref 10] I = (fX4_copyFrom_k0 N) [some (.ref 0), some (.ref 10)] [] I
  exact tt_fn rfl rfl

