def hX5_putBytes_0 (N : Nat) (v1 : Int32) (I : gM) : gO := fX5_putBytes_k0 N [some (.ref 0), some (.int v1), none, none] [] I
def hX5_putBytes_3 (N : Nat) (n3 : Nat) (v1 : Int32) (v2 : Int32) (I : gM) : gO := s_lp (fX5_putBytes_b3 N) n3 [some (.ref 0), some (.int v1), some (.int v2), none] [] I
def hX5_putBytes_49 (N : Nat) (n3 : Nat) (v1 : Int32) (v2 : Int32) (I : gM) : gO := fX5_putBytes_k49 N (s_lp (fX5_putBytes_b3 N) n3) [some (.ref 0), some (.int v1), some (.int v2), none] [] I
set_option maxRecDepth 100000 in
theorem eX5_putBytes_0 (N : Nat) (v1 : Int32) (I : gM) : hX5_putBytes_0 N v1 I =
  (hX5_putBytes_3 N N v1 24 I) := by
  show (fX5_putBytes_k0 N) [some (.ref 0), some (.int v1), none, none] [] I = _
  unfold fX5_putBytes_k0
  refine tt_const ?_
  refine tt_istore (L2 := [some (.ref 0), some (.int v1), some (.int 24), none]) (tt_lt rfl) rfl ?_
  refine tt_mask rfl ?_
  exact rfl
set_option maxRecDepth 100000 in
theorem eX5_putBytes_3 (N : Nat) (n3 : Nat) (v1 : Int32) (v2 : Int32) (I : gM) : hX5_putBytes_3 N (n3 + 1) v1 v2 I =
  (if gz_lt v2 = true then (some (.inl none, I)) else (if gz_eq ((gb_and (gb_ushr v1 v2) 255)) = true then (hX5_putBytes_49 N n3 v1 v2 I) else (if gc_ge (I 0 2) 700 = true then (hX5_putBytes_49 N n3 v1 v2 I) else (ck 700 (I 0 2) <| hX5_putBytes_49 N n3 v1 v2 (gU (gU I 1 ((Int32.toNatClampNeg (I 0 2))) ((gb_and (gb_ushr v1 v2) 255))) 0 2 ((gb_add (I 0 2) 1))))))) := by
  show (fX5_putBytes_b3 N (s_lp (fX5_putBytes_b3 N) n3)) [some (.ref 0), some (.int v1), some (.int v2), none] [] I = _
  unfold fX5_putBytes_b3
  refine tt_iload rfl ?_
  refine tt_if ?_ ?_
  · skip
    exact rfl
  · skip
    refine tt_iload rfl ?_
    refine tt_iload rfl ?_
    refine tt_bin ?_
    refine tt_const ?_
    refine tt_bin ?_
    refine tt_istore (L2 := [some (.ref 0), some (.int v1), some (.int v2), some (.int ((gb_and (gb_ushr v1 v2) 255)))]) (tt_lt rfl) rfl ?_
    refine tt_iload rfl ?_
    refine tt_if ?_ ?_
    · skip
      refine tt_mask rfl ?_
      exact rfl
    · skip
      refine tt_aload rfl ?_
      refine tt_get (x := (I 0 2)) rfl rfl rfl ?_
      refine tt_const ?_
      refine tt_cmp ?_ ?_
      · skip
        refine tt_mask rfl ?_
        exact rfl
      · skip
        refine tt_aload rfl ?_
        refine tt_getr (q := 1) rfl rfl ?_
        refine tt_aload rfl ?_
        refine tt_get (x := (I 0 2)) rfl rfl rfl ?_
        refine tt_iload rfl ?_
        refine tt_ast (v := (gb_and (gb_ushr v1 v2) 255)) rfl rfl ?_
        refine tt_aload rfl ?_
        refine tt_dup rfl ?_
        refine tt_get (x := (I 0 2)) rfl rfl rfl ?_
        refine tt_const ?_
        refine tt_bin ?_
        refine tt_put rfl rfl ?_
        refine tt_mask rfl ?_
        exact rfl
theorem eX5_putBytes_3z (N : Nat) (v1 : Int32) (v2 : Int32) (I : gM) : hX5_putBytes_3 N 0 v1 v2 I = none := (rfl)
set_option maxRecDepth 100000 in
theorem eX5_putBytes_49 (N : Nat) (n3 : Nat) (v1 : Int32) (v2 : Int32) (I : gM) : hX5_putBytes_49 N n3 v1 v2 I =
  (hX5_putBytes_3 N n3 v1 ((v2 + (-8))) I) := by
  show (fX5_putBytes_k49 N (s_lp (fX5_putBytes_b3 N) n3)) [some (.ref 0), some (.int v1), some (.int v2), none] [] I = _
  unfold fX5_putBytes_k49
  refine tt_iinc (L2 := [some (.ref 0), some (.int v1), some (.int ((v2 + (-8)))), none]) rfl rfl ?_
  refine tt_mask rfl ?_
  exact rfl
set_option maxRecDepth 100000 in
theorem eX5_putBytes (N : Nat) (v1 : Int32) (I : gM) : fX5_putBytes N [.ref 0, .int v1] I = hX5_putBytes_0 N v1 I := by
  show gFn 4 (fX5_putBytes_k0 N) [.ref 0, .int v1] I = (fX5_putBytes_k0 N) [some (.ref 0), some (.int v1), none, none] [] I
  exact tt_fn rfl rfl

def hX5_kindOf_0 (N : Nat) (v0 : Int32) (I : gM) : gO := fX5_kindOf_k0 N [some (.int v0)] [] I
def hX5_kindOf_14 (N : Nat) (v0 : Int32) (I : gM) : gO := fX5_kindOf_k14 N [some (.int v0)] [] I
set_option maxRecDepth 100000 in
theorem eX5_kindOf_0 (N : Nat) (v0 : Int32) (I : gM) : hX5_kindOf_0 N v0 I =
  (if gc_lt v0 97 = true then (hX5_kindOf_14 N v0 I) else (if gc_gt v0 122 = true then (hX5_kindOf_14 N v0 I) else (some (.inl (some (.int 1)), I)))) := by
  show (fX5_kindOf_k0 N) [some (.int v0)] [] I = _
  unfold fX5_kindOf_k0
  refine tt_iload rfl ?_
  refine tt_const ?_
  refine tt_cmp ?_ ?_
  · skip
    refine tt_mask rfl ?_
    exact rfl
  · skip
    refine tt_iload rfl ?_
    refine tt_const ?_
    refine tt_cmp ?_ ?_
    · skip
      refine tt_mask rfl ?_
      exact rfl
    · skip
      refine tt_const ?_
      exact rfl
set_option maxRecDepth 100000 in
theorem eX5_kindOf_14 (N : Nat) (v0 : Int32) (I : gM) : hX5_kindOf_14 N v0 I =
  (if gc_lt v0 48 = true then (some (.inl (some (.int 3)), I)) else (if gc_gt v0 57 = true then (some (.inl (some (.int 3)), I)) else (some (.inl (some (.int 2)), I)))) := by
  show (fX5_kindOf_k14 N) [some (.int v0)] [] I = _
  unfold fX5_kindOf_k14
  refine tt_iload rfl ?_
  refine tt_const ?_
  refine tt_cmp ?_ ?_
  · skip
    refine tt_const ?_
    exact rfl
  · skip
    refine tt_iload rfl ?_
    refine tt_const ?_
    refine tt_cmp ?_ ?_
    · skip
      refine tt_const ?_
      exact rfl
    · skip
      refine tt_const ?_
      exact rfl
set_option maxRecDepth 100000 in
theorem eX5_kindOf (N : Nat) (v0 : Int32) (I : gM) : fX5_kindOf N [.int v0] I = hX5_kindOf_0 N v0 I := by
  show gFn 1 (fX5_kindOf_k0 N) [.int v0] I = (fX5_kindOf_k0 N) [some (.int v0)] [] I
  exact tt_fn rfl rfl

def hX5_nextToken_0 (N : Nat) (n0 : Nat) (I : gM) : gO := s_lp (fX5_nextToken_b0 N) n0 [some (.ref 0), none] [] I
def hX5_nextToken_38 (N : Nat) (I : gM) : gO := fX5_nextToken_k38 N [some (.ref 0), none] [] I
def hX5_nextToken_79 (N : Nat) (s1 : Int32) (I : gM) : gO := fX5_nextToken_k79 N [some (.ref 0), none] [.int s1, .ref 0] I
def hX5_nextToken_114 (N : Nat) (n114 : Nat) (I : gM) : gO := s_lp (fX5_nextToken_b114 N) n114 [some (.ref 0), none] [] I
def hX5_nextToken_205 (N : Nat) (n114 : Nat) (I : gM) : gO := fX5_nextToken_k205 N (s_lp (fX5_nextToken_b114 N) n114) [some (.ref 0), none] [] I
def hX5_nextToken_170 (N : Nat) (n114 : Nat) (s0 : Int32) (I : gM) : gO := fX5_nextToken_k170 N (s_lp (fX5_nextToken_b114 N) n114) [some (.ref 0), none] [.int s0] I
def hX5_nextToken_202 (N : Nat) (n114 : Nat) (s1 : Int32) (I : gM) : gO := fX5_nextToken_k202 N (s_lp (fX5_nextToken_b114 N) n114) [some (.ref 0), none] [.int s1, .ref 0] I
set_option maxRecDepth 100000 in
theorem eX5_nextToken_0 (N : Nat) (n0 : Nat) (I : gM) : hX5_nextToken_0 N (n0 + 1) I =
  (if gc_ge (I 0 3) (I 0 2) = true then (hX5_nextToken_38 N I) else (ck 700 (I 0 3) <| if gc_ne ((I 1 ((Int32.toNatClampNeg (I 0 3))))) 32 = true then (hX5_nextToken_38 N I) else (hX5_nextToken_0 N n0 (gU I 0 3 ((gb_add (I 0 3) 1)))))) := by
  show (fX5_nextToken_b0 N (s_lp (fX5_nextToken_b0 N) n0)) [some (.ref 0), none] [] I = _
  unfold fX5_nextToken_b0
  refine tt_aload rfl ?_
  refine tt_get (x := (I 0 3)) rfl rfl rfl ?_
  refine tt_aload rfl ?_
  refine tt_get (x := (I 0 2)) rfl rfl rfl ?_
  refine tt_cmp ?_ ?_
  · skip
    refine tt_mask rfl ?_
    exact rfl
  · skip
    refine tt_aload rfl ?_
    refine tt_getr (q := 1) rfl rfl ?_
    refine tt_aload rfl ?_
    refine tt_get (x := (I 0 3)) rfl rfl rfl ?_
    refine tt_ald (x := (I 1 ((Int32.toNatClampNeg (I 0 3))))) rfl rfl ?_
    refine tt_const ?_
    refine tt_cmp ?_ ?_
    · skip
      refine tt_mask rfl ?_
      exact rfl
    · skip
      refine tt_aload rfl ?_
      refine tt_dup rfl ?_
      refine tt_get (x := (I 0 3)) rfl rfl rfl ?_
      refine tt_const ?_
      refine tt_bin ?_
      refine tt_put rfl rfl ?_
      refine tt_mask rfl ?_
      exact rfl
theorem eX5_nextToken_0z (N : Nat) (I : gM) : hX5_nextToken_0 N 0 I = none := (rfl)
set_option maxRecDepth 100000 in
theorem eX5_nextToken_38 (N : Nat) (I : gM) : hX5_nextToken_38 N I =
  (if gc_ge (I 0 3) (I 0 2) = true then (hX5_nextToken_79 N 0 (gU (gU I 0 5 (I 0 3)) 0 6 0)) else (ck 700 (I 0 3) <| hI (fX5_kindOf N [.int ((I 1 ((Int32.toNatClampNeg (I 0 3)))))] (gS [] (gU (gU I 0 5 (I 0 3)) 0 6 0))) [] (gU (gU I 0 5 (I 0 3)) 0 6 0) fun x1 I1 => hX5_nextToken_79 N x1 I1)) := by
  show (fX5_nextToken_k38 N) [some (.ref 0), none] [] I = _
  unfold fX5_nextToken_k38
  refine tt_aload rfl ?_
  refine tt_aload rfl ?_
  refine tt_get (x := (I 0 3)) rfl rfl rfl ?_
  refine tt_put rfl rfl ?_
  refine tt_aload rfl ?_
  refine tt_const ?_
  refine tt_put rfl rfl ?_
  refine tt_aload rfl ?_
  refine tt_aload rfl ?_
  refine tt_get (x := (I 0 3)) rfl rfl rfl ?_
  refine tt_aload rfl ?_
  refine tt_get (x := (I 0 2)) rfl rfl rfl ?_
  refine tt_cmp ?_ ?_
  · skip
    refine tt_const ?_
    refine tt_mask rfl ?_
    exact rfl
  · skip
    refine tt_aload rfl ?_
    refine tt_getr (q := 1) rfl rfl ?_
    refine tt_aload rfl ?_
    refine tt_get (x := (I 0 3)) rfl rfl rfl ?_
    refine tt_ald (x := (I 1 ((Int32.toNatClampNeg (I 0 3))))) rfl rfl ?_
    refine tt_caI (t := [.ref 0]) ⟨Nat.le_of_ble_eq_true rfl, Nat.le_of_ble_eq_true rfl⟩ rfl rfl rfl (fun x1 I1 => ?_)
    refine tt_mask rfl ?_
    exact rfl
set_option maxRecDepth 100000 in
theorem eX5_nextToken_79 (N : Nat) (s1 : Int32) (I : gM) : hX5_nextToken_79 N s1 I =
  (if gc_ne s1 3 = true then (hX5_nextToken_114 N N (gU I 0 4 s1)) else (ck 700 (I 0 3) <| some (.inl none, (gU (gU (gU I 0 4 s1) 0 6 ((I 1 ((Int32.toNatClampNeg (I 0 3)))))) 0 3 ((gb_add (I 0 3) 1)))))) := by
  show (fX5_nextToken_k79 N) [some (.ref 0), none] [.int s1, .ref 0] I = _
  unfold fX5_nextToken_k79
  refine tt_put rfl rfl ?_
  refine tt_aload rfl ?_
  refine tt_get (x := s1) rfl rfl rfl ?_
  refine tt_const ?_
  refine tt_cmp ?_ ?_
  · skip
    refine tt_mask rfl ?_
    exact rfl
  · skip
    refine tt_aload rfl ?_
    refine tt_aload rfl ?_
    refine tt_getr (q := 1) rfl rfl ?_
    refine tt_aload rfl ?_
    refine tt_get (x := (I 0 3)) rfl rfl rfl ?_
    refine tt_ald (x := (I 1 ((Int32.toNatClampNeg (I 0 3))))) rfl rfl ?_
    refine tt_put rfl rfl ?_
    refine tt_aload rfl ?_
    refine tt_dup rfl ?_
    refine tt_get (x := (I 0 3)) rfl rfl rfl ?_
    refine tt_const ?_
    refine tt_bin ?_
    refine tt_put rfl rfl ?_
    exact rfl
set_option maxRecDepth 100000 in
theorem eX5_nextToken_114 (N : Nat) (n114 : Nat) (I : gM) : hX5_nextToken_114 N (n114 + 1) I =
  (if gc_ge (I 0 3) (I 0 2) = true then (some (.inl none, I)) else (ck 700 (I 0 3) <| hI (fX5_kindOf N [.int ((I 1 ((Int32.toNatClampNeg (I 0 3)))))] (gS [] I)) [] I fun x2 I2 => if gc_ne x2 (I2 0 4) = true then (some (.inl none, I2)) else (if gc_ne (I2 0 4) 2 = true then (hX5_nextToken_205 N n114 I2) else (if gc_ge ((gb_sub (I2 0 3) (I2 0 5))) 3 = true then (hX5_nextToken_170 N n114 0 I2) else (hX5_nextToken_170 N n114 1 I2))))) := by
  show (fX5_nextToken_b114 N (s_lp (fX5_nextToken_b114 N) n114)) [some (.ref 0), none] [] I = _
  unfold fX5_nextToken_b114
  refine tt_aload rfl ?_
  refine tt_get (x := (I 0 3)) rfl rfl rfl ?_
  refine tt_aload rfl ?_
  refine tt_get (x := (I 0 2)) rfl rfl rfl ?_
  refine tt_cmp ?_ ?_
  · skip
    exact rfl
  · skip
    refine tt_aload rfl ?_
    refine tt_getr (q := 1) rfl rfl ?_
    refine tt_aload rfl ?_
    refine tt_get (x := (I 0 3)) rfl rfl rfl ?_
    refine tt_ald (x := (I 1 ((Int32.toNatClampNeg (I 0 3))))) rfl rfl ?_
    refine tt_caI (t := []) ⟨Nat.le_of_ble_eq_true rfl, Nat.le_of_ble_eq_true rfl⟩ rfl rfl rfl (fun x2 I2 => ?_)
    refine tt_aload rfl ?_
    refine tt_get (x := (I2 0 4)) rfl rfl rfl ?_
    refine tt_cmp ?_ ?_
    · skip
      exact rfl
    · skip
      refine tt_aload rfl ?_
      refine tt_get (x := (I2 0 4)) rfl rfl rfl ?_
      refine tt_const ?_
      refine tt_cmp ?_ ?_
      · skip
        refine tt_mask rfl ?_
        exact rfl
      · skip
        refine tt_aload rfl ?_
        refine tt_get (x := (I2 0 3)) rfl rfl rfl ?_
        refine tt_aload rfl ?_
        refine tt_get (x := (I2 0 5)) rfl rfl rfl ?_
        refine tt_bin ?_
        refine tt_const ?_
        refine tt_cmp ?_ ?_
        · skip
          refine tt_const ?_
          refine tt_mask rfl ?_
          exact rfl
        · skip
          refine tt_const ?_
          refine tt_mask rfl ?_
          exact rfl
theorem eX5_nextToken_114z (N : Nat) (I : gM) : hX5_nextToken_114 N 0 I = none := (rfl)
set_option maxRecDepth 100000 in
theorem eX5_nextToken_205 (N : Nat) (n114 : Nat) (I : gM) : hX5_nextToken_205 N n114 I =
  (hX5_nextToken_114 N n114 (gU I 0 3 ((gb_add (I 0 3) 1)))) := by
  show (fX5_nextToken_k205 N (s_lp (fX5_nextToken_b114 N) n114)) [some (.ref 0), none] [] I = _
  unfold fX5_nextToken_k205
  refine tt_aload rfl ?_
  refine tt_dup rfl ?_
  refine tt_get (x := (I 0 3)) rfl rfl rfl ?_
  refine tt_const ?_
  refine tt_bin ?_
  refine tt_put rfl rfl ?_
  refine tt_mask rfl ?_
  exact rfl
set_option maxRecDepth 100000 in
theorem eX5_nextToken_170 (N : Nat) (n114 : Nat) (s0 : Int32) (I : gM) : hX5_nextToken_170 N n114 s0 I =
  (if gz_eq s0 = true then (hX5_nextToken_202 N n114 1000 I) else (ck 700 (I 0 3) <| hX5_nextToken_202 N n114 ((gb_sub ((gb_add ((gb_mul 10 (I 0 6))) ((I 1 ((Int32.toNatClampNeg (I 0 3))))))) 48)) I)) := by
  show (fX5_nextToken_k170 N (s_lp (fX5_nextToken_b114 N) n114)) [some (.ref 0), none] [.int s0] I = _
  unfold fX5_nextToken_k170
  refine tt_istore (L2 := [some (.ref 0), some (.int s0)]) (tt_lt rfl) rfl ?_
  refine tt_aload rfl ?_
  refine tt_iload rfl ?_
  refine tt_if ?_ ?_
  · skip
    refine tt_const ?_
    refine tt_mask rfl ?_
    exact rfl
  · skip
    refine tt_const ?_
    refine tt_aload rfl ?_
    refine tt_get (x := (I 0 6)) rfl rfl rfl ?_
    refine tt_bin ?_
    refine tt_aload rfl ?_
    refine tt_getr (q := 1) rfl rfl ?_
    refine tt_aload rfl ?_
    refine tt_get (x := (I 0 3)) rfl rfl rfl ?_
    refine tt_ald (x := (I 1 ((Int32.toNatClampNeg (I 0 3))))) rfl rfl ?_
    refine tt_bin ?_
    refine tt_const ?_
    refine tt_bin ?_
    refine tt_mask rfl ?_
    exact rfl
set_option maxRecDepth 100000 in
theorem eX5_nextToken_202 (N : Nat) (n114 : Nat) (s1 : Int32) (I : gM) : hX5_nextToken_202 N n114 s1 I =
  (hX5_nextToken_205 N n114 (gU I 0 6 s1)) := by
  show (fX5_nextToken_k202 N (s_lp (fX5_nextToken_b114 N) n114)) [some (.ref 0), none] [.int s1, .ref 0] I = _
  unfold fX5_nextToken_k202
  refine tt_put rfl rfl ?_
  refine tt_mask rfl ?_
  exact rfl
set_option maxRecDepth 100000 in
theorem eX5_nextToken (N : Nat) (I : gM) : fX5_nextToken N [.ref 0] I = hX5_nextToken_0 N N I := by
  show gFn 2 (fX5_nextToken_k0 N) [.ref 0] I = (fX5_nextToken_k0 N) [some (.ref 0), none] [] I
  exact tt_fn rfl rfl

def hX5_isSemicolon_0 (N : Nat) (I : gM) : gO := fX5_isSemicolon_k0 N [some (.ref 0)] [] I
set_option maxRecDepth 100000 in
theorem eX5_isSemicolon_0 (N : Nat) (I : gM) : hX5_isSemicolon_0 N I =
  (if gc_ne (I 0 4) 3 = true then (some (.inl (some (.int 0)), I)) else (if gc_ne (I 0 6) 59 = true then (some (.inl (some (.int 0)), I)) else (some (.inl (some (.int 1)), I)))) := by
  show (fX5_isSemicolon_k0 N) [some (.ref 0)] [] I = _
  unfold fX5_isSemicolon_k0
  refine tt_aload rfl ?_
  refine tt_get (x := (I 0 4)) rfl rfl rfl ?_
  refine tt_const ?_
  refine tt_cmp ?_ ?_
  · skip
    refine tt_const ?_
    exact tt_zret (by decide)
  · skip
    refine tt_aload rfl ?_
    refine tt_get (x := (I 0 6)) rfl rfl rfl ?_
    refine tt_const ?_
    refine tt_cmp ?_ ?_
    · skip
      refine tt_const ?_
      exact tt_zret (by decide)
    · skip
      refine tt_const ?_
      exact tt_zret (by decide)
set_option maxRecDepth 100000 in
theorem eX5_isSemicolon (N : Nat) (I : gM) : fX5_isSemicolon N [.ref 0] I = hX5_isSemicolon_0 N I := by
  show gFn 1 (fX5_isSemicolon_k0 N) [.ref 0] I = (fX5_isSemicolon_k0 N) [some (.ref 0)] [] I
  exact tt_fn rfl rfl

def hX5_isNumber_0 (N : Nat) (v1 : Int32) (v2 : Int32) (I : gM) : gO := fX5_isNumber_k0 N [some (.ref 0), some (.int v1), some (.int v2)] [] I
set_option maxRecDepth 100000 in
theorem eX5_isNumber_0 (N : Nat) (v1 : Int32) (v2 : Int32) (I : gM) : hX5_isNumber_0 N v1 v2 I =
  (if gc_ne (I 0 4) 2 = true then (some (.inl (some (.int 0)), I)) else (if gc_lt (I 0 6) v1 = true then (some (.inl (some (.int 0)), I)) else (if gc_gt (I 0 6) v2 = true then (some (.inl (some (.int 0)), I)) else (some (.inl (some (.int 1)), I))))) := by
  show (fX5_isNumber_k0 N) [some (.ref 0), some (.int v1), some (.int v2)] [] I = _
  unfold fX5_isNumber_k0
  refine tt_aload rfl ?_
  refine tt_get (x := (I 0 4)) rfl rfl rfl ?_
  refine tt_const ?_
  refine tt_cmp ?_ ?_
  · skip
    refine tt_const ?_
    exact tt_zret (by decide)
  · skip
    refine tt_aload rfl ?_
    refine tt_get (x := (I 0 6)) rfl rfl rfl ?_
    refine tt_iload rfl ?_
    refine tt_cmp ?_ ?_
    · skip
      refine tt_const ?_
      exact tt_zret (by decide)
    · skip
      refine tt_aload rfl ?_
      refine tt_get (x := (I 0 6)) rfl rfl rfl ?_
      refine tt_iload rfl ?_
      refine tt_cmp ?_ ?_
      · skip
        refine tt_const ?_
        exact tt_zret (by decide)
      · skip
        refine tt_const ?_
        exact tt_zret (by decide)
set_option maxRecDepth 100000 in
theorem eX5_isNumber (N : Nat) (v1 : Int32) (v2 : Int32) (I : gM) : fX5_isNumber N [.ref 0, .int v1, .int v2] I = hX5_isNumber_0 N v1 v2 I := by
  show gFn 3 (fX5_isNumber_k0 N) [.ref 0, .int v1, .int v2] I = (fX5_isNumber_k0 N) [some (.ref 0), some (.int v1), some (.int v2)] [] I
  exact tt_fn rfl rfl

def hX5_readNodes_0 (N : Nat) (I : gM) : gO := fX5_readNodes_k0 N [some (.ref 0)] [] I
def hX5_readNodes_22 (N : Nat) (s0 : Int32) (I : gM) : gO := fX5_readNodes_k22 N [some (.ref 0)] [.int s0] I
set_option maxRecDepth 100000 in
theorem eX5_readNodes_0 (N : Nat) (I : gM) : hX5_readNodes_0 N I =
  (hI (fX5_isWord N [.ref 0, .ref 1000] (gS (rg 0 11) I)) (rg 0 11) I fun x1 I1 => if gz_ne x1 = true then (hV (fX5_nextToken N [.ref 0] (gS (rg 0 11) I1)) (rg 0 11) I1 fun I2 => hI (fX5_isNumber N [.ref 0, .int 2, .int 10] (gS (rg 0 11) I2)) (rg 0 11) I2 fun x3 I3 => hX5_readNodes_22 N x3 I3) else (some (.inl (some (.int 0)), I1))) := by
  show (fX5_readNodes_k0 N) [some (.ref 0)] [] I = _
  unfold fX5_readNodes_k0
  refine tt_aload rfl ?_
  refine tt_pref (q2 := 1000) rfl ?_
  refine tt_cavI (t := []) ⟨Nat.le_of_ble_eq_true rfl, Nat.le_of_ble_eq_true rfl⟩ rfl rfl rfl (fun x1 I1 => ?_)
  refine tt_if ?_ ?_
  · skip
    refine tt_aload rfl ?_
    refine tt_cavV (t := []) ⟨Nat.le_of_ble_eq_true rfl, Nat.le_of_ble_eq_true rfl⟩ rfl rfl rfl (fun I2 => ?_)
    refine tt_aload rfl ?_
    refine tt_const ?_
    refine tt_const ?_
    refine tt_cavI (t := []) ⟨Nat.le_of_ble_eq_true rfl, Nat.le_of_ble_eq_true rfl⟩ rfl rfl rfl (fun x3 I3 => ?_)
    refine tt_mask rfl ?_
    exact rfl
  · skip
    refine tt_const ?_
    exact tt_zret (by decide)
set_option maxRecDepth 100000 in
theorem eX5_readNodes_22 (N : Nat) (s0 : Int32) (I : gM) : hX5_readNodes_22 N s0 I =
  (if gz_ne s0 = true then (hV (fX2_clear N [.ref 0, .int (I 0 6)] (gS (rg 2 9) I)) (rg 2 9) I fun I4 => hV (fX5_nextToken N [.ref 0] (gS (rg 0 11) I4)) (rg 0 11) I4 fun I5 => some (.inl (some (.int 1)), I5)) else (some (.inl (some (.int 0)), I))) := by
  show (fX5_readNodes_k22 N) [some (.ref 0)] [.int s0] I = _
  unfold fX5_readNodes_k22
  refine tt_if ?_ ?_
  · skip
    refine tt_aload rfl ?_
    refine tt_getr (q := 2) rfl rfl ?_
    refine tt_aload rfl ?_
    refine tt_get (x := (I 0 6)) rfl rfl rfl ?_
    refine tt_cavV (t := []) ⟨Nat.le_of_ble_eq_true rfl, Nat.le_of_ble_eq_true rfl⟩ rfl rfl rfl (fun I4 => ?_)
    refine tt_aload rfl ?_
    refine tt_cavV (t := []) ⟨Nat.le_of_ble_eq_true rfl, Nat.le_of_ble_eq_true rfl⟩ rfl rfl rfl (fun I5 => ?_)
    refine tt_const ?_
    exact tt_zret (by decide)
  · skip
    refine tt_const ?_
    exact tt_zret (by decide)
set_option maxRecDepth 100000 in
theorem eX5_readNodes (N : Nat) (I : gM) : fX5_readNodes N [.ref 0] I = hX5_readNodes_0 N I := by
  show gFn 1 (fX5_readNodes_k0 N) [.ref 0] I = (fX5_readNodes_k0 N) [some (.ref 0)] [] I
  exact tt_fn rfl rfl

def hX5_readLink_0 (N : Nat) (I : gM) : gO := fX5_readLink_k0 N [some (.ref 0), none, none] [] I
def hX5_readLink_46 (N : Nat) (v1 : Int32) (I : gM) : gO := fX5_readLink_k46 N [some (.ref 0), some (.int v1), none] [] I
def hX5_readLink_98 (N : Nat) (v1 : Int32) (v2 : Int32) (I : gM) : gO := fX5_readLink_k98 N [some (.ref 0), some (.int v1), some (.int v2)] [] I
set_option maxRecDepth 100000 in
theorem eX5_readLink_0 (N : Nat) (I : gM) : hX5_readLink_0 N I =
  (if gc_lt (I 2 1) 14 = true then (hV (fX5_nextToken N [.ref 0] (gS (rg 0 11) I)) (rg 0 11) I fun I1 => hI (fX5_isNumber N [.ref 0, .int 0, .int ((gb_sub (I1 2 0) 1))] (gS (rg 0 11) I1)) (rg 0 11) I1 fun x2 I2 => if gz_ne x2 = true then (hV (fX5_nextToken N [.ref 0] (gS (rg 0 11) I2)) (rg 0 11) I2 fun I3 => hX5_readLink_46 N (I2 0 6) I3) else (some (.inl (some (.int 0)), I2))) else (some (.inl (some (.int 0)), I))) := by
  show (fX5_readLink_k0 N) [some (.ref 0), none, none] [] I = _
  unfold fX5_readLink_k0
  refine tt_aload rfl ?_
  refine tt_getr (q := 2) rfl rfl ?_
  refine tt_get (x := (I 2 1)) rfl rfl rfl ?_
  refine tt_const ?_
  refine tt_cmp ?_ ?_
  · skip
    refine tt_aload rfl ?_
    refine tt_cavV (t := []) ⟨Nat.le_of_ble_eq_true rfl, Nat.le_of_ble_eq_true rfl⟩ rfl rfl rfl (fun I1 => ?_)
    refine tt_aload rfl ?_
    refine tt_const ?_
    refine tt_aload rfl ?_
    refine tt_getr (q := 2) rfl rfl ?_
    refine tt_get (x := (I1 2 0)) rfl rfl rfl ?_
    refine tt_const ?_
    refine tt_bin ?_
    refine tt_cavI (t := []) ⟨Nat.le_of_ble_eq_true rfl, Nat.le_of_ble_eq_true rfl⟩ rfl rfl rfl (fun x2 I2 => ?_)
    refine tt_if ?_ ?_
    · skip
      refine tt_aload rfl ?_
      refine tt_get (x := (I2 0 6)) rfl rfl rfl ?_
      refine tt_istore (L2 := [some (.ref 0), some (.int (I2 0 6)), none]) (tt_lt rfl) rfl ?_
      refine tt_aload rfl ?_
      refine tt_cavV (t := []) ⟨Nat.le_of_ble_eq_true rfl, Nat.le_of_ble_eq_true rfl⟩ rfl rfl rfl (fun I3 => ?_)
      refine tt_mask rfl ?_
      exact rfl
    · skip
      refine tt_const ?_
      exact tt_zret (by decide)
  · skip
    refine tt_const ?_
    exact tt_zret (by decide)
set_option maxRecDepth 100000 in
theorem eX5_readLink_46 (N : Nat) (v1 : Int32) (I : gM) : hX5_readLink_46 N v1 I =
  (hI (fX5_isNumber N [.ref 0, .int 0, .int ((gb_sub (I 2 0) 1))] (gS (rg 0 11) I)) (rg 0 11) I fun x4 I4 => if gz_eq x4 = true then (some (.inl (some (.int 0)), I4)) else (if gc_eq (I4 0 6) v1 = true then (some (.inl (some (.int 0)), I4)) else (hI (fX2_findLink N [.ref 0, .int v1, .int (I4 0 6)] (gS (rg 2 9) I4)) (rg 2 9) I4 fun x5 I5 => if gc_eq x5 (-1) = true then (hV (fX5_nextToken N [.ref 0] (gS (rg 0 11) I5)) (rg 0 11) I5 fun I6 => hX5_readLink_98 N v1 (I5 0 6) I6) else (some (.inl (some (.int 0)), I5))))) := by
  show (fX5_readLink_k46 N) [some (.ref 0), some (.int v1), none] [] I = _
  unfold fX5_readLink_k46
  refine tt_aload rfl ?_
  refine tt_const ?_
  refine tt_aload rfl ?_
  refine tt_getr (q := 2) rfl rfl ?_
  refine tt_get (x := (I 2 0)) rfl rfl rfl ?_
  refine tt_const ?_
  refine tt_bin ?_
  refine tt_cavI (t := []) ⟨Nat.le_of_ble_eq_true rfl, Nat.le_of_ble_eq_true rfl⟩ rfl rfl rfl (fun x4 I4 => ?_)
  refine tt_if ?_ ?_
  · skip
    refine tt_const ?_
    exact tt_zret (by decide)
  · skip
    refine tt_aload rfl ?_
    refine tt_get (x := (I4 0 6)) rfl rfl rfl ?_
    refine tt_iload rfl ?_
    refine tt_cmp ?_ ?_
    · skip
      refine tt_const ?_
      exact tt_zret (by decide)
    · skip
      refine tt_aload rfl ?_
      refine tt_getr (q := 2) rfl rfl ?_
      refine tt_iload rfl ?_
      refine tt_aload rfl ?_
      refine tt_get (x := (I4 0 6)) rfl rfl rfl ?_
      refine tt_cavI (t := []) ⟨Nat.le_of_ble_eq_true rfl, Nat.le_of_ble_eq_true rfl⟩ rfl rfl rfl (fun x5 I5 => ?_)
      refine tt_const ?_
      refine tt_cmp ?_ ?_
      · skip
        refine tt_aload rfl ?_
        refine tt_get (x := (I5 0 6)) rfl rfl rfl ?_
        refine tt_istore (L2 := [some (.ref 0), some (.int v1), some (.int (I5 0 6))]) (tt_lt rfl) rfl ?_
        refine tt_aload rfl ?_
        refine tt_cavV (t := []) ⟨Nat.le_of_ble_eq_true rfl, Nat.le_of_ble_eq_true rfl⟩ rfl rfl rfl (fun I6 => ?_)
        refine tt_mask rfl ?_
        exact rfl
      · skip
        refine tt_const ?_
        exact tt_zret (by decide)
set_option maxRecDepth 100000 in
theorem eX5_readLink_98 (N : Nat) (v1 : Int32) (v2 : Int32) (I : gM) : hX5_readLink_98 N v1 v2 I =
  (hI (fX5_isNumber N [.ref 0, .int 1, .int 5] (gS (rg 0 11) I)) (rg 0 11) I fun x7 I7 => if gz_ne x7 = true then (hV (fX2_putLink N [.ref 0, .int v1, .int v2, .int (I7 0 6)] (gS (rg 2 9) I7)) (rg 2 9) I7 fun I8 => hV (fX5_nextToken N [.ref 0] (gS (rg 0 11) I8)) (rg 0 11) I8 fun I9 => some (.inl (some (.int 1)), I9)) else (some (.inl (some (.int 0)), I7))) := by
  show (fX5_readLink_k98 N) [some (.ref 0), some (.int v1), some (.int v2)] [] I = _
  unfold fX5_readLink_k98
  refine tt_aload rfl ?_
  refine tt_const ?_
  refine tt_const ?_
  refine tt_cavI (t := []) ⟨Nat.le_of_ble_eq_true rfl, Nat.le_of_ble_eq_true rfl⟩ rfl rfl rfl (fun x7 I7 => ?_)
  refine tt_if ?_ ?_
  · skip
    refine tt_aload rfl ?_
    refine tt_getr (q := 2) rfl rfl ?_
    refine tt_iload rfl ?_
    refine tt_iload rfl ?_
    refine tt_aload rfl ?_
    refine tt_get (x := (I7 0 6)) rfl rfl rfl ?_
    refine tt_cavV (t := []) ⟨Nat.le_of_ble_eq_true rfl, Nat.le_of_ble_eq_true rfl⟩ rfl rfl rfl (fun I8 => ?_)
    refine tt_aload rfl ?_
    refine tt_cavV (t := []) ⟨Nat.le_of_ble_eq_true rfl, Nat.le_of_ble_eq_true rfl⟩ rfl rfl rfl (fun I9 => ?_)
    refine tt_const ?_
    exact tt_zret (by decide)
  · skip
    refine tt_const ?_
    exact tt_zret (by decide)
set_option maxRecDepth 100000 in
theorem eX5_readLink (N : Nat) (I : gM) : fX5_readLink N [.ref 0] I = hX5_readLink_0 N I := by
  show gFn 3 (fX5_readLink_k0 N) [.ref 0] I = (fX5_readLink_k0 N) [some (.ref 0), none, none] [] I
  exact tt_fn rfl rfl

def hX5_readConflict_0 (N : Nat) (I : gM) : gO := fX5_readConflict_k0 N [some (.ref 0), none] [] I
def hX5_readConflict_64 (N : Nat) (v1 : Int32) (I : gM) : gO := fX5_readConflict_k64 N [some (.ref 0), some (.int v1)] [] I
def hX5_readConflict_119 (N : Nat) (I : gM) : gO := fX5_readConflict_k119 N [some (.ref 0), none] [] I
set_option maxRecDepth 100000 in
theorem eX5_readConflict_0 (N : Nat) (I : gM) : hX5_readConflict_0 N I =
  (if gc_ge (I 0 7) 40 = true then (some (.inl (some (.int 0)), I)) else (if gc_ge (I 2 1) 2 = true then (hV (fX5_nextToken N [.ref 0] (gS (rg 0 11) (gU I 0 7 ((gb_add (I 0 7) 1))))) (rg 0 11) (gU I 0 7 ((gb_add (I 0 7) 1))) fun I1 => hI (fX5_isNumber N [.ref 0, .int 0, .int ((gb_sub (I1 2 1) 1))] (gS (rg 0 11) I1)) (rg 0 11) I1 fun x2 I2 => if gz_ne x2 = true then (hV (fX5_nextToken N [.ref 0] (gS (rg 0 11) I2)) (rg 0 11) I2 fun I3 => hX5_readConflict_64 N (I2 0 6) I3) else (some (.inl (some (.int 0)), I2))) else (some (.inl (some (.int 0)), I)))) := by
  show (fX5_readConflict_k0 N) [some (.ref 0), none] [] I = _
  unfold fX5_readConflict_k0
  refine tt_aload rfl ?_
  refine tt_get (x := (I 0 7)) rfl rfl rfl ?_
  refine tt_const ?_
  refine tt_cmp ?_ ?_
  · skip
    refine tt_const ?_
    exact tt_zret (by decide)
  · skip
    refine tt_aload rfl ?_
    refine tt_getr (q := 2) rfl rfl ?_
    refine tt_get (x := (I 2 1)) rfl rfl rfl ?_
    refine tt_const ?_
    refine tt_cmp ?_ ?_
    · skip
      refine tt_aload rfl ?_
      refine tt_dup rfl ?_
      refine tt_get (x := (I 0 7)) rfl rfl rfl ?_
      refine tt_const ?_
      refine tt_bin ?_
      refine tt_put rfl rfl ?_
      refine tt_aload rfl ?_
      refine tt_cavV (t := []) ⟨Nat.le_of_ble_eq_true rfl, Nat.le_of_ble_eq_true rfl⟩ rfl rfl rfl (fun I1 => ?_)
      refine tt_aload rfl ?_
      refine tt_const ?_
      refine tt_aload rfl ?_
      refine tt_getr (q := 2) rfl rfl ?_
      refine tt_get (x := (I1 2 1)) rfl rfl rfl ?_
      refine tt_const ?_
      refine tt_bin ?_
      refine tt_cavI (t := []) ⟨Nat.le_of_ble_eq_true rfl, Nat.le_of_ble_eq_true rfl⟩ rfl rfl rfl (fun x2 I2 => ?_)
      refine tt_if ?_ ?_
      · skip
        refine tt_aload rfl ?_
        refine tt_get (x := (I2 0 6)) rfl rfl rfl ?_
        refine tt_istore (L2 := [some (.ref 0), some (.int (I2 0 6))]) (tt_lt rfl) rfl ?_
        refine tt_aload rfl ?_
        refine tt_cavV (t := []) ⟨Nat.le_of_ble_eq_true rfl, Nat.le_of_ble_eq_true rfl⟩ rfl rfl rfl (fun I3 => ?_)
        refine tt_mask rfl ?_
        exact rfl
      · skip
        refine tt_const ?_
        exact tt_zret (by decide)
    · skip
      refine tt_const ?_
      exact tt_zret (by decide)
set_option maxRecDepth 100000 in
theorem eX5_readConflict_64 (N : Nat) (v1 : Int32) (I : gM) : hX5_readConflict_64 N v1 I =
  (hI (fX5_isNumber N [.ref 0, .int 0, .int ((gb_sub (I 2 1) 1))] (gS (rg 0 11) I)) (rg 0 11) I fun x4 I4 => if gz_eq x4 = true then (some (.inl (some (.int 0)), I4)) else (if gc_eq (I4 0 6) v1 = true then (some (.inl (some (.int 0)), I4)) else (hI (fX2_inConflict N [.ref 0, .int v1, .int (I4 0 6)] (gS (rg 2 9) I4)) (rg 2 9) I4 fun x5 I5 => if gz_eq x5 = true then (hV (fX2_putConflict N [.ref 0, .int v1, .int (I5 0 6), .int 1] (gS (rg 2 9) I5)) (rg 2 9) I5 fun I6 => hX5_readConflict_119 N I6) else (some (.inl (some (.int 0)), I5))))) := by
  show (fX5_readConflict_k64 N) [some (.ref 0), some (.int v1)] [] I = _
  unfold fX5_readConflict_k64
  refine tt_aload rfl ?_
  refine tt_const ?_
  refine tt_aload rfl ?_
  refine tt_getr (q := 2) rfl rfl ?_
  refine tt_get (x := (I 2 1)) rfl rfl rfl ?_
  refine tt_const ?_
  refine tt_bin ?_
  refine tt_cavI (t := []) ⟨Nat.le_of_ble_eq_true rfl, Nat.le_of_ble_eq_true rfl⟩ rfl rfl rfl (fun x4 I4 => ?_)
  refine tt_if ?_ ?_
  · skip
    refine tt_const ?_
    exact tt_zret (by decide)
  · skip
    refine tt_aload rfl ?_
    refine tt_get (x := (I4 0 6)) rfl rfl rfl ?_
    refine tt_iload rfl ?_
    refine tt_cmp ?_ ?_
    · skip
      refine tt_const ?_
      exact tt_zret (by decide)
    · skip
      refine tt_aload rfl ?_
      refine tt_getr (q := 2) rfl rfl ?_
      refine tt_iload rfl ?_
      refine tt_aload rfl ?_
      refine tt_get (x := (I4 0 6)) rfl rfl rfl ?_
      refine tt_cavI (t := []) ⟨Nat.le_of_ble_eq_true rfl, Nat.le_of_ble_eq_true rfl⟩ rfl rfl rfl (fun x5 I5 => ?_)
      refine tt_if ?_ ?_
      · skip
        refine tt_aload rfl ?_
        refine tt_getr (q := 2) rfl rfl ?_
        refine tt_iload rfl ?_
        refine tt_aload rfl ?_
        refine tt_get (x := (I5 0 6)) rfl rfl rfl ?_
        refine tt_const ?_
        refine tt_cavV (t := []) ⟨Nat.le_of_ble_eq_true rfl, Nat.le_of_ble_eq_true rfl⟩ rfl rfl rfl (fun I6 => ?_)
        refine tt_mask rfl ?_
        exact rfl
      · skip
        refine tt_const ?_
        exact tt_zret (by decide)
set_option maxRecDepth 100000 in
theorem eX5_readConflict_119 (N : Nat) (I : gM) : hX5_readConflict_119 N I =
  (hV (fX5_nextToken N [.ref 0] (gS (rg 0 11) I)) (rg 0 11) I fun I7 => some (.inl (some (.int 1)), I7)) := by
  show (fX5_readConflict_k119 N) [some (.ref 0), none] [] I = _
  unfold fX5_readConflict_k119
  refine tt_aload rfl ?_
  refine tt_cavV (t := []) ⟨Nat.le_of_ble_eq_true rfl, Nat.le_of_ble_eq_true rfl⟩ rfl rfl rfl (fun I7 => ?_)
  refine tt_const ?_
  exact tt_zret (by decide)
set_option maxRecDepth 100000 in
theorem eX5_readConflict (N : Nat) (I : gM) : fX5_readConflict N [.ref 0] I = hX5_readConflict_0 N I := by
  show gFn 2 (fX5_readConflict_k0 N) [.ref 0] I = (fX5_readConflict_k0 N) [some (.ref 0), none] [] I
  exact tt_fn rfl rfl

def hX5_readBudget_0 (N : Nat) (v1 : Int32) (I : gM) : gO := fX5_readBudget_k0 N [some (.ref 0), some (.int v1)] [] I
def hX5_readBudget_30 (N : Nat) (I : gM) : gO := fX5_readBudget_k30 N [some (.ref 0), none] [] I
set_option maxRecDepth 100000 in
theorem eX5_readBudget_0 (N : Nat) (v1 : Int32) (I : gM) : hX5_readBudget_0 N v1 I =
  (hV (fX5_nextToken N [.ref 0] (gS (rg 0 11) I)) (rg 0 11) I fun I1 => hI (fX5_isNumber N [.ref 0, .int 0, .int 200] (gS (rg 0 11) I1)) (rg 0 11) I1 fun x2 I2 => if gz_ne x2 = true then (hV (fX2_putNumber N [.ref 0, .int v1, .int 3, .int (I2 0 6)] (gS (rg 2 9) I2)) (rg 2 9) I2 fun I3 => hX5_readBudget_30 N I3) else (some (.inl (some (.int 0)), I2))) := by
  show (fX5_readBudget_k0 N) [some (.ref 0), some (.int v1)] [] I = _
  unfold fX5_readBudget_k0
  refine tt_aload rfl ?_
  refine tt_cavV (t := []) ⟨Nat.le_of_ble_eq_true rfl, Nat.le_of_ble_eq_true rfl⟩ rfl rfl rfl (fun I1 => ?_)
  refine tt_aload rfl ?_
  refine tt_const ?_
  refine tt_const ?_
  refine tt_cavI (t := []) ⟨Nat.le_of_ble_eq_true rfl, Nat.le_of_ble_eq_true rfl⟩ rfl rfl rfl (fun x2 I2 => ?_)
  refine tt_if ?_ ?_
  · skip
    refine tt_aload rfl ?_
    refine tt_getr (q := 2) rfl rfl ?_
    refine tt_iload rfl ?_
    refine tt_const ?_
    refine tt_aload rfl ?_
    refine tt_get (x := (I2 0 6)) rfl rfl rfl ?_
    refine tt_cavV (t := []) ⟨Nat.le_of_ble_eq_true rfl, Nat.le_of_ble_eq_true rfl⟩ rfl rfl rfl (fun I3 => ?_)
    refine tt_mask rfl ?_
    exact rfl
  · skip
    refine tt_const ?_
    exact tt_zret (by decide)
set_option maxRecDepth 100000 in
theorem eX5_readBudget_30 (N : Nat) (I : gM) : hX5_readBudget_30 N I =
  (hV (fX5_nextToken N [.ref 0] (gS (rg 0 11) I)) (rg 0 11) I fun I4 => some (.inl (some (.int 1)), I4)) := by
  show (fX5_readBudget_k30 N) [some (.ref 0), none] [] I = _
  unfold fX5_readBudget_k30
  refine tt_aload rfl ?_
  refine tt_cavV (t := []) ⟨Nat.le_of_ble_eq_true rfl, Nat.le_of_ble_eq_true rfl⟩ rfl rfl rfl (fun I4 => ?_)
  refine tt_const ?_
  exact tt_zret (by decide)
set_option maxRecDepth 100000 in
theorem eX5_readBudget (N : Nat) (v1 : Int32) (I : gM) : fX5_readBudget N [.ref 0, .int v1] I = hX5_readBudget_0 N v1 I := by
  show gFn 2 (fX5_readBudget_k0 N) [.ref 0, .int v1] I = (fX5_readBudget_k0 N) [some (.ref 0), some (.int v1)] [] I
  exact tt_fn rfl rfl

def hX5_readFlow_0 (N : Nat) (I : gM) : gO := fX5_readFlow_k0 N [some (.ref 0), none, none, none] [] I
def hX5_readFlow_46 (N : Nat) (v1 : Int32) (I : gM) : gO := fX5_readFlow_k46 N [some (.ref 0), some (.int v1), none, none] [] I
def hX5_readFlow_90 (N : Nat) (v1 : Int32) (v2 : Int32) (s0 : Int32) (I : gM) : gO := fX5_readFlow_k90 N [some (.ref 0), some (.int v1), some (.int v2), none] [.int s0] I
def hX5_readFlow_127 (N : Nat) (v3 : Int32) (s0 : Int32) (I : gM) : gO := fX5_readFlow_k127 N [some (.ref 0), none, none, some (.int v3)] [.int s0] I
def hX5_readFlow_138 (N : Nat) (I : gM) : gO := fX5_readFlow_k138 N [none, none, none, none] [] I
set_option maxRecDepth 100000 in
theorem eX5_readFlow_0 (N : Nat) (I : gM) : hX5_readFlow_0 N I =
  (if gc_lt (I 2 2) 6 = true then (hV (fX5_nextToken N [.ref 0] (gS (rg 0 11) I)) (rg 0 11) I fun I1 => hI (fX5_isNumber N [.ref 0, .int 0, .int ((gb_sub (I1 2 0) 1))] (gS (rg 0 11) I1)) (rg 0 11) I1 fun x2 I2 => if gz_ne x2 = true then (hV (fX5_nextToken N [.ref 0] (gS (rg 0 11) I2)) (rg 0 11) I2 fun I3 => hX5_readFlow_46 N (I2 0 6) I3) else (some (.inl (some (.int 0)), I2))) else (some (.inl (some (.int 0)), I))) := by
  show (fX5_readFlow_k0 N) [some (.ref 0), none, none, none] [] I = _
  unfold fX5_readFlow_k0
  refine tt_aload rfl ?_
  refine tt_getr (q := 2) rfl rfl ?_
  refine tt_get (x := (I 2 2)) rfl rfl rfl ?_
  refine tt_const ?_
  refine tt_cmp ?_ ?_
  · skip
    refine tt_aload rfl ?_
    refine tt_cavV (t := []) ⟨Nat.le_of_ble_eq_true rfl, Nat.le_of_ble_eq_true rfl⟩ rfl rfl rfl (fun I1 => ?_)
    refine tt_aload rfl ?_
    refine tt_const ?_
    refine tt_aload rfl ?_
    refine tt_getr (q := 2) rfl rfl ?_
    refine tt_get (x := (I1 2 0)) rfl rfl rfl ?_
    refine tt_const ?_
    refine tt_bin ?_
    refine tt_cavI (t := []) ⟨Nat.le_of_ble_eq_true rfl, Nat.le_of_ble_eq_true rfl⟩ rfl rfl rfl (fun x2 I2 => ?_)
    refine tt_if ?_ ?_
    · skip
      refine tt_aload rfl ?_
      refine tt_get (x := (I2 0 6)) rfl rfl rfl ?_
      refine tt_istore (L2 := [some (.ref 0), some (.int (I2 0 6)), none, none]) (tt_lt rfl) rfl ?_
      refine tt_aload rfl ?_
      refine tt_cavV (t := []) ⟨Nat.le_of_ble_eq_true rfl, Nat.le_of_ble_eq_true rfl⟩ rfl rfl rfl (fun I3 => ?_)
      refine tt_mask rfl ?_
      exact rfl
    · skip
      refine tt_const ?_
      exact tt_zret (by decide)
  · skip
    refine tt_const ?_
    exact tt_zret (by decide)
set_option maxRecDepth 100000 in
theorem eX5_readFlow_46 (N : Nat) (v1 : Int32) (I : gM) : hX5_readFlow_46 N v1 I =
  (hI (fX5_isNumber N [.ref 0, .int 0, .int ((gb_sub (I 2 0) 1))] (gS (rg 0 11) I)) (rg 0 11) I fun x4 I4 => if gz_eq x4 = true then (some (.inl (some (.int 0)), I4)) else (if gc_ne (I4 0 6) v1 = true then (hV (fX5_nextToken N [.ref 0] (gS (rg 0 11) I4)) (rg 0 11) I4 fun I5 => hI (fX5_isNumber N [.ref 0, .int 0, .int 300] (gS (rg 0 11) I5)) (rg 0 11) I5 fun x6 I6 => hX5_readFlow_90 N v1 (I4 0 6) x6 I6) else (some (.inl (some (.int 0)), I4)))) := by
  show (fX5_readFlow_k46 N) [some (.ref 0), some (.int v1), none, none] [] I = _
  unfold fX5_readFlow_k46
  refine tt_aload rfl ?_
  refine tt_const ?_
  refine tt_aload rfl ?_
  refine tt_getr (q := 2) rfl rfl ?_
  refine tt_get (x := (I 2 0)) rfl rfl rfl ?_
  refine tt_const ?_
  refine tt_bin ?_
  refine tt_cavI (t := []) ⟨Nat.le_of_ble_eq_true rfl, Nat.le_of_ble_eq_true rfl⟩ rfl rfl rfl (fun x4 I4 => ?_)
  refine tt_if ?_ ?_
  · skip
    refine tt_const ?_
    exact tt_zret (by decide)
  · skip
    refine tt_aload rfl ?_
    refine tt_get (x := (I4 0 6)) rfl rfl rfl ?_
    refine tt_iload rfl ?_
    refine tt_cmp ?_ ?_
    · skip
      refine tt_aload rfl ?_
      refine tt_get (x := (I4 0 6)) rfl rfl rfl ?_
      refine tt_istore (L2 := [some (.ref 0), some (.int v1), some (.int (I4 0 6)), none]) (tt_lt rfl) rfl ?_
      refine tt_aload rfl ?_
      refine tt_cavV (t := []) ⟨Nat.le_of_ble_eq_true rfl, Nat.le_of_ble_eq_true rfl⟩ rfl rfl rfl (fun I5 => ?_)
      refine tt_aload rfl ?_
      refine tt_const ?_
      refine tt_const ?_
      refine tt_cavI (t := []) ⟨Nat.le_of_ble_eq_true rfl, Nat.le_of_ble_eq_true rfl⟩ rfl rfl rfl (fun x6 I6 => ?_)
      refine tt_mask rfl ?_
      exact rfl
    · skip
      refine tt_const ?_
      exact tt_zret (by decide)
set_option maxRecDepth 100000 in
theorem eX5_readFlow_90 (N : Nat) (v1 : Int32) (v2 : Int32) (s0 : Int32) (I : gM) : hX5_readFlow_90 N v1 v2 s0 I =
  (if gz_ne s0 = true then (hV (fX2_putFlow N [.ref 0, .int v1, .int v2, .int (I 0 6), .int 0] (gS (rg 2 9) I)) (rg 2 9) I fun I7 => hV (fX5_nextToken N [.ref 0] (gS (rg 0 11) I7)) (rg 0 11) I7 fun I8 => hI (fX5_isWord N [.ref 0, .ref 1004] (gS (rg 0 11) I8)) (rg 0 11) I8 fun x9 I9 => hX5_readFlow_127 N (I 2 2) x9 I9) else (some (.inl (some (.int 0)), I))) := by
  show (fX5_readFlow_k90 N) [some (.ref 0), some (.int v1), some (.int v2), none] [.int s0] I = _
  unfold fX5_readFlow_k90
  refine tt_if ?_ ?_
  · skip
    refine tt_aload rfl ?_
    refine tt_getr (q := 2) rfl rfl ?_
    refine tt_get (x := (I 2 2)) rfl rfl rfl ?_
    refine tt_istore (L2 := [some (.ref 0), some (.int v1), some (.int v2), some (.int (I 2 2))]) (tt_lt rfl) rfl ?_
    refine tt_aload rfl ?_
    refine tt_getr (q := 2) rfl rfl ?_
    refine tt_iload rfl ?_
    refine tt_iload rfl ?_
    refine tt_aload rfl ?_
    refine tt_get (x := (I 0 6)) rfl rfl rfl ?_
    refine tt_const ?_
    refine tt_cavV (t := []) ⟨Nat.le_of_ble_eq_true rfl, Nat.le_of_ble_eq_true rfl⟩ rfl rfl rfl (fun I7 => ?_)
    refine tt_aload rfl ?_
    refine tt_cavV (t := []) ⟨Nat.le_of_ble_eq_true rfl, Nat.le_of_ble_eq_true rfl⟩ rfl rfl rfl (fun I8 => ?_)
    refine tt_aload rfl ?_
    refine tt_pref (q2 := 1004) rfl ?_
    refine tt_cavI (t := []) ⟨Nat.le_of_ble_eq_true rfl, Nat.le_of_ble_eq_true rfl⟩ rfl rfl rfl (fun x9 I9 => ?_)
    refine tt_mask rfl ?_
    exact rfl
  · skip
    refine tt_const ?_
    exact tt_zret (by decide)
set_option maxRecDepth 100000 in
theorem eX5_readFlow_127 (N : Nat) (v3 : Int32) (s0 : Int32) (I : gM) : hX5_readFlow_127 N v3 s0 I =
  (if gz_eq s0 = true then (hX5_readFlow_138 N I) else (hI (fX5_readBudget N [.ref 0, .int v3] (gS (rg 0 11) I)) (rg 0 11) I fun x10 I10 => if gz_eq x10 = true then (some (.inl (some (.int 0)), I10)) else (hX5_readFlow_138 N I10))) := by
  show (fX5_readFlow_k127 N) [some (.ref 0), none, none, some (.int v3)] [.int s0] I = _
  unfold fX5_readFlow_k127
  refine tt_if ?_ ?_
  · skip
    refine tt_mask rfl ?_
    exact rfl
  · skip
    refine tt_aload rfl ?_
    refine tt_iload rfl ?_
    refine tt_cavI (t := []) ⟨Nat.le_of_ble_eq_true rfl, Nat.le_of_ble_eq_true rfl⟩ rfl rfl rfl (fun x10 I10 => ?_)
    refine tt_if ?_ ?_
    · skip
      refine tt_const ?_
      exact tt_zret (by decide)
    · skip
      refine tt_mask rfl ?_
      exact rfl
set_option maxRecDepth 100000 in
theorem eX5_readFlow_138 (N : Nat) (I : gM) : hX5_readFlow_138 N I =
  (some (.inl (some (.int 1)), I)) := by
  show (fX5_readFlow_k138 N) [none, none, none, none] [] I = _
  unfold fX5_readFlow_k138
  refine tt_const ?_
  exact tt_zret (by decide)
set_option maxRecDepth 100000 in
theorem eX5_readFlow (N : Nat) (I : gM) : fX5_readFlow N [.ref 0] I = hX5_readFlow_0 N I := by
  show gFn 4 (fX5_readFlow_k0 N) [.ref 0] I = (fX5_readFlow_k0 N) [some (.ref 0), none, none, none] [] I
  exact tt_fn rfl rfl

def hX5_beginSetting_0 (N : Nat) (v1 : Int32) (I : gM) : gO := fX5_beginSetting_k0 N [some (.ref 0), some (.int v1)] [] I
set_option maxRecDepth 100000 in
theorem eX5_beginSetting_0 (N : Nat) (v1 : Int32) (I : gM) : hX5_beginSetting_0 N v1 I =
  (if gc_ne ((gb_and ((gb_shr (I 0 8) v1)) 1)) 1 = true then (hV (fX5_nextToken N [.ref 0] (gS (rg 0 11) (gU I 0 8 ((gb_or (I 0 8) (gb_shl 1 v1)))))) (rg 0 11) (gU I 0 8 ((gb_or (I 0 8) (gb_shl 1 v1)))) fun I1 => some (.inl (some (.int 1)), I1)) else (some (.inl (some (.int 0)), I))) := by
  show (fX5_beginSetting_k0 N) [some (.ref 0), some (.int v1)] [] I = _
  unfold fX5_beginSetting_k0
  refine tt_aload rfl ?_
  refine tt_get (x := (I 0 8)) rfl rfl rfl ?_
  refine tt_iload rfl ?_
  refine tt_bin ?_
  refine tt_const ?_
  refine tt_bin ?_
  refine tt_const ?_
  refine tt_cmp ?_ ?_
  · skip
    refine tt_aload rfl ?_
    refine tt_dup rfl ?_
    refine tt_get (x := (I 0 8)) rfl rfl rfl ?_
    refine tt_const ?_
    refine tt_iload rfl ?_
    refine tt_bin ?_
    refine tt_bin ?_
    refine tt_put rfl rfl ?_
    refine tt_aload rfl ?_
    refine tt_cavV (t := []) ⟨Nat.le_of_ble_eq_true rfl, Nat.le_of_ble_eq_true rfl⟩ rfl rfl rfl (fun I1 => ?_)
    refine tt_const ?_
    exact tt_zret (by decide)
  · skip
    refine tt_const ?_
    exact tt_zret (by decide)
set_option maxRecDepth 100000 in
theorem eX5_beginSetting (N : Nat) (v1 : Int32) (I : gM) : fX5_beginSetting N [.ref 0, .int v1] I = hX5_beginSetting_0 N v1 I := by
  show gFn 2 (fX5_beginSetting_k0 N) [.ref 0, .int v1] I = (fX5_beginSetting_k0 N) [some (.ref 0), some (.int v1)] [] I
  exact tt_fn rfl rfl

def hX5_readChoice_0 (N : Nat) (v1 : Int32) (p2 : Nat) (p3 : Nat) (I : gM) : gO := fX5_readChoice_k0 N [some (.ref 0), some (.int v1), some (.ref p2), some (.ref p3)] [] I
def hX5_readChoice_26 (N : Nat) (v1 : Int32) (p3 : Nat) (I : gM) : gO := fX5_readChoice_k26 N [some (.ref 0), some (.int v1), none, some (.ref p3)] [] I
def hX5_readChoice_21 (N : Nat) (v1 : Int32) (p3 : Nat) (s0 : Int32) (I : gM) : gO := fX5_readChoice_k21 N [some (.ref 0), some (.int v1), none, some (.ref p3)] [.int s0] I
def hX5_readChoice_47 (N : Nat) (s1 : Int32) (s2 : Int32) (I : gM) : gO := fX5_readChoice_k47 N [some (.ref 0), none, none, none] [.int s2, .int s1, .ref 8] I
set_option maxRecDepth 100000 in
theorem eX5_readChoice_0 (N : Nat) (v1 : Int32) (p2 : Nat) (p3 : Nat) (I : gM) (hp2 : 1000 ≤ p2) (hp3 : 1000 ≤ p3) : hX5_readChoice_0 N v1 p2 p3 I =
  (hI (fX5_beginSetting N [.ref 0, .int v1] (gS (rg 0 11) I)) (rg 0 11) I fun x1 I1 => if gz_eq x1 = true then (some (.inl (some (.int 0)), I1)) else (hI (fX5_isWord N [.ref 0, .ref p2] (gS (rg 0 11) I1)) (rg 0 11) I1 fun x2 I2 => if gz_ne x2 = true then (hX5_readChoice_26 N v1 p3 I2) else (hI (fX5_isWord N [.ref 0, .ref p3] (gS (rg 0 11) I2)) (rg 0 11) I2 fun x3 I3 => hX5_readChoice_21 N v1 p3 x3 I3))) := by
  show (fX5_readChoice_k0 N) [some (.ref 0), some (.int v1), some (.ref p2), some (.ref p3)] [] I = _
  unfold fX5_readChoice_k0
  refine tt_aload rfl ?_
  refine tt_iload rfl ?_
  refine tt_cavI (t := []) ⟨Nat.le_of_ble_eq_true rfl, Nat.le_of_ble_eq_true rfl⟩ rfl rfl rfl (fun x1 I1 => ?_)
  refine tt_if ?_ ?_
  · skip
    refine tt_const ?_
    exact tt_zret (by decide)
  · skip
    refine tt_aload rfl ?_
    refine tt_aload rfl ?_
    refine tt_cavI (t := []) ⟨Nat.le_of_ble_eq_true rfl, Nat.le_of_ble_eq_true rfl⟩ (gBk_c (by decide) rfl (by decide) (gBk_p hp2 rfl)) rfl rfl (fun x2 I2 => ?_)
    refine tt_if ?_ ?_
    · skip
      refine tt_mask rfl ?_
      exact rfl
    · skip
      refine tt_aload rfl ?_
      refine tt_aload rfl ?_
      refine tt_cavI (t := []) ⟨Nat.le_of_ble_eq_true rfl, Nat.le_of_ble_eq_true rfl⟩ (gBk_c (by decide) rfl (by decide) (gBk_p hp3 rfl)) rfl rfl (fun x3 I3 => ?_)
      refine tt_mask rfl ?_
      exact rfl
set_option maxRecDepth 100000 in
theorem eX5_readChoice_26 (N : Nat) (v1 : Int32) (p3 : Nat) (I : gM) (hp3 : 1000 ≤ p3) : hX5_readChoice_26 N v1 p3 I =
  (hI (fX5_isWord N [.ref 0, .ref p3] (gS (rg 0 11) I)) (rg 0 11) I fun x4 I4 => if gz_eq x4 = true then (hX5_readChoice_47 N v1 0 I4) else (hX5_readChoice_47 N v1 1 I4)) := by
  show (fX5_readChoice_k26 N) [some (.ref 0), some (.int v1), none, some (.ref p3)] [] I = _
  unfold fX5_readChoice_k26
  refine tt_aload rfl ?_
  refine tt_getr (q := 2) rfl rfl ?_
  refine tt_getr (q := 8) rfl rfl ?_
  refine tt_iload rfl ?_
  refine tt_aload rfl ?_
  refine tt_aload rfl ?_
  refine tt_cavI (t := [.int v1, .ref 8]) ⟨Nat.le_of_ble_eq_true rfl, Nat.le_of_ble_eq_true rfl⟩ (gBk_c (by decide) rfl (by decide) (gBk_p hp3 rfl)) rfl rfl (fun x4 I4 => ?_)
  refine tt_if ?_ ?_
  · skip
    refine tt_const ?_
    refine tt_mask rfl ?_
    exact rfl
  · skip
    refine tt_const ?_
    refine tt_mask rfl ?_
    exact rfl
set_option maxRecDepth 100000 in
theorem eX5_readChoice_21 (N : Nat) (v1 : Int32) (p3 : Nat) (s0 : Int32) (I : gM) (hp3 : 1000 ≤ p3) : hX5_readChoice_21 N v1 p3 s0 I =
  (if gz_ne s0 = true then (hX5_readChoice_26 N v1 p3 I) else (some (.inl (some (.int 0)), I))) := by
  show (fX5_readChoice_k21 N) [some (.ref 0), some (.int v1), none, some (.ref p3)] [.int s0] I = _
  unfold fX5_readChoice_k21
  refine tt_if ?_ ?_
  · skip
    refine tt_mask rfl ?_
    exact rfl
  · skip
    refine tt_const ?_
    exact tt_zret (by decide)
set_option maxRecDepth 100000 in
theorem eX5_readChoice_47 (N : Nat) (s1 : Int32) (s2 : Int32) (I : gM) : hX5_readChoice_47 N s1 s2 I =
  (ck 4 s1 <| hV (fX5_nextToken N [.ref 0] (gS (rg 0 11) (gU I 8 (Int32.toNatClampNeg s1) s2))) (rg 0 11) (gU I 8 (Int32.toNatClampNeg s1) s2) fun I5 => some (.inl (some (.int 1)), I5)) := by
  show (fX5_readChoice_k47 N) [some (.ref 0), none, none, none] [.int s2, .int s1, .ref 8] I = _
  unfold fX5_readChoice_k47
  refine tt_ast (v := s2) rfl rfl ?_
  refine tt_aload rfl ?_
  refine tt_cavV (t := []) ⟨Nat.le_of_ble_eq_true rfl, Nat.le_of_ble_eq_true rfl⟩ rfl rfl rfl (fun I5 => ?_)
  refine tt_const ?_
  exact tt_zret (by decide)
set_option maxRecDepth 100000 in
theorem eX5_readChoice (N : Nat) (v1 : Int32) (p2 : Nat) (p3 : Nat) (I : gM) : fX5_readChoice N [.ref 0, .int v1, .ref p2, .ref p3] I = hX5_readChoice_0 N v1 p2 p3 I := by
  show gFn 4 (fX5_readChoice_k0 N) [.ref 0, .int v1, .ref p2, .ref p3] I = (fX5_readChoice_k0 N) [some (.ref 0), some (.int v1), some (.ref p2), some (.ref p3)] [] I
  exact tt_fn rfl rfl

def hX5_readSetting_0 (N : Nat) (v1 : Int32) (I : gM) : gO := fX5_readSetting_k0 N [some (.ref 0), some (.int v1)] [] I
set_option maxRecDepth 100000 in
theorem eX5_readSetting_0 (N : Nat) (v1 : Int32) (I : gM) : hX5_readSetting_0 N v1 I =
  (hI (fX5_beginSetting N [.ref 0, .int v1] (gS (rg 0 11) I)) (rg 0 11) I fun x1 I1 => if gz_eq x1 = true then (some (.inl (some (.int 0)), I1)) else (if gRng 1200 1201 1200 ∧ ¬ (v1 < 0 ∨ 4 ≤ (v1).toNatClampNeg) then hI (fX5_isNumber N [.ref 0, .int 0, .int ((gGS.getD (v1).toNatClampNeg 0))] (gS (rg 0 11) I1)) (rg 0 11) I1 fun x2 I2 => if gz_ne x2 = true then (ck 4 v1 <| hV (fX5_nextToken N [.ref 0] (gS (rg 0 11) (gU I2 8 (Int32.toNatClampNeg v1) (I2 0 6)))) (rg 0 11) (gU I2 8 (Int32.toNatClampNeg v1) (I2 0 6)) fun I3 => some (.inl (some (.int 1)), I3)) else (some (.inl (some (.int 0)), I2)) else none)) := by
  show (fX5_readSetting_k0 N) [some (.ref 0), some (.int v1)] [] I = _
  unfold fX5_readSetting_k0
  refine tt_aload rfl ?_
  refine tt_iload rfl ?_
  refine tt_cavI (t := []) ⟨Nat.le_of_ble_eq_true rfl, Nat.le_of_ble_eq_true rfl⟩ rfl rfl rfl (fun x1 I1 => ?_)
  refine tt_if ?_ ?_
  · skip
    refine tt_const ?_
    exact tt_zret (by decide)
  · skip
    refine tt_aload rfl ?_
    refine tt_const ?_
    refine tt_pref rfl ?_
    refine tt_iload rfl ?_
    refine tt_tld ?_
    refine tt_cavI (t := []) ⟨Nat.le_of_ble_eq_true rfl, Nat.le_of_ble_eq_true rfl⟩ rfl rfl rfl (fun x2 I2 => ?_)
    refine tt_if ?_ ?_
    · skip
      refine tt_aload rfl ?_
      refine tt_getr (q := 2) rfl rfl ?_
      refine tt_getr (q := 8) rfl rfl ?_
      refine tt_iload rfl ?_
      refine tt_aload rfl ?_
      refine tt_get (x := (I2 0 6)) rfl rfl rfl ?_
      refine tt_ast (v := (I2 0 6)) rfl rfl ?_
      refine tt_aload rfl ?_
      refine tt_cavV (t := []) ⟨Nat.le_of_ble_eq_true rfl, Nat.le_of_ble_eq_true rfl⟩ rfl rfl rfl (fun I3 => ?_)
      refine tt_const ?_
      exact tt_zret (by decide)
    · skip
      refine tt_const ?_
      exact tt_zret (by decide)
set_option maxRecDepth 100000 in
theorem eX5_readSetting (N : Nat) (v1 : Int32) (I : gM) : fX5_readSetting N [.ref 0, .int v1] I = hX5_readSetting_0 N v1 I := by
  show gFn 2 (fX5_readSetting_k0 N) [.ref 0, .int v1] I = (fX5_readSetting_k0 N) [some (.ref 0), some (.int v1)] [] I
  exact tt_fn rfl rfl

def hX5_readStatement_0 (N : Nat) (I : gM) : gO := fX5_readStatement_k0 N [some (.ref 0)] [] I
def hX5_readStatement_20 (N : Nat) (s0 : Int32) (I : gM) : gO := fX5_readStatement_k20 N [some (.ref 0)] [.int s0] I
def hX5_readStatement_48 (N : Nat) (s0 : Int32) (I : gM) : gO := fX5_readStatement_k48 N [some (.ref 0)] [.int s0] I
def hX5_readStatement_82 (N : Nat) (s0 : Int32) (I : gM) : gO := fX5_readStatement_k82 N [some (.ref 0)] [.int s0] I
set_option maxRecDepth 100000 in
theorem eX5_readStatement_0 (N : Nat) (I : gM) : hX5_readStatement_0 N I =
  (hI (fX5_isWord N [.ref 0, .ref 1001] (gS (rg 0 11) I)) (rg 0 11) I fun x1 I1 => if gz_eq x1 = true then (hI (fX5_isWord N [.ref 0, .ref 1002] (gS (rg 0 11) I1)) (rg 0 11) I1 fun x2 I2 => hX5_readStatement_20 N x2 I2) else (hI (fX5_readLink N [.ref 0] (gS (rg 0 11) I1)) (rg 0 11) I1 fun x3 I3 => if x3 = 0 ∨ x3 = 1 then some (.inl (some (.int x3)), I3) else none)) := by
  show (fX5_readStatement_k0 N) [some (.ref 0)] [] I = _
  unfold fX5_readStatement_k0
  refine tt_aload rfl ?_
  refine tt_pref (q2 := 1001) rfl ?_
  refine tt_cavI (t := []) ⟨Nat.le_of_ble_eq_true rfl, Nat.le_of_ble_eq_true rfl⟩ rfl rfl rfl (fun x1 I1 => ?_)
  refine tt_if ?_ ?_
  · skip
    refine tt_aload rfl ?_
    refine tt_pref (q2 := 1002) rfl ?_
    refine tt_cavI (t := []) ⟨Nat.le_of_ble_eq_true rfl, Nat.le_of_ble_eq_true rfl⟩ rfl rfl rfl (fun x2 I2 => ?_)
    refine tt_mask rfl ?_
    exact rfl
  · skip
    refine tt_aload rfl ?_
    refine tt_cavI (t := []) ⟨Nat.le_of_ble_eq_true rfl, Nat.le_of_ble_eq_true rfl⟩ rfl rfl rfl (fun x3 I3 => ?_)
    exact rfl
set_option maxRecDepth 100000 in
theorem eX5_readStatement_20 (N : Nat) (s0 : Int32) (I : gM) : hX5_readStatement_20 N s0 I =
  (if gz_eq s0 = true then (hI (fX5_isWord N [.ref 0, .ref 1003] (gS (rg 0 11) I)) (rg 0 11) I fun x4 I4 => if gz_eq x4 = true then (hI (fX5_isWord N [.ref 0, .ref 1005] (gS (rg 0 11) I4)) (rg 0 11) I4 fun x5 I5 => hX5_readStatement_48 N x5 I5) else (hI (fX5_readFlow N [.ref 0] (gS (rg 0 11) I4)) (rg 0 11) I4 fun x6 I6 => if x6 = 0 ∨ x6 = 1 then some (.inl (some (.int x6)), I6) else none)) else (hI (fX5_readConflict N [.ref 0] (gS (rg 0 11) I)) (rg 0 11) I fun x7 I7 => if x7 = 0 ∨ x7 = 1 then some (.inl (some (.int x7)), I7) else none)) := by
  show (fX5_readStatement_k20 N) [some (.ref 0)] [.int s0] I = _
  unfold fX5_readStatement_k20
  refine tt_if ?_ ?_
  · skip
    refine tt_aload rfl ?_
    refine tt_pref (q2 := 1003) rfl ?_
    refine tt_cavI (t := []) ⟨Nat.le_of_ble_eq_true rfl, Nat.le_of_ble_eq_true rfl⟩ rfl rfl rfl (fun x4 I4 => ?_)
    refine tt_if ?_ ?_
    · skip
      refine tt_aload rfl ?_
      refine tt_pref (q2 := 1005) rfl ?_
      refine tt_cavI (t := []) ⟨Nat.le_of_ble_eq_true rfl, Nat.le_of_ble_eq_true rfl⟩ rfl rfl rfl (fun x5 I5 => ?_)
      refine tt_mask rfl ?_
      exact rfl
    · skip
      refine tt_aload rfl ?_
      refine tt_cavI (t := []) ⟨Nat.le_of_ble_eq_true rfl, Nat.le_of_ble_eq_true rfl⟩ rfl rfl rfl (fun x6 I6 => ?_)
      exact rfl
  · skip
    refine tt_aload rfl ?_
    refine tt_cavI (t := []) ⟨Nat.le_of_ble_eq_true rfl, Nat.le_of_ble_eq_true rfl⟩ rfl rfl rfl (fun x7 I7 => ?_)
    exact rfl
set_option maxRecDepth 100000 in
theorem eX5_readStatement_48 (N : Nat) (s0 : Int32) (I : gM) : hX5_readStatement_48 N s0 I =
  (if gz_eq s0 = true then (hI (fX5_isWord N [.ref 0, .ref 1008] (gS (rg 0 11) I)) (rg 0 11) I fun x8 I8 => if gz_eq x8 = true then (hI (fX5_isWord N [.ref 0, .ref 1009] (gS (rg 0 11) I8)) (rg 0 11) I8 fun x9 I9 => hX5_readStatement_82 N x9 I9) else (hI (fX5_readSetting N [.ref 0, .int 1] (gS (rg 0 11) I8)) (rg 0 11) I8 fun x10 I10 => if x10 = 0 ∨ x10 = 1 then some (.inl (some (.int x10)), I10) else none)) else (hI (fX5_readChoice N [.ref 0, .int 0, .ref 1006, .ref 1007] (gS (rg 0 11) I)) (rg 0 11) I fun x11 I11 => if x11 = 0 ∨ x11 = 1 then some (.inl (some (.int x11)), I11) else none)) := by
  show (fX5_readStatement_k48 N) [some (.ref 0)] [.int s0] I = _
  unfold fX5_readStatement_k48
  refine tt_if ?_ ?_
  · skip
    refine tt_aload rfl ?_
    refine tt_pref (q2 := 1008) rfl ?_
    refine tt_cavI (t := []) ⟨Nat.le_of_ble_eq_true rfl, Nat.le_of_ble_eq_true rfl⟩ rfl rfl rfl (fun x8 I8 => ?_)
    refine tt_if ?_ ?_
    · skip
      refine tt_aload rfl ?_
      refine tt_pref (q2 := 1009) rfl ?_
      refine tt_cavI (t := []) ⟨Nat.le_of_ble_eq_true rfl, Nat.le_of_ble_eq_true rfl⟩ rfl rfl rfl (fun x9 I9 => ?_)
      refine tt_mask rfl ?_
      exact rfl
    · skip
      refine tt_aload rfl ?_
      refine tt_const ?_
      refine tt_cavI (t := []) ⟨Nat.le_of_ble_eq_true rfl, Nat.le_of_ble_eq_true rfl⟩ rfl rfl rfl (fun x10 I10 => ?_)
      exact rfl
  · skip
    refine tt_aload rfl ?_
    refine tt_const ?_
    refine tt_pref (q2 := 1006) rfl ?_
    refine tt_pref (q2 := 1007) rfl ?_
    refine tt_cavI (t := []) ⟨Nat.le_of_ble_eq_true rfl, Nat.le_of_ble_eq_true rfl⟩ rfl rfl rfl (fun x11 I11 => ?_)
    exact rfl
set_option maxRecDepth 100000 in
theorem eX5_readStatement_82 (N : Nat) (s0 : Int32) (I : gM) : hX5_readStatement_82 N s0 I =
  (if gz_eq s0 = true then (hI (fX5_isWord N [.ref 0, .ref 1010] (gS (rg 0 11) I)) (rg 0 11) I fun x12 I12 => if gz_eq x12 = true then (some (.inl (some (.int 0)), I12)) else (hI (fX5_readChoice N [.ref 0, .int 3, .ref 1011, .ref 1012] (gS (rg 0 11) I12)) (rg 0 11) I12 fun x13 I13 => if x13 = 0 ∨ x13 = 1 then some (.inl (some (.int x13)), I13) else none)) else (hI (fX5_readSetting N [.ref 0, .int 2] (gS (rg 0 11) I)) (rg 0 11) I fun x14 I14 => if x14 = 0 ∨ x14 = 1 then some (.inl (some (.int x14)), I14) else none)) := by
  show (fX5_readStatement_k82 N) [some (.ref 0)] [.int s0] I = _
  unfold fX5_readStatement_k82
  refine tt_if ?_ ?_
  · skip
    refine tt_aload rfl ?_
    refine tt_pref (q2 := 1010) rfl ?_
    refine tt_cavI (t := []) ⟨Nat.le_of_ble_eq_true rfl, Nat.le_of_ble_eq_true rfl⟩ rfl rfl rfl (fun x12 I12 => ?_)
    refine tt_if ?_ ?_
    · skip
      refine tt_const ?_
      exact tt_zret (by decide)
    · skip
      refine tt_aload rfl ?_
      refine tt_const ?_
      refine tt_pref (q2 := 1011) rfl ?_
      refine tt_pref (q2 := 1012) rfl ?_
      refine tt_cavI (t := []) ⟨Nat.le_of_ble_eq_true rfl, Nat.le_of_ble_eq_true rfl⟩ rfl rfl rfl (fun x13 I13 => ?_)
      exact rfl
  · skip
    refine tt_aload rfl ?_
    refine tt_const ?_
    refine tt_cavI (t := []) ⟨Nat.le_of_ble_eq_true rfl, Nat.le_of_ble_eq_true rfl⟩ rfl rfl rfl (fun x14 I14 => ?_)
    exact rfl
set_option maxRecDepth 100000 in
theorem eX5_readStatement (N : Nat) (I : gM) : fX5_readStatement N [.ref 0] I = hX5_readStatement_0 N I := by
  show gFn 1 (fX5_readStatement_k0 N) [.ref 0] I = (fX5_readStatement_k0 N) [some (.ref 0)] [] I
  exact tt_fn rfl rfl

def hX5_read_0 (N : Nat) (I : gM) : gO := fX5_read_k0 N [some (.ref 0), none] [] I
def hX5_read_33 (N : Nat) (n33 : Nat) (v1 : Int32) (I : gM) : gO := s_lp (fX5_read_b33 N) n33 [some (.ref 0), some (.int v1)] [] I
def hX5_read_69 (N : Nat) (I : gM) : gO := fX5_read_k69 N [some (.ref 0), none] [] I
def hX5_read_55 (N : Nat) (n33 : Nat) (v1 : Int32) (s0 : Int32) (I : gM) : gO := fX5_read_k55 N (s_lp (fX5_read_b33 N) n33) [some (.ref 0), some (.int v1)] [.int s0] I
set_option maxRecDepth 100000 in
theorem eX5_read_0 (N : Nat) (I : gM) : hX5_read_0 N I =
  (hV (fX5_nextToken N [.ref 0] (gS (rg 0 11) (gU (gU (gU I 0 3 0) 0 7 0) 0 8 0))) (rg 0 11) (gU (gU (gU I 0 3 0) 0 7 0) 0 8 0) fun I1 => hI (fX5_readNodes N [.ref 0] (gS (rg 0 11) I1)) (rg 0 11) I1 fun x2 I2 => if gz_ne x2 = true then (hX5_read_33 N N 0 I2) else (some (.inl (some (.int (I2 0 5))), I2))) := by
  show (fX5_read_k0 N) [some (.ref 0), none] [] I = _
  unfold fX5_read_k0
  refine tt_aload rfl ?_
  refine tt_const ?_
  refine tt_put rfl rfl ?_
  refine tt_aload rfl ?_
  refine tt_const ?_
  refine tt_put rfl rfl ?_
  refine tt_aload rfl ?_
  refine tt_const ?_
  refine tt_put rfl rfl ?_
  refine tt_aload rfl ?_
  refine tt_cavV (t := []) ⟨Nat.le_of_ble_eq_true rfl, Nat.le_of_ble_eq_true rfl⟩ rfl rfl rfl (fun I1 => ?_)
  refine tt_aload rfl ?_
  refine tt_cavI (t := []) ⟨Nat.le_of_ble_eq_true rfl, Nat.le_of_ble_eq_true rfl⟩ rfl rfl rfl (fun x2 I2 => ?_)
  refine tt_if ?_ ?_
  · skip
    refine tt_const ?_
    refine tt_istore (L2 := [some (.ref 0), some (.int 0)]) (tt_lt rfl) rfl ?_
    refine tt_mask rfl ?_
    exact rfl
  · skip
    refine tt_aload rfl ?_
    refine tt_get (x := (I2 0 5)) rfl rfl rfl ?_
    exact rfl
set_option maxRecDepth 100000 in
theorem eX5_read_33 (N : Nat) (n33 : Nat) (v1 : Int32) (I : gM) : hX5_read_33 N (n33 + 1) v1 I =
  (if gc_ge v1 700 = true then (hX5_read_69 N I) else (hI (fX5_isSemicolon N [.ref 0] (gS (rg 0 11) I)) (rg 0 11) I fun x3 I3 => if gz_eq x3 = true then (hX5_read_69 N I3) else (hV (fX5_nextToken N [.ref 0] (gS (rg 0 11) I3)) (rg 0 11) I3 fun I4 => hI (fX5_readStatement N [.ref 0] (gS (rg 0 11) I4)) (rg 0 11) I4 fun x5 I5 => hX5_read_55 N n33 v1 x5 I5))) := by
  show (fX5_read_b33 N (s_lp (fX5_read_b33 N) n33)) [some (.ref 0), some (.int v1)] [] I = _
  unfold fX5_read_b33
  refine tt_iload rfl ?_
  refine tt_const ?_
  refine tt_cmp ?_ ?_
  · skip
    refine tt_mask rfl ?_
    exact rfl
  · skip
    refine tt_aload rfl ?_
    refine tt_cavI (t := []) ⟨Nat.le_of_ble_eq_true rfl, Nat.le_of_ble_eq_true rfl⟩ rfl rfl rfl (fun x3 I3 => ?_)
    refine tt_if ?_ ?_
    · skip
      refine tt_mask rfl ?_
      exact rfl
    · skip
      refine tt_aload rfl ?_
      refine tt_cavV (t := []) ⟨Nat.le_of_ble_eq_true rfl, Nat.le_of_ble_eq_true rfl⟩ rfl rfl rfl (fun I4 => ?_)
      refine tt_aload rfl ?_
      refine tt_cavI (t := []) ⟨Nat.le_of_ble_eq_true rfl, Nat.le_of_ble_eq_true rfl⟩ rfl rfl rfl (fun x5 I5 => ?_)
      refine tt_mask rfl ?_
      exact rfl
theorem eX5_read_33z (N : Nat) (v1 : Int32) (I : gM) : hX5_read_33 N 0 v1 I = none := (rfl)
set_option maxRecDepth 100000 in
theorem eX5_read_69 (N : Nat) (I : gM) : hX5_read_69 N I =
  (if gz_ne (I 0 4) = true then (some (.inl (some (.int (I 0 5))), I)) else (some (.inl (some (.int (-1))), I))) := by
  show (fX5_read_k69 N) [some (.ref 0), none] [] I = _
  unfold fX5_read_k69
  refine tt_aload rfl ?_
  refine tt_get (x := (I 0 4)) rfl rfl rfl ?_
  refine tt_if ?_ ?_
  · skip
    refine tt_aload rfl ?_
    refine tt_get (x := (I 0 5)) rfl rfl rfl ?_
    exact rfl
  · skip
    refine tt_const ?_
    exact rfl
set_option maxRecDepth 100000 in
theorem eX5_read_55 (N : Nat) (n33 : Nat) (v1 : Int32) (s0 : Int32) (I : gM) : hX5_read_55 N n33 v1 s0 I =
  (if gz_ne s0 = true then (hX5_read_33 N n33 (v1 + 1) I) else (some (.inl (some (.int (I 0 5))), I))) := by
  show (fX5_read_k55 N (s_lp (fX5_read_b33 N) n33)) [some (.ref 0), some (.int v1)] [.int s0] I = _
  unfold fX5_read_k55
  refine tt_if ?_ ?_
  · skip
    refine tt_iinc (L2 := [some (.ref 0), some (.int (v1 + 1))]) rfl rfl ?_
    refine tt_mask rfl ?_
    exact rfl
  · skip
    refine tt_aload rfl ?_
    refine tt_get (x := (I 0 5)) rfl rfl rfl ?_
    exact rfl
set_option maxRecDepth 100000 in
theorem eX5_read (N : Nat) (I : gM) : fX5_read N [.ref 0] I = hX5_read_0 N I := by
  show gFn 2 (fX5_read_k0 N) [.ref 0] I = (fX5_read_k0 N) [some (.ref 0), none] [] I
  exact tt_fn rfl rfl

