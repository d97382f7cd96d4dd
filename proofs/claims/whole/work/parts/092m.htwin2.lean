def hX9_queued_0 (N : Nat) (v1 : Int32) (v2 : Int32) (I : gM) : gO := fX9_queued_k0 N [some (.ref 0), some (.int v1), some (.int v2), none, none] [] I
def hX9_queued_5 (N : Nat) (n5 : Nat) (v1 : Int32) (v2 : Int32) (v3 : Int32) (v4 : Int32) (I : gM) : gO := s_lp (fX9_queued_b5 N) n5 [some (.ref 0), some (.int v1), some (.int v2), some (.int v3), some (.int v4)] [] I
def hX9_queued_35 (N : Nat) (n5 : Nat) (v1 : Int32) (v2 : Int32) (v4 : Int32) (s0 : Int32) (s1 : Int32) (I : gM) : gO := fX9_queued_k35 N (s_lp (fX9_queued_b5 N) n5) [some (.ref 0), some (.int v1), some (.int v2), none, some (.int v4)] [.int s1, .int s0] I
set_option maxRecDepth 100000 in
theorem eX9_queued_0 (N : Nat) (v1 : Int32) (v2 : Int32) (I : gM) : hX9_queued_0 N v1 v2 I =
  (hX9_queued_5 N N v1 v2 0 0 I) := by
  show (fX9_queued_k0 N) [some (.ref 0), some (.int v1), some (.int v2), none, none] [] I = _
  unfold fX9_queued_k0
  refine tt_const ?_
  refine tt_istore (L2 := [some (.ref 0), some (.int v1), some (.int v2), some (.int 0), none]) (tt_lt rfl) rfl ?_
  refine tt_const ?_
  refine tt_istore (L2 := [some (.ref 0), some (.int v1), some (.int v2), some (.int 0), some (.int 0)]) (tt_lt rfl) rfl ?_
  refine tt_mask rfl ?_
  exact rfl
set_option maxRecDepth 100000 in
theorem eX9_queued_5 (N : Nat) (n5 : Nat) (v1 : Int32) (v2 : Int32) (v3 : Int32) (v4 : Int32) (I : gM) : hX9_queued_5 N (n5 + 1) v1 v2 v3 v4 I =
  (ck 2746 245 <| if gc_ge v4 ((I 3 (Int32.toNatClampNeg 245))) = true then (some (.inl (some (.int v3)), I)) else (hI (fX9_isQueued N [.ref 0, .int v4, .int v1, .int v2] (gS (rg 0 18) I)) (rg 0 18) I fun x1 I1 => if gz_eq x1 = true then (hX9_queued_35 N n5 v1 v2 v4 v3 0 I1) else (hX9_queued_35 N n5 v1 v2 v4 v3 1 I1))) := by
  show (fX9_queued_b5 N (s_lp (fX9_queued_b5 N) n5)) [some (.ref 0), some (.int v1), some (.int v2), some (.int v3), some (.int v4)] [] I = _
  unfold fX9_queued_b5
  refine tt_iload rfl ?_
  refine tt_aload rfl ?_
  refine tt_getr (q := 3) rfl rfl ?_
  refine tt_const ?_
  refine tt_ald (x := (I 3 (Int32.toNatClampNeg 245))) rfl rfl ?_
  refine tt_cmp ?_ ?_
  · skip
    refine tt_iload rfl ?_
    exact rfl
  · skip
    refine tt_iload rfl ?_
    refine tt_aload rfl ?_
    refine tt_iload rfl ?_
    refine tt_iload rfl ?_
    refine tt_iload rfl ?_
    refine tt_cavI (t := [.int v3]) ⟨Nat.le_of_ble_eq_true rfl, Nat.le_of_ble_eq_true rfl⟩ rfl rfl rfl (fun x1 I1 => ?_)
    refine tt_if ?_ ?_
    · skip
      refine tt_const ?_
      refine tt_mask rfl ?_
      exact rfl
    · skip
      refine tt_const ?_
      refine tt_mask rfl ?_
      exact rfl
theorem eX9_queued_5z (N : Nat) (v1 : Int32) (v2 : Int32) (v3 : Int32) (v4 : Int32) (I : gM) : hX9_queued_5 N 0 v1 v2 v3 v4 I = none := (rfl)
set_option maxRecDepth 100000 in
theorem eX9_queued_35 (N : Nat) (n5 : Nat) (v1 : Int32) (v2 : Int32) (v4 : Int32) (s0 : Int32) (s1 : Int32) (I : gM) : hX9_queued_35 N n5 v1 v2 v4 s0 s1 I =
  (hX9_queued_5 N n5 v1 v2 (gb_add s0 s1) (v4 + 1) I) := by
  show (fX9_queued_k35 N (s_lp (fX9_queued_b5 N) n5)) [some (.ref 0), some (.int v1), some (.int v2), none, some (.int v4)] [.int s1, .int s0] I = _
  unfold fX9_queued_k35
  refine tt_bin ?_
  refine tt_istore (L2 := [some (.ref 0), some (.int v1), some (.int v2), some (.int (gb_add s0 s1)), some (.int v4)]) (tt_lt rfl) rfl ?_
  refine tt_iinc (L2 := [some (.ref 0), some (.int v1), some (.int v2), some (.int (gb_add s0 s1)), some (.int (v4 + 1))]) rfl rfl ?_
  refine tt_mask rfl ?_
  exact rfl
set_option maxRecDepth 100000 in
theorem eX9_queued (N : Nat) (v1 : Int32) (v2 : Int32) (I : gM) : fX9_queued N [.ref 0, .int v1, .int v2] I = hX9_queued_0 N v1 v2 I := by
  show gFn 5 (fX9_queued_k0 N) [.ref 0, .int v1, .int v2] I = (fX9_queued_k0 N) [some (.ref 0), some (.int v1), some (.int v2), none, none] [] I
  exact tt_fn rfl rfl

def hX9_shadowOf_0 (N : Nat) (v1 : Int32) (v2 : Int32) (I : gM) : gO := fX9_shadowOf_k0 N [some (.ref 0), some (.int v1), some (.int v2)] [] I
set_option maxRecDepth 100000 in
theorem eX9_shadowOf_0 (N : Nat) (v1 : Int32) (v2 : Int32) (I : gM) : hX9_shadowOf_0 N v1 v2 I =
  (ck 2746 ((gb_add ((gb_add 145 (gb_mul 10 v1))) v2)) <| some (.inl (some (.int ((I 3 ((Int32.toNatClampNeg ((gb_add ((gb_add 145 (gb_mul 10 v1))) v2)))))))), I)) := by
  show (fX9_shadowOf_k0 N) [some (.ref 0), some (.int v1), some (.int v2)] [] I = _
  unfold fX9_shadowOf_k0
  refine tt_aload rfl ?_
  refine tt_getr (q := 3) rfl rfl ?_
  refine tt_const ?_
  refine tt_const ?_
  refine tt_iload rfl ?_
  refine tt_bin ?_
  refine tt_bin ?_
  refine tt_iload rfl ?_
  refine tt_bin ?_
  refine tt_ald (x := (I 3 ((Int32.toNatClampNeg ((gb_add ((gb_add 145 (gb_mul 10 v1))) v2)))))) rfl rfl ?_
  exact rfl
set_option maxRecDepth 100000 in
theorem eX9_shadowOf (N : Nat) (v1 : Int32) (v2 : Int32) (I : gM) : fX9_shadowOf N [.ref 0, .int v1, .int v2] I = hX9_shadowOf_0 N v1 v2 I := by
  show gFn 3 (fX9_shadowOf_k0 N) [.ref 0, .int v1, .int v2] I = (fX9_shadowOf_k0 N) [some (.ref 0), some (.int v1), some (.int v2)] [] I
  exact tt_fn rfl rfl

def hX9_stayAll_0 (N : Nat) (I : gM) : gO := fX9_stayAll_k0 N [some (.ref 0), none] [] I
def hX9_stayAll_2 (N : Nat) (n2 : Nat) (v1 : Int32) (I : gM) : gO := s_lp (fX9_stayAll_b2 N) n2 [some (.ref 0), some (.int v1)] [] I
set_option maxRecDepth 100000 in
theorem eX9_stayAll_0 (N : Nat) (I : gM) : hX9_stayAll_0 N I =
  (hX9_stayAll_2 N N 0 I) := by
  show (fX9_stayAll_k0 N) [some (.ref 0), none] [] I = _
  unfold fX9_stayAll_k0
  refine tt_const ?_
  refine tt_istore (L2 := [some (.ref 0), some (.int 0)]) (tt_lt rfl) rfl ?_
  refine tt_mask rfl ?_
  exact rfl
set_option maxRecDepth 100000 in
theorem eX9_stayAll_2 (N : Nat) (n2 : Nat) (v1 : Int32) (I : gM) : hX9_stayAll_2 N (n2 + 1) v1 I =
  (if gc_ge v1 500 = true then (some (.inl none, I)) else (ck 500 v1 <| hX9_stayAll_2 N n2 (v1 + 1) (gU I 7 (Int32.toNatClampNeg v1) (vp_nar .boolean 0)))) := by
  show (fX9_stayAll_b2 N (s_lp (fX9_stayAll_b2 N) n2)) [some (.ref 0), some (.int v1)] [] I = _
  unfold fX9_stayAll_b2
  refine tt_iload rfl ?_
  refine tt_const ?_
  refine tt_cmp ?_ ?_
  · skip
    exact rfl
  · skip
    refine tt_aload rfl ?_
    refine tt_getr (q := 7) rfl rfl ?_
    refine tt_iload rfl ?_
    refine tt_const ?_
    refine tt_ast (v := (vp_nar .boolean 0)) rfl rfl ?_
    refine tt_iinc (L2 := [some (.ref 0), some (.int (v1 + 1))]) rfl rfl ?_
    refine tt_mask rfl ?_
    exact rfl
theorem eX9_stayAll_2z (N : Nat) (v1 : Int32) (I : gM) : hX9_stayAll_2 N 0 v1 I = none := (rfl)
set_option maxRecDepth 100000 in
theorem eX9_stayAll (N : Nat) (I : gM) : fX9_stayAll N [.ref 0] I = hX9_stayAll_0 N I := by
  show gFn 2 (fX9_stayAll_k0 N) [.ref 0] I = (fX9_stayAll_k0 N) [some (.ref 0), none] [] I
  exact tt_fn rfl rfl

def hX9_closeUp_0 (N : Nat) (I : gM) : gO := fX9_closeUp_k0 N [some (.ref 0), none, none, none] [] I
def hX9_closeUp_4 (N : Nat) (n4 : Nat) (v1 : Int32) (v2 : Int32) (I : gM) : gO := s_lp (fX9_closeUp_b4 N) n4 [some (.ref 0), some (.int v1), some (.int v2), none] [] I
def hX9_closeUp_18 (N : Nat) (n4 : Nat) (n18 : Nat) (v1 : Int32) (v2 : Int32) (v3 : Int32) (I : gM) : gO := s_lp (fX9_closeUp_b18 N (s_lp (fX9_closeUp_b4 N) n4)) n18 [some (.ref 0), some (.int v1), some (.int v2), some (.int v3)] [] I
def hX9_closeUp_58 (N : Nat) (n4 : Nat) (v1 : Int32) (v2 : Int32) (I : gM) : gO := fX9_closeUp_k58 N (s_lp (fX9_closeUp_b4 N) n4) [some (.ref 0), some (.int v1), some (.int v2), none] [] I
def hX9_closeUp_73 (N : Nat) (n4 : Nat) (v2 : Int32) (s0 : Int32) (s1 : Int32) (I : gM) : gO := fX9_closeUp_k73 N (s_lp (fX9_closeUp_b4 N) n4) [some (.ref 0), none, some (.int v2), none] [.int s1, .int s0] I
set_option maxRecDepth 100000 in
theorem eX9_closeUp_0 (N : Nat) (I : gM) : hX9_closeUp_0 N I =
  (hX9_closeUp_4 N N 0 0 I) := by
  show (fX9_closeUp_k0 N) [some (.ref 0), none, none, none] [] I = _
  unfold fX9_closeUp_k0
  refine tt_const ?_
  refine tt_istore (L2 := [some (.ref 0), some (.int 0), none, none]) (tt_lt rfl) rfl ?_
  refine tt_const ?_
  refine tt_istore (L2 := [some (.ref 0), some (.int 0), some (.int 0), none]) (tt_lt rfl) rfl ?_
  refine tt_mask rfl ?_
  exact rfl
set_option maxRecDepth 100000 in
theorem eX9_closeUp_4 (N : Nat) (n4 : Nat) (v1 : Int32) (v2 : Int32) (I : gM) : hX9_closeUp_4 N (n4 + 1) v1 v2 I =
  (ck 2746 245 <| if gc_ge v2 ((I 3 (Int32.toNatClampNeg 245))) = true then (ck 2746 245 <| ck 2746 245 <| some (.inl (some (.int ((gb_sub ((I 3 (Int32.toNatClampNeg 245))) v1)))), (gU I 3 (Int32.toNatClampNeg 245) v1))) else (hX9_closeUp_18 N n4 N v1 v2 0 I)) := by
  show (fX9_closeUp_b4 N (s_lp (fX9_closeUp_b4 N) n4)) [some (.ref 0), some (.int v1), some (.int v2), none] [] I = _
  unfold fX9_closeUp_b4
  refine tt_iload rfl ?_
  refine tt_aload rfl ?_
  refine tt_getr (q := 3) rfl rfl ?_
  refine tt_const ?_
  refine tt_ald (x := (I 3 (Int32.toNatClampNeg 245))) rfl rfl ?_
  refine tt_cmp ?_ ?_
  · skip
    refine tt_aload rfl ?_
    refine tt_getr (q := 3) rfl rfl ?_
    refine tt_const ?_
    refine tt_ald (x := (I 3 (Int32.toNatClampNeg 245))) rfl rfl ?_
    refine tt_iload rfl ?_
    refine tt_bin ?_
    refine tt_istore (L2 := [some (.ref 0), some (.int v1), some (.int ((gb_sub ((I 3 (Int32.toNatClampNeg 245))) v1))), none]) (tt_lt rfl) rfl ?_
    refine tt_aload rfl ?_
    refine tt_getr (q := 3) rfl rfl ?_
    refine tt_const ?_
    refine tt_iload rfl ?_
    refine tt_ast (v := v1) rfl rfl ?_
    refine tt_iload rfl ?_
    exact rfl
  · skip
    refine tt_const ?_
    refine tt_istore (L2 := [some (.ref 0), some (.int v1), some (.int v2), some (.int 0)]) (tt_lt rfl) rfl ?_
    refine tt_mask rfl ?_
    exact rfl
theorem eX9_closeUp_4z (N : Nat) (v1 : Int32) (v2 : Int32) (I : gM) : hX9_closeUp_4 N 0 v1 v2 I = none := (rfl)
set_option maxRecDepth 100000 in
theorem eX9_closeUp_18 (N : Nat) (n4 : Nat) (n18 : Nat) (v1 : Int32) (v2 : Int32) (v3 : Int32) (I : gM) : hX9_closeUp_18 N n4 (n18 + 1) v1 v2 v3 I =
  (if gc_ge v3 5 = true then (hX9_closeUp_58 N n4 v1 v2 I) else (ck 500 v2 <| if gz_ne ((I 7 (Int32.toNatClampNeg v2))) = true then (hX9_closeUp_58 N n4 v1 v2 I) else (hI (fX9_packetPart N [.ref 0, .int v2, .int v3] (gS (rg 0 18) I)) (rg 0 18) I fun x1 I1 => ck 2746 ((gb_add ((gb_add 246 (gb_mul 5 v1))) v3)) <| hX9_closeUp_18 N n4 n18 v1 v2 (v3 + 1) (gU I1 3 ((Int32.toNatClampNeg ((gb_add ((gb_add 246 (gb_mul 5 v1))) v3)))) x1)))) := by
  show (fX9_closeUp_b18 N (s_lp (fX9_closeUp_b4 N) n4) (s_lp (fX9_closeUp_b18 N (s_lp (fX9_closeUp_b4 N) n4)) n18)) [some (.ref 0), some (.int v1), some (.int v2), some (.int v3)] [] I = _
  unfold fX9_closeUp_b18
  refine tt_iload rfl ?_
  refine tt_const ?_
  refine tt_cmp ?_ ?_
  · skip
    refine tt_mask rfl ?_
    exact rfl
  · skip
    refine tt_aload rfl ?_
    refine tt_getr (q := 7) rfl rfl ?_
    refine tt_iload rfl ?_
    refine tt_ald (x := (I 7 (Int32.toNatClampNeg v2))) rfl rfl ?_
    refine tt_if ?_ ?_
    · skip
      refine tt_mask rfl ?_
      exact rfl
    · skip
      refine tt_aload rfl ?_
      refine tt_getr (q := 3) rfl rfl ?_
      refine tt_const ?_
      refine tt_const ?_
      refine tt_iload rfl ?_
      refine tt_bin ?_
      refine tt_bin ?_
      refine tt_iload rfl ?_
      refine tt_bin ?_
      refine tt_aload rfl ?_
      refine tt_iload rfl ?_
      refine tt_iload rfl ?_
      refine tt_cavI (t := [.int ((gb_add ((gb_add 246 (gb_mul 5 v1))) v3)), .ref 3]) ⟨Nat.le_of_ble_eq_true rfl, Nat.le_of_ble_eq_true rfl⟩ rfl rfl rfl (fun x1 I1 => ?_)
      refine tt_ast (v := x1) rfl rfl ?_
      refine tt_iinc (L2 := [some (.ref 0), some (.int v1), some (.int v2), some (.int (v3 + 1))]) rfl rfl ?_
      refine tt_mask rfl ?_
      exact rfl
theorem eX9_closeUp_18z (N : Nat) (n4 : Nat) (v1 : Int32) (v2 : Int32) (v3 : Int32) (I : gM) : hX9_closeUp_18 N n4 0 v1 v2 v3 I = none := (rfl)
set_option maxRecDepth 100000 in
theorem eX9_closeUp_58 (N : Nat) (n4 : Nat) (v1 : Int32) (v2 : Int32) (I : gM) : hX9_closeUp_58 N n4 v1 v2 I =
  (ck 500 v2 <| if gz_eq ((I 7 (Int32.toNatClampNeg v2))) = true then (hX9_closeUp_73 N n4 v2 v1 1 I) else (hX9_closeUp_73 N n4 v2 v1 0 I)) := by
  show (fX9_closeUp_k58 N (s_lp (fX9_closeUp_b4 N) n4)) [some (.ref 0), some (.int v1), some (.int v2), none] [] I = _
  unfold fX9_closeUp_k58
  refine tt_iload rfl ?_
  refine tt_aload rfl ?_
  refine tt_getr (q := 7) rfl rfl ?_
  refine tt_iload rfl ?_
  refine tt_ald (x := (I 7 (Int32.toNatClampNeg v2))) rfl rfl ?_
  refine tt_if ?_ ?_
  · skip
    refine tt_const ?_
    refine tt_mask rfl ?_
    exact rfl
  · skip
    refine tt_const ?_
    refine tt_mask rfl ?_
    exact rfl
set_option maxRecDepth 100000 in
theorem eX9_closeUp_73 (N : Nat) (n4 : Nat) (v2 : Int32) (s0 : Int32) (s1 : Int32) (I : gM) : hX9_closeUp_73 N n4 v2 s0 s1 I =
  (hX9_closeUp_4 N n4 (gb_add s0 s1) (v2 + 1) I) := by
  show (fX9_closeUp_k73 N (s_lp (fX9_closeUp_b4 N) n4)) [some (.ref 0), none, some (.int v2), none] [.int s1, .int s0] I = _
  unfold fX9_closeUp_k73
  refine tt_bin ?_
  refine tt_istore (L2 := [some (.ref 0), some (.int (gb_add s0 s1)), some (.int v2), none]) (tt_lt rfl) rfl ?_
  refine tt_iinc (L2 := [some (.ref 0), some (.int (gb_add s0 s1)), some (.int (v2 + 1)), none]) rfl rfl ?_
  refine tt_mask rfl ?_
  exact rfl
set_option maxRecDepth 100000 in
theorem eX9_closeUp (N : Nat) (I : gM) : fX9_closeUp N [.ref 0] I = hX9_closeUp_0 N I := by
  show gFn 4 (fX9_closeUp_k0 N) [.ref 0] I = (fX9_closeUp_k0 N) [some (.ref 0), none, none, none] [] I
  exact tt_fn rfl rfl

def hX9_come_0 (N : Nat) (v1 : Int32) (v2 : Int32) (v3 : Int32) (v4 : Int32) (v5 : Int32) (I : gM) : gO := fX9_come_k0 N [some (.ref 0), some (.int v1), some (.int v2), some (.int v3), some (.int v4), some (.int v5), none] [] I
set_option maxRecDepth 100000 in
theorem eX9_come_0 (N : Nat) (v1 : Int32) (v2 : Int32) (v3 : Int32) (v4 : Int32) (v5 : Int32) (I : gM) : hX9_come_0 N v1 v2 v3 v4 v5 I =
  (ck 2746 245 <| ck 2746 ((gb_add ((gb_add 246 ((gb_mul 5 ((I 3 (Int32.toNatClampNeg 245))))))) 0)) <| ck 2746 ((gb_add ((gb_add 246 ((gb_mul 5 ((I 3 (Int32.toNatClampNeg 245))))))) 1)) <| ck 2746 ((gb_add ((gb_add 246 ((gb_mul 5 ((I 3 (Int32.toNatClampNeg 245))))))) 2)) <| ck 2746 ((gb_add ((gb_add 246 ((gb_mul 5 ((I 3 (Int32.toNatClampNeg 245))))))) 3)) <| ck 2746 ((gb_add ((gb_add 246 ((gb_mul 5 ((I 3 (Int32.toNatClampNeg 245))))))) 4)) <| ck 2746 245 <| ck 2746 245 <| some (.inl none, (gU (gU (gU (gU (gU (gU I 3 ((Int32.toNatClampNeg ((gb_add ((gb_add 246 ((gb_mul 5 ((I 3 (Int32.toNatClampNeg 245))))))) 0)))) v1) 3 ((Int32.toNatClampNeg ((gb_add ((gb_add 246 ((gb_mul 5 ((I 3 (Int32.toNatClampNeg 245))))))) 1)))) v2) 3 ((Int32.toNatClampNeg ((gb_add ((gb_add 246 ((gb_mul 5 ((I 3 (Int32.toNatClampNeg 245))))))) 2)))) v3) 3 ((Int32.toNatClampNeg ((gb_add ((gb_add 246 ((gb_mul 5 ((I 3 (Int32.toNatClampNeg 245))))))) 3)))) v4) 3 ((Int32.toNatClampNeg ((gb_add ((gb_add 246 ((gb_mul 5 ((I 3 (Int32.toNatClampNeg 245))))))) 4)))) v5) 3 (Int32.toNatClampNeg 245) ((gb_add (((gU (gU (gU (gU (gU I 3 ((Int32.toNatClampNeg ((gb_add ((gb_add 246 ((gb_mul 5 ((I 3 (Int32.toNatClampNeg 245))))))) 0)))) v1) 3 ((Int32.toNatClampNeg ((gb_add ((gb_add 246 ((gb_mul 5 ((I 3 (Int32.toNatClampNeg 245))))))) 1)))) v2) 3 ((Int32.toNatClampNeg ((gb_add ((gb_add 246 ((gb_mul 5 ((I 3 (Int32.toNatClampNeg 245))))))) 2)))) v3) 3 ((Int32.toNatClampNeg ((gb_add ((gb_add 246 ((gb_mul 5 ((I 3 (Int32.toNatClampNeg 245))))))) 3)))) v4) 3 ((Int32.toNatClampNeg ((gb_add ((gb_add 246 ((gb_mul 5 ((I 3 (Int32.toNatClampNeg 245))))))) 4)))) v5) 3 (Int32.toNatClampNeg 245))) 1))))) := by
  show (fX9_come_k0 N) [some (.ref 0), some (.int v1), some (.int v2), some (.int v3), some (.int v4), some (.int v5), none] [] I = _
  unfold fX9_come_k0
  refine tt_const ?_
  refine tt_const ?_
  refine tt_aload rfl ?_
  refine tt_getr (q := 3) rfl rfl ?_
  refine tt_const ?_
  refine tt_ald (x := (I 3 (Int32.toNatClampNeg 245))) rfl rfl ?_
  refine tt_bin ?_
  refine tt_bin ?_
  refine tt_istore (L2 := [some (.ref 0), some (.int v1), some (.int v2), some (.int v3), some (.int v4), some (.int v5), some (.int ((gb_add 246 ((gb_mul 5 ((I 3 (Int32.toNatClampNeg 245))))))))]) (tt_lt rfl) rfl ?_
  refine tt_aload rfl ?_
  refine tt_getr (q := 3) rfl rfl ?_
  refine tt_iload rfl ?_
  refine tt_const ?_
  refine tt_bin ?_
  refine tt_iload rfl ?_
  refine tt_ast (v := v1) rfl rfl ?_
  refine tt_aload rfl ?_
  refine tt_getr (q := 3) rfl rfl ?_
  refine tt_iload rfl ?_
  refine tt_const ?_
  refine tt_bin ?_
  refine tt_iload rfl ?_
  refine tt_ast (v := v2) rfl rfl ?_
  refine tt_aload rfl ?_
  refine tt_getr (q := 3) rfl rfl ?_
  refine tt_iload rfl ?_
  refine tt_const ?_
  refine tt_bin ?_
  refine tt_iload rfl ?_
  refine tt_ast (v := v3) rfl rfl ?_
  refine tt_aload rfl ?_
  refine tt_getr (q := 3) rfl rfl ?_
  refine tt_iload rfl ?_
  refine tt_const ?_
  refine tt_bin ?_
  refine tt_iload rfl ?_
  refine tt_ast (v := v4) rfl rfl ?_
  refine tt_aload rfl ?_
  refine tt_getr (q := 3) rfl rfl ?_
  refine tt_iload rfl ?_
  refine tt_const ?_
  refine tt_bin ?_
  refine tt_iload rfl ?_
  refine tt_ast (v := v5) rfl rfl ?_
  refine tt_aload rfl ?_
  refine tt_getr (q := 3) rfl rfl ?_
  refine tt_const ?_
  refine tt_dup2 rfl rfl ?_
  refine tt_ald (x := ((gU (gU (gU (gU (gU I 3 ((Int32.toNatClampNeg ((gb_add ((gb_add 246 ((gb_mul 5 ((I 3 (Int32.toNatClampNeg 245))))))) 0)))) v1) 3 ((Int32.toNatClampNeg ((gb_add ((gb_add 246 ((gb_mul 5 ((I 3 (Int32.toNatClampNeg 245))))))) 1)))) v2) 3 ((Int32.toNatClampNeg ((gb_add ((gb_add 246 ((gb_mul 5 ((I 3 (Int32.toNatClampNeg 245))))))) 2)))) v3) 3 ((Int32.toNatClampNeg ((gb_add ((gb_add 246 ((gb_mul 5 ((I 3 (Int32.toNatClampNeg 245))))))) 3)))) v4) 3 ((Int32.toNatClampNeg ((gb_add ((gb_add 246 ((gb_mul 5 ((I 3 (Int32.toNatClampNeg 245))))))) 4)))) v5) 3 (Int32.toNatClampNeg 245))) rfl rfl ?_
  refine tt_const ?_
  refine tt_bin ?_
  refine tt_ast (v := (gb_add (((gU (gU (gU (gU (gU I 3 ((Int32.toNatClampNeg ((gb_add ((gb_add 246 ((gb_mul 5 ((I 3 (Int32.toNatClampNeg 245))))))) 0)))) v1) 3 ((Int32.toNatClampNeg ((gb_add ((gb_add 246 ((gb_mul 5 ((I 3 (Int32.toNatClampNeg 245))))))) 1)))) v2) 3 ((Int32.toNatClampNeg ((gb_add ((gb_add 246 ((gb_mul 5 ((I 3 (Int32.toNatClampNeg 245))))))) 2)))) v3) 3 ((Int32.toNatClampNeg ((gb_add ((gb_add 246 ((gb_mul 5 ((I 3 (Int32.toNatClampNeg 245))))))) 3)))) v4) 3 ((Int32.toNatClampNeg ((gb_add ((gb_add 246 ((gb_mul 5 ((I 3 (Int32.toNatClampNeg 245))))))) 4)))) v5) 3 (Int32.toNatClampNeg 245))) 1)) rfl rfl ?_
  exact rfl
set_option maxRecDepth 100000 in
theorem eX9_come (N : Nat) (v1 : Int32) (v2 : Int32) (v3 : Int32) (v4 : Int32) (v5 : Int32) (I : gM) : fX9_come N [.ref 0, .int v1, .int v2, .int v3, .int v4, .int v5] I = hX9_come_0 N v1 v2 v3 v4 v5 I := by
  show gFn 7 (fX9_come_k0 N) [.ref 0, .int v1, .int v2, .int v3, .int v4, .int v5] I = (fX9_come_k0 N) [some (.ref 0), some (.int v1), some (.int v2), some (.int v3), some (.int v4), some (.int v5), none] [] I
  exact tt_fn rfl rfl

def hX9_layHops_0 (N : Nat) (I : gM) : gO := fX9_layHops_k0 N [some (.ref 0), none, none, none, none, none, none] [] I
def hX9_layHops_9 (N : Nat) (n9 : Nat) (v1 : Int32) (v2 : Int32) (I : gM) : gO := s_lp (fX9_layHops_b9 N) n9 [some (.ref 0), some (.int v1), some (.int v2), none, none, none, none] [] I
def hX9_layHops_45 (N : Nat) (n45 : Nat) (v1 : Int32) (v2 : Int32) (I : gM) : gO := s_lp (fX9_layHops_b45 N) n45 [some (.ref 0), some (.int v1), some (.int v2), none, none, none, none] [] I
def hX9_layHops_36 (N : Nat) (n9 : Nat) (v1 : Int32) (v2 : Int32) (s1 : Int32) (s2 : Int32) (I : gM) : gO := fX9_layHops_k36 N (s_lp (fX9_layHops_b9 N) n9) [some (.ref 0), some (.int v1), some (.int v2), none, none, none, none] [.int s2, .int s1, .ref 8] I
def hX9_layHops_52 (N : Nat) (n45 : Nat) (n52 : Nat) (v1 : Int32) (v2 : Int32) (v3 : Int32) (I : gM) : gO := s_lp (fX9_layHops_b52 N (s_lp (fX9_layHops_b45 N) n45)) n52 [some (.ref 0), some (.int v1), some (.int v2), some (.int v3), none, none, none] [] I
def hX9_layHops_65 (N : Nat) (n45 : Nat) (n52 : Nat) (n65 : Nat) (v1 : Int32) (v2 : Int32) (v3 : Int32) (v4 : Int32) (I : gM) : gO := s_lp (fX9_layHops_b65 N (s_lp (fX9_layHops_b45 N) n45) (s_lp (fX9_layHops_b52 N (s_lp (fX9_layHops_b45 N) n45)) n52)) n65 [some (.ref 0), some (.int v1), some (.int v2), some (.int v3), some (.int v4), none, none] [] I
set_option maxRecDepth 100000 in
theorem eX9_layHops_0 (N : Nat) (I : gM) : hX9_layHops_0 N I =
  (ck 2746 0 <| hX9_layHops_9 N N ((I 3 (Int32.toNatClampNeg 0))) 0 I) := by
  show (fX9_layHops_k0 N) [some (.ref 0), none, none, none, none, none, none] [] I = _
  unfold fX9_layHops_k0
  refine tt_aload rfl ?_
  refine tt_getr (q := 3) rfl rfl ?_
  refine tt_const ?_
  refine tt_ald (x := (I 3 (Int32.toNatClampNeg 0))) rfl rfl ?_
  refine tt_istore (L2 := [some (.ref 0), some (.int ((I 3 (Int32.toNatClampNeg 0)))), none, none, none, none, none]) (tt_lt rfl) rfl ?_
  refine tt_const ?_
  refine tt_istore (L2 := [some (.ref 0), some (.int ((I 3 (Int32.toNatClampNeg 0)))), some (.int 0), none, none, none, none]) (tt_lt rfl) rfl ?_
  refine tt_mask rfl ?_
  exact rfl
set_option maxRecDepth 100000 in
theorem eX9_layHops_9 (N : Nat) (n9 : Nat) (v1 : Int32) (v2 : Int32) (I : gM) : hX9_layHops_9 N (n9 + 1) v1 v2 I =
  (if gc_ge v2 100 = true then (hX9_layHops_45 N N v1 0 I) else (if (10 : Int32) = 0 then none else if (10 : Int32) = 0 then none else if gc_ne (gb_div v2 10) (gb_rem v2 10) = true then (hX9_layHops_36 N n9 v1 v2 v2 v1 I) else (hX9_layHops_36 N n9 v1 v2 v2 0 I))) := by
  show (fX9_layHops_b9 N (s_lp (fX9_layHops_b9 N) n9)) [some (.ref 0), some (.int v1), some (.int v2), none, none, none, none] [] I = _
  unfold fX9_layHops_b9
  refine tt_iload rfl ?_
  refine tt_const ?_
  refine tt_cmp ?_ ?_
  · skip
    refine tt_const ?_
    refine tt_istore (L2 := [some (.ref 0), some (.int v1), some (.int 0), none, none, none, none]) (tt_lt rfl) rfl ?_
    refine tt_mask rfl ?_
    exact rfl
  · skip
    refine tt_aload rfl ?_
    refine tt_getr (q := 8) rfl rfl ?_
    refine tt_iload rfl ?_
    refine tt_iload rfl ?_
    refine tt_const ?_
    refine tt_div ?_
    refine tt_iload rfl ?_
    refine tt_const ?_
    refine tt_div ?_
    refine tt_cmp ?_ ?_
    · skip
      refine tt_iload rfl ?_
      refine tt_mask rfl ?_
      exact rfl
    · skip
      refine tt_const ?_
      refine tt_mask rfl ?_
      exact rfl
theorem eX9_layHops_9z (N : Nat) (v1 : Int32) (v2 : Int32) (I : gM) : hX9_layHops_9 N 0 v1 v2 I = none := (rfl)
set_option maxRecDepth 100000 in
theorem eX9_layHops_45 (N : Nat) (n45 : Nat) (v1 : Int32) (v2 : Int32) (I : gM) : hX9_layHops_45 N (n45 + 1) v1 v2 I =
  (if gc_ge v2 v1 = true then (some (.inl none, I)) else (hX9_layHops_52 N n45 N v1 v2 0 I)) := by
  show (fX9_layHops_b45 N (s_lp (fX9_layHops_b45 N) n45)) [some (.ref 0), some (.int v1), some (.int v2), none, none, none, none] [] I = _
  unfold fX9_layHops_b45
  refine tt_iload rfl ?_
  refine tt_iload rfl ?_
  refine tt_cmp ?_ ?_
  · skip
    exact rfl
  · skip
    refine tt_const ?_
    refine tt_istore (L2 := [some (.ref 0), some (.int v1), some (.int v2), some (.int 0), none, none, none]) (tt_lt rfl) rfl ?_
    refine tt_mask rfl ?_
    exact rfl
theorem eX9_layHops_45z (N : Nat) (v1 : Int32) (v2 : Int32) (I : gM) : hX9_layHops_45 N 0 v1 v2 I = none := (rfl)
set_option maxRecDepth 100000 in
theorem eX9_layHops_36 (N : Nat) (n9 : Nat) (v1 : Int32) (v2 : Int32) (s1 : Int32) (s2 : Int32) (I : gM) : hX9_layHops_36 N n9 v1 v2 s1 s2 I =
  (ck 100 s1 <| hX9_layHops_9 N n9 v1 (v2 + 1) (gU I 8 (Int32.toNatClampNeg s1) s2)) := by
  show (fX9_layHops_k36 N (s_lp (fX9_layHops_b9 N) n9)) [some (.ref 0), some (.int v1), some (.int v2), none, none, none, none] [.int s2, .int s1, .ref 8] I = _
  unfold fX9_layHops_k36
  refine tt_ast (v := s2) rfl rfl ?_
  refine tt_iinc (L2 := [some (.ref 0), some (.int v1), some (.int (v2 + 1)), none, none, none, none]) rfl rfl ?_
  refine tt_mask rfl ?_
  exact rfl
set_option maxRecDepth 100000 in
theorem eX9_layHops_52 (N : Nat) (n45 : Nat) (n52 : Nat) (v1 : Int32) (v2 : Int32) (v3 : Int32) (I : gM) : hX9_layHops_52 N n45 (n52 + 1) v1 v2 v3 I =
  (ck 2746 1 <| if gc_ge v3 ((I 3 (Int32.toNatClampNeg 1))) = true then (hX9_layHops_45 N n45 v1 (v2 + 1) I) else (hX9_layHops_65 N n45 n52 N v1 v2 v3 0 I)) := by
  show (fX9_layHops_b52 N (s_lp (fX9_layHops_b45 N) n45) (s_lp (fX9_layHops_b52 N (s_lp (fX9_layHops_b45 N) n45)) n52)) [some (.ref 0), some (.int v1), some (.int v2), some (.int v3), none, none, none] [] I = _
  unfold fX9_layHops_b52
  refine tt_iload rfl ?_
  refine tt_aload rfl ?_
  refine tt_getr (q := 3) rfl rfl ?_
  refine tt_const ?_
  refine tt_ald (x := (I 3 (Int32.toNatClampNeg 1))) rfl rfl ?_
  refine tt_cmp ?_ ?_
  · skip
    refine tt_iinc (L2 := [some (.ref 0), some (.int v1), some (.int (v2 + 1)), some (.int v3), none, none, none]) rfl rfl ?_
    refine tt_mask rfl ?_
    exact rfl
  · skip
    refine tt_const ?_
    refine tt_istore (L2 := [some (.ref 0), some (.int v1), some (.int v2), some (.int v3), some (.int 0), none, none]) (tt_lt rfl) rfl ?_
    refine tt_mask rfl ?_
    exact rfl
theorem eX9_layHops_52z (N : Nat) (n45 : Nat) (v1 : Int32) (v2 : Int32) (v3 : Int32) (I : gM) : hX9_layHops_52 N n45 0 v1 v2 v3 I = none := (rfl)
set_option maxRecDepth 100000 in
theorem eX9_layHops_65 (N : Nat) (n45 : Nat) (n52 : Nat) (n65 : Nat) (v1 : Int32) (v2 : Int32) (v3 : Int32) (v4 : Int32) (I : gM) : hX9_layHops_65 N n45 n52 (n65 + 1) v1 v2 v3 v4 I =
  (if gc_ge v4 v1 = true then (hX9_layHops_52 N n45 n52 v1 v2 (v3 + 1) I) else (hI (fX9_linkPart N [.ref 0, .int v3, .int 1] (gS (rg 0 18) I)) (rg 0 18) I fun x1 I1 => ck 100 ((gb_add (gb_mul 10 x1) v4)) <| hI (fX9_linkPart N [.ref 0, .int v3, .int 0] (gS (rg 0 18) I1)) (rg 0 18) I1 fun x2 I2 => ck 100 ((gb_add (gb_mul 10 x2) v4)) <| ck 100 ((gb_add (gb_mul 10 x2) v4)) <| hX9_layHops_65 N n45 n52 n65 v1 v2 v3 (v4 + 1) (gU I2 8 ((Int32.toNatClampNeg ((gb_add (gb_mul 10 x2) v4)))) ((gj_min ((I2 8 ((Int32.toNatClampNeg ((gb_add (gb_mul 10 x2) v4)))))) ((gb_add ((I1 8 ((Int32.toNatClampNeg ((gb_add (gb_mul 10 x1) v4)))))) 1))))))) := by
  show (fX9_layHops_b65 N (s_lp (fX9_layHops_b45 N) n45) (s_lp (fX9_layHops_b52 N (s_lp (fX9_layHops_b45 N) n45)) n52) (s_lp (fX9_layHops_b65 N (s_lp (fX9_layHops_b45 N) n45) (s_lp (fX9_layHops_b52 N (s_lp (fX9_layHops_b45 N) n45)) n52)) n65)) [some (.ref 0), some (.int v1), some (.int v2), some (.int v3), some (.int v4), none, none] [] I = _
  unfold fX9_layHops_b65
  refine tt_iload rfl ?_
  refine tt_iload rfl ?_
  refine tt_cmp ?_ ?_
  · skip
    refine tt_iinc (L2 := [some (.ref 0), some (.int v1), some (.int v2), some (.int (v3 + 1)), some (.int v4), none, none]) rfl rfl ?_
    refine tt_mask rfl ?_
    exact rfl
  · skip
    refine tt_aload rfl ?_
    refine tt_getr (q := 8) rfl rfl ?_
    refine tt_const ?_
    refine tt_aload rfl ?_
    refine tt_iload rfl ?_
    refine tt_const ?_
    refine tt_cavI (t := [.int 10, .ref 8]) ⟨Nat.le_of_ble_eq_true rfl, Nat.le_of_ble_eq_true rfl⟩ rfl rfl rfl (fun x1 I1 => ?_)
    refine tt_bin ?_
    refine tt_iload rfl ?_
    refine tt_bin ?_
    refine tt_ald (x := (I1 8 ((Int32.toNatClampNeg ((gb_add (gb_mul 10 x1) v4)))))) rfl rfl ?_
    refine tt_const ?_
    refine tt_bin ?_
    refine tt_istore (L2 := [some (.ref 0), some (.int v1), some (.int v2), some (.int v3), some (.int v4), some (.int ((gb_add ((I1 8 ((Int32.toNatClampNeg ((gb_add (gb_mul 10 x1) v4)))))) 1))), none]) (tt_lt rfl) rfl ?_
    refine tt_const ?_
    refine tt_aload rfl ?_
    refine tt_iload rfl ?_
    refine tt_const ?_
    refine tt_cavI (t := [.int 10]) ⟨Nat.le_of_ble_eq_true rfl, Nat.le_of_ble_eq_true rfl⟩ rfl rfl rfl (fun x2 I2 => ?_)
    refine tt_bin ?_
    refine tt_iload rfl ?_
    refine tt_bin ?_
    refine tt_istore (L2 := [some (.ref 0), some (.int v1), some (.int v2), some (.int v3), some (.int v4), some (.int ((gb_add ((I1 8 ((Int32.toNatClampNeg ((gb_add (gb_mul 10 x1) v4)))))) 1))), some (.int ((gb_add (gb_mul 10 x2) v4)))]) (tt_lt rfl) rfl ?_
    refine tt_aload rfl ?_
    refine tt_getr (q := 8) rfl rfl ?_
    refine tt_iload rfl ?_
    refine tt_aload rfl ?_
    refine tt_getr (q := 8) rfl rfl ?_
    refine tt_iload rfl ?_
    refine tt_ald (x := (I2 8 ((Int32.toNatClampNeg ((gb_add (gb_mul 10 x2) v4)))))) rfl rfl ?_
    refine tt_iload rfl ?_
    refine tt_jmath (Nat.le_of_ble_eq_true rfl) ?_
    refine tt_ast (v := (gj_min ((I2 8 ((Int32.toNatClampNeg ((gb_add (gb_mul 10 x2) v4)))))) ((gb_add ((I1 8 ((Int32.toNatClampNeg ((gb_add (gb_mul 10 x1) v4)))))) 1)))) rfl rfl ?_
    refine tt_iinc (L2 := [some (.ref 0), some (.int v1), some (.int v2), some (.int v3), some (.int (v4 + 1)), some (.int ((gb_add ((I1 8 ((Int32.toNatClampNeg ((gb_add (gb_mul 10 x1) v4)))))) 1))), some (.int ((gb_add (gb_mul 10 x2) v4)))]) rfl rfl ?_
    refine tt_mask rfl ?_
    exact rfl
theorem eX9_layHops_65z (N : Nat) (n45 : Nat) (n52 : Nat) (v1 : Int32) (v2 : Int32) (v3 : Int32) (v4 : Int32) (I : gM) : hX9_layHops_65 N n45 n52 0 v1 v2 v3 v4 I = none := (rfl)
set_option maxRecDepth 100000 in
theorem eX9_layHops (N : Nat) (I : gM) : fX9_layHops N [.ref 0] I = hX9_layHops_0 N I := by
  show gFn 7 (fX9_layHops_k0 N) [.ref 0] I = (fX9_layHops_k0 N) [some (.ref 0), none, none, none, none, none, none] [] I
  exact tt_fn rfl rfl

def hX9_layPressures_0 (N : Nat) (I : gM) : gO := fX9_layPressures_k0 N [some (.ref 0), none, none] [] I
def hX9_layPressures_6 (N : Nat) (n6 : Nat) (v1 : Int32) (I : gM) : gO := s_lp (fX9_layPressures_b6 N) n6 [some (.ref 0), some (.int v1), none] [] I
def hX9_layPressures_27 (N : Nat) (n27 : Nat) (v1 : Int32) (I : gM) : gO := s_lp (fX9_layPressures_b27 N) n27 [some (.ref 0), some (.int v1), none] [] I
def hX9_layPressures_71 (N : Nat) (n71 : Nat) (v1 : Int32) (I : gM) : gO := s_lp (fX9_layPressures_b71 N) n71 [some (.ref 0), some (.int v1), none] [] I
def hX9_layPressures_105 (N : Nat) (n71 : Nat) (v1 : Int32) (s0 : Int32) (I : gM) : gO := fX9_layPressures_k105 N (s_lp (fX9_layPressures_b71 N) n71) [some (.ref 0), some (.int v1), none] [.int s0] I
def hX9_layPressures_141 (N : Nat) (n71 : Nat) (v1 : Int32) (s1 : Int32) (s2 : Int32) (I : gM) : gO := fX9_layPressures_k141 N (s_lp (fX9_layPressures_b71 N) n71) [some (.ref 0), some (.int v1), none] [.int s2, .int s1, .ref 9] I
set_option maxRecDepth 100000 in
theorem eX9_layPressures_0 (N : Nat) (I : gM) : hX9_layPressures_0 N I =
  (hV (fX9_layHops N [.ref 0] (gS (rg 0 18) I)) (rg 0 18) I fun I1 => hX9_layPressures_6 N N 0 I1) := by
  show (fX9_layPressures_k0 N) [some (.ref 0), none, none] [] I = _
  unfold fX9_layPressures_k0
  refine tt_aload rfl ?_
  refine tt_cavV (t := []) ⟨Nat.le_of_ble_eq_true rfl, Nat.le_of_ble_eq_true rfl⟩ rfl rfl rfl (fun I1 => ?_)
  refine tt_const ?_
  refine tt_istore (L2 := [some (.ref 0), some (.int 0), none]) (tt_lt rfl) rfl ?_
  refine tt_mask rfl ?_
  exact rfl
set_option maxRecDepth 100000 in
theorem eX9_layPressures_6 (N : Nat) (n6 : Nat) (v1 : Int32) (I : gM) : hX9_layPressures_6 N (n6 + 1) v1 I =
  (if gc_ge v1 100 = true then (hX9_layPressures_27 N N 0 I) else (ck 100 v1 <| hX9_layPressures_6 N n6 (v1 + 1) (gU I 10 (Int32.toNatClampNeg v1) 0))) := by
  show (fX9_layPressures_b6 N (s_lp (fX9_layPressures_b6 N) n6)) [some (.ref 0), some (.int v1), none] [] I = _
  unfold fX9_layPressures_b6
  refine tt_iload rfl ?_
  refine tt_const ?_
  refine tt_cmp ?_ ?_
  · skip
    refine tt_const ?_
    refine tt_istore (L2 := [some (.ref 0), some (.int 0), none]) (tt_lt rfl) rfl ?_
    refine tt_mask rfl ?_
    exact rfl
  · skip
    refine tt_aload rfl ?_
    refine tt_getr (q := 10) rfl rfl ?_
    refine tt_iload rfl ?_
    refine tt_const ?_
    refine tt_ast (v := 0) rfl rfl ?_
    refine tt_iinc (L2 := [some (.ref 0), some (.int (v1 + 1)), none]) rfl rfl ?_
    refine tt_mask rfl ?_
    exact rfl
theorem eX9_layPressures_6z (N : Nat) (v1 : Int32) (I : gM) : hX9_layPressures_6 N 0 v1 I = none := (rfl)
set_option maxRecDepth 100000 in
theorem eX9_layPressures_27 (N : Nat) (n27 : Nat) (v1 : Int32) (I : gM) : hX9_layPressures_27 N (n27 + 1) v1 I =
  (ck 2746 245 <| if gc_ge v1 ((I 3 (Int32.toNatClampNeg 245))) = true then (hX9_layPressures_71 N N 0 I) else (hI (fX9_packetPart N [.ref 0, .int v1, .int 4] (gS (rg 0 18) I)) (rg 0 18) I fun x2 I2 => hI (fX9_goalOf N [.ref 0, .int v1] (gS (rg 0 18) I2)) (rg 0 18) I2 fun x3 I3 => ck 100 ((gb_add (gb_mul 10 x2) x3)) <| ck 100 ((gb_add (gb_mul 10 x2) x3)) <| hX9_layPressures_27 N n27 (v1 + 1) (gU I3 10 ((Int32.toNatClampNeg ((gb_add (gb_mul 10 x2) x3)))) ((gb_add ((I3 10 ((Int32.toNatClampNeg ((gb_add (gb_mul 10 x2) x3)))))) 1))))) := by
  show (fX9_layPressures_b27 N (s_lp (fX9_layPressures_b27 N) n27)) [some (.ref 0), some (.int v1), none] [] I = _
  unfold fX9_layPressures_b27
  refine tt_iload rfl ?_
  refine tt_aload rfl ?_
  refine tt_getr (q := 3) rfl rfl ?_
  refine tt_const ?_
  refine tt_ald (x := (I 3 (Int32.toNatClampNeg 245))) rfl rfl ?_
  refine tt_cmp ?_ ?_
  · skip
    refine tt_const ?_
    refine tt_istore (L2 := [some (.ref 0), some (.int 0), none]) (tt_lt rfl) rfl ?_
    refine tt_mask rfl ?_
    exact rfl
  · skip
    refine tt_aload rfl ?_
    refine tt_getr (q := 10) rfl rfl ?_
    refine tt_const ?_
    refine tt_aload rfl ?_
    refine tt_iload rfl ?_
    refine tt_const ?_
    refine tt_cavI (t := [.int 10, .ref 10]) ⟨Nat.le_of_ble_eq_true rfl, Nat.le_of_ble_eq_true rfl⟩ rfl rfl rfl (fun x2 I2 => ?_)
    refine tt_bin ?_
    refine tt_aload rfl ?_
    refine tt_iload rfl ?_
    refine tt_cavI (t := [.int (gb_mul 10 x2), .ref 10]) ⟨Nat.le_of_ble_eq_true rfl, Nat.le_of_ble_eq_true rfl⟩ rfl rfl rfl (fun x3 I3 => ?_)
    refine tt_bin ?_
    refine tt_dup2 rfl rfl ?_
    refine tt_ald (x := (I3 10 ((Int32.toNatClampNeg ((gb_add (gb_mul 10 x2) x3)))))) rfl rfl ?_
    refine tt_const ?_
    refine tt_bin ?_
    refine tt_ast (v := (gb_add ((I3 10 ((Int32.toNatClampNeg ((gb_add (gb_mul 10 x2) x3)))))) 1)) rfl rfl ?_
    refine tt_iinc (L2 := [some (.ref 0), some (.int (v1 + 1)), none]) rfl rfl ?_
    refine tt_mask rfl ?_
    exact rfl
theorem eX9_layPressures_27z (N : Nat) (v1 : Int32) (I : gM) : hX9_layPressures_27 N 0 v1 I = none := (rfl)
set_option maxRecDepth 100000 in
theorem eX9_layPressures_71 (N : Nat) (n71 : Nat) (v1 : Int32) (I : gM) : hX9_layPressures_71 N (n71 + 1) v1 I =
  (if gc_ge v1 100 = true then (some (.inl none, I)) else (ck 2746 3 <| if gz_ne ((I 3 (Int32.toNatClampNeg 3))) = true then (ck 2746 (gb_add 145 v1) <| hX9_layPressures_105 N n71 v1 ((I 3 ((Int32.toNatClampNeg (gb_add 145 v1))))) I) else (ck 100 v1 <| hX9_layPressures_105 N n71 v1 ((I 10 (Int32.toNatClampNeg v1))) I))) := by
  show (fX9_layPressures_b71 N (s_lp (fX9_layPressures_b71 N) n71)) [some (.ref 0), some (.int v1), none] [] I = _
  unfold fX9_layPressures_b71
  refine tt_iload rfl ?_
  refine tt_const ?_
  refine tt_cmp ?_ ?_
  · skip
    exact rfl
  · skip
    refine tt_aload rfl ?_
    refine tt_getr (q := 3) rfl rfl ?_
    refine tt_const ?_
    refine tt_ald (x := (I 3 (Int32.toNatClampNeg 3))) rfl rfl ?_
    refine tt_if ?_ ?_
    · skip
      refine tt_aload rfl ?_
      refine tt_getr (q := 3) rfl rfl ?_
      refine tt_const ?_
      refine tt_iload rfl ?_
      refine tt_bin ?_
      refine tt_ald (x := (I 3 ((Int32.toNatClampNeg (gb_add 145 v1))))) rfl rfl ?_
      refine tt_mask rfl ?_
      exact rfl
    · skip
      refine tt_aload rfl ?_
      refine tt_getr (q := 10) rfl rfl ?_
      refine tt_iload rfl ?_
      refine tt_ald (x := (I 10 (Int32.toNatClampNeg v1))) rfl rfl ?_
      refine tt_mask rfl ?_
      exact rfl
theorem eX9_layPressures_71z (N : Nat) (v1 : Int32) (I : gM) : hX9_layPressures_71 N 0 v1 I = none := (rfl)
set_option maxRecDepth 100000 in
theorem eX9_layPressures_105 (N : Nat) (n71 : Nat) (v1 : Int32) (s0 : Int32) (I : gM) : hX9_layPressures_105 N n71 v1 s0 I =
  (if (10 : Int32) = 0 then none else if (10 : Int32) = 0 then none else if gc_ne (gb_div v1 10) (gb_rem v1 10) = true then (ck 2746 5 <| ck 100 v1 <| hX9_layPressures_141 N n71 v1 v1 ((gb_add s0 ((gb_mul ((I 3 (Int32.toNatClampNeg 5))) ((I 8 (Int32.toNatClampNeg v1))))))) I) else (hX9_layPressures_141 N n71 v1 v1 0 I)) := by
  show (fX9_layPressures_k105 N (s_lp (fX9_layPressures_b71 N) n71)) [some (.ref 0), some (.int v1), none] [.int s0] I = _
  unfold fX9_layPressures_k105
  refine tt_istore (L2 := [some (.ref 0), some (.int v1), some (.int s0)]) (tt_lt rfl) rfl ?_
  refine tt_aload rfl ?_
  refine tt_getr (q := 9) rfl rfl ?_
  refine tt_iload rfl ?_
  refine tt_iload rfl ?_
  refine tt_const ?_
  refine tt_div ?_
  refine tt_iload rfl ?_
  refine tt_const ?_
  refine tt_div ?_
  refine tt_cmp ?_ ?_
  · skip
    refine tt_iload rfl ?_
    refine tt_aload rfl ?_
    refine tt_getr (q := 3) rfl rfl ?_
    refine tt_const ?_
    refine tt_ald (x := (I 3 (Int32.toNatClampNeg 5))) rfl rfl ?_
    refine tt_aload rfl ?_
    refine tt_getr (q := 8) rfl rfl ?_
    refine tt_iload rfl ?_
    refine tt_ald (x := (I 8 (Int32.toNatClampNeg v1))) rfl rfl ?_
    refine tt_bin ?_
    refine tt_bin ?_
    refine tt_mask rfl ?_
    exact rfl
  · skip
    refine tt_const ?_
    refine tt_mask rfl ?_
    exact rfl
set_option maxRecDepth 100000 in
theorem eX9_layPressures_141 (N : Nat) (n71 : Nat) (v1 : Int32) (s1 : Int32) (s2 : Int32) (I : gM) : hX9_layPressures_141 N n71 v1 s1 s2 I =
  (ck 100 s1 <| hX9_layPressures_71 N n71 (v1 + 1) (gU I 9 (Int32.toNatClampNeg s1) s2)) := by
  show (fX9_layPressures_k141 N (s_lp (fX9_layPressures_b71 N) n71)) [some (.ref 0), some (.int v1), none] [.int s2, .int s1, .ref 9] I = _
  unfold fX9_layPressures_k141
  refine tt_ast (v := s2) rfl rfl ?_
  refine tt_iinc (L2 := [some (.ref 0), some (.int (v1 + 1)), none]) rfl rfl ?_
  refine tt_mask rfl ?_
  exact rfl
set_option maxRecDepth 100000 in
theorem eX9_layPressures (N : Nat) (I : gM) : fX9_layPressures N [.ref 0] I = hX9_layPressures_0 N I := by
  show gFn 3 (fX9_layPressures_k0 N) [.ref 0] I = (fX9_layPressures_k0 N) [some (.ref 0), none, none] [] I
  exact tt_fn rfl rfl

def hX9_isPossible_0 (N : Nat) (v1 : Int32) (v2 : Int32) (I : gM) : gO := fX9_isPossible_k0 N [some (.ref 0), some (.int v1), some (.int v2), none] [] I
def hX9_isPossible_46 (N : Nat) (I : gM) : gO := fX9_isPossible_k46 N [none, none, none, none] [] I
set_option maxRecDepth 100000 in
theorem eX9_isPossible_0 (N : Nat) (v1 : Int32) (v2 : Int32) (I : gM) : hX9_isPossible_0 N v1 v2 I =
  (if gc_eq v2 v1 = true then (some (.inl (some (.int 0)), I)) else (ck 2746 3 <| if gz_ne ((I 3 (Int32.toNatClampNeg 3))) = true then (ck 2746 ((gb_add 145 ((gb_add (gb_mul 10 v1) v2)))) <| if gz_le ((I 3 ((Int32.toNatClampNeg ((gb_add 145 ((gb_add (gb_mul 10 v1) v2)))))))) = true then (some (.inl (some (.int 0)), I)) else (hX9_isPossible_46 N I)) else (ck 100 ((gb_add (gb_mul 10 v1) v2)) <| if gz_le ((I 10 ((Int32.toNatClampNeg ((gb_add (gb_mul 10 v1) v2)))))) = true then (some (.inl (some (.int 0)), I)) else (hX9_isPossible_46 N I)))) := by
  show (fX9_isPossible_k0 N) [some (.ref 0), some (.int v1), some (.int v2), none] [] I = _
  unfold fX9_isPossible_k0
  refine tt_const ?_
  refine tt_iload rfl ?_
  refine tt_bin ?_
  refine tt_iload rfl ?_
  refine tt_bin ?_
  refine tt_istore (L2 := [some (.ref 0), some (.int v1), some (.int v2), some (.int ((gb_add (gb_mul 10 v1) v2)))]) (tt_lt rfl) rfl ?_
  refine tt_iload rfl ?_
  refine tt_iload rfl ?_
  refine tt_cmp ?_ ?_
  · skip
    refine tt_const ?_
    exact tt_zret (by decide)
  · skip
    refine tt_aload rfl ?_
    refine tt_getr (q := 3) rfl rfl ?_
    refine tt_const ?_
    refine tt_ald (x := (I 3 (Int32.toNatClampNeg 3))) rfl rfl ?_
    refine tt_if ?_ ?_
    · skip
      refine tt_aload rfl ?_
      refine tt_getr (q := 3) rfl rfl ?_
      refine tt_const ?_
      refine tt_iload rfl ?_
      refine tt_bin ?_
      refine tt_ald (x := (I 3 ((Int32.toNatClampNeg ((gb_add 145 ((gb_add (gb_mul 10 v1) v2)))))))) rfl rfl ?_
      refine tt_if ?_ ?_
      · skip
        refine tt_const ?_
        exact tt_zret (by decide)
      · skip
        refine tt_mask rfl ?_
        exact rfl
    · skip
      refine tt_aload rfl ?_
      refine tt_getr (q := 10) rfl rfl ?_
      refine tt_iload rfl ?_
      refine tt_ald (x := (I 10 ((Int32.toNatClampNeg ((gb_add (gb_mul 10 v1) v2)))))) rfl rfl ?_
      refine tt_if ?_ ?_
      · skip
        refine tt_const ?_
        exact tt_zret (by decide)
      · skip
        refine tt_mask rfl ?_
        exact rfl
set_option maxRecDepth 100000 in
theorem eX9_isPossible_46 (N : Nat) (I : gM) : hX9_isPossible_46 N I =
  (some (.inl (some (.int 1)), I)) := by
  show (fX9_isPossible_k46 N) [none, none, none, none] [] I = _
  unfold fX9_isPossible_k46
  refine tt_const ?_
  exact tt_zret (by decide)
set_option maxRecDepth 100000 in
theorem eX9_isPossible (N : Nat) (v1 : Int32) (v2 : Int32) (I : gM) : fX9_isPossible N [.ref 0, .int v1, .int v2] I = hX9_isPossible_0 N v1 v2 I := by
  show gFn 4 (fX9_isPossible_k0 N) [.ref 0, .int v1, .int v2] I = (fX9_isPossible_k0 N) [some (.ref 0), some (.int v1), some (.int v2), none] [] I
  exact tt_fn rfl rfl

def hX9_layWeight_0 (N : Nat) (v1 : Int32) (I : gM) : gO := fX9_layWeight_k0 N [some (.ref 0), some (.int v1), none, none, none, none, none, none] [] I
def hX9_layWeight_23 (N : Nat) (n23 : Nat) (v1 : Int32) (v2 : Int32) (v3 : Int32) (v4 : Int32) (v5 : Int32) (v6 : Int32) (I : gM) : gO := s_lp (fX9_layWeight_b23 N) n23 [some (.ref 0), some (.int v1), some (.int v2), some (.int v3), some (.int v4), some (.int v5), some (.int v6), none] [] I
def hX9_layWeight_92 (N : Nat) (n23 : Nat) (v1 : Int32) (v2 : Int32) (v3 : Int32) (v4 : Int32) (v5 : Int32) (v6 : Int32) (I : gM) : gO := fX9_layWeight_k92 N (s_lp (fX9_layWeight_b23 N) n23) [some (.ref 0), some (.int v1), some (.int v2), some (.int v3), some (.int v4), some (.int v5), some (.int v6), none] [] I
def hX9_layWeight_84 (N : Nat) (n23 : Nat) (v1 : Int32) (v2 : Int32) (v3 : Int32) (v6 : Int32) (v7 : Int32) (I : gM) : gO := fX9_layWeight_k84 N (s_lp (fX9_layWeight_b23 N) n23) [some (.ref 0), some (.int v1), some (.int v2), some (.int v3), none, none, some (.int v6), some (.int v7)] [] I
set_option maxRecDepth 100000 in
theorem eX9_layWeight_0 (N : Nat) (v1 : Int32) (I : gM) : hX9_layWeight_0 N v1 I =
  (hI (fX9_linkPart N [.ref 0, .int v1, .int 0] (gS (rg 0 18) I)) (rg 0 18) I fun x1 I1 => hI (fX9_linkPart N [.ref 0, .int v1, .int 1] (gS (rg 0 18) I1)) (rg 0 18) I1 fun x2 I2 => hX9_layWeight_23 N N v1 x1 x2 (-1) 0 0 I2) := by
  show (fX9_layWeight_k0 N) [some (.ref 0), some (.int v1), none, none, none, none, none, none] [] I = _
  unfold fX9_layWeight_k0
  refine tt_aload rfl ?_
  refine tt_iload rfl ?_
  refine tt_const ?_
  refine tt_cavI (t := []) ⟨Nat.le_of_ble_eq_true rfl, Nat.le_of_ble_eq_true rfl⟩ rfl rfl rfl (fun x1 I1 => ?_)
  refine tt_istore (L2 := [some (.ref 0), some (.int v1), some (.int x1), none, none, none, none, none]) (tt_lt rfl) rfl ?_
  refine tt_aload rfl ?_
  refine tt_iload rfl ?_
  refine tt_const ?_
  refine tt_cavI (t := []) ⟨Nat.le_of_ble_eq_true rfl, Nat.le_of_ble_eq_true rfl⟩ rfl rfl rfl (fun x2 I2 => ?_)
  refine tt_istore (L2 := [some (.ref 0), some (.int v1), some (.int x1), some (.int x2), none, none, none, none]) (tt_lt rfl) rfl ?_
  refine tt_const ?_
  refine tt_istore (L2 := [some (.ref 0), some (.int v1), some (.int x1), some (.int x2), some (.int (-1)), none, none, none]) (tt_lt rfl) rfl ?_
  refine tt_const ?_
  refine tt_istore (L2 := [some (.ref 0), some (.int v1), some (.int x1), some (.int x2), some (.int (-1)), some (.int 0), none, none]) (tt_lt rfl) rfl ?_
  refine tt_const ?_
  refine tt_istore (L2 := [some (.ref 0), some (.int v1), some (.int x1), some (.int x2), some (.int (-1)), some (.int 0), some (.int 0), none]) (tt_lt rfl) rfl ?_
  refine tt_mask rfl ?_
  exact rfl
set_option maxRecDepth 100000 in
theorem eX9_layWeight_23 (N : Nat) (n23 : Nat) (v1 : Int32) (v2 : Int32) (v3 : Int32) (v4 : Int32) (v5 : Int32) (v6 : Int32) (I : gM) : hX9_layWeight_23 N (n23 + 1) v1 v2 v3 v4 v5 v6 I =
  (ck 2746 0 <| if gc_ge v6 ((I 3 (Int32.toNatClampNeg 0))) = true then (ck 14 v1 <| if gc_ne v4 (-1) = true then (hI (fX9_linkPart N [.ref 0, .int v1, .int 2] (gS (rg 0 18) (gU I 11 (Int32.toNatClampNeg v1) v4))) (rg 0 18) (gU I 11 (Int32.toNatClampNeg v1) v4) fun x3 I3 => ck 14 v1 <| some (.inl none, (gU I3 12 (Int32.toNatClampNeg v1) ((gj_max 0 (gb_mul x3 v5)))))) else (ck 14 v1 <| some (.inl none, (gU (gU I 11 (Int32.toNatClampNeg v1) v4) 12 (Int32.toNatClampNeg v1) 0)))) else (ck 100 ((gb_add (gb_mul 10 v2) v6)) <| ck 100 ((gb_add (gb_mul 10 v3) v6)) <| hI (fX9_isPossible N [.ref 0, .int v2, .int v6] (gS (rg 0 18) I)) (rg 0 18) I fun x4 I4 => if gz_eq x4 = true then (hX9_layWeight_92 N n23 v1 v2 v3 v4 v5 v6 I4) else (if gc_eq v4 (-1) = true then (hX9_layWeight_84 N n23 v1 v2 v3 v6 ((gb_sub ((I 9 ((Int32.toNatClampNeg ((gb_add (gb_mul 10 v2) v6)))))) ((I 9 ((Int32.toNatClampNeg ((gb_add (gb_mul 10 v3) v6)))))))) I4) else (if gc_le ((gb_sub ((I 9 ((Int32.toNatClampNeg ((gb_add (gb_mul 10 v2) v6)))))) ((I 9 ((Int32.toNatClampNeg ((gb_add (gb_mul 10 v3) v6)))))))) v5 = true then (hX9_layWeight_92 N n23 v1 v2 v3 v4 v5 v6 I4) else (hX9_layWeight_84 N n23 v1 v2 v3 v6 ((gb_sub ((I 9 ((Int32.toNatClampNeg ((gb_add (gb_mul 10 v2) v6)))))) ((I 9 ((Int32.toNatClampNeg ((gb_add (gb_mul 10 v3) v6)))))))) I4))))) := by
  show (fX9_layWeight_b23 N (s_lp (fX9_layWeight_b23 N) n23)) [some (.ref 0), some (.int v1), some (.int v2), some (.int v3), some (.int v4), some (.int v5), some (.int v6), none] [] I = _
  unfold fX9_layWeight_b23
  refine tt_iload rfl ?_
  refine tt_aload rfl ?_
  refine tt_getr (q := 3) rfl rfl ?_
  refine tt_const ?_
  refine tt_ald (x := (I 3 (Int32.toNatClampNeg 0))) rfl rfl ?_
  refine tt_cmp ?_ ?_
  · skip
    refine tt_aload rfl ?_
    refine tt_getr (q := 11) rfl rfl ?_
    refine tt_iload rfl ?_
    refine tt_iload rfl ?_
    refine tt_ast (v := v4) rfl rfl ?_
    refine tt_aload rfl ?_
    refine tt_getr (q := 12) rfl rfl ?_
    refine tt_iload rfl ?_
    refine tt_iload rfl ?_
    refine tt_const ?_
    refine tt_cmp ?_ ?_
    · skip
      refine tt_const ?_
      refine tt_aload rfl ?_
      refine tt_iload rfl ?_
      refine tt_const ?_
      refine tt_cavI (t := [.int 0, .int v1, .ref 12]) ⟨Nat.le_of_ble_eq_true rfl, Nat.le_of_ble_eq_true rfl⟩ rfl rfl rfl (fun x3 I3 => ?_)
      refine tt_iload rfl ?_
      refine tt_bin ?_
      refine tt_jmath (Nat.le_of_ble_eq_true rfl) ?_
      refine tt_ast (v := (gj_max 0 (gb_mul x3 v5))) rfl rfl ?_
      exact rfl
    · skip
      refine tt_const ?_
      refine tt_ast (v := 0) rfl rfl ?_
      exact rfl
  · skip
    refine tt_aload rfl ?_
    refine tt_getr (q := 9) rfl rfl ?_
    refine tt_const ?_
    refine tt_iload rfl ?_
    refine tt_bin ?_
    refine tt_iload rfl ?_
    refine tt_bin ?_
    refine tt_ald (x := (I 9 ((Int32.toNatClampNeg ((gb_add (gb_mul 10 v2) v6)))))) rfl rfl ?_
    refine tt_aload rfl ?_
    refine tt_getr (q := 9) rfl rfl ?_
    refine tt_const ?_
    refine tt_iload rfl ?_
    refine tt_bin ?_
    refine tt_iload rfl ?_
    refine tt_bin ?_
    refine tt_ald (x := (I 9 ((Int32.toNatClampNeg ((gb_add (gb_mul 10 v3) v6)))))) rfl rfl ?_
    refine tt_bin ?_
    refine tt_istore (L2 := [some (.ref 0), some (.int v1), some (.int v2), some (.int v3), some (.int v4), some (.int v5), some (.int v6), some (.int ((gb_sub ((I 9 ((Int32.toNatClampNeg ((gb_add (gb_mul 10 v2) v6)))))) ((I 9 ((Int32.toNatClampNeg ((gb_add (gb_mul 10 v3) v6)))))))))]) (tt_lt rfl) rfl ?_
    refine tt_aload rfl ?_
    refine tt_iload rfl ?_
    refine tt_iload rfl ?_
    refine tt_cavI (t := []) ⟨Nat.le_of_ble_eq_true rfl, Nat.le_of_ble_eq_true rfl⟩ rfl rfl rfl (fun x4 I4 => ?_)
    refine tt_if ?_ ?_
    · skip
      refine tt_mask rfl ?_
      exact rfl
    · skip
      refine tt_iload rfl ?_
      refine tt_const ?_
      refine tt_cmp ?_ ?_
      · skip
        refine tt_mask rfl ?_
        exact rfl
      · skip
        refine tt_iload rfl ?_
        refine tt_iload rfl ?_
        refine tt_cmp ?_ ?_
        · skip
          refine tt_mask rfl ?_
          exact rfl
        · skip
          refine tt_mask rfl ?_
          exact rfl
theorem eX9_layWeight_23z (N : Nat) (v1 : Int32) (v2 : Int32) (v3 : Int32) (v4 : Int32) (v5 : Int32) (v6 : Int32) (I : gM) : hX9_layWeight_23 N 0 v1 v2 v3 v4 v5 v6 I = none := (rfl)
set_option maxRecDepth 100000 in
theorem eX9_layWeight_92 (N : Nat) (n23 : Nat) (v1 : Int32) (v2 : Int32) (v3 : Int32) (v4 : Int32) (v5 : Int32) (v6 : Int32) (I : gM) : hX9_layWeight_92 N n23 v1 v2 v3 v4 v5 v6 I =
  (hX9_layWeight_23 N n23 v1 v2 v3 v4 v5 (v6 + 1) I) := by
  show (fX9_layWeight_k92 N (s_lp (fX9_layWeight_b23 N) n23)) [some (.ref 0), some (.int v1), some (.int v2), some (.int v3), some (.int v4), some (.int v5), some (.int v6), none] [] I = _
  unfold fX9_layWeight_k92
  refine tt_iinc (L2 := [some (.ref 0), some (.int v1), some (.int v2), some (.int v3), some (.int v4), some (.int v5), some (.int (v6 + 1)), none]) rfl rfl ?_
  refine tt_mask rfl ?_
  exact rfl
set_option maxRecDepth 100000 in
theorem eX9_layWeight_84 (N : Nat) (n23 : Nat) (v1 : Int32) (v2 : Int32) (v3 : Int32) (v6 : Int32) (v7 : Int32) (I : gM) : hX9_layWeight_84 N n23 v1 v2 v3 v6 v7 I =
  (hX9_layWeight_92 N n23 v1 v2 v3 v6 v7 v6 I) := by
  show (fX9_layWeight_k84 N (s_lp (fX9_layWeight_b23 N) n23)) [some (.ref 0), some (.int v1), some (.int v2), some (.int v3), none, none, some (.int v6), some (.int v7)] [] I = _
  unfold fX9_layWeight_k84
  refine tt_iload rfl ?_
  refine tt_istore (L2 := [some (.ref 0), some (.int v1), some (.int v2), some (.int v3), some (.int v6), none, some (.int v6), some (.int v7)]) (tt_lt rfl) rfl ?_
  refine tt_iload rfl ?_
  refine tt_istore (L2 := [some (.ref 0), some (.int v1), some (.int v2), some (.int v3), some (.int v6), some (.int v7), some (.int v6), some (.int v7)]) (tt_lt rfl) rfl ?_
  refine tt_mask rfl ?_
  exact rfl
set_option maxRecDepth 100000 in
theorem eX9_layWeight (N : Nat) (v1 : Int32) (I : gM) : fX9_layWeight N [.ref 0, .int v1] I = hX9_layWeight_0 N v1 I := by
  show gFn 8 (fX9_layWeight_k0 N) [.ref 0, .int v1] I = (fX9_layWeight_k0 N) [some (.ref 0), some (.int v1), none, none, none, none, none, none] [] I
  exact tt_fn rfl rfl

def hX9_layWeights_0 (N : Nat) (I : gM) : gO := fX9_layWeights_k0 N [some (.ref 0), none] [] I
def hX9_layWeights_6 (N : Nat) (n6 : Nat) (v1 : Int32) (I : gM) : gO := s_lp (fX9_layWeights_b6 N) n6 [some (.ref 0), some (.int v1)] [] I
set_option maxRecDepth 100000 in
theorem eX9_layWeights_0 (N : Nat) (I : gM) : hX9_layWeights_0 N I =
  (hV (fX9_layPressures N [.ref 0] (gS (rg 0 18) I)) (rg 0 18) I fun I1 => hX9_layWeights_6 N N 0 I1) := by
  show (fX9_layWeights_k0 N) [some (.ref 0), none] [] I = _
  unfold fX9_layWeights_k0
  refine tt_aload rfl ?_
  refine tt_cavV (t := []) ⟨Nat.le_of_ble_eq_true rfl, Nat.le_of_ble_eq_true rfl⟩ rfl rfl rfl (fun I1 => ?_)
  refine tt_const ?_
  refine tt_istore (L2 := [some (.ref 0), some (.int 0)]) (tt_lt rfl) rfl ?_
  refine tt_mask rfl ?_
  exact rfl
set_option maxRecDepth 100000 in
theorem eX9_layWeights_6 (N : Nat) (n6 : Nat) (v1 : Int32) (I : gM) : hX9_layWeights_6 N (n6 + 1) v1 I =
  (ck 2746 1 <| if gc_ge v1 ((I 3 (Int32.toNatClampNeg 1))) = true then (some (.inl none, I)) else (hV (fX9_layWeight N [.ref 0, .int v1] (gS (rg 0 18) I)) (rg 0 18) I fun I2 => hX9_layWeights_6 N n6 (v1 + 1) I2)) := by
  show (fX9_layWeights_b6 N (s_lp (fX9_layWeights_b6 N) n6)) [some (.ref 0), some (.int v1)] [] I = _
  unfold fX9_layWeights_b6
  refine tt_iload rfl ?_
  refine tt_aload rfl ?_
  refine tt_getr (q := 3) rfl rfl ?_
  refine tt_const ?_
  refine tt_ald (x := (I 3 (Int32.toNatClampNeg 1))) rfl rfl ?_
  refine tt_cmp ?_ ?_
  · skip
    exact rfl
  · skip
    refine tt_aload rfl ?_
    refine tt_iload rfl ?_
    refine tt_cavV (t := []) ⟨Nat.le_of_ble_eq_true rfl, Nat.le_of_ble_eq_true rfl⟩ rfl rfl rfl (fun I2 => ?_)
    refine tt_iinc (L2 := [some (.ref 0), some (.int (v1 + 1))]) rfl rfl ?_
    refine tt_mask rfl ?_
    exact rfl
theorem eX9_layWeights_6z (N : Nat) (v1 : Int32) (I : gM) : hX9_layWeights_6 N 0 v1 I = none := (rfl)
set_option maxRecDepth 100000 in
theorem eX9_layWeights (N : Nat) (I : gM) : fX9_layWeights N [.ref 0] I = hX9_layWeights_0 N I := by
  show gFn 2 (fX9_layWeights_k0 N) [.ref 0] I = (fX9_layWeights_k0 N) [some (.ref 0), none] [] I
  exact tt_fn rfl rfl

def hX9_greedy_0 (N : Nat) (I : gM) : gO := fX9_greedy_k0 N [some (.ref 0), none, none, none, none, none] [] I
def hX9_greedy_6 (N : Nat) (n6 : Nat) (v1 : Int32) (v2 : Int32) (v3 : Int32) (I : gM) : gO := s_lp (fX9_greedy_b6 N) n6 [some (.ref 0), some (.int v1), some (.int v2), some (.int v3), none, none] [] I
def hX9_greedy_22 (N : Nat) (n6 : Nat) (n22 : Nat) (v1 : Int32) (v2 : Int32) (v3 : Int32) (v4 : Int32) (v5 : Int32) (I : gM) : gO := s_lp (fX9_greedy_b22 N (s_lp (fX9_greedy_b6 N) n6)) n22 [some (.ref 0), some (.int v1), some (.int v2), some (.int v3), some (.int v4), some (.int v5)] [] I
def hX9_greedy_120 (N : Nat) (n6 : Nat) (v1 : Int32) (v2 : Int32) (v3 : Int32) (I : gM) : gO := fX9_greedy_k120 N (s_lp (fX9_greedy_b6 N) n6) [some (.ref 0), some (.int v1), some (.int v2), some (.int v3), none, none] [] I
def hX9_greedy_70 (N : Nat) (n6 : Nat) (n22 : Nat) (v1 : Int32) (v2 : Int32) (v3 : Int32) (v4 : Int32) (v5 : Int32) (I : gM) : gO := fX9_greedy_k70 N (s_lp (fX9_greedy_b6 N) n6) (s_lp (fX9_greedy_b22 N (s_lp (fX9_greedy_b6 N) n6)) n22) [some (.ref 0), some (.int v1), some (.int v2), some (.int v3), some (.int v4), some (.int v5)] [] I
def hX9_greedy_65 (N : Nat) (n6 : Nat) (n22 : Nat) (v1 : Int32) (v2 : Int32) (v3 : Int32) (v5 : Int32) (I : gM) : gO := fX9_greedy_k65 N (s_lp (fX9_greedy_b6 N) n6) (s_lp (fX9_greedy_b22 N (s_lp (fX9_greedy_b6 N) n6)) n22) [some (.ref 0), some (.int v1), some (.int v2), some (.int v3), none, some (.int v5)] [] I
def hX9_greedy_72 (N : Nat) (n6 : Nat) (n22 : Nat) (v1 : Int32) (v2 : Int32) (v3 : Int32) (v5 : Int32) (s0 : Int32) (I : gM) : gO := fX9_greedy_k72 N (s_lp (fX9_greedy_b6 N) n6) (s_lp (fX9_greedy_b22 N (s_lp (fX9_greedy_b6 N) n6)) n22) [some (.ref 0), some (.int v1), some (.int v2), some (.int v3), none, some (.int v5)] [.int s0] I
set_option maxRecDepth 100000 in
theorem eX9_greedy_0 (N : Nat) (I : gM) : hX9_greedy_0 N I =
  (hX9_greedy_6 N N 0 0 0 I) := by
  show (fX9_greedy_k0 N) [some (.ref 0), none, none, none, none, none] [] I = _
  unfold fX9_greedy_k0
  refine tt_const ?_
  refine tt_istore (L2 := [some (.ref 0), some (.int 0), none, none, none, none]) (tt_lt rfl) rfl ?_
  refine tt_const ?_
  refine tt_istore (L2 := [some (.ref 0), some (.int 0), some (.int 0), none, none, none]) (tt_lt rfl) rfl ?_
  refine tt_const ?_
  refine tt_istore (L2 := [some (.ref 0), some (.int 0), some (.int 0), some (.int 0), none, none]) (tt_lt rfl) rfl ?_
  refine tt_mask rfl ?_
  exact rfl
set_option maxRecDepth 100000 in
theorem eX9_greedy_6 (N : Nat) (n6 : Nat) (v1 : Int32) (v2 : Int32) (v3 : Int32) (I : gM) : hX9_greedy_6 N (n6 + 1) v1 v2 v3 I =
  (ck 2746 1 <| if gc_ge v3 ((I 3 (Int32.toNatClampNeg 1))) = true then (some (.inl (some (.int v1)), I)) else (hX9_greedy_22 N n6 N v1 v2 v3 (-1) 0 I)) := by
  show (fX9_greedy_b6 N (s_lp (fX9_greedy_b6 N) n6)) [some (.ref 0), some (.int v1), some (.int v2), some (.int v3), none, none] [] I = _
  unfold fX9_greedy_b6
  refine tt_iload rfl ?_
  refine tt_aload rfl ?_
  refine tt_getr (q := 3) rfl rfl ?_
  refine tt_const ?_
  refine tt_ald (x := (I 3 (Int32.toNatClampNeg 1))) rfl rfl ?_
  refine tt_cmp ?_ ?_
  · skip
    refine tt_iload rfl ?_
    exact rfl
  · skip
    refine tt_const ?_
    refine tt_istore (L2 := [some (.ref 0), some (.int v1), some (.int v2), some (.int v3), some (.int (-1)), none]) (tt_lt rfl) rfl ?_
    refine tt_const ?_
    refine tt_istore (L2 := [some (.ref 0), some (.int v1), some (.int v2), some (.int v3), some (.int (-1)), some (.int 0)]) (tt_lt rfl) rfl ?_
    refine tt_mask rfl ?_
    exact rfl
theorem eX9_greedy_6z (N : Nat) (v1 : Int32) (v2 : Int32) (v3 : Int32) (I : gM) : hX9_greedy_6 N 0 v1 v2 v3 I = none := (rfl)
set_option maxRecDepth 100000 in
theorem eX9_greedy_22 (N : Nat) (n6 : Nat) (n22 : Nat) (v1 : Int32) (v2 : Int32) (v3 : Int32) (v4 : Int32) (v5 : Int32) (I : gM) : hX9_greedy_22 N n6 (n22 + 1) v1 v2 v3 v4 v5 I =
  (ck 2746 1 <| if gc_ge v5 ((I 3 (Int32.toNatClampNeg 1))) = true then (ck 14 v4 <| if gz_le ((I 12 (Int32.toNatClampNeg v4))) = true then (hX9_greedy_120 N n6 v1 ((gb_or v2 (gb_shl 1 v4))) v3 I) else (ck 2746 (gb_add 131 v4) <| if gz_ne ((gb_and ((I 3 ((Int32.toNatClampNeg (gb_add 131 v4))))) v1)) = true then (hX9_greedy_120 N n6 v1 ((gb_or v2 (gb_shl 1 v4))) v3 I) else (hX9_greedy_120 N n6 ((gb_or v1 (gb_shl 1 v4))) ((gb_or v2 (gb_shl 1 v4))) v3 I))) else (hI (fX9_has N [.int v2, .int v5] (gS [] I)) [] I fun x1 I1 => if gz_ne x1 = true then (hX9_greedy_70 N n6 n22 v1 v2 v3 v4 v5 I1) else (if gc_eq v4 (-1) = true then (hX9_greedy_65 N n6 n22 v1 v2 v3 v5 I1) else (ck 14 v5 <| ck 14 v4 <| if gc_le ((I1 12 (Int32.toNatClampNeg v5))) ((I1 12 (Int32.toNatClampNeg v4))) = true then (hX9_greedy_70 N n6 n22 v1 v2 v3 v4 v5 I1) else (hX9_greedy_65 N n6 n22 v1 v2 v3 v5 I1))))) := by
  show (fX9_greedy_b22 N (s_lp (fX9_greedy_b6 N) n6) (s_lp (fX9_greedy_b22 N (s_lp (fX9_greedy_b6 N) n6)) n22)) [some (.ref 0), some (.int v1), some (.int v2), some (.int v3), some (.int v4), some (.int v5)] [] I = _
  unfold fX9_greedy_b22
  refine tt_iload rfl ?_
  refine tt_aload rfl ?_
  refine tt_getr (q := 3) rfl rfl ?_
  refine tt_const ?_
  refine tt_ald (x := (I 3 (Int32.toNatClampNeg 1))) rfl rfl ?_
  refine tt_cmp ?_ ?_
  · skip
    refine tt_iload rfl ?_
    refine tt_const ?_
    refine tt_iload rfl ?_
    refine tt_bin ?_
    refine tt_bin ?_
    refine tt_istore (L2 := [some (.ref 0), some (.int v1), some (.int ((gb_or v2 (gb_shl 1 v4)))), some (.int v3), some (.int v4), some (.int v5)]) (tt_lt rfl) rfl ?_
    refine tt_aload rfl ?_
    refine tt_getr (q := 12) rfl rfl ?_
    refine tt_iload rfl ?_
    refine tt_ald (x := (I 12 (Int32.toNatClampNeg v4))) rfl rfl ?_
    refine tt_if ?_ ?_
    · skip
      refine tt_mask rfl ?_
      exact rfl
    · skip
      refine tt_aload rfl ?_
      refine tt_getr (q := 3) rfl rfl ?_
      refine tt_const ?_
      refine tt_iload rfl ?_
      refine tt_bin ?_
      refine tt_ald (x := (I 3 ((Int32.toNatClampNeg (gb_add 131 v4))))) rfl rfl ?_
      refine tt_iload rfl ?_
      refine tt_bin ?_
      refine tt_if ?_ ?_
      · skip
        refine tt_mask rfl ?_
        exact rfl
      · skip
        refine tt_iload rfl ?_
        refine tt_const ?_
        refine tt_iload rfl ?_
        refine tt_bin ?_
        refine tt_bin ?_
        refine tt_istore (L2 := [some (.ref 0), some (.int ((gb_or v1 (gb_shl 1 v4)))), some (.int ((gb_or v2 (gb_shl 1 v4)))), some (.int v3), some (.int v4), some (.int v5)]) (tt_lt rfl) rfl ?_
        refine tt_mask rfl ?_
        exact rfl
  · skip
    refine tt_iload rfl ?_
    refine tt_iload rfl ?_
    refine tt_caI (t := []) ⟨Nat.le_of_ble_eq_true rfl, Nat.le_of_ble_eq_true rfl⟩ rfl rfl rfl (fun x1 I1 => ?_)
    refine tt_if ?_ ?_
    · skip
      refine tt_mask rfl ?_
      exact rfl
    · skip
      refine tt_iload rfl ?_
      refine tt_const ?_
      refine tt_cmp ?_ ?_
      · skip
        refine tt_mask rfl ?_
        exact rfl
      · skip
        refine tt_aload rfl ?_
        refine tt_getr (q := 12) rfl rfl ?_
        refine tt_iload rfl ?_
        refine tt_ald (x := (I1 12 (Int32.toNatClampNeg v5))) rfl rfl ?_
        refine tt_aload rfl ?_
        refine tt_getr (q := 12) rfl rfl ?_
        refine tt_iload rfl ?_
        refine tt_ald (x := (I1 12 (Int32.toNatClampNeg v4))) rfl rfl ?_
        refine tt_cmp ?_ ?_
        · skip
          refine tt_mask rfl ?_
          exact rfl
        · skip
          refine tt_mask rfl ?_
          exact rfl
theorem eX9_greedy_22z (N : Nat) (n6 : Nat) (v1 : Int32) (v2 : Int32) (v3 : Int32) (v4 : Int32) (v5 : Int32) (I : gM) : hX9_greedy_22 N n6 0 v1 v2 v3 v4 v5 I = none := (rfl)
set_option maxRecDepth 100000 in
theorem eX9_greedy_120 (N : Nat) (n6 : Nat) (v1 : Int32) (v2 : Int32) (v3 : Int32) (I : gM) : hX9_greedy_120 N n6 v1 v2 v3 I =
  (hX9_greedy_6 N n6 v1 v2 (v3 + 1) I) := by
  show (fX9_greedy_k120 N (s_lp (fX9_greedy_b6 N) n6)) [some (.ref 0), some (.int v1), some (.int v2), some (.int v3), none, none] [] I = _
  unfold fX9_greedy_k120
  refine tt_iinc (L2 := [some (.ref 0), some (.int v1), some (.int v2), some (.int (v3 + 1)), none, none]) rfl rfl ?_
  refine tt_mask rfl ?_
  exact rfl
set_option maxRecDepth 100000 in
theorem eX9_greedy_70 (N : Nat) (n6 : Nat) (n22 : Nat) (v1 : Int32) (v2 : Int32) (v3 : Int32) (v4 : Int32) (v5 : Int32) (I : gM) : hX9_greedy_70 N n6 n22 v1 v2 v3 v4 v5 I =
  (hX9_greedy_72 N n6 n22 v1 v2 v3 v5 v4 I) := by
  show (fX9_greedy_k70 N (s_lp (fX9_greedy_b6 N) n6) (s_lp (fX9_greedy_b22 N (s_lp (fX9_greedy_b6 N) n6)) n22)) [some (.ref 0), some (.int v1), some (.int v2), some (.int v3), some (.int v4), some (.int v5)] [] I = _
  unfold fX9_greedy_k70
  refine tt_iload rfl ?_
  refine tt_mask rfl ?_
  exact rfl
set_option maxRecDepth 100000 in
theorem eX9_greedy_65 (N : Nat) (n6 : Nat) (n22 : Nat) (v1 : Int32) (v2 : Int32) (v3 : Int32) (v5 : Int32) (I : gM) : hX9_greedy_65 N n6 n22 v1 v2 v3 v5 I =
  (hX9_greedy_72 N n6 n22 v1 v2 v3 v5 v5 I) := by
  show (fX9_greedy_k65 N (s_lp (fX9_greedy_b6 N) n6) (s_lp (fX9_greedy_b22 N (s_lp (fX9_greedy_b6 N) n6)) n22)) [some (.ref 0), some (.int v1), some (.int v2), some (.int v3), none, some (.int v5)] [] I = _
  unfold fX9_greedy_k65
  refine tt_iload rfl ?_
  refine tt_mask rfl ?_
  exact rfl
set_option maxRecDepth 100000 in
theorem eX9_greedy_72 (N : Nat) (n6 : Nat) (n22 : Nat) (v1 : Int32) (v2 : Int32) (v3 : Int32) (v5 : Int32) (s0 : Int32) (I : gM) : hX9_greedy_72 N n6 n22 v1 v2 v3 v5 s0 I =
  (hX9_greedy_22 N n6 n22 v1 v2 v3 s0 (v5 + 1) I) := by
  show (fX9_greedy_k72 N (s_lp (fX9_greedy_b6 N) n6) (s_lp (fX9_greedy_b22 N (s_lp (fX9_greedy_b6 N) n6)) n22)) [some (.ref 0), some (.int v1), some (.int v2), some (.int v3), none, some (.int v5)] [.int s0] I = _
  unfold fX9_greedy_k72
  refine tt_istore (L2 := [some (.ref 0), some (.int v1), some (.int v2), some (.int v3), some (.int s0), some (.int v5)]) (tt_lt rfl) rfl ?_
  refine tt_iinc (L2 := [some (.ref 0), some (.int v1), some (.int v2), some (.int v3), some (.int s0), some (.int (v5 + 1))]) rfl rfl ?_
  refine tt_mask rfl ?_
  exact rfl
set_option maxRecDepth 100000 in
theorem eX9_greedy (N : Nat) (I : gM) : fX9_greedy N [.ref 0] I = hX9_greedy_0 N I := by
  show gFn 6 (fX9_greedy_k0 N) [.ref 0] I = (fX9_greedy_k0 N) [some (.ref 0), none, none, none, none, none] [] I
  exact tt_fn rfl rfl

def hX9_hasRival_0 (N : Nat) (v1 : Int32) (I : gM) : gO := fX9_hasRival_k0 N [some (.ref 0), some (.int v1), none, none] [] I
def hX9_hasRival_4 (N : Nat) (n4 : Nat) (v1 : Int32) (v2 : Int32) (v3 : Int32) (I : gM) : gO := s_lp (fX9_hasRival_b4 N) n4 [some (.ref 0), some (.int v1), some (.int v2), some (.int v3)] [] I
def hX9_hasRival_45 (N : Nat) (n4 : Nat) (v1 : Int32) (v3 : Int32) (s0 : Int32) (I : gM) : gO := fX9_hasRival_k45 N (s_lp (fX9_hasRival_b4 N) n4) [some (.ref 0), some (.int v1), none, some (.int v3)] [.int s0] I
def hX9_hasRival_46 (N : Nat) (n4 : Nat) (v1 : Int32) (v3 : Int32) (s0 : Int32) (s1 : Int32) (I : gM) : gO := fX9_hasRival_k46 N (s_lp (fX9_hasRival_b4 N) n4) [some (.ref 0), some (.int v1), none, some (.int v3)] [.int s1, .int s0] I
set_option maxRecDepth 100000 in
theorem eX9_hasRival_0 (N : Nat) (v1 : Int32) (I : gM) : hX9_hasRival_0 N v1 I =
  (hX9_hasRival_4 N N v1 0 0 I) := by
  show (fX9_hasRival_k0 N) [some (.ref 0), some (.int v1), none, none] [] I = _
  unfold fX9_hasRival_k0
  refine tt_const ?_
  refine tt_istore (L2 := [some (.ref 0), some (.int v1), some (.int 0), none]) (tt_lt rfl) rfl ?_
  refine tt_const ?_
  refine tt_istore (L2 := [some (.ref 0), some (.int v1), some (.int 0), some (.int 0)]) (tt_lt rfl) rfl ?_
  refine tt_mask rfl ?_
  exact rfl
set_option maxRecDepth 100000 in
theorem eX9_hasRival_4 (N : Nat) (n4 : Nat) (v1 : Int32) (v2 : Int32) (v3 : Int32) (I : gM) : hX9_hasRival_4 N (n4 + 1) v1 v2 v3 I =
  (ck 2746 1 <| if gc_ge v3 ((I 3 (Int32.toNatClampNeg 1))) = true then (if v2 = 0 ∨ v2 = 1 then some (.inl (some (.int v2)), I) else none) else (ck 2746 (gb_add 131 v1) <| hI (fX9_has N [.int ((I 3 ((Int32.toNatClampNeg (gb_add 131 v1))))), .int v3] (gS [] I)) [] I fun x1 I1 => if gz_eq x1 = true then (hX9_hasRival_45 N n4 v1 v3 v2 I1) else (ck 14 v3 <| if gz_le ((I1 12 (Int32.toNatClampNeg v3))) = true then (hX9_hasRival_45 N n4 v1 v3 v2 I1) else (hX9_hasRival_46 N n4 v1 v3 v2 1 I1)))) := by
  show (fX9_hasRival_b4 N (s_lp (fX9_hasRival_b4 N) n4)) [some (.ref 0), some (.int v1), some (.int v2), some (.int v3)] [] I = _
  unfold fX9_hasRival_b4
  refine tt_iload rfl ?_
  refine tt_aload rfl ?_
  refine tt_getr (q := 3) rfl rfl ?_
  refine tt_const ?_
  refine tt_ald (x := (I 3 (Int32.toNatClampNeg 1))) rfl rfl ?_
  refine tt_cmp ?_ ?_
  · skip
    refine tt_iload rfl ?_
    exact rfl
  · skip
    refine tt_iload rfl ?_
    refine tt_aload rfl ?_
    refine tt_getr (q := 3) rfl rfl ?_
    refine tt_const ?_
    refine tt_iload rfl ?_
    refine tt_bin ?_
    refine tt_ald (x := (I 3 ((Int32.toNatClampNeg (gb_add 131 v1))))) rfl rfl ?_
    refine tt_iload rfl ?_
    refine tt_caI (t := [.int v2]) ⟨Nat.le_of_ble_eq_true rfl, Nat.le_of_ble_eq_true rfl⟩ rfl rfl rfl (fun x1 I1 => ?_)
    refine tt_if ?_ ?_
    · skip
      refine tt_mask rfl ?_
      exact rfl
    · skip
      refine tt_aload rfl ?_
      refine tt_getr (q := 12) rfl rfl ?_
      refine tt_iload rfl ?_
      refine tt_ald (x := (I1 12 (Int32.toNatClampNeg v3))) rfl rfl ?_
      refine tt_if ?_ ?_
      · skip
        refine tt_mask rfl ?_
        exact rfl
      · skip
        refine tt_const ?_
        refine tt_mask rfl ?_
        exact rfl
theorem eX9_hasRival_4z (N : Nat) (v1 : Int32) (v2 : Int32) (v3 : Int32) (I : gM) : hX9_hasRival_4 N 0 v1 v2 v3 I = none := (rfl)
set_option maxRecDepth 100000 in
theorem eX9_hasRival_45 (N : Nat) (n4 : Nat) (v1 : Int32) (v3 : Int32) (s0 : Int32) (I : gM) : hX9_hasRival_45 N n4 v1 v3 s0 I =
  (hX9_hasRival_46 N n4 v1 v3 s0 0 I) := by
  show (fX9_hasRival_k45 N (s_lp (fX9_hasRival_b4 N) n4)) [some (.ref 0), some (.int v1), none, some (.int v3)] [.int s0] I = _
  unfold fX9_hasRival_k45
  refine tt_const ?_
  refine tt_mask rfl ?_
  exact rfl
set_option maxRecDepth 100000 in
theorem eX9_hasRival_46 (N : Nat) (n4 : Nat) (v1 : Int32) (v3 : Int32) (s0 : Int32) (s1 : Int32) (I : gM) : hX9_hasRival_46 N n4 v1 v3 s0 s1 I =
  (hX9_hasRival_4 N n4 v1 (gb_or s0 s1) (v3 + 1) I) := by
  show (fX9_hasRival_k46 N (s_lp (fX9_hasRival_b4 N) n4)) [some (.ref 0), some (.int v1), none, some (.int v3)] [.int s1, .int s0] I = _
  unfold fX9_hasRival_k46
  refine tt_bin ?_
  refine tt_istore (L2 := [some (.ref 0), some (.int v1), some (.int (gb_or s0 s1)), some (.int v3)]) (tt_lt rfl) rfl ?_
  refine tt_iinc (L2 := [some (.ref 0), some (.int v1), some (.int (gb_or s0 s1)), some (.int (v3 + 1))]) rfl rfl ?_
  refine tt_mask rfl ?_
  exact rfl
set_option maxRecDepth 100000 in
theorem eX9_hasRival (N : Nat) (v1 : Int32) (I : gM) : fX9_hasRival N [.ref 0, .int v1] I = hX9_hasRival_0 N v1 I := by
  show gFn 4 (fX9_hasRival_k0 N) [.ref 0, .int v1] I = (fX9_hasRival_k0 N) [some (.ref 0), some (.int v1), none, none] [] I
  exact tt_fn rfl rfl

def hX9_grown_0 (N : Nat) (v0 : Int32) (v1 : Int32) (v2 : Int32) (I : gM) : gO := fX9_grown_k0 N [some (.int v0), some (.int v1), some (.int v2)] [] I
set_option maxRecDepth 100000 in
theorem eX9_grown_0 (N : Nat) (v0 : Int32) (v1 : Int32) (v2 : Int32) (I : gM) : hX9_grown_0 N v0 v1 v2 I =
  (if v2 = 0 then none else if v2 = 0 then none else some (.inl (some (.int ((gb_sub ((gb_div ((gb_mul (gb_add v0 1) v1)) v2)) ((gb_div (gb_mul v0 v1) v2)))))), I)) := by
  show (fX9_grown_k0 N) [some (.int v0), some (.int v1), some (.int v2)] [] I = _
  unfold fX9_grown_k0
  refine tt_iload rfl ?_
  refine tt_const ?_
  refine tt_bin ?_
  refine tt_iload rfl ?_
  refine tt_bin ?_
  refine tt_iload rfl ?_
  refine tt_div ?_
  refine tt_iload rfl ?_
  refine tt_iload rfl ?_
  refine tt_bin ?_
  refine tt_iload rfl ?_
  refine tt_div ?_
  refine tt_bin ?_
  exact rfl
set_option maxRecDepth 100000 in
theorem eX9_grown (N : Nat) (v0 : Int32) (v1 : Int32) (v2 : Int32) (I : gM) : fX9_grown N [.int v0, .int v1, .int v2] I = hX9_grown_0 N v0 v1 v2 I := by
  show gFn 3 (fX9_grown_k0 N) [.int v0, .int v1, .int v2] I = (fX9_grown_k0 N) [some (.int v0), some (.int v1), some (.int v2)] [] I
  exact tt_fn rfl rfl

def hX9_arrive_0 (N : Nat) (v1 : Int32) (v2 : Int32) (I : gM) : gO := fX9_arrive_k0 N [some (.ref 0), some (.int v1), some (.int v2), none, none] [] I
def hX9_arrive_5 (N : Nat) (n5 : Nat) (v1 : Int32) (v2 : Int32) (v3 : Int32) (v4 : Int32) (I : gM) : gO := s_lp (fX9_arrive_b5 N) n5 [some (.ref 0), some (.int v1), some (.int v2), some (.int v3), some (.int v4)] [] I
def hX9_arrive_59 (N : Nat) (n5 : Nat) (v1 : Int32) (v2 : Int32) (v3 : Int32) (v4 : Int32) (s1 : Int32) (s2 : Int32) (s3 : Int32) (s4 : Int32) (s5 : Int32) (I : gM) : gO := fX9_arrive_k59 N (s_lp (fX9_arrive_b5 N) n5) [some (.ref 0), some (.int v1), some (.int v2), some (.int v3), some (.int v4)] [.int s5, .int s4, .int s3, .int s2, .int s1, .ref 0] I
def hX9_arrive_72 (N : Nat) (n5 : Nat) (v1 : Int32) (v2 : Int32) (v3 : Int32) (v4 : Int32) (I : gM) : gO := fX9_arrive_k72 N (s_lp (fX9_arrive_b5 N) n5) [some (.ref 0), some (.int v1), some (.int v2), some (.int v3), some (.int v4)] [] I
set_option maxRecDepth 100000 in
theorem eX9_arrive_0 (N : Nat) (v1 : Int32) (v2 : Int32) (I : gM) : hX9_arrive_0 N v1 v2 I =
  (hX9_arrive_5 N N v1 v2 0 0 I) := by
  show (fX9_arrive_k0 N) [some (.ref 0), some (.int v1), some (.int v2), none, none] [] I = _
  unfold fX9_arrive_k0
  refine tt_const ?_
  refine tt_istore (L2 := [some (.ref 0), some (.int v1), some (.int v2), some (.int 0), none]) (tt_lt rfl) rfl ?_
  refine tt_const ?_
  refine tt_istore (L2 := [some (.ref 0), some (.int v1), some (.int v2), some (.int 0), some (.int 0)]) (tt_lt rfl) rfl ?_
  refine tt_mask rfl ?_
  exact rfl
set_option maxRecDepth 100000 in
theorem eX9_arrive_5 (N : Nat) (n5 : Nat) (v1 : Int32) (v2 : Int32) (v3 : Int32) (v4 : Int32) (I : gM) : hX9_arrive_5 N (n5 + 1) v1 v2 v3 v4 I =
  (if gc_ge v4 v2 = true then (some (.inl (some (.int v3)), I)) else (hV (fX9_count N [.ref 0, .int v1, .int 4, .int 1] (gS (rg 0 18) I)) (rg 0 18) I fun I1 => ck 2746 245 <| if gc_ne ((I1 3 (Int32.toNatClampNeg 245))) 500 = true then (ck 2746 7 <| hI (fX9_flowPart N [.ref 0, .int v1, .int 0] (gS (rg 0 18) I1)) (rg 0 18) I1 fun x2 I2 => hX9_arrive_59 N n5 v1 v2 v3 v4 v1 ((I1 3 (Int32.toNatClampNeg 7))) 0 1 x2 I2) else (hV (fX9_count N [.ref 0, .int v1, .int 5, .int 1] (gS (rg 0 18) I1)) (rg 0 18) I1 fun I3 => hX9_arrive_72 N n5 v1 v2 v3 v4 I3))) := by
  show (fX9_arrive_b5 N (s_lp (fX9_arrive_b5 N) n5)) [some (.ref 0), some (.int v1), some (.int v2), some (.int v3), some (.int v4)] [] I = _
  unfold fX9_arrive_b5
  refine tt_iload rfl ?_
  refine tt_iload rfl ?_
  refine tt_cmp ?_ ?_
  · skip
    refine tt_iload rfl ?_
    exact rfl
  · skip
    refine tt_aload rfl ?_
    refine tt_iload rfl ?_
    refine tt_const ?_
    refine tt_const ?_
    refine tt_cavV (t := []) ⟨Nat.le_of_ble_eq_true rfl, Nat.le_of_ble_eq_true rfl⟩ rfl rfl rfl (fun I1 => ?_)
    refine tt_aload rfl ?_
    refine tt_getr (q := 3) rfl rfl ?_
    refine tt_const ?_
    refine tt_ald (x := (I1 3 (Int32.toNatClampNeg 245))) rfl rfl ?_
    refine tt_const ?_
    refine tt_cmp ?_ ?_
    · skip
      refine tt_aload rfl ?_
      refine tt_iload rfl ?_
      refine tt_aload rfl ?_
      refine tt_getr (q := 3) rfl rfl ?_
      refine tt_const ?_
      refine tt_ald (x := (I1 3 (Int32.toNatClampNeg 7))) rfl rfl ?_
      refine tt_const ?_
      refine tt_const ?_
      refine tt_aload rfl ?_
      refine tt_iload rfl ?_
      refine tt_const ?_
      refine tt_cavI (t := [.int 1, .int 0, .int ((I1 3 (Int32.toNatClampNeg 7))), .int v1, .ref 0]) ⟨Nat.le_of_ble_eq_true rfl, Nat.le_of_ble_eq_true rfl⟩ rfl rfl rfl (fun x2 I2 => ?_)
      refine tt_mask rfl ?_
      exact rfl
    · skip
      refine tt_aload rfl ?_
      refine tt_iload rfl ?_
      refine tt_const ?_
      refine tt_const ?_
      refine tt_cavV (t := []) ⟨Nat.le_of_ble_eq_true rfl, Nat.le_of_ble_eq_true rfl⟩ rfl rfl rfl (fun I3 => ?_)
      refine tt_mask rfl ?_
      exact rfl
theorem eX9_arrive_5z (N : Nat) (v1 : Int32) (v2 : Int32) (v3 : Int32) (v4 : Int32) (I : gM) : hX9_arrive_5 N 0 v1 v2 v3 v4 I = none := (rfl)
set_option maxRecDepth 100000 in
theorem eX9_arrive_59 (N : Nat) (n5 : Nat) (v1 : Int32) (v2 : Int32) (v3 : Int32) (v4 : Int32) (s1 : Int32) (s2 : Int32) (s3 : Int32) (s4 : Int32) (s5 : Int32) (I : gM) : hX9_arrive_59 N n5 v1 v2 v3 v4 s1 s2 s3 s4 s5 I =
  (hI (fX9_flowPart N [.ref 0, .int v1, .int 0] (gS (rg 0 18) I)) (rg 0 18) I fun x4 I4 => hV (fX9_come N [.ref 0, .int s1, .int s2, .int s3, .int (gb_shl s4 s5), .int x4] (gS (rg 0 18) I4)) (rg 0 18) I4 fun I5 => hX9_arrive_72 N n5 v1 v2 (v3 + 1) v4 I5) := by
  show (fX9_arrive_k59 N (s_lp (fX9_arrive_b5 N) n5)) [some (.ref 0), some (.int v1), some (.int v2), some (.int v3), some (.int v4)] [.int s5, .int s4, .int s3, .int s2, .int s1, .ref 0] I = _
  unfold fX9_arrive_k59
  refine tt_bin ?_
  refine tt_aload rfl ?_
  refine tt_iload rfl ?_
  refine tt_const ?_
  refine tt_cavI (t := [.int (gb_shl s4 s5), .int s3, .int s2, .int s1, .ref 0]) ⟨Nat.le_of_ble_eq_true rfl, Nat.le_of_ble_eq_true rfl⟩ rfl rfl rfl (fun x4 I4 => ?_)
  refine tt_cavV (t := []) ⟨Nat.le_of_ble_eq_true rfl, Nat.le_of_ble_eq_true rfl⟩ rfl rfl rfl (fun I5 => ?_)
  refine tt_iinc (L2 := [some (.ref 0), some (.int v1), some (.int v2), some (.int (v3 + 1)), some (.int v4)]) rfl rfl ?_
  refine tt_mask rfl ?_
  exact rfl
set_option maxRecDepth 100000 in
theorem eX9_arrive_72 (N : Nat) (n5 : Nat) (v1 : Int32) (v2 : Int32) (v3 : Int32) (v4 : Int32) (I : gM) : hX9_arrive_72 N n5 v1 v2 v3 v4 I =
  (hX9_arrive_5 N n5 v1 v2 v3 (v4 + 1) I) := by
  show (fX9_arrive_k72 N (s_lp (fX9_arrive_b5 N) n5)) [some (.ref 0), some (.int v1), some (.int v2), some (.int v3), some (.int v4)] [] I = _
  unfold fX9_arrive_k72
  refine tt_iinc (L2 := [some (.ref 0), some (.int v1), some (.int v2), some (.int v3), some (.int (v4 + 1))]) rfl rfl ?_
  refine tt_mask rfl ?_
  exact rfl
set_option maxRecDepth 100000 in
theorem eX9_arrive (N : Nat) (v1 : Int32) (v2 : Int32) (I : gM) : fX9_arrive N [.ref 0, .int v1, .int v2] I = hX9_arrive_0 N v1 v2 I := by
  show gFn 5 (fX9_arrive_k0 N) [.ref 0, .int v1, .int v2] I = (fX9_arrive_k0 N) [some (.ref 0), some (.int v1), some (.int v2), none, none] [] I
  exact tt_fn rfl rfl

def hX9_arrivals_0 (N : Nat) (I : gM) : gO := fX9_arrivals_k0 N [some (.ref 0), none, none, none] [] I
def hX9_arrivals_2 (N : Nat) (n2 : Nat) (v1 : Int32) (I : gM) : gO := s_lp (fX9_arrivals_b2 N) n2 [some (.ref 0), some (.int v1), none, none] [] I
def hX9_arrivals_35 (N : Nat) (n2 : Nat) (v1 : Int32) (s0 : Int32) (I : gM) : gO := fX9_arrivals_k35 N (s_lp (fX9_arrivals_b2 N) n2) [some (.ref 0), some (.int v1), none, none] [.int s0] I
def hX9_arrivals_77 (N : Nat) (n2 : Nat) (v1 : Int32) (s1 : Int32) (s2 : Int32) (s3 : Int32) (s4 : Int32) (I : gM) : gO := fX9_arrivals_k77 N (s_lp (fX9_arrivals_b2 N) n2) [some (.ref 0), some (.int v1), none, none] [.int s4, .int s3, .int s2, .int s1, .ref 3] I
set_option maxRecDepth 100000 in
theorem eX9_arrivals_0 (N : Nat) (I : gM) : hX9_arrivals_0 N I =
  (hX9_arrivals_2 N N 0 I) := by
  show (fX9_arrivals_k0 N) [some (.ref 0), none, none, none] [] I = _
  unfold fX9_arrivals_k0
  refine tt_const ?_
  refine tt_istore (L2 := [some (.ref 0), some (.int 0), none, none]) (tt_lt rfl) rfl ?_
  refine tt_mask rfl ?_
  exact rfl
set_option maxRecDepth 100000 in
theorem eX9_arrivals_2 (N : Nat) (n2 : Nat) (v1 : Int32) (I : gM) : hX9_arrivals_2 N (n2 + 1) v1 I =
  (ck 2746 2 <| if gc_ge v1 ((I 3 (Int32.toNatClampNeg 2))) = true then (some (.inl none, I)) else (ck 2746 7 <| hI (fX9_flowPart N [.ref 0, .int v1, .int 2] (gS (rg 0 18) I)) (rg 0 18) I fun x1 I1 => hI (fX9_grown N [.int ((I 3 (Int32.toNatClampNeg 7))), .int x1, .int 100] (gS [] I1)) [] I1 fun x2 I2 => hI (fX9_arrive N [.ref 0, .int v1, .int x2] (gS (rg 0 18) I2)) (rg 0 18) I2 fun x3 I3 => hX9_arrivals_35 N n2 v1 x3 I3)) := by
  show (fX9_arrivals_b2 N (s_lp (fX9_arrivals_b2 N) n2)) [some (.ref 0), some (.int v1), none, none] [] I = _
  unfold fX9_arrivals_b2
  refine tt_iload rfl ?_
  refine tt_aload rfl ?_
  refine tt_getr (q := 3) rfl rfl ?_
  refine tt_const ?_
  refine tt_ald (x := (I 3 (Int32.toNatClampNeg 2))) rfl rfl ?_
  refine tt_cmp ?_ ?_
  · skip
    exact rfl
  · skip
    refine tt_aload rfl ?_
    refine tt_iload rfl ?_
    refine tt_aload rfl ?_
    refine tt_getr (q := 3) rfl rfl ?_
    refine tt_const ?_
    refine tt_ald (x := (I 3 (Int32.toNatClampNeg 7))) rfl rfl ?_
    refine tt_aload rfl ?_
    refine tt_iload rfl ?_
    refine tt_const ?_
    refine tt_cavI (t := [.int ((I 3 (Int32.toNatClampNeg 7))), .int v1, .ref 0]) ⟨Nat.le_of_ble_eq_true rfl, Nat.le_of_ble_eq_true rfl⟩ rfl rfl rfl (fun x1 I1 => ?_)
    refine tt_const ?_
    refine tt_caI (t := [.int v1, .ref 0]) ⟨Nat.le_of_ble_eq_true rfl, Nat.le_of_ble_eq_true rfl⟩ rfl rfl rfl (fun x2 I2 => ?_)
    refine tt_cavI (t := []) ⟨Nat.le_of_ble_eq_true rfl, Nat.le_of_ble_eq_true rfl⟩ rfl rfl rfl (fun x3 I3 => ?_)
    refine tt_mask rfl ?_
    exact rfl
theorem eX9_arrivals_2z (N : Nat) (v1 : Int32) (I : gM) : hX9_arrivals_2 N 0 v1 I = none := (rfl)
set_option maxRecDepth 100000 in
theorem eX9_arrivals_35 (N : Nat) (n2 : Nat) (v1 : Int32) (s0 : Int32) (I : gM) : hX9_arrivals_35 N n2 v1 s0 I =
  (hI (fX9_flowPart N [.ref 0, .int v1, .int 0] (gS (rg 0 18) I)) (rg 0 18) I fun x4 I4 => hI (fX9_flowPart N [.ref 0, .int v1, .int 1] (gS (rg 0 18) I4)) (rg 0 18) I4 fun x5 I5 => ck 2746 ((gb_add ((gb_add 145 (gb_mul 10 x4))) x5)) <| ck 2746 7 <| hI (fX9_flowPart N [.ref 0, .int v1, .int 2] (gS (rg 0 18) I5)) (rg 0 18) I5 fun x6 I6 => hX9_arrivals_77 N n2 v1 ((gb_add ((gb_add 145 (gb_mul 10 x4))) x5)) ((I5 3 ((Int32.toNatClampNeg ((gb_add ((gb_add 145 (gb_mul 10 x4))) x5)))))) ((I5 3 (Int32.toNatClampNeg 7))) x6 I6) := by
  show (fX9_arrivals_k35 N (s_lp (fX9_arrivals_b2 N) n2)) [some (.ref 0), some (.int v1), none, none] [.int s0] I = _
  unfold fX9_arrivals_k35
  refine tt_istore (L2 := [some (.ref 0), some (.int v1), some (.int s0), none]) (tt_lt rfl) rfl ?_
  refine tt_const ?_
  refine tt_const ?_
  refine tt_aload rfl ?_
  refine tt_iload rfl ?_
  refine tt_const ?_
  refine tt_cavI (t := [.int 10, .int 145]) ⟨Nat.le_of_ble_eq_true rfl, Nat.le_of_ble_eq_true rfl⟩ rfl rfl rfl (fun x4 I4 => ?_)
  refine tt_bin ?_
  refine tt_bin ?_
  refine tt_aload rfl ?_
  refine tt_iload rfl ?_
  refine tt_const ?_
  refine tt_cavI (t := [.int ((gb_add 145 (gb_mul 10 x4)))]) ⟨Nat.le_of_ble_eq_true rfl, Nat.le_of_ble_eq_true rfl⟩ rfl rfl rfl (fun x5 I5 => ?_)
  refine tt_bin ?_
  refine tt_istore (L2 := [some (.ref 0), some (.int v1), some (.int s0), some (.int ((gb_add ((gb_add 145 (gb_mul 10 x4))) x5)))]) (tt_lt rfl) rfl ?_
  refine tt_aload rfl ?_
  refine tt_getr (q := 3) rfl rfl ?_
  refine tt_iload rfl ?_
  refine tt_dup2 rfl rfl ?_
  refine tt_ald (x := (I5 3 ((Int32.toNatClampNeg ((gb_add ((gb_add 145 (gb_mul 10 x4))) x5)))))) rfl rfl ?_
  refine tt_aload rfl ?_
  refine tt_getr (q := 3) rfl rfl ?_
  refine tt_const ?_
  refine tt_ald (x := (I5 3 (Int32.toNatClampNeg 7))) rfl rfl ?_
  refine tt_aload rfl ?_
  refine tt_iload rfl ?_
  refine tt_const ?_
  refine tt_cavI (t := [.int ((I5 3 (Int32.toNatClampNeg 7))), .int ((I5 3 ((Int32.toNatClampNeg ((gb_add ((gb_add 145 (gb_mul 10 x4))) x5)))))), .int ((gb_add ((gb_add 145 (gb_mul 10 x4))) x5)), .ref 3]) ⟨Nat.le_of_ble_eq_true rfl, Nat.le_of_ble_eq_true rfl⟩ rfl rfl rfl (fun x6 I6 => ?_)
  refine tt_mask rfl ?_
  exact rfl
set_option maxRecDepth 100000 in
theorem eX9_arrivals_77 (N : Nat) (n2 : Nat) (v1 : Int32) (s1 : Int32) (s2 : Int32) (s3 : Int32) (s4 : Int32) (I : gM) : hX9_arrivals_77 N n2 v1 s1 s2 s3 s4 I =
  (ck 2746 4 <| hI (fX9_grown N [.int s3, .int ((gb_mul s4 ((gb_add 100 ((I 3 (Int32.toNatClampNeg 4))))))), .int 10000] (gS [] I)) [] I fun x7 I7 => ck 2746 s1 <| hX9_arrivals_2 N n2 (v1 + 1) (gU I7 3 (Int32.toNatClampNeg s1) (gb_add s2 x7))) := by
  show (fX9_arrivals_k77 N (s_lp (fX9_arrivals_b2 N) n2)) [some (.ref 0), some (.int v1), none, none] [.int s4, .int s3, .int s2, .int s1, .ref 3] I = _
  unfold fX9_arrivals_k77
  refine tt_const ?_
  refine tt_aload rfl ?_
  refine tt_getr (q := 3) rfl rfl ?_
  refine tt_const ?_
  refine tt_ald (x := (I 3 (Int32.toNatClampNeg 4))) rfl rfl ?_
  refine tt_bin ?_
  refine tt_bin ?_
  refine tt_const ?_
  refine tt_caI (t := [.int s2, .int s1, .ref 3]) ⟨Nat.le_of_ble_eq_true rfl, Nat.le_of_ble_eq_true rfl⟩ rfl rfl rfl (fun x7 I7 => ?_)
  refine tt_bin ?_
  refine tt_ast (v := (gb_add s2 x7)) rfl rfl ?_
  refine tt_iinc (L2 := [some (.ref 0), some (.int (v1 + 1)), none, none]) rfl rfl ?_
  refine tt_mask rfl ?_
  exact rfl
set_option maxRecDepth 100000 in
theorem eX9_arrivals (N : Nat) (I : gM) : fX9_arrivals N [.ref 0] I = hX9_arrivals_0 N I := by
  show gFn 4 (fX9_arrivals_k0 N) [.ref 0] I = (fX9_arrivals_k0 N) [some (.ref 0), none, none, none] [] I
  exact tt_fn rfl rfl

def hX9_take_0 (N : Nat) (v1 : Int32) (I : gM) : gO := fX9_take_k0 N [some (.ref 0), some (.int v1), none, none, none, none, none] [] I
def hX9_take_25 (N : Nat) (n25 : Nat) (v1 : Int32) (v2 : Int32) (v3 : Int32) (v4 : Int32) (v5 : Int32) (I : gM) : gO := s_lp (fX9_take_b25 N) n25 [some (.ref 0), some (.int v1), some (.int v2), some (.int v3), some (.int v4), some (.int v5), none] [] I
def hX9_take_141 (N : Nat) (v1 : Int32) (v2 : Int32) (v3 : Int32) (I : gM) : gO := fX9_take_k141 N [some (.ref 0), some (.int v1), some (.int v2), some (.int v3), none, none, none] [] I
def hX9_take_135 (N : Nat) (n25 : Nat) (v1 : Int32) (v2 : Int32) (v3 : Int32) (v4 : Int32) (v5 : Int32) (I : gM) : gO := fX9_take_k135 N (s_lp (fX9_take_b25 N) n25) [some (.ref 0), some (.int v1), some (.int v2), some (.int v3), some (.int v4), some (.int v5), none] [] I
def hX9_take_70 (N : Nat) (n25 : Nat) (n70 : Nat) (v1 : Int32) (v2 : Int32) (v3 : Int32) (v4 : Int32) (v5 : Int32) (v6 : Int32) (I : gM) : gO := s_lp (fX9_take_b70 N (s_lp (fX9_take_b25 N) n25)) n70 [some (.ref 0), some (.int v1), some (.int v2), some (.int v3), some (.int v4), some (.int v5), some (.int v6)] [] I
set_option maxRecDepth 100000 in
theorem eX9_take_0 (N : Nat) (v1 : Int32) (I : gM) : hX9_take_0 N v1 I =
  (hI (fX9_linkPart N [.ref 0, .int v1, .int 0] (gS (rg 0 18) I)) (rg 0 18) I fun x1 I1 => ck 14 v1 <| hI (fX9_linkPart N [.ref 0, .int v1, .int 2] (gS (rg 0 18) I1)) (rg 0 18) I1 fun x2 I2 => hX9_take_25 N N v1 x1 ((I1 11 (Int32.toNatClampNeg v1))) x2 0 I2) := by
  show (fX9_take_k0 N) [some (.ref 0), some (.int v1), none, none, none, none, none] [] I = _
  unfold fX9_take_k0
  refine tt_aload rfl ?_
  refine tt_iload rfl ?_
  refine tt_const ?_
  refine tt_cavI (t := []) ⟨Nat.le_of_ble_eq_true rfl, Nat.le_of_ble_eq_true rfl⟩ rfl rfl rfl (fun x1 I1 => ?_)
  refine tt_istore (L2 := [some (.ref 0), some (.int v1), some (.int x1), none, none, none, none]) (tt_lt rfl) rfl ?_
  refine tt_aload rfl ?_
  refine tt_getr (q := 11) rfl rfl ?_
  refine tt_iload rfl ?_
  refine tt_ald (x := (I1 11 (Int32.toNatClampNeg v1))) rfl rfl ?_
  refine tt_istore (L2 := [some (.ref 0), some (.int v1), some (.int x1), some (.int ((I1 11 (Int32.toNatClampNeg v1)))), none, none, none]) (tt_lt rfl) rfl ?_
  refine tt_aload rfl ?_
  refine tt_iload rfl ?_
  refine tt_const ?_
  refine tt_cavI (t := []) ⟨Nat.le_of_ble_eq_true rfl, Nat.le_of_ble_eq_true rfl⟩ rfl rfl rfl (fun x2 I2 => ?_)
  refine tt_istore (L2 := [some (.ref 0), some (.int v1), some (.int x1), some (.int ((I1 11 (Int32.toNatClampNeg v1)))), some (.int x2), none, none]) (tt_lt rfl) rfl ?_
  refine tt_const ?_
  refine tt_istore (L2 := [some (.ref 0), some (.int v1), some (.int x1), some (.int ((I1 11 (Int32.toNatClampNeg v1)))), some (.int x2), some (.int 0), none]) (tt_lt rfl) rfl ?_
  refine tt_mask rfl ?_
  exact rfl
set_option maxRecDepth 100000 in
theorem eX9_take_25 (N : Nat) (n25 : Nat) (v1 : Int32) (v2 : Int32) (v3 : Int32) (v4 : Int32) (v5 : Int32) (I : gM) : hX9_take_25 N (n25 + 1) v1 v2 v3 v4 v5 I =
  (ck 2746 245 <| if gc_ge v5 ((I 3 (Int32.toNatClampNeg 245))) = true then (hX9_take_141 N v1 v2 v3 I) else (if gz_le v4 = true then (hX9_take_141 N v1 v2 v3 I) else (ck 500 v5 <| if gz_ne ((I 7 (Int32.toNatClampNeg v5))) = true then (hX9_take_135 N n25 v1 v2 v3 v4 v5 I) else (hI (fX9_isQueued N [.ref 0, .int v5, .int v2, .int v3] (gS (rg 0 18) I)) (rg 0 18) I fun x3 I3 => if gz_ne x3 = true then (hX9_take_70 N n25 N v1 v2 v3 v4 v5 0 I3) else (hX9_take_135 N n25 v1 v2 v3 v4 v5 I3))))) := by
  show (fX9_take_b25 N (s_lp (fX9_take_b25 N) n25)) [some (.ref 0), some (.int v1), some (.int v2), some (.int v3), some (.int v4), some (.int v5), none] [] I = _
  unfold fX9_take_b25
  refine tt_iload rfl ?_
  refine tt_aload rfl ?_
  refine tt_getr (q := 3) rfl rfl ?_
  refine tt_const ?_
  refine tt_ald (x := (I 3 (Int32.toNatClampNeg 245))) rfl rfl ?_
  refine tt_cmp ?_ ?_
  · skip
    refine tt_mask rfl ?_
    exact rfl
  · skip
    refine tt_iload rfl ?_
    refine tt_if ?_ ?_
    · skip
      refine tt_mask rfl ?_
      exact rfl
    · skip
      refine tt_aload rfl ?_
      refine tt_getr (q := 7) rfl rfl ?_
      refine tt_iload rfl ?_
      refine tt_ald (x := (I 7 (Int32.toNatClampNeg v5))) rfl rfl ?_
      refine tt_if ?_ ?_
      · skip
        refine tt_mask rfl ?_
        exact rfl
      · skip
        refine tt_aload rfl ?_
        refine tt_iload rfl ?_
        refine tt_iload rfl ?_
        refine tt_iload rfl ?_
        refine tt_cavI (t := []) ⟨Nat.le_of_ble_eq_true rfl, Nat.le_of_ble_eq_true rfl⟩ rfl rfl rfl (fun x3 I3 => ?_)
        refine tt_if ?_ ?_
        · skip
          refine tt_const ?_
          refine tt_istore (L2 := [some (.ref 0), some (.int v1), some (.int v2), some (.int v3), some (.int v4), some (.int v5), some (.int 0)]) (tt_lt rfl) rfl ?_
          refine tt_mask rfl ?_
          exact rfl
        · skip
          refine tt_mask rfl ?_
          exact rfl
theorem eX9_take_25z (N : Nat) (v1 : Int32) (v2 : Int32) (v3 : Int32) (v4 : Int32) (v5 : Int32) (I : gM) : hX9_take_25 N 0 v1 v2 v3 v4 v5 I = none := (rfl)
set_option maxRecDepth 100000 in
theorem eX9_take_141 (N : Nat) (v1 : Int32) (v2 : Int32) (v3 : Int32) (I : gM) : hX9_take_141 N v1 v2 v3 I =
  (hI (fX9_linkPart N [.ref 0, .int v1, .int 2] (gS (rg 0 18) I)) (rg 0 18) I fun x4 I4 => ck 2746 ((gb_add ((gb_add 145 (gb_mul 10 v2))) v3)) <| ck 14 v1 <| ck 2746 ((gb_add ((gb_add 145 (gb_mul 10 v2))) v3)) <| ck 14 v1 <| ck 2746 ((gb_add ((gb_add 145 (gb_mul 10 v2))) v3)) <| some (.inl none, (gU (gU I4 15 (Int32.toNatClampNeg v1) ((gj_min x4 ((I4 3 ((Int32.toNatClampNeg ((gb_add ((gb_add 145 (gb_mul 10 v2))) v3))))))))) 3 ((Int32.toNatClampNeg ((gb_add ((gb_add 145 (gb_mul 10 v2))) v3)))) ((gb_sub ((I4 3 ((Int32.toNatClampNeg ((gb_add ((gb_add 145 (gb_mul 10 v2))) v3)))))) (((gU I4 15 (Int32.toNatClampNeg v1) ((gj_min x4 ((I4 3 ((Int32.toNatClampNeg ((gb_add ((gb_add 145 (gb_mul 10 v2))) v3))))))))) 15 (Int32.toNatClampNeg v1)))))))) := by
  show (fX9_take_k141 N) [some (.ref 0), some (.int v1), some (.int v2), some (.int v3), none, none, none] [] I = _
  unfold fX9_take_k141
  refine tt_const ?_
  refine tt_const ?_
  refine tt_iload rfl ?_
  refine tt_bin ?_
  refine tt_bin ?_
  refine tt_iload rfl ?_
  refine tt_bin ?_
  refine tt_istore (L2 := [some (.ref 0), some (.int v1), some (.int v2), some (.int v3), none, some (.int ((gb_add ((gb_add 145 (gb_mul 10 v2))) v3))), none]) (tt_lt rfl) rfl ?_
  refine tt_aload rfl ?_
  refine tt_getr (q := 15) rfl rfl ?_
  refine tt_iload rfl ?_
  refine tt_aload rfl ?_
  refine tt_iload rfl ?_
  refine tt_const ?_
  refine tt_cavI (t := [.int v1, .ref 15]) ⟨Nat.le_of_ble_eq_true rfl, Nat.le_of_ble_eq_true rfl⟩ rfl rfl rfl (fun x4 I4 => ?_)
  refine tt_aload rfl ?_
  refine tt_getr (q := 3) rfl rfl ?_
  refine tt_iload rfl ?_
  refine tt_ald (x := (I4 3 ((Int32.toNatClampNeg ((gb_add ((gb_add 145 (gb_mul 10 v2))) v3)))))) rfl rfl ?_
  refine tt_jmath (Nat.le_of_ble_eq_true rfl) ?_
  refine tt_ast (v := (gj_min x4 ((I4 3 ((Int32.toNatClampNeg ((gb_add ((gb_add 145 (gb_mul 10 v2))) v3)))))))) rfl rfl ?_
  refine tt_aload rfl ?_
  refine tt_getr (q := 3) rfl rfl ?_
  refine tt_iload rfl ?_
  refine tt_dup2 rfl rfl ?_
  refine tt_ald (x := (I4 3 ((Int32.toNatClampNeg ((gb_add ((gb_add 145 (gb_mul 10 v2))) v3)))))) rfl rfl ?_
  refine tt_aload rfl ?_
  refine tt_getr (q := 15) rfl rfl ?_
  refine tt_iload rfl ?_
  refine tt_ald (x := ((gU I4 15 (Int32.toNatClampNeg v1) ((gj_min x4 ((I4 3 ((Int32.toNatClampNeg ((gb_add ((gb_add 145 (gb_mul 10 v2))) v3))))))))) 15 (Int32.toNatClampNeg v1))) rfl rfl ?_
  refine tt_bin ?_
  refine tt_ast (v := (gb_sub ((I4 3 ((Int32.toNatClampNeg ((gb_add ((gb_add 145 (gb_mul 10 v2))) v3)))))) (((gU I4 15 (Int32.toNatClampNeg v1) ((gj_min x4 ((I4 3 ((Int32.toNatClampNeg ((gb_add ((gb_add 145 (gb_mul 10 v2))) v3))))))))) 15 (Int32.toNatClampNeg v1))))) rfl rfl ?_
  exact rfl
set_option maxRecDepth 100000 in
theorem eX9_take_135 (N : Nat) (n25 : Nat) (v1 : Int32) (v2 : Int32) (v3 : Int32) (v4 : Int32) (v5 : Int32) (I : gM) : hX9_take_135 N n25 v1 v2 v3 v4 v5 I =
  (hX9_take_25 N n25 v1 v2 v3 v4 (v5 + 1) I) := by
  show (fX9_take_k135 N (s_lp (fX9_take_b25 N) n25)) [some (.ref 0), some (.int v1), some (.int v2), some (.int v3), some (.int v4), some (.int v5), none] [] I = _
  unfold fX9_take_k135
  refine tt_iinc (L2 := [some (.ref 0), some (.int v1), some (.int v2), some (.int v3), some (.int v4), some (.int (v5 + 1)), none]) rfl rfl ?_
  refine tt_mask rfl ?_
  exact rfl
set_option maxRecDepth 100000 in
theorem eX9_take_70 (N : Nat) (n25 : Nat) (n70 : Nat) (v1 : Int32) (v2 : Int32) (v3 : Int32) (v4 : Int32) (v5 : Int32) (v6 : Int32) (I : gM) : hX9_take_70 N n25 (n70 + 1) v1 v2 v3 v4 v5 v6 I =
  (if gc_ge v6 5 = true then (ck 70 (I 0 28) <| ck 500 v5 <| hX9_take_135 N n25 v1 v2 v3 ((v4 + (-1))) v5 (gU (gU (gU I 14 ((Int32.toNatClampNeg (I 0 28))) v1) 0 28 ((gb_add (I 0 28) 1))) 7 (Int32.toNatClampNeg v5) (vp_nar .boolean 1))) else (hI (fX9_packetPart N [.ref 0, .int v5, .int v6] (gS (rg 0 18) I)) (rg 0 18) I fun x5 I5 => ck 350 ((gb_add ((gb_mul 5 (I 0 28))) v6)) <| hX9_take_70 N n25 n70 v1 v2 v3 v4 v5 (v6 + 1) (gU I5 13 ((Int32.toNatClampNeg ((gb_add ((gb_mul 5 (I 0 28))) v6)))) x5))) := by
  show (fX9_take_b70 N (s_lp (fX9_take_b25 N) n25) (s_lp (fX9_take_b70 N (s_lp (fX9_take_b25 N) n25)) n70)) [some (.ref 0), some (.int v1), some (.int v2), some (.int v3), some (.int v4), some (.int v5), some (.int v6)] [] I = _
  unfold fX9_take_b70
  refine tt_iload rfl ?_
  refine tt_const ?_
  refine tt_cmp ?_ ?_
  · skip
    refine tt_aload rfl ?_
    refine tt_getr (q := 14) rfl rfl ?_
    refine tt_aload rfl ?_
    refine tt_get (x := (I 0 28)) rfl rfl rfl ?_
    refine tt_iload rfl ?_
    refine tt_ast (v := v1) rfl rfl ?_
    refine tt_aload rfl ?_
    refine tt_dup rfl ?_
    refine tt_get (x := (I 0 28)) rfl rfl rfl ?_
    refine tt_const ?_
    refine tt_bin ?_
    refine tt_put rfl rfl ?_
    refine tt_aload rfl ?_
    refine tt_getr (q := 7) rfl rfl ?_
    refine tt_iload rfl ?_
    refine tt_const ?_
    refine tt_ast (v := (vp_nar .boolean 1)) rfl rfl ?_
    refine tt_iinc (L2 := [some (.ref 0), some (.int v1), some (.int v2), some (.int v3), some (.int ((v4 + (-1)))), some (.int v5), some (.int v6)]) rfl rfl ?_
    refine tt_mask rfl ?_
    exact rfl
  · skip
    refine tt_aload rfl ?_
    refine tt_getr (q := 13) rfl rfl ?_
    refine tt_const ?_
    refine tt_aload rfl ?_
    refine tt_get (x := (I 0 28)) rfl rfl rfl ?_
    refine tt_bin ?_
    refine tt_iload rfl ?_
    refine tt_bin ?_
    refine tt_aload rfl ?_
    refine tt_iload rfl ?_
    refine tt_iload rfl ?_
    refine tt_cavI (t := [.int ((gb_add ((gb_mul 5 (I 0 28))) v6)), .ref 13]) ⟨Nat.le_of_ble_eq_true rfl, Nat.le_of_ble_eq_true rfl⟩ rfl rfl rfl (fun x5 I5 => ?_)
    refine tt_ast (v := x5) rfl rfl ?_
    refine tt_iinc (L2 := [some (.ref 0), some (.int v1), some (.int v2), some (.int v3), some (.int v4), some (.int v5), some (.int (v6 + 1))]) rfl rfl ?_
    refine tt_mask rfl ?_
    exact rfl
theorem eX9_take_70z (N : Nat) (n25 : Nat) (v1 : Int32) (v2 : Int32) (v3 : Int32) (v4 : Int32) (v5 : Int32) (v6 : Int32) (I : gM) : hX9_take_70 N n25 0 v1 v2 v3 v4 v5 v6 I = none := (rfl)
set_option maxRecDepth 100000 in
theorem eX9_take (N : Nat) (v1 : Int32) (I : gM) : fX9_take N [.ref 0, .int v1] I = hX9_take_0 N v1 I := by
  show gFn 7 (fX9_take_k0 N) [.ref 0, .int v1] I = (fX9_take_k0 N) [some (.ref 0), some (.int v1), none, none, none, none, none] [] I
  exact tt_fn rfl rfl

def hX9_deliver_0 (N : Nat) (v1 : Int32) (v2 : Int32) (I : gM) : gO := fX9_deliver_k0 N [some (.ref 0), some (.int v1), some (.int v2)] [] I
def hX9_deliver_37 (N : Nat) (v2 : Int32) (s1 : Int32) (s2 : Int32) (I : gM) : gO := fX9_deliver_k37 N [none, none, some (.int v2)] [.int s2, .int s1, .ref 3] I
set_option maxRecDepth 100000 in
theorem eX9_deliver_0 (N : Nat) (v1 : Int32) (v2 : Int32) (I : gM) : hX9_deliver_0 N v1 v2 I =
  (hV (fX9_count N [.ref 0, .int v1, .int 6, .int 1] (gS (rg 0 18) I)) (rg 0 18) I fun I1 => hV (fX9_count N [.ref 0, .int v1, .int 9, .int v2] (gS (rg 0 18) I1)) (rg 0 18) I1 fun I2 => hI (fX9_flowPart N [.ref 0, .int v1, .int 10] (gS (rg 0 18) I2)) (rg 0 18) I2 fun x3 I3 => hX9_deliver_37 N v2 ((gb_add ((gb_add 65 (gb_mul 11 v1))) 10)) x3 I3) := by
  show (fX9_deliver_k0 N) [some (.ref 0), some (.int v1), some (.int v2)] [] I = _
  unfold fX9_deliver_k0
  refine tt_aload rfl ?_
  refine tt_iload rfl ?_
  refine tt_const ?_
  refine tt_const ?_
  refine tt_cavV (t := []) ⟨Nat.le_of_ble_eq_true rfl, Nat.le_of_ble_eq_true rfl⟩ rfl rfl rfl (fun I1 => ?_)
  refine tt_aload rfl ?_
  refine tt_iload rfl ?_
  refine tt_const ?_
  refine tt_iload rfl ?_
  refine tt_cavV (t := []) ⟨Nat.le_of_ble_eq_true rfl, Nat.le_of_ble_eq_true rfl⟩ rfl rfl rfl (fun I2 => ?_)
  refine tt_aload rfl ?_
  refine tt_getr (q := 3) rfl rfl ?_
  refine tt_const ?_
  refine tt_const ?_
  refine tt_iload rfl ?_
  refine tt_bin ?_
  refine tt_bin ?_
  refine tt_const ?_
  refine tt_bin ?_
  refine tt_aload rfl ?_
  refine tt_iload rfl ?_
  refine tt_const ?_
  refine tt_cavI (t := [.int ((gb_add ((gb_add 65 (gb_mul 11 v1))) 10)), .ref 3]) ⟨Nat.le_of_ble_eq_true rfl, Nat.le_of_ble_eq_true rfl⟩ rfl rfl rfl (fun x3 I3 => ?_)
  refine tt_mask rfl ?_
  exact rfl
set_option maxRecDepth 100000 in
theorem eX9_deliver_37 (N : Nat) (v2 : Int32) (s1 : Int32) (s2 : Int32) (I : gM) : hX9_deliver_37 N v2 s1 s2 I =
  (ck 2746 s1 <| some (.inl none, (gU I 3 (Int32.toNatClampNeg s1) (gj_max s2 v2)))) := by
  show (fX9_deliver_k37 N) [none, none, some (.int v2)] [.int s2, .int s1, .ref 3] I = _
  unfold fX9_deliver_k37
  refine tt_iload rfl ?_
  refine tt_jmath (Nat.le_of_ble_eq_true rfl) ?_
  refine tt_ast (v := (gj_max s2 v2)) rfl rfl ?_
  exact rfl
set_option maxRecDepth 100000 in
theorem eX9_deliver (N : Nat) (v1 : Int32) (v2 : Int32) (I : gM) : fX9_deliver N [.ref 0, .int v1, .int v2] I = hX9_deliver_0 N v1 v2 I := by
  show gFn 3 (fX9_deliver_k0 N) [.ref 0, .int v1, .int v2] I = (fX9_deliver_k0 N) [some (.ref 0), some (.int v1), some (.int v2)] [] I
  exact tt_fn rfl rfl

def hX9_land_0 (N : Nat) (v1 : Int32) (I : gM) : gO := fX9_land_k0 N [some (.ref 0), some (.int v1), none, none, none] [] I
def hX9_land_100 (N : Nat) (v2 : Int32) (v3 : Int32) (v4 : Int32) (s1 : Int32) (s2 : Int32) (s3 : Int32) (I : gM) : gO := fX9_land_k100 N [some (.ref 0), none, some (.int v2), some (.int v3), some (.int v4)] [.int s3, .int s2, .int s1, .ref 0] I
def hX9_land_108 (N : Nat) (v2 : Int32) (v3 : Int32) (v4 : Int32) (s1 : Int32) (s2 : Int32) (s3 : Int32) (I : gM) : gO := fX9_land_k108 N [some (.ref 0), none, some (.int v2), some (.int v3), some (.int v4)] [.int s3, .int s2, .int s1, .ref 0] I
set_option maxRecDepth 100000 in
theorem eX9_land_0 (N : Nat) (v1 : Int32) (I : gM) : hX9_land_0 N v1 I =
  (ck 350 ((gb_add (gb_mul 5 v1) 0)) <| ck 70 v1 <| hI (fX9_linkPart N [.ref 0, .int ((I 14 (Int32.toNatClampNeg v1))), .int 1] (gS (rg 0 18) I)) (rg 0 18) I fun x1 I1 => ck 70 v1 <| ck 2746 ((gb_add ((gb_add 9 ((gb_mul 4 ((I1 14 (Int32.toNatClampNeg v1))))))) 3)) <| ck 2746 ((gb_add ((gb_add 9 ((gb_mul 4 ((I1 14 (Int32.toNatClampNeg v1))))))) 3)) <| hI (fX9_flowPart N [.ref 0, .int ((I 13 ((Int32.toNatClampNeg ((gb_add (gb_mul 5 v1) 0)))))), .int 1] (gS (rg 0 18) (gU I1 3 ((Int32.toNatClampNeg ((gb_add ((gb_add 9 ((gb_mul 4 ((I1 14 (Int32.toNatClampNeg v1))))))) 3)))) ((gb_add ((I1 3 ((Int32.toNatClampNeg ((gb_add ((gb_add 9 ((gb_mul 4 ((I1 14 (Int32.toNatClampNeg v1))))))) 3)))))) 1))))) (rg 0 18) (gU I1 3 ((Int32.toNatClampNeg ((gb_add ((gb_add 9 ((gb_mul 4 ((I1 14 (Int32.toNatClampNeg v1))))))) 3)))) ((gb_add ((I1 3 ((Int32.toNatClampNeg ((gb_add ((gb_add 9 ((gb_mul 4 ((I1 14 (Int32.toNatClampNeg v1))))))) 3)))))) 1))) fun x2 I2 => if gc_ne x1 x2 = true then (ck 350 ((gb_add (gb_mul 5 v1) 3)) <| hI (fX9_has N [.int ((I2 13 ((Int32.toNatClampNeg ((gb_add (gb_mul 5 v1) 3)))))), .int x1] (gS [] I2)) [] I2 fun x3 I3 => hX9_land_100 N (gb_mul 5 v1) ((I 13 ((Int32.toNatClampNeg ((gb_add (gb_mul 5 v1) 0)))))) x1 ((I 13 ((Int32.toNatClampNeg ((gb_add (gb_mul 5 v1) 0)))))) 8 x3 I3) else (ck 2746 7 <| ck 350 ((gb_add (gb_mul 5 v1) 1)) <| hV (fX9_deliver N [.ref 0, .int ((I 13 ((Int32.toNatClampNeg ((gb_add (gb_mul 5 v1) 0)))))), .int ((gb_sub ((gb_add ((I2 3 (Int32.toNatClampNeg 7))) 1)) ((I2 13 ((Int32.toNatClampNeg ((gb_add (gb_mul 5 v1) 1))))))))] (gS (rg 0 18) I2)) (rg 0 18) I2 fun I4 => some (.inl none, I4))) := by
  show (fX9_land_k0 N) [some (.ref 0), some (.int v1), none, none, none] [] I = _
  unfold fX9_land_k0
  refine tt_const ?_
  refine tt_iload rfl ?_
  refine tt_bin ?_
  refine tt_istore (L2 := [some (.ref 0), some (.int v1), some (.int (gb_mul 5 v1)), none, none]) (tt_lt rfl) rfl ?_
  refine tt_aload rfl ?_
  refine tt_getr (q := 13) rfl rfl ?_
  refine tt_iload rfl ?_
  refine tt_const ?_
  refine tt_bin ?_
  refine tt_ald (x := (I 13 ((Int32.toNatClampNeg ((gb_add (gb_mul 5 v1) 0)))))) rfl rfl ?_
  refine tt_istore (L2 := [some (.ref 0), some (.int v1), some (.int (gb_mul 5 v1)), some (.int ((I 13 ((Int32.toNatClampNeg ((gb_add (gb_mul 5 v1) 0))))))), none]) (tt_lt rfl) rfl ?_
  refine tt_aload rfl ?_
  refine tt_aload rfl ?_
  refine tt_getr (q := 14) rfl rfl ?_
  refine tt_iload rfl ?_
  refine tt_ald (x := (I 14 (Int32.toNatClampNeg v1))) rfl rfl ?_
  refine tt_const ?_
  refine tt_cavI (t := []) ⟨Nat.le_of_ble_eq_true rfl, Nat.le_of_ble_eq_true rfl⟩ rfl rfl rfl (fun x1 I1 => ?_)
  refine tt_istore (L2 := [some (.ref 0), some (.int v1), some (.int (gb_mul 5 v1)), some (.int ((I 13 ((Int32.toNatClampNeg ((gb_add (gb_mul 5 v1) 0))))))), some (.int x1)]) (tt_lt rfl) rfl ?_
  refine tt_aload rfl ?_
  refine tt_getr (q := 3) rfl rfl ?_
  refine tt_const ?_
  refine tt_const ?_
  refine tt_aload rfl ?_
  refine tt_getr (q := 14) rfl rfl ?_
  refine tt_iload rfl ?_
  refine tt_ald (x := (I1 14 (Int32.toNatClampNeg v1))) rfl rfl ?_
  refine tt_bin ?_
  refine tt_bin ?_
  refine tt_const ?_
  refine tt_bin ?_
  refine tt_dup2 rfl rfl ?_
  refine tt_ald (x := (I1 3 ((Int32.toNatClampNeg ((gb_add ((gb_add 9 ((gb_mul 4 ((I1 14 (Int32.toNatClampNeg v1))))))) 3)))))) rfl rfl ?_
  refine tt_const ?_
  refine tt_bin ?_
  refine tt_ast (v := (gb_add ((I1 3 ((Int32.toNatClampNeg ((gb_add ((gb_add 9 ((gb_mul 4 ((I1 14 (Int32.toNatClampNeg v1))))))) 3)))))) 1)) rfl rfl ?_
  refine tt_iload rfl ?_
  refine tt_aload rfl ?_
  refine tt_iload rfl ?_
  refine tt_const ?_
  refine tt_cavI (t := [.int x1]) ⟨Nat.le_of_ble_eq_true rfl, Nat.le_of_ble_eq_true rfl⟩ rfl rfl rfl (fun x2 I2 => ?_)
  refine tt_cmp ?_ ?_
  · skip
    refine tt_aload rfl ?_
    refine tt_iload rfl ?_
    refine tt_const ?_
    refine tt_aload rfl ?_
    refine tt_getr (q := 13) rfl rfl ?_
    refine tt_iload rfl ?_
    refine tt_const ?_
    refine tt_bin ?_
    refine tt_ald (x := (I2 13 ((Int32.toNatClampNeg ((gb_add (gb_mul 5 v1) 3)))))) rfl rfl ?_
    refine tt_iload rfl ?_
    refine tt_caI (t := [.int 8, .int ((I 13 ((Int32.toNatClampNeg ((gb_add (gb_mul 5 v1) 0)))))), .ref 0]) ⟨Nat.le_of_ble_eq_true rfl, Nat.le_of_ble_eq_true rfl⟩ rfl rfl rfl (fun x3 I3 => ?_)
    refine tt_mask rfl ?_
    exact rfl
  · skip
    refine tt_aload rfl ?_
    refine tt_iload rfl ?_
    refine tt_aload rfl ?_
    refine tt_getr (q := 3) rfl rfl ?_
    refine tt_const ?_
    refine tt_ald (x := (I2 3 (Int32.toNatClampNeg 7))) rfl rfl ?_
    refine tt_const ?_
    refine tt_bin ?_
    refine tt_aload rfl ?_
    refine tt_getr (q := 13) rfl rfl ?_
    refine tt_iload rfl ?_
    refine tt_const ?_
    refine tt_bin ?_
    refine tt_ald (x := (I2 13 ((Int32.toNatClampNeg ((gb_add (gb_mul 5 v1) 1)))))) rfl rfl ?_
    refine tt_bin ?_
    refine tt_cavV (t := []) ⟨Nat.le_of_ble_eq_true rfl, Nat.le_of_ble_eq_true rfl⟩ rfl rfl rfl (fun I4 => ?_)
    exact rfl
set_option maxRecDepth 100000 in
theorem eX9_land_100 (N : Nat) (v2 : Int32) (v3 : Int32) (v4 : Int32) (s1 : Int32) (s2 : Int32) (s3 : Int32) (I : gM) : hX9_land_100 N v2 v3 v4 s1 s2 s3 I =
  (if gz_eq s3 = true then (hX9_land_108 N v2 v3 v4 s1 s2 0 I) else (hX9_land_108 N v2 v3 v4 s1 s2 1 I)) := by
  show (fX9_land_k100 N) [some (.ref 0), none, some (.int v2), some (.int v3), some (.int v4)] [.int s3, .int s2, .int s1, .ref 0] I = _
  unfold fX9_land_k100
  refine tt_if ?_ ?_
  · skip
    refine tt_const ?_
    refine tt_mask rfl ?_
    exact rfl
  · skip
    refine tt_const ?_
    refine tt_mask rfl ?_
    exact rfl
set_option maxRecDepth 100000 in
theorem eX9_land_108 (N : Nat) (v2 : Int32) (v3 : Int32) (v4 : Int32) (s1 : Int32) (s2 : Int32) (s3 : Int32) (I : gM) : hX9_land_108 N v2 v3 v4 s1 s2 s3 I =
  (hV (fX9_count N [.ref 0, .int s1, .int s2, .int s3] (gS (rg 0 18) I)) (rg 0 18) I fun I5 => ck 350 (gb_add v2 1) <| ck 350 (gb_add v2 2) <| ck 350 (gb_add v2 3) <| hV (fX9_come N [.ref 0, .int v3, .int ((I5 13 ((Int32.toNatClampNeg (gb_add v2 1))))), .int ((gb_add ((I5 13 ((Int32.toNatClampNeg (gb_add v2 2))))) 1)), .int ((gb_or ((I5 13 ((Int32.toNatClampNeg (gb_add v2 3))))) (gb_shl 1 v4))), .int v4] (gS (rg 0 18) I5)) (rg 0 18) I5 fun I6 => some (.inl none, I6)) := by
  show (fX9_land_k108 N) [some (.ref 0), none, some (.int v2), some (.int v3), some (.int v4)] [.int s3, .int s2, .int s1, .ref 0] I = _
  unfold fX9_land_k108
  refine tt_cavV (t := []) ⟨Nat.le_of_ble_eq_true rfl, Nat.le_of_ble_eq_true rfl⟩ rfl rfl rfl (fun I5 => ?_)
  refine tt_aload rfl ?_
  refine tt_iload rfl ?_
  refine tt_aload rfl ?_
  refine tt_getr (q := 13) rfl rfl ?_
  refine tt_iload rfl ?_
  refine tt_const ?_
  refine tt_bin ?_
  refine tt_ald (x := (I5 13 ((Int32.toNatClampNeg (gb_add v2 1))))) rfl rfl ?_
  refine tt_aload rfl ?_
  refine tt_getr (q := 13) rfl rfl ?_
  refine tt_iload rfl ?_
  refine tt_const ?_
  refine tt_bin ?_
  refine tt_ald (x := (I5 13 ((Int32.toNatClampNeg (gb_add v2 2))))) rfl rfl ?_
  refine tt_const ?_
  refine tt_bin ?_
  refine tt_aload rfl ?_
  refine tt_getr (q := 13) rfl rfl ?_
  refine tt_iload rfl ?_
  refine tt_const ?_
  refine tt_bin ?_
  refine tt_ald (x := (I5 13 ((Int32.toNatClampNeg (gb_add v2 3))))) rfl rfl ?_
  refine tt_const ?_
  refine tt_iload rfl ?_
  refine tt_bin ?_
  refine tt_bin ?_
  refine tt_iload rfl ?_
  refine tt_cavV (t := []) ⟨Nat.le_of_ble_eq_true rfl, Nat.le_of_ble_eq_true rfl⟩ rfl rfl rfl (fun I6 => ?_)
  exact rfl
set_option maxRecDepth 100000 in
theorem eX9_land (N : Nat) (v1 : Int32) (I : gM) : fX9_land N [.ref 0, .int v1] I = hX9_land_0 N v1 I := by
  show gFn 5 (fX9_land_k0 N) [.ref 0, .int v1] I = (fX9_land_k0 N) [some (.ref 0), some (.int v1), none, none, none] [] I
  exact tt_fn rfl rfl

def hX9_transmit_0 (N : Nat) (v1 : Int32) (I : gM) : gO := fX9_transmit_k0 N [some (.ref 0), some (.int v1), none, none] [] I
def hX9_transmit_11 (N : Nat) (n11 : Nat) (v1 : Int32) (v2 : Int32) (I : gM) : gO := s_lp (fX9_transmit_b11 N) n11 [some (.ref 0), some (.int v1), some (.int v2), none] [] I
def hX9_transmit_47 (N : Nat) (n47 : Nat) (v1 : Int32) (v3 : Int32) (I : gM) : gO := s_lp (fX9_transmit_b47 N) n47 [some (.ref 0), some (.int v1), none, some (.int v3)] [] I
def hX9_transmit_34 (N : Nat) (n11 : Nat) (v1 : Int32) (v2 : Int32) (I : gM) : gO := fX9_transmit_k34 N (s_lp (fX9_transmit_b11 N) n11) [some (.ref 0), some (.int v1), some (.int v2), none] [] I
def hX9_transmit_68 (N : Nat) (n68 : Nat) (v1 : Int32) (v3 : Int32) (I : gM) : gO := s_lp (fX9_transmit_b68 N) n68 [some (.ref 0), some (.int v1), none, some (.int v3)] [] I
def hX9_transmit_135 (N : Nat) (n68 : Nat) (v1 : Int32) (v3 : Int32) (I : gM) : gO := fX9_transmit_k135 N (s_lp (fX9_transmit_b68 N) n68) [some (.ref 0), some (.int v1), none, some (.int v3)] [] I
def hX9_transmit_116 (N : Nat) (n68 : Nat) (v1 : Int32) (v3 : Int32) (s1 : Int32) (s2 : Int32) (s3 : Int32) (I : gM) : gO := fX9_transmit_k116 N (s_lp (fX9_transmit_b68 N) n68) [some (.ref 0), some (.int v1), none, some (.int v3)] [.int s3, .int s2, .int s1, .ref 3] I
set_option maxRecDepth 100000 in
theorem eX9_transmit_0 (N : Nat) (v1 : Int32) (I : gM) : hX9_transmit_0 N v1 I =
  (hV (fX9_stayAll N [.ref 0] (gS (rg 0 18) (gU I 0 28 0))) (rg 0 18) (gU I 0 28 0) fun I1 => hX9_transmit_11 N N v1 0 I1) := by
  show (fX9_transmit_k0 N) [some (.ref 0), some (.int v1), none, none] [] I = _
  unfold fX9_transmit_k0
  refine tt_aload rfl ?_
  refine tt_const ?_
  refine tt_put rfl rfl ?_
  refine tt_aload rfl ?_
  refine tt_cavV (t := []) ⟨Nat.le_of_ble_eq_true rfl, Nat.le_of_ble_eq_true rfl⟩ rfl rfl rfl (fun I1 => ?_)
  refine tt_const ?_
  refine tt_istore (L2 := [some (.ref 0), some (.int v1), some (.int 0), none]) (tt_lt rfl) rfl ?_
  refine tt_mask rfl ?_
  exact rfl
set_option maxRecDepth 100000 in
theorem eX9_transmit_11 (N : Nat) (n11 : Nat) (v1 : Int32) (v2 : Int32) (I : gM) : hX9_transmit_11 N (n11 + 1) v1 v2 I =
  (ck 2746 1 <| if gc_ge v2 ((I 3 (Int32.toNatClampNeg 1))) = true then (hI (fX9_closeUp N [.ref 0] (gS (rg 0 18) I)) (rg 0 18) I fun x2 I2 => hX9_transmit_47 N N v1 0 I2) else (hI (fX9_has N [.int v1, .int v2] (gS [] I)) [] I fun x3 I3 => if gz_eq x3 = true then (hX9_transmit_34 N n11 v1 v2 I3) else (hV (fX9_take N [.ref 0, .int v2] (gS (rg 0 18) I3)) (rg 0 18) I3 fun I4 => hX9_transmit_34 N n11 v1 v2 I4))) := by
  show (fX9_transmit_b11 N (s_lp (fX9_transmit_b11 N) n11)) [some (.ref 0), some (.int v1), some (.int v2), none] [] I = _
  unfold fX9_transmit_b11
  refine tt_iload rfl ?_
  refine tt_aload rfl ?_
  refine tt_getr (q := 3) rfl rfl ?_
  refine tt_const ?_
  refine tt_ald (x := (I 3 (Int32.toNatClampNeg 1))) rfl rfl ?_
  refine tt_cmp ?_ ?_
  · skip
    refine tt_aload rfl ?_
    refine tt_cavI (t := []) ⟨Nat.le_of_ble_eq_true rfl, Nat.le_of_ble_eq_true rfl⟩ rfl rfl rfl (fun x2 I2 => ?_)
    refine tt_istore (L2 := [some (.ref 0), some (.int v1), some (.int x2), none]) (tt_lt rfl) rfl ?_
    refine tt_const ?_
    refine tt_istore (L2 := [some (.ref 0), some (.int v1), some (.int x2), some (.int 0)]) (tt_lt rfl) rfl ?_
    refine tt_mask rfl ?_
    exact rfl
  · skip
    refine tt_iload rfl ?_
    refine tt_iload rfl ?_
    refine tt_caI (t := []) ⟨Nat.le_of_ble_eq_true rfl, Nat.le_of_ble_eq_true rfl⟩ rfl rfl rfl (fun x3 I3 => ?_)
    refine tt_if ?_ ?_
    · skip
      refine tt_mask rfl ?_
      exact rfl
    · skip
      refine tt_aload rfl ?_
      refine tt_iload rfl ?_
      refine tt_cavV (t := []) ⟨Nat.le_of_ble_eq_true rfl, Nat.le_of_ble_eq_true rfl⟩ rfl rfl rfl (fun I4 => ?_)
      refine tt_mask rfl ?_
      exact rfl
theorem eX9_transmit_11z (N : Nat) (v1 : Int32) (v2 : Int32) (I : gM) : hX9_transmit_11 N 0 v1 v2 I = none := (rfl)
set_option maxRecDepth 100000 in
theorem eX9_transmit_47 (N : Nat) (n47 : Nat) (v1 : Int32) (v3 : Int32) (I : gM) : hX9_transmit_47 N (n47 + 1) v1 v3 I =
  (if gc_ge v3 (I 0 28) = true then (hX9_transmit_68 N N v1 0 I) else (hV (fX9_land N [.ref 0, .int v3] (gS (rg 0 18) I)) (rg 0 18) I fun I5 => hX9_transmit_47 N n47 v1 (v3 + 1) I5)) := by
  show (fX9_transmit_b47 N (s_lp (fX9_transmit_b47 N) n47)) [some (.ref 0), some (.int v1), none, some (.int v3)] [] I = _
  unfold fX9_transmit_b47
  refine tt_iload rfl ?_
  refine tt_aload rfl ?_
  refine tt_get (x := (I 0 28)) rfl rfl rfl ?_
  refine tt_cmp ?_ ?_
  · skip
    refine tt_const ?_
    refine tt_istore (L2 := [some (.ref 0), some (.int v1), none, some (.int 0)]) (tt_lt rfl) rfl ?_
    refine tt_mask rfl ?_
    exact rfl
  · skip
    refine tt_aload rfl ?_
    refine tt_iload rfl ?_
    refine tt_cavV (t := []) ⟨Nat.le_of_ble_eq_true rfl, Nat.le_of_ble_eq_true rfl⟩ rfl rfl rfl (fun I5 => ?_)
    refine tt_iinc (L2 := [some (.ref 0), some (.int v1), none, some (.int (v3 + 1))]) rfl rfl ?_
    refine tt_mask rfl ?_
    exact rfl
theorem eX9_transmit_47z (N : Nat) (v1 : Int32) (v3 : Int32) (I : gM) : hX9_transmit_47 N 0 v1 v3 I = none := (rfl)
set_option maxRecDepth 100000 in
theorem eX9_transmit_34 (N : Nat) (n11 : Nat) (v1 : Int32) (v2 : Int32) (I : gM) : hX9_transmit_34 N n11 v1 v2 I =
  (hX9_transmit_11 N n11 v1 (v2 + 1) I) := by
  show (fX9_transmit_k34 N (s_lp (fX9_transmit_b11 N) n11)) [some (.ref 0), some (.int v1), some (.int v2), none] [] I = _
  unfold fX9_transmit_k34
  refine tt_iinc (L2 := [some (.ref 0), some (.int v1), some (.int (v2 + 1)), none]) rfl rfl ?_
  refine tt_mask rfl ?_
  exact rfl
set_option maxRecDepth 100000 in
theorem eX9_transmit_68 (N : Nat) (n68 : Nat) (v1 : Int32) (v3 : Int32) (I : gM) : hX9_transmit_68 N (n68 + 1) v1 v3 I =
  (ck 2746 1 <| if gc_ge v3 ((I 3 (Int32.toNatClampNeg 1))) = true then (some (.inl none, I)) else (hI (fX9_has N [.int v1, .int v3] (gS [] I)) [] I fun x6 I6 => if gz_eq x6 = true then (hX9_transmit_135 N n68 v1 v3 I6) else (hI (fX9_linkPart N [.ref 0, .int v3, .int 1] (gS (rg 0 18) I6)) (rg 0 18) I6 fun x7 I7 => ck 14 v3 <| if gc_eq x7 ((I7 11 (Int32.toNatClampNeg v3))) = true then (hX9_transmit_135 N n68 v1 v3 I7) else (hI (fX9_linkPart N [.ref 0, .int v3, .int 1] (gS (rg 0 18) I7)) (rg 0 18) I7 fun x8 I8 => hX9_transmit_116 N n68 v1 v3 145 10 x8 I8)))) := by
  show (fX9_transmit_b68 N (s_lp (fX9_transmit_b68 N) n68)) [some (.ref 0), some (.int v1), none, some (.int v3)] [] I = _
  unfold fX9_transmit_b68
  refine tt_iload rfl ?_
  refine tt_aload rfl ?_
  refine tt_getr (q := 3) rfl rfl ?_
  refine tt_const ?_
  refine tt_ald (x := (I 3 (Int32.toNatClampNeg 1))) rfl rfl ?_
  refine tt_cmp ?_ ?_
  · skip
    exact rfl
  · skip
    refine tt_iload rfl ?_
    refine tt_iload rfl ?_
    refine tt_caI (t := []) ⟨Nat.le_of_ble_eq_true rfl, Nat.le_of_ble_eq_true rfl⟩ rfl rfl rfl (fun x6 I6 => ?_)
    refine tt_if ?_ ?_
    · skip
      refine tt_mask rfl ?_
      exact rfl
    · skip
      refine tt_aload rfl ?_
      refine tt_iload rfl ?_
      refine tt_const ?_
      refine tt_cavI (t := []) ⟨Nat.le_of_ble_eq_true rfl, Nat.le_of_ble_eq_true rfl⟩ rfl rfl rfl (fun x7 I7 => ?_)
      refine tt_aload rfl ?_
      refine tt_getr (q := 11) rfl rfl ?_
      refine tt_iload rfl ?_
      refine tt_ald (x := (I7 11 (Int32.toNatClampNeg v3))) rfl rfl ?_
      refine tt_cmp ?_ ?_
      · skip
        refine tt_mask rfl ?_
        exact rfl
      · skip
        refine tt_aload rfl ?_
        refine tt_getr (q := 3) rfl rfl ?_
        refine tt_const ?_
        refine tt_const ?_
        refine tt_aload rfl ?_
        refine tt_iload rfl ?_
        refine tt_const ?_
        refine tt_cavI (t := [.int 10, .int 145, .ref 3]) ⟨Nat.le_of_ble_eq_true rfl, Nat.le_of_ble_eq_true rfl⟩ rfl rfl rfl (fun x8 I8 => ?_)
        refine tt_mask rfl ?_
        exact rfl
theorem eX9_transmit_68z (N : Nat) (v1 : Int32) (v3 : Int32) (I : gM) : hX9_transmit_68 N 0 v1 v3 I = none := (rfl)
set_option maxRecDepth 100000 in
theorem eX9_transmit_135 (N : Nat) (n68 : Nat) (v1 : Int32) (v3 : Int32) (I : gM) : hX9_transmit_135 N n68 v1 v3 I =
  (hX9_transmit_68 N n68 v1 (v3 + 1) I) := by
  show (fX9_transmit_k135 N (s_lp (fX9_transmit_b68 N) n68)) [some (.ref 0), some (.int v1), none, some (.int v3)] [] I = _
  unfold fX9_transmit_k135
  refine tt_iinc (L2 := [some (.ref 0), some (.int v1), none, some (.int (v3 + 1))]) rfl rfl ?_
  refine tt_mask rfl ?_
  exact rfl
set_option maxRecDepth 100000 in
theorem eX9_transmit_116 (N : Nat) (n68 : Nat) (v1 : Int32) (v3 : Int32) (s1 : Int32) (s2 : Int32) (s3 : Int32) (I : gM) : hX9_transmit_116 N n68 v1 v3 s1 s2 s3 I =
  (ck 14 v3 <| ck 2746 ((gb_add ((gb_add s1 (gb_mul s2 s3))) ((I 11 (Int32.toNatClampNeg v3))))) <| ck 14 v3 <| ck 2746 ((gb_add ((gb_add s1 (gb_mul s2 s3))) ((I 11 (Int32.toNatClampNeg v3))))) <| hX9_transmit_135 N n68 v1 v3 (gU I 3 ((Int32.toNatClampNeg ((gb_add ((gb_add s1 (gb_mul s2 s3))) ((I 11 (Int32.toNatClampNeg v3))))))) ((gb_add ((I 3 ((Int32.toNatClampNeg ((gb_add ((gb_add s1 (gb_mul s2 s3))) ((I 11 (Int32.toNatClampNeg v3))))))))) ((I 15 (Int32.toNatClampNeg v3))))))) := by
  show (fX9_transmit_k116 N (s_lp (fX9_transmit_b68 N) n68)) [some (.ref 0), some (.int v1), none, some (.int v3)] [.int s3, .int s2, .int s1, .ref 3] I = _
  unfold fX9_transmit_k116
  refine tt_bin ?_
  refine tt_bin ?_
  refine tt_aload rfl ?_
  refine tt_getr (q := 11) rfl rfl ?_
  refine tt_iload rfl ?_
  refine tt_ald (x := (I 11 (Int32.toNatClampNeg v3))) rfl rfl ?_
  refine tt_bin ?_
  refine tt_dup2 rfl rfl ?_
  refine tt_ald (x := (I 3 ((Int32.toNatClampNeg ((gb_add ((gb_add s1 (gb_mul s2 s3))) ((I 11 (Int32.toNatClampNeg v3))))))))) rfl rfl ?_
  refine tt_aload rfl ?_
  refine tt_getr (q := 15) rfl rfl ?_
  refine tt_iload rfl ?_
  refine tt_ald (x := (I 15 (Int32.toNatClampNeg v3))) rfl rfl ?_
  refine tt_bin ?_
  refine tt_ast (v := (gb_add ((I 3 ((Int32.toNatClampNeg ((gb_add ((gb_add s1 (gb_mul s2 s3))) ((I 11 (Int32.toNatClampNeg v3))))))))) ((I 15 (Int32.toNatClampNeg v3))))) rfl rfl ?_
  refine tt_mask rfl ?_
  exact rfl
set_option maxRecDepth 100000 in
theorem eX9_transmit (N : Nat) (v1 : Int32) (I : gM) : fX9_transmit N [.ref 0, .int v1] I = hX9_transmit_0 N v1 I := by
  show gFn 4 (fX9_transmit_k0 N) [.ref 0, .int v1] I = (fX9_transmit_k0 N) [some (.ref 0), some (.int v1), none, none] [] I
  exact tt_fn rfl rfl

def hX9_expire_0 (N : Nat) (I : gM) : gO := fX9_expire_k0 N [some (.ref 0), none, none, none] [] I
def hX9_expire_6 (N : Nat) (n6 : Nat) (v1 : Int32) (I : gM) : gO := s_lp (fX9_expire_b6 N) n6 [some (.ref 0), some (.int v1), none, none] [] I
def hX9_expire_65 (N : Nat) (n6 : Nat) (v1 : Int32) (v2 : Int32) (s1 : Int32) (I : gM) : gO := fX9_expire_k65 N (s_lp (fX9_expire_b6 N) n6) [some (.ref 0), some (.int v1), some (.int v2), none] [.int s1, .ref 7] I
def hX9_expire_56 (N : Nat) (n6 : Nat) (v1 : Int32) (v2 : Int32) (v3 : Int32) (s1 : Int32) (s2 : Int32) (s3 : Int32) (I : gM) : gO := fX9_expire_k56 N (s_lp (fX9_expire_b6 N) n6) [some (.ref 0), some (.int v1), some (.int v2), some (.int v3)] [.int s3, .int s2, .int s1, .ref 7] I
def hX9_expire_66 (N : Nat) (n6 : Nat) (v1 : Int32) (v2 : Int32) (s1 : Int32) (s2 : Int32) (I : gM) : gO := fX9_expire_k66 N (s_lp (fX9_expire_b6 N) n6) [some (.ref 0), some (.int v1), some (.int v2), none] [.int s2, .int s1, .ref 7] I
def hX9_expire_85 (N : Nat) (n6 : Nat) (v1 : Int32) (s1 : Int32) (s2 : Int32) (s3 : Int32) (I : gM) : gO := fX9_expire_k85 N (s_lp (fX9_expire_b6 N) n6) [some (.ref 0), some (.int v1), none, none] [.int s3, .int s2, .int s1, .ref 0] I
set_option maxRecDepth 100000 in
theorem eX9_expire_0 (N : Nat) (I : gM) : hX9_expire_0 N I =
  (hV (fX9_stayAll N [.ref 0] (gS (rg 0 18) I)) (rg 0 18) I fun I1 => hX9_expire_6 N N 0 I1) := by
  show (fX9_expire_k0 N) [some (.ref 0), none, none, none] [] I = _
  unfold fX9_expire_k0
  refine tt_aload rfl ?_
  refine tt_cavV (t := []) ⟨Nat.le_of_ble_eq_true rfl, Nat.le_of_ble_eq_true rfl⟩ rfl rfl rfl (fun I1 => ?_)
  refine tt_const ?_
  refine tt_istore (L2 := [some (.ref 0), some (.int 0), none, none]) (tt_lt rfl) rfl ?_
  refine tt_mask rfl ?_
  exact rfl
set_option maxRecDepth 100000 in
theorem eX9_expire_6 (N : Nat) (n6 : Nat) (v1 : Int32) (I : gM) : hX9_expire_6 N (n6 + 1) v1 I =
  (ck 2746 245 <| if gc_ge v1 ((I 3 (Int32.toNatClampNeg 245))) = true then (hI (fX9_closeUp N [.ref 0] (gS (rg 0 18) I)) (rg 0 18) I fun x2 I2 => some (.inl none, I2)) else (hI (fX9_packetPart N [.ref 0, .int v1, .int 0] (gS (rg 0 18) I)) (rg 0 18) I fun x3 I3 => hI (fX9_flowPart N [.ref 0, .int x3, .int 3] (gS (rg 0 18) I3)) (rg 0 18) I3 fun x4 I4 => if gz_le x4 = true then (hX9_expire_65 N n6 v1 x3 v1 I4) else (ck 2746 7 <| hI (fX9_packetPart N [.ref 0, .int v1, .int 1] (gS (rg 0 18) I4)) (rg 0 18) I4 fun x5 I5 => hX9_expire_56 N n6 v1 x3 x4 v1 ((gb_add ((I4 3 (Int32.toNatClampNeg 7))) 1)) x5 I5))) := by
  show (fX9_expire_b6 N (s_lp (fX9_expire_b6 N) n6)) [some (.ref 0), some (.int v1), none, none] [] I = _
  unfold fX9_expire_b6
  refine tt_iload rfl ?_
  refine tt_aload rfl ?_
  refine tt_getr (q := 3) rfl rfl ?_
  refine tt_const ?_
  refine tt_ald (x := (I 3 (Int32.toNatClampNeg 245))) rfl rfl ?_
  refine tt_cmp ?_ ?_
  · skip
    refine tt_aload rfl ?_
    refine tt_cavI (t := []) ⟨Nat.le_of_ble_eq_true rfl, Nat.le_of_ble_eq_true rfl⟩ rfl rfl rfl (fun x2 I2 => ?_)
    refine tt_istore (L2 := [some (.ref 0), some (.int x2), none, none]) (tt_lt rfl) rfl ?_
    exact rfl
  · skip
    refine tt_aload rfl ?_
    refine tt_iload rfl ?_
    refine tt_const ?_
    refine tt_cavI (t := []) ⟨Nat.le_of_ble_eq_true rfl, Nat.le_of_ble_eq_true rfl⟩ rfl rfl rfl (fun x3 I3 => ?_)
    refine tt_istore (L2 := [some (.ref 0), some (.int v1), some (.int x3), none]) (tt_lt rfl) rfl ?_
    refine tt_aload rfl ?_
    refine tt_iload rfl ?_
    refine tt_const ?_
    refine tt_cavI (t := []) ⟨Nat.le_of_ble_eq_true rfl, Nat.le_of_ble_eq_true rfl⟩ rfl rfl rfl (fun x4 I4 => ?_)
    refine tt_istore (L2 := [some (.ref 0), some (.int v1), some (.int x3), some (.int x4)]) (tt_lt rfl) rfl ?_
    refine tt_aload rfl ?_
    refine tt_getr (q := 7) rfl rfl ?_
    refine tt_iload rfl ?_
    refine tt_iload rfl ?_
    refine tt_if ?_ ?_
    · skip
      refine tt_mask rfl ?_
      exact rfl
    · skip
      refine tt_aload rfl ?_
      refine tt_getr (q := 3) rfl rfl ?_
      refine tt_const ?_
      refine tt_ald (x := (I4 3 (Int32.toNatClampNeg 7))) rfl rfl ?_
      refine tt_const ?_
      refine tt_bin ?_
      refine tt_aload rfl ?_
      refine tt_iload rfl ?_
      refine tt_const ?_
      refine tt_cavI (t := [.int ((gb_add ((I4 3 (Int32.toNatClampNeg 7))) 1)), .int v1, .ref 7]) ⟨Nat.le_of_ble_eq_true rfl, Nat.le_of_ble_eq_true rfl⟩ rfl rfl rfl (fun x5 I5 => ?_)
      refine tt_mask rfl ?_
      exact rfl
theorem eX9_expire_6z (N : Nat) (v1 : Int32) (I : gM) : hX9_expire_6 N 0 v1 I = none := (rfl)
set_option maxRecDepth 100000 in
theorem eX9_expire_65 (N : Nat) (n6 : Nat) (v1 : Int32) (v2 : Int32) (s1 : Int32) (I : gM) : hX9_expire_65 N n6 v1 v2 s1 I =
  (hX9_expire_66 N n6 v1 v2 s1 0 I) := by
  show (fX9_expire_k65 N (s_lp (fX9_expire_b6 N) n6)) [some (.ref 0), some (.int v1), some (.int v2), none] [.int s1, .ref 7] I = _
  unfold fX9_expire_k65
  refine tt_const ?_
  refine tt_mask rfl ?_
  exact rfl
set_option maxRecDepth 100000 in
theorem eX9_expire_56 (N : Nat) (n6 : Nat) (v1 : Int32) (v2 : Int32) (v3 : Int32) (s1 : Int32) (s2 : Int32) (s3 : Int32) (I : gM) : hX9_expire_56 N n6 v1 v2 v3 s1 s2 s3 I =
  (if gc_lt (gb_sub s2 s3) v3 = true then (hX9_expire_65 N n6 v1 v2 s1 I) else (hX9_expire_66 N n6 v1 v2 s1 1 I)) := by
  show (fX9_expire_k56 N (s_lp (fX9_expire_b6 N) n6)) [some (.ref 0), some (.int v1), some (.int v2), some (.int v3)] [.int s3, .int s2, .int s1, .ref 7] I = _
  unfold fX9_expire_k56
  refine tt_bin ?_
  refine tt_iload rfl ?_
  refine tt_cmp ?_ ?_
  · skip
    refine tt_mask rfl ?_
    exact rfl
  · skip
    refine tt_const ?_
    refine tt_mask rfl ?_
    exact rfl
set_option maxRecDepth 100000 in
theorem eX9_expire_66 (N : Nat) (n6 : Nat) (v1 : Int32) (v2 : Int32) (s1 : Int32) (s2 : Int32) (I : gM) : hX9_expire_66 N n6 v1 v2 s1 s2 I =
  (ck 500 s1 <| ck 500 v1 <| if gz_eq (((gU I 7 (Int32.toNatClampNeg s1) (vp_nar .boolean s2)) 7 (Int32.toNatClampNeg v1))) = true then (hX9_expire_85 N n6 v1 v2 7 0 (gU I 7 (Int32.toNatClampNeg s1) (vp_nar .boolean s2))) else (hX9_expire_85 N n6 v1 v2 7 1 (gU I 7 (Int32.toNatClampNeg s1) (vp_nar .boolean s2)))) := by
  show (fX9_expire_k66 N (s_lp (fX9_expire_b6 N) n6)) [some (.ref 0), some (.int v1), some (.int v2), none] [.int s2, .int s1, .ref 7] I = _
  unfold fX9_expire_k66
  refine tt_ast (v := (vp_nar .boolean s2)) rfl rfl ?_
  refine tt_aload rfl ?_
  refine tt_iload rfl ?_
  refine tt_const ?_
  refine tt_aload rfl ?_
  refine tt_getr (q := 7) rfl rfl ?_
  refine tt_iload rfl ?_
  refine tt_ald (x := ((gU I 7 (Int32.toNatClampNeg s1) (vp_nar .boolean s2)) 7 (Int32.toNatClampNeg v1))) rfl rfl ?_
  refine tt_if ?_ ?_
  · skip
    refine tt_const ?_
    refine tt_mask rfl ?_
    exact rfl
  · skip
    refine tt_const ?_
    refine tt_mask rfl ?_
    exact rfl
set_option maxRecDepth 100000 in
theorem eX9_expire_85 (N : Nat) (n6 : Nat) (v1 : Int32) (s1 : Int32) (s2 : Int32) (s3 : Int32) (I : gM) : hX9_expire_85 N n6 v1 s1 s2 s3 I =
  (hV (fX9_count N [.ref 0, .int s1, .int s2, .int s3] (gS (rg 0 18) I)) (rg 0 18) I fun I6 => hX9_expire_6 N n6 (v1 + 1) I6) := by
  show (fX9_expire_k85 N (s_lp (fX9_expire_b6 N) n6)) [some (.ref 0), some (.int v1), none, none] [.int s3, .int s2, .int s1, .ref 0] I = _
  unfold fX9_expire_k85
  refine tt_cavV (t := []) ⟨Nat.le_of_ble_eq_true rfl, Nat.le_of_ble_eq_true rfl⟩ rfl rfl rfl (fun I6 => ?_)
  refine tt_iinc (L2 := [some (.ref 0), some (.int (v1 + 1)), none, none]) rfl rfl ?_
  refine tt_mask rfl ?_
  exact rfl
set_option maxRecDepth 100000 in
theorem eX9_expire (N : Nat) (I : gM) : fX9_expire N [.ref 0] I = hX9_expire_0 N I := by
  show gFn 4 (fX9_expire_k0 N) [.ref 0] I = (fX9_expire_k0 N) [some (.ref 0), none, none, none] [] I
  exact tt_fn rfl rfl

def hX9_isNode_0 (N : Nat) (v1 : Int32) (I : gM) : gO := fX9_isNode_k0 N [some (.ref 0), some (.int v1)] [] I
set_option maxRecDepth 100000 in
theorem eX9_isNode_0 (N : Nat) (v1 : Int32) (I : gM) : hX9_isNode_0 N v1 I =
  (ck 2746 0 <| hI (fX9_in N [.long ((v1).toInt64), .long 0, .long (((gb_sub ((I 3 (Int32.toNatClampNeg 0))) 1)).toInt64)] (gS [] I)) [] I fun x1 I1 => if x1 = 0 ∨ x1 = 1 then some (.inl (some (.int x1)), I1) else none) := by
  show (fX9_isNode_k0 N) [some (.ref 0), some (.int v1)] [] I = _
  unfold fX9_isNode_k0
  refine tt_iload rfl ?_
  refine tt_i2l ?_
  refine tt_lconst ?_
  refine tt_aload rfl ?_
  refine tt_getr (q := 3) rfl rfl ?_
  refine tt_const ?_
  refine tt_ald (x := (I 3 (Int32.toNatClampNeg 0))) rfl rfl ?_
  refine tt_const ?_
  refine tt_bin ?_
  refine tt_i2l ?_
  refine tt_caI (t := []) ⟨Nat.le_of_ble_eq_true rfl, Nat.le_of_ble_eq_true rfl⟩ rfl rfl rfl (fun x1 I1 => ?_)
  exact rfl
set_option maxRecDepth 100000 in
theorem eX9_isNode (N : Nat) (v1 : Int32) (I : gM) : fX9_isNode N [.ref 0, .int v1] I = hX9_isNode_0 N v1 I := by
  show gFn 2 (fX9_isNode_k0 N) [.ref 0, .int v1] I = (fX9_isNode_k0 N) [some (.ref 0), some (.int v1)] [] I
  exact tt_fn rfl rfl

def hX9_isLink_0 (N : Nat) (v1 : Int32) (I : gM) : gO := fX9_isLink_k0 N [some (.ref 0), some (.int v1)] [] I
set_option maxRecDepth 100000 in
theorem eX9_isLink_0 (N : Nat) (v1 : Int32) (I : gM) : hX9_isLink_0 N v1 I =
  (ck 2746 1 <| hI (fX9_in N [.long ((v1).toInt64), .long 0, .long (((gb_sub ((I 3 (Int32.toNatClampNeg 1))) 1)).toInt64)] (gS [] I)) [] I fun x1 I1 => if x1 = 0 ∨ x1 = 1 then some (.inl (some (.int x1)), I1) else none) := by
  show (fX9_isLink_k0 N) [some (.ref 0), some (.int v1)] [] I = _
  unfold fX9_isLink_k0
  refine tt_iload rfl ?_
  refine tt_i2l ?_
  refine tt_lconst ?_
  refine tt_aload rfl ?_
  refine tt_getr (q := 3) rfl rfl ?_
  refine tt_const ?_
  refine tt_ald (x := (I 3 (Int32.toNatClampNeg 1))) rfl rfl ?_
  refine tt_const ?_
  refine tt_bin ?_
  refine tt_i2l ?_
  refine tt_caI (t := []) ⟨Nat.le_of_ble_eq_true rfl, Nat.le_of_ble_eq_true rfl⟩ rfl rfl rfl (fun x1 I1 => ?_)
  exact rfl
set_option maxRecDepth 100000 in
theorem eX9_isLink (N : Nat) (v1 : Int32) (I : gM) : fX9_isLink N [.ref 0, .int v1] I = hX9_isLink_0 N v1 I := by
  show gFn 2 (fX9_isLink_k0 N) [.ref 0, .int v1] I = (fX9_isLink_k0 N) [some (.ref 0), some (.int v1)] [] I
  exact tt_fn rfl rfl

