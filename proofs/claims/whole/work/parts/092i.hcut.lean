def hX0_reachOver_0 (N : Nat) (v2 : Int32) (v3 : Int32) (I : gM) : gO := fX0_reachOver_k0 N [some (.ref 0), some (.ref 3), some (.int v2), some (.int v3), none, none, none, none] [] I
def hX0_reachOver_31 (N : Nat) (v2 : Int32) (v3 : Int32) (v4 : Int32) (v5 : Int32) (s0 : Int32) (I : gM) : gO := fX0_reachOver_k31 N [some (.ref 0), some (.ref 3), some (.int v2), some (.int v3), some (.int v4), some (.int v5), none, none] [.int s0] I
def hX0_reachOver_48 (N : Nat) (v2 : Int32) (v4 : Int32) (v5 : Int32) (v6 : Int32) (s0 : Int32) (I : gM) : gO := fX0_reachOver_k48 N [some (.ref 0), some (.ref 3), some (.int v2), none, some (.int v4), some (.int v5), some (.int v6), none] [.int s0] I
def hX0_reachOver_88 (N : Nat) (v2 : Int32) (v4 : Int32) (v6 : Int32) (v7 : Int32) (I : gM) : gO := fX0_reachOver_k88 N [some (.ref 0), none, some (.int v2), none, some (.int v4), none, some (.int v6), some (.int v7)] [] I
set_option maxRecDepth 100000 in
theorem eX0_reachOver_0 (N : Nat) (v2 : Int32) (v3 : Int32) (I : gM) : hX0_reachOver_0 N v2 v3 I =
  (ck 14 v2 <| ck 14 v2 <| if gc_ne ((gb_and ((gb_shr v3 ((I 4 (Int32.toNatClampNeg v2))))) 1)) 1 = true then (hX0_reachOver_31 N v2 v3 ((I 4 (Int32.toNatClampNeg v2))) ((I 5 (Int32.toNatClampNeg v2))) 0 I) else (hX0_reachOver_31 N v2 v3 ((I 4 (Int32.toNatClampNeg v2))) ((I 5 (Int32.toNatClampNeg v2))) 1 I)) := by
  show (fX0_reachOver_k0 N) [some (.ref 0), some (.ref 3), some (.int v2), some (.int v3), none, none, none, none] [] I = _
  unfold fX0_reachOver_k0
  refine tt_aload rfl ?_
  refine tt_getr (q := 4) rfl rfl ?_
  refine tt_iload rfl ?_
  refine tt_ald (x := (I 4 (Int32.toNatClampNeg v2))) rfl rfl ?_
  refine tt_istore (L2 := [some (.ref 0), some (.ref 3), some (.int v2), some (.int v3), some (.int ((I 4 (Int32.toNatClampNeg v2)))), none, none, none]) (tt_lt rfl) rfl ?_
  refine tt_aload rfl ?_
  refine tt_getr (q := 5) rfl rfl ?_
  refine tt_iload rfl ?_
  refine tt_ald (x := (I 5 (Int32.toNatClampNeg v2))) rfl rfl ?_
  refine tt_istore (L2 := [some (.ref 0), some (.ref 3), some (.int v2), some (.int v3), some (.int ((I 4 (Int32.toNatClampNeg v2)))), some (.int ((I 5 (Int32.toNatClampNeg v2)))), none, none]) (tt_lt rfl) rfl ?_
  refine tt_iload rfl ?_
  refine tt_iload rfl ?_
  refine tt_bin ?_
  refine tt_const ?_
  refine tt_bin ?_
  refine tt_const ?_
  refine tt_cmp ?_ ?_
  · skip
    refine tt_const ?_
    refine tt_mask rfl ?_
    exact rfl
  · skip
    refine tt_const ?_
    refine tt_mask rfl ?_
    exact rfl
set_option maxRecDepth 100000 in
theorem eX0_reachOver_31 (N : Nat) (v2 : Int32) (v3 : Int32) (v4 : Int32) (v5 : Int32) (s0 : Int32) (I : gM) : hX0_reachOver_31 N v2 v3 v4 v5 s0 I =
  (if gc_ne ((gb_and (gb_shr v3 v5) 1)) 1 = true then (hX0_reachOver_48 N v2 v4 v5 s0 0 I) else (hX0_reachOver_48 N v2 v4 v5 s0 1 I)) := by
  show (fX0_reachOver_k31 N) [some (.ref 0), some (.ref 3), some (.int v2), some (.int v3), some (.int v4), some (.int v5), none, none] [.int s0] I = _
  unfold fX0_reachOver_k31
  refine tt_istore (L2 := [some (.ref 0), some (.ref 3), some (.int v2), some (.int v3), some (.int v4), some (.int v5), some (.int s0), none]) (tt_lt rfl) rfl ?_
  refine tt_iload rfl ?_
  refine tt_iload rfl ?_
  refine tt_bin ?_
  refine tt_const ?_
  refine tt_bin ?_
  refine tt_const ?_
  refine tt_cmp ?_ ?_
  · skip
    refine tt_const ?_
    refine tt_mask rfl ?_
    exact rfl
  · skip
    refine tt_const ?_
    refine tt_mask rfl ?_
    exact rfl
set_option maxRecDepth 100000 in
theorem eX0_reachOver_48 (N : Nat) (v2 : Int32) (v4 : Int32) (v5 : Int32) (v6 : Int32) (s0 : Int32) (I : gM) : hX0_reachOver_48 N v2 v4 v5 v6 s0 I =
  (if gz_eq v6 = true then (hX0_reachOver_88 N v2 v4 v6 s0 I) else (if gz_ne s0 = true then (hX0_reachOver_88 N v2 v4 v6 s0 I) else (ck 14 v2 <| ck 14 v2 <| if gc_ge ((I 1 (Int32.toNatClampNeg v2))) ((I 6 (Int32.toNatClampNeg v2))) = true then (hX0_reachOver_88 N v2 v4 v6 s0 I) else (ck 10 v5 <| some (.inl (some (.int (gb_shl 1 v5))), (gU I 2 (Int32.toNatClampNeg v5) v2)))))) := by
  show (fX0_reachOver_k48 N) [some (.ref 0), some (.ref 3), some (.int v2), none, some (.int v4), some (.int v5), some (.int v6), none] [.int s0] I = _
  unfold fX0_reachOver_k48
  refine tt_istore (L2 := [some (.ref 0), some (.ref 3), some (.int v2), none, some (.int v4), some (.int v5), some (.int v6), some (.int s0)]) (tt_lt rfl) rfl ?_
  refine tt_iload rfl ?_
  refine tt_if ?_ ?_
  · skip
    refine tt_mask rfl ?_
    exact rfl
  · skip
    refine tt_iload rfl ?_
    refine tt_if ?_ ?_
    · skip
      refine tt_mask rfl ?_
      exact rfl
    · skip
      refine tt_aload rfl ?_
      refine tt_getr (q := 1) rfl rfl ?_
      refine tt_iload rfl ?_
      refine tt_ald (x := (I 1 (Int32.toNatClampNeg v2))) rfl rfl ?_
      refine tt_aload rfl ?_
      refine tt_getr (q := 6) rfl rfl ?_
      refine tt_iload rfl ?_
      refine tt_ald (x := (I 6 (Int32.toNatClampNeg v2))) rfl rfl ?_
      refine tt_cmp ?_ ?_
      · skip
        refine tt_mask rfl ?_
        exact rfl
      · skip
        refine tt_aload rfl ?_
        refine tt_getr (q := 2) rfl rfl ?_
        refine tt_iload rfl ?_
        refine tt_iload rfl ?_
        refine tt_ast (v := v2) rfl rfl ?_
        refine tt_const ?_
        refine tt_iload rfl ?_
        refine tt_bin ?_
        exact rfl
set_option maxRecDepth 100000 in
theorem eX0_reachOver_88 (N : Nat) (v2 : Int32) (v4 : Int32) (v6 : Int32) (v7 : Int32) (I : gM) : hX0_reachOver_88 N v2 v4 v6 v7 I =
  (if gz_eq v7 = true then (some (.inl (some (.int 0)), I)) else (if gz_ne v6 = true then (some (.inl (some (.int 0)), I)) else (ck 14 v2 <| if gz_le ((I 1 (Int32.toNatClampNeg v2))) = true then (some (.inl (some (.int 0)), I)) else (ck 10 v4 <| some (.inl (some (.int (gb_shl 1 v4))), (gU I 2 (Int32.toNatClampNeg v4) v2)))))) := by
  show (fX0_reachOver_k88 N) [some (.ref 0), none, some (.int v2), none, some (.int v4), none, some (.int v6), some (.int v7)] [] I = _
  unfold fX0_reachOver_k88
  refine tt_iload rfl ?_
  refine tt_if ?_ ?_
  · skip
    refine tt_const ?_
    exact rfl
  · skip
    refine tt_iload rfl ?_
    refine tt_if ?_ ?_
    · skip
      refine tt_const ?_
      exact rfl
    · skip
      refine tt_aload rfl ?_
      refine tt_getr (q := 1) rfl rfl ?_
      refine tt_iload rfl ?_
      refine tt_ald (x := (I 1 (Int32.toNatClampNeg v2))) rfl rfl ?_
      refine tt_if ?_ ?_
      · skip
        refine tt_const ?_
        exact rfl
      · skip
        refine tt_aload rfl ?_
        refine tt_getr (q := 2) rfl rfl ?_
        refine tt_iload rfl ?_
        refine tt_iload rfl ?_
        refine tt_ast (v := v2) rfl rfl ?_
        refine tt_const ?_
        refine tt_iload rfl ?_
        refine tt_bin ?_
        exact rfl
set_option maxRecDepth 100000 in
theorem eX0_reachOver (N : Nat) (v2 : Int32) (v3 : Int32) (I : gM) : fX0_reachOver N [.ref 0, .ref 3, .int v2, .int v3] I = hX0_reachOver_0 N v2 v3 I := by
  show gFn 8 (fX0_reachOver_k0 N) [.ref 0, .ref 3, .int v2, .int v3] I = (fX0_reachOver_k0 N) [some (.ref 0), some (.ref 3), some (.int v2), some (.int v3), none, none, none, none] [] I
  exact tt_fn rfl rfl

def hX0_reach_0 (N : Nat) (v2 : Int32) (I : gM) : gO := fX0_reach_k0 N [some (.ref 0), some (.ref 3), some (.int v2), none, none, none] [] I
def hX0_reach_7 (N : Nat) (n7 : Nat) (v3 : Int32) (v4 : Int32) (I : gM) : gO := s_lp (fX0_reach_b7 N) n7 [some (.ref 0), some (.ref 3), none, some (.int v3), some (.int v4), none] [] I
def hX0_reach_19 (N : Nat) (n7 : Nat) (n19 : Nat) (v3 : Int32) (v4 : Int32) (v5 : Int32) (I : gM) : gO := s_lp (fX0_reach_b19 N (s_lp (fX0_reach_b7 N) n7)) n19 [some (.ref 0), some (.ref 3), none, some (.int v3), some (.int v4), some (.int v5)] [] I
set_option maxRecDepth 100000 in
theorem eX0_reach_0 (N : Nat) (v2 : Int32) (I : gM) : hX0_reach_0 N v2 I =
  (hX0_reach_7 N N (gb_shl 1 v2) 1 I) := by
  show (fX0_reach_k0 N) [some (.ref 0), some (.ref 3), some (.int v2), none, none, none] [] I = _
  unfold fX0_reach_k0
  refine tt_const ?_
  refine tt_iload rfl ?_
  refine tt_bin ?_
  refine tt_istore (L2 := [some (.ref 0), some (.ref 3), some (.int v2), some (.int (gb_shl 1 v2)), none, none]) (tt_lt rfl) rfl ?_
  refine tt_const ?_
  refine tt_istore (L2 := [some (.ref 0), some (.ref 3), some (.int v2), some (.int (gb_shl 1 v2)), some (.int 1), none]) (tt_lt rfl) rfl ?_
  refine tt_mask rfl ?_
  exact rfl
set_option maxRecDepth 100000 in
theorem eX0_reach_7 (N : Nat) (n7 : Nat) (v3 : Int32) (v4 : Int32) (I : gM) : hX0_reach_7 N (n7 + 1) v3 v4 I =
  (if gc_ge v4 (I 3 0) = true then (some (.inl (some (.int v3)), I)) else (hX0_reach_19 N n7 N v3 v4 0 I)) := by
  show (fX0_reach_b7 N (s_lp (fX0_reach_b7 N) n7)) [some (.ref 0), some (.ref 3), none, some (.int v3), some (.int v4), none] [] I = _
  unfold fX0_reach_b7
  refine tt_iload rfl ?_
  refine tt_aload rfl ?_
  refine tt_get (x := (I 3 0)) rfl rfl rfl ?_
  refine tt_cmp ?_ ?_
  · skip
    refine tt_iload rfl ?_
    exact rfl
  · skip
    refine tt_const ?_
    refine tt_istore (L2 := [some (.ref 0), some (.ref 3), none, some (.int v3), some (.int v4), some (.int 0)]) (tt_lt rfl) rfl ?_
    refine tt_mask rfl ?_
    exact rfl
theorem eX0_reach_7z (N : Nat) (v3 : Int32) (v4 : Int32) (I : gM) : hX0_reach_7 N 0 v3 v4 I = none := (rfl)
set_option maxRecDepth 100000 in
theorem eX0_reach_19 (N : Nat) (n7 : Nat) (n19 : Nat) (v3 : Int32) (v4 : Int32) (v5 : Int32) (I : gM) : hX0_reach_19 N n7 (n19 + 1) v3 v4 v5 I =
  (if gc_ge v5 (I 3 1) = true then (hX0_reach_7 N n7 v3 (v4 + 1) I) else (hI (fX0_reachOver N [.ref 0, .ref 3, .int v5, .int v3] (gS (rg 0 12) I)) (rg 0 12) I fun x1 I1 => hX0_reach_19 N n7 n19 (gb_or v3 x1) v4 (v5 + 1) I1)) := by
  show (fX0_reach_b19 N (s_lp (fX0_reach_b7 N) n7) (s_lp (fX0_reach_b19 N (s_lp (fX0_reach_b7 N) n7)) n19)) [some (.ref 0), some (.ref 3), none, some (.int v3), some (.int v4), some (.int v5)] [] I = _
  unfold fX0_reach_b19
  refine tt_iload rfl ?_
  refine tt_aload rfl ?_
  refine tt_get (x := (I 3 1)) rfl rfl rfl ?_
  refine tt_cmp ?_ ?_
  · skip
    refine tt_iinc (L2 := [some (.ref 0), some (.ref 3), none, some (.int v3), some (.int (v4 + 1)), some (.int v5)]) rfl rfl ?_
    refine tt_mask rfl ?_
    exact rfl
  · skip
    refine tt_iload rfl ?_
    refine tt_aload rfl ?_
    refine tt_aload rfl ?_
    refine tt_iload rfl ?_
    refine tt_iload rfl ?_
    refine tt_cavI (t := [.int v3]) ⟨Nat.le_of_ble_eq_true rfl, Nat.le_of_ble_eq_true rfl⟩ rfl rfl rfl (fun x1 I1 => ?_)
    refine tt_bin ?_
    refine tt_istore (L2 := [some (.ref 0), some (.ref 3), none, some (.int (gb_or v3 x1)), some (.int v4), some (.int v5)]) (tt_lt rfl) rfl ?_
    refine tt_iinc (L2 := [some (.ref 0), some (.ref 3), none, some (.int (gb_or v3 x1)), some (.int v4), some (.int (v5 + 1))]) rfl rfl ?_
    refine tt_mask rfl ?_
    exact rfl
theorem eX0_reach_19z (N : Nat) (n7 : Nat) (v3 : Int32) (v4 : Int32) (v5 : Int32) (I : gM) : hX0_reach_19 N n7 0 v3 v4 v5 I = none := (rfl)
set_option maxRecDepth 100000 in
theorem eX0_reach (N : Nat) (v2 : Int32) (I : gM) : fX0_reach N [.ref 0, .ref 3, .int v2] I = hX0_reach_0 N v2 I := by
  show gFn 6 (fX0_reach_k0 N) [.ref 0, .ref 3, .int v2] I = (fX0_reach_k0 N) [some (.ref 0), some (.ref 3), some (.int v2), none, none, none] [] I
  exact tt_fn rfl rfl

def hX0_sendOne_0 (N : Nat) (v2 : Int32) (v3 : Int32) (I : gM) : gO := fX0_sendOne_k0 N [some (.ref 0), some (.ref 3), some (.int v2), some (.int v3), none, none, none] [] I
def hX0_sendOne_6 (N : Nat) (n6 : Nat) (v2 : Int32) (v4 : Int32) (v5 : Int32) (I : gM) : gO := s_lp (fX0_sendOne_b6 N) n6 [some (.ref 0), some (.ref 3), some (.int v2), none, some (.int v4), some (.int v5), none] [] I
def hX0_sendOne_83 (N : Nat) (n6 : Nat) (v2 : Int32) (v4 : Int32) (v5 : Int32) (I : gM) : gO := fX0_sendOne_k83 N (s_lp (fX0_sendOne_b6 N) n6) [some (.ref 0), some (.ref 3), some (.int v2), none, some (.int v4), some (.int v5), none] [] I
set_option maxRecDepth 100000 in
theorem eX0_sendOne_0 (N : Nat) (v2 : Int32) (v3 : Int32) (I : gM) : hX0_sendOne_0 N v2 v3 I =
  (hX0_sendOne_6 N N v2 v3 0 I) := by
  show (fX0_sendOne_k0 N) [some (.ref 0), some (.ref 3), some (.int v2), some (.int v3), none, none, none] [] I = _
  unfold fX0_sendOne_k0
  refine tt_iload rfl ?_
  refine tt_istore (L2 := [some (.ref 0), some (.ref 3), some (.int v2), some (.int v3), some (.int v3), none, none]) (tt_lt rfl) rfl ?_
  refine tt_const ?_
  refine tt_istore (L2 := [some (.ref 0), some (.ref 3), some (.int v2), some (.int v3), some (.int v3), some (.int 0), none]) (tt_lt rfl) rfl ?_
  refine tt_mask rfl ?_
  exact rfl
set_option maxRecDepth 100000 in
theorem eX0_sendOne_6 (N : Nat) (n6 : Nat) (v2 : Int32) (v4 : Int32) (v5 : Int32) (I : gM) : hX0_sendOne_6 N (n6 + 1) v2 v4 v5 I =
  (if gc_ge v5 10 = true then (some (.inl none, I)) else (if gc_eq v4 v2 = true then (some (.inl none, I)) else (ck 10 v4 <| ck 14 ((I 2 (Int32.toNatClampNeg v4))) <| if gc_ne ((I 5 ((Int32.toNatClampNeg ((I 2 (Int32.toNatClampNeg v4))))))) v4 = true then (ck 14 ((I 2 (Int32.toNatClampNeg v4))) <| ck 14 ((I 2 (Int32.toNatClampNeg v4))) <| ck 14 ((I 2 (Int32.toNatClampNeg v4))) <| hX0_sendOne_83 N n6 v2 ((I 5 ((Int32.toNatClampNeg ((I 2 (Int32.toNatClampNeg v4))))))) v5 (gU I 1 ((Int32.toNatClampNeg ((I 2 (Int32.toNatClampNeg v4))))) ((gb_sub ((I 1 ((Int32.toNatClampNeg ((I 2 (Int32.toNatClampNeg v4))))))) 1)))) else (ck 14 ((I 2 (Int32.toNatClampNeg v4))) <| ck 14 ((I 2 (Int32.toNatClampNeg v4))) <| ck 14 ((I 2 (Int32.toNatClampNeg v4))) <| hX0_sendOne_83 N n6 v2 ((I 4 ((Int32.toNatClampNeg ((I 2 (Int32.toNatClampNeg v4))))))) v5 (gU I 1 ((Int32.toNatClampNeg ((I 2 (Int32.toNatClampNeg v4))))) ((gb_add ((I 1 ((Int32.toNatClampNeg ((I 2 (Int32.toNatClampNeg v4))))))) 1))))))) := by
  show (fX0_sendOne_b6 N (s_lp (fX0_sendOne_b6 N) n6)) [some (.ref 0), some (.ref 3), some (.int v2), none, some (.int v4), some (.int v5), none] [] I = _
  unfold fX0_sendOne_b6
  refine tt_iload rfl ?_
  refine tt_const ?_
  refine tt_cmp ?_ ?_
  · skip
    exact rfl
  · skip
    refine tt_iload rfl ?_
    refine tt_iload rfl ?_
    refine tt_cmp ?_ ?_
    · skip
      exact rfl
    · skip
      refine tt_aload rfl ?_
      refine tt_getr (q := 2) rfl rfl ?_
      refine tt_iload rfl ?_
      refine tt_ald (x := (I 2 (Int32.toNatClampNeg v4))) rfl rfl ?_
      refine tt_istore (L2 := [some (.ref 0), some (.ref 3), some (.int v2), none, some (.int v4), some (.int v5), some (.int ((I 2 (Int32.toNatClampNeg v4))))]) (tt_lt rfl) rfl ?_
      refine tt_aload rfl ?_
      refine tt_getr (q := 5) rfl rfl ?_
      refine tt_iload rfl ?_
      refine tt_ald (x := (I 5 ((Int32.toNatClampNeg ((I 2 (Int32.toNatClampNeg v4))))))) rfl rfl ?_
      refine tt_iload rfl ?_
      refine tt_cmp ?_ ?_
      · skip
        refine tt_aload rfl ?_
        refine tt_getr (q := 1) rfl rfl ?_
        refine tt_iload rfl ?_
        refine tt_dup2 rfl rfl ?_
        refine tt_ald (x := (I 1 ((Int32.toNatClampNeg ((I 2 (Int32.toNatClampNeg v4))))))) rfl rfl ?_
        refine tt_const ?_
        refine tt_bin ?_
        refine tt_ast (v := (gb_sub ((I 1 ((Int32.toNatClampNeg ((I 2 (Int32.toNatClampNeg v4))))))) 1)) rfl rfl ?_
        refine tt_aload rfl ?_
        refine tt_getr (q := 5) rfl rfl ?_
        refine tt_iload rfl ?_
        refine tt_ald (x := (I 5 ((Int32.toNatClampNeg ((I 2 (Int32.toNatClampNeg v4))))))) rfl rfl ?_
        refine tt_istore (L2 := [some (.ref 0), some (.ref 3), some (.int v2), none, some (.int ((I 5 ((Int32.toNatClampNeg ((I 2 (Int32.toNatClampNeg v4)))))))), some (.int v5), some (.int ((I 2 (Int32.toNatClampNeg v4))))]) (tt_lt rfl) rfl ?_
        refine tt_mask rfl ?_
        exact rfl
      · skip
        refine tt_aload rfl ?_
        refine tt_getr (q := 1) rfl rfl ?_
        refine tt_iload rfl ?_
        refine tt_dup2 rfl rfl ?_
        refine tt_ald (x := (I 1 ((Int32.toNatClampNeg ((I 2 (Int32.toNatClampNeg v4))))))) rfl rfl ?_
        refine tt_const ?_
        refine tt_bin ?_
        refine tt_ast (v := (gb_add ((I 1 ((Int32.toNatClampNeg ((I 2 (Int32.toNatClampNeg v4))))))) 1)) rfl rfl ?_
        refine tt_aload rfl ?_
        refine tt_getr (q := 4) rfl rfl ?_
        refine tt_iload rfl ?_
        refine tt_ald (x := (I 4 ((Int32.toNatClampNeg ((I 2 (Int32.toNatClampNeg v4))))))) rfl rfl ?_
        refine tt_istore (L2 := [some (.ref 0), some (.ref 3), some (.int v2), none, some (.int ((I 4 ((Int32.toNatClampNeg ((I 2 (Int32.toNatClampNeg v4)))))))), some (.int v5), some (.int ((I 2 (Int32.toNatClampNeg v4))))]) (tt_lt rfl) rfl ?_
        refine tt_mask rfl ?_
        exact rfl
theorem eX0_sendOne_6z (N : Nat) (v2 : Int32) (v4 : Int32) (v5 : Int32) (I : gM) : hX0_sendOne_6 N 0 v2 v4 v5 I = none := (rfl)
set_option maxRecDepth 100000 in
theorem eX0_sendOne_83 (N : Nat) (n6 : Nat) (v2 : Int32) (v4 : Int32) (v5 : Int32) (I : gM) : hX0_sendOne_83 N n6 v2 v4 v5 I =
  (hX0_sendOne_6 N n6 v2 v4 (v5 + 1) I) := by
  show (fX0_sendOne_k83 N (s_lp (fX0_sendOne_b6 N) n6)) [some (.ref 0), some (.ref 3), some (.int v2), none, some (.int v4), some (.int v5), none] [] I = _
  unfold fX0_sendOne_k83
  refine tt_iinc (L2 := [some (.ref 0), some (.ref 3), some (.int v2), none, some (.int v4), some (.int (v5 + 1)), none]) rfl rfl ?_
  refine tt_mask rfl ?_
  exact rfl
set_option maxRecDepth 100000 in
theorem eX0_sendOne (N : Nat) (v2 : Int32) (v3 : Int32) (I : gM) : fX0_sendOne N [.ref 0, .ref 3, .int v2, .int v3] I = hX0_sendOne_0 N v2 v3 I := by
  show gFn 7 (fX0_sendOne_k0 N) [.ref 0, .ref 3, .int v2, .int v3] I = (fX0_sendOne_k0 N) [some (.ref 0), some (.ref 3), some (.int v2), some (.int v3), none, none, none] [] I
  exact tt_fn rfl rfl

def hX0_find_0 (N : Nat) (v2 : Int32) (v3 : Int32) (I : gM) : gO := fX0_find_k0 N [some (.ref 0), some (.ref 3), some (.int v2), some (.int v3), none] [] I
def hX0_find_26 (N : Nat) (n26 : Nat) (v2 : Int32) (v3 : Int32) (v4 : Int32) (I : gM) : gO := s_lp (fX0_find_b26 N) n26 [some (.ref 0), some (.ref 3), some (.int v2), some (.int v3), some (.int v4)] [] I
set_option maxRecDepth 100000 in
theorem eX0_find_0 (N : Nat) (v2 : Int32) (v3 : Int32) (I : gM) : hX0_find_0 N v2 v3 I =
  (hV (fJF_fill N 14 [.ref 0, .int 0] (gS [1] I)) [1] I fun I1 => hI (fX0_reach N [.ref 0, .ref 3, .int v2] (gS (rg 0 12) (gU I1 0 2 0))) (rg 0 12) (gU I1 0 2 0) fun x2 I2 => hX0_find_26 N N v2 v3 0 (gU I2 0 3 x2)) := by
  show (fX0_find_k0 N) [some (.ref 0), some (.ref 3), some (.int v2), some (.int v3), none] [] I = _
  unfold fX0_find_k0
  refine tt_aload rfl ?_
  refine tt_getr (q := 1) rfl rfl ?_
  refine tt_const ?_
  refine tt_caV (t := []) ⟨Nat.le_of_ble_eq_true rfl, Nat.le_of_ble_eq_true rfl⟩ rfl rfl rfl (fun I1 => ?_)
  refine tt_aload rfl ?_
  refine tt_const ?_
  refine tt_put rfl rfl ?_
  refine tt_aload rfl ?_
  refine tt_aload rfl ?_
  refine tt_aload rfl ?_
  refine tt_iload rfl ?_
  refine tt_cavI (t := [.ref 0]) ⟨Nat.le_of_ble_eq_true rfl, Nat.le_of_ble_eq_true rfl⟩ rfl rfl rfl (fun x2 I2 => ?_)
  refine tt_put rfl rfl ?_
  refine tt_const ?_
  refine tt_istore (L2 := [some (.ref 0), some (.ref 3), some (.int v2), some (.int v3), some (.int 0)]) (tt_lt rfl) rfl ?_
  refine tt_mask rfl ?_
  exact rfl
set_option maxRecDepth 100000 in
theorem eX0_find_26 (N : Nat) (n26 : Nat) (v2 : Int32) (v3 : Int32) (v4 : Int32) (I : gM) : hX0_find_26 N (n26 + 1) v2 v3 v4 I =
  (if gc_ge v4 70 = true then (some (.inl none, I)) else (if gc_ne ((gb_and ((gb_shr (I 0 3) v3)) 1)) 1 = true then (some (.inl none, I)) else (hV (fX0_sendOne N [.ref 0, .ref 3, .int v2, .int v3] (gS (rg 0 12) I)) (rg 0 12) I fun I3 => hI (fX0_reach N [.ref 0, .ref 3, .int v2] (gS (rg 0 12) (gU I3 0 2 ((gb_add (I3 0 2) 1))))) (rg 0 12) (gU I3 0 2 ((gb_add (I3 0 2) 1))) fun x4 I4 => hX0_find_26 N n26 v2 v3 (v4 + 1) (gU I4 0 3 x4)))) := by
  show (fX0_find_b26 N (s_lp (fX0_find_b26 N) n26)) [some (.ref 0), some (.ref 3), some (.int v2), some (.int v3), some (.int v4)] [] I = _
  unfold fX0_find_b26
  refine tt_iload rfl ?_
  refine tt_const ?_
  refine tt_cmp ?_ ?_
  · skip
    exact rfl
  · skip
    refine tt_aload rfl ?_
    refine tt_get (x := (I 0 3)) rfl rfl rfl ?_
    refine tt_iload rfl ?_
    refine tt_bin ?_
    refine tt_const ?_
    refine tt_bin ?_
    refine tt_const ?_
    refine tt_cmp ?_ ?_
    · skip
      exact rfl
    · skip
      refine tt_aload rfl ?_
      refine tt_aload rfl ?_
      refine tt_iload rfl ?_
      refine tt_iload rfl ?_
      refine tt_cavV (t := []) ⟨Nat.le_of_ble_eq_true rfl, Nat.le_of_ble_eq_true rfl⟩ rfl rfl rfl (fun I3 => ?_)
      refine tt_aload rfl ?_
      refine tt_dup rfl ?_
      refine tt_get (x := (I3 0 2)) rfl rfl rfl ?_
      refine tt_const ?_
      refine tt_bin ?_
      refine tt_put rfl rfl ?_
      refine tt_aload rfl ?_
      refine tt_aload rfl ?_
      refine tt_aload rfl ?_
      refine tt_iload rfl ?_
      refine tt_cavI (t := [.ref 0]) ⟨Nat.le_of_ble_eq_true rfl, Nat.le_of_ble_eq_true rfl⟩ rfl rfl rfl (fun x4 I4 => ?_)
      refine tt_put rfl rfl ?_
      refine tt_iinc (L2 := [some (.ref 0), some (.ref 3), some (.int v2), some (.int v3), some (.int (v4 + 1))]) rfl rfl ?_
      refine tt_mask rfl ?_
      exact rfl
theorem eX0_find_26z (N : Nat) (v2 : Int32) (v3 : Int32) (v4 : Int32) (I : gM) : hX0_find_26 N 0 v2 v3 v4 I = none := (rfl)
set_option maxRecDepth 100000 in
theorem eX0_find (N : Nat) (v2 : Int32) (v3 : Int32) (I : gM) : fX0_find N [.ref 0, .ref 3, .int v2, .int v3] I = hX0_find_0 N v2 v3 I := by
  show gFn 5 (fX0_find_k0 N) [.ref 0, .ref 3, .int v2, .int v3] I = (fX0_find_k0 N) [some (.ref 0), some (.ref 3), some (.int v2), some (.int v3), none] [] I
  exact tt_fn rfl rfl

