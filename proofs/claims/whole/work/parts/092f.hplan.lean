def hX3_sumOfWeights_0 (N : Nat) (v0 : Int32) (I : gM) : gO := fX3_sumOfWeights_k0 N [some (.int v0), some (.ref 0), none, none] [] I
def hX3_sumOfWeights_4 (N : Nat) (n4 : Nat) (v0 : Int32) (v2 : Int32) (v3 : Int32) (I : gM) : gO := s_lp (fX3_sumOfWeights_b4 N) n4 [some (.int v0), some (.ref 0), some (.int v2), some (.int v3)] [] I
def hX3_sumOfWeights_25 (N : Nat) (n4 : Nat) (v0 : Int32) (v2 : Int32) (v3 : Int32) (I : gM) : gO := fX3_sumOfWeights_k25 N (s_lp (fX3_sumOfWeights_b4 N) n4) [some (.int v0), some (.ref 0), some (.int v2), some (.int v3)] [] I
set_option maxRecDepth 100000 in
theorem eX3_sumOfWeights_0 (N : Nat) (v0 : Int32) (I : gM) : hX3_sumOfWeights_0 N v0 I =
  (hX3_sumOfWeights_4 N N v0 0 0 I) := by
  show (fX3_sumOfWeights_k0 N) [some (.int v0), some (.ref 0), none, none] [] I = _
  unfold fX3_sumOfWeights_k0
  refine tt_const ?_
  refine tt_istore (L2 := [some (.int v0), some (.ref 0), some (.int 0), none]) (tt_lt rfl) rfl ?_
  refine tt_const ?_
  refine tt_istore (L2 := [some (.int v0), some (.ref 0), some (.int 0), some (.int 0)]) (tt_lt rfl) rfl ?_
  refine tt_mask rfl ?_
  exact rfl
set_option maxRecDepth 100000 in
theorem eX3_sumOfWeights_4 (N : Nat) (n4 : Nat) (v0 : Int32) (v2 : Int32) (v3 : Int32) (I : gM) : hX3_sumOfWeights_4 N (n4 + 1) v0 v2 v3 I =
  (if gc_ge v3 14 = true then (some (.inl (some (.int v2)), I)) else (if gc_ne ((gb_and (gb_shr v0 v3) 1)) 1 = true then (hX3_sumOfWeights_25 N n4 v0 v2 v3 I) else (ck 14 v3 <| hX3_sumOfWeights_25 N n4 v0 ((gb_add v2 ((I 0 (Int32.toNatClampNeg v3))))) v3 I))) := by
  show (fX3_sumOfWeights_b4 N (s_lp (fX3_sumOfWeights_b4 N) n4)) [some (.int v0), some (.ref 0), some (.int v2), some (.int v3)] [] I = _
  unfold fX3_sumOfWeights_b4
  refine tt_iload rfl ?_
  refine tt_const ?_
  refine tt_cmp ?_ ?_
  · skip
    refine tt_iload rfl ?_
    exact rfl
  · skip
    refine tt_iload rfl ?_
    refine tt_iload rfl ?_
    refine tt_bin ?_
    refine tt_const ?_
    refine tt_bin ?_
    refine tt_const ?_
    refine tt_cmp ?_ ?_
    · skip
      refine tt_mask rfl ?_
      exact rfl
    · skip
      refine tt_iload rfl ?_
      refine tt_aload rfl ?_
      refine tt_iload rfl ?_
      refine tt_ald (x := (I 0 (Int32.toNatClampNeg v3))) rfl rfl ?_
      refine tt_bin ?_
      refine tt_istore (L2 := [some (.int v0), some (.ref 0), some (.int ((gb_add v2 ((I 0 (Int32.toNatClampNeg v3)))))), some (.int v3)]) (tt_lt rfl) rfl ?_
      refine tt_mask rfl ?_
      exact rfl
theorem eX3_sumOfWeights_4z (N : Nat) (v0 : Int32) (v2 : Int32) (v3 : Int32) (I : gM) : hX3_sumOfWeights_4 N 0 v0 v2 v3 I = none := (rfl)
set_option maxRecDepth 100000 in
theorem eX3_sumOfWeights_25 (N : Nat) (n4 : Nat) (v0 : Int32) (v2 : Int32) (v3 : Int32) (I : gM) : hX3_sumOfWeights_25 N n4 v0 v2 v3 I =
  (hX3_sumOfWeights_4 N n4 v0 v2 (v3 + 1) I) := by
  show (fX3_sumOfWeights_k25 N (s_lp (fX3_sumOfWeights_b4 N) n4)) [some (.int v0), some (.ref 0), some (.int v2), some (.int v3)] [] I = _
  unfold fX3_sumOfWeights_k25
  refine tt_iinc (L2 := [some (.int v0), some (.ref 0), some (.int v2), some (.int (v3 + 1))]) rfl rfl ?_
  refine tt_mask rfl ?_
  exact rfl
set_option maxRecDepth 100000 in
theorem eX3_sumOfWeights (N : Nat) (v0 : Int32) (I : gM) : fX3_sumOfWeights N [.int v0, .ref 0] I = hX3_sumOfWeights_0 N v0 I := by
  show gFn 4 (fX3_sumOfWeights_k0 N) [.int v0, .ref 0] I = (fX3_sumOfWeights_k0 N) [some (.int v0), some (.ref 0), none, none] [] I
  exact tt_fn rfl rfl

def hX3_weigh_0 (N : Nat) (v2 : Int32) (I : gM) : gO := fX3_weigh_k0 N [some (.ref 0), some (.ref 3), some (.int v2), none, none, none, none, none, none, none, none, none] [] I
def hX3_weigh_31 (N : Nat) (v2 : Int32) (q0 : Nat) (I : gM) : gO := fX3_weigh_k31 N [some (.ref 0), none, some (.int v2), some (.ref 4), none, none, none, none, none, none, none, none] [.ref q0] I
def hX3_weigh_50 (N : Nat) (n50 : Nat) (v2 : Int32) (p4 : Nat) (v5 : Int32) (v6 : Int32) (v7 : Int32) (v8 : Int32) (I : gM) : gO := s_lp (fX3_weigh_b50 N) n50 [some (.ref 0), none, some (.int v2), some (.ref 4), some (.ref p4), some (.int v5), some (.int v6), some (.int v7), some (.int v8), none, none, none] [] I
def hX3_weigh_149 (N : Nat) (n50 : Nat) (v2 : Int32) (p4 : Nat) (v5 : Int32) (v6 : Int32) (v7 : Int32) (v8 : Int32) (I : gM) : gO := fX3_weigh_k149 N (s_lp (fX3_weigh_b50 N) n50) [some (.ref 0), none, some (.int v2), some (.ref 4), some (.ref p4), some (.int v5), some (.int v6), some (.int v7), some (.int v8), none, none, none] [] I
def hX3_weigh_141 (N : Nat) (n50 : Nat) (v2 : Int32) (p4 : Nat) (v5 : Int32) (v8 : Int32) (v11 : Int32) (I : gM) : gO := fX3_weigh_k141 N (s_lp (fX3_weigh_b50 N) n50) [some (.ref 0), none, some (.int v2), some (.ref 4), some (.ref p4), some (.int v5), none, none, some (.int v8), none, none, some (.int v11)] [] I
set_option maxRecDepth 100000 in
theorem eX3_weigh_0 (N : Nat) (v2 : Int32) (I : gM) : hX3_weigh_0 N v2 I =
  (ck 4 0 <| if gz_ne ((I 10 (Int32.toNatClampNeg 0))) = true then (hX3_weigh_31 N v2 17 I) else (hX3_weigh_31 N v2 16 I)) := by
  show (fX3_weigh_k0 N) [some (.ref 0), some (.ref 3), some (.int v2), none, none, none, none, none, none, none, none, none] [] I = _
  unfold fX3_weigh_k0
  refine tt_aload rfl ?_
  refine tt_getr (q := 4) rfl rfl ?_
  refine tt_astore (L2 := [some (.ref 0), some (.ref 3), some (.int v2), some (.ref 4), none, none, none, none, none, none, none, none]) (tt_lt rfl) rfl ?_
  refine tt_aload rfl ?_
  refine tt_getr (q := 10) rfl rfl ?_
  refine tt_const ?_
  refine tt_ald (x := (I 10 (Int32.toNatClampNeg 0))) rfl rfl ?_
  refine tt_if ?_ ?_
  · skip
    refine tt_aload rfl ?_
    refine tt_getr (q := 13) rfl rfl ?_
    refine tt_getr (q := 17) rfl rfl ?_
    refine tt_mask rfl ?_
    exact rfl
  · skip
    refine tt_aload rfl ?_
    refine tt_getr (q := 13) rfl rfl ?_
    refine tt_getr (q := 16) rfl rfl ?_
    refine tt_mask rfl ?_
    exact rfl
set_option maxRecDepth 100000 in
theorem eX3_weigh_31 (N : Nat) (v2 : Int32) (q0 : Nat) (I : gM) : hX3_weigh_31 N v2 q0 I =
  (ck 4 2 <| hX3_weigh_50 N N v2 q0 ((I 10 (Int32.toNatClampNeg 2))) (-1) 0 0 I) := by
  show (fX3_weigh_k31 N) [some (.ref 0), none, some (.int v2), some (.ref 4), none, none, none, none, none, none, none, none] [.ref q0] I = _
  unfold fX3_weigh_k31
  refine tt_astore (L2 := [some (.ref 0), none, some (.int v2), some (.ref 4), some (.ref q0), none, none, none, none, none, none, none]) (tt_lt rfl) rfl ?_
  refine tt_aload rfl ?_
  refine tt_getr (q := 10) rfl rfl ?_
  refine tt_const ?_
  refine tt_ald (x := (I 10 (Int32.toNatClampNeg 2))) rfl rfl ?_
  refine tt_istore (L2 := [some (.ref 0), none, some (.int v2), some (.ref 4), some (.ref q0), some (.int ((I 10 (Int32.toNatClampNeg 2)))), none, none, none, none, none, none]) (tt_lt rfl) rfl ?_
  refine tt_const ?_
  refine tt_istore (L2 := [some (.ref 0), none, some (.int v2), some (.ref 4), some (.ref q0), some (.int ((I 10 (Int32.toNatClampNeg 2)))), some (.int (-1)), none, none, none, none, none]) (tt_lt rfl) rfl ?_
  refine tt_const ?_
  refine tt_istore (L2 := [some (.ref 0), none, some (.int v2), some (.ref 4), some (.ref q0), some (.int ((I 10 (Int32.toNatClampNeg 2)))), some (.int (-1)), some (.int 0), none, none, none, none]) (tt_lt rfl) rfl ?_
  refine tt_const ?_
  refine tt_istore (L2 := [some (.ref 0), none, some (.int v2), some (.ref 4), some (.ref q0), some (.int ((I 10 (Int32.toNatClampNeg 2)))), some (.int (-1)), some (.int 0), some (.int 0), none, none, none]) (tt_lt rfl) rfl ?_
  refine tt_mask rfl ?_
  exact rfl
set_option maxRecDepth 100000 in
theorem eX3_weigh_50 (N : Nat) (n50 : Nat) (v2 : Int32) (p4 : Nat) (v5 : Int32) (v6 : Int32) (v7 : Int32) (v8 : Int32) (I : gM) : hX3_weigh_50 N (n50 + 1) v2 p4 v5 v6 v7 v8 I =
  (if gc_ge v8 (I 4 0) = true then (ck 14 v2 <| ck 14 v2 <| ck 14 v2 <| some (.inl none, (gU (gU I 1 (Int32.toNatClampNeg v2) v6) 2 (Int32.toNatClampNeg v2) ((gj_max 0 ((gb_mul ((I 7 (Int32.toNatClampNeg v2))) v7))))))) else (ck 14 v2 <| hI (fX8_pair N [.int ((I 5 (Int32.toNatClampNeg v2))), .int v8] (gS [] I)) [] I fun x1 I1 => ck 14 v2 <| hI (fX8_pair N [.int ((I1 6 (Int32.toNatClampNeg v2))), .int v8] (gS [] I1)) [] I1 fun x2 I2 => hAl gyPS p4 0 x1 I2 fun x3 => if gz_le x3 = true then (hX3_weigh_149 N n50 v2 p4 v5 v6 v7 v8 I2) else (hAl gyPS p4 0 x1 I2 fun x4 => ck 100 x1 <| hAl gyPS p4 0 x2 I2 fun x5 => ck 100 x2 <| if gc_eq v6 (-1) = true then (hX3_weigh_141 N n50 v2 p4 v5 v8 ((gb_sub ((gb_sub ((gb_add x4 ((gb_mul v5 ((I2 12 (Int32.toNatClampNeg x1))))))) x5)) ((gb_mul v5 ((I2 12 (Int32.toNatClampNeg x2))))))) I2) else (if gc_le ((gb_sub ((gb_sub ((gb_add x4 ((gb_mul v5 ((I2 12 (Int32.toNatClampNeg x1))))))) x5)) ((gb_mul v5 ((I2 12 (Int32.toNatClampNeg x2))))))) v7 = true then (hX3_weigh_149 N n50 v2 p4 v5 v6 v7 v8 I2) else (hX3_weigh_141 N n50 v2 p4 v5 v8 ((gb_sub ((gb_sub ((gb_add x4 ((gb_mul v5 ((I2 12 (Int32.toNatClampNeg x1))))))) x5)) ((gb_mul v5 ((I2 12 (Int32.toNatClampNeg x2))))))) I2))))) := by
  show (fX3_weigh_b50 N (s_lp (fX3_weigh_b50 N) n50)) [some (.ref 0), none, some (.int v2), some (.ref 4), some (.ref p4), some (.int v5), some (.int v6), some (.int v7), some (.int v8), none, none, none] [] I = _
  unfold fX3_weigh_b50
  refine tt_iload rfl ?_
  refine tt_aload rfl ?_
  refine tt_get (x := (I 4 0)) rfl rfl rfl ?_
  refine tt_cmp ?_ ?_
  · skip
    refine tt_aload rfl ?_
    refine tt_getr (q := 1) rfl rfl ?_
    refine tt_iload rfl ?_
    refine tt_iload rfl ?_
    refine tt_ast (v := v6) rfl rfl ?_
    refine tt_aload rfl ?_
    refine tt_getr (q := 2) rfl rfl ?_
    refine tt_iload rfl ?_
    refine tt_const ?_
    refine tt_aload rfl ?_
    refine tt_getr (q := 7) rfl rfl ?_
    refine tt_iload rfl ?_
    refine tt_ald (x := (I 7 (Int32.toNatClampNeg v2))) rfl rfl ?_
    refine tt_iload rfl ?_
    refine tt_bin ?_
    refine tt_jmath (Nat.le_of_ble_eq_true rfl) ?_
    refine tt_ast (v := (gj_max 0 ((gb_mul ((I 7 (Int32.toNatClampNeg v2))) v7)))) rfl rfl ?_
    exact rfl
  · skip
    refine tt_aload rfl ?_
    refine tt_getr (q := 5) rfl rfl ?_
    refine tt_iload rfl ?_
    refine tt_ald (x := (I 5 (Int32.toNatClampNeg v2))) rfl rfl ?_
    refine tt_iload rfl ?_
    refine tt_caI (t := []) ⟨Nat.le_of_ble_eq_true rfl, Nat.le_of_ble_eq_true rfl⟩ rfl rfl rfl (fun x1 I1 => ?_)
    refine tt_istore (L2 := [some (.ref 0), none, some (.int v2), some (.ref 4), some (.ref p4), some (.int v5), some (.int v6), some (.int v7), some (.int v8), some (.int x1), none, none]) (tt_lt rfl) rfl ?_
    refine tt_aload rfl ?_
    refine tt_getr (q := 6) rfl rfl ?_
    refine tt_iload rfl ?_
    refine tt_ald (x := (I1 6 (Int32.toNatClampNeg v2))) rfl rfl ?_
    refine tt_iload rfl ?_
    refine tt_caI (t := []) ⟨Nat.le_of_ble_eq_true rfl, Nat.le_of_ble_eq_true rfl⟩ rfl rfl rfl (fun x2 I2 => ?_)
    refine tt_istore (L2 := [some (.ref 0), none, some (.int v2), some (.ref 4), some (.ref p4), some (.int v5), some (.int v6), some (.int v7), some (.int v8), some (.int x1), some (.int x2), none]) (tt_lt rfl) rfl ?_
    refine tt_aload rfl ?_
    refine tt_iload rfl ?_
    refine tt_al (fun x3 => ?_)
    refine tt_if ?_ ?_
    · skip
      refine tt_mask rfl ?_
      exact rfl
    · skip
      refine tt_aload rfl ?_
      refine tt_iload rfl ?_
      refine tt_al (fun x4 => ?_)
      refine tt_iload rfl ?_
      refine tt_aload rfl ?_
      refine tt_getr (q := 12) rfl rfl ?_
      refine tt_iload rfl ?_
      refine tt_ald (x := (I2 12 (Int32.toNatClampNeg x1))) rfl rfl ?_
      refine tt_bin ?_
      refine tt_bin ?_
      refine tt_aload rfl ?_
      refine tt_iload rfl ?_
      refine tt_al (fun x5 => ?_)
      refine tt_bin ?_
      refine tt_iload rfl ?_
      refine tt_aload rfl ?_
      refine tt_getr (q := 12) rfl rfl ?_
      refine tt_iload rfl ?_
      refine tt_ald (x := (I2 12 (Int32.toNatClampNeg x2))) rfl rfl ?_
      refine tt_bin ?_
      refine tt_bin ?_
      refine tt_istore (L2 := [some (.ref 0), none, some (.int v2), some (.ref 4), some (.ref p4), some (.int v5), some (.int v6), some (.int v7), some (.int v8), some (.int x1), some (.int x2), some (.int ((gb_sub ((gb_sub ((gb_add x4 ((gb_mul v5 ((I2 12 (Int32.toNatClampNeg x1))))))) x5)) ((gb_mul v5 ((I2 12 (Int32.toNatClampNeg x2))))))))]) (tt_lt rfl) rfl ?_
      refine tt_iload rfl ?_
      refine tt_const ?_
      refine tt_cmp ?_ ?_
      · skip
        refine tt_mask rfl ?_
        exact rfl
      · skip
        refine tt_iload rfl ?_
        refine tt_iload rfl ?_
        refine tt_cmp ?_ ?_
        · skip
          refine tt_mask rfl ?_
          exact rfl
        · skip
          refine tt_mask rfl ?_
          exact rfl
theorem eX3_weigh_50z (N : Nat) (v2 : Int32) (p4 : Nat) (v5 : Int32) (v6 : Int32) (v7 : Int32) (v8 : Int32) (I : gM) : hX3_weigh_50 N 0 v2 p4 v5 v6 v7 v8 I = none := (rfl)
set_option maxRecDepth 100000 in
theorem eX3_weigh_149 (N : Nat) (n50 : Nat) (v2 : Int32) (p4 : Nat) (v5 : Int32) (v6 : Int32) (v7 : Int32) (v8 : Int32) (I : gM) : hX3_weigh_149 N n50 v2 p4 v5 v6 v7 v8 I =
  (hX3_weigh_50 N n50 v2 p4 v5 v6 v7 (v8 + 1) I) := by
  show (fX3_weigh_k149 N (s_lp (fX3_weigh_b50 N) n50)) [some (.ref 0), none, some (.int v2), some (.ref 4), some (.ref p4), some (.int v5), some (.int v6), some (.int v7), some (.int v8), none, none, none] [] I = _
  unfold fX3_weigh_k149
  refine tt_iinc (L2 := [some (.ref 0), none, some (.int v2), some (.ref 4), some (.ref p4), some (.int v5), some (.int v6), some (.int v7), some (.int (v8 + 1)), none, none, none]) rfl rfl ?_
  refine tt_mask rfl ?_
  exact rfl
set_option maxRecDepth 100000 in
theorem eX3_weigh_141 (N : Nat) (n50 : Nat) (v2 : Int32) (p4 : Nat) (v5 : Int32) (v8 : Int32) (v11 : Int32) (I : gM) : hX3_weigh_141 N n50 v2 p4 v5 v8 v11 I =
  (hX3_weigh_149 N n50 v2 p4 v5 v8 v11 v8 I) := by
  show (fX3_weigh_k141 N (s_lp (fX3_weigh_b50 N) n50)) [some (.ref 0), none, some (.int v2), some (.ref 4), some (.ref p4), some (.int v5), none, none, some (.int v8), none, none, some (.int v11)] [] I = _
  unfold fX3_weigh_k141
  refine tt_iload rfl ?_
  refine tt_istore (L2 := [some (.ref 0), none, some (.int v2), some (.ref 4), some (.ref p4), some (.int v5), some (.int v8), none, some (.int v8), none, none, some (.int v11)]) (tt_lt rfl) rfl ?_
  refine tt_iload rfl ?_
  refine tt_istore (L2 := [some (.ref 0), none, some (.int v2), some (.ref 4), some (.ref p4), some (.int v5), some (.int v8), some (.int v11), some (.int v8), none, none, some (.int v11)]) (tt_lt rfl) rfl ?_
  refine tt_mask rfl ?_
  exact rfl
set_option maxRecDepth 100000 in
theorem eX3_weigh (N : Nat) (v2 : Int32) (I : gM) : fX3_weigh N [.ref 0, .ref 3, .int v2] I = hX3_weigh_0 N v2 I := by
  show gFn 12 (fX3_weigh_k0 N) [.ref 0, .ref 3, .int v2] I = (fX3_weigh_k0 N) [some (.ref 0), some (.ref 3), some (.int v2), none, none, none, none, none, none, none, none, none] [] I
  exact tt_fn rfl rfl

def hX3_greediest_0 (N : Nat) (v1 : Int32) (I : gM) : gO := fX3_greediest_k0 N [some (.ref 0), some (.int v1), some (.ref 3), none, none, none, none, none] [] I
def hX3_greediest_8 (N : Nat) (n8 : Nat) (v3 : Int32) (v4 : Int32) (v5 : Int32) (I : gM) : gO := s_lp (fX3_greediest_b8 N) n8 [some (.ref 0), none, some (.ref 3), some (.int v3), some (.int v4), some (.int v5), none, none] [] I
def hX3_greediest_26 (N : Nat) (n8 : Nat) (n26 : Nat) (v3 : Int32) (v4 : Int32) (v5 : Int32) (v6 : Int32) (v7 : Int32) (I : gM) : gO := s_lp (fX3_greediest_b26 N (s_lp (fX3_greediest_b8 N) n8)) n26 [some (.ref 0), none, some (.ref 3), some (.int v3), some (.int v4), some (.int v5), some (.int v6), some (.int v7)] [] I
def hX3_greediest_111 (N : Nat) (n8 : Nat) (v3 : Int32) (v4 : Int32) (v5 : Int32) (I : gM) : gO := fX3_greediest_k111 N (s_lp (fX3_greediest_b8 N) n8) [some (.ref 0), none, some (.ref 3), some (.int v3), some (.int v4), some (.int v5), none, none] [] I
def hX3_greediest_73 (N : Nat) (n8 : Nat) (n26 : Nat) (v3 : Int32) (v4 : Int32) (v5 : Int32) (v6 : Int32) (v7 : Int32) (I : gM) : gO := fX3_greediest_k73 N (s_lp (fX3_greediest_b8 N) n8) (s_lp (fX3_greediest_b26 N (s_lp (fX3_greediest_b8 N) n8)) n26) [some (.ref 0), none, some (.ref 3), some (.int v3), some (.int v4), some (.int v5), some (.int v6), some (.int v7)] [] I
def hX3_greediest_69 (N : Nat) (n8 : Nat) (n26 : Nat) (v3 : Int32) (v4 : Int32) (v5 : Int32) (v7 : Int32) (I : gM) : gO := fX3_greediest_k69 N (s_lp (fX3_greediest_b8 N) n8) (s_lp (fX3_greediest_b26 N (s_lp (fX3_greediest_b8 N) n8)) n26) [some (.ref 0), none, some (.ref 3), some (.int v3), some (.int v4), some (.int v5), none, some (.int v7)] [] I
set_option maxRecDepth 100000 in
theorem eX3_greediest_0 (N : Nat) (v1 : Int32) (I : gM) : hX3_greediest_0 N v1 I =
  (hX3_greediest_8 N N 0 v1 0 I) := by
  show (fX3_greediest_k0 N) [some (.ref 0), some (.int v1), some (.ref 3), none, none, none, none, none] [] I = _
  unfold fX3_greediest_k0
  refine tt_const ?_
  refine tt_istore (L2 := [some (.ref 0), some (.int v1), some (.ref 3), some (.int 0), none, none, none, none]) (tt_lt rfl) rfl ?_
  refine tt_iload rfl ?_
  refine tt_istore (L2 := [some (.ref 0), some (.int v1), some (.ref 3), some (.int 0), some (.int v1), none, none, none]) (tt_lt rfl) rfl ?_
  refine tt_const ?_
  refine tt_istore (L2 := [some (.ref 0), some (.int v1), some (.ref 3), some (.int 0), some (.int v1), some (.int 0), none, none]) (tt_lt rfl) rfl ?_
  refine tt_mask rfl ?_
  exact rfl
set_option maxRecDepth 100000 in
theorem eX3_greediest_8 (N : Nat) (n8 : Nat) (v3 : Int32) (v4 : Int32) (v5 : Int32) (I : gM) : hX3_greediest_8 N (n8 + 1) v3 v4 v5 I =
  (if gc_ge v5 14 = true then (some (.inl (some (.int v3)), I)) else (if gz_eq v4 = true then (some (.inl (some (.int v3)), I)) else (hX3_greediest_26 N n8 N v3 v4 v5 (-1) 0 I))) := by
  show (fX3_greediest_b8 N (s_lp (fX3_greediest_b8 N) n8)) [some (.ref 0), none, some (.ref 3), some (.int v3), some (.int v4), some (.int v5), none, none] [] I = _
  unfold fX3_greediest_b8
  refine tt_iload rfl ?_
  refine tt_const ?_
  refine tt_cmp ?_ ?_
  · skip
    refine tt_iload rfl ?_
    exact rfl
  · skip
    refine tt_iload rfl ?_
    refine tt_if ?_ ?_
    · skip
      refine tt_iload rfl ?_
      exact rfl
    · skip
      refine tt_const ?_
      refine tt_istore (L2 := [some (.ref 0), none, some (.ref 3), some (.int v3), some (.int v4), some (.int v5), some (.int (-1)), none]) (tt_lt rfl) rfl ?_
      refine tt_const ?_
      refine tt_istore (L2 := [some (.ref 0), none, some (.ref 3), some (.int v3), some (.int v4), some (.int v5), some (.int (-1)), some (.int 0)]) (tt_lt rfl) rfl ?_
      refine tt_mask rfl ?_
      exact rfl
theorem eX3_greediest_8z (N : Nat) (v3 : Int32) (v4 : Int32) (v5 : Int32) (I : gM) : hX3_greediest_8 N 0 v3 v4 v5 I = none := (rfl)
set_option maxRecDepth 100000 in
theorem eX3_greediest_26 (N : Nat) (n8 : Nat) (n26 : Nat) (v3 : Int32) (v4 : Int32) (v5 : Int32) (v6 : Int32) (v7 : Int32) (I : gM) : hX3_greediest_26 N n8 (n26 + 1) v3 v4 v5 v6 v7 I =
  (if gc_ge v7 (I 3 1) = true then (if gc_eq v6 (-1) = true then (hX3_greediest_111 N n8 v3 v4 v5 I) else (ck 14 v6 <| hX3_greediest_111 N n8 ((gb_or v3 (gb_shl 1 v6))) ((gb_and v4 ((gb_xor ((gb_or (gb_shl 1 v6) ((I 8 (Int32.toNatClampNeg v6))))) (-1))))) v5 I)) else (if gc_ne ((gb_and (gb_shr v4 v7) 1)) 1 = true then (hX3_greediest_73 N n8 n26 v3 v4 v5 v6 v7 I) else (if gc_eq v6 (-1) = true then (hX3_greediest_69 N n8 n26 v3 v4 v5 v7 I) else (ck 14 v7 <| ck 14 v6 <| if gc_le ((I 2 (Int32.toNatClampNeg v7))) ((I 2 (Int32.toNatClampNeg v6))) = true then (hX3_greediest_73 N n8 n26 v3 v4 v5 v6 v7 I) else (hX3_greediest_69 N n8 n26 v3 v4 v5 v7 I))))) := by
  show (fX3_greediest_b26 N (s_lp (fX3_greediest_b8 N) n8) (s_lp (fX3_greediest_b26 N (s_lp (fX3_greediest_b8 N) n8)) n26)) [some (.ref 0), none, some (.ref 3), some (.int v3), some (.int v4), some (.int v5), some (.int v6), some (.int v7)] [] I = _
  unfold fX3_greediest_b26
  refine tt_iload rfl ?_
  refine tt_aload rfl ?_
  refine tt_get (x := (I 3 1)) rfl rfl rfl ?_
  refine tt_cmp ?_ ?_
  · skip
    refine tt_iload rfl ?_
    refine tt_const ?_
    refine tt_cmp ?_ ?_
    · skip
      refine tt_mask rfl ?_
      exact rfl
    · skip
      refine tt_iload rfl ?_
      refine tt_const ?_
      refine tt_iload rfl ?_
      refine tt_bin ?_
      refine tt_bin ?_
      refine tt_istore (L2 := [some (.ref 0), none, some (.ref 3), some (.int ((gb_or v3 (gb_shl 1 v6)))), some (.int v4), some (.int v5), some (.int v6), some (.int v7)]) (tt_lt rfl) rfl ?_
      refine tt_iload rfl ?_
      refine tt_const ?_
      refine tt_iload rfl ?_
      refine tt_bin ?_
      refine tt_aload rfl ?_
      refine tt_getr (q := 8) rfl rfl ?_
      refine tt_iload rfl ?_
      refine tt_ald (x := (I 8 (Int32.toNatClampNeg v6))) rfl rfl ?_
      refine tt_bin ?_
      refine tt_const ?_
      refine tt_bin ?_
      refine tt_bin ?_
      refine tt_istore (L2 := [some (.ref 0), none, some (.ref 3), some (.int ((gb_or v3 (gb_shl 1 v6)))), some (.int ((gb_and v4 ((gb_xor ((gb_or (gb_shl 1 v6) ((I 8 (Int32.toNatClampNeg v6))))) (-1)))))), some (.int v5), some (.int v6), some (.int v7)]) (tt_lt rfl) rfl ?_
      refine tt_mask rfl ?_
      exact rfl
  · skip
    refine tt_iload rfl ?_
    refine tt_iload rfl ?_
    refine tt_bin ?_
    refine tt_const ?_
    refine tt_bin ?_
    refine tt_const ?_
    refine tt_cmp ?_ ?_
    · skip
      refine tt_mask rfl ?_
      exact rfl
    · skip
      refine tt_iload rfl ?_
      refine tt_const ?_
      refine tt_cmp ?_ ?_
      · skip
        refine tt_mask rfl ?_
        exact rfl
      · skip
        refine tt_aload rfl ?_
        refine tt_getr (q := 2) rfl rfl ?_
        refine tt_iload rfl ?_
        refine tt_ald (x := (I 2 (Int32.toNatClampNeg v7))) rfl rfl ?_
        refine tt_aload rfl ?_
        refine tt_getr (q := 2) rfl rfl ?_
        refine tt_iload rfl ?_
        refine tt_ald (x := (I 2 (Int32.toNatClampNeg v6))) rfl rfl ?_
        refine tt_cmp ?_ ?_
        · skip
          refine tt_mask rfl ?_
          exact rfl
        · skip
          refine tt_mask rfl ?_
          exact rfl
theorem eX3_greediest_26z (N : Nat) (n8 : Nat) (v3 : Int32) (v4 : Int32) (v5 : Int32) (v6 : Int32) (v7 : Int32) (I : gM) : hX3_greediest_26 N n8 0 v3 v4 v5 v6 v7 I = none := (rfl)
set_option maxRecDepth 100000 in
theorem eX3_greediest_111 (N : Nat) (n8 : Nat) (v3 : Int32) (v4 : Int32) (v5 : Int32) (I : gM) : hX3_greediest_111 N n8 v3 v4 v5 I =
  (hX3_greediest_8 N n8 v3 v4 (v5 + 1) I) := by
  show (fX3_greediest_k111 N (s_lp (fX3_greediest_b8 N) n8)) [some (.ref 0), none, some (.ref 3), some (.int v3), some (.int v4), some (.int v5), none, none] [] I = _
  unfold fX3_greediest_k111
  refine tt_iinc (L2 := [some (.ref 0), none, some (.ref 3), some (.int v3), some (.int v4), some (.int (v5 + 1)), none, none]) rfl rfl ?_
  refine tt_mask rfl ?_
  exact rfl
set_option maxRecDepth 100000 in
theorem eX3_greediest_73 (N : Nat) (n8 : Nat) (n26 : Nat) (v3 : Int32) (v4 : Int32) (v5 : Int32) (v6 : Int32) (v7 : Int32) (I : gM) : hX3_greediest_73 N n8 n26 v3 v4 v5 v6 v7 I =
  (hX3_greediest_26 N n8 n26 v3 v4 v5 v6 (v7 + 1) I) := by
  show (fX3_greediest_k73 N (s_lp (fX3_greediest_b8 N) n8) (s_lp (fX3_greediest_b26 N (s_lp (fX3_greediest_b8 N) n8)) n26)) [some (.ref 0), none, some (.ref 3), some (.int v3), some (.int v4), some (.int v5), some (.int v6), some (.int v7)] [] I = _
  unfold fX3_greediest_k73
  refine tt_iinc (L2 := [some (.ref 0), none, some (.ref 3), some (.int v3), some (.int v4), some (.int v5), some (.int v6), some (.int (v7 + 1))]) rfl rfl ?_
  refine tt_mask rfl ?_
  exact rfl
set_option maxRecDepth 100000 in
theorem eX3_greediest_69 (N : Nat) (n8 : Nat) (n26 : Nat) (v3 : Int32) (v4 : Int32) (v5 : Int32) (v7 : Int32) (I : gM) : hX3_greediest_69 N n8 n26 v3 v4 v5 v7 I =
  (hX3_greediest_73 N n8 n26 v3 v4 v5 v7 v7 I) := by
  show (fX3_greediest_k69 N (s_lp (fX3_greediest_b8 N) n8) (s_lp (fX3_greediest_b26 N (s_lp (fX3_greediest_b8 N) n8)) n26)) [some (.ref 0), none, some (.ref 3), some (.int v3), some (.int v4), some (.int v5), none, some (.int v7)] [] I = _
  unfold fX3_greediest_k69
  refine tt_iload rfl ?_
  refine tt_istore (L2 := [some (.ref 0), none, some (.ref 3), some (.int v3), some (.int v4), some (.int v5), some (.int v7), some (.int v7)]) (tt_lt rfl) rfl ?_
  refine tt_mask rfl ?_
  exact rfl
set_option maxRecDepth 100000 in
theorem eX3_greediest (N : Nat) (v1 : Int32) (I : gM) : fX3_greediest N [.ref 0, .int v1, .ref 3] I = hX3_greediest_0 N v1 I := by
  show gFn 8 (fX3_greediest_k0 N) [.ref 0, .int v1, .ref 3] I = (fX3_greediest_k0 N) [some (.ref 0), some (.int v1), some (.ref 3), none, none, none, none, none] [] I
  exact tt_fn rfl rfl

def hX3_countCarried_0 (N : Nat) (v2 : Int32) (v3 : Int32) (I : gM) : gO := fX3_countCarried_k0 N [some (.ref 0), some (.ref 3), some (.int v2), some (.int v3), none, none, none] [] I
def hX3_countCarried_45 (N : Nat) (n45 : Nat) (v2 : Int32) (v3 : Int32) (v5 : Int32) (v6 : Int32) (I : gM) : gO := s_lp (fX3_countCarried_b45 N) n45 [some (.ref 0), none, some (.int v2), some (.int v3), some (.ref 4), some (.int v5), some (.int v6)] [] I
def hX3_countCarried_112 (N : Nat) (n45 : Nat) (v2 : Int32) (v3 : Int32) (v5 : Int32) (v6 : Int32) (I : gM) : gO := fX3_countCarried_k112 N (s_lp (fX3_countCarried_b45 N) n45) [some (.ref 0), none, some (.int v2), some (.int v3), some (.ref 4), some (.int v5), some (.int v6)] [] I
set_option maxRecDepth 100000 in
theorem eX3_countCarried_0 (N : Nat) (v2 : Int32) (v3 : Int32) (I : gM) : hX3_countCarried_0 N v2 v3 I =
  (if gz_ne ((gb_and (gb_shr v2 v3) 1)) = true then (ck 14 v3 <| ck 14 v3 <| hI (fX8_pair N [.int ((I 5 (Int32.toNatClampNeg v3))), .int ((I 1 (Int32.toNatClampNeg v3)))] (gS [] I)) [] I fun x1 I1 => ck 100 x1 <| hX3_countCarried_45 N N v2 v3 ((I1 16 (Int32.toNatClampNeg x1))) 0 I1) else (some (.inl (some (.int 0)), I))) := by
  show (fX3_countCarried_k0 N) [some (.ref 0), some (.ref 3), some (.int v2), some (.int v3), none, none, none] [] I = _
  unfold fX3_countCarried_k0
  refine tt_iload rfl ?_
  refine tt_iload rfl ?_
  refine tt_bin ?_
  refine tt_const ?_
  refine tt_bin ?_
  refine tt_if ?_ ?_
  · skip
    refine tt_aload rfl ?_
    refine tt_getr (q := 4) rfl rfl ?_
    refine tt_astore (L2 := [some (.ref 0), some (.ref 3), some (.int v2), some (.int v3), some (.ref 4), none, none]) (tt_lt rfl) rfl ?_
    refine tt_aload rfl ?_
    refine tt_getr (q := 13) rfl rfl ?_
    refine tt_getr (q := 16) rfl rfl ?_
    refine tt_aload rfl ?_
    refine tt_getr (q := 5) rfl rfl ?_
    refine tt_iload rfl ?_
    refine tt_ald (x := (I 5 (Int32.toNatClampNeg v3))) rfl rfl ?_
    refine tt_aload rfl ?_
    refine tt_getr (q := 1) rfl rfl ?_
    refine tt_iload rfl ?_
    refine tt_ald (x := (I 1 (Int32.toNatClampNeg v3))) rfl rfl ?_
    refine tt_caI (t := [.ref 16]) ⟨Nat.le_of_ble_eq_true rfl, Nat.le_of_ble_eq_true rfl⟩ rfl rfl rfl (fun x1 I1 => ?_)
    refine tt_ald (x := (I1 16 (Int32.toNatClampNeg x1))) rfl rfl ?_
    refine tt_istore (L2 := [some (.ref 0), some (.ref 3), some (.int v2), some (.int v3), some (.ref 4), some (.int ((I1 16 (Int32.toNatClampNeg x1)))), none]) (tt_lt rfl) rfl ?_
    refine tt_const ?_
    refine tt_istore (L2 := [some (.ref 0), some (.ref 3), some (.int v2), some (.int v3), some (.ref 4), some (.int ((I1 16 (Int32.toNatClampNeg x1)))), some (.int 0)]) (tt_lt rfl) rfl ?_
    refine tt_mask rfl ?_
    exact rfl
  · skip
    refine tt_const ?_
    exact rfl
set_option maxRecDepth 100000 in
theorem eX3_countCarried_45 (N : Nat) (n45 : Nat) (v2 : Int32) (v3 : Int32) (v5 : Int32) (v6 : Int32) (I : gM) : hX3_countCarried_45 N (n45 + 1) v2 v3 v5 v6 I =
  (if gc_ge v6 v3 = true then (ck 14 v3 <| some (.inl (some (.int ((gj_min v5 ((I 7 (Int32.toNatClampNeg v3))))))), I)) else (if gc_ne ((gb_and (gb_shr v2 v6) 1)) 1 = true then (hX3_countCarried_112 N n45 v2 v3 v5 v6 I) else (ck 14 v6 <| ck 14 v3 <| if gc_ne ((I 5 (Int32.toNatClampNeg v6))) ((I 5 (Int32.toNatClampNeg v3))) = true then (hX3_countCarried_112 N n45 v2 v3 v5 v6 I) else (ck 14 v6 <| ck 14 v3 <| if gc_ne ((I 1 (Int32.toNatClampNeg v6))) ((I 1 (Int32.toNatClampNeg v3))) = true then (hX3_countCarried_112 N n45 v2 v3 v5 v6 I) else (ck 14 v6 <| hX3_countCarried_112 N n45 v2 v3 ((gj_max 0 ((gb_sub v5 ((I 7 (Int32.toNatClampNeg v6))))))) v6 I))))) := by
  show (fX3_countCarried_b45 N (s_lp (fX3_countCarried_b45 N) n45)) [some (.ref 0), none, some (.int v2), some (.int v3), some (.ref 4), some (.int v5), some (.int v6)] [] I = _
  unfold fX3_countCarried_b45
  refine tt_iload rfl ?_
  refine tt_iload rfl ?_
  refine tt_cmp ?_ ?_
  · skip
    refine tt_iload rfl ?_
    refine tt_aload rfl ?_
    refine tt_getr (q := 7) rfl rfl ?_
    refine tt_iload rfl ?_
    refine tt_ald (x := (I 7 (Int32.toNatClampNeg v3))) rfl rfl ?_
    refine tt_jmath (Nat.le_of_ble_eq_true rfl) ?_
    exact rfl
  · skip
    refine tt_iload rfl ?_
    refine tt_iload rfl ?_
    refine tt_bin ?_
    refine tt_const ?_
    refine tt_bin ?_
    refine tt_const ?_
    refine tt_cmp ?_ ?_
    · skip
      refine tt_mask rfl ?_
      exact rfl
    · skip
      refine tt_aload rfl ?_
      refine tt_getr (q := 5) rfl rfl ?_
      refine tt_iload rfl ?_
      refine tt_ald (x := (I 5 (Int32.toNatClampNeg v6))) rfl rfl ?_
      refine tt_aload rfl ?_
      refine tt_getr (q := 5) rfl rfl ?_
      refine tt_iload rfl ?_
      refine tt_ald (x := (I 5 (Int32.toNatClampNeg v3))) rfl rfl ?_
      refine tt_cmp ?_ ?_
      · skip
        refine tt_mask rfl ?_
        exact rfl
      · skip
        refine tt_aload rfl ?_
        refine tt_getr (q := 1) rfl rfl ?_
        refine tt_iload rfl ?_
        refine tt_ald (x := (I 1 (Int32.toNatClampNeg v6))) rfl rfl ?_
        refine tt_aload rfl ?_
        refine tt_getr (q := 1) rfl rfl ?_
        refine tt_iload rfl ?_
        refine tt_ald (x := (I 1 (Int32.toNatClampNeg v3))) rfl rfl ?_
        refine tt_cmp ?_ ?_
        · skip
          refine tt_mask rfl ?_
          exact rfl
        · skip
          refine tt_const ?_
          refine tt_iload rfl ?_
          refine tt_aload rfl ?_
          refine tt_getr (q := 7) rfl rfl ?_
          refine tt_iload rfl ?_
          refine tt_ald (x := (I 7 (Int32.toNatClampNeg v6))) rfl rfl ?_
          refine tt_bin ?_
          refine tt_jmath (Nat.le_of_ble_eq_true rfl) ?_
          refine tt_istore (L2 := [some (.ref 0), none, some (.int v2), some (.int v3), some (.ref 4), some (.int ((gj_max 0 ((gb_sub v5 ((I 7 (Int32.toNatClampNeg v6)))))))), some (.int v6)]) (tt_lt rfl) rfl ?_
          refine tt_mask rfl ?_
          exact rfl
theorem eX3_countCarried_45z (N : Nat) (v2 : Int32) (v3 : Int32) (v5 : Int32) (v6 : Int32) (I : gM) : hX3_countCarried_45 N 0 v2 v3 v5 v6 I = none := (rfl)
set_option maxRecDepth 100000 in
theorem eX3_countCarried_112 (N : Nat) (n45 : Nat) (v2 : Int32) (v3 : Int32) (v5 : Int32) (v6 : Int32) (I : gM) : hX3_countCarried_112 N n45 v2 v3 v5 v6 I =
  (hX3_countCarried_45 N n45 v2 v3 v5 (v6 + 1) I) := by
  show (fX3_countCarried_k112 N (s_lp (fX3_countCarried_b45 N) n45)) [some (.ref 0), none, some (.int v2), some (.int v3), some (.ref 4), some (.int v5), some (.int v6)] [] I = _
  unfold fX3_countCarried_k112
  refine tt_iinc (L2 := [some (.ref 0), none, some (.int v2), some (.int v3), some (.ref 4), some (.int v5), some (.int (v6 + 1))]) rfl rfl ?_
  refine tt_mask rfl ?_
  exact rfl
set_option maxRecDepth 100000 in
theorem eX3_countCarried (N : Nat) (v2 : Int32) (v3 : Int32) (I : gM) : fX3_countCarried N [.ref 0, .ref 3, .int v2, .int v3] I = hX3_countCarried_0 N v2 v3 I := by
  show gFn 7 (fX3_countCarried_k0 N) [.ref 0, .ref 3, .int v2, .int v3] I = (fX3_countCarried_k0 N) [some (.ref 0), some (.ref 3), some (.int v2), some (.int v3), none, none, none] [] I
  exact tt_fn rfl rfl

