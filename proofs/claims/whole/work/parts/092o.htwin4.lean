def hX9_maxFlow_0 (N : Nat) (v1 : Int32) (v2 : Int32) (I : gM) : gO := fX9_maxFlow_k0 N [some (.ref 0), some (.int v1), some (.int v2)] [] I
def hX9_maxFlow_37 (N : Nat) (I : gM) : gO := fX9_maxFlow_k37 N [none, none, none] [] I
def hX9_maxFlow_30 (N : Nat) (v1 : Int32) (v2 : Int32) (s1 : Int32) (I : gM) : gO := fX9_maxFlow_k30 N [some (.ref 0), some (.int v1), some (.int v2)] [.int s1, .ref 0] I
set_option maxRecDepth 100000 in
theorem eX9_maxFlow_0 (N : Nat) (v1 : Int32) (v2 : Int32) (I : gM) : hX9_maxFlow_0 N v1 v2 I =
  (hI (fX9_areNodes N [.ref 0, .int v1, .int v2] (gS (rg 0 18) (gU I 0 0 0))) (rg 0 18) (gU I 0 0 0) fun x1 I1 => hI (fX9_fails N [.ref 0, .int x1, .int 1] (gS (rg 0 18) I1)) (rg 0 18) I1 fun x2 I2 => if gz_ne x2 = true then (hX9_maxFlow_37 N I2) else (if gc_eq v1 v2 = true then (hX9_maxFlow_30 N v1 v2 0 I2) else (hX9_maxFlow_30 N v1 v2 1 I2))) := by
  show (fX9_maxFlow_k0 N) [some (.ref 0), some (.int v1), some (.int v2)] [] I = _
  unfold fX9_maxFlow_k0
  refine tt_aload rfl ?_
  refine tt_const ?_
  refine tt_put rfl rfl ?_
  refine tt_aload rfl ?_
  refine tt_aload rfl ?_
  refine tt_iload rfl ?_
  refine tt_iload rfl ?_
  refine tt_cavI (t := [.ref 0]) ⟨Nat.le_of_ble_eq_true rfl, Nat.le_of_ble_eq_true rfl⟩ rfl rfl rfl (fun x1 I1 => ?_)
  refine tt_const ?_
  refine tt_cavI (t := []) ⟨Nat.le_of_ble_eq_true rfl, Nat.le_of_ble_eq_true rfl⟩ rfl rfl rfl (fun x2 I2 => ?_)
  refine tt_if ?_ ?_
  · skip
    refine tt_mask rfl ?_
    exact rfl
  · skip
    refine tt_aload rfl ?_
    refine tt_iload rfl ?_
    refine tt_iload rfl ?_
    refine tt_cmp ?_ ?_
    · skip
      refine tt_const ?_
      refine tt_mask rfl ?_
      exact rfl
    · skip
      refine tt_const ?_
      refine tt_mask rfl ?_
      exact rfl
set_option maxRecDepth 100000 in
theorem eX9_maxFlow_37 (N : Nat) (I : gM) : hX9_maxFlow_37 N I =
  (some (.inl (some (.int 0)), I)) := by
  show (fX9_maxFlow_k37 N) [none, none, none] [] I = _
  unfold fX9_maxFlow_k37
  refine tt_const ?_
  exact rfl
set_option maxRecDepth 100000 in
theorem eX9_maxFlow_30 (N : Nat) (v1 : Int32) (v2 : Int32) (s1 : Int32) (I : gM) : hX9_maxFlow_30 N v1 v2 s1 I =
  (hI (fX9_fails N [.ref 0, .int s1, .int 2] (gS (rg 0 18) I)) (rg 0 18) I fun x3 I3 => if gz_eq x3 = true then (hI (fX9_greatestFlow N [.ref 0, .int v1, .int v2] (gS (rg 0 18) I3)) (rg 0 18) I3 fun x4 I4 => some (.inl (some (.int x4)), I4)) else (hX9_maxFlow_37 N I3)) := by
  show (fX9_maxFlow_k30 N) [some (.ref 0), some (.int v1), some (.int v2)] [.int s1, .ref 0] I = _
  unfold fX9_maxFlow_k30
  refine tt_const ?_
  refine tt_cavI (t := []) ⟨Nat.le_of_ble_eq_true rfl, Nat.le_of_ble_eq_true rfl⟩ rfl rfl rfl (fun x3 I3 => ?_)
  refine tt_if ?_ ?_
  · skip
    refine tt_aload rfl ?_
    refine tt_iload rfl ?_
    refine tt_iload rfl ?_
    refine tt_cavI (t := []) ⟨Nat.le_of_ble_eq_true rfl, Nat.le_of_ble_eq_true rfl⟩ rfl rfl rfl (fun x4 I4 => ?_)
    exact rfl
  · skip
    refine tt_mask rfl ?_
    exact rfl
set_option maxRecDepth 100000 in
theorem eX9_maxFlow (N : Nat) (v1 : Int32) (v2 : Int32) (I : gM) : fX9_maxFlow N [.ref 0, .int v1, .int v2] I = hX9_maxFlow_0 N v1 v2 I := by
  show gFn 3 (fX9_maxFlow_k0 N) [.ref 0, .int v1, .int v2] I = (fX9_maxFlow_k0 N) [some (.ref 0), some (.int v1), some (.int v2)] [] I
  exact tt_fn rfl rfl

def hX9_cutSide_0 (N : Nat) (v1 : Int32) (v2 : Int32) (I : gM) : gO := fX9_cutSide_k0 N [some (.ref 0), some (.int v1), some (.int v2), none] [] I
def hX9_cutSide_30 (N : Nat) (v1 : Int32) (v2 : Int32) (s1 : Int32) (I : gM) : gO := fX9_cutSide_k30 N [some (.ref 0), some (.int v1), some (.int v2), none] [.int s1, .ref 0] I
set_option maxRecDepth 100000 in
theorem eX9_cutSide_0 (N : Nat) (v1 : Int32) (v2 : Int32) (I : gM) : hX9_cutSide_0 N v1 v2 I =
  (hI (fX9_areNodes N [.ref 0, .int v1, .int v2] (gS (rg 0 18) (gU I 0 0 0))) (rg 0 18) (gU I 0 0 0) fun x1 I1 => hI (fX9_fails N [.ref 0, .int x1, .int 1] (gS (rg 0 18) I1)) (rg 0 18) I1 fun x2 I2 => if gz_ne x2 = true then (some (.inl (some (.int 0)), I2)) else (if gc_eq v1 v2 = true then (hX9_cutSide_30 N v1 v2 0 I2) else (hX9_cutSide_30 N v1 v2 1 I2))) := by
  show (fX9_cutSide_k0 N) [some (.ref 0), some (.int v1), some (.int v2), none] [] I = _
  unfold fX9_cutSide_k0
  refine tt_aload rfl ?_
  refine tt_const ?_
  refine tt_put rfl rfl ?_
  refine tt_aload rfl ?_
  refine tt_aload rfl ?_
  refine tt_iload rfl ?_
  refine tt_iload rfl ?_
  refine tt_cavI (t := [.ref 0]) ⟨Nat.le_of_ble_eq_true rfl, Nat.le_of_ble_eq_true rfl⟩ rfl rfl rfl (fun x1 I1 => ?_)
  refine tt_const ?_
  refine tt_cavI (t := []) ⟨Nat.le_of_ble_eq_true rfl, Nat.le_of_ble_eq_true rfl⟩ rfl rfl rfl (fun x2 I2 => ?_)
  refine tt_if ?_ ?_
  · skip
    refine tt_const ?_
    exact rfl
  · skip
    refine tt_aload rfl ?_
    refine tt_iload rfl ?_
    refine tt_iload rfl ?_
    refine tt_cmp ?_ ?_
    · skip
      refine tt_const ?_
      refine tt_mask rfl ?_
      exact rfl
    · skip
      refine tt_const ?_
      refine tt_mask rfl ?_
      exact rfl
set_option maxRecDepth 100000 in
theorem eX9_cutSide_30 (N : Nat) (v1 : Int32) (v2 : Int32) (s1 : Int32) (I : gM) : hX9_cutSide_30 N v1 v2 s1 I =
  (hI (fX9_fails N [.ref 0, .int s1, .int 2] (gS (rg 0 18) I)) (rg 0 18) I fun x3 I3 => if gz_eq x3 = true then (hI (fX9_greatestFlow N [.ref 0, .int v1, .int v2] (gS (rg 0 18) I3)) (rg 0 18) I3 fun x4 I4 => some (.inl (some (.int (I4 0 30))), I4)) else (some (.inl (some (.int 0)), I3))) := by
  show (fX9_cutSide_k30 N) [some (.ref 0), some (.int v1), some (.int v2), none] [.int s1, .ref 0] I = _
  unfold fX9_cutSide_k30
  refine tt_const ?_
  refine tt_cavI (t := []) ⟨Nat.le_of_ble_eq_true rfl, Nat.le_of_ble_eq_true rfl⟩ rfl rfl rfl (fun x3 I3 => ?_)
  refine tt_if ?_ ?_
  · skip
    refine tt_aload rfl ?_
    refine tt_iload rfl ?_
    refine tt_iload rfl ?_
    refine tt_cavI (t := []) ⟨Nat.le_of_ble_eq_true rfl, Nat.le_of_ble_eq_true rfl⟩ rfl rfl rfl (fun x4 I4 => ?_)
    refine tt_istore (L2 := [some (.ref 0), some (.int v1), some (.int v2), some (.int x4)]) (tt_lt rfl) rfl ?_
    refine tt_aload rfl ?_
    refine tt_get (x := (I4 0 30)) rfl rfl rfl ?_
    exact rfl
  · skip
    refine tt_const ?_
    exact rfl
set_option maxRecDepth 100000 in
theorem eX9_cutSide (N : Nat) (v1 : Int32) (v2 : Int32) (I : gM) : fX9_cutSide N [.ref 0, .int v1, .int v2] I = hX9_cutSide_0 N v1 v2 I := by
  show gFn 4 (fX9_cutSide_k0 N) [.ref 0, .int v1, .int v2] I = (fX9_cutSide_k0 N) [some (.ref 0), some (.int v1), some (.int v2), none] [] I
  exact tt_fn rfl rfl

def hX9_overloaded_0 (N : Nat) (I : gM) : gO := fX9_overloaded_k0 N [some (.ref 0), none, none] [] I
def hX9_overloaded_9 (N : Nat) (n9 : Nat) (v1 : Int32) (v2 : Int32) (I : gM) : gO := s_lp (fX9_overloaded_b9 N) n9 [some (.ref 0), some (.int v1), some (.int v2)] [] I
def hX9_overloaded_41 (N : Nat) (n9 : Nat) (v2 : Int32) (s0 : Int32) (s1 : Int32) (s2 : Int32) (s4 : Int32) (s5 : Int32) (I : gM) : gO := fX9_overloaded_k41 N (s_lp (fX9_overloaded_b9 N) n9) [some (.ref 0), none, some (.int v2)] [.int s5, .int s4, .ref 0, .int s2, .int s1, .int s0] I
def hX9_overloaded_55 (N : Nat) (n9 : Nat) (v2 : Int32) (s0 : Int32) (s1 : Int32) (I : gM) : gO := fX9_overloaded_k55 N (s_lp (fX9_overloaded_b9 N) n9) [some (.ref 0), none, some (.int v2)] [.int s1, .int s0] I
set_option maxRecDepth 100000 in
theorem eX9_overloaded_0 (N : Nat) (I : gM) : hX9_overloaded_0 N I =
  (hX9_overloaded_9 N N 0 0 (gU I 0 0 0)) := by
  show (fX9_overloaded_k0 N) [some (.ref 0), none, none] [] I = _
  unfold fX9_overloaded_k0
  refine tt_aload rfl ?_
  refine tt_const ?_
  refine tt_put rfl rfl ?_
  refine tt_const ?_
  refine tt_istore (L2 := [some (.ref 0), some (.int 0), none]) (tt_lt rfl) rfl ?_
  refine tt_const ?_
  refine tt_istore (L2 := [some (.ref 0), some (.int 0), some (.int 0)]) (tt_lt rfl) rfl ?_
  refine tt_mask rfl ?_
  exact rfl
set_option maxRecDepth 100000 in
theorem eX9_overloaded_9 (N : Nat) (n9 : Nat) (v1 : Int32) (v2 : Int32) (I : gM) : hX9_overloaded_9 N (n9 + 1) v1 v2 I =
  (ck 2746 2 <| if gc_ge v2 ((I 3 (Int32.toNatClampNeg 2))) = true then (some (.inl (some (.int v1)), I)) else (hI (fX9_flowPart N [.ref 0, .int v2, .int 2] (gS (rg 0 18) I)) (rg 0 18) I fun x1 I1 => hI (fX9_flowPart N [.ref 0, .int v2, .int 0] (gS (rg 0 18) I1)) (rg 0 18) I1 fun x2 I2 => hI (fX9_flowPart N [.ref 0, .int v2, .int 1] (gS (rg 0 18) I2)) (rg 0 18) I2 fun x3 I3 => hX9_overloaded_41 N n9 v2 v1 x1 100 x2 x3 I3)) := by
  show (fX9_overloaded_b9 N (s_lp (fX9_overloaded_b9 N) n9)) [some (.ref 0), some (.int v1), some (.int v2)] [] I = _
  unfold fX9_overloaded_b9
  refine tt_iload rfl ?_
  refine tt_aload rfl ?_
  refine tt_getr (q := 3) rfl rfl ?_
  refine tt_const ?_
  refine tt_ald (x := (I 3 (Int32.toNatClampNeg 2))) rfl rfl ?_
  refine tt_cmp ?_ ?_
  · skip
    refine tt_iload rfl ?_
    exact rfl
  · skip
    refine tt_iload rfl ?_
    refine tt_aload rfl ?_
    refine tt_iload rfl ?_
    refine tt_const ?_
    refine tt_cavI (t := [.int v1]) ⟨Nat.le_of_ble_eq_true rfl, Nat.le_of_ble_eq_true rfl⟩ rfl rfl rfl (fun x1 I1 => ?_)
    refine tt_const ?_
    refine tt_aload rfl ?_
    refine tt_aload rfl ?_
    refine tt_iload rfl ?_
    refine tt_const ?_
    refine tt_cavI (t := [.ref 0, .int 100, .int x1, .int v1]) ⟨Nat.le_of_ble_eq_true rfl, Nat.le_of_ble_eq_true rfl⟩ rfl rfl rfl (fun x2 I2 => ?_)
    refine tt_aload rfl ?_
    refine tt_iload rfl ?_
    refine tt_const ?_
    refine tt_cavI (t := [.int x2, .ref 0, .int 100, .int x1, .int v1]) ⟨Nat.le_of_ble_eq_true rfl, Nat.le_of_ble_eq_true rfl⟩ rfl rfl rfl (fun x3 I3 => ?_)
    refine tt_mask rfl ?_
    exact rfl
theorem eX9_overloaded_9z (N : Nat) (v1 : Int32) (v2 : Int32) (I : gM) : hX9_overloaded_9 N 0 v1 v2 I = none := (rfl)
set_option maxRecDepth 100000 in
theorem eX9_overloaded_41 (N : Nat) (n9 : Nat) (v2 : Int32) (s0 : Int32) (s1 : Int32) (s2 : Int32) (s4 : Int32) (s5 : Int32) (I : gM) : hX9_overloaded_41 N n9 v2 s0 s1 s2 s4 s5 I =
  (hI (fX9_greatestFlow N [.ref 0, .int s4, .int s5] (gS (rg 0 18) I)) (rg 0 18) I fun x4 I4 => if gc_le s1 (gb_mul s2 x4) = true then (hX9_overloaded_55 N n9 v2 s0 0 I4) else (hX9_overloaded_55 N n9 v2 s0 (gb_shl 1 v2) I4)) := by
  show (fX9_overloaded_k41 N (s_lp (fX9_overloaded_b9 N) n9)) [some (.ref 0), none, some (.int v2)] [.int s5, .int s4, .ref 0, .int s2, .int s1, .int s0] I = _
  unfold fX9_overloaded_k41
  refine tt_cavI (t := [.int s2, .int s1, .int s0]) ⟨Nat.le_of_ble_eq_true rfl, Nat.le_of_ble_eq_true rfl⟩ rfl rfl rfl (fun x4 I4 => ?_)
  refine tt_bin ?_
  refine tt_cmp ?_ ?_
  · skip
    refine tt_const ?_
    refine tt_mask rfl ?_
    exact rfl
  · skip
    refine tt_const ?_
    refine tt_iload rfl ?_
    refine tt_bin ?_
    refine tt_mask rfl ?_
    exact rfl
set_option maxRecDepth 100000 in
theorem eX9_overloaded_55 (N : Nat) (n9 : Nat) (v2 : Int32) (s0 : Int32) (s1 : Int32) (I : gM) : hX9_overloaded_55 N n9 v2 s0 s1 I =
  (hX9_overloaded_9 N n9 (gb_or s0 s1) (v2 + 1) I) := by
  show (fX9_overloaded_k55 N (s_lp (fX9_overloaded_b9 N) n9)) [some (.ref 0), none, some (.int v2)] [.int s1, .int s0] I = _
  unfold fX9_overloaded_k55
  refine tt_bin ?_
  refine tt_istore (L2 := [some (.ref 0), some (.int (gb_or s0 s1)), some (.int v2)]) (tt_lt rfl) rfl ?_
  refine tt_iinc (L2 := [some (.ref 0), some (.int (gb_or s0 s1)), some (.int (v2 + 1))]) rfl rfl ?_
  refine tt_mask rfl ?_
  exact rfl
set_option maxRecDepth 100000 in
theorem eX9_overloaded (N : Nat) (I : gM) : fX9_overloaded N [.ref 0] I = hX9_overloaded_0 N I := by
  show gFn 3 (fX9_overloaded_k0 N) [.ref 0] I = (fX9_overloaded_k0 N) [some (.ref 0), none, none] [] I
  exact tt_fn rfl rfl

def hX9_queue_0 (N : Nat) (v1 : Int32) (v2 : Int32) (I : gM) : gO := fX9_queue_k0 N [some (.ref 0), some (.int v1), some (.int v2)] [] I
def hX9_queue_37 (N : Nat) (I : gM) : gO := fX9_queue_k37 N [none, none, none] [] I
def hX9_queue_30 (N : Nat) (v1 : Int32) (v2 : Int32) (s1 : Int32) (I : gM) : gO := fX9_queue_k30 N [some (.ref 0), some (.int v1), some (.int v2)] [.int s1, .ref 0] I
set_option maxRecDepth 100000 in
theorem eX9_queue_0 (N : Nat) (v1 : Int32) (v2 : Int32) (I : gM) : hX9_queue_0 N v1 v2 I =
  (hI (fX9_areNodes N [.ref 0, .int v1, .int v2] (gS (rg 0 18) (gU I 0 0 0))) (rg 0 18) (gU I 0 0 0) fun x1 I1 => hI (fX9_fails N [.ref 0, .int x1, .int 1] (gS (rg 0 18) I1)) (rg 0 18) I1 fun x2 I2 => if gz_ne x2 = true then (hX9_queue_37 N I2) else (if gc_eq v1 v2 = true then (hX9_queue_30 N v1 v2 0 I2) else (hX9_queue_30 N v1 v2 1 I2))) := by
  show (fX9_queue_k0 N) [some (.ref 0), some (.int v1), some (.int v2)] [] I = _
  unfold fX9_queue_k0
  refine tt_aload rfl ?_
  refine tt_const ?_
  refine tt_put rfl rfl ?_
  refine tt_aload rfl ?_
  refine tt_aload rfl ?_
  refine tt_iload rfl ?_
  refine tt_iload rfl ?_
  refine tt_cavI (t := [.ref 0]) ⟨Nat.le_of_ble_eq_true rfl, Nat.le_of_ble_eq_true rfl⟩ rfl rfl rfl (fun x1 I1 => ?_)
  refine tt_const ?_
  refine tt_cavI (t := []) ⟨Nat.le_of_ble_eq_true rfl, Nat.le_of_ble_eq_true rfl⟩ rfl rfl rfl (fun x2 I2 => ?_)
  refine tt_if ?_ ?_
  · skip
    refine tt_mask rfl ?_
    exact rfl
  · skip
    refine tt_aload rfl ?_
    refine tt_iload rfl ?_
    refine tt_iload rfl ?_
    refine tt_cmp ?_ ?_
    · skip
      refine tt_const ?_
      refine tt_mask rfl ?_
      exact rfl
    · skip
      refine tt_const ?_
      refine tt_mask rfl ?_
      exact rfl
set_option maxRecDepth 100000 in
theorem eX9_queue_37 (N : Nat) (I : gM) : hX9_queue_37 N I =
  (some (.inl (some (.int 0)), I)) := by
  show (fX9_queue_k37 N) [none, none, none] [] I = _
  unfold fX9_queue_k37
  refine tt_const ?_
  exact rfl
set_option maxRecDepth 100000 in
theorem eX9_queue_30 (N : Nat) (v1 : Int32) (v2 : Int32) (s1 : Int32) (I : gM) : hX9_queue_30 N v1 v2 s1 I =
  (hI (fX9_fails N [.ref 0, .int s1, .int 2] (gS (rg 0 18) I)) (rg 0 18) I fun x3 I3 => if gz_eq x3 = true then (hI (fX9_queued N [.ref 0, .int v1, .int v2] (gS (rg 0 18) I3)) (rg 0 18) I3 fun x4 I4 => some (.inl (some (.int x4)), I4)) else (hX9_queue_37 N I3)) := by
  show (fX9_queue_k30 N) [some (.ref 0), some (.int v1), some (.int v2)] [.int s1, .ref 0] I = _
  unfold fX9_queue_k30
  refine tt_const ?_
  refine tt_cavI (t := []) ⟨Nat.le_of_ble_eq_true rfl, Nat.le_of_ble_eq_true rfl⟩ rfl rfl rfl (fun x3 I3 => ?_)
  refine tt_if ?_ ?_
  · skip
    refine tt_aload rfl ?_
    refine tt_iload rfl ?_
    refine tt_iload rfl ?_
    refine tt_cavI (t := []) ⟨Nat.le_of_ble_eq_true rfl, Nat.le_of_ble_eq_true rfl⟩ rfl rfl rfl (fun x4 I4 => ?_)
    exact rfl
  · skip
    refine tt_mask rfl ?_
    exact rfl
set_option maxRecDepth 100000 in
theorem eX9_queue (N : Nat) (v1 : Int32) (v2 : Int32) (I : gM) : fX9_queue N [.ref 0, .int v1, .int v2] I = hX9_queue_0 N v1 v2 I := by
  show gFn 3 (fX9_queue_k0 N) [.ref 0, .int v1, .int v2] I = (fX9_queue_k0 N) [some (.ref 0), some (.int v1), some (.int v2)] [] I
  exact tt_fn rfl rfl

def hX9_shadow_0 (N : Nat) (v1 : Int32) (v2 : Int32) (I : gM) : gO := fX9_shadow_k0 N [some (.ref 0), some (.int v1), some (.int v2)] [] I
def hX9_shadow_37 (N : Nat) (I : gM) : gO := fX9_shadow_k37 N [none, none, none] [] I
def hX9_shadow_30 (N : Nat) (v1 : Int32) (v2 : Int32) (s1 : Int32) (I : gM) : gO := fX9_shadow_k30 N [some (.ref 0), some (.int v1), some (.int v2)] [.int s1, .ref 0] I
set_option maxRecDepth 100000 in
theorem eX9_shadow_0 (N : Nat) (v1 : Int32) (v2 : Int32) (I : gM) : hX9_shadow_0 N v1 v2 I =
  (hI (fX9_areNodes N [.ref 0, .int v1, .int v2] (gS (rg 0 18) (gU I 0 0 0))) (rg 0 18) (gU I 0 0 0) fun x1 I1 => hI (fX9_fails N [.ref 0, .int x1, .int 1] (gS (rg 0 18) I1)) (rg 0 18) I1 fun x2 I2 => if gz_ne x2 = true then (hX9_shadow_37 N I2) else (if gc_eq v1 v2 = true then (hX9_shadow_30 N v1 v2 0 I2) else (hX9_shadow_30 N v1 v2 1 I2))) := by
  show (fX9_shadow_k0 N) [some (.ref 0), some (.int v1), some (.int v2)] [] I = _
  unfold fX9_shadow_k0
  refine tt_aload rfl ?_
  refine tt_const ?_
  refine tt_put rfl rfl ?_
  refine tt_aload rfl ?_
  refine tt_aload rfl ?_
  refine tt_iload rfl ?_
  refine tt_iload rfl ?_
  refine tt_cavI (t := [.ref 0]) ⟨Nat.le_of_ble_eq_true rfl, Nat.le_of_ble_eq_true rfl⟩ rfl rfl rfl (fun x1 I1 => ?_)
  refine tt_const ?_
  refine tt_cavI (t := []) ⟨Nat.le_of_ble_eq_true rfl, Nat.le_of_ble_eq_true rfl⟩ rfl rfl rfl (fun x2 I2 => ?_)
  refine tt_if ?_ ?_
  · skip
    refine tt_mask rfl ?_
    exact rfl
  · skip
    refine tt_aload rfl ?_
    refine tt_iload rfl ?_
    refine tt_iload rfl ?_
    refine tt_cmp ?_ ?_
    · skip
      refine tt_const ?_
      refine tt_mask rfl ?_
      exact rfl
    · skip
      refine tt_const ?_
      refine tt_mask rfl ?_
      exact rfl
set_option maxRecDepth 100000 in
theorem eX9_shadow_37 (N : Nat) (I : gM) : hX9_shadow_37 N I =
  (some (.inl (some (.int 0)), I)) := by
  show (fX9_shadow_k37 N) [none, none, none] [] I = _
  unfold fX9_shadow_k37
  refine tt_const ?_
  exact rfl
set_option maxRecDepth 100000 in
theorem eX9_shadow_30 (N : Nat) (v1 : Int32) (v2 : Int32) (s1 : Int32) (I : gM) : hX9_shadow_30 N v1 v2 s1 I =
  (hI (fX9_fails N [.ref 0, .int s1, .int 2] (gS (rg 0 18) I)) (rg 0 18) I fun x3 I3 => if gz_eq x3 = true then (hI (fX9_shadowOf N [.ref 0, .int v1, .int v2] (gS (rg 0 18) I3)) (rg 0 18) I3 fun x4 I4 => some (.inl (some (.int x4)), I4)) else (hX9_shadow_37 N I3)) := by
  show (fX9_shadow_k30 N) [some (.ref 0), some (.int v1), some (.int v2)] [.int s1, .ref 0] I = _
  unfold fX9_shadow_k30
  refine tt_const ?_
  refine tt_cavI (t := []) ⟨Nat.le_of_ble_eq_true rfl, Nat.le_of_ble_eq_true rfl⟩ rfl rfl rfl (fun x3 I3 => ?_)
  refine tt_if ?_ ?_
  · skip
    refine tt_aload rfl ?_
    refine tt_iload rfl ?_
    refine tt_iload rfl ?_
    refine tt_cavI (t := []) ⟨Nat.le_of_ble_eq_true rfl, Nat.le_of_ble_eq_true rfl⟩ rfl rfl rfl (fun x4 I4 => ?_)
    exact rfl
  · skip
    refine tt_mask rfl ?_
    exact rfl
set_option maxRecDepth 100000 in
theorem eX9_shadow (N : Nat) (v1 : Int32) (v2 : Int32) (I : gM) : fX9_shadow N [.ref 0, .int v1, .int v2] I = hX9_shadow_0 N v1 v2 I := by
  show gFn 3 (fX9_shadow_k0 N) [.ref 0, .int v1, .int v2] I = (fX9_shadow_k0 N) [some (.ref 0), some (.int v1), some (.int v2)] [] I
  exact tt_fn rfl rfl

def hX9_packet_0 (N : Nat) (v1 : Int32) (v2 : Int32) (v3 : Int32) (v4 : Int32) (I : gM) : gO := fX9_packet_k0 N [some (.ref 0), some (.int v1), some (.int v2), some (.int v3), some (.int v4), none, none] [] I
def hX9_packet_42 (N : Nat) (v1 : Int32) (v2 : Int32) (v3 : Int32) (v4 : Int32) (I : gM) : gO := fX9_packet_k42 N [some (.ref 0), some (.int v1), some (.int v2), some (.int v3), some (.int v4), none, none] [.ref 0] I
def hX9_packet_35 (N : Nat) (v1 : Int32) (v2 : Int32) (v3 : Int32) (v4 : Int32) (s1 : Int32) (I : gM) : gO := fX9_packet_k35 N [some (.ref 0), some (.int v1), some (.int v2), some (.int v3), some (.int v4), none, none] [.int s1, .ref 0] I
def hX9_packet_43 (N : Nat) (v1 : Int32) (v2 : Int32) (v3 : Int32) (v4 : Int32) (s1 : Int32) (I : gM) : gO := fX9_packet_k43 N [some (.ref 0), some (.int v1), some (.int v2), some (.int v3), some (.int v4), none, none] [.int s1, .ref 0] I
def hX9_packet_58 (N : Nat) (n58 : Nat) (v1 : Int32) (v2 : Int32) (v3 : Int32) (v4 : Int32) (v5 : Int32) (v6 : Int32) (I : gM) : gO := s_lp (fX9_packet_b58 N) n58 [some (.ref 0), some (.int v1), some (.int v2), some (.int v3), some (.int v4), some (.int v5), some (.int v6)] [] I
def hX9_packet_109 (N : Nat) (I : gM) : gO := fX9_packet_k109 N [some (.ref 0), none, none, none, none, none, none] [] I
def hX9_packet_103 (N : Nat) (n58 : Nat) (v1 : Int32) (v2 : Int32) (v3 : Int32) (v4 : Int32) (v5 : Int32) (v6 : Int32) (I : gM) : gO := fX9_packet_k103 N (s_lp (fX9_packet_b58 N) n58) [some (.ref 0), some (.int v1), some (.int v2), some (.int v3), some (.int v4), some (.int v5), some (.int v6)] [] I
set_option maxRecDepth 100000 in
theorem eX9_packet_0 (N : Nat) (v1 : Int32) (v2 : Int32) (v3 : Int32) (v4 : Int32) (I : gM) : hX9_packet_0 N v1 v2 v3 v4 I =
  (hI (fX9_areNodes N [.ref 0, .int v1, .int v2] (gS (rg 0 18) (gU I 0 0 0))) (rg 0 18) (gU I 0 0 0) fun x1 I1 => hI (fX9_fails N [.ref 0, .int x1, .int 1] (gS (rg 0 18) I1)) (rg 0 18) I1 fun x2 I2 => if gz_ne x2 = true then (some (.inl (some (.int 0)), I2)) else (if gc_eq v1 v2 = true then (hX9_packet_42 N v1 v2 v3 v4 I2) else (hI (fX9_in N [.long ((v4).toInt64), .long 0, .long 3] (gS [] I2)) [] I2 fun x3 I3 => hX9_packet_35 N v1 v2 v3 v4 x3 I3))) := by
  show (fX9_packet_k0 N) [some (.ref 0), some (.int v1), some (.int v2), some (.int v3), some (.int v4), none, none] [] I = _
  unfold fX9_packet_k0
  refine tt_aload rfl ?_
  refine tt_const ?_
  refine tt_put rfl rfl ?_
  refine tt_aload rfl ?_
  refine tt_aload rfl ?_
  refine tt_iload rfl ?_
  refine tt_iload rfl ?_
  refine tt_cavI (t := [.ref 0]) ⟨Nat.le_of_ble_eq_true rfl, Nat.le_of_ble_eq_true rfl⟩ rfl rfl rfl (fun x1 I1 => ?_)
  refine tt_const ?_
  refine tt_cavI (t := []) ⟨Nat.le_of_ble_eq_true rfl, Nat.le_of_ble_eq_true rfl⟩ rfl rfl rfl (fun x2 I2 => ?_)
  refine tt_if ?_ ?_
  · skip
    refine tt_const ?_
    exact rfl
  · skip
    refine tt_aload rfl ?_
    refine tt_iload rfl ?_
    refine tt_iload rfl ?_
    refine tt_cmp ?_ ?_
    · skip
      refine tt_mask rfl ?_
      exact rfl
    · skip
      refine tt_iload rfl ?_
      refine tt_i2l ?_
      refine tt_lconst ?_
      refine tt_lconst ?_
      refine tt_caI (t := [.ref 0]) ⟨Nat.le_of_ble_eq_true rfl, Nat.le_of_ble_eq_true rfl⟩ rfl rfl rfl (fun x3 I3 => ?_)
      refine tt_mask rfl ?_
      exact rfl
set_option maxRecDepth 100000 in
theorem eX9_packet_42 (N : Nat) (v1 : Int32) (v2 : Int32) (v3 : Int32) (v4 : Int32) (I : gM) : hX9_packet_42 N v1 v2 v3 v4 I =
  (hX9_packet_43 N v1 v2 v3 v4 0 I) := by
  show (fX9_packet_k42 N) [some (.ref 0), some (.int v1), some (.int v2), some (.int v3), some (.int v4), none, none] [.ref 0] I = _
  unfold fX9_packet_k42
  refine tt_const ?_
  refine tt_mask rfl ?_
  exact rfl
set_option maxRecDepth 100000 in
theorem eX9_packet_35 (N : Nat) (v1 : Int32) (v2 : Int32) (v3 : Int32) (v4 : Int32) (s1 : Int32) (I : gM) : hX9_packet_35 N v1 v2 v3 v4 s1 I =
  (if gz_eq s1 = true then (hX9_packet_42 N v1 v2 v3 v4 I) else (hX9_packet_43 N v1 v2 v3 v4 1 I)) := by
  show (fX9_packet_k35 N) [some (.ref 0), some (.int v1), some (.int v2), some (.int v3), some (.int v4), none, none] [.int s1, .ref 0] I = _
  unfold fX9_packet_k35
  refine tt_if ?_ ?_
  · skip
    refine tt_mask rfl ?_
    exact rfl
  · skip
    refine tt_const ?_
    refine tt_mask rfl ?_
    exact rfl
set_option maxRecDepth 100000 in
theorem eX9_packet_43 (N : Nat) (v1 : Int32) (v2 : Int32) (v3 : Int32) (v4 : Int32) (s1 : Int32) (I : gM) : hX9_packet_43 N v1 v2 v3 v4 s1 I =
  (hI (fX9_fails N [.ref 0, .int s1, .int 2] (gS (rg 0 18) I)) (rg 0 18) I fun x4 I4 => if gz_eq x4 = true then (hX9_packet_58 N N v1 v2 v3 v4 v3 0 I4) else (some (.inl (some (.int 0)), I4))) := by
  show (fX9_packet_k43 N) [some (.ref 0), some (.int v1), some (.int v2), some (.int v3), some (.int v4), none, none] [.int s1, .ref 0] I = _
  unfold fX9_packet_k43
  refine tt_const ?_
  refine tt_cavI (t := []) ⟨Nat.le_of_ble_eq_true rfl, Nat.le_of_ble_eq_true rfl⟩ rfl rfl rfl (fun x4 I4 => ?_)
  refine tt_if ?_ ?_
  · skip
    refine tt_iload rfl ?_
    refine tt_istore (L2 := [some (.ref 0), some (.int v1), some (.int v2), some (.int v3), some (.int v4), some (.int v3), none]) (tt_lt rfl) rfl ?_
    refine tt_const ?_
    refine tt_istore (L2 := [some (.ref 0), some (.int v1), some (.int v2), some (.int v3), some (.int v4), some (.int v3), some (.int 0)]) (tt_lt rfl) rfl ?_
    refine tt_mask rfl ?_
    exact rfl
  · skip
    refine tt_const ?_
    exact rfl
set_option maxRecDepth 100000 in
theorem eX9_packet_58 (N : Nat) (n58 : Nat) (v1 : Int32) (v2 : Int32) (v3 : Int32) (v4 : Int32) (v5 : Int32) (v6 : Int32) (I : gM) : hX9_packet_58 N (n58 + 1) v1 v2 v3 v4 v5 v6 I =
  (ck 2746 245 <| if gc_ge v6 ((I 3 (Int32.toNatClampNeg 245))) = true then (hX9_packet_109 N I) else (if gz_lt v3 = true then (hX9_packet_109 N I) else (hI (fX9_isQueued N [.ref 0, .int v6, .int v1, .int v2] (gS (rg 0 18) I)) (rg 0 18) I fun x5 I5 => if gz_eq x5 = true then (hX9_packet_103 N n58 v1 v2 v3 v4 v5 v6 I5) else (if gz_ne v5 = true then (hX9_packet_103 N n58 v1 v2 v3 v4 ((v5 + (-1))) v6 I5) else (hI (fX9_packetPart N [.ref 0, .int v6, .int v4] (gS (rg 0 18) I5)) (rg 0 18) I5 fun x6 I6 => some (.inl (some (.int x6)), I6)))))) := by
  show (fX9_packet_b58 N (s_lp (fX9_packet_b58 N) n58)) [some (.ref 0), some (.int v1), some (.int v2), some (.int v3), some (.int v4), some (.int v5), some (.int v6)] [] I = _
  unfold fX9_packet_b58
  refine tt_iload rfl ?_
  refine tt_aload rfl ?_
  refine tt_getr (q := 3) rfl rfl ?_
  refine tt_const ?_
  refine tt_ald (x := (I 3 (Int32.toNatClampNeg 245))) rfl rfl ?_
  refine tt_cmp ?_ ?_
  · skip
    refine tt_mask rfl ?_
    exact rfl
  · skip
    refine tt_iload rfl ?_
    refine tt_if ?_ ?_
    · skip
      refine tt_mask rfl ?_
      exact rfl
    · skip
      refine tt_aload rfl ?_
      refine tt_iload rfl ?_
      refine tt_iload rfl ?_
      refine tt_iload rfl ?_
      refine tt_cavI (t := []) ⟨Nat.le_of_ble_eq_true rfl, Nat.le_of_ble_eq_true rfl⟩ rfl rfl rfl (fun x5 I5 => ?_)
      refine tt_if ?_ ?_
      · skip
        refine tt_mask rfl ?_
        exact rfl
      · skip
        refine tt_iload rfl ?_
        refine tt_if ?_ ?_
        · skip
          refine tt_iinc (L2 := [some (.ref 0), some (.int v1), some (.int v2), some (.int v3), some (.int v4), some (.int ((v5 + (-1)))), some (.int v6)]) rfl rfl ?_
          refine tt_mask rfl ?_
          exact rfl
        · skip
          refine tt_aload rfl ?_
          refine tt_iload rfl ?_
          refine tt_iload rfl ?_
          refine tt_cavI (t := []) ⟨Nat.le_of_ble_eq_true rfl, Nat.le_of_ble_eq_true rfl⟩ rfl rfl rfl (fun x6 I6 => ?_)
          exact rfl
theorem eX9_packet_58z (N : Nat) (v1 : Int32) (v2 : Int32) (v3 : Int32) (v4 : Int32) (v5 : Int32) (v6 : Int32) (I : gM) : hX9_packet_58 N 0 v1 v2 v3 v4 v5 v6 I = none := (rfl)
set_option maxRecDepth 100000 in
theorem eX9_packet_109 (N : Nat) (I : gM) : hX9_packet_109 N I =
  (some (.inl (some (.int 0)), (gU I 0 0 3))) := by
  show (fX9_packet_k109 N) [some (.ref 0), none, none, none, none, none, none] [] I = _
  unfold fX9_packet_k109
  refine tt_aload rfl ?_
  refine tt_const ?_
  refine tt_put rfl rfl ?_
  refine tt_const ?_
  exact rfl
set_option maxRecDepth 100000 in
theorem eX9_packet_103 (N : Nat) (n58 : Nat) (v1 : Int32) (v2 : Int32) (v3 : Int32) (v4 : Int32) (v5 : Int32) (v6 : Int32) (I : gM) : hX9_packet_103 N n58 v1 v2 v3 v4 v5 v6 I =
  (hX9_packet_58 N n58 v1 v2 v3 v4 v5 (v6 + 1) I) := by
  show (fX9_packet_k103 N (s_lp (fX9_packet_b58 N) n58)) [some (.ref 0), some (.int v1), some (.int v2), some (.int v3), some (.int v4), some (.int v5), some (.int v6)] [] I = _
  unfold fX9_packet_k103
  refine tt_iinc (L2 := [some (.ref 0), some (.int v1), some (.int v2), some (.int v3), some (.int v4), some (.int v5), some (.int (v6 + 1))]) rfl rfl ?_
  refine tt_mask rfl ?_
  exact rfl
set_option maxRecDepth 100000 in
theorem eX9_packet (N : Nat) (v1 : Int32) (v2 : Int32) (v3 : Int32) (v4 : Int32) (I : gM) : fX9_packet N [.ref 0, .int v1, .int v2, .int v3, .int v4] I = hX9_packet_0 N v1 v2 v3 v4 I := by
  show gFn 7 (fX9_packet_k0 N) [.ref 0, .int v1, .int v2, .int v3, .int v4] I = (fX9_packet_k0 N) [some (.ref 0), some (.int v1), some (.int v2), some (.int v3), some (.int v4), none, none] [] I
  exact tt_fn rfl rfl

def hX9_squares_0 (N : Nat) (I : gM) : gO := fX9_squares_k0 N [some (.ref 0), none, none, none, none, none, none] [] I
def hX9_squares_4 (N : Nat) (n4 : Nat) (v1 : Int64) (v3 : Int32) (I : gM) : gO := s_lp (fX9_squares_b4 N) n4 [some (.ref 0), some (.long v1), none, some (.int v3), none, none, none] [] I
def hX9_squares_17 (N : Nat) (n4 : Nat) (n17 : Nat) (v1 : Int64) (v3 : Int32) (v4 : Int32) (I : gM) : gO := s_lp (fX9_squares_b17 N (s_lp (fX9_squares_b4 N) n4)) n17 [some (.ref 0), some (.long v1), none, some (.int v3), some (.int v4), none, none] [] I
set_option maxRecDepth 100000 in
theorem eX9_squares_0 (N : Nat) (I : gM) : hX9_squares_0 N I =
  (hX9_squares_4 N N 0 0 I) := by
  show (fX9_squares_k0 N) [some (.ref 0), none, none, none, none, none, none] [] I = _
  unfold fX9_squares_k0
  refine tt_lconst ?_
  refine tt_lstore (L2 := [some (.ref 0), some (.long 0), none, none, none, none, none]) (tt_lt rfl) rfl ?_
  refine tt_const ?_
  refine tt_istore (L2 := [some (.ref 0), some (.long 0), none, some (.int 0), none, none, none]) (tt_lt rfl) rfl ?_
  refine tt_mask rfl ?_
  exact rfl
set_option maxRecDepth 100000 in
theorem eX9_squares_4 (N : Nat) (n4 : Nat) (v1 : Int64) (v3 : Int32) (I : gM) : hX9_squares_4 N (n4 + 1) v1 v3 I =
  (ck 2746 0 <| if gc_ge v3 ((I 3 (Int32.toNatClampNeg 0))) = true then (some (.inl (some (.long v1)), I)) else (hX9_squares_17 N n4 N v1 v3 0 I)) := by
  show (fX9_squares_b4 N (s_lp (fX9_squares_b4 N) n4)) [some (.ref 0), some (.long v1), none, some (.int v3), none, none, none] [] I = _
  unfold fX9_squares_b4
  refine tt_iload rfl ?_
  refine tt_aload rfl ?_
  refine tt_getr (q := 3) rfl rfl ?_
  refine tt_const ?_
  refine tt_ald (x := (I 3 (Int32.toNatClampNeg 0))) rfl rfl ?_
  refine tt_cmp ?_ ?_
  · skip
    refine tt_lload rfl ?_
    exact rfl
  · skip
    refine tt_const ?_
    refine tt_istore (L2 := [some (.ref 0), some (.long v1), none, some (.int v3), some (.int 0), none, none]) (tt_lt rfl) rfl ?_
    refine tt_mask rfl ?_
    exact rfl
theorem eX9_squares_4z (N : Nat) (v1 : Int64) (v3 : Int32) (I : gM) : hX9_squares_4 N 0 v1 v3 I = none := (rfl)
set_option maxRecDepth 100000 in
theorem eX9_squares_17 (N : Nat) (n4 : Nat) (n17 : Nat) (v1 : Int64) (v3 : Int32) (v4 : Int32) (I : gM) : hX9_squares_17 N n4 (n17 + 1) v1 v3 v4 I =
  (ck 2746 0 <| if gc_ge v4 ((I 3 (Int32.toNatClampNeg 0))) = true then (hX9_squares_4 N n4 v1 (v3 + 1) I) else (hI (fX9_queued N [.ref 0, .int v3, .int v4] (gS (rg 0 18) I)) (rg 0 18) I fun x1 I1 => hX9_squares_17 N n4 n17 ((gb_ladd v1 ((gb_lmul ((x1).toInt64) ((x1).toInt64))))) v3 (v4 + 1) I1)) := by
  show (fX9_squares_b17 N (s_lp (fX9_squares_b4 N) n4) (s_lp (fX9_squares_b17 N (s_lp (fX9_squares_b4 N) n4)) n17)) [some (.ref 0), some (.long v1), none, some (.int v3), some (.int v4), none, none] [] I = _
  unfold fX9_squares_b17
  refine tt_iload rfl ?_
  refine tt_aload rfl ?_
  refine tt_getr (q := 3) rfl rfl ?_
  refine tt_const ?_
  refine tt_ald (x := (I 3 (Int32.toNatClampNeg 0))) rfl rfl ?_
  refine tt_cmp ?_ ?_
  · skip
    refine tt_iinc (L2 := [some (.ref 0), some (.long v1), none, some (.int (v3 + 1)), some (.int v4), none, none]) rfl rfl ?_
    refine tt_mask rfl ?_
    exact rfl
  · skip
    refine tt_aload rfl ?_
    refine tt_iload rfl ?_
    refine tt_iload rfl ?_
    refine tt_cavI (t := []) ⟨Nat.le_of_ble_eq_true rfl, Nat.le_of_ble_eq_true rfl⟩ rfl rfl rfl (fun x1 I1 => ?_)
    refine tt_i2l ?_
    refine tt_lstore (L2 := [some (.ref 0), some (.long v1), none, some (.int v3), some (.int v4), some (.long ((x1).toInt64)), none]) (tt_lt rfl) rfl ?_
    refine tt_lload rfl ?_
    refine tt_lload rfl ?_
    refine tt_lload rfl ?_
    refine tt_lbin ?_
    refine tt_lbin ?_
    refine tt_lstore (L2 := [some (.ref 0), some (.long ((gb_ladd v1 ((gb_lmul ((x1).toInt64) ((x1).toInt64)))))), none, some (.int v3), some (.int v4), some (.long ((x1).toInt64)), none]) (tt_lt rfl) rfl ?_
    refine tt_iinc (L2 := [some (.ref 0), some (.long ((gb_ladd v1 ((gb_lmul ((x1).toInt64) ((x1).toInt64)))))), none, some (.int v3), some (.int (v4 + 1)), some (.long ((x1).toInt64)), none]) rfl rfl ?_
    refine tt_mask rfl ?_
    exact rfl
theorem eX9_squares_17z (N : Nat) (n4 : Nat) (v1 : Int64) (v3 : Int32) (v4 : Int32) (I : gM) : hX9_squares_17 N n4 0 v1 v3 v4 I = none := (rfl)
set_option maxRecDepth 100000 in
theorem eX9_squares (N : Nat) (I : gM) : fX9_squares N [.ref 0] I = hX9_squares_0 N I := by
  show gFn 7 (fX9_squares_k0 N) [.ref 0] I = (fX9_squares_k0 N) [some (.ref 0), none, none, none, none, none, none] [] I
  exact tt_fn rfl rfl

def hX9_totalOf_0 (N : Nat) (v1 : Int32) (I : gM) : gO := fX9_totalOf_k0 N [some (.ref 0), some (.int v1)] [] I
set_option maxRecDepth 100000 in
theorem eX9_totalOf_0 (N : Nat) (v1 : Int32) (I : gM) : hX9_totalOf_0 N v1 I =
  (hT v1 0 4 (hJ (fX9_shadows N [.ref 0, .int 1] (gS (rg 0 18) I)) (rg 0 18) I fun x1 I1 => some (.inl (some (.long x1)), I1)) [ck 2746 7 <| some (.inl (some (.long (((I 3 (Int32.toNatClampNeg 7))).toInt64))), I), ck 2746 245 <| some (.inl (some (.long (((I 3 (Int32.toNatClampNeg 245))).toInt64))), I), ck 2746 8 <| some (.inl (some (.long (((I 3 (Int32.toNatClampNeg 8))).toInt64))), I), hJ (fX9_shadows N [.ref 0, .int 0] (gS (rg 0 18) I)) (rg 0 18) I fun x2 I2 => some (.inl (some (.long x2)), I2), hJ (fX9_squares N [.ref 0] (gS (rg 0 18) I)) (rg 0 18) I fun x3 I3 => some (.inl (some (.long x3)), I3)]) := by
  show (fX9_totalOf_k0 N) [some (.ref 0), some (.int v1)] [] I = _
  unfold fX9_totalOf_k0
  refine tt_iload rfl ?_
  refine tt_tab ?_ ?_
  · skip
    refine tt_aload rfl ?_
    refine tt_const ?_
    refine tt_cavJ (t := []) ⟨Nat.le_of_ble_eq_true rfl, Nat.le_of_ble_eq_true rfl⟩ rfl rfl rfl (fun x1 I1 => ?_)
    exact rfl
  · skip
    refine (List.cons_eq_cons.mpr ⟨?_, (List.cons_eq_cons.mpr ⟨?_, (List.cons_eq_cons.mpr ⟨?_, (List.cons_eq_cons.mpr ⟨?_, (List.cons_eq_cons.mpr ⟨?_, rfl⟩)⟩)⟩)⟩)⟩)
    · skip
      refine tt_aload rfl ?_
      refine tt_getr (q := 3) rfl rfl ?_
      refine tt_const ?_
      refine tt_ald (x := (I 3 (Int32.toNatClampNeg 7))) rfl rfl ?_
      refine tt_i2l ?_
      exact rfl
    · skip
      refine tt_aload rfl ?_
      refine tt_getr (q := 3) rfl rfl ?_
      refine tt_const ?_
      refine tt_ald (x := (I 3 (Int32.toNatClampNeg 245))) rfl rfl ?_
      refine tt_i2l ?_
      exact rfl
    · skip
      refine tt_aload rfl ?_
      refine tt_getr (q := 3) rfl rfl ?_
      refine tt_const ?_
      refine tt_ald (x := (I 3 (Int32.toNatClampNeg 8))) rfl rfl ?_
      refine tt_i2l ?_
      exact rfl
    · skip
      refine tt_aload rfl ?_
      refine tt_const ?_
      refine tt_cavJ (t := []) ⟨Nat.le_of_ble_eq_true rfl, Nat.le_of_ble_eq_true rfl⟩ rfl rfl rfl (fun x2 I2 => ?_)
      exact rfl
    · skip
      refine tt_aload rfl ?_
      refine tt_cavJ (t := []) ⟨Nat.le_of_ble_eq_true rfl, Nat.le_of_ble_eq_true rfl⟩ rfl rfl rfl (fun x3 I3 => ?_)
      exact rfl
set_option maxRecDepth 100000 in
theorem eX9_totalOf (N : Nat) (v1 : Int32) (I : gM) : fX9_totalOf N [.ref 0, .int v1] I = hX9_totalOf_0 N v1 I := by
  show gFn 2 (fX9_totalOf_k0 N) [.ref 0, .int v1] I = (fX9_totalOf_k0 N) [some (.ref 0), some (.int v1)] [] I
  exact tt_fn rfl rfl

def hX9_total_0 (N : Nat) (v1 : Int32) (I : gM) : gO := fX9_total_k0 N [some (.ref 0), some (.int v1)] [] I
set_option maxRecDepth 100000 in
theorem eX9_total_0 (N : Nat) (v1 : Int32) (I : gM) : hX9_total_0 N v1 I =
  (hI (fX9_in N [.long ((v1).toInt64), .long 0, .long 5] (gS [] (gU I 0 0 0))) [] (gU I 0 0 0) fun x1 I1 => hI (fX9_fails N [.ref 0, .int x1, .int 1] (gS (rg 0 18) I1)) (rg 0 18) I1 fun x2 I2 => if gz_eq x2 = true then (hJ (fX9_totalOf N [.ref 0, .int v1] (gS (rg 0 18) I2)) (rg 0 18) I2 fun x3 I3 => some (.inl (some (.long x3)), I3)) else (some (.inl (some (.long 0)), I2))) := by
  show (fX9_total_k0 N) [some (.ref 0), some (.int v1)] [] I = _
  unfold fX9_total_k0
  refine tt_aload rfl ?_
  refine tt_const ?_
  refine tt_put rfl rfl ?_
  refine tt_aload rfl ?_
  refine tt_iload rfl ?_
  refine tt_i2l ?_
  refine tt_lconst ?_
  refine tt_lconst ?_
  refine tt_caI (t := [.ref 0]) ⟨Nat.le_of_ble_eq_true rfl, Nat.le_of_ble_eq_true rfl⟩ rfl rfl rfl (fun x1 I1 => ?_)
  refine tt_const ?_
  refine tt_cavI (t := []) ⟨Nat.le_of_ble_eq_true rfl, Nat.le_of_ble_eq_true rfl⟩ rfl rfl rfl (fun x2 I2 => ?_)
  refine tt_if ?_ ?_
  · skip
    refine tt_aload rfl ?_
    refine tt_iload rfl ?_
    refine tt_cavJ (t := []) ⟨Nat.le_of_ble_eq_true rfl, Nat.le_of_ble_eq_true rfl⟩ rfl rfl rfl (fun x3 I3 => ?_)
    exact rfl
  · skip
    refine tt_lconst ?_
    exact rfl
set_option maxRecDepth 100000 in
theorem eX9_total (N : Nat) (v1 : Int32) (I : gM) : fX9_total N [.ref 0, .int v1] I = hX9_total_0 N v1 I := by
  show gFn 2 (fX9_total_k0 N) [.ref 0, .int v1] I = (fX9_total_k0 N) [some (.ref 0), some (.int v1)] [] I
  exact tt_fn rfl rfl

def hX9_fullest_0 (N : Nat) (I : gM) : gO := fX9_fullest_k0 N [some (.ref 0), none, none, none, none, none] [] I
def hX9_fullest_11 (N : Nat) (n11 : Nat) (v1 : Int32) (v2 : Int32) (v3 : Int32) (I : gM) : gO := s_lp (fX9_fullest_b11 N) n11 [some (.ref 0), some (.int v1), some (.int v2), some (.int v3), none, none] [] I
def hX9_fullest_92 (N : Nat) (v1 : Int32) (s1 : Int32) (I : gM) : gO := fX9_fullest_k92 N [none, some (.int v1), none, none, none, none] [.int s1, .ref 0] I
def hX9_fullest_24 (N : Nat) (n11 : Nat) (n24 : Nat) (v1 : Int32) (v2 : Int32) (v3 : Int32) (v4 : Int32) (I : gM) : gO := s_lp (fX9_fullest_b24 N (s_lp (fX9_fullest_b11 N) n11)) n24 [some (.ref 0), some (.int v1), some (.int v2), some (.int v3), some (.int v4), none] [] I
def hX9_fullest_61 (N : Nat) (n11 : Nat) (n24 : Nat) (v2 : Int32) (v3 : Int32) (v4 : Int32) (v5 : Int32) (s0 : Int32) (I : gM) : gO := fX9_fullest_k61 N (s_lp (fX9_fullest_b11 N) n11) (s_lp (fX9_fullest_b24 N (s_lp (fX9_fullest_b11 N) n11)) n24) [some (.ref 0), none, some (.int v2), some (.int v3), some (.int v4), some (.int v5)] [.int s0] I
set_option maxRecDepth 100000 in
theorem eX9_fullest_0 (N : Nat) (I : gM) : hX9_fullest_0 N I =
  (hX9_fullest_11 N N (-1) 0 0 (gU I 0 0 0)) := by
  show (fX9_fullest_k0 N) [some (.ref 0), none, none, none, none, none] [] I = _
  unfold fX9_fullest_k0
  refine tt_aload rfl ?_
  refine tt_const ?_
  refine tt_put rfl rfl ?_
  refine tt_const ?_
  refine tt_istore (L2 := [some (.ref 0), some (.int (-1)), none, none, none, none]) (tt_lt rfl) rfl ?_
  refine tt_const ?_
  refine tt_istore (L2 := [some (.ref 0), some (.int (-1)), some (.int 0), none, none, none]) (tt_lt rfl) rfl ?_
  refine tt_const ?_
  refine tt_istore (L2 := [some (.ref 0), some (.int (-1)), some (.int 0), some (.int 0), none, none]) (tt_lt rfl) rfl ?_
  refine tt_mask rfl ?_
  exact rfl
set_option maxRecDepth 100000 in
theorem eX9_fullest_11 (N : Nat) (n11 : Nat) (v1 : Int32) (v2 : Int32) (v3 : Int32) (I : gM) : hX9_fullest_11 N (n11 + 1) v1 v2 v3 I =
  (ck 2746 0 <| if gc_ge v3 ((I 3 (Int32.toNatClampNeg 0))) = true then (if gc_eq v1 (-1) = true then (hX9_fullest_92 N v1 0 I) else (hX9_fullest_92 N v1 1 I)) else (hX9_fullest_24 N n11 N v1 v2 v3 0 I)) := by
  show (fX9_fullest_b11 N (s_lp (fX9_fullest_b11 N) n11)) [some (.ref 0), some (.int v1), some (.int v2), some (.int v3), none, none] [] I = _
  unfold fX9_fullest_b11
  refine tt_iload rfl ?_
  refine tt_aload rfl ?_
  refine tt_getr (q := 3) rfl rfl ?_
  refine tt_const ?_
  refine tt_ald (x := (I 3 (Int32.toNatClampNeg 0))) rfl rfl ?_
  refine tt_cmp ?_ ?_
  · skip
    refine tt_aload rfl ?_
    refine tt_iload rfl ?_
    refine tt_const ?_
    refine tt_cmp ?_ ?_
    · skip
      refine tt_const ?_
      refine tt_mask rfl ?_
      exact rfl
    · skip
      refine tt_const ?_
      refine tt_mask rfl ?_
      exact rfl
  · skip
    refine tt_const ?_
    refine tt_istore (L2 := [some (.ref 0), some (.int v1), some (.int v2), some (.int v3), some (.int 0), none]) (tt_lt rfl) rfl ?_
    refine tt_mask rfl ?_
    exact rfl
theorem eX9_fullest_11z (N : Nat) (v1 : Int32) (v2 : Int32) (v3 : Int32) (I : gM) : hX9_fullest_11 N 0 v1 v2 v3 I = none := (rfl)
set_option maxRecDepth 100000 in
theorem eX9_fullest_92 (N : Nat) (v1 : Int32) (s1 : Int32) (I : gM) : hX9_fullest_92 N v1 s1 I =
  (hI (fX9_fails N [.ref 0, .int s1, .int 1] (gS (rg 0 18) I)) (rg 0 18) I fun x1 I1 => if gz_eq x1 = true then (some (.inl (some (.int v1)), I1)) else (some (.inl (some (.int 0)), I1))) := by
  show (fX9_fullest_k92 N) [none, some (.int v1), none, none, none, none] [.int s1, .ref 0] I = _
  unfold fX9_fullest_k92
  refine tt_const ?_
  refine tt_cavI (t := []) ⟨Nat.le_of_ble_eq_true rfl, Nat.le_of_ble_eq_true rfl⟩ rfl rfl rfl (fun x1 I1 => ?_)
  refine tt_if ?_ ?_
  · skip
    refine tt_iload rfl ?_
    exact rfl
  · skip
    refine tt_const ?_
    exact rfl
set_option maxRecDepth 100000 in
theorem eX9_fullest_24 (N : Nat) (n11 : Nat) (n24 : Nat) (v1 : Int32) (v2 : Int32) (v3 : Int32) (v4 : Int32) (I : gM) : hX9_fullest_24 N n11 (n24 + 1) v1 v2 v3 v4 I =
  (ck 2746 0 <| if gc_ge v4 ((I 3 (Int32.toNatClampNeg 0))) = true then (hX9_fullest_11 N n11 v1 v2 (v3 + 1) I) else (hI (fX9_queued N [.ref 0, .int v3, .int v4] (gS (rg 0 18) I)) (rg 0 18) I fun x2 I2 => if gc_le x2 v2 = true then (hX9_fullest_61 N n11 n24 v2 v3 v4 x2 v1 I2) else (hX9_fullest_61 N n11 n24 v2 v3 v4 x2 ((gb_add (gb_mul 100 v3) v4)) I2))) := by
  show (fX9_fullest_b24 N (s_lp (fX9_fullest_b11 N) n11) (s_lp (fX9_fullest_b24 N (s_lp (fX9_fullest_b11 N) n11)) n24)) [some (.ref 0), some (.int v1), some (.int v2), some (.int v3), some (.int v4), none] [] I = _
  unfold fX9_fullest_b24
  refine tt_iload rfl ?_
  refine tt_aload rfl ?_
  refine tt_getr (q := 3) rfl rfl ?_
  refine tt_const ?_
  refine tt_ald (x := (I 3 (Int32.toNatClampNeg 0))) rfl rfl ?_
  refine tt_cmp ?_ ?_
  · skip
    refine tt_iinc (L2 := [some (.ref 0), some (.int v1), some (.int v2), some (.int (v3 + 1)), some (.int v4), none]) rfl rfl ?_
    refine tt_mask rfl ?_
    exact rfl
  · skip
    refine tt_aload rfl ?_
    refine tt_iload rfl ?_
    refine tt_iload rfl ?_
    refine tt_cavI (t := []) ⟨Nat.le_of_ble_eq_true rfl, Nat.le_of_ble_eq_true rfl⟩ rfl rfl rfl (fun x2 I2 => ?_)
    refine tt_istore (L2 := [some (.ref 0), some (.int v1), some (.int v2), some (.int v3), some (.int v4), some (.int x2)]) (tt_lt rfl) rfl ?_
    refine tt_iload rfl ?_
    refine tt_iload rfl ?_
    refine tt_cmp ?_ ?_
    · skip
      refine tt_iload rfl ?_
      refine tt_mask rfl ?_
      exact rfl
    · skip
      refine tt_const ?_
      refine tt_iload rfl ?_
      refine tt_bin ?_
      refine tt_iload rfl ?_
      refine tt_bin ?_
      refine tt_mask rfl ?_
      exact rfl
theorem eX9_fullest_24z (N : Nat) (n11 : Nat) (v1 : Int32) (v2 : Int32) (v3 : Int32) (v4 : Int32) (I : gM) : hX9_fullest_24 N n11 0 v1 v2 v3 v4 I = none := (rfl)
set_option maxRecDepth 100000 in
theorem eX9_fullest_61 (N : Nat) (n11 : Nat) (n24 : Nat) (v2 : Int32) (v3 : Int32) (v4 : Int32) (v5 : Int32) (s0 : Int32) (I : gM) : hX9_fullest_61 N n11 n24 v2 v3 v4 v5 s0 I =
  (hX9_fullest_24 N n11 n24 s0 (gj_max v2 v5) v3 (v4 + 1) I) := by
  show (fX9_fullest_k61 N (s_lp (fX9_fullest_b11 N) n11) (s_lp (fX9_fullest_b24 N (s_lp (fX9_fullest_b11 N) n11)) n24)) [some (.ref 0), none, some (.int v2), some (.int v3), some (.int v4), some (.int v5)] [.int s0] I = _
  unfold fX9_fullest_k61
  refine tt_istore (L2 := [some (.ref 0), some (.int s0), some (.int v2), some (.int v3), some (.int v4), some (.int v5)]) (tt_lt rfl) rfl ?_
  refine tt_iload rfl ?_
  refine tt_iload rfl ?_
  refine tt_jmath (Nat.le_of_ble_eq_true rfl) ?_
  refine tt_istore (L2 := [some (.ref 0), some (.int s0), some (.int (gj_max v2 v5)), some (.int v3), some (.int v4), some (.int v5)]) (tt_lt rfl) rfl ?_
  refine tt_iinc (L2 := [some (.ref 0), some (.int s0), some (.int (gj_max v2 v5)), some (.int v3), some (.int (v4 + 1)), some (.int v5)]) rfl rfl ?_
  refine tt_mask rfl ?_
  exact rfl
set_option maxRecDepth 100000 in
theorem eX9_fullest (N : Nat) (I : gM) : fX9_fullest N [.ref 0] I = hX9_fullest_0 N I := by
  show gFn 6 (fX9_fullest_k0 N) [.ref 0] I = (fX9_fullest_k0 N) [some (.ref 0), none, none, none, none, none] [] I
  exact tt_fn rfl rfl

def hX9_urgent_0 (N : Nat) (I : gM) : gO := fX9_urgent_k0 N [some (.ref 0), none, none, none, none] [] I
def hX9_urgent_9 (N : Nat) (n9 : Nat) (v1 : Int32) (v2 : Int32) (I : gM) : gO := s_lp (fX9_urgent_b9 N) n9 [some (.ref 0), some (.int v1), some (.int v2), none, none] [] I
def hX9_urgent_94 (N : Nat) (v1 : Int32) (s1 : Int32) (I : gM) : gO := fX9_urgent_k94 N [none, some (.int v1), none, none, none] [.int s1, .ref 0] I
def hX9_urgent_40 (N : Nat) (n9 : Nat) (v1 : Int32) (v2 : Int32) (v3 : Int32) (s0 : Int32) (s1 : Int32) (I : gM) : gO := fX9_urgent_k40 N (s_lp (fX9_urgent_b9 N) n9) [some (.ref 0), some (.int v1), some (.int v2), some (.int v3), none] [.int s1, .int s0] I
def hX9_urgent_75 (N : Nat) (n9 : Nat) (v1 : Int32) (v2 : Int32) (I : gM) : gO := fX9_urgent_k75 N (s_lp (fX9_urgent_b9 N) n9) [some (.ref 0), some (.int v1), some (.int v2), none, none] [] I
def hX9_urgent_70 (N : Nat) (n9 : Nat) (v2 : Int32) (v4 : Int32) (I : gM) : gO := fX9_urgent_k70 N (s_lp (fX9_urgent_b9 N) n9) [some (.ref 0), none, some (.int v2), none, some (.int v4)] [] I
def hX9_urgent_76 (N : Nat) (n9 : Nat) (v2 : Int32) (s0 : Int32) (I : gM) : gO := fX9_urgent_k76 N (s_lp (fX9_urgent_b9 N) n9) [some (.ref 0), none, some (.int v2), none, none] [.int s0] I
set_option maxRecDepth 100000 in
theorem eX9_urgent_0 (N : Nat) (I : gM) : hX9_urgent_0 N I =
  (hX9_urgent_9 N N (-1) 0 (gU I 0 0 0)) := by
  show (fX9_urgent_k0 N) [some (.ref 0), none, none, none, none] [] I = _
  unfold fX9_urgent_k0
  refine tt_aload rfl ?_
  refine tt_const ?_
  refine tt_put rfl rfl ?_
  refine tt_const ?_
  refine tt_istore (L2 := [some (.ref 0), some (.int (-1)), none, none, none]) (tt_lt rfl) rfl ?_
  refine tt_const ?_
  refine tt_istore (L2 := [some (.ref 0), some (.int (-1)), some (.int 0), none, none]) (tt_lt rfl) rfl ?_
  refine tt_mask rfl ?_
  exact rfl
set_option maxRecDepth 100000 in
theorem eX9_urgent_9 (N : Nat) (n9 : Nat) (v1 : Int32) (v2 : Int32) (I : gM) : hX9_urgent_9 N (n9 + 1) v1 v2 I =
  (ck 2746 245 <| if gc_ge v2 ((I 3 (Int32.toNatClampNeg 245))) = true then (if gc_eq v1 (-1) = true then (hX9_urgent_94 N v1 0 I) else (hX9_urgent_94 N v1 1 I)) else (hI (fX9_packetPart N [.ref 0, .int v2, .int 0] (gS (rg 0 18) I)) (rg 0 18) I fun x1 I1 => hI (fX9_flowPart N [.ref 0, .int x1, .int 3] (gS (rg 0 18) I1)) (rg 0 18) I1 fun x2 I2 => hI (fX9_packetPart N [.ref 0, .int v2, .int 1] (gS (rg 0 18) I2)) (rg 0 18) I2 fun x3 I3 => hX9_urgent_40 N n9 v1 v2 x2 0 x3 I3)) := by
  show (fX9_urgent_b9 N (s_lp (fX9_urgent_b9 N) n9)) [some (.ref 0), some (.int v1), some (.int v2), none, none] [] I = _
  unfold fX9_urgent_b9
  refine tt_iload rfl ?_
  refine tt_aload rfl ?_
  refine tt_getr (q := 3) rfl rfl ?_
  refine tt_const ?_
  refine tt_ald (x := (I 3 (Int32.toNatClampNeg 245))) rfl rfl ?_
  refine tt_cmp ?_ ?_
  · skip
    refine tt_aload rfl ?_
    refine tt_iload rfl ?_
    refine tt_const ?_
    refine tt_cmp ?_ ?_
    · skip
      refine tt_const ?_
      refine tt_mask rfl ?_
      exact rfl
    · skip
      refine tt_const ?_
      refine tt_mask rfl ?_
      exact rfl
  · skip
    refine tt_aload rfl ?_
    refine tt_aload rfl ?_
    refine tt_iload rfl ?_
    refine tt_const ?_
    refine tt_cavI (t := [.ref 0]) ⟨Nat.le_of_ble_eq_true rfl, Nat.le_of_ble_eq_true rfl⟩ rfl rfl rfl (fun x1 I1 => ?_)
    refine tt_const ?_
    refine tt_cavI (t := []) ⟨Nat.le_of_ble_eq_true rfl, Nat.le_of_ble_eq_true rfl⟩ rfl rfl rfl (fun x2 I2 => ?_)
    refine tt_istore (L2 := [some (.ref 0), some (.int v1), some (.int v2), some (.int x2), none]) (tt_lt rfl) rfl ?_
    refine tt_const ?_
    refine tt_aload rfl ?_
    refine tt_iload rfl ?_
    refine tt_const ?_
    refine tt_cavI (t := [.int 0]) ⟨Nat.le_of_ble_eq_true rfl, Nat.le_of_ble_eq_true rfl⟩ rfl rfl rfl (fun x3 I3 => ?_)
    refine tt_mask rfl ?_
    exact rfl
theorem eX9_urgent_9z (N : Nat) (v1 : Int32) (v2 : Int32) (I : gM) : hX9_urgent_9 N 0 v1 v2 I = none := (rfl)
set_option maxRecDepth 100000 in
theorem eX9_urgent_94 (N : Nat) (v1 : Int32) (s1 : Int32) (I : gM) : hX9_urgent_94 N v1 s1 I =
  (hI (fX9_fails N [.ref 0, .int s1, .int 1] (gS (rg 0 18) I)) (rg 0 18) I fun x4 I4 => if gz_eq x4 = true then (some (.inl (some (.int v1)), I4)) else (some (.inl (some (.int 0)), I4))) := by
  show (fX9_urgent_k94 N) [none, some (.int v1), none, none, none] [.int s1, .ref 0] I = _
  unfold fX9_urgent_k94
  refine tt_const ?_
  refine tt_cavI (t := []) ⟨Nat.le_of_ble_eq_true rfl, Nat.le_of_ble_eq_true rfl⟩ rfl rfl rfl (fun x4 I4 => ?_)
  refine tt_if ?_ ?_
  · skip
    refine tt_iload rfl ?_
    exact rfl
  · skip
    refine tt_const ?_
    exact rfl
set_option maxRecDepth 100000 in
theorem eX9_urgent_40 (N : Nat) (n9 : Nat) (v1 : Int32) (v2 : Int32) (v3 : Int32) (s0 : Int32) (s1 : Int32) (I : gM) : hX9_urgent_40 N n9 v1 v2 v3 s0 s1 I =
  (ck 2746 7 <| if gz_le v3 = true then (hX9_urgent_75 N n9 v1 v2 I) else (if gc_eq v1 (-1) = true then (hX9_urgent_70 N n9 v2 ((gj_max s0 ((gb_sub (gb_add s1 v3) ((I 3 (Int32.toNatClampNeg 7))))))) I) else (if gc_ge ((gj_max s0 ((gb_sub (gb_add s1 v3) ((I 3 (Int32.toNatClampNeg 7))))))) v1 = true then (hX9_urgent_75 N n9 v1 v2 I) else (hX9_urgent_70 N n9 v2 ((gj_max s0 ((gb_sub (gb_add s1 v3) ((I 3 (Int32.toNatClampNeg 7))))))) I)))) := by
  show (fX9_urgent_k40 N (s_lp (fX9_urgent_b9 N) n9)) [some (.ref 0), some (.int v1), some (.int v2), some (.int v3), none] [.int s1, .int s0] I = _
  unfold fX9_urgent_k40
  refine tt_iload rfl ?_
  refine tt_bin ?_
  refine tt_aload rfl ?_
  refine tt_getr (q := 3) rfl rfl ?_
  refine tt_const ?_
  refine tt_ald (x := (I 3 (Int32.toNatClampNeg 7))) rfl rfl ?_
  refine tt_bin ?_
  refine tt_jmath (Nat.le_of_ble_eq_true rfl) ?_
  refine tt_istore (L2 := [some (.ref 0), some (.int v1), some (.int v2), some (.int v3), some (.int ((gj_max s0 ((gb_sub (gb_add s1 v3) ((I 3 (Int32.toNatClampNeg 7))))))))]) (tt_lt rfl) rfl ?_
  refine tt_iload rfl ?_
  refine tt_if ?_ ?_
  · skip
    refine tt_mask rfl ?_
    exact rfl
  · skip
    refine tt_iload rfl ?_
    refine tt_const ?_
    refine tt_cmp ?_ ?_
    · skip
      refine tt_mask rfl ?_
      exact rfl
    · skip
      refine tt_iload rfl ?_
      refine tt_iload rfl ?_
      refine tt_cmp ?_ ?_
      · skip
        refine tt_mask rfl ?_
        exact rfl
      · skip
        refine tt_mask rfl ?_
        exact rfl
set_option maxRecDepth 100000 in
theorem eX9_urgent_75 (N : Nat) (n9 : Nat) (v1 : Int32) (v2 : Int32) (I : gM) : hX9_urgent_75 N n9 v1 v2 I =
  (hX9_urgent_76 N n9 v2 v1 I) := by
  show (fX9_urgent_k75 N (s_lp (fX9_urgent_b9 N) n9)) [some (.ref 0), some (.int v1), some (.int v2), none, none] [] I = _
  unfold fX9_urgent_k75
  refine tt_iload rfl ?_
  refine tt_mask rfl ?_
  exact rfl
set_option maxRecDepth 100000 in
theorem eX9_urgent_70 (N : Nat) (n9 : Nat) (v2 : Int32) (v4 : Int32) (I : gM) : hX9_urgent_70 N n9 v2 v4 I =
  (hX9_urgent_76 N n9 v2 v4 I) := by
  show (fX9_urgent_k70 N (s_lp (fX9_urgent_b9 N) n9)) [some (.ref 0), none, some (.int v2), none, some (.int v4)] [] I = _
  unfold fX9_urgent_k70
  refine tt_iload rfl ?_
  refine tt_mask rfl ?_
  exact rfl
set_option maxRecDepth 100000 in
theorem eX9_urgent_76 (N : Nat) (n9 : Nat) (v2 : Int32) (s0 : Int32) (I : gM) : hX9_urgent_76 N n9 v2 s0 I =
  (hX9_urgent_9 N n9 s0 (v2 + 1) I) := by
  show (fX9_urgent_k76 N (s_lp (fX9_urgent_b9 N) n9)) [some (.ref 0), none, some (.int v2), none, none] [.int s0] I = _
  unfold fX9_urgent_k76
  refine tt_istore (L2 := [some (.ref 0), some (.int s0), some (.int v2), none, none]) (tt_lt rfl) rfl ?_
  refine tt_iinc (L2 := [some (.ref 0), some (.int s0), some (.int (v2 + 1)), none, none]) rfl rfl ?_
  refine tt_mask rfl ?_
  exact rfl
set_option maxRecDepth 100000 in
theorem eX9_urgent (N : Nat) (I : gM) : fX9_urgent N [.ref 0] I = hX9_urgent_0 N I := by
  show gFn 5 (fX9_urgent_k0 N) [.ref 0] I = (fX9_urgent_k0 N) [some (.ref 0), none, none, none, none] [] I
  exact tt_fn rfl rfl

def hX9_sumOf_0 (N : Nat) (v1 : Int32) (I : gM) : gO := fX9_sumOf_k0 N [some (.ref 0), some (.int v1), none, none] [] I
def hX9_sumOf_4 (N : Nat) (n4 : Nat) (v1 : Int32) (v2 : Int32) (v3 : Int32) (I : gM) : gO := s_lp (fX9_sumOf_b4 N) n4 [some (.ref 0), some (.int v1), some (.int v2), some (.int v3)] [] I
set_option maxRecDepth 100000 in
theorem eX9_sumOf_0 (N : Nat) (v1 : Int32) (I : gM) : hX9_sumOf_0 N v1 I =
  (hX9_sumOf_4 N N v1 0 0 I) := by
  show (fX9_sumOf_k0 N) [some (.ref 0), some (.int v1), none, none] [] I = _
  unfold fX9_sumOf_k0
  refine tt_const ?_
  refine tt_istore (L2 := [some (.ref 0), some (.int v1), some (.int 0), none]) (tt_lt rfl) rfl ?_
  refine tt_const ?_
  refine tt_istore (L2 := [some (.ref 0), some (.int v1), some (.int 0), some (.int 0)]) (tt_lt rfl) rfl ?_
  refine tt_mask rfl ?_
  exact rfl
set_option maxRecDepth 100000 in
theorem eX9_sumOf_4 (N : Nat) (n4 : Nat) (v1 : Int32) (v2 : Int32) (v3 : Int32) (I : gM) : hX9_sumOf_4 N (n4 + 1) v1 v2 v3 I =
  (ck 2746 2 <| if gc_ge v3 ((I 3 (Int32.toNatClampNeg 2))) = true then (some (.inl (some (.int v2)), I)) else (hI (fX9_flowPart N [.ref 0, .int v3, .int v1] (gS (rg 0 18) I)) (rg 0 18) I fun x1 I1 => hX9_sumOf_4 N n4 v1 (gb_add v2 x1) (v3 + 1) I1)) := by
  show (fX9_sumOf_b4 N (s_lp (fX9_sumOf_b4 N) n4)) [some (.ref 0), some (.int v1), some (.int v2), some (.int v3)] [] I = _
  unfold fX9_sumOf_b4
  refine tt_iload rfl ?_
  refine tt_aload rfl ?_
  refine tt_getr (q := 3) rfl rfl ?_
  refine tt_const ?_
  refine tt_ald (x := (I 3 (Int32.toNatClampNeg 2))) rfl rfl ?_
  refine tt_cmp ?_ ?_
  · skip
    refine tt_iload rfl ?_
    exact rfl
  · skip
    refine tt_iload rfl ?_
    refine tt_aload rfl ?_
    refine tt_iload rfl ?_
    refine tt_iload rfl ?_
    refine tt_cavI (t := [.int v2]) ⟨Nat.le_of_ble_eq_true rfl, Nat.le_of_ble_eq_true rfl⟩ rfl rfl rfl (fun x1 I1 => ?_)
    refine tt_bin ?_
    refine tt_istore (L2 := [some (.ref 0), some (.int v1), some (.int (gb_add v2 x1)), some (.int v3)]) (tt_lt rfl) rfl ?_
    refine tt_iinc (L2 := [some (.ref 0), some (.int v1), some (.int (gb_add v2 x1)), some (.int (v3 + 1))]) rfl rfl ?_
    refine tt_mask rfl ?_
    exact rfl
theorem eX9_sumOf_4z (N : Nat) (v1 : Int32) (v2 : Int32) (v3 : Int32) (I : gM) : hX9_sumOf_4 N 0 v1 v2 v3 I = none := (rfl)
set_option maxRecDepth 100000 in
theorem eX9_sumOf (N : Nat) (v1 : Int32) (I : gM) : fX9_sumOf N [.ref 0, .int v1] I = hX9_sumOf_0 N v1 I := by
  show gFn 4 (fX9_sumOf_k0 N) [.ref 0, .int v1] I = (fX9_sumOf_k0 N) [some (.ref 0), some (.int v1), none, none] [] I
  exact tt_fn rfl rfl

