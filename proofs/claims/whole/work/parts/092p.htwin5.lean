def hX9_search_0 (N : Nat) (g : List Value → gM → Option (gR × gM)) (v1 : Int32) (v2 : Int32) (v3 : Int32) (v4 : Int32) (I : gM) : gO := fX9_search_k0 N g [some (.ref 0), some (.int v1), some (.int v2), some (.int v3), some (.int v4), none, none, none] [] I
def hX9_search_19 (N : Nat) (g : List Value → gM → Option (gR × gM)) (v1 : Int32) (v2 : Int32) (v3 : Int32) (v4 : Int32) (I : gM) : gO := fX9_search_k19 N g [some (.ref 0), some (.int v1), some (.int v2), some (.int v3), some (.int v4), none, none, none] [] I
def hX9_search_62 (N : Nat) (g : List Value → gM → Option (gR × gM)) (v1 : Int32) (v2 : Int32) (v3 : Int32) (v4 : Int32) (I : gM) : gO := fX9_search_k62 N g [some (.ref 0), some (.int v1), some (.int v2), some (.int v3), some (.int v4), none, none, none] [] I
def hX9_search_63 (N : Nat) (g : List Value → gM → Option (gR × gM)) (v1 : Int32) (v2 : Int32) (v3 : Int32) (v4 : Int32) (s0 : Int32) (I : gM) : gO := fX9_search_k63 N g [some (.ref 0), some (.int v1), some (.int v2), some (.int v3), some (.int v4), none, none, none] [.int s0] I
def hX9_search_93 (N : Nat) (g : List Value → gM → Option (gR × gM)) (v1 : Int32) (v2 : Int32) (v3 : Int32) (v5 : Int32) (v6 : Int32) (I : gM) : gO := fX9_search_k93 N g [some (.ref 0), some (.int v1), some (.int v2), some (.int v3), none, some (.int v5), some (.int v6), none] [] I
def hX9_search_94 (N : Nat) (g : List Value → gM → Option (gR × gM)) (v1 : Int32) (v2 : Int32) (v3 : Int32) (v5 : Int32) (v6 : Int32) (s0 : Int32) (I : gM) : gO := fX9_search_k94 N g [some (.ref 0), some (.int v1), some (.int v2), some (.int v3), none, some (.int v5), some (.int v6), none] [.int s0] I
def hX9_search_112 (N : Nat) (g : List Value → gM → Option (gR × gM)) (v1 : Int32) (v2 : Int32) (v3 : Int32) (v5 : Int32) (v6 : Int32) (I : gM) : gO := fX9_search_k112 N g [some (.ref 0), some (.int v1), some (.int v2), some (.int v3), none, some (.int v5), some (.int v6), none] [] I
set_option maxRecDepth 100000 in
theorem eX9_search_0 (N : Nat) (g : List Value → gM → Option (gR × gM)) (v1 : Int32) (v2 : Int32) (v3 : Int32) (v4 : Int32) (I : gM) : hX9_search_0 N g v1 v2 v3 v4 I =
  (if gc_gt (gb_add v3 v4) (I 0 24) = true then (hX9_search_19 N g v1 v2 v3 v4 I) else (if gz_lt (I 0 24) = true then (hX9_search_19 N g v1 v2 v3 v4 I) else (some (.inl none, I)))) := by
  show (fX9_search_k0 N g) [some (.ref 0), some (.int v1), some (.int v2), some (.int v3), some (.int v4), none, none, none] [] I = _
  unfold fX9_search_k0
  refine tt_iload rfl ?_
  refine tt_iload rfl ?_
  refine tt_bin ?_
  refine tt_aload rfl ?_
  refine tt_get (x := (I 0 24)) rfl rfl rfl ?_
  refine tt_cmp ?_ ?_
  · skip
    refine tt_mask rfl ?_
    exact rfl
  · skip
    refine tt_aload rfl ?_
    refine tt_get (x := (I 0 24)) rfl rfl rfl ?_
    refine tt_if ?_ ?_
    · skip
      refine tt_mask rfl ?_
      exact rfl
    · skip
      exact rfl
set_option maxRecDepth 100000 in
theorem eX9_search_19 (N : Nat) (g : List Value → gM → Option (gR × gM)) (v1 : Int32) (v2 : Int32) (v3 : Int32) (v4 : Int32) (I : gM) : hX9_search_19 N g v1 v2 v3 v4 I =
  (if gz_ge v1 = true then (ck 14 v1 <| if gz_le ((I 12 (Int32.toNatClampNeg v1))) = true then (hX9_search_62 N g v1 v2 v3 v4 I) else (ck 2746 (gb_add 131 v1) <| if gz_ne ((gb_and ((I 3 ((Int32.toNatClampNeg (gb_add 131 v1))))) v2)) = true then (hX9_search_62 N g v1 v2 v3 v4 I) else (hX9_search_63 N g v1 v2 v3 v4 1 I))) else (some (.inl none, (gU (gU I 0 23 v2) 0 24 v3)))) := by
  show (fX9_search_k19 N g) [some (.ref 0), some (.int v1), some (.int v2), some (.int v3), some (.int v4), none, none, none] [] I = _
  unfold fX9_search_k19
  refine tt_iload rfl ?_
  refine tt_if ?_ ?_
  · skip
    refine tt_aload rfl ?_
    refine tt_getr (q := 12) rfl rfl ?_
    refine tt_iload rfl ?_
    refine tt_ald (x := (I 12 (Int32.toNatClampNeg v1))) rfl rfl ?_
    refine tt_if ?_ ?_
    · skip
      refine tt_mask rfl ?_
      exact rfl
    · skip
      refine tt_aload rfl ?_
      refine tt_getr (q := 3) rfl rfl ?_
      refine tt_const ?_
      refine tt_iload rfl ?_
      refine tt_bin ?_
      refine tt_ald (x := (I 3 ((Int32.toNatClampNeg (gb_add 131 v1))))) rfl rfl ?_
      refine tt_iload rfl ?_
      refine tt_bin ?_
      refine tt_if ?_ ?_
      · skip
        refine tt_mask rfl ?_
        exact rfl
      · skip
        refine tt_const ?_
        refine tt_mask rfl ?_
        exact rfl
  · skip
    refine tt_aload rfl ?_
    refine tt_iload rfl ?_
    refine tt_put rfl rfl ?_
    refine tt_aload rfl ?_
    refine tt_iload rfl ?_
    refine tt_put rfl rfl ?_
    exact rfl
set_option maxRecDepth 100000 in
theorem eX9_search_62 (N : Nat) (g : List Value → gM → Option (gR × gM)) (v1 : Int32) (v2 : Int32) (v3 : Int32) (v4 : Int32) (I : gM) : hX9_search_62 N g v1 v2 v3 v4 I =
  (hX9_search_63 N g v1 v2 v3 v4 0 I) := by
  show (fX9_search_k62 N g) [some (.ref 0), some (.int v1), some (.int v2), some (.int v3), some (.int v4), none, none, none] [] I = _
  unfold fX9_search_k62
  refine tt_const ?_
  refine tt_mask rfl ?_
  exact rfl
set_option maxRecDepth 100000 in
theorem eX9_search_63 (N : Nat) (g : List Value → gM → Option (gR × gM)) (v1 : Int32) (v2 : Int32) (v3 : Int32) (v4 : Int32) (s0 : Int32) (I : gM) : hX9_search_63 N g v1 v2 v3 v4 s0 I =
  (ck 14 v1 <| if gz_eq s0 = true then (hX9_search_93 N g v1 v2 v3 s0 ((gb_sub v4 ((I 12 (Int32.toNatClampNeg v1))))) I) else (hI (fX9_hasRival N [.ref 0, .int v1] (gS (rg 0 18) I)) (rg 0 18) I fun x1 I1 => if gz_ne x1 = true then (hX9_search_93 N g v1 v2 v3 s0 ((gb_sub v4 ((I 12 (Int32.toNatClampNeg v1))))) I1) else (hX9_search_94 N g v1 v2 v3 s0 ((gb_sub v4 ((I 12 (Int32.toNatClampNeg v1))))) 1 I1))) := by
  show (fX9_search_k63 N g) [some (.ref 0), some (.int v1), some (.int v2), some (.int v3), some (.int v4), none, none, none] [.int s0] I = _
  unfold fX9_search_k63
  refine tt_istore (L2 := [some (.ref 0), some (.int v1), some (.int v2), some (.int v3), some (.int v4), some (.int s0), none, none]) (tt_lt rfl) rfl ?_
  refine tt_iload rfl ?_
  refine tt_aload rfl ?_
  refine tt_getr (q := 12) rfl rfl ?_
  refine tt_iload rfl ?_
  refine tt_ald (x := (I 12 (Int32.toNatClampNeg v1))) rfl rfl ?_
  refine tt_bin ?_
  refine tt_istore (L2 := [some (.ref 0), some (.int v1), some (.int v2), some (.int v3), some (.int v4), some (.int s0), some (.int ((gb_sub v4 ((I 12 (Int32.toNatClampNeg v1)))))), none]) (tt_lt rfl) rfl ?_
  refine tt_iload rfl ?_
  refine tt_if ?_ ?_
  · skip
    refine tt_mask rfl ?_
    exact rfl
  · skip
    refine tt_aload rfl ?_
    refine tt_iload rfl ?_
    refine tt_cavI (t := []) ⟨Nat.le_of_ble_eq_true rfl, Nat.le_of_ble_eq_true rfl⟩ rfl rfl rfl (fun x1 I1 => ?_)
    refine tt_if ?_ ?_
    · skip
      refine tt_mask rfl ?_
      exact rfl
    · skip
      refine tt_const ?_
      refine tt_mask rfl ?_
      exact rfl
set_option maxRecDepth 100000 in
theorem eX9_search_93 (N : Nat) (g : List Value → gM → Option (gR × gM)) (v1 : Int32) (v2 : Int32) (v3 : Int32) (v5 : Int32) (v6 : Int32) (I : gM) : hX9_search_93 N g v1 v2 v3 v5 v6 I =
  (hX9_search_94 N g v1 v2 v3 v5 v6 0 I) := by
  show (fX9_search_k93 N g) [some (.ref 0), some (.int v1), some (.int v2), some (.int v3), none, some (.int v5), some (.int v6), none] [] I = _
  unfold fX9_search_k93
  refine tt_const ?_
  refine tt_mask rfl ?_
  exact rfl
set_option maxRecDepth 100000 in
theorem eX9_search_94 (N : Nat) (g : List Value → gM → Option (gR × gM)) (v1 : Int32) (v2 : Int32) (v3 : Int32) (v5 : Int32) (v6 : Int32) (s0 : Int32) (I : gM) : hX9_search_94 N g v1 v2 v3 v5 v6 s0 I =
  (if gz_ne s0 = true then (hX9_search_112 N g v1 v2 v3 v5 v6 I) else (hV (g [.ref 0, .int (gb_sub v1 1), .int v2, .int v3, .int v6] (gS (rg 0 18) I)) (rg 0 18) I fun I2 => hX9_search_112 N g v1 v2 v3 v5 v6 I2)) := by
  show (fX9_search_k94 N g) [some (.ref 0), some (.int v1), some (.int v2), some (.int v3), none, some (.int v5), some (.int v6), none] [.int s0] I = _
  unfold fX9_search_k94
  refine tt_istore (L2 := [some (.ref 0), some (.int v1), some (.int v2), some (.int v3), none, some (.int v5), some (.int v6), some (.int s0)]) (tt_lt rfl) rfl ?_
  refine tt_iload rfl ?_
  refine tt_if ?_ ?_
  · skip
    refine tt_mask rfl ?_
    exact rfl
  · skip
    refine tt_aload rfl ?_
    refine tt_iload rfl ?_
    refine tt_const ?_
    refine tt_bin ?_
    refine tt_iload rfl ?_
    refine tt_iload rfl ?_
    refine tt_iload rfl ?_
    refine tt_cavV (t := []) ⟨Nat.le_of_ble_eq_true rfl, Nat.le_of_ble_eq_true rfl⟩ rfl rfl rfl (fun I2 => ?_)
    refine tt_mask rfl ?_
    exact rfl
set_option maxRecDepth 100000 in
theorem eX9_search_112 (N : Nat) (g : List Value → gM → Option (gR × gM)) (v1 : Int32) (v2 : Int32) (v3 : Int32) (v5 : Int32) (v6 : Int32) (I : gM) : hX9_search_112 N g v1 v2 v3 v5 v6 I =
  (if gz_eq v5 = true then (some (.inl none, I)) else (ck 14 v1 <| hV (g [.ref 0, .int (gb_sub v1 1), .int ((gb_or v2 (gb_shl 1 v1))), .int ((gb_add v3 ((I 12 (Int32.toNatClampNeg v1))))), .int v6] (gS (rg 0 18) I)) (rg 0 18) I fun I3 => some (.inl none, I3))) := by
  show (fX9_search_k112 N g) [some (.ref 0), some (.int v1), some (.int v2), some (.int v3), none, some (.int v5), some (.int v6), none] [] I = _
  unfold fX9_search_k112
  refine tt_iload rfl ?_
  refine tt_if ?_ ?_
  · skip
    exact rfl
  · skip
    refine tt_aload rfl ?_
    refine tt_iload rfl ?_
    refine tt_const ?_
    refine tt_bin ?_
    refine tt_iload rfl ?_
    refine tt_const ?_
    refine tt_iload rfl ?_
    refine tt_bin ?_
    refine tt_bin ?_
    refine tt_iload rfl ?_
    refine tt_aload rfl ?_
    refine tt_getr (q := 12) rfl rfl ?_
    refine tt_iload rfl ?_
    refine tt_ald (x := (I 12 (Int32.toNatClampNeg v1))) rfl rfl ?_
    refine tt_bin ?_
    refine tt_iload rfl ?_
    refine tt_cavV (t := []) ⟨Nat.le_of_ble_eq_true rfl, Nat.le_of_ble_eq_true rfl⟩ rfl rfl rfl (fun I3 => ?_)
    exact rfl
theorem eX9_search (N d : Nat) (v1 : Int32) (v2 : Int32) (v3 : Int32) (v4 : Int32) (I : gM) : fX9_search N (d + 1) [.ref 0, .int v1, .int v2, .int v3, .int v4] I = hX9_search_0 N (fX9_search N d) v1 v2 v3 v4 I := by
  show gFn 8 (fX9_search_k0 N (fX9_search N d)) [.ref 0, .int v1, .int v2, .int v3, .int v4] I = (fX9_search_k0 N (fX9_search N d)) [some (.ref 0), some (.int v1), some (.int v2), some (.int v3), some (.int v4), none, none, none] [] I
  exact tt_fn rfl rfl

def hX9_exact_0 (N : Nat) (I : gM) : gO := fX9_exact_k0 N [some (.ref 0), none, none] [] I
def hX9_exact_4 (N : Nat) (n4 : Nat) (v1 : Int32) (v2 : Int32) (I : gM) : gO := s_lp (fX9_exact_b4 N) n4 [some (.ref 0), some (.int v1), some (.int v2)] [] I
set_option maxRecDepth 100000 in
theorem eX9_exact_0 (N : Nat) (I : gM) : hX9_exact_0 N I =
  (hX9_exact_4 N N 0 0 I) := by
  show (fX9_exact_k0 N) [some (.ref 0), none, none] [] I = _
  unfold fX9_exact_k0
  refine tt_const ?_
  refine tt_istore (L2 := [some (.ref 0), some (.int 0), none]) (tt_lt rfl) rfl ?_
  refine tt_const ?_
  refine tt_istore (L2 := [some (.ref 0), some (.int 0), some (.int 0)]) (tt_lt rfl) rfl ?_
  refine tt_mask rfl ?_
  exact rfl
set_option maxRecDepth 100000 in
theorem eX9_exact_4 (N : Nat) (n4 : Nat) (v1 : Int32) (v2 : Int32) (I : gM) : hX9_exact_4 N (n4 + 1) v1 v2 I =
  (ck 2746 1 <| if gc_ge v2 ((I 3 (Int32.toNatClampNeg 1))) = true then (ck 2746 1 <| hV (fX9_search N 16 [.ref 0, .int ((gb_sub ((I 3 (Int32.toNatClampNeg 1))) 1)), .int 0, .int 0, .int v1] (gS (rg 0 18) (gU (gU I 0 23 0) 0 24 (-1)))) (rg 0 18) (gU (gU I 0 23 0) 0 24 (-1)) fun I1 => some (.inl (some (.int (I1 0 23))), I1)) else (ck 14 v2 <| hX9_exact_4 N n4 ((gb_add v1 ((I 12 (Int32.toNatClampNeg v2))))) (v2 + 1) I)) := by
  show (fX9_exact_b4 N (s_lp (fX9_exact_b4 N) n4)) [some (.ref 0), some (.int v1), some (.int v2)] [] I = _
  unfold fX9_exact_b4
  refine tt_iload rfl ?_
  refine tt_aload rfl ?_
  refine tt_getr (q := 3) rfl rfl ?_
  refine tt_const ?_
  refine tt_ald (x := (I 3 (Int32.toNatClampNeg 1))) rfl rfl ?_
  refine tt_cmp ?_ ?_
  · skip
    refine tt_aload rfl ?_
    refine tt_const ?_
    refine tt_put rfl rfl ?_
    refine tt_aload rfl ?_
    refine tt_const ?_
    refine tt_put rfl rfl ?_
    refine tt_aload rfl ?_
    refine tt_aload rfl ?_
    refine tt_getr (q := 3) rfl rfl ?_
    refine tt_const ?_
    refine tt_ald (x := (I 3 (Int32.toNatClampNeg 1))) rfl rfl ?_
    refine tt_const ?_
    refine tt_bin ?_
    refine tt_const ?_
    refine tt_const ?_
    refine tt_iload rfl ?_
    refine tt_cavV (t := []) ⟨Nat.le_of_ble_eq_true rfl, Nat.le_of_ble_eq_true rfl⟩ rfl rfl rfl (fun I1 => ?_)
    refine tt_aload rfl ?_
    refine tt_get (x := (I1 0 23)) rfl rfl rfl ?_
    exact rfl
  · skip
    refine tt_iload rfl ?_
    refine tt_aload rfl ?_
    refine tt_getr (q := 12) rfl rfl ?_
    refine tt_iload rfl ?_
    refine tt_ald (x := (I 12 (Int32.toNatClampNeg v2))) rfl rfl ?_
    refine tt_bin ?_
    refine tt_istore (L2 := [some (.ref 0), some (.int ((gb_add v1 ((I 12 (Int32.toNatClampNeg v2)))))), some (.int v2)]) (tt_lt rfl) rfl ?_
    refine tt_iinc (L2 := [some (.ref 0), some (.int ((gb_add v1 ((I 12 (Int32.toNatClampNeg v2)))))), some (.int (v2 + 1))]) rfl rfl ?_
    refine tt_mask rfl ?_
    exact rfl
theorem eX9_exact_4z (N : Nat) (v1 : Int32) (v2 : Int32) (I : gM) : hX9_exact_4 N 0 v1 v2 I = none := (rfl)
set_option maxRecDepth 100000 in
theorem eX9_exact (N : Nat) (I : gM) : fX9_exact N [.ref 0] I = hX9_exact_0 N I := by
  show gFn 3 (fX9_exact_k0 N) [.ref 0] I = (fX9_exact_k0 N) [some (.ref 0), none, none] [] I
  exact tt_fn rfl rfl

def hX9_scheduleBy_0 (N : Nat) (v1 : Int32) (I : gM) : gO := fX9_scheduleBy_k0 N [some (.ref 0), some (.int v1)] [] I
set_option maxRecDepth 100000 in
theorem eX9_scheduleBy_0 (N : Nat) (v1 : Int32) (I : gM) : hX9_scheduleBy_0 N v1 I =
  (hV (fX9_layWeights N [.ref 0] (gS (rg 0 18) I)) (rg 0 18) I fun I1 => if gz_ne v1 = true then (hI (fX9_exact N [.ref 0] (gS (rg 0 18) I1)) (rg 0 18) I1 fun x2 I2 => some (.inl (some (.int x2)), I2)) else (hI (fX9_greedy N [.ref 0] (gS (rg 0 18) I1)) (rg 0 18) I1 fun x3 I3 => some (.inl (some (.int x3)), I3))) := by
  show (fX9_scheduleBy_k0 N) [some (.ref 0), some (.int v1)] [] I = _
  unfold fX9_scheduleBy_k0
  refine tt_aload rfl ?_
  refine tt_cavV (t := []) ⟨Nat.le_of_ble_eq_true rfl, Nat.le_of_ble_eq_true rfl⟩ rfl rfl rfl (fun I1 => ?_)
  refine tt_iload rfl ?_
  refine tt_if ?_ ?_
  · skip
    refine tt_aload rfl ?_
    refine tt_cavI (t := []) ⟨Nat.le_of_ble_eq_true rfl, Nat.le_of_ble_eq_true rfl⟩ rfl rfl rfl (fun x2 I2 => ?_)
    exact rfl
  · skip
    refine tt_aload rfl ?_
    refine tt_cavI (t := []) ⟨Nat.le_of_ble_eq_true rfl, Nat.le_of_ble_eq_true rfl⟩ rfl rfl rfl (fun x3 I3 => ?_)
    exact rfl
set_option maxRecDepth 100000 in
theorem eX9_scheduleBy (N : Nat) (v1 : Int32) (I : gM) : fX9_scheduleBy N [.ref 0, .int v1] I = hX9_scheduleBy_0 N v1 I := by
  show gFn 2 (fX9_scheduleBy_k0 N) [.ref 0, .int v1] I = (fX9_scheduleBy_k0 N) [some (.ref 0), some (.int v1)] [] I
  exact tt_fn rfl rfl

def hX9_slot_0 (N : Nat) (I : gM) : gO := fX9_slot_k0 N [some (.ref 0)] [] I
def hX9_slot_19 (N : Nat) (I : gM) : gO := fX9_slot_k19 N [some (.ref 0)] [] I
set_option maxRecDepth 100000 in
theorem eX9_slot_0 (N : Nat) (I : gM) : hX9_slot_0 N I =
  (hV (fX9_arrivals N [.ref 0] (gS (rg 0 18) I)) (rg 0 18) I fun I1 => ck 2746 6 <| hI (fX9_scheduleBy N [.ref 0, .int ((I1 3 (Int32.toNatClampNeg 6)))] (gS (rg 0 18) I1)) (rg 0 18) I1 fun x2 I2 => hV (fX9_transmit N [.ref 0, .int x2] (gS (rg 0 18) I2)) (rg 0 18) I2 fun I3 => hX9_slot_19 N I3) := by
  show (fX9_slot_k0 N) [some (.ref 0)] [] I = _
  unfold fX9_slot_k0
  refine tt_aload rfl ?_
  refine tt_cavV (t := []) ⟨Nat.le_of_ble_eq_true rfl, Nat.le_of_ble_eq_true rfl⟩ rfl rfl rfl (fun I1 => ?_)
  refine tt_aload rfl ?_
  refine tt_aload rfl ?_
  refine tt_aload rfl ?_
  refine tt_getr (q := 3) rfl rfl ?_
  refine tt_const ?_
  refine tt_ald (x := (I1 3 (Int32.toNatClampNeg 6))) rfl rfl ?_
  refine tt_cavI (t := [.ref 0]) ⟨Nat.le_of_ble_eq_true rfl, Nat.le_of_ble_eq_true rfl⟩ rfl rfl rfl (fun x2 I2 => ?_)
  refine tt_cavV (t := []) ⟨Nat.le_of_ble_eq_true rfl, Nat.le_of_ble_eq_true rfl⟩ rfl rfl rfl (fun I3 => ?_)
  refine tt_mask rfl ?_
  exact rfl
set_option maxRecDepth 100000 in
theorem eX9_slot_19 (N : Nat) (I : gM) : hX9_slot_19 N I =
  (hV (fX9_expire N [.ref 0] (gS (rg 0 18) I)) (rg 0 18) I fun I4 => ck 2746 7 <| ck 2746 7 <| ck 2746 8 <| ck 2746 245 <| ck 2746 8 <| some (.inl none, (gU (gU I4 3 (Int32.toNatClampNeg 7) ((gb_add ((I4 3 (Int32.toNatClampNeg 7))) 1))) 3 (Int32.toNatClampNeg 8) ((gj_max (((gU I4 3 (Int32.toNatClampNeg 7) ((gb_add ((I4 3 (Int32.toNatClampNeg 7))) 1))) 3 (Int32.toNatClampNeg 8))) (((gU I4 3 (Int32.toNatClampNeg 7) ((gb_add ((I4 3 (Int32.toNatClampNeg 7))) 1))) 3 (Int32.toNatClampNeg 245)))))))) := by
  show (fX9_slot_k19 N) [some (.ref 0)] [] I = _
  unfold fX9_slot_k19
  refine tt_aload rfl ?_
  refine tt_cavV (t := []) ⟨Nat.le_of_ble_eq_true rfl, Nat.le_of_ble_eq_true rfl⟩ rfl rfl rfl (fun I4 => ?_)
  refine tt_aload rfl ?_
  refine tt_getr (q := 3) rfl rfl ?_
  refine tt_const ?_
  refine tt_dup2 rfl rfl ?_
  refine tt_ald (x := (I4 3 (Int32.toNatClampNeg 7))) rfl rfl ?_
  refine tt_const ?_
  refine tt_bin ?_
  refine tt_ast (v := (gb_add ((I4 3 (Int32.toNatClampNeg 7))) 1)) rfl rfl ?_
  refine tt_aload rfl ?_
  refine tt_getr (q := 3) rfl rfl ?_
  refine tt_const ?_
  refine tt_aload rfl ?_
  refine tt_getr (q := 3) rfl rfl ?_
  refine tt_const ?_
  refine tt_ald (x := ((gU I4 3 (Int32.toNatClampNeg 7) ((gb_add ((I4 3 (Int32.toNatClampNeg 7))) 1))) 3 (Int32.toNatClampNeg 8))) rfl rfl ?_
  refine tt_aload rfl ?_
  refine tt_getr (q := 3) rfl rfl ?_
  refine tt_const ?_
  refine tt_ald (x := ((gU I4 3 (Int32.toNatClampNeg 7) ((gb_add ((I4 3 (Int32.toNatClampNeg 7))) 1))) 3 (Int32.toNatClampNeg 245))) rfl rfl ?_
  refine tt_jmath (Nat.le_of_ble_eq_true rfl) ?_
  refine tt_ast (v := (gj_max (((gU I4 3 (Int32.toNatClampNeg 7) ((gb_add ((I4 3 (Int32.toNatClampNeg 7))) 1))) 3 (Int32.toNatClampNeg 8))) (((gU I4 3 (Int32.toNatClampNeg 7) ((gb_add ((I4 3 (Int32.toNatClampNeg 7))) 1))) 3 (Int32.toNatClampNeg 245))))) rfl rfl ?_
  exact rfl
set_option maxRecDepth 100000 in
theorem eX9_slot (N : Nat) (I : gM) : fX9_slot N [.ref 0] I = hX9_slot_0 N I := by
  show gFn 1 (fX9_slot_k0 N) [.ref 0] I = (fX9_slot_k0 N) [some (.ref 0)] [] I
  exact tt_fn rfl rfl

def hX9_slots_0 (N : Nat) (v1 : Int32) (I : gM) : gO := fX9_slots_k0 N [some (.ref 0), some (.int v1), none] [] I
def hX9_slots_2 (N : Nat) (n2 : Nat) (v1 : Int32) (v2 : Int32) (I : gM) : gO := s_lp (fX9_slots_b2 N) n2 [some (.ref 0), some (.int v1), some (.int v2)] [] I
set_option maxRecDepth 100000 in
theorem eX9_slots_0 (N : Nat) (v1 : Int32) (I : gM) : hX9_slots_0 N v1 I =
  (hX9_slots_2 N N v1 0 I) := by
  show (fX9_slots_k0 N) [some (.ref 0), some (.int v1), none] [] I = _
  unfold fX9_slots_k0
  refine tt_const ?_
  refine tt_istore (L2 := [some (.ref 0), some (.int v1), some (.int 0)]) (tt_lt rfl) rfl ?_
  refine tt_mask rfl ?_
  exact rfl
set_option maxRecDepth 100000 in
theorem eX9_slots_2 (N : Nat) (n2 : Nat) (v1 : Int32) (v2 : Int32) (I : gM) : hX9_slots_2 N (n2 + 1) v1 v2 I =
  (if gc_ge v2 v1 = true then (some (.inl none, I)) else (hV (fX9_slot N [.ref 0] (gS (rg 0 18) I)) (rg 0 18) I fun I1 => hX9_slots_2 N n2 v1 (v2 + 1) I1)) := by
  show (fX9_slots_b2 N (s_lp (fX9_slots_b2 N) n2)) [some (.ref 0), some (.int v1), some (.int v2)] [] I = _
  unfold fX9_slots_b2
  refine tt_iload rfl ?_
  refine tt_iload rfl ?_
  refine tt_cmp ?_ ?_
  · skip
    exact rfl
  · skip
    refine tt_aload rfl ?_
    refine tt_cavV (t := []) ⟨Nat.le_of_ble_eq_true rfl, Nat.le_of_ble_eq_true rfl⟩ rfl rfl rfl (fun I1 => ?_)
    refine tt_iinc (L2 := [some (.ref 0), some (.int v1), some (.int (v2 + 1))]) rfl rfl ?_
    refine tt_mask rfl ?_
    exact rfl
theorem eX9_slots_2z (N : Nat) (v1 : Int32) (v2 : Int32) (I : gM) : hX9_slots_2 N 0 v1 v2 I = none := (rfl)
set_option maxRecDepth 100000 in
theorem eX9_slots (N : Nat) (v1 : Int32) (I : gM) : fX9_slots N [.ref 0, .int v1] I = hX9_slots_0 N v1 I := by
  show gFn 3 (fX9_slots_k0 N) [.ref 0, .int v1] I = (fX9_slots_k0 N) [some (.ref 0), some (.int v1), none] [] I
  exact tt_fn rfl rfl

def hX9_run_0 (N : Nat) (v1 : Int32) (I : gM) : gO := fX9_run_k0 N [some (.ref 0), some (.int v1)] [] I
def hX9_run_32 (N : Nat) (v1 : Int32) (I : gM) : gO := fX9_run_k32 N [some (.ref 0), some (.int v1)] [.ref 0] I
def hX9_run_33 (N : Nat) (v1 : Int32) (s1 : Int32) (I : gM) : gO := fX9_run_k33 N [some (.ref 0), some (.int v1)] [.int s1, .ref 0] I
def hX9_run_51 (N : Nat) (I : gM) : gO := fX9_run_k51 N [some (.ref 0), none] [] I
set_option maxRecDepth 100000 in
theorem eX9_run_0 (N : Nat) (v1 : Int32) (I : gM) : hX9_run_0 N v1 I =
  (hI (fX9_areSlots N [.int v1] (gS [] (gU I 0 0 0))) [] (gU I 0 0 0) fun x1 I1 => if gz_eq x1 = true then (hX9_run_32 N v1 I1) else (ck 2746 7 <| if gc_gt ((gb_add ((I1 3 (Int32.toNatClampNeg 7))) v1)) 9999 = true then (hX9_run_32 N v1 I1) else (hX9_run_33 N v1 1 I1))) := by
  show (fX9_run_k0 N) [some (.ref 0), some (.int v1)] [] I = _
  unfold fX9_run_k0
  refine tt_aload rfl ?_
  refine tt_const ?_
  refine tt_put rfl rfl ?_
  refine tt_aload rfl ?_
  refine tt_iload rfl ?_
  refine tt_caI (t := [.ref 0]) ⟨Nat.le_of_ble_eq_true rfl, Nat.le_of_ble_eq_true rfl⟩ rfl rfl rfl (fun x1 I1 => ?_)
  refine tt_if ?_ ?_
  · skip
    refine tt_mask rfl ?_
    exact rfl
  · skip
    refine tt_aload rfl ?_
    refine tt_getr (q := 3) rfl rfl ?_
    refine tt_const ?_
    refine tt_ald (x := (I1 3 (Int32.toNatClampNeg 7))) rfl rfl ?_
    refine tt_iload rfl ?_
    refine tt_bin ?_
    refine tt_const ?_
    refine tt_cmp ?_ ?_
    · skip
      refine tt_mask rfl ?_
      exact rfl
    · skip
      refine tt_const ?_
      refine tt_mask rfl ?_
      exact rfl
set_option maxRecDepth 100000 in
theorem eX9_run_32 (N : Nat) (v1 : Int32) (I : gM) : hX9_run_32 N v1 I =
  (hX9_run_33 N v1 0 I) := by
  show (fX9_run_k32 N) [some (.ref 0), some (.int v1)] [.ref 0] I = _
  unfold fX9_run_k32
  refine tt_const ?_
  refine tt_mask rfl ?_
  exact rfl
set_option maxRecDepth 100000 in
theorem eX9_run_33 (N : Nat) (v1 : Int32) (s1 : Int32) (I : gM) : hX9_run_33 N v1 s1 I =
  (hI (fX9_fails N [.ref 0, .int s1, .int 1] (gS (rg 0 18) I)) (rg 0 18) I fun x2 I2 => if gz_eq x2 = true then (hV (fX9_record N [.ref 0] (gS (rg 0 18) I2)) (rg 0 18) I2 fun I3 => hV (fX9_slots N [.ref 0, .int v1] (gS (rg 0 18) I3)) (rg 0 18) I3 fun I4 => hX9_run_51 N I4) else (some (.inl (some (.int 0)), I2))) := by
  show (fX9_run_k33 N) [some (.ref 0), some (.int v1)] [.int s1, .ref 0] I = _
  unfold fX9_run_k33
  refine tt_const ?_
  refine tt_cavI (t := []) ⟨Nat.le_of_ble_eq_true rfl, Nat.le_of_ble_eq_true rfl⟩ rfl rfl rfl (fun x2 I2 => ?_)
  refine tt_if ?_ ?_
  · skip
    refine tt_aload rfl ?_
    refine tt_cavV (t := []) ⟨Nat.le_of_ble_eq_true rfl, Nat.le_of_ble_eq_true rfl⟩ rfl rfl rfl (fun I3 => ?_)
    refine tt_aload rfl ?_
    refine tt_iload rfl ?_
    refine tt_cavV (t := []) ⟨Nat.le_of_ble_eq_true rfl, Nat.le_of_ble_eq_true rfl⟩ rfl rfl rfl (fun I4 => ?_)
    refine tt_mask rfl ?_
    exact rfl
  · skip
    refine tt_const ?_
    exact rfl
set_option maxRecDepth 100000 in
theorem eX9_run_51 (N : Nat) (I : gM) : hX9_run_51 N I =
  (ck 2746 245 <| some (.inl (some (.int ((I 3 (Int32.toNatClampNeg 245))))), I)) := by
  show (fX9_run_k51 N) [some (.ref 0), none] [] I = _
  unfold fX9_run_k51
  refine tt_aload rfl ?_
  refine tt_getr (q := 3) rfl rfl ?_
  refine tt_const ?_
  refine tt_ald (x := (I 3 (Int32.toNatClampNeg 245))) rfl rfl ?_
  exact rfl
set_option maxRecDepth 100000 in
theorem eX9_run (N : Nat) (v1 : Int32) (I : gM) : fX9_run N [.ref 0, .int v1] I = hX9_run_0 N v1 I := by
  show gFn 2 (fX9_run_k0 N) [.ref 0, .int v1] I = (fX9_run_k0 N) [some (.ref 0), some (.int v1)] [] I
  exact tt_fn rfl rfl

def hX9_carries_0 (N : Nat) (v1 : Int32) (I : gM) : gO := fX9_carries_k0 N [some (.ref 0), some (.int v1), none, none, none, none] [] I
def hX9_carries_37 (N : Nat) (n37 : Nat) (v1 : Int32) (v2 : Int32) (v3 : Int32) (v4 : Int32) (I : gM) : gO := s_lp (fX9_carries_b37 N) n37 [some (.ref 0), some (.int v1), some (.int v2), some (.int v3), some (.int v4), none] [] I
def hX9_carries_79 (N : Nat) (n37 : Nat) (v1 : Int32) (v2 : Int32) (v3 : Int32) (v4 : Int32) (I : gM) : gO := fX9_carries_k79 N (s_lp (fX9_carries_b37 N) n37) [some (.ref 0), some (.int v1), some (.int v2), some (.int v3), some (.int v4), none] [] I
def hX9_carries_80 (N : Nat) (n37 : Nat) (v1 : Int32) (v2 : Int32) (v3 : Int32) (v4 : Int32) (s0 : Int32) (I : gM) : gO := fX9_carries_k80 N (s_lp (fX9_carries_b37 N) n37) [some (.ref 0), some (.int v1), some (.int v2), some (.int v3), some (.int v4), none] [.int s0] I
def hX9_carries_111 (N : Nat) (n37 : Nat) (v1 : Int32) (v2 : Int32) (v4 : Int32) (s0 : Int32) (I : gM) : gO := fX9_carries_k111 N (s_lp (fX9_carries_b37 N) n37) [some (.ref 0), some (.int v1), some (.int v2), none, some (.int v4), none] [.int s0] I
def hX9_carries_112 (N : Nat) (n37 : Nat) (v1 : Int32) (v2 : Int32) (v4 : Int32) (s0 : Int32) (s1 : Int32) (I : gM) : gO := fX9_carries_k112 N (s_lp (fX9_carries_b37 N) n37) [some (.ref 0), some (.int v1), some (.int v2), none, some (.int v4), none] [.int s1, .int s0] I
set_option maxRecDepth 100000 in
theorem eX9_carries_0 (N : Nat) (v1 : Int32) (I : gM) : hX9_carries_0 N v1 I =
  (ck 2746 6 <| hI (fX9_scheduleBy N [.ref 0, .int ((I 3 (Int32.toNatClampNeg 6)))] (gS (rg 0 18) I)) (rg 0 18) I fun x1 I1 => hI (fX9_linkPart N [.ref 0, .int v1, .int 0] (gS (rg 0 18) I1)) (rg 0 18) I1 fun x2 I2 => ck 14 v1 <| ck 100 ((gb_add (gb_mul 10 x2) ((I2 11 (Int32.toNatClampNeg v1))))) <| hX9_carries_37 N N v1 x1 ((I2 10 ((Int32.toNatClampNeg ((gb_add (gb_mul 10 x2) ((I2 11 (Int32.toNatClampNeg v1))))))))) 0 I2) := by
  show (fX9_carries_k0 N) [some (.ref 0), some (.int v1), none, none, none, none] [] I = _
  unfold fX9_carries_k0
  refine tt_aload rfl ?_
  refine tt_aload rfl ?_
  refine tt_getr (q := 3) rfl rfl ?_
  refine tt_const ?_
  refine tt_ald (x := (I 3 (Int32.toNatClampNeg 6))) rfl rfl ?_
  refine tt_cavI (t := []) ⟨Nat.le_of_ble_eq_true rfl, Nat.le_of_ble_eq_true rfl⟩ rfl rfl rfl (fun x1 I1 => ?_)
  refine tt_istore (L2 := [some (.ref 0), some (.int v1), some (.int x1), none, none, none]) (tt_lt rfl) rfl ?_
  refine tt_aload rfl ?_
  refine tt_getr (q := 10) rfl rfl ?_
  refine tt_const ?_
  refine tt_aload rfl ?_
  refine tt_iload rfl ?_
  refine tt_const ?_
  refine tt_cavI (t := [.int 10, .ref 10]) ⟨Nat.le_of_ble_eq_true rfl, Nat.le_of_ble_eq_true rfl⟩ rfl rfl rfl (fun x2 I2 => ?_)
  refine tt_bin ?_
  refine tt_aload rfl ?_
  refine tt_getr (q := 11) rfl rfl ?_
  refine tt_iload rfl ?_
  refine tt_ald (x := (I2 11 (Int32.toNatClampNeg v1))) rfl rfl ?_
  refine tt_bin ?_
  refine tt_ald (x := (I2 10 ((Int32.toNatClampNeg ((gb_add (gb_mul 10 x2) ((I2 11 (Int32.toNatClampNeg v1))))))))) rfl rfl ?_
  refine tt_istore (L2 := [some (.ref 0), some (.int v1), some (.int x1), some (.int ((I2 10 ((Int32.toNatClampNeg ((gb_add (gb_mul 10 x2) ((I2 11 (Int32.toNatClampNeg v1)))))))))), none, none]) (tt_lt rfl) rfl ?_
  refine tt_const ?_
  refine tt_istore (L2 := [some (.ref 0), some (.int v1), some (.int x1), some (.int ((I2 10 ((Int32.toNatClampNeg ((gb_add (gb_mul 10 x2) ((I2 11 (Int32.toNatClampNeg v1)))))))))), some (.int 0), none]) (tt_lt rfl) rfl ?_
  refine tt_mask rfl ?_
  exact rfl
set_option maxRecDepth 100000 in
theorem eX9_carries_37 (N : Nat) (n37 : Nat) (v1 : Int32) (v2 : Int32) (v3 : Int32) (v4 : Int32) (I : gM) : hX9_carries_37 N (n37 + 1) v1 v2 v3 v4 I =
  (if gc_ge v4 v1 = true then (hI (fX9_linkPart N [.ref 0, .int v1, .int 2] (gS (rg 0 18) I)) (rg 0 18) I fun x3 I3 => some (.inl (some (.int (gj_min v3 x3))), I3)) else (hI (fX9_linkPart N [.ref 0, .int v4, .int 0] (gS (rg 0 18) I)) (rg 0 18) I fun x4 I4 => hI (fX9_linkPart N [.ref 0, .int v1, .int 0] (gS (rg 0 18) I4)) (rg 0 18) I4 fun x5 I5 => if gc_ne x4 x5 = true then (hX9_carries_79 N n37 v1 v2 v3 v4 I5) else (ck 14 v4 <| ck 14 v1 <| if gc_ne ((I5 11 (Int32.toNatClampNeg v4))) ((I5 11 (Int32.toNatClampNeg v1))) = true then (hX9_carries_79 N n37 v1 v2 v3 v4 I5) else (hX9_carries_80 N n37 v1 v2 v3 v4 1 I5)))) := by
  show (fX9_carries_b37 N (s_lp (fX9_carries_b37 N) n37)) [some (.ref 0), some (.int v1), some (.int v2), some (.int v3), some (.int v4), none] [] I = _
  unfold fX9_carries_b37
  refine tt_iload rfl ?_
  refine tt_iload rfl ?_
  refine tt_cmp ?_ ?_
  · skip
    refine tt_iload rfl ?_
    refine tt_aload rfl ?_
    refine tt_iload rfl ?_
    refine tt_const ?_
    refine tt_cavI (t := [.int v3]) ⟨Nat.le_of_ble_eq_true rfl, Nat.le_of_ble_eq_true rfl⟩ rfl rfl rfl (fun x3 I3 => ?_)
    refine tt_jmath (Nat.le_of_ble_eq_true rfl) ?_
    exact rfl
  · skip
    refine tt_aload rfl ?_
    refine tt_iload rfl ?_
    refine tt_const ?_
    refine tt_cavI (t := []) ⟨Nat.le_of_ble_eq_true rfl, Nat.le_of_ble_eq_true rfl⟩ rfl rfl rfl (fun x4 I4 => ?_)
    refine tt_aload rfl ?_
    refine tt_iload rfl ?_
    refine tt_const ?_
    refine tt_cavI (t := [.int x4]) ⟨Nat.le_of_ble_eq_true rfl, Nat.le_of_ble_eq_true rfl⟩ rfl rfl rfl (fun x5 I5 => ?_)
    refine tt_cmp ?_ ?_
    · skip
      refine tt_mask rfl ?_
      exact rfl
    · skip
      refine tt_aload rfl ?_
      refine tt_getr (q := 11) rfl rfl ?_
      refine tt_iload rfl ?_
      refine tt_ald (x := (I5 11 (Int32.toNatClampNeg v4))) rfl rfl ?_
      refine tt_aload rfl ?_
      refine tt_getr (q := 11) rfl rfl ?_
      refine tt_iload rfl ?_
      refine tt_ald (x := (I5 11 (Int32.toNatClampNeg v1))) rfl rfl ?_
      refine tt_cmp ?_ ?_
      · skip
        refine tt_mask rfl ?_
        exact rfl
      · skip
        refine tt_const ?_
        refine tt_mask rfl ?_
        exact rfl
theorem eX9_carries_37z (N : Nat) (v1 : Int32) (v2 : Int32) (v3 : Int32) (v4 : Int32) (I : gM) : hX9_carries_37 N 0 v1 v2 v3 v4 I = none := (rfl)
set_option maxRecDepth 100000 in
theorem eX9_carries_79 (N : Nat) (n37 : Nat) (v1 : Int32) (v2 : Int32) (v3 : Int32) (v4 : Int32) (I : gM) : hX9_carries_79 N n37 v1 v2 v3 v4 I =
  (hX9_carries_80 N n37 v1 v2 v3 v4 0 I) := by
  show (fX9_carries_k79 N (s_lp (fX9_carries_b37 N) n37)) [some (.ref 0), some (.int v1), some (.int v2), some (.int v3), some (.int v4), none] [] I = _
  unfold fX9_carries_k79
  refine tt_const ?_
  refine tt_mask rfl ?_
  exact rfl
set_option maxRecDepth 100000 in
theorem eX9_carries_80 (N : Nat) (n37 : Nat) (v1 : Int32) (v2 : Int32) (v3 : Int32) (v4 : Int32) (s0 : Int32) (I : gM) : hX9_carries_80 N n37 v1 v2 v3 v4 s0 I =
  (hI (fX9_has N [.int v2, .int v4] (gS [] I)) [] I fun x6 I6 => if gz_eq x6 = true then (hX9_carries_111 N n37 v1 v2 v4 v3 I6) else (if gz_eq s0 = true then (hX9_carries_111 N n37 v1 v2 v4 v3 I6) else (hI (fX9_linkPart N [.ref 0, .int v4, .int 2] (gS (rg 0 18) I6)) (rg 0 18) I6 fun x7 I7 => hX9_carries_112 N n37 v1 v2 v4 v3 (gj_min v3 x7) I7))) := by
  show (fX9_carries_k80 N (s_lp (fX9_carries_b37 N) n37)) [some (.ref 0), some (.int v1), some (.int v2), some (.int v3), some (.int v4), none] [.int s0] I = _
  unfold fX9_carries_k80
  refine tt_istore (L2 := [some (.ref 0), some (.int v1), some (.int v2), some (.int v3), some (.int v4), some (.int s0)]) (tt_lt rfl) rfl ?_
  refine tt_iload rfl ?_
  refine tt_iload rfl ?_
  refine tt_iload rfl ?_
  refine tt_caI (t := [.int v3]) ⟨Nat.le_of_ble_eq_true rfl, Nat.le_of_ble_eq_true rfl⟩ rfl rfl rfl (fun x6 I6 => ?_)
  refine tt_if ?_ ?_
  · skip
    refine tt_mask rfl ?_
    exact rfl
  · skip
    refine tt_iload rfl ?_
    refine tt_if ?_ ?_
    · skip
      refine tt_mask rfl ?_
      exact rfl
    · skip
      refine tt_iload rfl ?_
      refine tt_aload rfl ?_
      refine tt_iload rfl ?_
      refine tt_const ?_
      refine tt_cavI (t := [.int v3, .int v3]) ⟨Nat.le_of_ble_eq_true rfl, Nat.le_of_ble_eq_true rfl⟩ rfl rfl rfl (fun x7 I7 => ?_)
      refine tt_jmath (Nat.le_of_ble_eq_true rfl) ?_
      refine tt_mask rfl ?_
      exact rfl
set_option maxRecDepth 100000 in
theorem eX9_carries_111 (N : Nat) (n37 : Nat) (v1 : Int32) (v2 : Int32) (v4 : Int32) (s0 : Int32) (I : gM) : hX9_carries_111 N n37 v1 v2 v4 s0 I =
  (hX9_carries_112 N n37 v1 v2 v4 s0 0 I) := by
  show (fX9_carries_k111 N (s_lp (fX9_carries_b37 N) n37)) [some (.ref 0), some (.int v1), some (.int v2), none, some (.int v4), none] [.int s0] I = _
  unfold fX9_carries_k111
  refine tt_const ?_
  refine tt_mask rfl ?_
  exact rfl
set_option maxRecDepth 100000 in
theorem eX9_carries_112 (N : Nat) (n37 : Nat) (v1 : Int32) (v2 : Int32) (v4 : Int32) (s0 : Int32) (s1 : Int32) (I : gM) : hX9_carries_112 N n37 v1 v2 v4 s0 s1 I =
  (hX9_carries_37 N n37 v1 v2 (gb_sub s0 s1) (v4 + 1) I) := by
  show (fX9_carries_k112 N (s_lp (fX9_carries_b37 N) n37)) [some (.ref 0), some (.int v1), some (.int v2), none, some (.int v4), none] [.int s1, .int s0] I = _
  unfold fX9_carries_k112
  refine tt_bin ?_
  refine tt_istore (L2 := [some (.ref 0), some (.int v1), some (.int v2), some (.int (gb_sub s0 s1)), some (.int v4), none]) (tt_lt rfl) rfl ?_
  refine tt_iinc (L2 := [some (.ref 0), some (.int v1), some (.int v2), some (.int (gb_sub s0 s1)), some (.int (v4 + 1)), none]) rfl rfl ?_
  refine tt_mask rfl ?_
  exact rfl
set_option maxRecDepth 100000 in
theorem eX9_carries (N : Nat) (v1 : Int32) (I : gM) : fX9_carries N [.ref 0, .int v1] I = hX9_carries_0 N v1 I := by
  show gFn 6 (fX9_carries_k0 N) [.ref 0, .int v1] I = (fX9_carries_k0 N) [some (.ref 0), some (.int v1), none, none, none, none] [] I
  exact tt_fn rfl rfl

def hX9_link_0 (N : Nat) (v1 : Int32) (v2 : Int32) (I : gM) : gO := fX9_link_k0 N [some (.ref 0), some (.int v1), some (.int v2), none, none] [] I
def hX9_link_28 (N : Nat) (v1 : Int32) (v2 : Int32) (s1 : Int32) (I : gM) : gO := fX9_link_k28 N [some (.ref 0), some (.int v1), some (.int v2), none, none] [.int s1, .ref 0] I
def hX9_link_60 (N : Nat) (v1 : Int32) (v2 : Int32) (s0 : Int32) (I : gM) : gO := fX9_link_k60 N [some (.ref 0), some (.int v1), some (.int v2), none, none] [.int s0] I
set_option maxRecDepth 100000 in
theorem eX9_link_0 (N : Nat) (v1 : Int32) (v2 : Int32) (I : gM) : hX9_link_0 N v1 v2 I =
  (hI (fX9_isLink N [.ref 0, .int v1] (gS (rg 0 18) (gU I 0 0 0))) (rg 0 18) (gU I 0 0 0) fun x1 I1 => hI (fX9_fails N [.ref 0, .int x1, .int 1] (gS (rg 0 18) I1)) (rg 0 18) I1 fun x2 I2 => if gz_ne x2 = true then (some (.inl (some (.int 0)), I2)) else (hI (fX9_in N [.long ((v2).toInt64), .long 0, .long 7] (gS [] I2)) [] I2 fun x3 I3 => hX9_link_28 N v1 v2 x3 I3)) := by
  show (fX9_link_k0 N) [some (.ref 0), some (.int v1), some (.int v2), none, none] [] I = _
  unfold fX9_link_k0
  refine tt_aload rfl ?_
  refine tt_const ?_
  refine tt_put rfl rfl ?_
  refine tt_aload rfl ?_
  refine tt_aload rfl ?_
  refine tt_iload rfl ?_
  refine tt_cavI (t := [.ref 0]) ⟨Nat.le_of_ble_eq_true rfl, Nat.le_of_ble_eq_true rfl⟩ rfl rfl rfl (fun x1 I1 => ?_)
  refine tt_const ?_
  refine tt_cavI (t := []) ⟨Nat.le_of_ble_eq_true rfl, Nat.le_of_ble_eq_true rfl⟩ rfl rfl rfl (fun x2 I2 => ?_)
  refine tt_if ?_ ?_
  · skip
    refine tt_const ?_
    exact rfl
  · skip
    refine tt_aload rfl ?_
    refine tt_iload rfl ?_
    refine tt_i2l ?_
    refine tt_lconst ?_
    refine tt_lconst ?_
    refine tt_caI (t := [.ref 0]) ⟨Nat.le_of_ble_eq_true rfl, Nat.le_of_ble_eq_true rfl⟩ rfl rfl rfl (fun x3 I3 => ?_)
    refine tt_mask rfl ?_
    exact rfl
set_option maxRecDepth 100000 in
theorem eX9_link_28 (N : Nat) (v1 : Int32) (v2 : Int32) (s1 : Int32) (I : gM) : hX9_link_28 N v1 v2 s1 I =
  (hI (fX9_fails N [.ref 0, .int s1, .int 2] (gS (rg 0 18) I)) (rg 0 18) I fun x4 I4 => if gz_eq x4 = true then (if gc_ge v2 4 = true then (ck 2746 6 <| hI (fX9_scheduleBy N [.ref 0, .int ((I4 3 (Int32.toNatClampNeg 6)))] (gS (rg 0 18) I4)) (rg 0 18) I4 fun x5 I5 => hX9_link_60 N v1 v2 x5 I5) else (hI (fX9_linkPart N [.ref 0, .int v1, .int v2] (gS (rg 0 18) I4)) (rg 0 18) I4 fun x6 I6 => some (.inl (some (.int x6)), I6))) else (some (.inl (some (.int 0)), I4))) := by
  show (fX9_link_k28 N) [some (.ref 0), some (.int v1), some (.int v2), none, none] [.int s1, .ref 0] I = _
  unfold fX9_link_k28
  refine tt_const ?_
  refine tt_cavI (t := []) ⟨Nat.le_of_ble_eq_true rfl, Nat.le_of_ble_eq_true rfl⟩ rfl rfl rfl (fun x4 I4 => ?_)
  refine tt_if ?_ ?_
  · skip
    refine tt_iload rfl ?_
    refine tt_const ?_
    refine tt_cmp ?_ ?_
    · skip
      refine tt_aload rfl ?_
      refine tt_aload rfl ?_
      refine tt_getr (q := 3) rfl rfl ?_
      refine tt_const ?_
      refine tt_ald (x := (I4 3 (Int32.toNatClampNeg 6))) rfl rfl ?_
      refine tt_cavI (t := []) ⟨Nat.le_of_ble_eq_true rfl, Nat.le_of_ble_eq_true rfl⟩ rfl rfl rfl (fun x5 I5 => ?_)
      refine tt_mask rfl ?_
      exact rfl
    · skip
      refine tt_aload rfl ?_
      refine tt_iload rfl ?_
      refine tt_iload rfl ?_
      refine tt_cavI (t := []) ⟨Nat.le_of_ble_eq_true rfl, Nat.le_of_ble_eq_true rfl⟩ rfl rfl rfl (fun x6 I6 => ?_)
      exact rfl
  · skip
    refine tt_const ?_
    exact rfl
set_option maxRecDepth 100000 in
theorem eX9_link_60 (N : Nat) (v1 : Int32) (v2 : Int32) (s0 : Int32) (I : gM) : hX9_link_60 N v1 v2 s0 I =
  (if gc_ge v2 6 = true then (hI (fX9_has N [.int s0, .int v1] (gS [] I)) [] I fun x7 I7 => if gc_ne v2 6 = true then (if gz_eq x7 = true then (some (.inl (some (.int 0)), I7)) else (hI (fX9_carries N [.ref 0, .int v1] (gS (rg 0 18) I7)) (rg 0 18) I7 fun x8 I8 => some (.inl (some (.int x8)), I8))) else (if gz_eq x7 = true then (some (.inl (some (.int 0)), I7)) else (some (.inl (some (.int 1)), I7)))) else (if gc_ne v2 4 = true then (ck 14 v1 <| some (.inl (some (.int ((I 12 (Int32.toNatClampNeg v1))))), I)) else (ck 14 v1 <| some (.inl (some (.int ((I 11 (Int32.toNatClampNeg v1))))), I)))) := by
  show (fX9_link_k60 N) [some (.ref 0), some (.int v1), some (.int v2), none, none] [.int s0] I = _
  unfold fX9_link_k60
  refine tt_istore (L2 := [some (.ref 0), some (.int v1), some (.int v2), some (.int s0), none]) (tt_lt rfl) rfl ?_
  refine tt_iload rfl ?_
  refine tt_const ?_
  refine tt_cmp ?_ ?_
  · skip
    refine tt_iload rfl ?_
    refine tt_iload rfl ?_
    refine tt_caI (t := []) ⟨Nat.le_of_ble_eq_true rfl, Nat.le_of_ble_eq_true rfl⟩ rfl rfl rfl (fun x7 I7 => ?_)
    refine tt_istore (L2 := [some (.ref 0), some (.int v1), some (.int v2), some (.int s0), some (.int x7)]) (tt_lt rfl) rfl ?_
    refine tt_iload rfl ?_
    refine tt_const ?_
    refine tt_cmp ?_ ?_
    · skip
      refine tt_iload rfl ?_
      refine tt_if ?_ ?_
      · skip
        refine tt_const ?_
        exact rfl
      · skip
        refine tt_aload rfl ?_
        refine tt_iload rfl ?_
        refine tt_cavI (t := []) ⟨Nat.le_of_ble_eq_true rfl, Nat.le_of_ble_eq_true rfl⟩ rfl rfl rfl (fun x8 I8 => ?_)
        exact rfl
    · skip
      refine tt_iload rfl ?_
      refine tt_if ?_ ?_
      · skip
        refine tt_const ?_
        exact rfl
      · skip
        refine tt_const ?_
        exact rfl
  · skip
    refine tt_iload rfl ?_
    refine tt_const ?_
    refine tt_cmp ?_ ?_
    · skip
      refine tt_aload rfl ?_
      refine tt_getr (q := 12) rfl rfl ?_
      refine tt_iload rfl ?_
      refine tt_ald (x := (I 12 (Int32.toNatClampNeg v1))) rfl rfl ?_
      exact rfl
    · skip
      refine tt_aload rfl ?_
      refine tt_getr (q := 11) rfl rfl ?_
      refine tt_iload rfl ?_
      refine tt_ald (x := (I 11 (Int32.toNatClampNeg v1))) rfl rfl ?_
      exact rfl
set_option maxRecDepth 100000 in
theorem eX9_link (N : Nat) (v1 : Int32) (v2 : Int32) (I : gM) : fX9_link N [.ref 0, .int v1, .int v2] I = hX9_link_0 N v1 v2 I := by
  show gFn 5 (fX9_link_k0 N) [.ref 0, .int v1, .int v2] I = (fX9_link_k0 N) [some (.ref 0), some (.int v1), some (.int v2), none, none] [] I
  exact tt_fn rfl rfl

def hX9_common_0 (N : Nat) (g : List Value → gM → Option (gR × gM)) (v0 : Int32) (v1 : Int32) (I : gM) : gO := fX9_common_k0 N g [some (.int v0), some (.int v1)] [] I
set_option maxRecDepth 100000 in
theorem eX9_common_0 (N : Nat) (g : List Value → gM → Option (gR × gM)) (v0 : Int32) (v1 : Int32) (I : gM) : hX9_common_0 N g v0 v1 I =
  (if gz_ne v1 = true then (if v1 = 0 then none else hI (g [.int v1, .int (gb_rem v0 v1)] (gS [] I)) [] I fun x1 I1 => some (.inl (some (.int x1)), I1)) else (some (.inl (some (.int v0)), I))) := by
  show (fX9_common_k0 N g) [some (.int v0), some (.int v1)] [] I = _
  unfold fX9_common_k0
  refine tt_iload rfl ?_
  refine tt_if ?_ ?_
  · skip
    refine tt_iload rfl ?_
    refine tt_iload rfl ?_
    refine tt_iload rfl ?_
    refine tt_div ?_
    refine tt_caI (t := []) ⟨Nat.le_of_ble_eq_true rfl, Nat.le_of_ble_eq_true rfl⟩ rfl rfl rfl (fun x1 I1 => ?_)
    exact rfl
  · skip
    refine tt_iload rfl ?_
    exact rfl
theorem eX9_common (N d : Nat) (v0 : Int32) (v1 : Int32) (I : gM) : fX9_common N (d + 1) [.int v0, .int v1] I = hX9_common_0 N (fX9_common N d) v0 v1 I := by
  show gFn 2 (fX9_common_k0 N (fX9_common N d)) [.int v0, .int v1] I = (fX9_common_k0 N (fX9_common N d)) [some (.int v0), some (.int v1)] [] I
  exact tt_fn rfl rfl

def hX9_meanDelay_0 (N : Nat) (v1 : Int32) (v2 : Int32) (I : gM) : gO := fX9_meanDelay_k0 N [some (.ref 0), some (.int v1), some (.int v2), none] [] I
def hX9_meanDelay_26 (N : Nat) (v1 : Int32) (v2 : Int32) (s1 : Int32) (I : gM) : gO := fX9_meanDelay_k26 N [some (.ref 0), some (.int v1), some (.int v2), none] [.int s1, .ref 0] I
def hX9_meanDelay_34 (N : Nat) (v1 : Int32) (v2 : Int32) (s1 : Int32) (I : gM) : gO := fX9_meanDelay_k34 N [some (.ref 0), some (.int v1), some (.int v2), none] [.int s1, .ref 0] I
def hX9_meanDelay_57 (N : Nat) (v1 : Int32) (v2 : Int32) (s0 : Int32) (s1 : Int32) (I : gM) : gO := fX9_meanDelay_k57 N [some (.ref 0), some (.int v1), some (.int v2), none] [.int s1, .int s0] I
def hX9_meanDelay_74 (N : Nat) (v3 : Int32) (s1 : Int32) (s2 : Int32) (I : gM) : gO := fX9_meanDelay_k74 N [none, none, none, some (.int v3)] [.int s2, .int s1, .ref 0] I
set_option maxRecDepth 100000 in
theorem eX9_meanDelay_0 (N : Nat) (v1 : Int32) (v2 : Int32) (I : gM) : hX9_meanDelay_0 N v1 v2 I =
  (hI (fX9_isFlow N [.ref 0, .int v1] (gS (rg 0 18) (gU I 0 0 0))) (rg 0 18) (gU I 0 0 0) fun x1 I1 => hI (fX9_fails N [.ref 0, .int x1, .int 1] (gS (rg 0 18) I1)) (rg 0 18) I1 fun x2 I2 => if gz_ne x2 = true then (some (.inl (some (.int 0)), I2)) else (hI (fX9_flowPart N [.ref 0, .int v1, .int 6] (gS (rg 0 18) I2)) (rg 0 18) I2 fun x3 I3 => hX9_meanDelay_26 N v1 v2 x3 I3)) := by
  show (fX9_meanDelay_k0 N) [some (.ref 0), some (.int v1), some (.int v2), none] [] I = _
  unfold fX9_meanDelay_k0
  refine tt_aload rfl ?_
  refine tt_const ?_
  refine tt_put rfl rfl ?_
  refine tt_aload rfl ?_
  refine tt_aload rfl ?_
  refine tt_iload rfl ?_
  refine tt_cavI (t := [.ref 0]) ⟨Nat.le_of_ble_eq_true rfl, Nat.le_of_ble_eq_true rfl⟩ rfl rfl rfl (fun x1 I1 => ?_)
  refine tt_const ?_
  refine tt_cavI (t := []) ⟨Nat.le_of_ble_eq_true rfl, Nat.le_of_ble_eq_true rfl⟩ rfl rfl rfl (fun x2 I2 => ?_)
  refine tt_if ?_ ?_
  · skip
    refine tt_const ?_
    exact rfl
  · skip
    refine tt_aload rfl ?_
    refine tt_aload rfl ?_
    refine tt_iload rfl ?_
    refine tt_const ?_
    refine tt_cavI (t := [.ref 0]) ⟨Nat.le_of_ble_eq_true rfl, Nat.le_of_ble_eq_true rfl⟩ rfl rfl rfl (fun x3 I3 => ?_)
    refine tt_mask rfl ?_
    exact rfl
set_option maxRecDepth 100000 in
theorem eX9_meanDelay_26 (N : Nat) (v1 : Int32) (v2 : Int32) (s1 : Int32) (I : gM) : hX9_meanDelay_26 N v1 v2 s1 I =
  (if gz_le s1 = true then (hX9_meanDelay_34 N v1 v2 0 I) else (hX9_meanDelay_34 N v1 v2 1 I)) := by
  show (fX9_meanDelay_k26 N) [some (.ref 0), some (.int v1), some (.int v2), none] [.int s1, .ref 0] I = _
  unfold fX9_meanDelay_k26
  refine tt_if ?_ ?_
  · skip
    refine tt_const ?_
    refine tt_mask rfl ?_
    exact rfl
  · skip
    refine tt_const ?_
    refine tt_mask rfl ?_
    exact rfl
set_option maxRecDepth 100000 in
theorem eX9_meanDelay_34 (N : Nat) (v1 : Int32) (v2 : Int32) (s1 : Int32) (I : gM) : hX9_meanDelay_34 N v1 v2 s1 I =
  (hI (fX9_fails N [.ref 0, .int s1, .int 2] (gS (rg 0 18) I)) (rg 0 18) I fun x4 I4 => if gz_eq x4 = true then (hI (fX9_flowPart N [.ref 0, .int v1, .int 9] (gS (rg 0 18) I4)) (rg 0 18) I4 fun x5 I5 => hI (fX9_flowPart N [.ref 0, .int v1, .int 6] (gS (rg 0 18) I5)) (rg 0 18) I5 fun x6 I6 => hX9_meanDelay_57 N v1 v2 x5 x6 I6) else (some (.inl (some (.int 0)), I4))) := by
  show (fX9_meanDelay_k34 N) [some (.ref 0), some (.int v1), some (.int v2), none] [.int s1, .ref 0] I = _
  unfold fX9_meanDelay_k34
  refine tt_const ?_
  refine tt_cavI (t := []) ⟨Nat.le_of_ble_eq_true rfl, Nat.le_of_ble_eq_true rfl⟩ rfl rfl rfl (fun x4 I4 => ?_)
  refine tt_if ?_ ?_
  · skip
    refine tt_aload rfl ?_
    refine tt_iload rfl ?_
    refine tt_const ?_
    refine tt_cavI (t := []) ⟨Nat.le_of_ble_eq_true rfl, Nat.le_of_ble_eq_true rfl⟩ rfl rfl rfl (fun x5 I5 => ?_)
    refine tt_aload rfl ?_
    refine tt_iload rfl ?_
    refine tt_const ?_
    refine tt_cavI (t := [.int x5]) ⟨Nat.le_of_ble_eq_true rfl, Nat.le_of_ble_eq_true rfl⟩ rfl rfl rfl (fun x6 I6 => ?_)
    refine tt_mask rfl ?_
    exact rfl
  · skip
    refine tt_const ?_
    exact rfl
set_option maxRecDepth 100000 in
theorem eX9_meanDelay_57 (N : Nat) (v1 : Int32) (v2 : Int32) (s0 : Int32) (s1 : Int32) (I : gM) : hX9_meanDelay_57 N v1 v2 s0 s1 I =
  (hI (fX9_common N 70 [.int s0, .int s1] (gS [] I)) [] I fun x7 I7 => if gz_eq v2 = true then (hX9_meanDelay_74 N x7 v1 9 I7) else (hX9_meanDelay_74 N x7 v1 6 I7)) := by
  show (fX9_meanDelay_k57 N) [some (.ref 0), some (.int v1), some (.int v2), none] [.int s1, .int s0] I = _
  unfold fX9_meanDelay_k57
  refine tt_caI (t := []) ⟨Nat.le_of_ble_eq_true rfl, Nat.le_of_ble_eq_true rfl⟩ rfl rfl rfl (fun x7 I7 => ?_)
  refine tt_istore (L2 := [some (.ref 0), some (.int v1), some (.int v2), some (.int x7)]) (tt_lt rfl) rfl ?_
  refine tt_aload rfl ?_
  refine tt_iload rfl ?_
  refine tt_iload rfl ?_
  refine tt_if ?_ ?_
  · skip
    refine tt_const ?_
    refine tt_mask rfl ?_
    exact rfl
  · skip
    refine tt_const ?_
    refine tt_mask rfl ?_
    exact rfl
set_option maxRecDepth 100000 in
theorem eX9_meanDelay_74 (N : Nat) (v3 : Int32) (s1 : Int32) (s2 : Int32) (I : gM) : hX9_meanDelay_74 N v3 s1 s2 I =
  (hI (fX9_flowPart N [.ref 0, .int s1, .int s2] (gS (rg 0 18) I)) (rg 0 18) I fun x8 I8 => if v3 = 0 then none else some (.inl (some (.int (gb_div x8 v3))), I8)) := by
  show (fX9_meanDelay_k74 N) [none, none, none, some (.int v3)] [.int s2, .int s1, .ref 0] I = _
  unfold fX9_meanDelay_k74
  refine tt_cavI (t := []) ⟨Nat.le_of_ble_eq_true rfl, Nat.le_of_ble_eq_true rfl⟩ rfl rfl rfl (fun x8 I8 => ?_)
  refine tt_iload rfl ?_
  refine tt_div ?_
  exact rfl
set_option maxRecDepth 100000 in
theorem eX9_meanDelay (N : Nat) (v1 : Int32) (v2 : Int32) (I : gM) : fX9_meanDelay N [.ref 0, .int v1, .int v2] I = hX9_meanDelay_0 N v1 v2 I := by
  show gFn 4 (fX9_meanDelay_k0 N) [.ref 0, .int v1, .int v2] I = (fX9_meanDelay_k0 N) [some (.ref 0), some (.int v1), some (.int v2), none] [] I
  exact tt_fn rfl rfl

def hX9_schedule_0 (N : Nat) (v1 : Int32) (I : gM) : gO := fX9_schedule_k0 N [some (.ref 0), some (.int v1)] [] I
set_option maxRecDepth 100000 in
theorem eX9_schedule_0 (N : Nat) (v1 : Int32) (I : gM) : hX9_schedule_0 N v1 I =
  (hI (fX9_in N [.long ((v1).toInt64), .long 0, .long 1] (gS [] (gU I 0 0 0))) [] (gU I 0 0 0) fun x1 I1 => hI (fX9_fails N [.ref 0, .int x1, .int 1] (gS (rg 0 18) I1)) (rg 0 18) I1 fun x2 I2 => if gz_eq x2 = true then (hI (fX9_scheduleBy N [.ref 0, .int v1] (gS (rg 0 18) I2)) (rg 0 18) I2 fun x3 I3 => some (.inl (some (.int x3)), I3)) else (some (.inl (some (.int 0)), I2))) := by
  show (fX9_schedule_k0 N) [some (.ref 0), some (.int v1)] [] I = _
  unfold fX9_schedule_k0
  refine tt_aload rfl ?_
  refine tt_const ?_
  refine tt_put rfl rfl ?_
  refine tt_aload rfl ?_
  refine tt_iload rfl ?_
  refine tt_i2l ?_
  refine tt_lconst ?_
  refine tt_lconst ?_
  refine tt_caI (t := [.ref 0]) ⟨Nat.le_of_ble_eq_true rfl, Nat.le_of_ble_eq_true rfl⟩ rfl rfl rfl (fun x1 I1 => ?_)
  refine tt_const ?_
  refine tt_cavI (t := []) ⟨Nat.le_of_ble_eq_true rfl, Nat.le_of_ble_eq_true rfl⟩ rfl rfl rfl (fun x2 I2 => ?_)
  refine tt_if ?_ ?_
  · skip
    refine tt_aload rfl ?_
    refine tt_iload rfl ?_
    refine tt_cavI (t := []) ⟨Nat.le_of_ble_eq_true rfl, Nat.le_of_ble_eq_true rfl⟩ rfl rfl rfl (fun x3 I3 => ?_)
    exact rfl
  · skip
    refine tt_const ?_
    exact rfl
set_option maxRecDepth 100000 in
theorem eX9_schedule (N : Nat) (v1 : Int32) (I : gM) : fX9_schedule N [.ref 0, .int v1] I = hX9_schedule_0 N v1 I := by
  show gFn 2 (fX9_schedule_k0 N) [.ref 0, .int v1] I = (fX9_schedule_k0 N) [some (.ref 0), some (.int v1)] [] I
  exact tt_fn rfl rfl

def hX9_scheduleWeight_0 (N : Nat) (v1 : Int32) (I : gM) : gO := fX9_scheduleWeight_k0 N [some (.ref 0), some (.int v1), none, none, none] [] I
def hX9_scheduleWeight_27 (N : Nat) (s0 : Int32) (I : gM) : gO := fX9_scheduleWeight_k27 N [some (.ref 0), none, none, none, none] [.int s0] I
def hX9_scheduleWeight_33 (N : Nat) (n33 : Nat) (v2 : Int32) (v3 : Int32) (v4 : Int32) (I : gM) : gO := s_lp (fX9_scheduleWeight_b33 N) n33 [some (.ref 0), none, some (.int v2), some (.int v3), some (.int v4)] [] I
def hX9_scheduleWeight_65 (N : Nat) (n33 : Nat) (v2 : Int32) (v4 : Int32) (s0 : Int32) (s1 : Int32) (I : gM) : gO := fX9_scheduleWeight_k65 N (s_lp (fX9_scheduleWeight_b33 N) n33) [some (.ref 0), none, some (.int v2), none, some (.int v4)] [.int s1, .int s0] I
set_option maxRecDepth 100000 in
theorem eX9_scheduleWeight_0 (N : Nat) (v1 : Int32) (I : gM) : hX9_scheduleWeight_0 N v1 I =
  (hI (fX9_in N [.long ((v1).toInt64), .long 0, .long 1] (gS [] (gU I 0 0 0))) [] (gU I 0 0 0) fun x1 I1 => hI (fX9_fails N [.ref 0, .int x1, .int 1] (gS (rg 0 18) I1)) (rg 0 18) I1 fun x2 I2 => if gz_eq x2 = true then (hI (fX9_scheduleBy N [.ref 0, .int v1] (gS (rg 0 18) I2)) (rg 0 18) I2 fun x3 I3 => hX9_scheduleWeight_27 N x3 I3) else (some (.inl (some (.int 0)), I2))) := by
  show (fX9_scheduleWeight_k0 N) [some (.ref 0), some (.int v1), none, none, none] [] I = _
  unfold fX9_scheduleWeight_k0
  refine tt_aload rfl ?_
  refine tt_const ?_
  refine tt_put rfl rfl ?_
  refine tt_aload rfl ?_
  refine tt_iload rfl ?_
  refine tt_i2l ?_
  refine tt_lconst ?_
  refine tt_lconst ?_
  refine tt_caI (t := [.ref 0]) ⟨Nat.le_of_ble_eq_true rfl, Nat.le_of_ble_eq_true rfl⟩ rfl rfl rfl (fun x1 I1 => ?_)
  refine tt_const ?_
  refine tt_cavI (t := []) ⟨Nat.le_of_ble_eq_true rfl, Nat.le_of_ble_eq_true rfl⟩ rfl rfl rfl (fun x2 I2 => ?_)
  refine tt_if ?_ ?_
  · skip
    refine tt_aload rfl ?_
    refine tt_iload rfl ?_
    refine tt_cavI (t := []) ⟨Nat.le_of_ble_eq_true rfl, Nat.le_of_ble_eq_true rfl⟩ rfl rfl rfl (fun x3 I3 => ?_)
    refine tt_mask rfl ?_
    exact rfl
  · skip
    refine tt_const ?_
    exact rfl
set_option maxRecDepth 100000 in
theorem eX9_scheduleWeight_27 (N : Nat) (s0 : Int32) (I : gM) : hX9_scheduleWeight_27 N s0 I =
  (hX9_scheduleWeight_33 N N s0 0 0 I) := by
  show (fX9_scheduleWeight_k27 N) [some (.ref 0), none, none, none, none] [.int s0] I = _
  unfold fX9_scheduleWeight_k27
  refine tt_istore (L2 := [some (.ref 0), none, some (.int s0), none, none]) (tt_lt rfl) rfl ?_
  refine tt_const ?_
  refine tt_istore (L2 := [some (.ref 0), none, some (.int s0), some (.int 0), none]) (tt_lt rfl) rfl ?_
  refine tt_const ?_
  refine tt_istore (L2 := [some (.ref 0), none, some (.int s0), some (.int 0), some (.int 0)]) (tt_lt rfl) rfl ?_
  refine tt_mask rfl ?_
  exact rfl
set_option maxRecDepth 100000 in
theorem eX9_scheduleWeight_33 (N : Nat) (n33 : Nat) (v2 : Int32) (v3 : Int32) (v4 : Int32) (I : gM) : hX9_scheduleWeight_33 N (n33 + 1) v2 v3 v4 I =
  (ck 2746 1 <| if gc_ge v4 ((I 3 (Int32.toNatClampNeg 1))) = true then (some (.inl (some (.int v3)), I)) else (hI (fX9_has N [.int v2, .int v4] (gS [] I)) [] I fun x4 I4 => if gz_eq x4 = true then (hX9_scheduleWeight_65 N n33 v2 v4 v3 0 I4) else (ck 14 v4 <| hX9_scheduleWeight_65 N n33 v2 v4 v3 ((I4 12 (Int32.toNatClampNeg v4))) I4))) := by
  show (fX9_scheduleWeight_b33 N (s_lp (fX9_scheduleWeight_b33 N) n33)) [some (.ref 0), none, some (.int v2), some (.int v3), some (.int v4)] [] I = _
  unfold fX9_scheduleWeight_b33
  refine tt_iload rfl ?_
  refine tt_aload rfl ?_
  refine tt_getr (q := 3) rfl rfl ?_
  refine tt_const ?_
  refine tt_ald (x := (I 3 (Int32.toNatClampNeg 1))) rfl rfl ?_
  refine tt_cmp ?_ ?_
  · skip
    refine tt_iload rfl ?_
    exact rfl
  · skip
    refine tt_iload rfl ?_
    refine tt_iload rfl ?_
    refine tt_iload rfl ?_
    refine tt_caI (t := [.int v3]) ⟨Nat.le_of_ble_eq_true rfl, Nat.le_of_ble_eq_true rfl⟩ rfl rfl rfl (fun x4 I4 => ?_)
    refine tt_if ?_ ?_
    · skip
      refine tt_const ?_
      refine tt_mask rfl ?_
      exact rfl
    · skip
      refine tt_aload rfl ?_
      refine tt_getr (q := 12) rfl rfl ?_
      refine tt_iload rfl ?_
      refine tt_ald (x := (I4 12 (Int32.toNatClampNeg v4))) rfl rfl ?_
      refine tt_mask rfl ?_
      exact rfl
theorem eX9_scheduleWeight_33z (N : Nat) (v2 : Int32) (v3 : Int32) (v4 : Int32) (I : gM) : hX9_scheduleWeight_33 N 0 v2 v3 v4 I = none := (rfl)
set_option maxRecDepth 100000 in
theorem eX9_scheduleWeight_65 (N : Nat) (n33 : Nat) (v2 : Int32) (v4 : Int32) (s0 : Int32) (s1 : Int32) (I : gM) : hX9_scheduleWeight_65 N n33 v2 v4 s0 s1 I =
  (hX9_scheduleWeight_33 N n33 v2 (gb_add s0 s1) (v4 + 1) I) := by
  show (fX9_scheduleWeight_k65 N (s_lp (fX9_scheduleWeight_b33 N) n33)) [some (.ref 0), none, some (.int v2), none, some (.int v4)] [.int s1, .int s0] I = _
  unfold fX9_scheduleWeight_k65
  refine tt_bin ?_
  refine tt_istore (L2 := [some (.ref 0), none, some (.int v2), some (.int (gb_add s0 s1)), some (.int v4)]) (tt_lt rfl) rfl ?_
  refine tt_iinc (L2 := [some (.ref 0), none, some (.int v2), some (.int (gb_add s0 s1)), some (.int (v4 + 1))]) rfl rfl ?_
  refine tt_mask rfl ?_
  exact rfl
set_option maxRecDepth 100000 in
theorem eX9_scheduleWeight (N : Nat) (v1 : Int32) (I : gM) : fX9_scheduleWeight N [.ref 0, .int v1] I = hX9_scheduleWeight_0 N v1 I := by
  show gFn 5 (fX9_scheduleWeight_k0 N) [.ref 0, .int v1] I = (fX9_scheduleWeight_k0 N) [some (.ref 0), some (.int v1), none, none, none] [] I
  exact tt_fn rfl rfl

def hX9_forecast_0 (N : Nat) (v1 : Int32) (v2 : Int32) (I : gM) : gO := fX9_forecast_k0 N [some (.ref 0), some (.int v1), some (.int v2), none, none] [] I
def hX9_forecast_29 (N : Nat) (v1 : Int32) (v2 : Int32) (I : gM) : gO := fX9_forecast_k29 N [some (.ref 0), some (.int v1), some (.int v2), none, none] [.ref 0] I
def hX9_forecast_30 (N : Nat) (v1 : Int32) (v2 : Int32) (s1 : Int32) (I : gM) : gO := fX9_forecast_k30 N [some (.ref 0), some (.int v1), some (.int v2), none, none] [.int s1, .ref 0] I
def hX9_forecast_57 (N : Nat) (v2 : Int32) (I : gM) : gO := fX9_forecast_k57 N [some (.ref 0), none, some (.int v2), none, none] [] I
set_option maxRecDepth 100000 in
theorem eX9_forecast_0 (N : Nat) (v1 : Int32) (v2 : Int32) (I : gM) : hX9_forecast_0 N v1 v2 I =
  (hI (fX9_areSlots N [.int v1] (gS [] (gU I 0 0 0))) [] (gU I 0 0 0) fun x1 I1 => if gz_eq x1 = true then (hX9_forecast_29 N v1 v2 I1) else (hI (fX9_in N [.long ((v2).toInt64), .long 0, .long 5] (gS [] I1)) [] I1 fun x2 I2 => if gz_eq x2 = true then (hX9_forecast_29 N v1 v2 I2) else (hX9_forecast_30 N v1 v2 1 I2))) := by
  show (fX9_forecast_k0 N) [some (.ref 0), some (.int v1), some (.int v2), none, none] [] I = _
  unfold fX9_forecast_k0
  refine tt_aload rfl ?_
  refine tt_const ?_
  refine tt_put rfl rfl ?_
  refine tt_aload rfl ?_
  refine tt_iload rfl ?_
  refine tt_caI (t := [.ref 0]) ⟨Nat.le_of_ble_eq_true rfl, Nat.le_of_ble_eq_true rfl⟩ rfl rfl rfl (fun x1 I1 => ?_)
  refine tt_if ?_ ?_
  · skip
    refine tt_mask rfl ?_
    exact rfl
  · skip
    refine tt_iload rfl ?_
    refine tt_i2l ?_
    refine tt_lconst ?_
    refine tt_lconst ?_
    refine tt_caI (t := [.ref 0]) ⟨Nat.le_of_ble_eq_true rfl, Nat.le_of_ble_eq_true rfl⟩ rfl rfl rfl (fun x2 I2 => ?_)
    refine tt_if ?_ ?_
    · skip
      refine tt_mask rfl ?_
      exact rfl
    · skip
      refine tt_const ?_
      refine tt_mask rfl ?_
      exact rfl
set_option maxRecDepth 100000 in
theorem eX9_forecast_29 (N : Nat) (v1 : Int32) (v2 : Int32) (I : gM) : hX9_forecast_29 N v1 v2 I =
  (hX9_forecast_30 N v1 v2 0 I) := by
  show (fX9_forecast_k29 N) [some (.ref 0), some (.int v1), some (.int v2), none, none] [.ref 0] I = _
  unfold fX9_forecast_k29
  refine tt_const ?_
  refine tt_mask rfl ?_
  exact rfl
set_option maxRecDepth 100000 in
theorem eX9_forecast_30 (N : Nat) (v1 : Int32) (v2 : Int32) (s1 : Int32) (I : gM) : hX9_forecast_30 N v1 v2 s1 I =
  (hI (fX9_fails N [.ref 0, .int s1, .int 1] (gS (rg 0 18) I)) (rg 0 18) I fun x3 I3 => if gz_eq x3 = true then (hV (fX9_copy N 2746 2746 [.ref 0, .int 0, .ref 1, .int 0] (gS (rg 3 2) I3)) (rg 3 2) I3 fun I4 => hV (fX9_slots N [.ref 0, .int v1] (gS (rg 0 18) I4)) (rg 0 18) I4 fun I5 => hX9_forecast_57 N v2 I5) else (some (.inl (some (.long 0)), I3))) := by
  show (fX9_forecast_k30 N) [some (.ref 0), some (.int v1), some (.int v2), none, none] [.int s1, .ref 0] I = _
  unfold fX9_forecast_k30
  refine tt_const ?_
  refine tt_cavI (t := []) ⟨Nat.le_of_ble_eq_true rfl, Nat.le_of_ble_eq_true rfl⟩ rfl rfl rfl (fun x3 I3 => ?_)
  refine tt_if ?_ ?_
  · skip
    refine tt_aload rfl ?_
    refine tt_getr (q := 3) rfl rfl ?_
    refine tt_const ?_
    refine tt_aload rfl ?_
    refine tt_getr (q := 4) rfl rfl ?_
    refine tt_const ?_
    refine tt_caV (t := []) ⟨Nat.le_of_ble_eq_true rfl, Nat.le_of_ble_eq_true rfl⟩ rfl rfl rfl (fun I4 => ?_)
    refine tt_aload rfl ?_
    refine tt_iload rfl ?_
    refine tt_cavV (t := []) ⟨Nat.le_of_ble_eq_true rfl, Nat.le_of_ble_eq_true rfl⟩ rfl rfl rfl (fun I5 => ?_)
    refine tt_mask rfl ?_
    exact rfl
  · skip
    refine tt_lconst ?_
    exact rfl
set_option maxRecDepth 100000 in
theorem eX9_forecast_57 (N : Nat) (v2 : Int32) (I : gM) : hX9_forecast_57 N v2 I =
  (hJ (fX9_totalOf N [.ref 0, .int v2] (gS (rg 0 18) I)) (rg 0 18) I fun x6 I6 => hV (fX9_copy N 2746 2746 [.ref 0, .int 0, .ref 1, .int 0] (gS [4, 3] I6)) [4, 3] I6 fun I7 => some (.inl (some (.long x6)), I7)) := by
  show (fX9_forecast_k57 N) [some (.ref 0), none, some (.int v2), none, none] [] I = _
  unfold fX9_forecast_k57
  refine tt_aload rfl ?_
  refine tt_iload rfl ?_
  refine tt_cavJ (t := []) ⟨Nat.le_of_ble_eq_true rfl, Nat.le_of_ble_eq_true rfl⟩ rfl rfl rfl (fun x6 I6 => ?_)
  refine tt_lstore (L2 := [some (.ref 0), none, some (.int v2), some (.long x6), none]) (tt_lt rfl) rfl ?_
  refine tt_aload rfl ?_
  refine tt_getr (q := 4) rfl rfl ?_
  refine tt_const ?_
  refine tt_aload rfl ?_
  refine tt_getr (q := 3) rfl rfl ?_
  refine tt_const ?_
  refine tt_caV (t := []) ⟨Nat.le_of_ble_eq_true rfl, Nat.le_of_ble_eq_true rfl⟩ rfl rfl rfl (fun I7 => ?_)
  refine tt_lload rfl ?_
  exact rfl
set_option maxRecDepth 100000 in
theorem eX9_forecast (N : Nat) (v1 : Int32) (v2 : Int32) (I : gM) : fX9_forecast N [.ref 0, .int v1, .int v2] I = hX9_forecast_0 N v1 v2 I := by
  show gFn 5 (fX9_forecast_k0 N) [.ref 0, .int v1, .int v2] I = (fX9_forecast_k0 N) [some (.ref 0), some (.int v1), some (.int v2), none, none] [] I
  exact tt_fn rfl rfl

def hX9_forecastFlow_0 (N : Nat) (v1 : Int32) (v2 : Int32) (v3 : Int32) (I : gM) : gO := fX9_forecastFlow_k0 N [some (.ref 0), some (.int v1), some (.int v2), some (.int v3), none] [] I
def hX9_forecastFlow_23 (N : Nat) (v1 : Int32) (v2 : Int32) (v3 : Int32) (s1 : Int32) (I : gM) : gO := fX9_forecastFlow_k23 N [some (.ref 0), some (.int v1), some (.int v2), some (.int v3), none] [.int s1, .ref 0] I
def hX9_forecastFlow_42 (N : Nat) (v1 : Int32) (v2 : Int32) (v3 : Int32) (I : gM) : gO := fX9_forecastFlow_k42 N [some (.ref 0), some (.int v1), some (.int v2), some (.int v3), none] [.ref 0] I
def hX9_forecastFlow_43 (N : Nat) (v1 : Int32) (v2 : Int32) (v3 : Int32) (s1 : Int32) (I : gM) : gO := fX9_forecastFlow_k43 N [some (.ref 0), some (.int v1), some (.int v2), some (.int v3), none] [.int s1, .ref 0] I
def hX9_forecastFlow_70 (N : Nat) (v1 : Int32) (v3 : Int32) (I : gM) : gO := fX9_forecastFlow_k70 N [some (.ref 0), some (.int v1), none, some (.int v3), none] [] I
set_option maxRecDepth 100000 in
theorem eX9_forecastFlow_0 (N : Nat) (v1 : Int32) (v2 : Int32) (v3 : Int32) (I : gM) : hX9_forecastFlow_0 N v1 v2 v3 I =
  (hI (fX9_isFlow N [.ref 0, .int v1] (gS (rg 0 18) (gU I 0 0 0))) (rg 0 18) (gU I 0 0 0) fun x1 I1 => hI (fX9_fails N [.ref 0, .int x1, .int 1] (gS (rg 0 18) I1)) (rg 0 18) I1 fun x2 I2 => if gz_ne x2 = true then (some (.inl (some (.int 0)), I2)) else (hI (fX9_areSlots N [.int v2] (gS [] I2)) [] I2 fun x3 I3 => hX9_forecastFlow_23 N v1 v2 v3 x3 I3)) := by
  show (fX9_forecastFlow_k0 N) [some (.ref 0), some (.int v1), some (.int v2), some (.int v3), none] [] I = _
  unfold fX9_forecastFlow_k0
  refine tt_aload rfl ?_
  refine tt_const ?_
  refine tt_put rfl rfl ?_
  refine tt_aload rfl ?_
  refine tt_aload rfl ?_
  refine tt_iload rfl ?_
  refine tt_cavI (t := [.ref 0]) ⟨Nat.le_of_ble_eq_true rfl, Nat.le_of_ble_eq_true rfl⟩ rfl rfl rfl (fun x1 I1 => ?_)
  refine tt_const ?_
  refine tt_cavI (t := []) ⟨Nat.le_of_ble_eq_true rfl, Nat.le_of_ble_eq_true rfl⟩ rfl rfl rfl (fun x2 I2 => ?_)
  refine tt_if ?_ ?_
  · skip
    refine tt_const ?_
    exact rfl
  · skip
    refine tt_aload rfl ?_
    refine tt_iload rfl ?_
    refine tt_caI (t := [.ref 0]) ⟨Nat.le_of_ble_eq_true rfl, Nat.le_of_ble_eq_true rfl⟩ rfl rfl rfl (fun x3 I3 => ?_)
    refine tt_mask rfl ?_
    exact rfl
set_option maxRecDepth 100000 in
theorem eX9_forecastFlow_23 (N : Nat) (v1 : Int32) (v2 : Int32) (v3 : Int32) (s1 : Int32) (I : gM) : hX9_forecastFlow_23 N v1 v2 v3 s1 I =
  (if gz_eq s1 = true then (hX9_forecastFlow_42 N v1 v2 v3 I) else (hI (fX9_in N [.long ((v3).toInt64), .long 0, .long 10] (gS [] I)) [] I fun x4 I4 => if gz_eq x4 = true then (hX9_forecastFlow_42 N v1 v2 v3 I4) else (hX9_forecastFlow_43 N v1 v2 v3 1 I4))) := by
  show (fX9_forecastFlow_k23 N) [some (.ref 0), some (.int v1), some (.int v2), some (.int v3), none] [.int s1, .ref 0] I = _
  unfold fX9_forecastFlow_k23
  refine tt_if ?_ ?_
  · skip
    refine tt_mask rfl ?_
    exact rfl
  · skip
    refine tt_iload rfl ?_
    refine tt_i2l ?_
    refine tt_lconst ?_
    refine tt_lconst ?_
    refine tt_caI (t := [.ref 0]) ⟨Nat.le_of_ble_eq_true rfl, Nat.le_of_ble_eq_true rfl⟩ rfl rfl rfl (fun x4 I4 => ?_)
    refine tt_if ?_ ?_
    · skip
      refine tt_mask rfl ?_
      exact rfl
    · skip
      refine tt_const ?_
      refine tt_mask rfl ?_
      exact rfl
set_option maxRecDepth 100000 in
theorem eX9_forecastFlow_42 (N : Nat) (v1 : Int32) (v2 : Int32) (v3 : Int32) (I : gM) : hX9_forecastFlow_42 N v1 v2 v3 I =
  (hX9_forecastFlow_43 N v1 v2 v3 0 I) := by
  show (fX9_forecastFlow_k42 N) [some (.ref 0), some (.int v1), some (.int v2), some (.int v3), none] [.ref 0] I = _
  unfold fX9_forecastFlow_k42
  refine tt_const ?_
  refine tt_mask rfl ?_
  exact rfl
set_option maxRecDepth 100000 in
theorem eX9_forecastFlow_43 (N : Nat) (v1 : Int32) (v2 : Int32) (v3 : Int32) (s1 : Int32) (I : gM) : hX9_forecastFlow_43 N v1 v2 v3 s1 I =
  (hI (fX9_fails N [.ref 0, .int s1, .int 2] (gS (rg 0 18) I)) (rg 0 18) I fun x5 I5 => if gz_eq x5 = true then (hV (fX9_copy N 2746 2746 [.ref 0, .int 0, .ref 1, .int 0] (gS (rg 3 2) I5)) (rg 3 2) I5 fun I6 => hV (fX9_slots N [.ref 0, .int v2] (gS (rg 0 18) I6)) (rg 0 18) I6 fun I7 => hX9_forecastFlow_70 N v1 v3 I7) else (some (.inl (some (.int 0)), I5))) := by
  show (fX9_forecastFlow_k43 N) [some (.ref 0), some (.int v1), some (.int v2), some (.int v3), none] [.int s1, .ref 0] I = _
  unfold fX9_forecastFlow_k43
  refine tt_const ?_
  refine tt_cavI (t := []) ⟨Nat.le_of_ble_eq_true rfl, Nat.le_of_ble_eq_true rfl⟩ rfl rfl rfl (fun x5 I5 => ?_)
  refine tt_if ?_ ?_
  · skip
    refine tt_aload rfl ?_
    refine tt_getr (q := 3) rfl rfl ?_
    refine tt_const ?_
    refine tt_aload rfl ?_
    refine tt_getr (q := 4) rfl rfl ?_
    refine tt_const ?_
    refine tt_caV (t := []) ⟨Nat.le_of_ble_eq_true rfl, Nat.le_of_ble_eq_true rfl⟩ rfl rfl rfl (fun I6 => ?_)
    refine tt_aload rfl ?_
    refine tt_iload rfl ?_
    refine tt_cavV (t := []) ⟨Nat.le_of_ble_eq_true rfl, Nat.le_of_ble_eq_true rfl⟩ rfl rfl rfl (fun I7 => ?_)
    refine tt_mask rfl ?_
    exact rfl
  · skip
    refine tt_const ?_
    exact rfl
set_option maxRecDepth 100000 in
theorem eX9_forecastFlow_70 (N : Nat) (v1 : Int32) (v3 : Int32) (I : gM) : hX9_forecastFlow_70 N v1 v3 I =
  (hI (fX9_flowPart N [.ref 0, .int v1, .int v3] (gS (rg 0 18) I)) (rg 0 18) I fun x8 I8 => hV (fX9_copy N 2746 2746 [.ref 0, .int 0, .ref 1, .int 0] (gS [4, 3] I8)) [4, 3] I8 fun I9 => some (.inl (some (.int x8)), I9)) := by
  show (fX9_forecastFlow_k70 N) [some (.ref 0), some (.int v1), none, some (.int v3), none] [] I = _
  unfold fX9_forecastFlow_k70
  refine tt_aload rfl ?_
  refine tt_iload rfl ?_
  refine tt_iload rfl ?_
  refine tt_cavI (t := []) ⟨Nat.le_of_ble_eq_true rfl, Nat.le_of_ble_eq_true rfl⟩ rfl rfl rfl (fun x8 I8 => ?_)
  refine tt_istore (L2 := [some (.ref 0), some (.int v1), none, some (.int v3), some (.int x8)]) (tt_lt rfl) rfl ?_
  refine tt_aload rfl ?_
  refine tt_getr (q := 4) rfl rfl ?_
  refine tt_const ?_
  refine tt_aload rfl ?_
  refine tt_getr (q := 3) rfl rfl ?_
  refine tt_const ?_
  refine tt_caV (t := []) ⟨Nat.le_of_ble_eq_true rfl, Nat.le_of_ble_eq_true rfl⟩ rfl rfl rfl (fun I9 => ?_)
  refine tt_iload rfl ?_
  exact rfl
set_option maxRecDepth 100000 in
theorem eX9_forecastFlow (N : Nat) (v1 : Int32) (v2 : Int32) (v3 : Int32) (I : gM) : fX9_forecastFlow N [.ref 0, .int v1, .int v2, .int v3] I = hX9_forecastFlow_0 N v1 v2 v3 I := by
  show gFn 5 (fX9_forecastFlow_k0 N) [.ref 0, .int v1, .int v2, .int v3] I = (fX9_forecastFlow_k0 N) [some (.ref 0), some (.int v1), some (.int v2), some (.int v3), none] [] I
  exact tt_fn rfl rfl

def hX9_slotsToFull_0 (N : Nat) (v1 : Int32) (v2 : Int32) (I : gM) : gO := fX9_slotsToFull_k0 N [some (.ref 0), some (.int v1), some (.int v2), none, none] [] I
def hX9_slotsToFull_29 (N : Nat) (v1 : Int32) (v2 : Int32) (I : gM) : gO := fX9_slotsToFull_k29 N [some (.ref 0), some (.int v1), some (.int v2), none, none] [.ref 0] I
def hX9_slotsToFull_30 (N : Nat) (v1 : Int32) (v2 : Int32) (s1 : Int32) (I : gM) : gO := fX9_slotsToFull_k30 N [some (.ref 0), some (.int v1), some (.int v2), none, none] [.int s1, .ref 0] I
def hX9_slotsToFull_54 (N : Nat) (n54 : Nat) (v1 : Int32) (v2 : Int32) (v3 : Int32) (I : gM) : gO := s_lp (fX9_slotsToFull_b54 N) n54 [some (.ref 0), some (.int v1), some (.int v2), some (.int v3), none] [] I
def hX9_slotsToFull_81 (N : Nat) (v2 : Int32) (v3 : Int32) (I : gM) : gO := fX9_slotsToFull_k81 N [some (.ref 0), none, some (.int v2), some (.int v3), none] [] I
def hX9_slotsToFull_98 (N : Nat) (v3 : Int32) (s0 : Int32) (I : gM) : gO := fX9_slotsToFull_k98 N [some (.ref 0), none, none, some (.int v3), none] [.int s0] I
set_option maxRecDepth 100000 in
theorem eX9_slotsToFull_0 (N : Nat) (v1 : Int32) (v2 : Int32) (I : gM) : hX9_slotsToFull_0 N v1 v2 I =
  (hI (fX9_areSlots N [.int v1] (gS [] (gU I 0 0 0))) [] (gU I 0 0 0) fun x1 I1 => if gz_eq x1 = true then (hX9_slotsToFull_29 N v1 v2 I1) else (hI (fX9_in N [.long ((v2).toInt64), .long 1, .long 500] (gS [] I1)) [] I1 fun x2 I2 => if gz_eq x2 = true then (hX9_slotsToFull_29 N v1 v2 I2) else (hX9_slotsToFull_30 N v1 v2 1 I2))) := by
  show (fX9_slotsToFull_k0 N) [some (.ref 0), some (.int v1), some (.int v2), none, none] [] I = _
  unfold fX9_slotsToFull_k0
  refine tt_aload rfl ?_
  refine tt_const ?_
  refine tt_put rfl rfl ?_
  refine tt_aload rfl ?_
  refine tt_iload rfl ?_
  refine tt_caI (t := [.ref 0]) ⟨Nat.le_of_ble_eq_true rfl, Nat.le_of_ble_eq_true rfl⟩ rfl rfl rfl (fun x1 I1 => ?_)
  refine tt_if ?_ ?_
  · skip
    refine tt_mask rfl ?_
    exact rfl
  · skip
    refine tt_iload rfl ?_
    refine tt_i2l ?_
    refine tt_lconst ?_
    refine tt_lconst ?_
    refine tt_caI (t := [.ref 0]) ⟨Nat.le_of_ble_eq_true rfl, Nat.le_of_ble_eq_true rfl⟩ rfl rfl rfl (fun x2 I2 => ?_)
    refine tt_if ?_ ?_
    · skip
      refine tt_mask rfl ?_
      exact rfl
    · skip
      refine tt_const ?_
      refine tt_mask rfl ?_
      exact rfl
set_option maxRecDepth 100000 in
theorem eX9_slotsToFull_29 (N : Nat) (v1 : Int32) (v2 : Int32) (I : gM) : hX9_slotsToFull_29 N v1 v2 I =
  (hX9_slotsToFull_30 N v1 v2 0 I) := by
  show (fX9_slotsToFull_k29 N) [some (.ref 0), some (.int v1), some (.int v2), none, none] [.ref 0] I = _
  unfold fX9_slotsToFull_k29
  refine tt_const ?_
  refine tt_mask rfl ?_
  exact rfl
set_option maxRecDepth 100000 in
theorem eX9_slotsToFull_30 (N : Nat) (v1 : Int32) (v2 : Int32) (s1 : Int32) (I : gM) : hX9_slotsToFull_30 N v1 v2 s1 I =
  (hI (fX9_fails N [.ref 0, .int s1, .int 1] (gS (rg 0 18) I)) (rg 0 18) I fun x3 I3 => if gz_eq x3 = true then (hV (fX9_copy N 2746 2746 [.ref 0, .int 0, .ref 1, .int 0] (gS (rg 3 2) I3)) (rg 3 2) I3 fun I4 => hX9_slotsToFull_54 N N v1 v2 0 I4) else (some (.inl (some (.int 0)), I3))) := by
  show (fX9_slotsToFull_k30 N) [some (.ref 0), some (.int v1), some (.int v2), none, none] [.int s1, .ref 0] I = _
  unfold fX9_slotsToFull_k30
  refine tt_const ?_
  refine tt_cavI (t := []) ⟨Nat.le_of_ble_eq_true rfl, Nat.le_of_ble_eq_true rfl⟩ rfl rfl rfl (fun x3 I3 => ?_)
  refine tt_if ?_ ?_
  · skip
    refine tt_aload rfl ?_
    refine tt_getr (q := 3) rfl rfl ?_
    refine tt_const ?_
    refine tt_aload rfl ?_
    refine tt_getr (q := 4) rfl rfl ?_
    refine tt_const ?_
    refine tt_caV (t := []) ⟨Nat.le_of_ble_eq_true rfl, Nat.le_of_ble_eq_true rfl⟩ rfl rfl rfl (fun I4 => ?_)
    refine tt_const ?_
    refine tt_istore (L2 := [some (.ref 0), some (.int v1), some (.int v2), some (.int 0), none]) (tt_lt rfl) rfl ?_
    refine tt_mask rfl ?_
    exact rfl
  · skip
    refine tt_const ?_
    exact rfl
set_option maxRecDepth 100000 in
theorem eX9_slotsToFull_54 (N : Nat) (n54 : Nat) (v1 : Int32) (v2 : Int32) (v3 : Int32) (I : gM) : hX9_slotsToFull_54 N (n54 + 1) v1 v2 v3 I =
  (if gc_ge v3 v1 = true then (hX9_slotsToFull_81 N v2 v3 I) else (ck 2746 245 <| if gc_ge ((I 3 (Int32.toNatClampNeg 245))) v2 = true then (hX9_slotsToFull_81 N v2 v3 I) else (hV (fX9_slot N [.ref 0] (gS (rg 0 18) I)) (rg 0 18) I fun I5 => hX9_slotsToFull_54 N n54 v1 v2 (v3 + 1) I5))) := by
  show (fX9_slotsToFull_b54 N (s_lp (fX9_slotsToFull_b54 N) n54)) [some (.ref 0), some (.int v1), some (.int v2), some (.int v3), none] [] I = _
  unfold fX9_slotsToFull_b54
  refine tt_iload rfl ?_
  refine tt_iload rfl ?_
  refine tt_cmp ?_ ?_
  · skip
    refine tt_mask rfl ?_
    exact rfl
  · skip
    refine tt_aload rfl ?_
    refine tt_getr (q := 3) rfl rfl ?_
    refine tt_const ?_
    refine tt_ald (x := (I 3 (Int32.toNatClampNeg 245))) rfl rfl ?_
    refine tt_iload rfl ?_
    refine tt_cmp ?_ ?_
    · skip
      refine tt_mask rfl ?_
      exact rfl
    · skip
      refine tt_aload rfl ?_
      refine tt_cavV (t := []) ⟨Nat.le_of_ble_eq_true rfl, Nat.le_of_ble_eq_true rfl⟩ rfl rfl rfl (fun I5 => ?_)
      refine tt_iinc (L2 := [some (.ref 0), some (.int v1), some (.int v2), some (.int (v3 + 1)), none]) rfl rfl ?_
      refine tt_mask rfl ?_
      exact rfl
theorem eX9_slotsToFull_54z (N : Nat) (v1 : Int32) (v2 : Int32) (v3 : Int32) (I : gM) : hX9_slotsToFull_54 N 0 v1 v2 v3 I = none := (rfl)
set_option maxRecDepth 100000 in
theorem eX9_slotsToFull_81 (N : Nat) (v2 : Int32) (v3 : Int32) (I : gM) : hX9_slotsToFull_81 N v2 v3 I =
  (ck 2746 245 <| if gc_lt ((I 3 (Int32.toNatClampNeg 245))) v2 = true then (hX9_slotsToFull_98 N v3 0 I) else (hX9_slotsToFull_98 N v3 1 I)) := by
  show (fX9_slotsToFull_k81 N) [some (.ref 0), none, some (.int v2), some (.int v3), none] [] I = _
  unfold fX9_slotsToFull_k81
  refine tt_aload rfl ?_
  refine tt_getr (q := 3) rfl rfl ?_
  refine tt_const ?_
  refine tt_ald (x := (I 3 (Int32.toNatClampNeg 245))) rfl rfl ?_
  refine tt_iload rfl ?_
  refine tt_cmp ?_ ?_
  · skip
    refine tt_const ?_
    refine tt_mask rfl ?_
    exact rfl
  · skip
    refine tt_const ?_
    refine tt_mask rfl ?_
    exact rfl
set_option maxRecDepth 100000 in
theorem eX9_slotsToFull_98 (N : Nat) (v3 : Int32) (s0 : Int32) (I : gM) : hX9_slotsToFull_98 N v3 s0 I =
  (hV (fX9_copy N 2746 2746 [.ref 0, .int 0, .ref 1, .int 0] (gS [4, 3] I)) [4, 3] I fun I6 => hI (fX9_fails N [.ref 0, .int s0, .int 2] (gS (rg 0 18) I6)) (rg 0 18) I6 fun x7 I7 => if gz_eq x7 = true then (some (.inl (some (.int v3)), I7)) else (some (.inl (some (.int 0)), I7))) := by
  show (fX9_slotsToFull_k98 N) [some (.ref 0), none, none, some (.int v3), none] [.int s0] I = _
  unfold fX9_slotsToFull_k98
  refine tt_istore (L2 := [some (.ref 0), none, none, some (.int v3), some (.int s0)]) (tt_lt rfl) rfl ?_
  refine tt_aload rfl ?_
  refine tt_getr (q := 4) rfl rfl ?_
  refine tt_const ?_
  refine tt_aload rfl ?_
  refine tt_getr (q := 3) rfl rfl ?_
  refine tt_const ?_
  refine tt_caV (t := []) ⟨Nat.le_of_ble_eq_true rfl, Nat.le_of_ble_eq_true rfl⟩ rfl rfl rfl (fun I6 => ?_)
  refine tt_aload rfl ?_
  refine tt_iload rfl ?_
  refine tt_const ?_
  refine tt_cavI (t := []) ⟨Nat.le_of_ble_eq_true rfl, Nat.le_of_ble_eq_true rfl⟩ rfl rfl rfl (fun x7 I7 => ?_)
  refine tt_if ?_ ?_
  · skip
    refine tt_iload rfl ?_
    exact rfl
  · skip
    refine tt_const ?_
    exact rfl
set_option maxRecDepth 100000 in
theorem eX9_slotsToFull (N : Nat) (v1 : Int32) (v2 : Int32) (I : gM) : fX9_slotsToFull N [.ref 0, .int v1, .int v2] I = hX9_slotsToFull_0 N v1 v2 I := by
  show gFn 5 (fX9_slotsToFull_k0 N) [.ref 0, .int v1, .int v2] I = (fX9_slotsToFull_k0 N) [some (.ref 0), some (.int v1), some (.int v2), none, none] [] I
  exact tt_fn rfl rfl

def hX9_bestBias_0 (N : Nat) (v1 : Int32) (I : gM) : gO := fX9_bestBias_k0 N [some (.ref 0), some (.int v1), none, none, none, none, none, none] [] I
def hX9_bestBias_39 (N : Nat) (v1 : Int32) (v2 : Int32) (v3 : Int32) (v4 : Int32) (I : gM) : gO := fX9_bestBias_k39 N [some (.ref 0), some (.int v1), some (.int v2), some (.int v3), some (.int v4), none, none, none] [] I
def hX9_bestBias_42 (N : Nat) (n42 : Nat) (v1 : Int32) (v2 : Int32) (v3 : Int32) (v4 : Int32) (v5 : Int32) (I : gM) : gO := s_lp (fX9_bestBias_b42 N) n42 [some (.ref 0), some (.int v1), some (.int v2), some (.int v3), some (.int v4), some (.int v5), none, none] [] I
def hX9_bestBias_104 (N : Nat) (n42 : Nat) (v1 : Int32) (v5 : Int32) (v6 : Int32) (v7 : Int32) (I : gM) : gO := fX9_bestBias_k104 N (s_lp (fX9_bestBias_b42 N) n42) [some (.ref 0), some (.int v1), none, none, none, some (.int v5), some (.int v6), some (.int v7)] [] I
def hX9_bestBias_114 (N : Nat) (n42 : Nat) (v1 : Int32) (v2 : Int32) (v3 : Int32) (v4 : Int32) (v5 : Int32) (I : gM) : gO := fX9_bestBias_k114 N (s_lp (fX9_bestBias_b42 N) n42) [some (.ref 0), some (.int v1), some (.int v2), some (.int v3), some (.int v4), some (.int v5), none, none] [] I
set_option maxRecDepth 100000 in
theorem eX9_bestBias_0 (N : Nat) (v1 : Int32) (I : gM) : hX9_bestBias_0 N v1 I =
  (hI (fX9_areSlots N [.int v1] (gS [] (gU I 0 0 0))) [] (gU I 0 0 0) fun x1 I1 => hI (fX9_fails N [.ref 0, .int x1, .int 1] (gS (rg 0 18) I1)) (rg 0 18) I1 fun x2 I2 => if gz_eq x2 = true then (hV (fX9_copy N 2746 2746 [.ref 0, .int 0, .ref 1, .int 0] (gS (rg 3 2) I2)) (rg 3 2) I2 fun I3 => hX9_bestBias_39 N v1 (-1) 0 0 I3) else (some (.inl (some (.int 0)), I2))) := by
  show (fX9_bestBias_k0 N) [some (.ref 0), some (.int v1), none, none, none, none, none, none] [] I = _
  unfold fX9_bestBias_k0
  refine tt_aload rfl ?_
  refine tt_const ?_
  refine tt_put rfl rfl ?_
  refine tt_aload rfl ?_
  refine tt_iload rfl ?_
  refine tt_caI (t := [.ref 0]) ⟨Nat.le_of_ble_eq_true rfl, Nat.le_of_ble_eq_true rfl⟩ rfl rfl rfl (fun x1 I1 => ?_)
  refine tt_const ?_
  refine tt_cavI (t := []) ⟨Nat.le_of_ble_eq_true rfl, Nat.le_of_ble_eq_true rfl⟩ rfl rfl rfl (fun x2 I2 => ?_)
  refine tt_if ?_ ?_
  · skip
    refine tt_const ?_
    refine tt_istore (L2 := [some (.ref 0), some (.int v1), some (.int (-1)), none, none, none, none, none]) (tt_lt rfl) rfl ?_
    refine tt_const ?_
    refine tt_istore (L2 := [some (.ref 0), some (.int v1), some (.int (-1)), some (.int 0), none, none, none, none]) (tt_lt rfl) rfl ?_
    refine tt_const ?_
    refine tt_istore (L2 := [some (.ref 0), some (.int v1), some (.int (-1)), some (.int 0), some (.int 0), none, none, none]) (tt_lt rfl) rfl ?_
    refine tt_aload rfl ?_
    refine tt_getr (q := 3) rfl rfl ?_
    refine tt_const ?_
    refine tt_aload rfl ?_
    refine tt_getr (q := 4) rfl rfl ?_
    refine tt_const ?_
    refine tt_caV (t := []) ⟨Nat.le_of_ble_eq_true rfl, Nat.le_of_ble_eq_true rfl⟩ rfl rfl rfl (fun I3 => ?_)
    refine tt_mask rfl ?_
    exact rfl
  · skip
    refine tt_const ?_
    exact rfl
set_option maxRecDepth 100000 in
theorem eX9_bestBias_39 (N : Nat) (v1 : Int32) (v2 : Int32) (v3 : Int32) (v4 : Int32) (I : gM) : hX9_bestBias_39 N v1 v2 v3 v4 I =
  (hX9_bestBias_42 N N v1 v2 v3 v4 0 I) := by
  show (fX9_bestBias_k39 N) [some (.ref 0), some (.int v1), some (.int v2), some (.int v3), some (.int v4), none, none, none] [] I = _
  unfold fX9_bestBias_k39
  refine tt_const ?_
  refine tt_istore (L2 := [some (.ref 0), some (.int v1), some (.int v2), some (.int v3), some (.int v4), some (.int 0), none, none]) (tt_lt rfl) rfl ?_
  refine tt_mask rfl ?_
  exact rfl
set_option maxRecDepth 100000 in
theorem eX9_bestBias_42 (N : Nat) (n42 : Nat) (v1 : Int32) (v2 : Int32) (v3 : Int32) (v4 : Int32) (v5 : Int32) (I : gM) : hX9_bestBias_42 N (n42 + 1) v1 v2 v3 v4 v5 I =
  (if gc_gt v5 20 = true then (some (.inl (some (.int v2)), I)) else (ck 2746 5 <| hV (fX9_slots N [.ref 0, .int v1] (gS (rg 0 18) (gU I 3 (Int32.toNatClampNeg 5) v5))) (rg 0 18) (gU I 3 (Int32.toNatClampNeg 5) v5) fun I4 => ck 2746 245 <| hI (fX9_sumOf N [.ref 0, .int 8] (gS (rg 0 18) I4)) (rg 0 18) I4 fun x5 I5 => if gc_eq v2 (-1) = true then (hX9_bestBias_104 N n42 v1 v5 ((I4 3 (Int32.toNatClampNeg 245))) x5 I5) else (if gc_lt ((I4 3 (Int32.toNatClampNeg 245))) v3 = true then (hX9_bestBias_104 N n42 v1 v5 ((I4 3 (Int32.toNatClampNeg 245))) x5 I5) else (if gc_ne ((I4 3 (Int32.toNatClampNeg 245))) v3 = true then (hX9_bestBias_114 N n42 v1 v2 v3 v4 v5 I5) else (if gc_ge x5 v4 = true then (hX9_bestBias_114 N n42 v1 v2 v3 v4 v5 I5) else (hX9_bestBias_104 N n42 v1 v5 ((I4 3 (Int32.toNatClampNeg 245))) x5 I5)))))) := by
  show (fX9_bestBias_b42 N (s_lp (fX9_bestBias_b42 N) n42)) [some (.ref 0), some (.int v1), some (.int v2), some (.int v3), some (.int v4), some (.int v5), none, none] [] I = _
  unfold fX9_bestBias_b42
  refine tt_iload rfl ?_
  refine tt_const ?_
  refine tt_cmp ?_ ?_
  · skip
    refine tt_iload rfl ?_
    exact rfl
  · skip
    refine tt_aload rfl ?_
    refine tt_getr (q := 3) rfl rfl ?_
    refine tt_const ?_
    refine tt_iload rfl ?_
    refine tt_ast (v := v5) rfl rfl ?_
    refine tt_aload rfl ?_
    refine tt_iload rfl ?_
    refine tt_cavV (t := []) ⟨Nat.le_of_ble_eq_true rfl, Nat.le_of_ble_eq_true rfl⟩ rfl rfl rfl (fun I4 => ?_)
    refine tt_aload rfl ?_
    refine tt_getr (q := 3) rfl rfl ?_
    refine tt_const ?_
    refine tt_ald (x := (I4 3 (Int32.toNatClampNeg 245))) rfl rfl ?_
    refine tt_istore (L2 := [some (.ref 0), some (.int v1), some (.int v2), some (.int v3), some (.int v4), some (.int v5), some (.int ((I4 3 (Int32.toNatClampNeg 245)))), none]) (tt_lt rfl) rfl ?_
    refine tt_aload rfl ?_
    refine tt_const ?_
    refine tt_cavI (t := []) ⟨Nat.le_of_ble_eq_true rfl, Nat.le_of_ble_eq_true rfl⟩ rfl rfl rfl (fun x5 I5 => ?_)
    refine tt_istore (L2 := [some (.ref 0), some (.int v1), some (.int v2), some (.int v3), some (.int v4), some (.int v5), some (.int ((I4 3 (Int32.toNatClampNeg 245)))), some (.int x5)]) (tt_lt rfl) rfl ?_
    refine tt_iload rfl ?_
    refine tt_const ?_
    refine tt_cmp ?_ ?_
    · skip
      refine tt_mask rfl ?_
      exact rfl
    · skip
      refine tt_iload rfl ?_
      refine tt_iload rfl ?_
      refine tt_cmp ?_ ?_
      · skip
        refine tt_mask rfl ?_
        exact rfl
      · skip
        refine tt_iload rfl ?_
        refine tt_iload rfl ?_
        refine tt_cmp ?_ ?_
        · skip
          refine tt_mask rfl ?_
          exact rfl
        · skip
          refine tt_iload rfl ?_
          refine tt_iload rfl ?_
          refine tt_cmp ?_ ?_
          · skip
            refine tt_mask rfl ?_
            exact rfl
          · skip
            refine tt_mask rfl ?_
            exact rfl
theorem eX9_bestBias_42z (N : Nat) (v1 : Int32) (v2 : Int32) (v3 : Int32) (v4 : Int32) (v5 : Int32) (I : gM) : hX9_bestBias_42 N 0 v1 v2 v3 v4 v5 I = none := (rfl)
set_option maxRecDepth 100000 in
theorem eX9_bestBias_104 (N : Nat) (n42 : Nat) (v1 : Int32) (v5 : Int32) (v6 : Int32) (v7 : Int32) (I : gM) : hX9_bestBias_104 N n42 v1 v5 v6 v7 I =
  (hX9_bestBias_114 N n42 v1 v5 v6 v7 v5 I) := by
  show (fX9_bestBias_k104 N (s_lp (fX9_bestBias_b42 N) n42)) [some (.ref 0), some (.int v1), none, none, none, some (.int v5), some (.int v6), some (.int v7)] [] I = _
  unfold fX9_bestBias_k104
  refine tt_iload rfl ?_
  refine tt_istore (L2 := [some (.ref 0), some (.int v1), some (.int v5), none, none, some (.int v5), some (.int v6), some (.int v7)]) (tt_lt rfl) rfl ?_
  refine tt_iload rfl ?_
  refine tt_istore (L2 := [some (.ref 0), some (.int v1), some (.int v5), some (.int v6), none, some (.int v5), some (.int v6), some (.int v7)]) (tt_lt rfl) rfl ?_
  refine tt_iload rfl ?_
  refine tt_istore (L2 := [some (.ref 0), some (.int v1), some (.int v5), some (.int v6), some (.int v7), some (.int v5), some (.int v6), some (.int v7)]) (tt_lt rfl) rfl ?_
  refine tt_mask rfl ?_
  exact rfl
set_option maxRecDepth 100000 in
theorem eX9_bestBias_114 (N : Nat) (n42 : Nat) (v1 : Int32) (v2 : Int32) (v3 : Int32) (v4 : Int32) (v5 : Int32) (I : gM) : hX9_bestBias_114 N n42 v1 v2 v3 v4 v5 I =
  (hV (fX9_copy N 2746 2746 [.ref 0, .int 0, .ref 1, .int 0] (gS [4, 3] I)) [4, 3] I fun I6 => hX9_bestBias_42 N n42 v1 v2 v3 v4 (v5 + 1) I6) := by
  show (fX9_bestBias_k114 N (s_lp (fX9_bestBias_b42 N) n42)) [some (.ref 0), some (.int v1), some (.int v2), some (.int v3), some (.int v4), some (.int v5), none, none] [] I = _
  unfold fX9_bestBias_k114
  refine tt_aload rfl ?_
  refine tt_getr (q := 4) rfl rfl ?_
  refine tt_const ?_
  refine tt_aload rfl ?_
  refine tt_getr (q := 3) rfl rfl ?_
  refine tt_const ?_
  refine tt_caV (t := []) ⟨Nat.le_of_ble_eq_true rfl, Nat.le_of_ble_eq_true rfl⟩ rfl rfl rfl (fun I6 => ?_)
  refine tt_iinc (L2 := [some (.ref 0), some (.int v1), some (.int v2), some (.int v3), some (.int v4), some (.int (v5 + 1)), none, none]) rfl rfl ?_
  refine tt_mask rfl ?_
  exact rfl
set_option maxRecDepth 100000 in
theorem eX9_bestBias (N : Nat) (v1 : Int32) (I : gM) : fX9_bestBias N [.ref 0, .int v1] I = hX9_bestBias_0 N v1 I := by
  show gFn 8 (fX9_bestBias_k0 N) [.ref 0, .int v1] I = (fX9_bestBias_k0 N) [some (.ref 0), some (.int v1), none, none, none, none, none, none] [] I
  exact tt_fn rfl rfl

def hX9_bestExcess_0 (N : Nat) (v1 : Int32) (I : gM) : gO := fX9_bestExcess_k0 N [some (.ref 0), some (.int v1), none, none, none, none] [] I
def hX9_bestExcess_36 (N : Nat) (v1 : Int32) (v2 : Int32) (v3 : Int32) (I : gM) : gO := fX9_bestExcess_k36 N [some (.ref 0), some (.int v1), some (.int v2), some (.int v3), none, none] [] I
def hX9_bestExcess_39 (N : Nat) (n39 : Nat) (v1 : Int32) (v2 : Int32) (v3 : Int32) (v4 : Int32) (I : gM) : gO := s_lp (fX9_bestExcess_b39 N) n39 [some (.ref 0), some (.int v1), some (.int v2), some (.int v3), some (.int v4), none] [] I
def hX9_bestExcess_85 (N : Nat) (n39 : Nat) (v1 : Int32) (v4 : Int32) (v5 : Int32) (I : gM) : gO := fX9_bestExcess_k85 N (s_lp (fX9_bestExcess_b39 N) n39) [some (.ref 0), some (.int v1), none, none, some (.int v4), some (.int v5)] [] I
def hX9_bestExcess_91 (N : Nat) (n39 : Nat) (v1 : Int32) (v2 : Int32) (v3 : Int32) (v4 : Int32) (I : gM) : gO := fX9_bestExcess_k91 N (s_lp (fX9_bestExcess_b39 N) n39) [some (.ref 0), some (.int v1), some (.int v2), some (.int v3), some (.int v4), none] [] I
set_option maxRecDepth 100000 in
theorem eX9_bestExcess_0 (N : Nat) (v1 : Int32) (I : gM) : hX9_bestExcess_0 N v1 I =
  (hI (fX9_areSlots N [.int v1] (gS [] (gU I 0 0 0))) [] (gU I 0 0 0) fun x1 I1 => hI (fX9_fails N [.ref 0, .int x1, .int 1] (gS (rg 0 18) I1)) (rg 0 18) I1 fun x2 I2 => if gz_eq x2 = true then (hV (fX9_copy N 2746 2746 [.ref 0, .int 0, .ref 1, .int 0] (gS (rg 3 2) I2)) (rg 3 2) I2 fun I3 => hX9_bestExcess_36 N v1 (-1) 0 I3) else (some (.inl (some (.int 0)), I2))) := by
  show (fX9_bestExcess_k0 N) [some (.ref 0), some (.int v1), none, none, none, none] [] I = _
  unfold fX9_bestExcess_k0
  refine tt_aload rfl ?_
  refine tt_const ?_
  refine tt_put rfl rfl ?_
  refine tt_aload rfl ?_
  refine tt_iload rfl ?_
  refine tt_caI (t := [.ref 0]) ⟨Nat.le_of_ble_eq_true rfl, Nat.le_of_ble_eq_true rfl⟩ rfl rfl rfl (fun x1 I1 => ?_)
  refine tt_const ?_
  refine tt_cavI (t := []) ⟨Nat.le_of_ble_eq_true rfl, Nat.le_of_ble_eq_true rfl⟩ rfl rfl rfl (fun x2 I2 => ?_)
  refine tt_if ?_ ?_
  · skip
    refine tt_const ?_
    refine tt_istore (L2 := [some (.ref 0), some (.int v1), some (.int (-1)), none, none, none]) (tt_lt rfl) rfl ?_
    refine tt_const ?_
    refine tt_istore (L2 := [some (.ref 0), some (.int v1), some (.int (-1)), some (.int 0), none, none]) (tt_lt rfl) rfl ?_
    refine tt_aload rfl ?_
    refine tt_getr (q := 3) rfl rfl ?_
    refine tt_const ?_
    refine tt_aload rfl ?_
    refine tt_getr (q := 4) rfl rfl ?_
    refine tt_const ?_
    refine tt_caV (t := []) ⟨Nat.le_of_ble_eq_true rfl, Nat.le_of_ble_eq_true rfl⟩ rfl rfl rfl (fun I3 => ?_)
    refine tt_mask rfl ?_
    exact rfl
  · skip
    refine tt_const ?_
    exact rfl
set_option maxRecDepth 100000 in
theorem eX9_bestExcess_36 (N : Nat) (v1 : Int32) (v2 : Int32) (v3 : Int32) (I : gM) : hX9_bestExcess_36 N v1 v2 v3 I =
  (hX9_bestExcess_39 N N v1 v2 v3 0 I) := by
  show (fX9_bestExcess_k36 N) [some (.ref 0), some (.int v1), some (.int v2), some (.int v3), none, none] [] I = _
  unfold fX9_bestExcess_k36
  refine tt_const ?_
  refine tt_istore (L2 := [some (.ref 0), some (.int v1), some (.int v2), some (.int v3), some (.int 0), none]) (tt_lt rfl) rfl ?_
  refine tt_mask rfl ?_
  exact rfl
set_option maxRecDepth 100000 in
theorem eX9_bestExcess_39 (N : Nat) (n39 : Nat) (v1 : Int32) (v2 : Int32) (v3 : Int32) (v4 : Int32) (I : gM) : hX9_bestExcess_39 N (n39 + 1) v1 v2 v3 v4 I =
  (if gc_gt v4 50 = true then (some (.inl (some (.int v2)), I)) else (ck 2746 3 <| ck 2746 4 <| hV (fX9_slots N [.ref 0, .int v1] (gS (rg 0 18) (gU (gU I 3 (Int32.toNatClampNeg 3) 1) 3 (Int32.toNatClampNeg 4) v4))) (rg 0 18) (gU (gU I 3 (Int32.toNatClampNeg 3) 1) 3 (Int32.toNatClampNeg 4) v4) fun I4 => hI (fX9_sumOf N [.ref 0, .int 6] (gS (rg 0 18) I4)) (rg 0 18) I4 fun x5 I5 => if gc_eq v2 (-1) = true then (hX9_bestExcess_85 N n39 v1 v4 x5 I5) else (if gc_le x5 v3 = true then (hX9_bestExcess_91 N n39 v1 v2 v3 v4 I5) else (hX9_bestExcess_85 N n39 v1 v4 x5 I5)))) := by
  show (fX9_bestExcess_b39 N (s_lp (fX9_bestExcess_b39 N) n39)) [some (.ref 0), some (.int v1), some (.int v2), some (.int v3), some (.int v4), none] [] I = _
  unfold fX9_bestExcess_b39
  refine tt_iload rfl ?_
  refine tt_const ?_
  refine tt_cmp ?_ ?_
  · skip
    refine tt_iload rfl ?_
    exact rfl
  · skip
    refine tt_aload rfl ?_
    refine tt_getr (q := 3) rfl rfl ?_
    refine tt_const ?_
    refine tt_const ?_
    refine tt_ast (v := 1) rfl rfl ?_
    refine tt_aload rfl ?_
    refine tt_getr (q := 3) rfl rfl ?_
    refine tt_const ?_
    refine tt_iload rfl ?_
    refine tt_ast (v := v4) rfl rfl ?_
    refine tt_aload rfl ?_
    refine tt_iload rfl ?_
    refine tt_cavV (t := []) ⟨Nat.le_of_ble_eq_true rfl, Nat.le_of_ble_eq_true rfl⟩ rfl rfl rfl (fun I4 => ?_)
    refine tt_aload rfl ?_
    refine tt_const ?_
    refine tt_cavI (t := []) ⟨Nat.le_of_ble_eq_true rfl, Nat.le_of_ble_eq_true rfl⟩ rfl rfl rfl (fun x5 I5 => ?_)
    refine tt_istore (L2 := [some (.ref 0), some (.int v1), some (.int v2), some (.int v3), some (.int v4), some (.int x5)]) (tt_lt rfl) rfl ?_
    refine tt_iload rfl ?_
    refine tt_const ?_
    refine tt_cmp ?_ ?_
    · skip
      refine tt_mask rfl ?_
      exact rfl
    · skip
      refine tt_iload rfl ?_
      refine tt_iload rfl ?_
      refine tt_cmp ?_ ?_
      · skip
        refine tt_mask rfl ?_
        exact rfl
      · skip
        refine tt_mask rfl ?_
        exact rfl
theorem eX9_bestExcess_39z (N : Nat) (v1 : Int32) (v2 : Int32) (v3 : Int32) (v4 : Int32) (I : gM) : hX9_bestExcess_39 N 0 v1 v2 v3 v4 I = none := (rfl)
set_option maxRecDepth 100000 in
theorem eX9_bestExcess_85 (N : Nat) (n39 : Nat) (v1 : Int32) (v4 : Int32) (v5 : Int32) (I : gM) : hX9_bestExcess_85 N n39 v1 v4 v5 I =
  (hX9_bestExcess_91 N n39 v1 v4 v5 v4 I) := by
  show (fX9_bestExcess_k85 N (s_lp (fX9_bestExcess_b39 N) n39)) [some (.ref 0), some (.int v1), none, none, some (.int v4), some (.int v5)] [] I = _
  unfold fX9_bestExcess_k85
  refine tt_iload rfl ?_
  refine tt_istore (L2 := [some (.ref 0), some (.int v1), some (.int v4), none, some (.int v4), some (.int v5)]) (tt_lt rfl) rfl ?_
  refine tt_iload rfl ?_
  refine tt_istore (L2 := [some (.ref 0), some (.int v1), some (.int v4), some (.int v5), some (.int v4), some (.int v5)]) (tt_lt rfl) rfl ?_
  refine tt_mask rfl ?_
  exact rfl
set_option maxRecDepth 100000 in
theorem eX9_bestExcess_91 (N : Nat) (n39 : Nat) (v1 : Int32) (v2 : Int32) (v3 : Int32) (v4 : Int32) (I : gM) : hX9_bestExcess_91 N n39 v1 v2 v3 v4 I =
  (hV (fX9_copy N 2746 2746 [.ref 0, .int 0, .ref 1, .int 0] (gS [4, 3] I)) [4, 3] I fun I6 => hX9_bestExcess_39 N n39 v1 v2 v3 (v4 + 10) I6) := by
  show (fX9_bestExcess_k91 N (s_lp (fX9_bestExcess_b39 N) n39)) [some (.ref 0), some (.int v1), some (.int v2), some (.int v3), some (.int v4), none] [] I = _
  unfold fX9_bestExcess_k91
  refine tt_aload rfl ?_
  refine tt_getr (q := 4) rfl rfl ?_
  refine tt_const ?_
  refine tt_aload rfl ?_
  refine tt_getr (q := 3) rfl rfl ?_
  refine tt_const ?_
  refine tt_caV (t := []) ⟨Nat.le_of_ble_eq_true rfl, Nat.le_of_ble_eq_true rfl⟩ rfl rfl rfl (fun I6 => ?_)
  refine tt_iinc (L2 := [some (.ref 0), some (.int v1), some (.int v2), some (.int v3), some (.int (v4 + 10)), none]) rfl rfl ?_
  refine tt_mask rfl ?_
  exact rfl
set_option maxRecDepth 100000 in
theorem eX9_bestExcess (N : Nat) (v1 : Int32) (I : gM) : fX9_bestExcess N [.ref 0, .int v1] I = hX9_bestExcess_0 N v1 I := by
  show gFn 6 (fX9_bestExcess_k0 N) [.ref 0, .int v1] I = (fX9_bestExcess_k0 N) [some (.ref 0), some (.int v1), none, none, none, none] [] I
  exact tt_fn rfl rfl

def hX9_bestSettings_0 (N : Nat) (v1 : Int32) (I : gM) : gO := fX9_bestSettings_k0 N [some (.ref 0), some (.int v1), none, none, none, none, none, none] [] I
def hX9_bestSettings_36 (N : Nat) (v1 : Int32) (v2 : Int32) (v3 : Int64) (I : gM) : gO := fX9_bestSettings_k36 N [some (.ref 0), some (.int v1), some (.int v2), some (.long v3), none, none, none, none] [] I
def hX9_bestSettings_39 (N : Nat) (n39 : Nat) (v1 : Int32) (v2 : Int32) (v3 : Int64) (v5 : Int32) (I : gM) : gO := s_lp (fX9_bestSettings_b39 N) n39 [some (.ref 0), some (.int v1), some (.int v2), some (.long v3), none, some (.int v5), none, none] [] I
def hX9_bestSettings_89 (N : Nat) (n39 : Nat) (v1 : Int32) (v5 : Int32) (v6 : Int64) (I : gM) : gO := fX9_bestSettings_k89 N (s_lp (fX9_bestSettings_b39 N) n39) [some (.ref 0), some (.int v1), none, none, none, some (.int v5), some (.long v6), none] [] I
def hX9_bestSettings_105 (N : Nat) (n39 : Nat) (v1 : Int32) (v2 : Int32) (v3 : Int64) (v5 : Int32) (I : gM) : gO := fX9_bestSettings_k105 N (s_lp (fX9_bestSettings_b39 N) n39) [some (.ref 0), some (.int v1), some (.int v2), some (.long v3), none, some (.int v5), none, none] [] I
set_option maxRecDepth 100000 in
theorem eX9_bestSettings_0 (N : Nat) (v1 : Int32) (I : gM) : hX9_bestSettings_0 N v1 I =
  (hI (fX9_areSlots N [.int v1] (gS [] (gU I 0 0 0))) [] (gU I 0 0 0) fun x1 I1 => hI (fX9_fails N [.ref 0, .int x1, .int 1] (gS (rg 0 18) I1)) (rg 0 18) I1 fun x2 I2 => if gz_eq x2 = true then (hV (fX9_copy N 2746 2746 [.ref 0, .int 0, .ref 1, .int 0] (gS (rg 3 2) I2)) (rg 3 2) I2 fun I3 => hX9_bestSettings_36 N v1 (-1) 0 I3) else (some (.inl (some (.int 0)), I2))) := by
  show (fX9_bestSettings_k0 N) [some (.ref 0), some (.int v1), none, none, none, none, none, none] [] I = _
  unfold fX9_bestSettings_k0
  refine tt_aload rfl ?_
  refine tt_const ?_
  refine tt_put rfl rfl ?_
  refine tt_aload rfl ?_
  refine tt_iload rfl ?_
  refine tt_caI (t := [.ref 0]) ⟨Nat.le_of_ble_eq_true rfl, Nat.le_of_ble_eq_true rfl⟩ rfl rfl rfl (fun x1 I1 => ?_)
  refine tt_const ?_
  refine tt_cavI (t := []) ⟨Nat.le_of_ble_eq_true rfl, Nat.le_of_ble_eq_true rfl⟩ rfl rfl rfl (fun x2 I2 => ?_)
  refine tt_if ?_ ?_
  · skip
    refine tt_const ?_
    refine tt_istore (L2 := [some (.ref 0), some (.int v1), some (.int (-1)), none, none, none, none, none]) (tt_lt rfl) rfl ?_
    refine tt_lconst ?_
    refine tt_lstore (L2 := [some (.ref 0), some (.int v1), some (.int (-1)), some (.long 0), none, none, none, none]) (tt_lt rfl) rfl ?_
    refine tt_aload rfl ?_
    refine tt_getr (q := 3) rfl rfl ?_
    refine tt_const ?_
    refine tt_aload rfl ?_
    refine tt_getr (q := 4) rfl rfl ?_
    refine tt_const ?_
    refine tt_caV (t := []) ⟨Nat.le_of_ble_eq_true rfl, Nat.le_of_ble_eq_true rfl⟩ rfl rfl rfl (fun I3 => ?_)
    refine tt_mask rfl ?_
    exact rfl
  · skip
    refine tt_const ?_
    exact rfl
set_option maxRecDepth 100000 in
theorem eX9_bestSettings_36 (N : Nat) (v1 : Int32) (v2 : Int32) (v3 : Int64) (I : gM) : hX9_bestSettings_36 N v1 v2 v3 I =
  (hX9_bestSettings_39 N N v1 v2 v3 0 I) := by
  show (fX9_bestSettings_k36 N) [some (.ref 0), some (.int v1), some (.int v2), some (.long v3), none, none, none, none] [] I = _
  unfold fX9_bestSettings_k36
  refine tt_const ?_
  refine tt_istore (L2 := [some (.ref 0), some (.int v1), some (.int v2), some (.long v3), none, some (.int 0), none, none]) (tt_lt rfl) rfl ?_
  refine tt_mask rfl ?_
  exact rfl
set_option maxRecDepth 100000 in
theorem eX9_bestSettings_39 (N : Nat) (n39 : Nat) (v1 : Int32) (v2 : Int32) (v3 : Int64) (v5 : Int32) (I : gM) : hX9_bestSettings_39 N (n39 + 1) v1 v2 v3 v5 I =
  (if gc_ge v5 4 = true then (some (.inl (some (.int v2)), I)) else (if (2 : Int32) = 0 then none else ck 2746 3 <| if (2 : Int32) = 0 then none else ck 2746 6 <| hV (fX9_slots N [.ref 0, .int v1] (gS (rg 0 18) (gU (gU I 3 (Int32.toNatClampNeg 3) (gb_div v5 2)) 3 (Int32.toNatClampNeg 6) (gb_rem v5 2)))) (rg 0 18) (gU (gU I 3 (Int32.toNatClampNeg 3) (gb_div v5 2)) 3 (Int32.toNatClampNeg 6) (gb_rem v5 2)) fun I4 => hJ (fX9_squares N [.ref 0] (gS (rg 0 18) I4)) (rg 0 18) I4 fun x5 I5 => if gc_eq v2 (-1) = true then (hX9_bestSettings_89 N n39 v1 v5 x5 I5) else (if gz_ge (lg_cmp x5 v3) = true then (hX9_bestSettings_105 N n39 v1 v2 v3 v5 I5) else (hX9_bestSettings_89 N n39 v1 v5 x5 I5)))) := by
  show (fX9_bestSettings_b39 N (s_lp (fX9_bestSettings_b39 N) n39)) [some (.ref 0), some (.int v1), some (.int v2), some (.long v3), none, some (.int v5), none, none] [] I = _
  unfold fX9_bestSettings_b39
  refine tt_iload rfl ?_
  refine tt_const ?_
  refine tt_cmp ?_ ?_
  · skip
    refine tt_iload rfl ?_
    exact rfl
  · skip
    refine tt_aload rfl ?_
    refine tt_getr (q := 3) rfl rfl ?_
    refine tt_const ?_
    refine tt_iload rfl ?_
    refine tt_const ?_
    refine tt_div ?_
    refine tt_ast (v := (gb_div v5 2)) rfl rfl ?_
    refine tt_aload rfl ?_
    refine tt_getr (q := 3) rfl rfl ?_
    refine tt_const ?_
    refine tt_iload rfl ?_
    refine tt_const ?_
    refine tt_div ?_
    refine tt_ast (v := (gb_rem v5 2)) rfl rfl ?_
    refine tt_aload rfl ?_
    refine tt_iload rfl ?_
    refine tt_cavV (t := []) ⟨Nat.le_of_ble_eq_true rfl, Nat.le_of_ble_eq_true rfl⟩ rfl rfl rfl (fun I4 => ?_)
    refine tt_aload rfl ?_
    refine tt_cavJ (t := []) ⟨Nat.le_of_ble_eq_true rfl, Nat.le_of_ble_eq_true rfl⟩ rfl rfl rfl (fun x5 I5 => ?_)
    refine tt_lstore (L2 := [some (.ref 0), some (.int v1), some (.int v2), some (.long v3), none, some (.int v5), some (.long x5), none]) (tt_lt rfl) rfl ?_
    refine tt_iload rfl ?_
    refine tt_const ?_
    refine tt_cmp ?_ ?_
    · skip
      refine tt_mask rfl ?_
      exact rfl
    · skip
      refine tt_lload rfl ?_
      refine tt_lload rfl ?_
      refine tt_lcmp ?_
      refine tt_if ?_ ?_
      · skip
        refine tt_mask rfl ?_
        exact rfl
      · skip
        refine tt_mask rfl ?_
        exact rfl
theorem eX9_bestSettings_39z (N : Nat) (v1 : Int32) (v2 : Int32) (v3 : Int64) (v5 : Int32) (I : gM) : hX9_bestSettings_39 N 0 v1 v2 v3 v5 I = none := (rfl)
set_option maxRecDepth 100000 in
theorem eX9_bestSettings_89 (N : Nat) (n39 : Nat) (v1 : Int32) (v5 : Int32) (v6 : Int64) (I : gM) : hX9_bestSettings_89 N n39 v1 v5 v6 I =
  (if (2 : Int32) = 0 then none else if (2 : Int32) = 0 then none else hX9_bestSettings_105 N n39 v1 ((gb_add ((gb_mul 10 (gb_div v5 2))) (gb_rem v5 2))) v6 v5 I) := by
  show (fX9_bestSettings_k89 N (s_lp (fX9_bestSettings_b39 N) n39)) [some (.ref 0), some (.int v1), none, none, none, some (.int v5), some (.long v6), none] [] I = _
  unfold fX9_bestSettings_k89
  refine tt_const ?_
  refine tt_iload rfl ?_
  refine tt_const ?_
  refine tt_div ?_
  refine tt_bin ?_
  refine tt_iload rfl ?_
  refine tt_const ?_
  refine tt_div ?_
  refine tt_bin ?_
  refine tt_istore (L2 := [some (.ref 0), some (.int v1), some (.int ((gb_add ((gb_mul 10 (gb_div v5 2))) (gb_rem v5 2)))), none, none, some (.int v5), some (.long v6), none]) (tt_lt rfl) rfl ?_
  refine tt_lload rfl ?_
  refine tt_lstore (L2 := [some (.ref 0), some (.int v1), some (.int ((gb_add ((gb_mul 10 (gb_div v5 2))) (gb_rem v5 2)))), some (.long v6), none, some (.int v5), some (.long v6), none]) (tt_lt rfl) rfl ?_
  refine tt_mask rfl ?_
  exact rfl
set_option maxRecDepth 100000 in
theorem eX9_bestSettings_105 (N : Nat) (n39 : Nat) (v1 : Int32) (v2 : Int32) (v3 : Int64) (v5 : Int32) (I : gM) : hX9_bestSettings_105 N n39 v1 v2 v3 v5 I =
  (hV (fX9_copy N 2746 2746 [.ref 0, .int 0, .ref 1, .int 0] (gS [4, 3] I)) [4, 3] I fun I6 => hX9_bestSettings_39 N n39 v1 v2 v3 (v5 + 1) I6) := by
  show (fX9_bestSettings_k105 N (s_lp (fX9_bestSettings_b39 N) n39)) [some (.ref 0), some (.int v1), some (.int v2), some (.long v3), none, some (.int v5), none, none] [] I = _
  unfold fX9_bestSettings_k105
  refine tt_aload rfl ?_
  refine tt_getr (q := 4) rfl rfl ?_
  refine tt_const ?_
  refine tt_aload rfl ?_
  refine tt_getr (q := 3) rfl rfl ?_
  refine tt_const ?_
  refine tt_caV (t := []) ⟨Nat.le_of_ble_eq_true rfl, Nat.le_of_ble_eq_true rfl⟩ rfl rfl rfl (fun I6 => ?_)
  refine tt_iinc (L2 := [some (.ref 0), some (.int v1), some (.int v2), some (.long v3), none, some (.int (v5 + 1)), none, none]) rfl rfl ?_
  refine tt_mask rfl ?_
  exact rfl
set_option maxRecDepth 100000 in
theorem eX9_bestSettings (N : Nat) (v1 : Int32) (I : gM) : fX9_bestSettings N [.ref 0, .int v1] I = hX9_bestSettings_0 N v1 I := by
  show gFn 8 (fX9_bestSettings_k0 N) [.ref 0, .int v1] I = (fX9_bestSettings_k0 N) [some (.ref 0), some (.int v1), none, none, none, none, none, none] [] I
  exact tt_fn rfl rfl

def hX9_holds_0 (N : Nat) (v1 : Int32) (v2 : Int32) (v3 : Int32) (I : gM) : gO := fX9_holds_k0 N [some (.ref 0), some (.int v1), some (.int v2), some (.int v3), none, none] [] I
def hX9_holds_21 (N : Nat) (n21 : Nat) (v3 : Int32) (v4 : Int32) (v5 : Int32) (I : gM) : gO := s_lp (fX9_holds_b21 N) n21 [some (.ref 0), none, none, some (.int v3), some (.int v4), some (.int v5)] [] I
def hX9_holds_54 (N : Nat) (n21 : Nat) (v3 : Int32) (v5 : Int32) (s0 : Int32) (I : gM) : gO := fX9_holds_k54 N (s_lp (fX9_holds_b21 N) n21) [some (.ref 0), none, none, some (.int v3), none, some (.int v5)] [.int s0] I
set_option maxRecDepth 100000 in
theorem eX9_holds_0 (N : Nat) (v1 : Int32) (v2 : Int32) (v3 : Int32) (I : gM) : hX9_holds_0 N v1 v2 v3 I =
  (ck 2746 ((gb_add ((gb_add 65 (gb_mul 11 v1))) 2)) <| hX9_holds_21 N N v3 1 0 (gU I 3 ((Int32.toNatClampNeg ((gb_add ((gb_add 65 (gb_mul 11 v1))) 2)))) v2)) := by
  show (fX9_holds_k0 N) [some (.ref 0), some (.int v1), some (.int v2), some (.int v3), none, none] [] I = _
  unfold fX9_holds_k0
  refine tt_aload rfl ?_
  refine tt_getr (q := 3) rfl rfl ?_
  refine tt_const ?_
  refine tt_const ?_
  refine tt_iload rfl ?_
  refine tt_bin ?_
  refine tt_bin ?_
  refine tt_const ?_
  refine tt_bin ?_
  refine tt_iload rfl ?_
  refine tt_ast (v := v2) rfl rfl ?_
  refine tt_const ?_
  refine tt_istore (L2 := [some (.ref 0), some (.int v1), some (.int v2), some (.int v3), some (.int 1), none]) (tt_lt rfl) rfl ?_
  refine tt_const ?_
  refine tt_istore (L2 := [some (.ref 0), some (.int v1), some (.int v2), some (.int v3), some (.int 1), some (.int 0)]) (tt_lt rfl) rfl ?_
  refine tt_mask rfl ?_
  exact rfl
set_option maxRecDepth 100000 in
theorem eX9_holds_21 (N : Nat) (n21 : Nat) (v3 : Int32) (v4 : Int32) (v5 : Int32) (I : gM) : hX9_holds_21 N (n21 + 1) v3 v4 v5 I =
  (if gc_ge v5 v3 = true then (if v4 = 0 ∨ v4 = 1 then some (.inl (some (.int v4)), I) else none) else (if gz_eq v4 = true then (if v4 = 0 ∨ v4 = 1 then some (.inl (some (.int v4)), I) else none) else (hV (fX9_slot N [.ref 0] (gS (rg 0 18) I)) (rg 0 18) I fun I1 => ck 2746 245 <| if gc_gt ((I1 3 (Int32.toNatClampNeg 245))) 100 = true then (hX9_holds_54 N n21 v3 v5 0 I1) else (hX9_holds_54 N n21 v3 v5 1 I1)))) := by
  show (fX9_holds_b21 N (s_lp (fX9_holds_b21 N) n21)) [some (.ref 0), none, none, some (.int v3), some (.int v4), some (.int v5)] [] I = _
  unfold fX9_holds_b21
  refine tt_iload rfl ?_
  refine tt_iload rfl ?_
  refine tt_cmp ?_ ?_
  · skip
    refine tt_iload rfl ?_
    exact rfl
  · skip
    refine tt_iload rfl ?_
    refine tt_if ?_ ?_
    · skip
      refine tt_iload rfl ?_
      exact rfl
    · skip
      refine tt_aload rfl ?_
      refine tt_cavV (t := []) ⟨Nat.le_of_ble_eq_true rfl, Nat.le_of_ble_eq_true rfl⟩ rfl rfl rfl (fun I1 => ?_)
      refine tt_aload rfl ?_
      refine tt_getr (q := 3) rfl rfl ?_
      refine tt_const ?_
      refine tt_ald (x := (I1 3 (Int32.toNatClampNeg 245))) rfl rfl ?_
      refine tt_const ?_
      refine tt_cmp ?_ ?_
      · skip
        refine tt_const ?_
        refine tt_mask rfl ?_
        exact rfl
      · skip
        refine tt_const ?_
        refine tt_mask rfl ?_
        exact rfl
theorem eX9_holds_21z (N : Nat) (v3 : Int32) (v4 : Int32) (v5 : Int32) (I : gM) : hX9_holds_21 N 0 v3 v4 v5 I = none := (rfl)
set_option maxRecDepth 100000 in
theorem eX9_holds_54 (N : Nat) (n21 : Nat) (v3 : Int32) (v5 : Int32) (s0 : Int32) (I : gM) : hX9_holds_54 N n21 v3 v5 s0 I =
  (hX9_holds_21 N n21 v3 s0 (v5 + 1) I) := by
  show (fX9_holds_k54 N (s_lp (fX9_holds_b21 N) n21)) [some (.ref 0), none, none, some (.int v3), none, some (.int v5)] [.int s0] I = _
  unfold fX9_holds_k54
  refine tt_istore (L2 := [some (.ref 0), none, none, some (.int v3), some (.int s0), some (.int v5)]) (tt_lt rfl) rfl ?_
  refine tt_iinc (L2 := [some (.ref 0), none, none, some (.int v3), some (.int s0), some (.int (v5 + 1))]) rfl rfl ?_
  refine tt_mask rfl ?_
  exact rfl
set_option maxRecDepth 100000 in
theorem eX9_holds (N : Nat) (v1 : Int32) (v2 : Int32) (v3 : Int32) (I : gM) : fX9_holds N [.ref 0, .int v1, .int v2, .int v3] I = hX9_holds_0 N v1 v2 v3 I := by
  show gFn 6 (fX9_holds_k0 N) [.ref 0, .int v1, .int v2, .int v3] I = (fX9_holds_k0 N) [some (.ref 0), some (.int v1), some (.int v2), some (.int v3), none, none] [] I
  exact tt_fn rfl rfl

def hX9_sustainable_0 (N : Nat) (v1 : Int32) (v2 : Int32) (I : gM) : gO := fX9_sustainable_k0 N [some (.ref 0), some (.int v1), some (.int v2), none, none] [] I
def hX9_sustainable_28 (N : Nat) (v1 : Int32) (v2 : Int32) (s1 : Int32) (I : gM) : gO := fX9_sustainable_k28 N [some (.ref 0), some (.int v1), some (.int v2), none, none] [.int s1, .ref 0] I
def hX9_sustainable_55 (N : Nat) (n55 : Nat) (v1 : Int32) (v2 : Int32) (v3 : Int32) (v4 : Int32) (I : gM) : gO := s_lp (fX9_sustainable_b55 N) n55 [some (.ref 0), some (.int v1), some (.int v2), some (.int v3), some (.int v4)] [] I
def hX9_sustainable_89 (N : Nat) (n55 : Nat) (v1 : Int32) (v2 : Int32) (v4 : Int32) (s0 : Int32) (s1 : Int32) (I : gM) : gO := fX9_sustainable_k89 N (s_lp (fX9_sustainable_b55 N) n55) [some (.ref 0), some (.int v1), some (.int v2), none, some (.int v4)] [.int s1, .int s0] I
set_option maxRecDepth 100000 in
theorem eX9_sustainable_0 (N : Nat) (v1 : Int32) (v2 : Int32) (I : gM) : hX9_sustainable_0 N v1 v2 I =
  (hI (fX9_isFlow N [.ref 0, .int v1] (gS (rg 0 18) (gU I 0 0 0))) (rg 0 18) (gU I 0 0 0) fun x1 I1 => hI (fX9_fails N [.ref 0, .int x1, .int 1] (gS (rg 0 18) I1)) (rg 0 18) I1 fun x2 I2 => if gz_ne x2 = true then (some (.inl (some (.int 0)), I2)) else (hI (fX9_in N [.long ((v2).toInt64), .long 1, .long 20] (gS [] I2)) [] I2 fun x3 I3 => hX9_sustainable_28 N v1 v2 x3 I3)) := by
  show (fX9_sustainable_k0 N) [some (.ref 0), some (.int v1), some (.int v2), none, none] [] I = _
  unfold fX9_sustainable_k0
  refine tt_aload rfl ?_
  refine tt_const ?_
  refine tt_put rfl rfl ?_
  refine tt_aload rfl ?_
  refine tt_aload rfl ?_
  refine tt_iload rfl ?_
  refine tt_cavI (t := [.ref 0]) ⟨Nat.le_of_ble_eq_true rfl, Nat.le_of_ble_eq_true rfl⟩ rfl rfl rfl (fun x1 I1 => ?_)
  refine tt_const ?_
  refine tt_cavI (t := []) ⟨Nat.le_of_ble_eq_true rfl, Nat.le_of_ble_eq_true rfl⟩ rfl rfl rfl (fun x2 I2 => ?_)
  refine tt_if ?_ ?_
  · skip
    refine tt_const ?_
    exact rfl
  · skip
    refine tt_aload rfl ?_
    refine tt_iload rfl ?_
    refine tt_i2l ?_
    refine tt_lconst ?_
    refine tt_lconst ?_
    refine tt_caI (t := [.ref 0]) ⟨Nat.le_of_ble_eq_true rfl, Nat.le_of_ble_eq_true rfl⟩ rfl rfl rfl (fun x3 I3 => ?_)
    refine tt_mask rfl ?_
    exact rfl
set_option maxRecDepth 100000 in
theorem eX9_sustainable_28 (N : Nat) (v1 : Int32) (v2 : Int32) (s1 : Int32) (I : gM) : hX9_sustainable_28 N v1 v2 s1 I =
  (hI (fX9_fails N [.ref 0, .int s1, .int 2] (gS (rg 0 18) I)) (rg 0 18) I fun x4 I4 => if gz_eq x4 = true then (hV (fX9_copy N 2746 2746 [.ref 0, .int 0, .ref 1, .int 0] (gS (rg 3 2) I4)) (rg 3 2) I4 fun I5 => hX9_sustainable_55 N N v1 v2 (-1) 1 I5) else (some (.inl (some (.int 0)), I4))) := by
  show (fX9_sustainable_k28 N) [some (.ref 0), some (.int v1), some (.int v2), none, none] [.int s1, .ref 0] I = _
  unfold fX9_sustainable_k28
  refine tt_const ?_
  refine tt_cavI (t := []) ⟨Nat.le_of_ble_eq_true rfl, Nat.le_of_ble_eq_true rfl⟩ rfl rfl rfl (fun x4 I4 => ?_)
  refine tt_if ?_ ?_
  · skip
    refine tt_const ?_
    refine tt_istore (L2 := [some (.ref 0), some (.int v1), some (.int v2), some (.int (-1)), none]) (tt_lt rfl) rfl ?_
    refine tt_aload rfl ?_
    refine tt_getr (q := 3) rfl rfl ?_
    refine tt_const ?_
    refine tt_aload rfl ?_
    refine tt_getr (q := 4) rfl rfl ?_
    refine tt_const ?_
    refine tt_caV (t := []) ⟨Nat.le_of_ble_eq_true rfl, Nat.le_of_ble_eq_true rfl⟩ rfl rfl rfl (fun I5 => ?_)
    refine tt_const ?_
    refine tt_istore (L2 := [some (.ref 0), some (.int v1), some (.int v2), some (.int (-1)), some (.int 1)]) (tt_lt rfl) rfl ?_
    refine tt_mask rfl ?_
    exact rfl
  · skip
    refine tt_const ?_
    exact rfl
set_option maxRecDepth 100000 in
theorem eX9_sustainable_55 (N : Nat) (n55 : Nat) (v1 : Int32) (v2 : Int32) (v3 : Int32) (v4 : Int32) (I : gM) : hX9_sustainable_55 N (n55 + 1) v1 v2 v3 v4 I =
  (if gz_eq v4 = true then (some (.inl (some (.int v3)), I)) else (if gc_ge v3 300 = true then (some (.inl (some (.int v3)), I)) else (hI (fX9_holds N [.ref 0, .int v1, .int (gb_add v3 1), .int v2] (gS (rg 0 18) I)) (rg 0 18) I fun x6 I6 => if gz_eq x6 = true then (hX9_sustainable_89 N n55 v1 v2 x6 v3 0 I6) else (hX9_sustainable_89 N n55 v1 v2 x6 v3 1 I6)))) := by
  show (fX9_sustainable_b55 N (s_lp (fX9_sustainable_b55 N) n55)) [some (.ref 0), some (.int v1), some (.int v2), some (.int v3), some (.int v4)] [] I = _
  unfold fX9_sustainable_b55
  refine tt_iload rfl ?_
  refine tt_if ?_ ?_
  · skip
    refine tt_iload rfl ?_
    exact rfl
  · skip
    refine tt_iload rfl ?_
    refine tt_const ?_
    refine tt_cmp ?_ ?_
    · skip
      refine tt_iload rfl ?_
      exact rfl
    · skip
      refine tt_aload rfl ?_
      refine tt_iload rfl ?_
      refine tt_iload rfl ?_
      refine tt_const ?_
      refine tt_bin ?_
      refine tt_iload rfl ?_
      refine tt_cavI (t := []) ⟨Nat.le_of_ble_eq_true rfl, Nat.le_of_ble_eq_true rfl⟩ rfl rfl rfl (fun x6 I6 => ?_)
      refine tt_istore (L2 := [some (.ref 0), some (.int v1), some (.int v2), some (.int v3), some (.int x6)]) (tt_lt rfl) rfl ?_
      refine tt_iload rfl ?_
      refine tt_iload rfl ?_
      refine tt_if ?_ ?_
      · skip
        refine tt_const ?_
        refine tt_mask rfl ?_
        exact rfl
      · skip
        refine tt_const ?_
        refine tt_mask rfl ?_
        exact rfl
theorem eX9_sustainable_55z (N : Nat) (v1 : Int32) (v2 : Int32) (v3 : Int32) (v4 : Int32) (I : gM) : hX9_sustainable_55 N 0 v1 v2 v3 v4 I = none := (rfl)
set_option maxRecDepth 100000 in
theorem eX9_sustainable_89 (N : Nat) (n55 : Nat) (v1 : Int32) (v2 : Int32) (v4 : Int32) (s0 : Int32) (s1 : Int32) (I : gM) : hX9_sustainable_89 N n55 v1 v2 v4 s0 s1 I =
  (hV (fX9_copy N 2746 2746 [.ref 0, .int 0, .ref 1, .int 0] (gS [4, 3] I)) [4, 3] I fun I7 => hX9_sustainable_55 N n55 v1 v2 (gb_add s0 s1) v4 I7) := by
  show (fX9_sustainable_k89 N (s_lp (fX9_sustainable_b55 N) n55)) [some (.ref 0), some (.int v1), some (.int v2), none, some (.int v4)] [.int s1, .int s0] I = _
  unfold fX9_sustainable_k89
  refine tt_bin ?_
  refine tt_istore (L2 := [some (.ref 0), some (.int v1), some (.int v2), some (.int (gb_add s0 s1)), some (.int v4)]) (tt_lt rfl) rfl ?_
  refine tt_aload rfl ?_
  refine tt_getr (q := 4) rfl rfl ?_
  refine tt_const ?_
  refine tt_aload rfl ?_
  refine tt_getr (q := 3) rfl rfl ?_
  refine tt_const ?_
  refine tt_caV (t := []) ⟨Nat.le_of_ble_eq_true rfl, Nat.le_of_ble_eq_true rfl⟩ rfl rfl rfl (fun I7 => ?_)
  refine tt_mask rfl ?_
  exact rfl
set_option maxRecDepth 100000 in
theorem eX9_sustainable (N : Nat) (v1 : Int32) (v2 : Int32) (I : gM) : fX9_sustainable N [.ref 0, .int v1, .int v2] I = hX9_sustainable_0 N v1 v2 I := by
  show gFn 5 (fX9_sustainable_k0 N) [.ref 0, .int v1, .int v2] I = (fX9_sustainable_k0 N) [some (.ref 0), some (.int v1), some (.int v2), none, none] [] I
  exact tt_fn rfl rfl

