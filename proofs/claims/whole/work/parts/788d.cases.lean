/-! ===== the cases of the law, 2 ===== -/
set_option maxRecDepth 100000 in
theorem hq_inject {N : Nat} {a : AB} {J : gM} {v1 v2 : Int32} (hN : 20000 ≤ N) (h : INc J a) (hm : INm (gS (rg 204 18) J) a) (hw : INw a) : HQ Int32.toInt64 a (fL_inject N [.ref 0, .int v1, .int v2, .ref 204] (gS RO J)) (fun M' => fX9_inject N [.ref 0, .int v1, .int v2] M') := by
  have hq := hq_of (exs := [eIO, eIA]) (hs := [(eIO, 1), (eIA, 2)]) (cv := Int32.toInt64) (oc := fX8_inject N [.ref 0, .int v1, .int v2] (gS (rg 0 204) (gS RO J))) (om := fun M' => fX9_inject N [.ref 0, .int v1, .int v2] M') (M := gS RO J) (by decide) (lk_2 (by decide)) hm (fun M' hM' => j_inject ⟨QJ.cls h, hM', hw⟩ hN)
  have e : fL_inject N [.ref 0, .int v1, .int v2, .ref 204] (gS RO J) = hTI (fX8_inject N [.ref 0, .int v1, .int v2] (gS (rg 0 204) (gS RO J))) (rg 0 204) (gS RO J) [(eIO, 1), (eIA, 2)] (fun x J => some (.inl (some (.int 0)), putL J (Int32.toInt64 x))) := by
    unfold fL_inject fL_inject_k0
    refine (tt_fn (L := [some (.ref 0), some (.int v1), some (.int v2), some (.ref 204), none]) rfl rfl).trans ?_
    refine tt_aload rfl ?_
    refine tt_const ?_
    refine tt_aload rfl ?_
    refine tt_iload rfl ?_
    refine tt_iload rfl ?_
    refine tt_tryI (t := [.int 0, .ref 204]) (ρ2 := rg 0 204) (av := [.int v1, .int v2]) ⟨Nat.le_of_ble_eq_true rfl, Nat.le_of_ble_eq_true rfl⟩ (bkC (gBk_i (gBk_i (rfl)))) rfl rfl (fun x J => ?_)
    refine tt_i2l ?_
    refine (tt_last (n := 1) rfl rfl).trans ?_
    refine (if_neg (by decide)).trans ?_
    rw [t_0]
    exact rfl
  rw [e]
  exact hq
set_option maxRecDepth 100000 in
theorem cs_11 {N SL : Nat} {SX : Nat → Int32} {K23 : gK} (hN : 20000 ≤ N) (hs : SL ≤ 3072) : CSt SL K23 (s_mask [true, true, true, true, true, false, false, false] <| fL_law_k992 N SL SX K23) := by
  intro i J hi hQ
  obtain ⟨a, hc, hm, hw⟩ := hQ
  obtain ⟨kk, D, d0, d1⟩ := hq_inject (v1 := SX (i + 1)) (v2 := SX (i + 2)) hN hc hm hw
  obtain ⟨w, E, a', e0, e1, e2, c1, m1, w1⟩ := d1 _ (QJ.mid (D := D) hm)
  refine ⟨gMg (rg 204 18) (gMg RO J D) E, QJ.end c1 m1 w1, ?_⟩
  refine tt_mask (L2 := Ls i) rfl ?_
  unfold fL_law_k992
  refine tt_aload rfl ?_
  refine tl_arg (j := 1) rfl rfl rfl (by omega) hs ?_
  refine tl_arg (j := 2) rfl rfl rfl (by omega) hs ?_
  refine tt_aload rfl ?_
  refine tl_ca (t := []) (ρ2 := RO) (av := [.ref 0, .int (SX (i + 1)), .int (SX (i + 2)), .ref 204]) ⟨Nat.le_of_ble_eq_true rfl, Nat.le_of_ble_eq_true rfl⟩ (bk0 (gBk_i (gBk_i (bkO rfl)))) rfl rfl d0 ?_
  refine tt_istore (L2 := Lk i kk) (tt_lt rfl) rfl ?_
  refine tt_aload rfl ?_
  refine tl_arg (j := 1) rfl rfl rfl (by omega) hs ?_
  refine tl_arg (j := 2) rfl rfl rfl (by omega) hs ?_
  refine tl_cav (t := []) (ρ2 := rg 204 18) (av := [.int (SX (i + 1)), .int (SX (i + 2))]) ⟨Nat.le_of_ble_eq_true rfl, Nat.le_of_ble_eq_true rfl⟩ (bkM (gBk_i (gBk_i (rfl)))) rfl rfl e0 ?_
  refine tt_istore (L2 := Lw i kk w) (tt_lt rfl) rfl ?_
  refine tt_aload rfl ?_
  refine tl_cav (t := []) (ρ2 := rg 204 18) (av := []) ⟨Nat.le_of_ble_eq_true rfl, Nat.le_of_ble_eq_true rfl⟩ (bkM rfl) rfl rfl (tl_thrown (kk := kk) ((congrFun (m18a (k := 0) (by decide)) 0).trans e1)) ?_
  rw [m18s]
  refine tt_mask (L2 := Lw i kk w) rfl ?_
  unfold fL_law_k1033
  exact tl_int (by unfold fL_law_k1057; exact tt_mask (L2 := Ls i) rfl tl_back) (fun z => by rw [QJ.out, QJ.out]; exact e2 z)
set_option maxRecDepth 100000 in
theorem hq_flush {N : Nat} {a : AB} {J : gM} {v1 v2 : Int32} (hN : 20000 ≤ N) (h : INc J a) (hm : INm (gS (rg 204 18) J) a) (hw : INw a) : HQ Int32.toInt64 a (fL_flush N [.ref 0, .int v1, .int v2, .ref 204] (gS RO J)) (fun M' => fX9_flush N [.ref 0, .int v1, .int v2] M') := by
  have hq := hq_of (exs := [eIO, eIA]) (hs := [(eIO, 1), (eIA, 2)]) (cv := Int32.toInt64) (oc := fX8_flush N [.ref 0, .int v1, .int v2] (gS (rg 0 204) (gS RO J))) (om := fun M' => fX9_flush N [.ref 0, .int v1, .int v2] M') (M := gS RO J) (by decide) (lk_2 (by decide)) hm (fun M' hM' => j_flush ⟨QJ.cls h, hM', hw⟩ hN)
  have e : fL_flush N [.ref 0, .int v1, .int v2, .ref 204] (gS RO J) = hTI (fX8_flush N [.ref 0, .int v1, .int v2] (gS (rg 0 204) (gS RO J))) (rg 0 204) (gS RO J) [(eIO, 1), (eIA, 2)] (fun x J => some (.inl (some (.int 0)), putL J (Int32.toInt64 x))) := by
    unfold fL_flush fL_flush_k0
    refine (tt_fn (L := [some (.ref 0), some (.int v1), some (.int v2), some (.ref 204), none]) rfl rfl).trans ?_
    refine tt_aload rfl ?_
    refine tt_const ?_
    refine tt_aload rfl ?_
    refine tt_iload rfl ?_
    refine tt_iload rfl ?_
    refine tt_tryI (t := [.int 0, .ref 204]) (ρ2 := rg 0 204) (av := [.int v1, .int v2]) ⟨Nat.le_of_ble_eq_true rfl, Nat.le_of_ble_eq_true rfl⟩ (bkC (gBk_i (gBk_i (rfl)))) rfl rfl (fun x J => ?_)
    refine tt_i2l ?_
    refine (tt_last (n := 1) rfl rfl).trans ?_
    refine (if_neg (by decide)).trans ?_
    rw [t_0]
    exact rfl
  rw [e]
  exact hq
set_option maxRecDepth 100000 in
theorem cs_12 {N SL : Nat} {SX : Nat → Int32} {K23 : gK} (hN : 20000 ≤ N) (hs : SL ≤ 3072) : CSt SL K23 (s_mask [true, true, true, true, true, false, false, false] <| fL_law_k1060 N SL SX K23) := by
  intro i J hi hQ
  obtain ⟨a, hc, hm, hw⟩ := hQ
  obtain ⟨kk, D, d0, d1⟩ := hq_flush (v1 := SX (i + 1)) (v2 := SX (i + 2)) hN hc hm hw
  obtain ⟨w, E, a', e0, e1, e2, c1, m1, w1⟩ := d1 _ (QJ.mid (D := D) hm)
  refine ⟨gMg (rg 204 18) (gMg RO J D) E, QJ.end c1 m1 w1, ?_⟩
  refine tt_mask (L2 := Ls i) rfl ?_
  unfold fL_law_k1060
  refine tt_aload rfl ?_
  refine tl_arg (j := 1) rfl rfl rfl (by omega) hs ?_
  refine tl_arg (j := 2) rfl rfl rfl (by omega) hs ?_
  refine tt_aload rfl ?_
  refine tl_ca (t := []) (ρ2 := RO) (av := [.ref 0, .int (SX (i + 1)), .int (SX (i + 2)), .ref 204]) ⟨Nat.le_of_ble_eq_true rfl, Nat.le_of_ble_eq_true rfl⟩ (bk0 (gBk_i (gBk_i (bkO rfl)))) rfl rfl d0 ?_
  refine tt_istore (L2 := Lk i kk) (tt_lt rfl) rfl ?_
  refine tt_aload rfl ?_
  refine tl_arg (j := 1) rfl rfl rfl (by omega) hs ?_
  refine tl_arg (j := 2) rfl rfl rfl (by omega) hs ?_
  refine tl_cav (t := []) (ρ2 := rg 204 18) (av := [.int (SX (i + 1)), .int (SX (i + 2))]) ⟨Nat.le_of_ble_eq_true rfl, Nat.le_of_ble_eq_true rfl⟩ (bkM (gBk_i (gBk_i (rfl)))) rfl rfl e0 ?_
  refine tt_istore (L2 := Lw i kk w) (tt_lt rfl) rfl ?_
  refine tt_aload rfl ?_
  refine tl_cav (t := []) (ρ2 := rg 204 18) (av := []) ⟨Nat.le_of_ble_eq_true rfl, Nat.le_of_ble_eq_true rfl⟩ (bkM rfl) rfl rfl (tl_thrown (kk := kk) ((congrFun (m18a (k := 0) (by decide)) 0).trans e1)) ?_
  rw [m18s]
  refine tt_mask (L2 := Lw i kk w) rfl ?_
  unfold fL_law_k1101
  exact tl_int (by unfold fL_law_k1125; exact tt_mask (L2 := Ls i) rfl tl_back) (fun z => by rw [QJ.out, QJ.out]; exact e2 z)
set_option maxRecDepth 100000 in
theorem cs_13 {N SL : Nat} {SX : Nat → Int32} {K23 : gK} (hN : 20000 ≤ N) (hs : SL ≤ 3072) : CSt SL K23 (s_mask [true, true, true, true, true, false, false, false] <| fL_law_k1128 N SL SX K23) := by
  intro i J hi hQ
  obtain ⟨a, hc, hm, hw⟩ := hQ
  obtain ⟨v, D, d0, d1⟩ := nq_of (oc := fX8_resetShadows N [.ref 0] (gS (rg 0 204) J)) (om := fun M' => fX9_resetShadows N [.ref 0] M') hm (fun M' hM' => j_resetShadows ⟨QJ.cls0 hc, hM', hw⟩ hN)
  obtain ⟨E, a', e0, c1, m1, w1⟩ := d1 _ (QJ.mid0 (D := D) hm)
  refine ⟨gMg (rg 204 18) (gMg (rg 0 204) J D) E, QJ.end0 c1 m1 w1, ?_⟩
  refine tt_mask (L2 := Ls i) rfl ?_
  unfold fL_law_k1128
  refine tt_aload rfl ?_
  refine tl_cav (t := []) (ρ2 := rg 0 204) (av := []) ⟨Nat.le_of_ble_eq_true rfl, Nat.le_of_ble_eq_true rfl⟩ (bkC rfl) rfl rfl d0 ?_
  refine tt_aload rfl ?_
  refine tl_cav (t := [.int v]) (ρ2 := rg 204 18) (av := []) ⟨Nat.le_of_ble_eq_true rfl, Nat.le_of_ble_eq_true rfl⟩ (bkM rfl) rfl rfl e0 ?_
  refine (tt_cmp rfl rfl).trans ?_
  rw [if_pos (c := gc_eq v v = true) (decide_eq_true rfl)]
  exact tt_mask (L2 := Ls i) rfl tl_back
set_option maxRecDepth 100000 in
theorem hq_run {N : Nat} {a : AB} {J : gM} {v1 : Int32} (hN : 20000 ≤ N) (h : INc J a) (hm : INm (gS (rg 204 18) J) a) (hw : INw a) : HQ Int32.toInt64 a (fL_run N [.ref 0, .int v1, .ref 204] (gS RO J)) (fun M' => fX9_run N [.ref 0, .int v1] M') := by
  have hq := hq_of (exs := [eIA]) (hs := [(eIA, 1)]) (cv := Int32.toInt64) (oc := fX8_run N [.ref 0, .int v1] (gS (rg 0 204) (gS RO J))) (om := fun M' => fX9_run N [.ref 0, .int v1] M') (M := gS RO J) (by decide) lk_1 hm (fun M' hM' => j_run ⟨QJ.cls h, hM', hw⟩ hN)
  have e : fL_run N [.ref 0, .int v1, .ref 204] (gS RO J) = hTI (fX8_run N [.ref 0, .int v1] (gS (rg 0 204) (gS RO J))) (rg 0 204) (gS RO J) [(eIA, 1)] (fun x J => some (.inl (some (.int 0)), putL J (Int32.toInt64 x))) := by
    unfold fL_run fL_run_k0
    refine (tt_fn (L := [some (.ref 0), some (.int v1), some (.ref 204), none]) rfl rfl).trans ?_
    refine tt_aload rfl ?_
    refine tt_const ?_
    refine tt_aload rfl ?_
    refine tt_iload rfl ?_
    refine tt_tryI (t := [.int 0, .ref 204]) (ρ2 := rg 0 204) (av := [.int v1]) ⟨Nat.le_of_ble_eq_true rfl, Nat.le_of_ble_eq_true rfl⟩ (bkC (gBk_i (rfl))) rfl rfl (fun x J => ?_)
    refine tt_i2l ?_
    refine (tt_last (n := 1) rfl rfl).trans ?_
    refine (if_neg (by decide)).trans ?_
    rw [t_0]
    exact rfl
  rw [e]
  exact hq
set_option maxRecDepth 100000 in
theorem cs_14 {N SL : Nat} {SX : Nat → Int32} {K23 : gK} (hN : 20000 ≤ N) (hs : SL ≤ 3072) : CSt SL K23 (s_mask [true, true, true, true, true, false, false, false] <| fL_law_k1141 N SL SX K23) := by
  intro i J hi hQ
  obtain ⟨a, hc, hm, hw⟩ := hQ
  obtain ⟨kk, D, d0, d1⟩ := hq_run (v1 := SX (i + 1)) hN hc hm hw
  obtain ⟨w, E, a', e0, e1, e2, c1, m1, w1⟩ := d1 _ (QJ.mid (D := D) hm)
  refine ⟨gMg (rg 204 18) (gMg RO J D) E, QJ.end c1 m1 w1, ?_⟩
  refine tt_mask (L2 := Ls i) rfl ?_
  unfold fL_law_k1141
  refine tt_aload rfl ?_
  refine tl_arg (j := 1) rfl rfl rfl (by omega) hs ?_
  refine tt_aload rfl ?_
  refine tl_ca (t := []) (ρ2 := RO) (av := [.ref 0, .int (SX (i + 1)), .ref 204]) ⟨Nat.le_of_ble_eq_true rfl, Nat.le_of_ble_eq_true rfl⟩ (bk0 (gBk_i (bkO rfl))) rfl rfl d0 ?_
  refine tt_istore (L2 := Lk i kk) (tt_lt rfl) rfl ?_
  refine tt_aload rfl ?_
  refine tl_arg (j := 1) rfl rfl rfl (by omega) hs ?_
  refine tl_cav (t := []) (ρ2 := rg 204 18) (av := [.int (SX (i + 1))]) ⟨Nat.le_of_ble_eq_true rfl, Nat.le_of_ble_eq_true rfl⟩ (bkM (gBk_i (rfl))) rfl rfl e0 ?_
  refine tt_istore (L2 := Lw i kk w) (tt_lt rfl) rfl ?_
  refine tt_aload rfl ?_
  refine tl_cav (t := []) (ρ2 := rg 204 18) (av := []) ⟨Nat.le_of_ble_eq_true rfl, Nat.le_of_ble_eq_true rfl⟩ (bkM rfl) rfl rfl (tl_thrown (kk := kk) ((congrFun (m18a (k := 0) (by decide)) 0).trans e1)) ?_
  rw [m18s]
  refine tt_mask (L2 := Lw i kk w) rfl ?_
  unfold fL_law_k1170
  exact tl_int (by unfold fL_law_k1194; exact tt_mask (L2 := Ls i) rfl tl_back) (fun z => by rw [QJ.out, QJ.out]; exact e2 z)
set_option maxRecDepth 100000 in
theorem hq_undo {N : Nat} {a : AB} {J : gM} (hN : 20000 ≤ N) (h : INc J a) (hm : INm (gS (rg 204 18) J) a) (hw : INw a) : HQ Int32.toInt64 a (fL_undo N [.ref 0, .ref 204] (gS RO J)) (fun M' => fX9_undo N [.ref 0] M') := by
  have hq := hq_of (exs := [eIS]) (hs := [(eIS, 1)]) (cv := Int32.toInt64) (oc := fX8_undo N [.ref 0] (gS (rg 0 204) (gS RO J))) (om := fun M' => fX9_undo N [.ref 0] M') (M := gS RO J) (by decide) lk_1 hm (fun M' hM' => j_undo ⟨QJ.cls h, hM', hw⟩ hN)
  have e : fL_undo N [.ref 0, .ref 204] (gS RO J) = hTI (fX8_undo N [.ref 0] (gS (rg 0 204) (gS RO J))) (rg 0 204) (gS RO J) [(eIS, 1)] (fun x J => some (.inl (some (.int 0)), putL J (Int32.toInt64 x))) := by
    unfold fL_undo fL_undo_k0
    refine (tt_fn (L := [some (.ref 0), some (.ref 204), none]) rfl rfl).trans ?_
    refine tt_aload rfl ?_
    refine tt_const ?_
    refine tt_aload rfl ?_
    refine tt_tryI (t := [.int 0, .ref 204]) (ρ2 := rg 0 204) (av := []) ⟨Nat.le_of_ble_eq_true rfl, Nat.le_of_ble_eq_true rfl⟩ (bkC (rfl)) rfl rfl (fun x J => ?_)
    refine tt_i2l ?_
    refine (tt_last (n := 1) rfl rfl).trans ?_
    refine (if_neg (by decide)).trans ?_
    rw [t_0]
    exact rfl
  rw [e]
  exact hq
set_option maxRecDepth 100000 in
theorem cs_15 {N SL : Nat} {SX : Nat → Int32} {K23 : gK} (hN : 20000 ≤ N) (hs : SL ≤ 3072) : CSt SL K23 (s_mask [true, true, true, true, true, false, false, false] <| fL_law_k1197 N SL SX K23) := by
  intro i J hi hQ
  obtain ⟨a, hc, hm, hw⟩ := hQ
  obtain ⟨kk, D, d0, d1⟩ := hq_undo  hN hc hm hw
  obtain ⟨w, E, a', e0, e1, e2, c1, m1, w1⟩ := d1 _ (QJ.mid (D := D) hm)
  refine ⟨gMg (rg 204 18) (gMg RO J D) E, QJ.end c1 m1 w1, ?_⟩
  refine tt_mask (L2 := Ls i) rfl ?_
  unfold fL_law_k1197
  refine tt_aload rfl ?_
  refine tt_aload rfl ?_
  refine tl_ca (t := []) (ρ2 := RO) (av := [.ref 0, .ref 204]) ⟨Nat.le_of_ble_eq_true rfl, Nat.le_of_ble_eq_true rfl⟩ (bk0 (bkO rfl)) rfl rfl d0 ?_
  refine tt_istore (L2 := Lk i kk) (tt_lt rfl) rfl ?_
  refine tt_aload rfl ?_
  refine tl_cav (t := []) (ρ2 := rg 204 18) (av := []) ⟨Nat.le_of_ble_eq_true rfl, Nat.le_of_ble_eq_true rfl⟩ (bkM (rfl)) rfl rfl e0 ?_
  refine tt_istore (L2 := Lw i kk w) (tt_lt rfl) rfl ?_
  refine tt_aload rfl ?_
  refine tl_cav (t := []) (ρ2 := rg 204 18) (av := []) ⟨Nat.le_of_ble_eq_true rfl, Nat.le_of_ble_eq_true rfl⟩ (bkM rfl) rfl rfl (tl_thrown (kk := kk) ((congrFun (m18a (k := 0) (by decide)) 0).trans e1)) ?_
  rw [m18s]
  refine tt_mask (L2 := Lw i kk w) rfl ?_
  unfold fL_law_k1214
  exact tl_int (by unfold fL_law_k1238; exact tt_mask (L2 := Ls i) rfl tl_back) (fun z => by rw [QJ.out, QJ.out]; exact e2 z)
set_option maxRecDepth 100000 in
theorem cs_16 {N SL : Nat} {SX : Nat → Int32} {K23 : gK} (hN : 20000 ≤ N) (hs : SL ≤ 3072) : CSt SL K23 (s_mask [true, true, true, true, true, false, false, false] <| fL_law_k1241 N SL SX K23) := by
  intro i J hi hQ
  obtain ⟨a, hc, hm, hw⟩ := hQ
  obtain ⟨v, D, d0, d1⟩ := nq_of (oc := fX8_undoCount N [.ref 0] (gS (rg 0 204) J)) (om := fun M' => fX9_undoCount N [.ref 0] M') hm (fun M' hM' => j_undoCount ⟨QJ.cls0 hc, hM', hw⟩)
  obtain ⟨E, a', e0, c1, m1, w1⟩ := d1 _ (QJ.mid0 (D := D) hm)
  refine ⟨gMg (rg 204 18) (gMg (rg 0 204) J D) E, QJ.end0 c1 m1 w1, ?_⟩
  refine tt_mask (L2 := Ls i) rfl ?_
  unfold fL_law_k1241
  refine tt_aload rfl ?_
  refine tl_cav (t := []) (ρ2 := rg 0 204) (av := []) ⟨Nat.le_of_ble_eq_true rfl, Nat.le_of_ble_eq_true rfl⟩ (bkC rfl) rfl rfl d0 ?_
  refine tt_aload rfl ?_
  refine tl_cav (t := [.int v]) (ρ2 := rg 204 18) (av := []) ⟨Nat.le_of_ble_eq_true rfl, Nat.le_of_ble_eq_true rfl⟩ (bkM rfl) rfl rfl e0 ?_
  refine (tt_cmp rfl rfl).trans ?_
  rw [if_pos (c := gc_eq v v = true) (decide_eq_true rfl)]
  exact tt_mask (L2 := Ls i) rfl tl_back
set_option maxRecDepth 100000 in
theorem cs_17 {N SL : Nat} {SX : Nat → Int32} {K23 : gK} (hN : 20000 ≤ N) (hs : SL ≤ 3072) : CSt SL K23 (s_mask [true, true, true, true, true, false, false, false] <| fL_law_k1254 N SL SX K23) := by
  intro i J hi hQ
  obtain ⟨a, hc, hm, hw⟩ := hQ
  obtain ⟨v, D, d0, d1⟩ := nq_of (oc := fX8_save N [.ref 0] (gS (rg 0 204) J)) (om := fun M' => fX9_save N [.ref 0] M') hm (fun M' hM' => j_save ⟨QJ.cls0 hc, hM', hw⟩ hN)
  obtain ⟨E, a', e0, c1, m1, w1⟩ := d1 _ (QJ.mid0 (D := D) hm)
  refine ⟨gMg (rg 204 18) (gMg (rg 0 204) J D) E, QJ.end0 c1 m1 w1, ?_⟩
  refine tt_mask (L2 := Ls i) rfl ?_
  unfold fL_law_k1254
  refine tt_aload rfl ?_
  refine tl_cav (t := []) (ρ2 := rg 0 204) (av := []) ⟨Nat.le_of_ble_eq_true rfl, Nat.le_of_ble_eq_true rfl⟩ (bkC rfl) rfl rfl d0 ?_
  refine tt_aload rfl ?_
  refine tl_cav (t := [.int v]) (ρ2 := rg 204 18) (av := []) ⟨Nat.le_of_ble_eq_true rfl, Nat.le_of_ble_eq_true rfl⟩ (bkM rfl) rfl rfl e0 ?_
  refine (tt_cmp rfl rfl).trans ?_
  rw [if_pos (c := gc_eq v v = true) (decide_eq_true rfl)]
  exact tt_mask (L2 := Ls i) rfl tl_back
set_option maxRecDepth 100000 in
theorem hq_restore {N : Nat} {a : AB} {J : gM} (hN : 20000 ≤ N) (h : INc J a) (hm : INm (gS (rg 204 18) J) a) (hw : INw a) : HQ Int32.toInt64 a (fL_restore N [.ref 0, .ref 204] (gS RO J)) (fun M' => fX9_restore N [.ref 0] M') := by
  have hq := hq_of (exs := [eIS]) (hs := [(eIS, 1)]) (cv := Int32.toInt64) (oc := fX8_restore N [.ref 0] (gS (rg 0 204) (gS RO J))) (om := fun M' => fX9_restore N [.ref 0] M') (M := gS RO J) (by decide) lk_1 hm (fun M' hM' => j_restore ⟨QJ.cls h, hM', hw⟩ hN)
  have e : fL_restore N [.ref 0, .ref 204] (gS RO J) = hTI (fX8_restore N [.ref 0] (gS (rg 0 204) (gS RO J))) (rg 0 204) (gS RO J) [(eIS, 1)] (fun x J => some (.inl (some (.int 0)), putL J (Int32.toInt64 x))) := by
    unfold fL_restore fL_restore_k0
    refine (tt_fn (L := [some (.ref 0), some (.ref 204), none]) rfl rfl).trans ?_
    refine tt_aload rfl ?_
    refine tt_const ?_
    refine tt_aload rfl ?_
    refine tt_tryI (t := [.int 0, .ref 204]) (ρ2 := rg 0 204) (av := []) ⟨Nat.le_of_ble_eq_true rfl, Nat.le_of_ble_eq_true rfl⟩ (bkC (rfl)) rfl rfl (fun x J => ?_)
    refine tt_i2l ?_
    refine (tt_last (n := 1) rfl rfl).trans ?_
    refine (if_neg (by decide)).trans ?_
    rw [t_0]
    exact rfl
  rw [e]
  exact hq
set_option maxRecDepth 100000 in
theorem cs_18 {N SL : Nat} {SX : Nat → Int32} {K23 : gK} (hN : 20000 ≤ N) (hs : SL ≤ 3072) : CSt SL K23 (s_mask [true, true, true, true, true, false, false, false] <| fL_law_k1267 N SL SX K23) := by
  intro i J hi hQ
  obtain ⟨a, hc, hm, hw⟩ := hQ
  obtain ⟨kk, D, d0, d1⟩ := hq_restore  hN hc hm hw
  obtain ⟨w, E, a', e0, e1, e2, c1, m1, w1⟩ := d1 _ (QJ.mid (D := D) hm)
  refine ⟨gMg (rg 204 18) (gMg RO J D) E, QJ.end c1 m1 w1, ?_⟩
  refine tt_mask (L2 := Ls i) rfl ?_
  unfold fL_law_k1267
  refine tt_aload rfl ?_
  refine tt_aload rfl ?_
  refine tl_ca (t := []) (ρ2 := RO) (av := [.ref 0, .ref 204]) ⟨Nat.le_of_ble_eq_true rfl, Nat.le_of_ble_eq_true rfl⟩ (bk0 (bkO rfl)) rfl rfl d0 ?_
  refine tt_istore (L2 := Lk i kk) (tt_lt rfl) rfl ?_
  refine tt_aload rfl ?_
  refine tl_cav (t := []) (ρ2 := rg 204 18) (av := []) ⟨Nat.le_of_ble_eq_true rfl, Nat.le_of_ble_eq_true rfl⟩ (bkM (rfl)) rfl rfl e0 ?_
  refine tt_istore (L2 := Lw i kk w) (tt_lt rfl) rfl ?_
  refine tt_aload rfl ?_
  refine tl_cav (t := []) (ρ2 := rg 204 18) (av := []) ⟨Nat.le_of_ble_eq_true rfl, Nat.le_of_ble_eq_true rfl⟩ (bkM rfl) rfl rfl (tl_thrown (kk := kk) ((congrFun (m18a (k := 0) (by decide)) 0).trans e1)) ?_
  rw [m18s]
  refine tt_mask (L2 := Lw i kk w) rfl ?_
  unfold fL_law_k1284
  exact tl_int (by unfold fL_law_k1308; exact tt_mask (L2 := Ls i) rfl tl_back) (fun z => by rw [QJ.out, QJ.out]; exact e2 z)
set_option maxRecDepth 100000 in
theorem hq_count {N : Nat} {a : AB} {J : gM} {v1 : Int32} (hN : 20000 ≤ N) (h : INc J a) (hm : INm (gS (rg 204 18) J) a) (hw : INw a) : HQ Int32.toInt64 a (fL_count N [.ref 0, .int v1, .ref 204] (gS RO J)) (fun M' => fX9_count_ N [.ref 0, .int v1] M') := by
  have hq := hq_of (exs := [eIA]) (hs := [(eIA, 1)]) (cv := Int32.toInt64) (oc := fX8_count N [.ref 0, .int v1] (gS (rg 0 204) (gS RO J))) (om := fun M' => fX9_count_ N [.ref 0, .int v1] M') (M := gS RO J) (by decide) lk_1 hm (fun M' hM' => j_count ⟨QJ.cls h, hM', hw⟩)
  have e : fL_count N [.ref 0, .int v1, .ref 204] (gS RO J) = hTI (fX8_count N [.ref 0, .int v1] (gS (rg 0 204) (gS RO J))) (rg 0 204) (gS RO J) [(eIA, 1)] (fun x J => some (.inl (some (.int 0)), putL J (Int32.toInt64 x))) := by
    unfold fL_count fL_count_k0
    refine (tt_fn (L := [some (.ref 0), some (.int v1), some (.ref 204), none]) rfl rfl).trans ?_
    refine tt_aload rfl ?_
    refine tt_const ?_
    refine tt_aload rfl ?_
    refine tt_iload rfl ?_
    refine tt_tryI (t := [.int 0, .ref 204]) (ρ2 := rg 0 204) (av := [.int v1]) ⟨Nat.le_of_ble_eq_true rfl, Nat.le_of_ble_eq_true rfl⟩ (bkC (gBk_i (rfl))) rfl rfl (fun x J => ?_)
    refine tt_i2l ?_
    refine (tt_last (n := 1) rfl rfl).trans ?_
    refine (if_neg (by decide)).trans ?_
    rw [t_0]
    exact rfl
  rw [e]
  exact hq
set_option maxRecDepth 100000 in
theorem cs_19 {N SL : Nat} {SX : Nat → Int32} {K23 : gK} (hN : 20000 ≤ N) (hs : SL ≤ 3072) : CSt SL K23 (s_mask [true, true, true, true, true, false, false, false] <| fL_law_k1311 N SL SX K23) := by
  intro i J hi hQ
  obtain ⟨a, hc, hm, hw⟩ := hQ
  obtain ⟨kk, D, d0, d1⟩ := hq_count (v1 := SX (i + 1)) hN hc hm hw
  obtain ⟨w, E, a', e0, e1, e2, c1, m1, w1⟩ := d1 _ (QJ.mid (D := D) hm)
  refine ⟨gMg (rg 204 18) (gMg RO J D) E, QJ.end c1 m1 w1, ?_⟩
  refine tt_mask (L2 := Ls i) rfl ?_
  unfold fL_law_k1311
  refine tt_aload rfl ?_
  refine tl_arg (j := 1) rfl rfl rfl (by omega) hs ?_
  refine tt_aload rfl ?_
  refine tl_ca (t := []) (ρ2 := RO) (av := [.ref 0, .int (SX (i + 1)), .ref 204]) ⟨Nat.le_of_ble_eq_true rfl, Nat.le_of_ble_eq_true rfl⟩ (bk0 (gBk_i (bkO rfl))) rfl rfl d0 ?_
  refine tt_istore (L2 := Lk i kk) (tt_lt rfl) rfl ?_
  refine tt_aload rfl ?_
  refine tl_arg (j := 1) rfl rfl rfl (by omega) hs ?_
  refine tl_cav (t := []) (ρ2 := rg 204 18) (av := [.int (SX (i + 1))]) ⟨Nat.le_of_ble_eq_true rfl, Nat.le_of_ble_eq_true rfl⟩ (bkM (gBk_i (rfl))) rfl rfl e0 ?_
  refine tt_istore (L2 := Lw i kk w) (tt_lt rfl) rfl ?_
  refine tt_aload rfl ?_
  refine tl_cav (t := []) (ρ2 := rg 204 18) (av := []) ⟨Nat.le_of_ble_eq_true rfl, Nat.le_of_ble_eq_true rfl⟩ (bkM rfl) rfl rfl (tl_thrown (kk := kk) ((congrFun (m18a (k := 0) (by decide)) 0).trans e1)) ?_
  rw [m18s]
  refine tt_mask (L2 := Lw i kk w) rfl ?_
  unfold fL_law_k1340
  exact tl_int (by unfold fL_law_k1364; exact tt_mask (L2 := Ls i) rfl tl_back) (fun z => by rw [QJ.out, QJ.out]; exact e2 z)
set_option maxRecDepth 100000 in
theorem hq_link {N : Nat} {a : AB} {J : gM} {v1 v2 : Int32} (hN : 20000 ≤ N) (h : INc J a) (hm : INm (gS (rg 204 18) J) a) (hw : INw a) : HQ Int32.toInt64 a (fL_link N [.ref 0, .int v1, .int v2, .ref 204] (gS RO J)) (fun M' => fX9_link N [.ref 0, .int v1, .int v2] M') := by
  have hq := hq_of (exs := [eIO, eIA]) (hs := [(eIO, 1), (eIA, 2)]) (cv := Int32.toInt64) (oc := fX8_link N [.ref 0, .int v1, .int v2] (gS (rg 0 204) (gS RO J))) (om := fun M' => fX9_link N [.ref 0, .int v1, .int v2] M') (M := gS RO J) (by decide) (lk_2 (by decide)) hm (fun M' hM' => j_link ⟨QJ.cls h, hM', hw⟩ hN)
  have e : fL_link N [.ref 0, .int v1, .int v2, .ref 204] (gS RO J) = hTI (fX8_link N [.ref 0, .int v1, .int v2] (gS (rg 0 204) (gS RO J))) (rg 0 204) (gS RO J) [(eIO, 1), (eIA, 2)] (fun x J => some (.inl (some (.int 0)), putL J (Int32.toInt64 x))) := by
    unfold fL_link fL_link_k0
    refine (tt_fn (L := [some (.ref 0), some (.int v1), some (.int v2), some (.ref 204), none]) rfl rfl).trans ?_
    refine tt_aload rfl ?_
    refine tt_const ?_
    refine tt_aload rfl ?_
    refine tt_iload rfl ?_
    refine tt_iload rfl ?_
    refine tt_tryI (t := [.int 0, .ref 204]) (ρ2 := rg 0 204) (av := [.int v1, .int v2]) ⟨Nat.le_of_ble_eq_true rfl, Nat.le_of_ble_eq_true rfl⟩ (bkC (gBk_i (gBk_i (rfl)))) rfl rfl (fun x J => ?_)
    refine tt_i2l ?_
    refine (tt_last (n := 1) rfl rfl).trans ?_
    refine (if_neg (by decide)).trans ?_
    rw [t_0]
    exact rfl
  rw [e]
  exact hq
set_option maxRecDepth 100000 in
theorem cs_20 {N SL : Nat} {SX : Nat → Int32} {K23 : gK} (hN : 20000 ≤ N) (hs : SL ≤ 3072) : CSt SL K23 (s_mask [true, true, true, true, true, false, false, false] <| fL_law_k1367 N SL SX K23) := by
  intro i J hi hQ
  obtain ⟨a, hc, hm, hw⟩ := hQ
  obtain ⟨kk, D, d0, d1⟩ := hq_link (v1 := SX (i + 1)) (v2 := SX (i + 2)) hN hc hm hw
  obtain ⟨w, E, a', e0, e1, e2, c1, m1, w1⟩ := d1 _ (QJ.mid (D := D) hm)
  refine ⟨gMg (rg 204 18) (gMg RO J D) E, QJ.end c1 m1 w1, ?_⟩
  refine tt_mask (L2 := Ls i) rfl ?_
  unfold fL_law_k1367
  refine tt_aload rfl ?_
  refine tl_arg (j := 1) rfl rfl rfl (by omega) hs ?_
  refine tl_arg (j := 2) rfl rfl rfl (by omega) hs ?_
  refine tt_aload rfl ?_
  refine tl_ca (t := []) (ρ2 := RO) (av := [.ref 0, .int (SX (i + 1)), .int (SX (i + 2)), .ref 204]) ⟨Nat.le_of_ble_eq_true rfl, Nat.le_of_ble_eq_true rfl⟩ (bk0 (gBk_i (gBk_i (bkO rfl)))) rfl rfl d0 ?_
  refine tt_istore (L2 := Lk i kk) (tt_lt rfl) rfl ?_
  refine tt_aload rfl ?_
  refine tl_arg (j := 1) rfl rfl rfl (by omega) hs ?_
  refine tl_arg (j := 2) rfl rfl rfl (by omega) hs ?_
  refine tl_cav (t := []) (ρ2 := rg 204 18) (av := [.int (SX (i + 1)), .int (SX (i + 2))]) ⟨Nat.le_of_ble_eq_true rfl, Nat.le_of_ble_eq_true rfl⟩ (bkM (gBk_i (gBk_i (rfl)))) rfl rfl e0 ?_
  refine tt_istore (L2 := Lw i kk w) (tt_lt rfl) rfl ?_
  refine tt_aload rfl ?_
  refine tl_cav (t := []) (ρ2 := rg 204 18) (av := []) ⟨Nat.le_of_ble_eq_true rfl, Nat.le_of_ble_eq_true rfl⟩ (bkM rfl) rfl rfl (tl_thrown (kk := kk) ((congrFun (m18a (k := 0) (by decide)) 0).trans e1)) ?_
  rw [m18s]
  refine tt_mask (L2 := Lw i kk w) rfl ?_
  unfold fL_law_k1408
  exact tl_int (by unfold fL_law_k1432; exact tt_mask (L2 := Ls i) rfl tl_back) (fun z => by rw [QJ.out, QJ.out]; exact e2 z)
set_option maxRecDepth 100000 in
theorem hq_conflicts {N : Nat} {a : AB} {J : gM} {v1 : Int32} (hN : 20000 ≤ N) (h : INc J a) (hm : INm (gS (rg 204 18) J) a) (hw : INw a) : HQ Int32.toInt64 a (fL_conflicts N [.ref 0, .int v1, .ref 204] (gS RO J)) (fun M' => fX9_conflicts N [.ref 0, .int v1] M') := by
  have hq := hq_of (exs := [eIO]) (hs := [(eIO, 1)]) (cv := Int32.toInt64) (oc := fX8_conflicts N [.ref 0, .int v1] (gS (rg 0 204) (gS RO J))) (om := fun M' => fX9_conflicts N [.ref 0, .int v1] M') (M := gS RO J) (by decide) lk_1 hm (fun M' hM' => j_conflicts ⟨QJ.cls h, hM', hw⟩)
  have e : fL_conflicts N [.ref 0, .int v1, .ref 204] (gS RO J) = hTI (fX8_conflicts N [.ref 0, .int v1] (gS (rg 0 204) (gS RO J))) (rg 0 204) (gS RO J) [(eIO, 1)] (fun x J => some (.inl (some (.int 0)), putL J (Int32.toInt64 x))) := by
    unfold fL_conflicts fL_conflicts_k0
    refine (tt_fn (L := [some (.ref 0), some (.int v1), some (.ref 204), none]) rfl rfl).trans ?_
    refine tt_aload rfl ?_
    refine tt_const ?_
    refine tt_aload rfl ?_
    refine tt_iload rfl ?_
    refine tt_tryI (t := [.int 0, .ref 204]) (ρ2 := rg 0 204) (av := [.int v1]) ⟨Nat.le_of_ble_eq_true rfl, Nat.le_of_ble_eq_true rfl⟩ (bkC (gBk_i (rfl))) rfl rfl (fun x J => ?_)
    refine tt_i2l ?_
    refine (tt_last (n := 1) rfl rfl).trans ?_
    refine (if_neg (by decide)).trans ?_
    rw [t_0]
    exact rfl
  rw [e]
  exact hq
set_option maxRecDepth 100000 in
theorem cs_21 {N SL : Nat} {SX : Nat → Int32} {K23 : gK} (hN : 20000 ≤ N) (hs : SL ≤ 3072) : CSt SL K23 (s_mask [true, true, true, true, true, false, false, false] <| fL_law_k1435 N SL SX K23) := by
  intro i J hi hQ
  obtain ⟨a, hc, hm, hw⟩ := hQ
  obtain ⟨kk, D, d0, d1⟩ := hq_conflicts (v1 := SX (i + 1)) hN hc hm hw
  obtain ⟨w, E, a', e0, e1, e2, c1, m1, w1⟩ := d1 _ (QJ.mid (D := D) hm)
  refine ⟨gMg (rg 204 18) (gMg RO J D) E, QJ.end c1 m1 w1, ?_⟩
  refine tt_mask (L2 := Ls i) rfl ?_
  unfold fL_law_k1435
  refine tt_aload rfl ?_
  refine tl_arg (j := 1) rfl rfl rfl (by omega) hs ?_
  refine tt_aload rfl ?_
  refine tl_ca (t := []) (ρ2 := RO) (av := [.ref 0, .int (SX (i + 1)), .ref 204]) ⟨Nat.le_of_ble_eq_true rfl, Nat.le_of_ble_eq_true rfl⟩ (bk0 (gBk_i (bkO rfl))) rfl rfl d0 ?_
  refine tt_istore (L2 := Lk i kk) (tt_lt rfl) rfl ?_
  refine tt_aload rfl ?_
  refine tl_arg (j := 1) rfl rfl rfl (by omega) hs ?_
  refine tl_cav (t := []) (ρ2 := rg 204 18) (av := [.int (SX (i + 1))]) ⟨Nat.le_of_ble_eq_true rfl, Nat.le_of_ble_eq_true rfl⟩ (bkM (gBk_i (rfl))) rfl rfl e0 ?_
  refine tt_istore (L2 := Lw i kk w) (tt_lt rfl) rfl ?_
  refine tt_aload rfl ?_
  refine tl_cav (t := []) (ρ2 := rg 204 18) (av := []) ⟨Nat.le_of_ble_eq_true rfl, Nat.le_of_ble_eq_true rfl⟩ (bkM rfl) rfl rfl (tl_thrown (kk := kk) ((congrFun (m18a (k := 0) (by decide)) 0).trans e1)) ?_
  rw [m18s]
  refine tt_mask (L2 := Lw i kk w) rfl ?_
  unfold fL_law_k1464
  exact tl_int (by unfold fL_law_k1488; exact tt_mask (L2 := Ls i) rfl tl_back) (fun z => by rw [QJ.out, QJ.out]; exact e2 z)
