/-! ===== the cases of the law, 3 ===== -/
set_option maxRecDepth 100000 in
theorem hq_flow {N : Nat} {a : AB} {J : gM} {v1 v2 : Int32} (hN : 20000 ≤ N) (h : INc J a) (hm : INm (gS (rg 204 18) J) a) (hw : INw a) : HQ Int32.toInt64 a (fL_flow N [.ref 0, .int v1, .int v2, .ref 204] (gS RO J)) (fun M' => fX9_flow N [.ref 0, .int v1, .int v2] M') := by
  have hq := hq_of (exs := [eIO, eIA]) (hs := [(eIO, 1), (eIA, 2)]) (cv := Int32.toInt64) (oc := fX8_flow N [.ref 0, .int v1, .int v2] (gS (rg 0 204) (gS RO J))) (om := fun M' => fX9_flow N [.ref 0, .int v1, .int v2] M') (M := gS RO J) (by decide) (lk_2 (by decide)) hm (fun M' hM' => j_flow ⟨QJ.cls h, hM', hw⟩)
  have e : fL_flow N [.ref 0, .int v1, .int v2, .ref 204] (gS RO J) = hTI (fX8_flow N [.ref 0, .int v1, .int v2] (gS (rg 0 204) (gS RO J))) (rg 0 204) (gS RO J) [(eIO, 1), (eIA, 2)] (fun x J => some (.inl (some (.int 0)), putL J (Int32.toInt64 x))) := by
    unfold fL_flow fL_flow_k0
    refine (tt_fn (L := [some (.ref 0), some (.int v1), some (.int v2), some (.ref 204), none]) rfl rfl).trans ?_
    refine tt_aload rfl ?_
    refine tt_const ?_
    refine tt_aload rfl ?_
    refine tt_iload rfl ?_
    refine tt_iload rfl ?_
    refine tt_tryI (t := [.int 0, .ref 204]) (ρ2 := rg 0 204) (av := [.int v1, .int v2]) ⟨Nat.le_of_ble_eq_true rfl, Nat.le_of_ble_eq_true rfl⟩ (bkC (gBk_i (gBk_i (rfl)))) rfl rfl (fun x J => ?_)
    refine tt_i2l ?_
    refine (tt_last (n := 1) rfl rfl).trans ?_
    refine (if_neg (by decide)).trans ?_
    rw [t_0]
    exact rfl
  rw [e]
  exact hq
set_option maxRecDepth 100000 in
theorem cs_22 {N SL : Nat} {SX : Nat → Int32} {K23 : gK} (hN : 20000 ≤ N) (hs : SL ≤ 3072) : CSt SL K23 (s_mask [true, true, true, true, true, false, false, false] <| fL_law_k1491 N SL SX K23) := by
  intro i J hi hQ
  obtain ⟨a, hc, hm, hw⟩ := hQ
  obtain ⟨kk, D, d0, d1⟩ := hq_flow (v1 := SX (i + 1)) (v2 := SX (i + 2)) hN hc hm hw
  obtain ⟨w, E, a', e0, e1, e2, c1, m1, w1⟩ := d1 _ (QJ.mid (D := D) hm)
  refine ⟨gMg (rg 204 18) (gMg RO J D) E, QJ.end c1 m1 w1, ?_⟩
  refine tt_mask (L2 := Ls i) rfl ?_
  unfold fL_law_k1491
  refine tt_aload rfl ?_
  refine tl_arg (j := 1) rfl rfl rfl (by omega) hs ?_
  refine tl_arg (j := 2) rfl rfl rfl (by omega) hs ?_
  refine tt_aload rfl ?_
  refine tl_ca (t := []) (ρ2 := RO) (av := [.ref 0, .int (SX (i + 1)), .int (SX (i + 2)), .ref 204]) ⟨Nat.le_of_ble_eq_true rfl, Nat.le_of_ble_eq_true rfl⟩ (bk0 (gBk_i (gBk_i (bkO rfl)))) rfl rfl d0 ?_
  refine tt_istore (L2 := Lk i kk) (tt_lt rfl) rfl ?_
  refine tt_aload rfl ?_
  refine tl_arg (j := 1) rfl rfl rfl (by omega) hs ?_
  refine tl_arg (j := 2) rfl rfl rfl (by omega) hs ?_
  refine tl_cav (t := []) (ρ2 := rg 204 18) (av := [.int (SX (i + 1)), .int (SX (i + 2))]) ⟨Nat.le_of_ble_eq_true rfl, Nat.le_of_ble_eq_true rfl⟩ (bkM (gBk_i (gBk_i (rfl)))) rfl rfl e0 ?_
  refine tt_istore (L2 := Lw i kk w) (tt_lt rfl) rfl ?_
  refine tt_aload rfl ?_
  refine tl_cav (t := []) (ρ2 := rg 204 18) (av := []) ⟨Nat.le_of_ble_eq_true rfl, Nat.le_of_ble_eq_true rfl⟩ (bkM rfl) rfl rfl (tl_thrown (kk := kk) ((congrFun (m18a (k := 0) (by decide)) 0).trans e1)) ?_
  rw [m18s]
  refine tt_mask (L2 := Lw i kk w) rfl ?_
  unfold fL_law_k1532
  exact tl_int (by unfold fL_law_k1556; exact tt_mask (L2 := Ls i) rfl tl_back) (fun z => by rw [QJ.out, QJ.out]; exact e2 z)
set_option maxRecDepth 100000 in
theorem hq_hops {N : Nat} {a : AB} {J : gM} {v1 v2 : Int32} (hN : 20000 ≤ N) (h : INc J a) (hm : INm (gS (rg 204 18) J) a) (hw : INw a) : HQ Int32.toInt64 a (fL_hops N [.ref 0, .int v1, .int v2, .ref 204] (gS RO J)) (fun M' => fX9_hops N [.ref 0, .int v1, .int v2] M') := by
  have hq := hq_of (exs := [eIO]) (hs := [(eIO, 1)]) (cv := Int32.toInt64) (oc := fX8_hops N [.ref 0, .int v1, .int v2] (gS (rg 0 204) (gS RO J))) (om := fun M' => fX9_hops N [.ref 0, .int v1, .int v2] M') (M := gS RO J) (by decide) lk_1 hm (fun M' hM' => j_hops ⟨QJ.cls h, hM', hw⟩ hN)
  have e : fL_hops N [.ref 0, .int v1, .int v2, .ref 204] (gS RO J) = hTI (fX8_hops N [.ref 0, .int v1, .int v2] (gS (rg 0 204) (gS RO J))) (rg 0 204) (gS RO J) [(eIO, 1)] (fun x J => some (.inl (some (.int 0)), putL J (Int32.toInt64 x))) := by
    unfold fL_hops fL_hops_k0
    refine (tt_fn (L := [some (.ref 0), some (.int v1), some (.int v2), some (.ref 204), none]) rfl rfl).trans ?_
    refine tt_aload rfl ?_
    refine tt_const ?_
    refine tt_aload rfl ?_
    refine tt_iload rfl ?_
    refine tt_iload rfl ?_
    refine tt_tryI (t := [.int 0, .ref 204]) (ρ2 := rg 0 204) (av := [.int v1, .int v2]) ⟨Nat.le_of_ble_eq_true rfl, Nat.le_of_ble_eq_true rfl⟩ (bkC (gBk_i (gBk_i (rfl)))) rfl rfl (fun x J => ?_)
    refine tt_i2l ?_
    refine (tt_last (n := 1) rfl rfl).trans ?_
    refine (if_neg (by decide)).trans ?_
    rw [t_0]
    exact rfl
  rw [e]
  exact hq
set_option maxRecDepth 100000 in
theorem cs_23 {N SL : Nat} {SX : Nat → Int32} {K23 : gK} (hN : 20000 ≤ N) (hs : SL ≤ 3072) : CSt SL K23 (s_mask [true, true, true, true, true, false, false, false] <| fL_law_k1559 N SL SX K23) := by
  intro i J hi hQ
  obtain ⟨a, hc, hm, hw⟩ := hQ
  obtain ⟨kk, D, d0, d1⟩ := hq_hops (v1 := SX (i + 1)) (v2 := SX (i + 2)) hN hc hm hw
  obtain ⟨w, E, a', e0, e1, e2, c1, m1, w1⟩ := d1 _ (QJ.mid (D := D) hm)
  refine ⟨gMg (rg 204 18) (gMg RO J D) E, QJ.end c1 m1 w1, ?_⟩
  refine tt_mask (L2 := Ls i) rfl ?_
  unfold fL_law_k1559
  refine tt_aload rfl ?_
  refine tl_arg (j := 1) rfl rfl rfl (by omega) hs ?_
  refine tl_arg (j := 2) rfl rfl rfl (by omega) hs ?_
  refine tt_aload rfl ?_
  refine tl_ca (t := []) (ρ2 := RO) (av := [.ref 0, .int (SX (i + 1)), .int (SX (i + 2)), .ref 204]) ⟨Nat.le_of_ble_eq_true rfl, Nat.le_of_ble_eq_true rfl⟩ (bk0 (gBk_i (gBk_i (bkO rfl)))) rfl rfl d0 ?_
  refine tt_istore (L2 := Lk i kk) (tt_lt rfl) rfl ?_
  refine tt_aload rfl ?_
  refine tl_arg (j := 1) rfl rfl rfl (by omega) hs ?_
  refine tl_arg (j := 2) rfl rfl rfl (by omega) hs ?_
  refine tl_cav (t := []) (ρ2 := rg 204 18) (av := [.int (SX (i + 1)), .int (SX (i + 2))]) ⟨Nat.le_of_ble_eq_true rfl, Nat.le_of_ble_eq_true rfl⟩ (bkM (gBk_i (gBk_i (rfl)))) rfl rfl e0 ?_
  refine tt_istore (L2 := Lw i kk w) (tt_lt rfl) rfl ?_
  refine tt_aload rfl ?_
  refine tl_cav (t := []) (ρ2 := rg 204 18) (av := []) ⟨Nat.le_of_ble_eq_true rfl, Nat.le_of_ble_eq_true rfl⟩ (bkM rfl) rfl rfl (tl_thrown (kk := kk) ((congrFun (m18a (k := 0) (by decide)) 0).trans e1)) ?_
  rw [m18s]
  refine tt_mask (L2 := Lw i kk w) rfl ?_
  unfold fL_law_k1600
  exact tl_int (by unfold fL_law_k1624; exact tt_mask (L2 := Ls i) rfl tl_back) (fun z => by rw [QJ.out, QJ.out]; exact e2 z)
set_option maxRecDepth 100000 in
theorem hq_maxFlow {N : Nat} {a : AB} {J : gM} {v1 v2 : Int32} (hN : 20000 ≤ N) (h : INc J a) (hm : INm (gS (rg 204 18) J) a) (hw : INw a) : HQ Int32.toInt64 a (fL_maxFlow N [.ref 0, .int v1, .int v2, .ref 204] (gS RO J)) (fun M' => fX9_maxFlow N [.ref 0, .int v1, .int v2] M') := by
  have hq := hq_of (exs := [eIO, eIA]) (hs := [(eIO, 1), (eIA, 2)]) (cv := Int32.toInt64) (oc := fX8_maxFlow N [.ref 0, .int v1, .int v2] (gS (rg 0 204) (gS RO J))) (om := fun M' => fX9_maxFlow N [.ref 0, .int v1, .int v2] M') (M := gS RO J) (by decide) (lk_2 (by decide)) hm (fun M' hM' => j_maxFlow ⟨QJ.cls h, hM', hw⟩ hN)
  have e : fL_maxFlow N [.ref 0, .int v1, .int v2, .ref 204] (gS RO J) = hTI (fX8_maxFlow N [.ref 0, .int v1, .int v2] (gS (rg 0 204) (gS RO J))) (rg 0 204) (gS RO J) [(eIO, 1), (eIA, 2)] (fun x J => some (.inl (some (.int 0)), putL J (Int32.toInt64 x))) := by
    unfold fL_maxFlow fL_maxFlow_k0
    refine (tt_fn (L := [some (.ref 0), some (.int v1), some (.int v2), some (.ref 204), none]) rfl rfl).trans ?_
    refine tt_aload rfl ?_
    refine tt_const ?_
    refine tt_aload rfl ?_
    refine tt_iload rfl ?_
    refine tt_iload rfl ?_
    refine tt_tryI (t := [.int 0, .ref 204]) (ρ2 := rg 0 204) (av := [.int v1, .int v2]) ⟨Nat.le_of_ble_eq_true rfl, Nat.le_of_ble_eq_true rfl⟩ (bkC (gBk_i (gBk_i (rfl)))) rfl rfl (fun x J => ?_)
    refine tt_i2l ?_
    refine (tt_last (n := 1) rfl rfl).trans ?_
    refine (if_neg (by decide)).trans ?_
    rw [t_0]
    exact rfl
  rw [e]
  exact hq
set_option maxRecDepth 100000 in
theorem cs_24 {N SL : Nat} {SX : Nat → Int32} {K23 : gK} (hN : 20000 ≤ N) (hs : SL ≤ 3072) : CSt SL K23 (s_mask [true, true, true, true, true, false, false, false] <| fL_law_k1627 N SL SX K23) := by
  intro i J hi hQ
  obtain ⟨a, hc, hm, hw⟩ := hQ
  obtain ⟨kk, D, d0, d1⟩ := hq_maxFlow (v1 := SX (i + 1)) (v2 := SX (i + 2)) hN hc hm hw
  obtain ⟨w, E, a', e0, e1, e2, c1, m1, w1⟩ := d1 _ (QJ.mid (D := D) hm)
  refine ⟨gMg (rg 204 18) (gMg RO J D) E, QJ.end c1 m1 w1, ?_⟩
  refine tt_mask (L2 := Ls i) rfl ?_
  unfold fL_law_k1627
  refine tt_aload rfl ?_
  refine tl_arg (j := 1) rfl rfl rfl (by omega) hs ?_
  refine tl_arg (j := 2) rfl rfl rfl (by omega) hs ?_
  refine tt_aload rfl ?_
  refine tl_ca (t := []) (ρ2 := RO) (av := [.ref 0, .int (SX (i + 1)), .int (SX (i + 2)), .ref 204]) ⟨Nat.le_of_ble_eq_true rfl, Nat.le_of_ble_eq_true rfl⟩ (bk0 (gBk_i (gBk_i (bkO rfl)))) rfl rfl d0 ?_
  refine tt_istore (L2 := Lk i kk) (tt_lt rfl) rfl ?_
  refine tt_aload rfl ?_
  refine tl_arg (j := 1) rfl rfl rfl (by omega) hs ?_
  refine tl_arg (j := 2) rfl rfl rfl (by omega) hs ?_
  refine tl_cav (t := []) (ρ2 := rg 204 18) (av := [.int (SX (i + 1)), .int (SX (i + 2))]) ⟨Nat.le_of_ble_eq_true rfl, Nat.le_of_ble_eq_true rfl⟩ (bkM (gBk_i (gBk_i (rfl)))) rfl rfl e0 ?_
  refine tt_istore (L2 := Lw i kk w) (tt_lt rfl) rfl ?_
  refine tt_aload rfl ?_
  refine tl_cav (t := []) (ρ2 := rg 204 18) (av := []) ⟨Nat.le_of_ble_eq_true rfl, Nat.le_of_ble_eq_true rfl⟩ (bkM rfl) rfl rfl (tl_thrown (kk := kk) ((congrFun (m18a (k := 0) (by decide)) 0).trans e1)) ?_
  rw [m18s]
  refine tt_mask (L2 := Lw i kk w) rfl ?_
  unfold fL_law_k1668
  exact tl_int (by unfold fL_law_k1692; exact tt_mask (L2 := Ls i) rfl tl_back) (fun z => by rw [QJ.out, QJ.out]; exact e2 z)
set_option maxRecDepth 100000 in
theorem hq_cutSide {N : Nat} {a : AB} {J : gM} {v1 v2 : Int32} (hN : 20000 ≤ N) (h : INc J a) (hm : INm (gS (rg 204 18) J) a) (hw : INw a) : HQ Int32.toInt64 a (fL_cutSide N [.ref 0, .int v1, .int v2, .ref 204] (gS RO J)) (fun M' => fX9_cutSide N [.ref 0, .int v1, .int v2] M') := by
  have hq := hq_of (exs := [eIO, eIA]) (hs := [(eIO, 1), (eIA, 2)]) (cv := Int32.toInt64) (oc := fX8_cutSide N [.ref 0, .int v1, .int v2] (gS (rg 0 204) (gS RO J))) (om := fun M' => fX9_cutSide N [.ref 0, .int v1, .int v2] M') (M := gS RO J) (by decide) (lk_2 (by decide)) hm (fun M' hM' => j_cutSide ⟨QJ.cls h, hM', hw⟩ hN)
  have e : fL_cutSide N [.ref 0, .int v1, .int v2, .ref 204] (gS RO J) = hTI (fX8_cutSide N [.ref 0, .int v1, .int v2] (gS (rg 0 204) (gS RO J))) (rg 0 204) (gS RO J) [(eIO, 1), (eIA, 2)] (fun x J => some (.inl (some (.int 0)), putL J (Int32.toInt64 x))) := by
    unfold fL_cutSide fL_cutSide_k0
    refine (tt_fn (L := [some (.ref 0), some (.int v1), some (.int v2), some (.ref 204), none]) rfl rfl).trans ?_
    refine tt_aload rfl ?_
    refine tt_const ?_
    refine tt_aload rfl ?_
    refine tt_iload rfl ?_
    refine tt_iload rfl ?_
    refine tt_tryI (t := [.int 0, .ref 204]) (ρ2 := rg 0 204) (av := [.int v1, .int v2]) ⟨Nat.le_of_ble_eq_true rfl, Nat.le_of_ble_eq_true rfl⟩ (bkC (gBk_i (gBk_i (rfl)))) rfl rfl (fun x J => ?_)
    refine tt_i2l ?_
    refine (tt_last (n := 1) rfl rfl).trans ?_
    refine (if_neg (by decide)).trans ?_
    rw [t_0]
    exact rfl
  rw [e]
  exact hq
set_option maxRecDepth 100000 in
theorem cs_25 {N SL : Nat} {SX : Nat → Int32} {K23 : gK} (hN : 20000 ≤ N) (hs : SL ≤ 3072) : CSt SL K23 (s_mask [true, true, true, true, true, false, false, false] <| fL_law_k1695 N SL SX K23) := by
  intro i J hi hQ
  obtain ⟨a, hc, hm, hw⟩ := hQ
  obtain ⟨kk, D, d0, d1⟩ := hq_cutSide (v1 := SX (i + 1)) (v2 := SX (i + 2)) hN hc hm hw
  obtain ⟨w, E, a', e0, e1, e2, c1, m1, w1⟩ := d1 _ (QJ.mid (D := D) hm)
  refine ⟨gMg (rg 204 18) (gMg RO J D) E, QJ.end c1 m1 w1, ?_⟩
  refine tt_mask (L2 := Ls i) rfl ?_
  unfold fL_law_k1695
  refine tt_aload rfl ?_
  refine tl_arg (j := 1) rfl rfl rfl (by omega) hs ?_
  refine tl_arg (j := 2) rfl rfl rfl (by omega) hs ?_
  refine tt_aload rfl ?_
  refine tl_ca (t := []) (ρ2 := RO) (av := [.ref 0, .int (SX (i + 1)), .int (SX (i + 2)), .ref 204]) ⟨Nat.le_of_ble_eq_true rfl, Nat.le_of_ble_eq_true rfl⟩ (bk0 (gBk_i (gBk_i (bkO rfl)))) rfl rfl d0 ?_
  refine tt_istore (L2 := Lk i kk) (tt_lt rfl) rfl ?_
  refine tt_aload rfl ?_
  refine tl_arg (j := 1) rfl rfl rfl (by omega) hs ?_
  refine tl_arg (j := 2) rfl rfl rfl (by omega) hs ?_
  refine tl_cav (t := []) (ρ2 := rg 204 18) (av := [.int (SX (i + 1)), .int (SX (i + 2))]) ⟨Nat.le_of_ble_eq_true rfl, Nat.le_of_ble_eq_true rfl⟩ (bkM (gBk_i (gBk_i (rfl)))) rfl rfl e0 ?_
  refine tt_istore (L2 := Lw i kk w) (tt_lt rfl) rfl ?_
  refine tt_aload rfl ?_
  refine tl_cav (t := []) (ρ2 := rg 204 18) (av := []) ⟨Nat.le_of_ble_eq_true rfl, Nat.le_of_ble_eq_true rfl⟩ (bkM rfl) rfl rfl (tl_thrown (kk := kk) ((congrFun (m18a (k := 0) (by decide)) 0).trans e1)) ?_
  rw [m18s]
  refine tt_mask (L2 := Lw i kk w) rfl ?_
  unfold fL_law_k1736
  exact tl_int (by unfold fL_law_k1760; exact tt_mask (L2 := Ls i) rfl tl_back) (fun z => by rw [QJ.out, QJ.out]; exact e2 z)
set_option maxRecDepth 100000 in
theorem cs_26 {N SL : Nat} {SX : Nat → Int32} {K23 : gK} (hN : 20000 ≤ N) (hs : SL ≤ 3072) : CSt SL K23 (s_mask [true, true, true, true, true, false, false, false] <| fL_law_k1763 N SL SX K23) := by
  intro i J hi hQ
  obtain ⟨a, hc, hm, hw⟩ := hQ
  obtain ⟨v, D, d0, d1⟩ := nq_of (oc := fX8_overloaded N [.ref 0] (gS (rg 0 204) J)) (om := fun M' => fX9_overloaded N [.ref 0] M') hm (fun M' hM' => j_overloaded ⟨QJ.cls0 hc, hM', hw⟩ hN)
  obtain ⟨E, a', e0, c1, m1, w1⟩ := d1 _ (QJ.mid0 (D := D) hm)
  refine ⟨gMg (rg 204 18) (gMg (rg 0 204) J D) E, QJ.end0 c1 m1 w1, ?_⟩
  refine tt_mask (L2 := Ls i) rfl ?_
  unfold fL_law_k1763
  refine tt_aload rfl ?_
  refine tl_cav (t := []) (ρ2 := rg 0 204) (av := []) ⟨Nat.le_of_ble_eq_true rfl, Nat.le_of_ble_eq_true rfl⟩ (bkC rfl) rfl rfl d0 ?_
  refine tt_aload rfl ?_
  refine tl_cav (t := [.int v]) (ρ2 := rg 204 18) (av := []) ⟨Nat.le_of_ble_eq_true rfl, Nat.le_of_ble_eq_true rfl⟩ (bkM rfl) rfl rfl e0 ?_
  refine (tt_cmp rfl rfl).trans ?_
  rw [if_pos (c := gc_eq v v = true) (decide_eq_true rfl)]
  exact tt_mask (L2 := Ls i) rfl tl_back
set_option maxRecDepth 100000 in
theorem hq_queue {N : Nat} {a : AB} {J : gM} {v1 v2 : Int32} (hN : 20000 ≤ N) (h : INc J a) (hm : INm (gS (rg 204 18) J) a) (hw : INw a) : HQ Int32.toInt64 a (fL_queue N [.ref 0, .int v1, .int v2, .ref 204] (gS RO J)) (fun M' => fX9_queue N [.ref 0, .int v1, .int v2] M') := by
  have hq := hq_of (exs := [eIO, eIA]) (hs := [(eIO, 1), (eIA, 2)]) (cv := Int32.toInt64) (oc := fX8_queue N [.ref 0, .int v1, .int v2] (gS (rg 0 204) (gS RO J))) (om := fun M' => fX9_queue N [.ref 0, .int v1, .int v2] M') (M := gS RO J) (by decide) (lk_2 (by decide)) hm (fun M' hM' => j_queue ⟨QJ.cls h, hM', hw⟩ hN)
  have e : fL_queue N [.ref 0, .int v1, .int v2, .ref 204] (gS RO J) = hTI (fX8_queue N [.ref 0, .int v1, .int v2] (gS (rg 0 204) (gS RO J))) (rg 0 204) (gS RO J) [(eIO, 1), (eIA, 2)] (fun x J => some (.inl (some (.int 0)), putL J (Int32.toInt64 x))) := by
    unfold fL_queue fL_queue_k0
    refine (tt_fn (L := [some (.ref 0), some (.int v1), some (.int v2), some (.ref 204), none]) rfl rfl).trans ?_
    refine tt_aload rfl ?_
    refine tt_const ?_
    refine tt_aload rfl ?_
    refine tt_iload rfl ?_
    refine tt_iload rfl ?_
    refine tt_tryI (t := [.int 0, .ref 204]) (ρ2 := rg 0 204) (av := [.int v1, .int v2]) ⟨Nat.le_of_ble_eq_true rfl, Nat.le_of_ble_eq_true rfl⟩ (bkC (gBk_i (gBk_i (rfl)))) rfl rfl (fun x J => ?_)
    refine tt_i2l ?_
    refine (tt_last (n := 1) rfl rfl).trans ?_
    refine (if_neg (by decide)).trans ?_
    rw [t_0]
    exact rfl
  rw [e]
  exact hq
set_option maxRecDepth 100000 in
theorem cs_27 {N SL : Nat} {SX : Nat → Int32} {K23 : gK} (hN : 20000 ≤ N) (hs : SL ≤ 3072) : CSt SL K23 (s_mask [true, true, true, true, true, false, false, false] <| fL_law_k1776 N SL SX K23) := by
  intro i J hi hQ
  obtain ⟨a, hc, hm, hw⟩ := hQ
  obtain ⟨kk, D, d0, d1⟩ := hq_queue (v1 := SX (i + 1)) (v2 := SX (i + 2)) hN hc hm hw
  obtain ⟨w, E, a', e0, e1, e2, c1, m1, w1⟩ := d1 _ (QJ.mid (D := D) hm)
  refine ⟨gMg (rg 204 18) (gMg RO J D) E, QJ.end c1 m1 w1, ?_⟩
  refine tt_mask (L2 := Ls i) rfl ?_
  unfold fL_law_k1776
  refine tt_aload rfl ?_
  refine tl_arg (j := 1) rfl rfl rfl (by omega) hs ?_
  refine tl_arg (j := 2) rfl rfl rfl (by omega) hs ?_
  refine tt_aload rfl ?_
  refine tl_ca (t := []) (ρ2 := RO) (av := [.ref 0, .int (SX (i + 1)), .int (SX (i + 2)), .ref 204]) ⟨Nat.le_of_ble_eq_true rfl, Nat.le_of_ble_eq_true rfl⟩ (bk0 (gBk_i (gBk_i (bkO rfl)))) rfl rfl d0 ?_
  refine tt_istore (L2 := Lk i kk) (tt_lt rfl) rfl ?_
  refine tt_aload rfl ?_
  refine tl_arg (j := 1) rfl rfl rfl (by omega) hs ?_
  refine tl_arg (j := 2) rfl rfl rfl (by omega) hs ?_
  refine tl_cav (t := []) (ρ2 := rg 204 18) (av := [.int (SX (i + 1)), .int (SX (i + 2))]) ⟨Nat.le_of_ble_eq_true rfl, Nat.le_of_ble_eq_true rfl⟩ (bkM (gBk_i (gBk_i (rfl)))) rfl rfl e0 ?_
  refine tt_istore (L2 := Lw i kk w) (tt_lt rfl) rfl ?_
  refine tt_aload rfl ?_
  refine tl_cav (t := []) (ρ2 := rg 204 18) (av := []) ⟨Nat.le_of_ble_eq_true rfl, Nat.le_of_ble_eq_true rfl⟩ (bkM rfl) rfl rfl (tl_thrown (kk := kk) ((congrFun (m18a (k := 0) (by decide)) 0).trans e1)) ?_
  rw [m18s]
  refine tt_mask (L2 := Lw i kk w) rfl ?_
  unfold fL_law_k1817
  exact tl_int (by unfold fL_law_k1841; exact tt_mask (L2 := Ls i) rfl tl_back) (fun z => by rw [QJ.out, QJ.out]; exact e2 z)
set_option maxRecDepth 100000 in
theorem hq_shadow {N : Nat} {a : AB} {J : gM} {v1 v2 : Int32} (hN : 20000 ≤ N) (h : INc J a) (hm : INm (gS (rg 204 18) J) a) (hw : INw a) : HQ Int32.toInt64 a (fL_shadow N [.ref 0, .int v1, .int v2, .ref 204] (gS RO J)) (fun M' => fX9_shadow N [.ref 0, .int v1, .int v2] M') := by
  have hq := hq_of (exs := [eIO, eIA]) (hs := [(eIO, 1), (eIA, 2)]) (cv := Int32.toInt64) (oc := fX8_shadow N [.ref 0, .int v1, .int v2] (gS (rg 0 204) (gS RO J))) (om := fun M' => fX9_shadow N [.ref 0, .int v1, .int v2] M') (M := gS RO J) (by decide) (lk_2 (by decide)) hm (fun M' hM' => j_shadow ⟨QJ.cls h, hM', hw⟩ hN)
  have e : fL_shadow N [.ref 0, .int v1, .int v2, .ref 204] (gS RO J) = hTI (fX8_shadow N [.ref 0, .int v1, .int v2] (gS (rg 0 204) (gS RO J))) (rg 0 204) (gS RO J) [(eIO, 1), (eIA, 2)] (fun x J => some (.inl (some (.int 0)), putL J (Int32.toInt64 x))) := by
    unfold fL_shadow fL_shadow_k0
    refine (tt_fn (L := [some (.ref 0), some (.int v1), some (.int v2), some (.ref 204), none]) rfl rfl).trans ?_
    refine tt_aload rfl ?_
    refine tt_const ?_
    refine tt_aload rfl ?_
    refine tt_iload rfl ?_
    refine tt_iload rfl ?_
    refine tt_tryI (t := [.int 0, .ref 204]) (ρ2 := rg 0 204) (av := [.int v1, .int v2]) ⟨Nat.le_of_ble_eq_true rfl, Nat.le_of_ble_eq_true rfl⟩ (bkC (gBk_i (gBk_i (rfl)))) rfl rfl (fun x J => ?_)
    refine tt_i2l ?_
    refine (tt_last (n := 1) rfl rfl).trans ?_
    refine (if_neg (by decide)).trans ?_
    rw [t_0]
    exact rfl
  rw [e]
  exact hq
set_option maxRecDepth 100000 in
theorem cs_28 {N SL : Nat} {SX : Nat → Int32} {K23 : gK} (hN : 20000 ≤ N) (hs : SL ≤ 3072) : CSt SL K23 (s_mask [true, true, true, true, true, false, false, false] <| fL_law_k1844 N SL SX K23) := by
  intro i J hi hQ
  obtain ⟨a, hc, hm, hw⟩ := hQ
  obtain ⟨kk, D, d0, d1⟩ := hq_shadow (v1 := SX (i + 1)) (v2 := SX (i + 2)) hN hc hm hw
  obtain ⟨w, E, a', e0, e1, e2, c1, m1, w1⟩ := d1 _ (QJ.mid (D := D) hm)
  refine ⟨gMg (rg 204 18) (gMg RO J D) E, QJ.end c1 m1 w1, ?_⟩
  refine tt_mask (L2 := Ls i) rfl ?_
  unfold fL_law_k1844
  refine tt_aload rfl ?_
  refine tl_arg (j := 1) rfl rfl rfl (by omega) hs ?_
  refine tl_arg (j := 2) rfl rfl rfl (by omega) hs ?_
  refine tt_aload rfl ?_
  refine tl_ca (t := []) (ρ2 := RO) (av := [.ref 0, .int (SX (i + 1)), .int (SX (i + 2)), .ref 204]) ⟨Nat.le_of_ble_eq_true rfl, Nat.le_of_ble_eq_true rfl⟩ (bk0 (gBk_i (gBk_i (bkO rfl)))) rfl rfl d0 ?_
  refine tt_istore (L2 := Lk i kk) (tt_lt rfl) rfl ?_
  refine tt_aload rfl ?_
  refine tl_arg (j := 1) rfl rfl rfl (by omega) hs ?_
  refine tl_arg (j := 2) rfl rfl rfl (by omega) hs ?_
  refine tl_cav (t := []) (ρ2 := rg 204 18) (av := [.int (SX (i + 1)), .int (SX (i + 2))]) ⟨Nat.le_of_ble_eq_true rfl, Nat.le_of_ble_eq_true rfl⟩ (bkM (gBk_i (gBk_i (rfl)))) rfl rfl e0 ?_
  refine tt_istore (L2 := Lw i kk w) (tt_lt rfl) rfl ?_
  refine tt_aload rfl ?_
  refine tl_cav (t := []) (ρ2 := rg 204 18) (av := []) ⟨Nat.le_of_ble_eq_true rfl, Nat.le_of_ble_eq_true rfl⟩ (bkM rfl) rfl rfl (tl_thrown (kk := kk) ((congrFun (m18a (k := 0) (by decide)) 0).trans e1)) ?_
  rw [m18s]
  refine tt_mask (L2 := Lw i kk w) rfl ?_
  unfold fL_law_k1885
  exact tl_int (by unfold fL_law_k1909; exact tt_mask (L2 := Ls i) rfl tl_back) (fun z => by rw [QJ.out, QJ.out]; exact e2 z)
set_option maxRecDepth 100000 in
theorem hq_packet {N : Nat} {a : AB} {J : gM} {v1 v2 v3 v4 : Int32} (hN : 20000 ≤ N) (h : INc J a) (hm : INm (gS (rg 204 18) J) a) (hw : INw a) : HQ Int32.toInt64 a (fL_packet N [.ref 0, .int v1, .int v2, .int v3, .int v4, .ref 204] (gS RO J)) (fun M' => fX9_packet N [.ref 0, .int v1, .int v2, .int v3, .int v4] M') := by
  have hq := hq_of (exs := [eIO, eIA, eNS]) (hs := [(eIO, 1), (eIA, 2), (eNS, 3)]) (cv := Int32.toInt64) (oc := fX8_packet N [.ref 0, .int v1, .int v2, .int v3, .int v4] (gS (rg 0 204) (gS RO J))) (om := fun M' => fX9_packet N [.ref 0, .int v1, .int v2, .int v3, .int v4] M') (M := gS RO J) (by decide) (lk_3 (by decide) (by decide) (by decide)) hm (fun M' hM' => j_packet ⟨QJ.cls h, hM', hw⟩ hN)
  have e : fL_packet N [.ref 0, .int v1, .int v2, .int v3, .int v4, .ref 204] (gS RO J) = hTI (fX8_packet N [.ref 0, .int v1, .int v2, .int v3, .int v4] (gS (rg 0 204) (gS RO J))) (rg 0 204) (gS RO J) [(eIO, 1), (eIA, 2), (eNS, 3)] (fun x J => some (.inl (some (.int 0)), putL J (Int32.toInt64 x))) := by
    unfold fL_packet fL_packet_k0
    refine (tt_fn (L := [some (.ref 0), some (.int v1), some (.int v2), some (.int v3), some (.int v4), some (.ref 204), none]) rfl rfl).trans ?_
    refine tt_aload rfl ?_
    refine tt_const ?_
    refine tt_aload rfl ?_
    refine tt_iload rfl ?_
    refine tt_iload rfl ?_
    refine tt_iload rfl ?_
    refine tt_iload rfl ?_
    refine tt_tryI (t := [.int 0, .ref 204]) (ρ2 := rg 0 204) (av := [.int v1, .int v2, .int v3, .int v4]) ⟨Nat.le_of_ble_eq_true rfl, Nat.le_of_ble_eq_true rfl⟩ (bkC (gBk_i (gBk_i (gBk_i (gBk_i (rfl)))))) rfl rfl (fun x J => ?_)
    refine tt_i2l ?_
    refine (tt_last (n := 1) rfl rfl).trans ?_
    refine (if_neg (by decide)).trans ?_
    rw [t_0]
    exact rfl
  rw [e]
  exact hq
set_option maxRecDepth 100000 in
theorem cs_29 {N SL : Nat} {SX : Nat → Int32} {K23 : gK} (hN : 20000 ≤ N) (hs : SL ≤ 3072) : CSt SL K23 (s_mask [true, true, true, true, true, false, false, false] <| fL_law_k1912 N SL SX K23) := by
  intro i J hi hQ
  obtain ⟨a, hc, hm, hw⟩ := hQ
  obtain ⟨kk, D, d0, d1⟩ := hq_packet (v1 := SX (i + 1)) (v2 := SX (i + 2)) (v3 := SX (i + 3)) (v4 := SX (i + 4)) hN hc hm hw
  obtain ⟨w, E, a', e0, e1, e2, c1, m1, w1⟩ := d1 _ (QJ.mid (D := D) hm)
  refine ⟨gMg (rg 204 18) (gMg RO J D) E, QJ.end c1 m1 w1, ?_⟩
  refine tt_mask (L2 := Ls i) rfl ?_
  unfold fL_law_k1912
  refine tt_aload rfl ?_
  refine tl_arg (j := 1) rfl rfl rfl (by omega) hs ?_
  refine tl_arg (j := 2) rfl rfl rfl (by omega) hs ?_
  refine tl_arg (j := 3) rfl rfl rfl (by omega) hs ?_
  refine tl_arg (j := 4) rfl rfl rfl (by omega) hs ?_
  refine tt_aload rfl ?_
  refine tl_ca (t := []) (ρ2 := RO) (av := [.ref 0, .int (SX (i + 1)), .int (SX (i + 2)), .int (SX (i + 3)), .int (SX (i + 4)), .ref 204]) ⟨Nat.le_of_ble_eq_true rfl, Nat.le_of_ble_eq_true rfl⟩ (bk0 (gBk_i (gBk_i (gBk_i (gBk_i (bkO rfl)))))) rfl rfl d0 ?_
  refine tt_istore (L2 := Lk i kk) (tt_lt rfl) rfl ?_
  refine tt_aload rfl ?_
  refine tl_arg (j := 1) rfl rfl rfl (by omega) hs ?_
  refine tl_arg (j := 2) rfl rfl rfl (by omega) hs ?_
  refine tl_arg (j := 3) rfl rfl rfl (by omega) hs ?_
  refine tl_arg (j := 4) rfl rfl rfl (by omega) hs ?_
  refine tl_cav (t := []) (ρ2 := rg 204 18) (av := [.int (SX (i + 1)), .int (SX (i + 2)), .int (SX (i + 3)), .int (SX (i + 4))]) ⟨Nat.le_of_ble_eq_true rfl, Nat.le_of_ble_eq_true rfl⟩ (bkM (gBk_i (gBk_i (gBk_i (gBk_i (rfl)))))) rfl rfl e0 ?_
  refine tt_istore (L2 := Lw i kk w) (tt_lt rfl) rfl ?_
  refine tt_aload rfl ?_
  refine tl_cav (t := []) (ρ2 := rg 204 18) (av := []) ⟨Nat.le_of_ble_eq_true rfl, Nat.le_of_ble_eq_true rfl⟩ (bkM rfl) rfl rfl (tl_thrown (kk := kk) ((congrFun (m18a (k := 0) (by decide)) 0).trans e1)) ?_
  rw [m18s]
  refine tt_mask (L2 := Lw i kk w) rfl ?_
  unfold fL_law_k1977
  exact tl_int (by unfold fL_law_k2001; exact tt_mask (L2 := Ls i) rfl tl_back) (fun z => by rw [QJ.out, QJ.out]; exact e2 z)
set_option maxRecDepth 100000 in
theorem hq_total {N : Nat} {a : AB} {J : gM} {v1 : Int32} (hN : 20000 ≤ N) (h : INc J a) (hm : INm (gS (rg 204 18) J) a) (hw : INw a) : HQJ a (fL_total N [.ref 0, .int v1, .ref 204] (gS RO J)) (fun M' => fX9_total N [.ref 0, .int v1] M') := by
  have hq := hqj_of (exs := [eIA]) (hs := [(eIA, 1)]) (oc := fX8_total N [.ref 0, .int v1] (gS (rg 0 204) (gS RO J))) (om := fun M' => fX9_total N [.ref 0, .int v1] M') (M := gS RO J) (by decide) lk_1 hm (fun M' hM' => j_total ⟨QJ.cls h, hM', hw⟩ hN)
  have e : fL_total N [.ref 0, .int v1, .ref 204] (gS RO J) = hTJ (fX8_total N [.ref 0, .int v1] (gS (rg 0 204) (gS RO J))) (rg 0 204) (gS RO J) [(eIA, 1)] (fun x J => some (.inl (some (.int 0)), putL J x)) := by
    unfold fL_total fL_total_k0
    refine (tt_fn (L := [some (.ref 0), some (.int v1), some (.ref 204), none]) rfl rfl).trans ?_
    refine tt_aload rfl ?_
    refine tt_const ?_
    refine tt_aload rfl ?_
    refine tt_iload rfl ?_
    refine tt_tryJ (t := [.int 0, .ref 204]) (ρ2 := rg 0 204) (av := [.int v1]) ⟨Nat.le_of_ble_eq_true rfl, Nat.le_of_ble_eq_true rfl⟩ (bkC (gBk_i (rfl))) rfl rfl (fun x J => ?_)
    refine (tt_last (n := 1) rfl rfl).trans ?_
    refine (if_neg (by decide)).trans ?_
    rw [t_0]
    exact rfl
  rw [e]
  exact hq
set_option maxRecDepth 100000 in
theorem cs_30 {N SL : Nat} {SX : Nat → Int32} {K23 : gK} (hN : 20000 ≤ N) (hs : SL ≤ 3072) : CSt SL K23 (s_mask [true, true, true, true, true, false, false, false] <| fL_law_k2004 N SL SX K23) := by
  intro i J hi hQ
  obtain ⟨a, hc, hm, hw⟩ := hQ
  obtain ⟨kk, D, d0, d1⟩ := hq_total (v1 := SX (i + 1)) hN hc hm hw
  obtain ⟨w, E, a', e0, e1, e2, c1, m1, w1⟩ := d1 _ (QJ.mid (D := D) hm)
  refine ⟨gMg (rg 204 18) (gMg RO J D) E, QJ.end c1 m1 w1, ?_⟩
  refine tt_mask (L2 := Ls i) rfl ?_
  unfold fL_law_k2004
  refine tt_aload rfl ?_
  refine tl_arg (j := 1) rfl rfl rfl (by omega) hs ?_
  refine tt_aload rfl ?_
  refine tl_ca (t := []) (ρ2 := RO) (av := [.ref 0, .int (SX (i + 1)), .ref 204]) ⟨Nat.le_of_ble_eq_true rfl, Nat.le_of_ble_eq_true rfl⟩ (bk0 (gBk_i (bkO rfl))) rfl rfl d0 ?_
  refine tt_istore (L2 := Lk i kk) (tt_lt rfl) rfl ?_
  refine tt_aload rfl ?_
  refine tl_arg (j := 1) rfl rfl rfl (by omega) hs ?_
  refine tl_cavJ (t := []) (ρ2 := rg 204 18) (av := [.int (SX (i + 1))]) ⟨Nat.le_of_ble_eq_true rfl, Nat.le_of_ble_eq_true rfl⟩ (bkM (gBk_i (rfl))) rfl rfl e0 ?_
  refine tt_lstore (L2 := Lx i kk w) (tt_lt rfl) rfl ?_
  refine tt_aload rfl ?_
  refine tl_cav (t := []) (ρ2 := rg 204 18) (av := []) ⟨Nat.le_of_ble_eq_true rfl, Nat.le_of_ble_eq_true rfl⟩ (bkM rfl) rfl rfl (tl_thrown (kk := kk) ((congrFun (m18a (k := 0) (by decide)) 0).trans e1)) ?_
  rw [m18s]
  refine tt_mask (L2 := Lx i kk w) rfl ?_
  unfold fL_law_k2033
  exact tl_long (by unfold fL_law_k2056; exact tt_mask (L2 := Ls i) rfl tl_back) (fun z => by rw [QJ.out, QJ.out]; exact e2 z)
set_option maxRecDepth 100000 in
theorem hq_fullest {N : Nat} {a : AB} {J : gM} (hN : 20000 ≤ N) (h : INc J a) (hm : INm (gS (rg 204 18) J) a) (hw : INw a) : HQ Int32.toInt64 a (fL_fullest N [.ref 0, .ref 204] (gS RO J)) (fun M' => fX9_fullest N [.ref 0] M') := by
  have hq := hq_of (exs := [eNS]) (hs := [(eNS, 1)]) (cv := Int32.toInt64) (oc := fX8_fullest N [.ref 0] (gS (rg 0 204) (gS RO J))) (om := fun M' => fX9_fullest N [.ref 0] M') (M := gS RO J) (by decide) lk_1 hm (fun M' hM' => j_fullest ⟨QJ.cls h, hM', hw⟩ hN)
  have e : fL_fullest N [.ref 0, .ref 204] (gS RO J) = hTI (fX8_fullest N [.ref 0] (gS (rg 0 204) (gS RO J))) (rg 0 204) (gS RO J) [(eNS, 1)] (fun x J => some (.inl (some (.int 0)), putL J (Int32.toInt64 x))) := by
    unfold fL_fullest fL_fullest_k0
    refine (tt_fn (L := [some (.ref 0), some (.ref 204), none]) rfl rfl).trans ?_
    refine tt_aload rfl ?_
    refine tt_const ?_
    refine tt_aload rfl ?_
    refine tt_tryI (t := [.int 0, .ref 204]) (ρ2 := rg 0 204) (av := []) ⟨Nat.le_of_ble_eq_true rfl, Nat.le_of_ble_eq_true rfl⟩ (bkC (rfl)) rfl rfl (fun x J => ?_)
    refine tt_i2l ?_
    refine (tt_last (n := 1) rfl rfl).trans ?_
    refine (if_neg (by decide)).trans ?_
    rw [t_0]
    exact rfl
  rw [e]
  exact hq
set_option maxRecDepth 100000 in
theorem cs_31 {N SL : Nat} {SX : Nat → Int32} {K23 : gK} (hN : 20000 ≤ N) (hs : SL ≤ 3072) : CSt SL K23 (s_mask [true, true, true, true, true, false, false, false] <| fL_law_k2059 N SL SX K23) := by
  intro i J hi hQ
  obtain ⟨a, hc, hm, hw⟩ := hQ
  obtain ⟨kk, D, d0, d1⟩ := hq_fullest  hN hc hm hw
  obtain ⟨w, E, a', e0, e1, e2, c1, m1, w1⟩ := d1 _ (QJ.mid (D := D) hm)
  refine ⟨gMg (rg 204 18) (gMg RO J D) E, QJ.end c1 m1 w1, ?_⟩
  refine tt_mask (L2 := Ls i) rfl ?_
  unfold fL_law_k2059
  refine tt_aload rfl ?_
  refine tt_aload rfl ?_
  refine tl_ca (t := []) (ρ2 := RO) (av := [.ref 0, .ref 204]) ⟨Nat.le_of_ble_eq_true rfl, Nat.le_of_ble_eq_true rfl⟩ (bk0 (bkO rfl)) rfl rfl d0 ?_
  refine tt_istore (L2 := Lk i kk) (tt_lt rfl) rfl ?_
  refine tt_aload rfl ?_
  refine tl_cav (t := []) (ρ2 := rg 204 18) (av := []) ⟨Nat.le_of_ble_eq_true rfl, Nat.le_of_ble_eq_true rfl⟩ (bkM (rfl)) rfl rfl e0 ?_
  refine tt_istore (L2 := Lw i kk w) (tt_lt rfl) rfl ?_
  refine tt_aload rfl ?_
  refine tl_cav (t := []) (ρ2 := rg 204 18) (av := []) ⟨Nat.le_of_ble_eq_true rfl, Nat.le_of_ble_eq_true rfl⟩ (bkM rfl) rfl rfl (tl_thrown (kk := kk) ((congrFun (m18a (k := 0) (by decide)) 0).trans e1)) ?_
  rw [m18s]
  refine tt_mask (L2 := Lw i kk w) rfl ?_
  unfold fL_law_k2076
  exact tl_int (by unfold fL_law_k2100; exact tt_mask (L2 := Ls i) rfl tl_back) (fun z => by rw [QJ.out, QJ.out]; exact e2 z)
set_option maxRecDepth 100000 in
theorem hq_urgent {N : Nat} {a : AB} {J : gM} (hN : 20000 ≤ N) (h : INc J a) (hm : INm (gS (rg 204 18) J) a) (hw : INw a) : HQ Int32.toInt64 a (fL_urgent N [.ref 0, .ref 204] (gS RO J)) (fun M' => fX9_urgent N [.ref 0] M') := by
  have hq := hq_of (exs := [eNS]) (hs := [(eNS, 1)]) (cv := Int32.toInt64) (oc := fX8_urgent N [.ref 0] (gS (rg 0 204) (gS RO J))) (om := fun M' => fX9_urgent N [.ref 0] M') (M := gS RO J) (by decide) lk_1 hm (fun M' hM' => j_urgent ⟨QJ.cls h, hM', hw⟩ hN)
  have e : fL_urgent N [.ref 0, .ref 204] (gS RO J) = hTI (fX8_urgent N [.ref 0] (gS (rg 0 204) (gS RO J))) (rg 0 204) (gS RO J) [(eNS, 1)] (fun x J => some (.inl (some (.int 0)), putL J (Int32.toInt64 x))) := by
    unfold fL_urgent fL_urgent_k0
    refine (tt_fn (L := [some (.ref 0), some (.ref 204), none]) rfl rfl).trans ?_
    refine tt_aload rfl ?_
    refine tt_const ?_
    refine tt_aload rfl ?_
    refine tt_tryI (t := [.int 0, .ref 204]) (ρ2 := rg 0 204) (av := []) ⟨Nat.le_of_ble_eq_true rfl, Nat.le_of_ble_eq_true rfl⟩ (bkC (rfl)) rfl rfl (fun x J => ?_)
    refine tt_i2l ?_
    refine (tt_last (n := 1) rfl rfl).trans ?_
    refine (if_neg (by decide)).trans ?_
    rw [t_0]
    exact rfl
  rw [e]
  exact hq
set_option maxRecDepth 100000 in
theorem cs_32 {N SL : Nat} {SX : Nat → Int32} {K23 : gK} (hN : 20000 ≤ N) (hs : SL ≤ 3072) : CSt SL K23 (s_mask [true, true, true, true, true, false, false, false] <| fL_law_k2103 N SL SX K23) := by
  intro i J hi hQ
  obtain ⟨a, hc, hm, hw⟩ := hQ
  obtain ⟨kk, D, d0, d1⟩ := hq_urgent  hN hc hm hw
  obtain ⟨w, E, a', e0, e1, e2, c1, m1, w1⟩ := d1 _ (QJ.mid (D := D) hm)
  refine ⟨gMg (rg 204 18) (gMg RO J D) E, QJ.end c1 m1 w1, ?_⟩
  refine tt_mask (L2 := Ls i) rfl ?_
  unfold fL_law_k2103
  refine tt_aload rfl ?_
  refine tt_aload rfl ?_
  refine tl_ca (t := []) (ρ2 := RO) (av := [.ref 0, .ref 204]) ⟨Nat.le_of_ble_eq_true rfl, Nat.le_of_ble_eq_true rfl⟩ (bk0 (bkO rfl)) rfl rfl d0 ?_
  refine tt_istore (L2 := Lk i kk) (tt_lt rfl) rfl ?_
  refine tt_aload rfl ?_
  refine tl_cav (t := []) (ρ2 := rg 204 18) (av := []) ⟨Nat.le_of_ble_eq_true rfl, Nat.le_of_ble_eq_true rfl⟩ (bkM (rfl)) rfl rfl e0 ?_
  refine tt_istore (L2 := Lw i kk w) (tt_lt rfl) rfl ?_
  refine tt_aload rfl ?_
  refine tl_cav (t := []) (ρ2 := rg 204 18) (av := []) ⟨Nat.le_of_ble_eq_true rfl, Nat.le_of_ble_eq_true rfl⟩ (bkM rfl) rfl rfl (tl_thrown (kk := kk) ((congrFun (m18a (k := 0) (by decide)) 0).trans e1)) ?_
  rw [m18s]
  refine tt_mask (L2 := Lw i kk w) rfl ?_
  unfold fL_law_k2120
  exact tl_int (by unfold fL_law_k2144; exact tt_mask (L2 := Ls i) rfl tl_back) (fun z => by rw [QJ.out, QJ.out]; exact e2 z)
