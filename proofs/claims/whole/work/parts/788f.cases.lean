/-! ===== the cases of the law, 4 ===== -/
set_option maxRecDepth 100000 in
theorem hq_meanDelay {N : Nat} {a : AB} {J : gM} {v1 v2 : Int32} (hN : 20000 ≤ N) (h : INc J a) (hm : INm (gS (rg 204 18) J) a) (hw : INw a) : HQ Int32.toInt64 a (fL_meanDelay N [.ref 0, .int v1, .int v2, .ref 204] (gS RO J)) (fun M' => fX9_meanDelay N [.ref 0, .int v1, .int v2] M') := by
  have hq := hq_of (exs := [eIO, eNS]) (hs := [(eIO, 1), (eNS, 2)]) (cv := Int32.toInt64) (oc := fX8_meanDelay N [.ref 0, .int v1, .int v2] (gS (rg 0 204) (gS RO J))) (om := fun M' => fX9_meanDelay N [.ref 0, .int v1, .int v2] M') (M := gS RO J) (by decide) (lk_2 (by decide)) hm (fun M' hM' => j_meanDelay ⟨QJ.cls h, hM', hw⟩ hN)
  have e : fL_meanDelay N [.ref 0, .int v1, .int v2, .ref 204] (gS RO J) = hTI (fX8_meanDelay N [.ref 0, .int v1, .int v2] (gS (rg 0 204) (gS RO J))) (rg 0 204) (gS RO J) [(eIO, 1), (eNS, 2)] (fun x J => some (.inl (some (.int 0)), putL J (Int32.toInt64 x))) := by
    unfold fL_meanDelay fL_meanDelay_k0
    refine (tt_fn (L := [some (.ref 0), some (.int v1), some (.int v2), some (.ref 204), none]) rfl rfl).trans ?_
    refine tt_aload rfl ?_
    refine tt_const ?_
    refine tt_aload rfl ?_
    refine tt_iload rfl ?_
    refine tt_iload rfl ?_
    refine tt_tryI (t := [.int 0, .ref 204]) (ρ2 := rg 0 204) (av := [.int v1, .int v2]) ⟨Nat.le_of_ble_eq_true rfl, Nat.le_of_ble_eq_true rfl⟩ (bkC (gBk_i (gBk_i (rfl)))) rfl rfl (fun x J => ?_)
    refine tt_i2l ?_
    refine (tt_last (n := 1) rfl rfl).trans ?_
    refine (if_neg (by decide)).trans ?_
    rw [t_0]
    exact rfl
  rw [e]
  exact hq
set_option maxRecDepth 100000 in
theorem cs_33 {N SL : Nat} {SX : Nat → Int32} {K23 : gK} (hN : 20000 ≤ N) (hs : SL ≤ 3072) : CSt SL K23 (s_mask [true, true, true, true, true, false, false, false] <| fL_law_k2147 N SL SX K23) := by
  intro i J hi hQ
  obtain ⟨a, hc, hm, hw⟩ := hQ
  obtain ⟨kk, D, d0, d1⟩ := hq_meanDelay (v1 := SX (i + 1)) (v2 := b2 (decide (SX (i + 2) ≠ 0))) hN hc hm hw
  obtain ⟨w, E, a', e0, e1, e2, c1, m1, w1⟩ := d1 _ (QJ.mid (D := D) hm)
  refine ⟨gMg (rg 204 18) (gMg RO J D) E, QJ.end c1 m1 w1, ?_⟩
  refine tt_mask (L2 := Ls i) rfl ?_
  unfold fL_law_k2147
  refine tt_aload rfl ?_
  refine tl_arg (j := 1) rfl rfl rfl (by omega) hs ?_
  refine tl_arg (j := 2) rfl rfl rfl (by omega) hs ?_
  refine tl_if01 ?_
  refine tt_mask (L2 := Ls i) rfl ?_
  unfold fL_law_k2168
  refine tt_aload rfl ?_
  refine tl_ca (t := []) (ρ2 := RO) (av := [.ref 0, .int (SX (i + 1)), .int (b2 (decide (SX (i + 2) ≠ 0))), .ref 204]) ⟨Nat.le_of_ble_eq_true rfl, Nat.le_of_ble_eq_true rfl⟩ (bk0 (gBk_i (gBk_i (bkO rfl)))) rfl rfl d0 ?_
  refine tt_istore (L2 := Lk i kk) (tt_lt rfl) rfl ?_
  refine tt_aload rfl ?_
  refine tl_arg (j := 1) rfl rfl rfl (by omega) hs ?_
  refine tl_arg (j := 2) rfl rfl rfl (by omega) hs ?_
  refine tl_if01 ?_
  refine tt_mask (L2 := Lk i kk) rfl ?_
  unfold fL_law_k2195
  refine tl_cav (t := []) (ρ2 := rg 204 18) (av := [.int (SX (i + 1)), .int (b2 (decide (SX (i + 2) ≠ 0)))]) ⟨Nat.le_of_ble_eq_true rfl, Nat.le_of_ble_eq_true rfl⟩ (bkM (gBk_i (gBk_i (rfl)))) rfl rfl e0 ?_
  refine tt_istore (L2 := Lw i kk w) (tt_lt rfl) rfl ?_
  refine tt_aload rfl ?_
  refine tl_cav (t := []) (ρ2 := rg 204 18) (av := []) ⟨Nat.le_of_ble_eq_true rfl, Nat.le_of_ble_eq_true rfl⟩ (bkM rfl) rfl rfl (tl_thrown (kk := kk) ((congrFun (m18a (k := 0) (by decide)) 0).trans e1)) ?_
  rw [m18s]
  exact tl_int (by unfold fL_law_k2228; exact tt_mask (L2 := Ls i) rfl tl_back) (fun z => by rw [QJ.out, QJ.out]; exact e2 z)
set_option maxRecDepth 100000 in
theorem hq_schedule {N : Nat} {a : AB} {J : gM} {v1 : Int32} (hN : 20000 ≤ N) (h : INc J a) (hm : INm (gS (rg 204 18) J) a) (hw : INw a) : HQ Int32.toInt64 a (fL_schedule N [.ref 0, .int v1, .ref 204] (gS RO J)) (fun M' => fX9_schedule N [.ref 0, .int v1] M') := by
  have hq := hq_of (exs := [eIA]) (hs := [(eIA, 1)]) (cv := Int32.toInt64) (oc := fX8_schedule N [.ref 0, .int v1] (gS (rg 0 204) (gS RO J))) (om := fun M' => fX9_schedule N [.ref 0, .int v1] M') (M := gS RO J) (by decide) lk_1 hm (fun M' hM' => j_schedule ⟨QJ.cls h, hM', hw⟩ hN)
  have e : fL_schedule N [.ref 0, .int v1, .ref 204] (gS RO J) = hTI (fX8_schedule N [.ref 0, .int v1] (gS (rg 0 204) (gS RO J))) (rg 0 204) (gS RO J) [(eIA, 1)] (fun x J => some (.inl (some (.int 0)), putL J (Int32.toInt64 x))) := by
    unfold fL_schedule fL_schedule_k0
    refine (tt_fn (L := [some (.ref 0), some (.int v1), some (.ref 204), none]) rfl rfl).trans ?_
    refine tt_aload rfl ?_
    refine tt_const ?_
    refine tt_aload rfl ?_
    refine tt_iload rfl ?_
    refine tt_tryI (t := [.int 0, .ref 204]) (ρ2 := rg 0 204) (av := [.int v1]) ⟨Nat.le_of_ble_eq_true rfl, Nat.le_of_ble_eq_true rfl⟩ (bkC (gBk_i (rfl))) rfl rfl (fun x J => ?_)
    refine tt_i2l ?_
    refine (tt_last (n := 1) rfl rfl).trans ?_
    refine (if_neg (by decide)).trans ?_
    rw [t_0]
    exact rfl
  rw [e]
  exact hq
set_option maxRecDepth 100000 in
theorem cs_34 {N SL : Nat} {SX : Nat → Int32} {K23 : gK} (hN : 20000 ≤ N) (hs : SL ≤ 3072) : CSt SL K23 (s_mask [true, true, true, true, true, false, false, false] <| fL_law_k2231 N SL SX K23) := by
  intro i J hi hQ
  obtain ⟨a, hc, hm, hw⟩ := hQ
  obtain ⟨kk, D, d0, d1⟩ := hq_schedule (v1 := SX (i + 1)) hN hc hm hw
  obtain ⟨w, E, a', e0, e1, e2, c1, m1, w1⟩ := d1 _ (QJ.mid (D := D) hm)
  refine ⟨gMg (rg 204 18) (gMg RO J D) E, QJ.end c1 m1 w1, ?_⟩
  refine tt_mask (L2 := Ls i) rfl ?_
  unfold fL_law_k2231
  refine tt_aload rfl ?_
  refine tl_arg (j := 1) rfl rfl rfl (by omega) hs ?_
  refine tt_aload rfl ?_
  refine tl_ca (t := []) (ρ2 := RO) (av := [.ref 0, .int (SX (i + 1)), .ref 204]) ⟨Nat.le_of_ble_eq_true rfl, Nat.le_of_ble_eq_true rfl⟩ (bk0 (gBk_i (bkO rfl))) rfl rfl d0 ?_
  refine tt_istore (L2 := Lk i kk) (tt_lt rfl) rfl ?_
  refine tt_aload rfl ?_
  refine tl_arg (j := 1) rfl rfl rfl (by omega) hs ?_
  refine tl_cav (t := []) (ρ2 := rg 204 18) (av := [.int (SX (i + 1))]) ⟨Nat.le_of_ble_eq_true rfl, Nat.le_of_ble_eq_true rfl⟩ (bkM (gBk_i (rfl))) rfl rfl e0 ?_
  refine tt_istore (L2 := Lw i kk w) (tt_lt rfl) rfl ?_
  refine tt_aload rfl ?_
  refine tl_cav (t := []) (ρ2 := rg 204 18) (av := []) ⟨Nat.le_of_ble_eq_true rfl, Nat.le_of_ble_eq_true rfl⟩ (bkM rfl) rfl rfl (tl_thrown (kk := kk) ((congrFun (m18a (k := 0) (by decide)) 0).trans e1)) ?_
  rw [m18s]
  refine tt_mask (L2 := Lw i kk w) rfl ?_
  unfold fL_law_k2260
  exact tl_int (by unfold fL_law_k2284; exact tt_mask (L2 := Ls i) rfl tl_back) (fun z => by rw [QJ.out, QJ.out]; exact e2 z)
set_option maxRecDepth 100000 in
theorem hq_scheduleWeight {N : Nat} {a : AB} {J : gM} {v1 : Int32} (hN : 20000 ≤ N) (h : INc J a) (hm : INm (gS (rg 204 18) J) a) (hw : INw a) : HQ Int32.toInt64 a (fL_scheduleWeight N [.ref 0, .int v1, .ref 204] (gS RO J)) (fun M' => fX9_scheduleWeight N [.ref 0, .int v1] M') := by
  have hq := hq_of (exs := [eIA]) (hs := [(eIA, 1)]) (cv := Int32.toInt64) (oc := fX8_scheduleWeight N [.ref 0, .int v1] (gS (rg 0 204) (gS RO J))) (om := fun M' => fX9_scheduleWeight N [.ref 0, .int v1] M') (M := gS RO J) (by decide) lk_1 hm (fun M' hM' => j_scheduleWeight ⟨QJ.cls h, hM', hw⟩ hN)
  have e : fL_scheduleWeight N [.ref 0, .int v1, .ref 204] (gS RO J) = hTI (fX8_scheduleWeight N [.ref 0, .int v1] (gS (rg 0 204) (gS RO J))) (rg 0 204) (gS RO J) [(eIA, 1)] (fun x J => some (.inl (some (.int 0)), putL J (Int32.toInt64 x))) := by
    unfold fL_scheduleWeight fL_scheduleWeight_k0
    refine (tt_fn (L := [some (.ref 0), some (.int v1), some (.ref 204), none]) rfl rfl).trans ?_
    refine tt_aload rfl ?_
    refine tt_const ?_
    refine tt_aload rfl ?_
    refine tt_iload rfl ?_
    refine tt_tryI (t := [.int 0, .ref 204]) (ρ2 := rg 0 204) (av := [.int v1]) ⟨Nat.le_of_ble_eq_true rfl, Nat.le_of_ble_eq_true rfl⟩ (bkC (gBk_i (rfl))) rfl rfl (fun x J => ?_)
    refine tt_i2l ?_
    refine (tt_last (n := 1) rfl rfl).trans ?_
    refine (if_neg (by decide)).trans ?_
    rw [t_0]
    exact rfl
  rw [e]
  exact hq
set_option maxRecDepth 100000 in
theorem cs_35 {N SL : Nat} {SX : Nat → Int32} {K23 : gK} (hN : 20000 ≤ N) (hs : SL ≤ 3072) : CSt SL K23 (s_mask [true, true, true, true, true, false, false, false] <| fL_law_k2287 N SL SX K23) := by
  intro i J hi hQ
  obtain ⟨a, hc, hm, hw⟩ := hQ
  obtain ⟨kk, D, d0, d1⟩ := hq_scheduleWeight (v1 := SX (i + 1)) hN hc hm hw
  obtain ⟨w, E, a', e0, e1, e2, c1, m1, w1⟩ := d1 _ (QJ.mid (D := D) hm)
  refine ⟨gMg (rg 204 18) (gMg RO J D) E, QJ.end c1 m1 w1, ?_⟩
  refine tt_mask (L2 := Ls i) rfl ?_
  unfold fL_law_k2287
  refine tt_aload rfl ?_
  refine tl_arg (j := 1) rfl rfl rfl (by omega) hs ?_
  refine tt_aload rfl ?_
  refine tl_ca (t := []) (ρ2 := RO) (av := [.ref 0, .int (SX (i + 1)), .ref 204]) ⟨Nat.le_of_ble_eq_true rfl, Nat.le_of_ble_eq_true rfl⟩ (bk0 (gBk_i (bkO rfl))) rfl rfl d0 ?_
  refine tt_istore (L2 := Lk i kk) (tt_lt rfl) rfl ?_
  refine tt_aload rfl ?_
  refine tl_arg (j := 1) rfl rfl rfl (by omega) hs ?_
  refine tl_cav (t := []) (ρ2 := rg 204 18) (av := [.int (SX (i + 1))]) ⟨Nat.le_of_ble_eq_true rfl, Nat.le_of_ble_eq_true rfl⟩ (bkM (gBk_i (rfl))) rfl rfl e0 ?_
  refine tt_istore (L2 := Lw i kk w) (tt_lt rfl) rfl ?_
  refine tt_aload rfl ?_
  refine tl_cav (t := []) (ρ2 := rg 204 18) (av := []) ⟨Nat.le_of_ble_eq_true rfl, Nat.le_of_ble_eq_true rfl⟩ (bkM rfl) rfl rfl (tl_thrown (kk := kk) ((congrFun (m18a (k := 0) (by decide)) 0).trans e1)) ?_
  rw [m18s]
  refine tt_mask (L2 := Lw i kk w) rfl ?_
  unfold fL_law_k2316
  exact tl_int (by unfold fL_law_k2340; exact tt_mask (L2 := Ls i) rfl tl_back) (fun z => by rw [QJ.out, QJ.out]; exact e2 z)
set_option maxRecDepth 100000 in
theorem hq_forecast {N : Nat} {a : AB} {J : gM} {v1 v2 : Int32} (hN : 20000 ≤ N) (h : INc J a) (hm : INm (gS (rg 204 18) J) a) (hw : INw a) : HQJ a (fL_forecast N [.ref 0, .int v1, .int v2, .ref 204] (gS RO J)) (fun M' => fX9_forecast N [.ref 0, .int v1, .int v2] M') := by
  have hq := hqj_of (exs := [eIA]) (hs := [(eIA, 1)]) (oc := fX8_forecast N [.ref 0, .int v1, .int v2] (gS (rg 0 204) (gS RO J))) (om := fun M' => fX9_forecast N [.ref 0, .int v1, .int v2] M') (M := gS RO J) (by decide) lk_1 hm (fun M' hM' => j_forecast ⟨QJ.cls h, hM', hw⟩ hN)
  have e : fL_forecast N [.ref 0, .int v1, .int v2, .ref 204] (gS RO J) = hTJ (fX8_forecast N [.ref 0, .int v1, .int v2] (gS (rg 0 204) (gS RO J))) (rg 0 204) (gS RO J) [(eIA, 1)] (fun x J => some (.inl (some (.int 0)), putL J x)) := by
    unfold fL_forecast fL_forecast_k0
    refine (tt_fn (L := [some (.ref 0), some (.int v1), some (.int v2), some (.ref 204), none]) rfl rfl).trans ?_
    refine tt_aload rfl ?_
    refine tt_const ?_
    refine tt_aload rfl ?_
    refine tt_iload rfl ?_
    refine tt_iload rfl ?_
    refine tt_tryJ (t := [.int 0, .ref 204]) (ρ2 := rg 0 204) (av := [.int v1, .int v2]) ⟨Nat.le_of_ble_eq_true rfl, Nat.le_of_ble_eq_true rfl⟩ (bkC (gBk_i (gBk_i (rfl)))) rfl rfl (fun x J => ?_)
    refine (tt_last (n := 1) rfl rfl).trans ?_
    refine (if_neg (by decide)).trans ?_
    rw [t_0]
    exact rfl
  rw [e]
  exact hq
set_option maxRecDepth 100000 in
theorem cs_36 {N SL : Nat} {SX : Nat → Int32} {K23 : gK} (hN : 20000 ≤ N) (hs : SL ≤ 3072) : CSt SL K23 (s_mask [true, true, true, true, true, false, false, false] <| fL_law_k2343 N SL SX K23) := by
  intro i J hi hQ
  obtain ⟨a, hc, hm, hw⟩ := hQ
  obtain ⟨kk, D, d0, d1⟩ := hq_forecast (v1 := SX (i + 1)) (v2 := SX (i + 2)) hN hc hm hw
  obtain ⟨w, E, a', e0, e1, e2, c1, m1, w1⟩ := d1 _ (QJ.mid (D := D) hm)
  refine ⟨gMg (rg 204 18) (gMg RO J D) E, QJ.end c1 m1 w1, ?_⟩
  refine tt_mask (L2 := Ls i) rfl ?_
  unfold fL_law_k2343
  refine tt_aload rfl ?_
  refine tl_arg (j := 1) rfl rfl rfl (by omega) hs ?_
  refine tl_arg (j := 2) rfl rfl rfl (by omega) hs ?_
  refine tt_aload rfl ?_
  refine tl_ca (t := []) (ρ2 := RO) (av := [.ref 0, .int (SX (i + 1)), .int (SX (i + 2)), .ref 204]) ⟨Nat.le_of_ble_eq_true rfl, Nat.le_of_ble_eq_true rfl⟩ (bk0 (gBk_i (gBk_i (bkO rfl)))) rfl rfl d0 ?_
  refine tt_istore (L2 := Lk i kk) (tt_lt rfl) rfl ?_
  refine tt_aload rfl ?_
  refine tl_arg (j := 1) rfl rfl rfl (by omega) hs ?_
  refine tl_arg (j := 2) rfl rfl rfl (by omega) hs ?_
  refine tl_cavJ (t := []) (ρ2 := rg 204 18) (av := [.int (SX (i + 1)), .int (SX (i + 2))]) ⟨Nat.le_of_ble_eq_true rfl, Nat.le_of_ble_eq_true rfl⟩ (bkM (gBk_i (gBk_i (rfl)))) rfl rfl e0 ?_
  refine tt_lstore (L2 := Lx i kk w) (tt_lt rfl) rfl ?_
  refine tt_aload rfl ?_
  refine tl_cav (t := []) (ρ2 := rg 204 18) (av := []) ⟨Nat.le_of_ble_eq_true rfl, Nat.le_of_ble_eq_true rfl⟩ (bkM rfl) rfl rfl (tl_thrown (kk := kk) ((congrFun (m18a (k := 0) (by decide)) 0).trans e1)) ?_
  rw [m18s]
  refine tt_mask (L2 := Lx i kk w) rfl ?_
  unfold fL_law_k2384
  exact tl_long (by unfold fL_law_k2407; exact tt_mask (L2 := Ls i) rfl tl_back) (fun z => by rw [QJ.out, QJ.out]; exact e2 z)
set_option maxRecDepth 100000 in
theorem hq_forecastFlow {N : Nat} {a : AB} {J : gM} {v1 v2 v3 : Int32} (hN : 20000 ≤ N) (h : INc J a) (hm : INm (gS (rg 204 18) J) a) (hw : INw a) : HQ Int32.toInt64 a (fL_forecastFlow N [.ref 0, .int v1, .int v2, .int v3, .ref 204] (gS RO J)) (fun M' => fX9_forecastFlow N [.ref 0, .int v1, .int v2, .int v3] M') := by
  have hq := hq_of (exs := [eIO, eIA]) (hs := [(eIO, 1), (eIA, 2)]) (cv := Int32.toInt64) (oc := fX8_forecastFlow N [.ref 0, .int v1, .int v2, .int v3] (gS (rg 0 204) (gS RO J))) (om := fun M' => fX9_forecastFlow N [.ref 0, .int v1, .int v2, .int v3] M') (M := gS RO J) (by decide) (lk_2 (by decide)) hm (fun M' hM' => j_forecastFlow ⟨QJ.cls h, hM', hw⟩ hN)
  have e : fL_forecastFlow N [.ref 0, .int v1, .int v2, .int v3, .ref 204] (gS RO J) = hTI (fX8_forecastFlow N [.ref 0, .int v1, .int v2, .int v3] (gS (rg 0 204) (gS RO J))) (rg 0 204) (gS RO J) [(eIO, 1), (eIA, 2)] (fun x J => some (.inl (some (.int 0)), putL J (Int32.toInt64 x))) := by
    unfold fL_forecastFlow fL_forecastFlow_k0
    refine (tt_fn (L := [some (.ref 0), some (.int v1), some (.int v2), some (.int v3), some (.ref 204), none]) rfl rfl).trans ?_
    refine tt_aload rfl ?_
    refine tt_const ?_
    refine tt_aload rfl ?_
    refine tt_iload rfl ?_
    refine tt_iload rfl ?_
    refine tt_iload rfl ?_
    refine tt_tryI (t := [.int 0, .ref 204]) (ρ2 := rg 0 204) (av := [.int v1, .int v2, .int v3]) ⟨Nat.le_of_ble_eq_true rfl, Nat.le_of_ble_eq_true rfl⟩ (bkC (gBk_i (gBk_i (gBk_i (rfl))))) rfl rfl (fun x J => ?_)
    refine tt_i2l ?_
    refine (tt_last (n := 1) rfl rfl).trans ?_
    refine (if_neg (by decide)).trans ?_
    rw [t_0]
    exact rfl
  rw [e]
  exact hq
set_option maxRecDepth 100000 in
theorem cs_37 {N SL : Nat} {SX : Nat → Int32} {K23 : gK} (hN : 20000 ≤ N) (hs : SL ≤ 3072) : CSt SL K23 (s_mask [true, true, true, true, true, false, false, false] <| fL_law_k2410 N SL SX K23) := by
  intro i J hi hQ
  obtain ⟨a, hc, hm, hw⟩ := hQ
  obtain ⟨kk, D, d0, d1⟩ := hq_forecastFlow (v1 := SX (i + 1)) (v2 := SX (i + 2)) (v3 := SX (i + 3)) hN hc hm hw
  obtain ⟨w, E, a', e0, e1, e2, c1, m1, w1⟩ := d1 _ (QJ.mid (D := D) hm)
  refine ⟨gMg (rg 204 18) (gMg RO J D) E, QJ.end c1 m1 w1, ?_⟩
  refine tt_mask (L2 := Ls i) rfl ?_
  unfold fL_law_k2410
  refine tt_aload rfl ?_
  refine tl_arg (j := 1) rfl rfl rfl (by omega) hs ?_
  refine tl_arg (j := 2) rfl rfl rfl (by omega) hs ?_
  refine tl_arg (j := 3) rfl rfl rfl (by omega) hs ?_
  refine tt_aload rfl ?_
  refine tl_ca (t := []) (ρ2 := RO) (av := [.ref 0, .int (SX (i + 1)), .int (SX (i + 2)), .int (SX (i + 3)), .ref 204]) ⟨Nat.le_of_ble_eq_true rfl, Nat.le_of_ble_eq_true rfl⟩ (bk0 (gBk_i (gBk_i (gBk_i (bkO rfl))))) rfl rfl d0 ?_
  refine tt_istore (L2 := Lk i kk) (tt_lt rfl) rfl ?_
  refine tt_aload rfl ?_
  refine tl_arg (j := 1) rfl rfl rfl (by omega) hs ?_
  refine tl_arg (j := 2) rfl rfl rfl (by omega) hs ?_
  refine tl_arg (j := 3) rfl rfl rfl (by omega) hs ?_
  refine tl_cav (t := []) (ρ2 := rg 204 18) (av := [.int (SX (i + 1)), .int (SX (i + 2)), .int (SX (i + 3))]) ⟨Nat.le_of_ble_eq_true rfl, Nat.le_of_ble_eq_true rfl⟩ (bkM (gBk_i (gBk_i (gBk_i (rfl))))) rfl rfl e0 ?_
  refine tt_istore (L2 := Lw i kk w) (tt_lt rfl) rfl ?_
  refine tt_aload rfl ?_
  refine tl_cav (t := []) (ρ2 := rg 204 18) (av := []) ⟨Nat.le_of_ble_eq_true rfl, Nat.le_of_ble_eq_true rfl⟩ (bkM rfl) rfl rfl (tl_thrown (kk := kk) ((congrFun (m18a (k := 0) (by decide)) 0).trans e1)) ?_
  rw [m18s]
  refine tt_mask (L2 := Lw i kk w) rfl ?_
  unfold fL_law_k2463
  exact tl_int (by unfold fL_law_k2487; exact tt_mask (L2 := Ls i) rfl tl_back) (fun z => by rw [QJ.out, QJ.out]; exact e2 z)
set_option maxRecDepth 100000 in
theorem hq_slotsToFull {N : Nat} {a : AB} {J : gM} {v1 v2 : Int32} (hN : 20000 ≤ N) (h : INc J a) (hm : INm (gS (rg 204 18) J) a) (hw : INw a) : HQ Int32.toInt64 a (fL_slotsToFull N [.ref 0, .int v1, .int v2, .ref 204] (gS RO J)) (fun M' => fX9_slotsToFull N [.ref 0, .int v1, .int v2] M') := by
  have hq := hq_of (exs := [eIA, eNS]) (hs := [(eIA, 1), (eNS, 2)]) (cv := Int32.toInt64) (oc := fX8_slotsToFull N [.ref 0, .int v1, .int v2] (gS (rg 0 204) (gS RO J))) (om := fun M' => fX9_slotsToFull N [.ref 0, .int v1, .int v2] M') (M := gS RO J) (by decide) (lk_2 (by decide)) hm (fun M' hM' => j_slotsToFull ⟨QJ.cls h, hM', hw⟩ hN)
  have e : fL_slotsToFull N [.ref 0, .int v1, .int v2, .ref 204] (gS RO J) = hTI (fX8_slotsToFull N [.ref 0, .int v1, .int v2] (gS (rg 0 204) (gS RO J))) (rg 0 204) (gS RO J) [(eIA, 1), (eNS, 2)] (fun x J => some (.inl (some (.int 0)), putL J (Int32.toInt64 x))) := by
    unfold fL_slotsToFull fL_slotsToFull_k0
    refine (tt_fn (L := [some (.ref 0), some (.int v1), some (.int v2), some (.ref 204), none]) rfl rfl).trans ?_
    refine tt_aload rfl ?_
    refine tt_const ?_
    refine tt_aload rfl ?_
    refine tt_iload rfl ?_
    refine tt_iload rfl ?_
    refine tt_tryI (t := [.int 0, .ref 204]) (ρ2 := rg 0 204) (av := [.int v1, .int v2]) ⟨Nat.le_of_ble_eq_true rfl, Nat.le_of_ble_eq_true rfl⟩ (bkC (gBk_i (gBk_i (rfl)))) rfl rfl (fun x J => ?_)
    refine tt_i2l ?_
    refine (tt_last (n := 1) rfl rfl).trans ?_
    refine (if_neg (by decide)).trans ?_
    rw [t_0]
    exact rfl
  rw [e]
  exact hq
set_option maxRecDepth 100000 in
theorem cs_38 {N SL : Nat} {SX : Nat → Int32} {K23 : gK} (hN : 20000 ≤ N) (hs : SL ≤ 3072) : CSt SL K23 (s_mask [true, true, true, true, true, false, false, false] <| fL_law_k2490 N SL SX K23) := by
  intro i J hi hQ
  obtain ⟨a, hc, hm, hw⟩ := hQ
  obtain ⟨kk, D, d0, d1⟩ := hq_slotsToFull (v1 := SX (i + 1)) (v2 := SX (i + 2)) hN hc hm hw
  obtain ⟨w, E, a', e0, e1, e2, c1, m1, w1⟩ := d1 _ (QJ.mid (D := D) hm)
  refine ⟨gMg (rg 204 18) (gMg RO J D) E, QJ.end c1 m1 w1, ?_⟩
  refine tt_mask (L2 := Ls i) rfl ?_
  unfold fL_law_k2490
  refine tt_aload rfl ?_
  refine tl_arg (j := 1) rfl rfl rfl (by omega) hs ?_
  refine tl_arg (j := 2) rfl rfl rfl (by omega) hs ?_
  refine tt_aload rfl ?_
  refine tl_ca (t := []) (ρ2 := RO) (av := [.ref 0, .int (SX (i + 1)), .int (SX (i + 2)), .ref 204]) ⟨Nat.le_of_ble_eq_true rfl, Nat.le_of_ble_eq_true rfl⟩ (bk0 (gBk_i (gBk_i (bkO rfl)))) rfl rfl d0 ?_
  refine tt_istore (L2 := Lk i kk) (tt_lt rfl) rfl ?_
  refine tt_aload rfl ?_
  refine tl_arg (j := 1) rfl rfl rfl (by omega) hs ?_
  refine tl_arg (j := 2) rfl rfl rfl (by omega) hs ?_
  refine tl_cav (t := []) (ρ2 := rg 204 18) (av := [.int (SX (i + 1)), .int (SX (i + 2))]) ⟨Nat.le_of_ble_eq_true rfl, Nat.le_of_ble_eq_true rfl⟩ (bkM (gBk_i (gBk_i (rfl)))) rfl rfl e0 ?_
  refine tt_istore (L2 := Lw i kk w) (tt_lt rfl) rfl ?_
  refine tt_aload rfl ?_
  refine tl_cav (t := []) (ρ2 := rg 204 18) (av := []) ⟨Nat.le_of_ble_eq_true rfl, Nat.le_of_ble_eq_true rfl⟩ (bkM rfl) rfl rfl (tl_thrown (kk := kk) ((congrFun (m18a (k := 0) (by decide)) 0).trans e1)) ?_
  rw [m18s]
  refine tt_mask (L2 := Lw i kk w) rfl ?_
  unfold fL_law_k2531
  exact tl_int (by unfold fL_law_k2555; exact tt_mask (L2 := Ls i) rfl tl_back) (fun z => by rw [QJ.out, QJ.out]; exact e2 z)
set_option maxRecDepth 100000 in
theorem hq_bestBias {N : Nat} {a : AB} {J : gM} {v1 : Int32} (hN : 20000 ≤ N) (h : INc J a) (hm : INm (gS (rg 204 18) J) a) (hw : INw a) : HQ Int32.toInt64 a (fL_bestBias N [.ref 0, .int v1, .ref 204] (gS RO J)) (fun M' => fX9_bestBias N [.ref 0, .int v1] M') := by
  have hq := hq_of (exs := [eIA]) (hs := [(eIA, 1)]) (cv := Int32.toInt64) (oc := fX8_bestBias N [.ref 0, .int v1] (gS (rg 0 204) (gS RO J))) (om := fun M' => fX9_bestBias N [.ref 0, .int v1] M') (M := gS RO J) (by decide) lk_1 hm (fun M' hM' => j_bestBias ⟨QJ.cls h, hM', hw⟩ hN)
  have e : fL_bestBias N [.ref 0, .int v1, .ref 204] (gS RO J) = hTI (fX8_bestBias N [.ref 0, .int v1] (gS (rg 0 204) (gS RO J))) (rg 0 204) (gS RO J) [(eIA, 1)] (fun x J => some (.inl (some (.int 0)), putL J (Int32.toInt64 x))) := by
    unfold fL_bestBias fL_bestBias_k0
    refine (tt_fn (L := [some (.ref 0), some (.int v1), some (.ref 204), none]) rfl rfl).trans ?_
    refine tt_aload rfl ?_
    refine tt_const ?_
    refine tt_aload rfl ?_
    refine tt_iload rfl ?_
    refine tt_tryI (t := [.int 0, .ref 204]) (ρ2 := rg 0 204) (av := [.int v1]) ⟨Nat.le_of_ble_eq_true rfl, Nat.le_of_ble_eq_true rfl⟩ (bkC (gBk_i (rfl))) rfl rfl (fun x J => ?_)
    refine tt_i2l ?_
    refine (tt_last (n := 1) rfl rfl).trans ?_
    refine (if_neg (by decide)).trans ?_
    rw [t_0]
    exact rfl
  rw [e]
  exact hq
set_option maxRecDepth 100000 in
theorem cs_39 {N SL : Nat} {SX : Nat → Int32} {K23 : gK} (hN : 20000 ≤ N) (hs : SL ≤ 3072) : CSt SL K23 (s_mask [true, true, true, true, true, false, false, false] <| fL_law_k2558 N SL SX K23) := by
  intro i J hi hQ
  obtain ⟨a, hc, hm, hw⟩ := hQ
  obtain ⟨kk, D, d0, d1⟩ := hq_bestBias (v1 := SX (i + 1)) hN hc hm hw
  obtain ⟨w, E, a', e0, e1, e2, c1, m1, w1⟩ := d1 _ (QJ.mid (D := D) hm)
  refine ⟨gMg (rg 204 18) (gMg RO J D) E, QJ.end c1 m1 w1, ?_⟩
  refine tt_mask (L2 := Ls i) rfl ?_
  unfold fL_law_k2558
  refine tt_aload rfl ?_
  refine tl_arg (j := 1) rfl rfl rfl (by omega) hs ?_
  refine tt_aload rfl ?_
  refine tl_ca (t := []) (ρ2 := RO) (av := [.ref 0, .int (SX (i + 1)), .ref 204]) ⟨Nat.le_of_ble_eq_true rfl, Nat.le_of_ble_eq_true rfl⟩ (bk0 (gBk_i (bkO rfl))) rfl rfl d0 ?_
  refine tt_istore (L2 := Lk i kk) (tt_lt rfl) rfl ?_
  refine tt_aload rfl ?_
  refine tl_arg (j := 1) rfl rfl rfl (by omega) hs ?_
  refine tl_cav (t := []) (ρ2 := rg 204 18) (av := [.int (SX (i + 1))]) ⟨Nat.le_of_ble_eq_true rfl, Nat.le_of_ble_eq_true rfl⟩ (bkM (gBk_i (rfl))) rfl rfl e0 ?_
  refine tt_istore (L2 := Lw i kk w) (tt_lt rfl) rfl ?_
  refine tt_aload rfl ?_
  refine tl_cav (t := []) (ρ2 := rg 204 18) (av := []) ⟨Nat.le_of_ble_eq_true rfl, Nat.le_of_ble_eq_true rfl⟩ (bkM rfl) rfl rfl (tl_thrown (kk := kk) ((congrFun (m18a (k := 0) (by decide)) 0).trans e1)) ?_
  rw [m18s]
  refine tt_mask (L2 := Lw i kk w) rfl ?_
  unfold fL_law_k2587
  exact tl_int (by unfold fL_law_k2611; exact tt_mask (L2 := Ls i) rfl tl_back) (fun z => by rw [QJ.out, QJ.out]; exact e2 z)
set_option maxRecDepth 100000 in
theorem hq_bestExcess {N : Nat} {a : AB} {J : gM} {v1 : Int32} (hN : 20000 ≤ N) (h : INc J a) (hm : INm (gS (rg 204 18) J) a) (hw : INw a) : HQ Int32.toInt64 a (fL_bestExcess N [.ref 0, .int v1, .ref 204] (gS RO J)) (fun M' => fX9_bestExcess N [.ref 0, .int v1] M') := by
  have hq := hq_of (exs := [eIA]) (hs := [(eIA, 1)]) (cv := Int32.toInt64) (oc := fX8_bestExcess N [.ref 0, .int v1] (gS (rg 0 204) (gS RO J))) (om := fun M' => fX9_bestExcess N [.ref 0, .int v1] M') (M := gS RO J) (by decide) lk_1 hm (fun M' hM' => j_bestExcess ⟨QJ.cls h, hM', hw⟩ hN)
  have e : fL_bestExcess N [.ref 0, .int v1, .ref 204] (gS RO J) = hTI (fX8_bestExcess N [.ref 0, .int v1] (gS (rg 0 204) (gS RO J))) (rg 0 204) (gS RO J) [(eIA, 1)] (fun x J => some (.inl (some (.int 0)), putL J (Int32.toInt64 x))) := by
    unfold fL_bestExcess fL_bestExcess_k0
    refine (tt_fn (L := [some (.ref 0), some (.int v1), some (.ref 204), none]) rfl rfl).trans ?_
    refine tt_aload rfl ?_
    refine tt_const ?_
    refine tt_aload rfl ?_
    refine tt_iload rfl ?_
    refine tt_tryI (t := [.int 0, .ref 204]) (ρ2 := rg 0 204) (av := [.int v1]) ⟨Nat.le_of_ble_eq_true rfl, Nat.le_of_ble_eq_true rfl⟩ (bkC (gBk_i (rfl))) rfl rfl (fun x J => ?_)
    refine tt_i2l ?_
    refine (tt_last (n := 1) rfl rfl).trans ?_
    refine (if_neg (by decide)).trans ?_
    rw [t_0]
    exact rfl
  rw [e]
  exact hq
set_option maxRecDepth 100000 in
theorem cs_40 {N SL : Nat} {SX : Nat → Int32} {K23 : gK} (hN : 20000 ≤ N) (hs : SL ≤ 3072) : CSt SL K23 (s_mask [true, true, true, true, true, false, false, false] <| fL_law_k2614 N SL SX K23) := by
  intro i J hi hQ
  obtain ⟨a, hc, hm, hw⟩ := hQ
  obtain ⟨kk, D, d0, d1⟩ := hq_bestExcess (v1 := SX (i + 1)) hN hc hm hw
  obtain ⟨w, E, a', e0, e1, e2, c1, m1, w1⟩ := d1 _ (QJ.mid (D := D) hm)
  refine ⟨gMg (rg 204 18) (gMg RO J D) E, QJ.end c1 m1 w1, ?_⟩
  refine tt_mask (L2 := Ls i) rfl ?_
  unfold fL_law_k2614
  refine tt_aload rfl ?_
  refine tl_arg (j := 1) rfl rfl rfl (by omega) hs ?_
  refine tt_aload rfl ?_
  refine tl_ca (t := []) (ρ2 := RO) (av := [.ref 0, .int (SX (i + 1)), .ref 204]) ⟨Nat.le_of_ble_eq_true rfl, Nat.le_of_ble_eq_true rfl⟩ (bk0 (gBk_i (bkO rfl))) rfl rfl d0 ?_
  refine tt_istore (L2 := Lk i kk) (tt_lt rfl) rfl ?_
  refine tt_aload rfl ?_
  refine tl_arg (j := 1) rfl rfl rfl (by omega) hs ?_
  refine tl_cav (t := []) (ρ2 := rg 204 18) (av := [.int (SX (i + 1))]) ⟨Nat.le_of_ble_eq_true rfl, Nat.le_of_ble_eq_true rfl⟩ (bkM (gBk_i (rfl))) rfl rfl e0 ?_
  refine tt_istore (L2 := Lw i kk w) (tt_lt rfl) rfl ?_
  refine tt_aload rfl ?_
  refine tl_cav (t := []) (ρ2 := rg 204 18) (av := []) ⟨Nat.le_of_ble_eq_true rfl, Nat.le_of_ble_eq_true rfl⟩ (bkM rfl) rfl rfl (tl_thrown (kk := kk) ((congrFun (m18a (k := 0) (by decide)) 0).trans e1)) ?_
  rw [m18s]
  refine tt_mask (L2 := Lw i kk w) rfl ?_
  unfold fL_law_k2643
  exact tl_int (by unfold fL_law_k2667; exact tt_mask (L2 := Ls i) rfl tl_back) (fun z => by rw [QJ.out, QJ.out]; exact e2 z)
set_option maxRecDepth 100000 in
theorem hq_bestSettings {N : Nat} {a : AB} {J : gM} {v1 : Int32} (hN : 20000 ≤ N) (h : INc J a) (hm : INm (gS (rg 204 18) J) a) (hw : INw a) : HQ Int32.toInt64 a (fL_bestSettings N [.ref 0, .int v1, .ref 204] (gS RO J)) (fun M' => fX9_bestSettings N [.ref 0, .int v1] M') := by
  have hq := hq_of (exs := [eIA]) (hs := [(eIA, 1)]) (cv := Int32.toInt64) (oc := fX8_bestSettings N [.ref 0, .int v1] (gS (rg 0 204) (gS RO J))) (om := fun M' => fX9_bestSettings N [.ref 0, .int v1] M') (M := gS RO J) (by decide) lk_1 hm (fun M' hM' => j_bestSettings ⟨QJ.cls h, hM', hw⟩ hN)
  have e : fL_bestSettings N [.ref 0, .int v1, .ref 204] (gS RO J) = hTI (fX8_bestSettings N [.ref 0, .int v1] (gS (rg 0 204) (gS RO J))) (rg 0 204) (gS RO J) [(eIA, 1)] (fun x J => some (.inl (some (.int 0)), putL J (Int32.toInt64 x))) := by
    unfold fL_bestSettings fL_bestSettings_k0
    refine (tt_fn (L := [some (.ref 0), some (.int v1), some (.ref 204), none]) rfl rfl).trans ?_
    refine tt_aload rfl ?_
    refine tt_const ?_
    refine tt_aload rfl ?_
    refine tt_iload rfl ?_
    refine tt_tryI (t := [.int 0, .ref 204]) (ρ2 := rg 0 204) (av := [.int v1]) ⟨Nat.le_of_ble_eq_true rfl, Nat.le_of_ble_eq_true rfl⟩ (bkC (gBk_i (rfl))) rfl rfl (fun x J => ?_)
    refine tt_i2l ?_
    refine (tt_last (n := 1) rfl rfl).trans ?_
    refine (if_neg (by decide)).trans ?_
    rw [t_0]
    exact rfl
  rw [e]
  exact hq
set_option maxRecDepth 100000 in
theorem cs_41 {N SL : Nat} {SX : Nat → Int32} {K23 : gK} (hN : 20000 ≤ N) (hs : SL ≤ 3072) : CSt SL K23 (s_mask [true, true, true, true, true, false, false, false] <| fL_law_k2670 N SL SX K23) := by
  intro i J hi hQ
  obtain ⟨a, hc, hm, hw⟩ := hQ
  obtain ⟨kk, D, d0, d1⟩ := hq_bestSettings (v1 := SX (i + 1)) hN hc hm hw
  obtain ⟨w, E, a', e0, e1, e2, c1, m1, w1⟩ := d1 _ (QJ.mid (D := D) hm)
  refine ⟨gMg (rg 204 18) (gMg RO J D) E, QJ.end c1 m1 w1, ?_⟩
  refine tt_mask (L2 := Ls i) rfl ?_
  unfold fL_law_k2670
  refine tt_aload rfl ?_
  refine tl_arg (j := 1) rfl rfl rfl (by omega) hs ?_
  refine tt_aload rfl ?_
  refine tl_ca (t := []) (ρ2 := RO) (av := [.ref 0, .int (SX (i + 1)), .ref 204]) ⟨Nat.le_of_ble_eq_true rfl, Nat.le_of_ble_eq_true rfl⟩ (bk0 (gBk_i (bkO rfl))) rfl rfl d0 ?_
  refine tt_istore (L2 := Lk i kk) (tt_lt rfl) rfl ?_
  refine tt_aload rfl ?_
  refine tl_arg (j := 1) rfl rfl rfl (by omega) hs ?_
  refine tl_cav (t := []) (ρ2 := rg 204 18) (av := [.int (SX (i + 1))]) ⟨Nat.le_of_ble_eq_true rfl, Nat.le_of_ble_eq_true rfl⟩ (bkM (gBk_i (rfl))) rfl rfl e0 ?_
  refine tt_istore (L2 := Lw i kk w) (tt_lt rfl) rfl ?_
  refine tt_aload rfl ?_
  refine tl_cav (t := []) (ρ2 := rg 204 18) (av := []) ⟨Nat.le_of_ble_eq_true rfl, Nat.le_of_ble_eq_true rfl⟩ (bkM rfl) rfl rfl (tl_thrown (kk := kk) ((congrFun (m18a (k := 0) (by decide)) 0).trans e1)) ?_
  rw [m18s]
  refine tt_mask (L2 := Lw i kk w) rfl ?_
  unfold fL_law_k2699
  exact tl_int (by unfold fL_law_k2723; exact tt_mask (L2 := Ls i) rfl tl_back) (fun z => by rw [QJ.out, QJ.out]; exact e2 z)
set_option maxRecDepth 100000 in
theorem hq_sustainable {N : Nat} {a : AB} {J : gM} {v1 v2 : Int32} (hN : 20000 ≤ N) (h : INc J a) (hm : INm (gS (rg 204 18) J) a) (hw : INw a) : HQ Int32.toInt64 a (fL_sustainable N [.ref 0, .int v1, .int v2, .ref 204] (gS RO J)) (fun M' => fX9_sustainable N [.ref 0, .int v1, .int v2] M') := by
  have hq := hq_of (exs := [eIO, eIA]) (hs := [(eIO, 1), (eIA, 2)]) (cv := Int32.toInt64) (oc := fX8_sustainable N [.ref 0, .int v1, .int v2] (gS (rg 0 204) (gS RO J))) (om := fun M' => fX9_sustainable N [.ref 0, .int v1, .int v2] M') (M := gS RO J) (by decide) (lk_2 (by decide)) hm (fun M' hM' => j_sustainable ⟨QJ.cls h, hM', hw⟩ hN)
  have e : fL_sustainable N [.ref 0, .int v1, .int v2, .ref 204] (gS RO J) = hTI (fX8_sustainable N [.ref 0, .int v1, .int v2] (gS (rg 0 204) (gS RO J))) (rg 0 204) (gS RO J) [(eIO, 1), (eIA, 2)] (fun x J => some (.inl (some (.int 0)), putL J (Int32.toInt64 x))) := by
    unfold fL_sustainable fL_sustainable_k0
    refine (tt_fn (L := [some (.ref 0), some (.int v1), some (.int v2), some (.ref 204), none]) rfl rfl).trans ?_
    refine tt_aload rfl ?_
    refine tt_const ?_
    refine tt_aload rfl ?_
    refine tt_iload rfl ?_
    refine tt_iload rfl ?_
    refine tt_tryI (t := [.int 0, .ref 204]) (ρ2 := rg 0 204) (av := [.int v1, .int v2]) ⟨Nat.le_of_ble_eq_true rfl, Nat.le_of_ble_eq_true rfl⟩ (bkC (gBk_i (gBk_i (rfl)))) rfl rfl (fun x J => ?_)
    refine tt_i2l ?_
    refine (tt_last (n := 1) rfl rfl).trans ?_
    refine (if_neg (by decide)).trans ?_
    rw [t_0]
    exact rfl
  rw [e]
  exact hq
set_option maxRecDepth 100000 in
theorem cs_42 {N SL : Nat} {SX : Nat → Int32} {K23 : gK} (hN : 20000 ≤ N) (hs : SL ≤ 3072) : CSt SL K23 (s_mask [true, true, true, true, true, false, false, false] <| fL_law_k2726 N SL SX K23) := by
  intro i J hi hQ
  obtain ⟨a, hc, hm, hw⟩ := hQ
  obtain ⟨kk, D, d0, d1⟩ := hq_sustainable (v1 := SX (i + 1)) (v2 := SX (i + 2)) hN hc hm hw
  obtain ⟨w, E, a', e0, e1, e2, c1, m1, w1⟩ := d1 _ (QJ.mid (D := D) hm)
  refine ⟨gMg (rg 204 18) (gMg RO J D) E, QJ.end c1 m1 w1, ?_⟩
  refine tt_mask (L2 := Ls i) rfl ?_
  unfold fL_law_k2726
  refine tt_aload rfl ?_
  refine tl_arg (j := 1) rfl rfl rfl (by omega) hs ?_
  refine tl_arg (j := 2) rfl rfl rfl (by omega) hs ?_
  refine tt_aload rfl ?_
  refine tl_ca (t := []) (ρ2 := RO) (av := [.ref 0, .int (SX (i + 1)), .int (SX (i + 2)), .ref 204]) ⟨Nat.le_of_ble_eq_true rfl, Nat.le_of_ble_eq_true rfl⟩ (bk0 (gBk_i (gBk_i (bkO rfl)))) rfl rfl d0 ?_
  refine tt_istore (L2 := Lk i kk) (tt_lt rfl) rfl ?_
  refine tt_aload rfl ?_
  refine tl_arg (j := 1) rfl rfl rfl (by omega) hs ?_
  refine tl_arg (j := 2) rfl rfl rfl (by omega) hs ?_
  refine tl_cav (t := []) (ρ2 := rg 204 18) (av := [.int (SX (i + 1)), .int (SX (i + 2))]) ⟨Nat.le_of_ble_eq_true rfl, Nat.le_of_ble_eq_true rfl⟩ (bkM (gBk_i (gBk_i (rfl)))) rfl rfl e0 ?_
  refine tt_istore (L2 := Lw i kk w) (tt_lt rfl) rfl ?_
  refine tt_aload rfl ?_
  refine tl_cav (t := []) (ρ2 := rg 204 18) (av := []) ⟨Nat.le_of_ble_eq_true rfl, Nat.le_of_ble_eq_true rfl⟩ (bkM rfl) rfl rfl (tl_thrown (kk := kk) ((congrFun (m18a (k := 0) (by decide)) 0).trans e1)) ?_
  rw [m18s]
  refine tt_mask (L2 := Lw i kk w) rfl ?_
  unfold fL_law_k2767
  exact tl_int (by unfold fL_law_k2791; exact tt_mask (L2 := Ls i) rfl tl_back) (fun z => by rw [QJ.out, QJ.out]; exact e2 z)
