/-! ===== the cases of the law, 1 ===== -/
set_option maxRecDepth 100000 in
theorem hq_append {N : Nat} {a : AB} {J : gM} {v1 v2 v3 v4 v5 : Int32} (hN : 20000 ≤ N) (h : INc J a) (hm : INm (gS (rg 204 18) J) a) (hw : INw a) : HQ Int32.toInt64 a (fL_append N [.ref 0, .int v1, .int v2, .int v3, .int v4, .int v5, .ref 204] (gS RO J)) (fun M' => fX9_append N [.ref 0, .int v1, .int v2, .int v3, .int v4, .int v5] M') := by
  have hq := hq_of (exs := [eIS]) (hs := [(eIS, 1)]) (cv := Int32.toInt64) (oc := fX8_append N [.ref 0, .int v1, .int v2, .int v3, .int v4, .int v5] (gS (rg 0 204) (gS RO J))) (om := fun M' => fX9_append N [.ref 0, .int v1, .int v2, .int v3, .int v4, .int v5] M') (M := gS RO J) (by decide) lk_1 hm (fun M' hM' => j_append ⟨QJ.cls h, hM', hw⟩ hN)
  have e : fL_append N [.ref 0, .int v1, .int v2, .int v3, .int v4, .int v5, .ref 204] (gS RO J) = hTI (fX8_append N [.ref 0, .int v1, .int v2, .int v3, .int v4, .int v5] (gS (rg 0 204) (gS RO J))) (rg 0 204) (gS RO J) [(eIS, 1)] (fun x J => some (.inl (some (.int 0)), putL J (Int32.toInt64 x))) := by
    unfold fL_append fL_append_k0
    refine (tt_fn (L := [some (.ref 0), some (.int v1), some (.int v2), some (.int v3), some (.int v4), some (.int v5), some (.ref 204), none]) rfl rfl).trans ?_
    refine tt_aload rfl ?_
    refine tt_const ?_
    refine tt_aload rfl ?_
    refine tt_iload rfl ?_
    refine tt_iload rfl ?_
    refine tt_iload rfl ?_
    refine tt_iload rfl ?_
    refine tt_iload rfl ?_
    refine tt_tryI (t := [.int 0, .ref 204]) (ρ2 := rg 0 204) (av := [.int v1, .int v2, .int v3, .int v4, .int v5]) ⟨Nat.le_of_ble_eq_true rfl, Nat.le_of_ble_eq_true rfl⟩ (bkC (gBk_i (gBk_i (gBk_i (gBk_i (gBk_i (rfl))))))) rfl rfl (fun x J => ?_)
    refine tt_i2l ?_
    refine (tt_last (n := 1) rfl rfl).trans ?_
    refine (if_neg (by decide)).trans ?_
    rw [t_0]
    exact rfl
  rw [e]
  exact hq
set_option maxRecDepth 100000 in
theorem cs_0 {N SL : Nat} {SX : Nat → Int32} {K23 : gK} (hN : 20000 ≤ N) (hs : SL ≤ 3072) : CSt SL K23 (s_mask [true, true, true, true, true, false, false, false] <| fL_law_k228 N SL SX K23) := by
  intro i J hi hQ
  obtain ⟨a, hc, hm, hw⟩ := hQ
  obtain ⟨kk, D, d0, d1⟩ := hq_append (v1 := SX (i + 1)) (v2 := SX (i + 2)) (v3 := SX (i + 3)) (v4 := SX (i + 4)) (v5 := SX (i + 5)) hN hc hm hw
  obtain ⟨w, E, a', e0, e1, e2, c1, m1, w1⟩ := d1 _ (QJ.mid (D := D) hm)
  refine ⟨gMg (rg 204 18) (gMg RO J D) E, QJ.end c1 m1 w1, ?_⟩
  refine tt_mask (L2 := Ls i) rfl ?_
  unfold fL_law_k228
  refine tt_aload rfl ?_
  refine tl_arg (j := 1) rfl rfl rfl (by omega) hs ?_
  refine tl_arg (j := 2) rfl rfl rfl (by omega) hs ?_
  refine tl_arg (j := 3) rfl rfl rfl (by omega) hs ?_
  refine tl_arg (j := 4) rfl rfl rfl (by omega) hs ?_
  refine tl_arg (j := 5) rfl rfl rfl (by omega) hs ?_
  refine tt_aload rfl ?_
  refine tl_ca (t := []) (ρ2 := RO) (av := [.ref 0, .int (SX (i + 1)), .int (SX (i + 2)), .int (SX (i + 3)), .int (SX (i + 4)), .int (SX (i + 5)), .ref 204]) ⟨Nat.le_of_ble_eq_true rfl, Nat.le_of_ble_eq_true rfl⟩ (bk0 (gBk_i (gBk_i (gBk_i (gBk_i (gBk_i (bkO rfl))))))) rfl rfl d0 ?_
  refine tt_istore (L2 := Lk i kk) (tt_lt rfl) rfl ?_
  refine tt_aload rfl ?_
  refine tl_arg (j := 1) rfl rfl rfl (by omega) hs ?_
  refine tl_arg (j := 2) rfl rfl rfl (by omega) hs ?_
  refine tl_arg (j := 3) rfl rfl rfl (by omega) hs ?_
  refine tl_arg (j := 4) rfl rfl rfl (by omega) hs ?_
  refine tl_arg (j := 5) rfl rfl rfl (by omega) hs ?_
  refine tl_cav (t := []) (ρ2 := rg 204 18) (av := [.int (SX (i + 1)), .int (SX (i + 2)), .int (SX (i + 3)), .int (SX (i + 4)), .int (SX (i + 5))]) ⟨Nat.le_of_ble_eq_true rfl, Nat.le_of_ble_eq_true rfl⟩ (bkM (gBk_i (gBk_i (gBk_i (gBk_i (gBk_i (rfl))))))) rfl rfl e0 ?_
  refine tt_istore (L2 := Lw i kk w) (tt_lt rfl) rfl ?_
  refine tt_aload rfl ?_
  refine tl_cav (t := []) (ρ2 := rg 204 18) (av := []) ⟨Nat.le_of_ble_eq_true rfl, Nat.le_of_ble_eq_true rfl⟩ (bkM rfl) rfl rfl (tl_thrown (kk := kk) ((congrFun (m18a (k := 0) (by decide)) 0).trans e1)) ?_
  rw [m18s]
  refine tt_mask (L2 := Lw i kk w) rfl ?_
  unfold fL_law_k305
  exact tl_int (by unfold fL_law_k329; exact tt_mask (L2 := Ls i) rfl tl_back) (fun z => by rw [QJ.out, QJ.out]; exact e2 z)
set_option maxRecDepth 100000 in
theorem hq_truncate {N : Nat} {a : AB} {J : gM} {v1 : Int32} (hN : 20000 ≤ N) (h : INc J a) (hm : INm (gS (rg 204 18) J) a) (hw : INw a) : HQ Int32.toInt64 a (fL_truncate N [.ref 0, .int v1, .ref 204] (gS RO J)) (fun M' => fX9_truncate N [.ref 0, .int v1] M') := by
  have hq := hq_of (exs := [eIA]) (hs := [(eIA, 1)]) (cv := Int32.toInt64) (oc := fX8_truncate N [.ref 0, .int v1] (gS (rg 0 204) (gS RO J))) (om := fun M' => fX9_truncate N [.ref 0, .int v1] M') (M := gS RO J) (by decide) lk_1 hm (fun M' hM' => j_truncate ⟨QJ.cls h, hM', hw⟩)
  have e : fL_truncate N [.ref 0, .int v1, .ref 204] (gS RO J) = hTI (fX8_truncate N [.ref 0, .int v1] (gS (rg 0 204) (gS RO J))) (rg 0 204) (gS RO J) [(eIA, 1)] (fun x J => some (.inl (some (.int 0)), putL J (Int32.toInt64 x))) := by
    unfold fL_truncate fL_truncate_k0
    refine (tt_fn (L := [some (.ref 0), some (.int v1), some (.ref 204), none]) rfl rfl).trans ?_
    refine tt_aload rfl ?_
    refine tt_const ?_
    refine tt_aload rfl ?_
    refine tt_iload rfl ?_
    refine tt_tryI (t := [.int 0, .ref 204]) (ρ2 := rg 0 204) (av := [.int v1]) ⟨Nat.le_of_ble_eq_true rfl, Nat.le_of_ble_eq_true rfl⟩ (bkC (gBk_i (rfl))) rfl rfl (fun x J => ?_)
    refine tt_i2l ?_
    refine (tt_last (n := 1) rfl rfl).trans ?_
    refine (if_neg (by decide)).trans ?_
    rw [t_0]
    exact rfl
  rw [e]
  exact hq
set_option maxRecDepth 100000 in
theorem cs_1 {N SL : Nat} {SX : Nat → Int32} {K23 : gK} (hN : 20000 ≤ N) (hs : SL ≤ 3072) : CSt SL K23 (s_mask [true, true, true, true, true, false, false, false] <| fL_law_k332 N SL SX K23) := by
  intro i J hi hQ
  obtain ⟨a, hc, hm, hw⟩ := hQ
  obtain ⟨kk, D, d0, d1⟩ := hq_truncate (v1 := SX (i + 1)) hN hc hm hw
  obtain ⟨w, E, a', e0, e1, e2, c1, m1, w1⟩ := d1 _ (QJ.mid (D := D) hm)
  refine ⟨gMg (rg 204 18) (gMg RO J D) E, QJ.end c1 m1 w1, ?_⟩
  refine tt_mask (L2 := Ls i) rfl ?_
  unfold fL_law_k332
  refine tt_aload rfl ?_
  refine tl_arg (j := 1) rfl rfl rfl (by omega) hs ?_
  refine tt_aload rfl ?_
  refine tl_ca (t := []) (ρ2 := RO) (av := [.ref 0, .int (SX (i + 1)), .ref 204]) ⟨Nat.le_of_ble_eq_true rfl, Nat.le_of_ble_eq_true rfl⟩ (bk0 (gBk_i (bkO rfl))) rfl rfl d0 ?_
  refine tt_istore (L2 := Lk i kk) (tt_lt rfl) rfl ?_
  refine tt_aload rfl ?_
  refine tl_arg (j := 1) rfl rfl rfl (by omega) hs ?_
  refine tl_cav (t := []) (ρ2 := rg 204 18) (av := [.int (SX (i + 1))]) ⟨Nat.le_of_ble_eq_true rfl, Nat.le_of_ble_eq_true rfl⟩ (bkM (gBk_i (rfl))) rfl rfl e0 ?_
  refine tt_istore (L2 := Lw i kk w) (tt_lt rfl) rfl ?_
  refine tt_aload rfl ?_
  refine tl_cav (t := []) (ρ2 := rg 204 18) (av := []) ⟨Nat.le_of_ble_eq_true rfl, Nat.le_of_ble_eq_true rfl⟩ (bkM rfl) rfl rfl (tl_thrown (kk := kk) ((congrFun (m18a (k := 0) (by decide)) 0).trans e1)) ?_
  rw [m18s]
  refine tt_mask (L2 := Lw i kk w) rfl ?_
  unfold fL_law_k361
  exact tl_int (by unfold fL_law_k385; exact tt_mask (L2 := Ls i) rfl tl_back) (fun z => by rw [QJ.out, QJ.out]; exact e2 z)
set_option maxRecDepth 100000 in
theorem cs_2 {N SL : Nat} {SX : Nat → Int32} {K23 : gK} (hN : 20000 ≤ N) (hs : SL ≤ 3072) : CSt SL K23 (s_mask [true, true, true, true, true, false, false, false] <| fL_law_k388 N SL SX K23) := by
  intro i J hi hQ
  obtain ⟨a, hc, hm, hw⟩ := hQ
  obtain ⟨v, D, d0, d1⟩ := nq_of (oc := fX8_errorPosition N [.ref 0] (gS (rg 0 204) J)) (om := fun M' => fX9_errorPosition N [.ref 0] M') hm (fun M' hM' => j_errorPosition ⟨QJ.cls0 hc, hM', hw⟩ hN)
  obtain ⟨E, a', e0, c1, m1, w1⟩ := d1 _ (QJ.mid0 (D := D) hm)
  refine ⟨gMg (rg 204 18) (gMg (rg 0 204) J D) E, QJ.end0 c1 m1 w1, ?_⟩
  refine tt_mask (L2 := Ls i) rfl ?_
  unfold fL_law_k388
  refine tt_aload rfl ?_
  refine tl_cav (t := []) (ρ2 := rg 0 204) (av := []) ⟨Nat.le_of_ble_eq_true rfl, Nat.le_of_ble_eq_true rfl⟩ (bkC rfl) rfl rfl d0 ?_
  refine tt_aload rfl ?_
  refine tl_cav (t := [.int v]) (ρ2 := rg 204 18) (av := []) ⟨Nat.le_of_ble_eq_true rfl, Nat.le_of_ble_eq_true rfl⟩ (bkM rfl) rfl rfl e0 ?_
  refine (tt_cmp rfl rfl).trans ?_
  rw [if_pos (c := gc_eq v v = true) (decide_eq_true rfl)]
  exact tt_mask (L2 := Ls i) rfl tl_back
set_option maxRecDepth 100000 in
theorem hq_load {N : Nat} {a : AB} {J : gM} (hN : 20000 ≤ N) (h : INc J a) (hm : INm (gS (rg 204 18) J) a) (hw : INw a) : HQ Int32.toInt64 a (fL_load N [.ref 0, .ref 204] (gS RO J)) (fun M' => fX9_load N [.ref 0] M') := by
  have hq := hq_of (exs := [eIA]) (hs := [(eIA, 1)]) (cv := Int32.toInt64) (oc := fX8_load N [.ref 0] (gS (rg 0 204) (gS RO J))) (om := fun M' => fX9_load N [.ref 0] M') (M := gS RO J) (by decide) lk_1 hm (fun M' hM' => j_load ⟨QJ.cls h, hM', hw⟩ hN)
  have e : fL_load N [.ref 0, .ref 204] (gS RO J) = hTI (fX8_load N [.ref 0] (gS (rg 0 204) (gS RO J))) (rg 0 204) (gS RO J) [(eIA, 1)] (fun x J => some (.inl (some (.int 0)), putL J (Int32.toInt64 x))) := by
    unfold fL_load fL_load_k0
    refine (tt_fn (L := [some (.ref 0), some (.ref 204), none]) rfl rfl).trans ?_
    refine tt_aload rfl ?_
    refine tt_const ?_
    refine tt_aload rfl ?_
    refine tt_tryI (t := [.int 0, .ref 204]) (ρ2 := rg 0 204) (av := []) ⟨Nat.le_of_ble_eq_true rfl, Nat.le_of_ble_eq_true rfl⟩ (bkC (rfl)) rfl rfl (fun x J => ?_)
    refine tt_i2l ?_
    refine (tt_last (n := 1) rfl rfl).trans ?_
    refine (if_neg (by decide)).trans ?_
    rw [t_0]
    exact rfl
  rw [e]
  exact hq
set_option maxRecDepth 100000 in
theorem cs_3 {N SL : Nat} {SX : Nat → Int32} {K23 : gK} (hN : 20000 ≤ N) (hs : SL ≤ 3072) : CSt SL K23 (s_mask [true, true, true, true, true, false, false, false] <| fL_law_k401 N SL SX K23) := by
  intro i J hi hQ
  obtain ⟨a, hc, hm, hw⟩ := hQ
  obtain ⟨kk, D, d0, d1⟩ := hq_load  hN hc hm hw
  obtain ⟨w, E, a', e0, e1, e2, c1, m1, w1⟩ := d1 _ (QJ.mid (D := D) hm)
  refine ⟨gMg (rg 204 18) (gMg RO J D) E, QJ.end c1 m1 w1, ?_⟩
  refine tt_mask (L2 := Ls i) rfl ?_
  unfold fL_law_k401
  refine tt_aload rfl ?_
  refine tt_aload rfl ?_
  refine tl_ca (t := []) (ρ2 := RO) (av := [.ref 0, .ref 204]) ⟨Nat.le_of_ble_eq_true rfl, Nat.le_of_ble_eq_true rfl⟩ (bk0 (bkO rfl)) rfl rfl d0 ?_
  refine tt_istore (L2 := Lk i kk) (tt_lt rfl) rfl ?_
  refine tt_aload rfl ?_
  refine tl_cav (t := []) (ρ2 := rg 204 18) (av := []) ⟨Nat.le_of_ble_eq_true rfl, Nat.le_of_ble_eq_true rfl⟩ (bkM (rfl)) rfl rfl e0 ?_
  refine tt_istore (L2 := Lw i kk w) (tt_lt rfl) rfl ?_
  refine tt_aload rfl ?_
  refine tl_cav (t := []) (ρ2 := rg 204 18) (av := []) ⟨Nat.le_of_ble_eq_true rfl, Nat.le_of_ble_eq_true rfl⟩ (bkM rfl) rfl rfl (tl_thrown (kk := kk) ((congrFun (m18a (k := 0) (by decide)) 0).trans e1)) ?_
  rw [m18s]
  refine tt_mask (L2 := Lw i kk w) rfl ?_
  unfold fL_law_k418
  exact tl_int (by unfold fL_law_k442; exact tt_mask (L2 := Ls i) rfl tl_back) (fun z => by rw [QJ.out, QJ.out]; exact e2 z)
set_option maxRecDepth 100000 in
theorem hq_addLink {N : Nat} {a : AB} {J : gM} {v1 v2 v3 : Int32} (hN : 20000 ≤ N) (h : INc J a) (hm : INm (gS (rg 204 18) J) a) (hw : INw a) : HQ Int32.toInt64 a (fL_addLink N [.ref 0, .int v1, .int v2, .int v3, .ref 204] (gS RO J)) (fun M' => fX9_addLink N [.ref 0, .int v1, .int v2, .int v3] M') := by
  have hq := hq_of (exs := [eIO, eIA, eIS]) (hs := [(eIO, 1), (eIA, 2), (eIS, 3)]) (cv := Int32.toInt64) (oc := fX8_addLink N [.ref 0, .int v1, .int v2, .int v3] (gS (rg 0 204) (gS RO J))) (om := fun M' => fX9_addLink N [.ref 0, .int v1, .int v2, .int v3] M') (M := gS RO J) (by decide) (lk_3 (by decide) (by decide) (by decide)) hm (fun M' hM' => j_addLink ⟨QJ.cls h, hM', hw⟩ hN)
  have e : fL_addLink N [.ref 0, .int v1, .int v2, .int v3, .ref 204] (gS RO J) = hTI (fX8_addLink N [.ref 0, .int v1, .int v2, .int v3] (gS (rg 0 204) (gS RO J))) (rg 0 204) (gS RO J) [(eIO, 1), (eIA, 2), (eIS, 3)] (fun x J => some (.inl (some (.int 0)), putL J (Int32.toInt64 x))) := by
    unfold fL_addLink fL_addLink_k0
    refine (tt_fn (L := [some (.ref 0), some (.int v1), some (.int v2), some (.int v3), some (.ref 204), none]) rfl rfl).trans ?_
    refine tt_aload rfl ?_
    refine tt_const ?_
    refine tt_aload rfl ?_
    refine tt_iload rfl ?_
    refine tt_iload rfl ?_
    refine tt_iload rfl ?_
    refine tt_tryI (t := [.int 0, .ref 204]) (ρ2 := rg 0 204) (av := [.int v1, .int v2, .int v3]) ⟨Nat.le_of_ble_eq_true rfl, Nat.le_of_ble_eq_true rfl⟩ (bkC (gBk_i (gBk_i (gBk_i (rfl))))) rfl rfl (fun x J => ?_)
    refine tt_i2l ?_
    refine (tt_last (n := 1) rfl rfl).trans ?_
    refine (if_neg (by decide)).trans ?_
    rw [t_0]
    exact rfl
  rw [e]
  exact hq
set_option maxRecDepth 100000 in
theorem cs_4 {N SL : Nat} {SX : Nat → Int32} {K23 : gK} (hN : 20000 ≤ N) (hs : SL ≤ 3072) : CSt SL K23 (s_mask [true, true, true, true, true, false, false, false] <| fL_law_k445 N SL SX K23) := by
  intro i J hi hQ
  obtain ⟨a, hc, hm, hw⟩ := hQ
  obtain ⟨kk, D, d0, d1⟩ := hq_addLink (v1 := SX (i + 1)) (v2 := SX (i + 2)) (v3 := SX (i + 3)) hN hc hm hw
  obtain ⟨w, E, a', e0, e1, e2, c1, m1, w1⟩ := d1 _ (QJ.mid (D := D) hm)
  refine ⟨gMg (rg 204 18) (gMg RO J D) E, QJ.end c1 m1 w1, ?_⟩
  refine tt_mask (L2 := Ls i) rfl ?_
  unfold fL_law_k445
  refine tt_aload rfl ?_
  refine tl_arg (j := 1) rfl rfl rfl (by omega) hs ?_
  refine tl_arg (j := 2) rfl rfl rfl (by omega) hs ?_
  refine tl_arg (j := 3) rfl rfl rfl (by omega) hs ?_
  refine tt_aload rfl ?_
  refine tl_ca (t := []) (ρ2 := RO) (av := [.ref 0, .int (SX (i + 1)), .int (SX (i + 2)), .int (SX (i + 3)), .ref 204]) ⟨Nat.le_of_ble_eq_true rfl, Nat.le_of_ble_eq_true rfl⟩ (bk0 (gBk_i (gBk_i (gBk_i (bkO rfl))))) rfl rfl d0 ?_
  refine tt_istore (L2 := Lk i kk) (tt_lt rfl) rfl ?_
  refine tt_aload rfl ?_
  refine tl_arg (j := 1) rfl rfl rfl (by omega) hs ?_
  refine tl_arg (j := 2) rfl rfl rfl (by omega) hs ?_
  refine tl_arg (j := 3) rfl rfl rfl (by omega) hs ?_
  refine tl_cav (t := []) (ρ2 := rg 204 18) (av := [.int (SX (i + 1)), .int (SX (i + 2)), .int (SX (i + 3))]) ⟨Nat.le_of_ble_eq_true rfl, Nat.le_of_ble_eq_true rfl⟩ (bkM (gBk_i (gBk_i (gBk_i (rfl))))) rfl rfl e0 ?_
  refine tt_istore (L2 := Lw i kk w) (tt_lt rfl) rfl ?_
  refine tt_aload rfl ?_
  refine tl_cav (t := []) (ρ2 := rg 204 18) (av := []) ⟨Nat.le_of_ble_eq_true rfl, Nat.le_of_ble_eq_true rfl⟩ (bkM rfl) rfl rfl (tl_thrown (kk := kk) ((congrFun (m18a (k := 0) (by decide)) 0).trans e1)) ?_
  rw [m18s]
  refine tt_mask (L2 := Lw i kk w) rfl ?_
  unfold fL_law_k498
  exact tl_int (by unfold fL_law_k522; exact tt_mask (L2 := Ls i) rfl tl_back) (fun z => by rw [QJ.out, QJ.out]; exact e2 z)
set_option maxRecDepth 100000 in
theorem hq_setCapacity {N : Nat} {a : AB} {J : gM} {v1 v2 : Int32} (hN : 20000 ≤ N) (h : INc J a) (hm : INm (gS (rg 204 18) J) a) (hw : INw a) : HQ Int32.toInt64 a (fL_setCapacity N [.ref 0, .int v1, .int v2, .ref 204] (gS RO J)) (fun M' => fX9_setCapacity N [.ref 0, .int v1, .int v2] M') := by
  have hq := hq_of (exs := [eIO, eIA]) (hs := [(eIO, 1), (eIA, 2)]) (cv := Int32.toInt64) (oc := fX8_setCapacity N [.ref 0, .int v1, .int v2] (gS (rg 0 204) (gS RO J))) (om := fun M' => fX9_setCapacity N [.ref 0, .int v1, .int v2] M') (M := gS RO J) (by decide) (lk_2 (by decide)) hm (fun M' hM' => j_setCapacity ⟨QJ.cls h, hM', hw⟩ hN)
  have e : fL_setCapacity N [.ref 0, .int v1, .int v2, .ref 204] (gS RO J) = hTI (fX8_setCapacity N [.ref 0, .int v1, .int v2] (gS (rg 0 204) (gS RO J))) (rg 0 204) (gS RO J) [(eIO, 1), (eIA, 2)] (fun x J => some (.inl (some (.int 0)), putL J (Int32.toInt64 x))) := by
    unfold fL_setCapacity fL_setCapacity_k0
    refine (tt_fn (L := [some (.ref 0), some (.int v1), some (.int v2), some (.ref 204), none]) rfl rfl).trans ?_
    refine tt_aload rfl ?_
    refine tt_const ?_
    refine tt_aload rfl ?_
    refine tt_iload rfl ?_
    refine tt_iload rfl ?_
    refine tt_tryI (t := [.int 0, .ref 204]) (ρ2 := rg 0 204) (av := [.int v1, .int v2]) ⟨Nat.le_of_ble_eq_true rfl, Nat.le_of_ble_eq_true rfl⟩ (bkC (gBk_i (gBk_i (rfl)))) rfl rfl (fun x J => ?_)
    refine tt_i2l ?_
    refine (tt_last (n := 1) rfl rfl).trans ?_
    refine (if_neg (by decide)).trans ?_
    rw [t_0]
    exact rfl
  rw [e]
  exact hq
set_option maxRecDepth 100000 in
theorem cs_5 {N SL : Nat} {SX : Nat → Int32} {K23 : gK} (hN : 20000 ≤ N) (hs : SL ≤ 3072) : CSt SL K23 (s_mask [true, true, true, true, true, false, false, false] <| fL_law_k525 N SL SX K23) := by
  intro i J hi hQ
  obtain ⟨a, hc, hm, hw⟩ := hQ
  obtain ⟨kk, D, d0, d1⟩ := hq_setCapacity (v1 := SX (i + 1)) (v2 := SX (i + 2)) hN hc hm hw
  obtain ⟨w, E, a', e0, e1, e2, c1, m1, w1⟩ := d1 _ (QJ.mid (D := D) hm)
  refine ⟨gMg (rg 204 18) (gMg RO J D) E, QJ.end c1 m1 w1, ?_⟩
  refine tt_mask (L2 := Ls i) rfl ?_
  unfold fL_law_k525
  refine tt_aload rfl ?_
  refine tl_arg (j := 1) rfl rfl rfl (by omega) hs ?_
  refine tl_arg (j := 2) rfl rfl rfl (by omega) hs ?_
  refine tt_aload rfl ?_
  refine tl_ca (t := []) (ρ2 := RO) (av := [.ref 0, .int (SX (i + 1)), .int (SX (i + 2)), .ref 204]) ⟨Nat.le_of_ble_eq_true rfl, Nat.le_of_ble_eq_true rfl⟩ (bk0 (gBk_i (gBk_i (bkO rfl)))) rfl rfl d0 ?_
  refine tt_istore (L2 := Lk i kk) (tt_lt rfl) rfl ?_
  refine tt_aload rfl ?_
  refine tl_arg (j := 1) rfl rfl rfl (by omega) hs ?_
  refine tl_arg (j := 2) rfl rfl rfl (by omega) hs ?_
  refine tl_cav (t := []) (ρ2 := rg 204 18) (av := [.int (SX (i + 1)), .int (SX (i + 2))]) ⟨Nat.le_of_ble_eq_true rfl, Nat.le_of_ble_eq_true rfl⟩ (bkM (gBk_i (gBk_i (rfl)))) rfl rfl e0 ?_
  refine tt_istore (L2 := Lw i kk w) (tt_lt rfl) rfl ?_
  refine tt_aload rfl ?_
  refine tl_cav (t := []) (ρ2 := rg 204 18) (av := []) ⟨Nat.le_of_ble_eq_true rfl, Nat.le_of_ble_eq_true rfl⟩ (bkM rfl) rfl rfl (tl_thrown (kk := kk) ((congrFun (m18a (k := 0) (by decide)) 0).trans e1)) ?_
  rw [m18s]
  refine tt_mask (L2 := Lw i kk w) rfl ?_
  unfold fL_law_k566
  exact tl_int (by unfold fL_law_k590; exact tt_mask (L2 := Ls i) rfl tl_back) (fun z => by rw [QJ.out, QJ.out]; exact e2 z)
set_option maxRecDepth 100000 in
theorem hq_setConflict {N : Nat} {a : AB} {J : gM} {v1 v2 : Int32} {c : Bool} (hN : 20000 ≤ N) (h : INc J a) (hm : INm (gS (rg 204 18) J) a) (hw : INw a) : HQ bl a (fL_setConflict N [.ref 0, .int v1, .int v2, .int (b2 c), .ref 204] (gS RO J)) (fun M' => fX9_setConflict N [.ref 0, .int v1, .int v2, .int (b2 c)] M') := by
  have hq := hq_of (exs := [eIO, eIA]) (hs := [(eIO, 1), (eIA, 2)]) (cv := bl) (oc := fX8_setConflict N [.ref 0, .int v1, .int v2, .int (b2 c)] (gS (rg 0 204) (gS RO J))) (om := fun M' => fX9_setConflict N [.ref 0, .int v1, .int v2, .int (b2 c)] M') (M := gS RO J) (by decide) (lk_2 (by decide)) hm (fun M' hM' => j_setConflict ⟨QJ.cls h, hM', hw⟩ hN)
  have e : fL_setConflict N [.ref 0, .int v1, .int v2, .int (b2 c), .ref 204] (gS RO J) = hTI (fX8_setConflict N [.ref 0, .int v1, .int v2, .int (b2 c)] (gS (rg 0 204) (gS RO J))) (rg 0 204) (gS RO J) [(eIO, 1), (eIA, 2)] (fun x J => some (.inl (some (.int 0)), putL J (bl x))) := by
    unfold fL_setConflict fL_setConflict_k0
    refine (tt_fn (L := [some (.ref 0), some (.int v1), some (.int v2), some (.int (b2 c)), some (.ref 204), none]) rfl rfl).trans ?_
    refine tt_aload rfl ?_
    refine tt_const ?_
    refine tt_aload rfl ?_
    refine tt_iload rfl ?_
    refine tt_iload rfl ?_
    refine tt_iload rfl ?_
    refine tt_tryI (t := [.int 0, .ref 204]) (ρ2 := rg 0 204) (av := [.int v1, .int v2, .int (b2 c)]) ⟨Nat.le_of_ble_eq_true rfl, Nat.le_of_ble_eq_true rfl⟩ (bkC (gBk_i (gBk_i (gBk_i (rfl))))) rfl rfl (fun x J => ?_)
    refine tl_ifl ?_
    refine tt_mask (L2 := [none, none, none, none, none, none]) rfl ?_
    unfold fL_setConflict_k18
    refine (tt_last (n := 1) rfl rfl).trans ?_
    refine (if_neg (by decide)).trans ?_
    rw [t_0]
    exact rfl
  rw [e]
  exact hq
set_option maxRecDepth 100000 in
theorem cs_6 {N SL : Nat} {SX : Nat → Int32} {K23 : gK} (hN : 20000 ≤ N) (hs : SL ≤ 3072) : CSt SL K23 (s_mask [true, true, true, true, true, false, false, false] <| fL_law_k593 N SL SX K23) := by
  intro i J hi hQ
  obtain ⟨a, hc, hm, hw⟩ := hQ
  obtain ⟨kk, D, d0, d1⟩ := hq_setConflict (v1 := SX (i + 1)) (v2 := SX (i + 2)) (c := (decide (SX (i + 3) ≠ 0))) hN hc hm hw
  obtain ⟨w, E, a', e0, e1, e2, c1, m1, w1⟩ := d1 _ (QJ.mid (D := D) hm)
  refine ⟨gMg (rg 204 18) (gMg RO J D) E, QJ.end c1 m1 w1, ?_⟩
  refine tt_mask (L2 := Ls i) rfl ?_
  unfold fL_law_k593
  refine tt_aload rfl ?_
  refine tl_arg (j := 1) rfl rfl rfl (by omega) hs ?_
  refine tl_arg (j := 2) rfl rfl rfl (by omega) hs ?_
  refine tl_arg (j := 3) rfl rfl rfl (by omega) hs ?_
  refine tl_if01 ?_
  refine tt_mask (L2 := Ls i) rfl ?_
  unfold fL_law_k620
  refine tt_aload rfl ?_
  refine tl_ca (t := []) (ρ2 := RO) (av := [.ref 0, .int (SX (i + 1)), .int (SX (i + 2)), .int (b2 (decide (SX (i + 3) ≠ 0))), .ref 204]) ⟨Nat.le_of_ble_eq_true rfl, Nat.le_of_ble_eq_true rfl⟩ (bk0 (gBk_i (gBk_i (gBk_i (bkO rfl))))) rfl rfl d0 ?_
  refine tt_istore (L2 := Lk i kk) (tt_lt rfl) rfl ?_
  refine tt_aload rfl ?_
  refine tl_arg (j := 1) rfl rfl rfl (by omega) hs ?_
  refine tl_arg (j := 2) rfl rfl rfl (by omega) hs ?_
  refine tl_arg (j := 3) rfl rfl rfl (by omega) hs ?_
  refine tl_if01 ?_
  refine tt_mask (L2 := Lk i kk) rfl ?_
  unfold fL_law_k653
  refine tl_cav (t := []) (ρ2 := rg 204 18) (av := [.int (SX (i + 1)), .int (SX (i + 2)), .int (b2 (decide (SX (i + 3) ≠ 0)))]) ⟨Nat.le_of_ble_eq_true rfl, Nat.le_of_ble_eq_true rfl⟩ (bkM (gBk_i (gBk_i (gBk_i (rfl))))) rfl rfl e0 ?_
  refine tt_istore (L2 := Lw i kk w) (tt_lt rfl) rfl ?_
  refine tt_aload rfl ?_
  refine tl_cav (t := []) (ρ2 := rg 204 18) (av := []) ⟨Nat.le_of_ble_eq_true rfl, Nat.le_of_ble_eq_true rfl⟩ (bkM rfl) rfl rfl (tl_thrown (kk := kk) ((congrFun (m18a (k := 0) (by decide)) 0).trans e1)) ?_
  rw [m18s]
  exact tl_bool (kF := fL_law_k687 N SL SX K23) (kE := fL_law_k693 N SL SX K23) rfl (by unfold fL_law_k693; exact tt_mask (L2 := Ls i) rfl tl_back) (fun z => by rw [QJ.out, QJ.out]; exact e2 z)
set_option maxRecDepth 100000 in
theorem hq_addFlow {N : Nat} {a : AB} {J : gM} {v1 v2 v3 v4 : Int32} (hN : 20000 ≤ N) (h : INc J a) (hm : INm (gS (rg 204 18) J) a) (hw : INw a) : HQ Int32.toInt64 a (fL_addFlow N [.ref 0, .int v1, .int v2, .int v3, .int v4, .ref 204] (gS RO J)) (fun M' => fX9_addFlow N [.ref 0, .int v1, .int v2, .int v3, .int v4] M') := by
  have hq := hq_of (exs := [eIO, eIA, eIS]) (hs := [(eIO, 1), (eIA, 2), (eIS, 3)]) (cv := Int32.toInt64) (oc := fX8_addFlow N [.ref 0, .int v1, .int v2, .int v3, .int v4] (gS (rg 0 204) (gS RO J))) (om := fun M' => fX9_addFlow N [.ref 0, .int v1, .int v2, .int v3, .int v4] M') (M := gS RO J) (by decide) (lk_3 (by decide) (by decide) (by decide)) hm (fun M' hM' => j_addFlow ⟨QJ.cls h, hM', hw⟩ hN)
  have e : fL_addFlow N [.ref 0, .int v1, .int v2, .int v3, .int v4, .ref 204] (gS RO J) = hTI (fX8_addFlow N [.ref 0, .int v1, .int v2, .int v3, .int v4] (gS (rg 0 204) (gS RO J))) (rg 0 204) (gS RO J) [(eIO, 1), (eIA, 2), (eIS, 3)] (fun x J => some (.inl (some (.int 0)), putL J (Int32.toInt64 x))) := by
    unfold fL_addFlow fL_addFlow_k0
    refine (tt_fn (L := [some (.ref 0), some (.int v1), some (.int v2), some (.int v3), some (.int v4), some (.ref 204), none]) rfl rfl).trans ?_
    refine tt_aload rfl ?_
    refine tt_const ?_
    refine tt_aload rfl ?_
    refine tt_iload rfl ?_
    refine tt_iload rfl ?_
    refine tt_iload rfl ?_
    refine tt_iload rfl ?_
    refine tt_tryI (t := [.int 0, .ref 204]) (ρ2 := rg 0 204) (av := [.int v1, .int v2, .int v3, .int v4]) ⟨Nat.le_of_ble_eq_true rfl, Nat.le_of_ble_eq_true rfl⟩ (bkC (gBk_i (gBk_i (gBk_i (gBk_i (rfl)))))) rfl rfl (fun x J => ?_)
    refine tt_i2l ?_
    refine (tt_last (n := 1) rfl rfl).trans ?_
    refine (if_neg (by decide)).trans ?_
    rw [t_0]
    exact rfl
  rw [e]
  exact hq
set_option maxRecDepth 100000 in
theorem cs_7 {N SL : Nat} {SX : Nat → Int32} {K23 : gK} (hN : 20000 ≤ N) (hs : SL ≤ 3072) : CSt SL K23 (s_mask [true, true, true, true, true, false, false, false] <| fL_law_k696 N SL SX K23) := by
  intro i J hi hQ
  obtain ⟨a, hc, hm, hw⟩ := hQ
  obtain ⟨kk, D, d0, d1⟩ := hq_addFlow (v1 := SX (i + 1)) (v2 := SX (i + 2)) (v3 := SX (i + 3)) (v4 := SX (i + 4)) hN hc hm hw
  obtain ⟨w, E, a', e0, e1, e2, c1, m1, w1⟩ := d1 _ (QJ.mid (D := D) hm)
  refine ⟨gMg (rg 204 18) (gMg RO J D) E, QJ.end c1 m1 w1, ?_⟩
  refine tt_mask (L2 := Ls i) rfl ?_
  unfold fL_law_k696
  refine tt_aload rfl ?_
  refine tl_arg (j := 1) rfl rfl rfl (by omega) hs ?_
  refine tl_arg (j := 2) rfl rfl rfl (by omega) hs ?_
  refine tl_arg (j := 3) rfl rfl rfl (by omega) hs ?_
  refine tl_arg (j := 4) rfl rfl rfl (by omega) hs ?_
  refine tt_aload rfl ?_
  refine tl_ca (t := []) (ρ2 := RO) (av := [.ref 0, .int (SX (i + 1)), .int (SX (i + 2)), .int (SX (i + 3)), .int (SX (i + 4)), .ref 204]) ⟨Nat.le_of_ble_eq_true rfl, Nat.le_of_ble_eq_true rfl⟩ (bk0 (gBk_i (gBk_i (gBk_i (gBk_i (bkO rfl)))))) rfl rfl d0 ?_
  refine tt_istore (L2 := Lk i kk) (tt_lt rfl) rfl ?_
  refine tt_aload rfl ?_
  refine tl_arg (j := 1) rfl rfl rfl (by omega) hs ?_
  refine tl_arg (j := 2) rfl rfl rfl (by omega) hs ?_
  refine tl_arg (j := 3) rfl rfl rfl (by omega) hs ?_
  refine tl_arg (j := 4) rfl rfl rfl (by omega) hs ?_
  refine tl_cav (t := []) (ρ2 := rg 204 18) (av := [.int (SX (i + 1)), .int (SX (i + 2)), .int (SX (i + 3)), .int (SX (i + 4))]) ⟨Nat.le_of_ble_eq_true rfl, Nat.le_of_ble_eq_true rfl⟩ (bkM (gBk_i (gBk_i (gBk_i (gBk_i (rfl)))))) rfl rfl e0 ?_
  refine tt_istore (L2 := Lw i kk w) (tt_lt rfl) rfl ?_
  refine tt_aload rfl ?_
  refine tl_cav (t := []) (ρ2 := rg 204 18) (av := []) ⟨Nat.le_of_ble_eq_true rfl, Nat.le_of_ble_eq_true rfl⟩ (bkM rfl) rfl rfl (tl_thrown (kk := kk) ((congrFun (m18a (k := 0) (by decide)) 0).trans e1)) ?_
  rw [m18s]
  refine tt_mask (L2 := Lw i kk w) rfl ?_
  unfold fL_law_k761
  exact tl_int (by unfold fL_law_k785; exact tt_mask (L2 := Ls i) rfl tl_back) (fun z => by rw [QJ.out, QJ.out]; exact e2 z)
set_option maxRecDepth 100000 in
theorem hq_setRate {N : Nat} {a : AB} {J : gM} {v1 v2 : Int32} (hN : 20000 ≤ N) (h : INc J a) (hm : INm (gS (rg 204 18) J) a) (hw : INw a) : HQ Int32.toInt64 a (fL_setRate N [.ref 0, .int v1, .int v2, .ref 204] (gS RO J)) (fun M' => fX9_setRate N [.ref 0, .int v1, .int v2] M') := by
  have hq := hq_of (exs := [eIO, eIA]) (hs := [(eIO, 1), (eIA, 2)]) (cv := Int32.toInt64) (oc := fX8_setRate N [.ref 0, .int v1, .int v2] (gS (rg 0 204) (gS RO J))) (om := fun M' => fX9_setRate N [.ref 0, .int v1, .int v2] M') (M := gS RO J) (by decide) (lk_2 (by decide)) hm (fun M' hM' => j_setRate ⟨QJ.cls h, hM', hw⟩ hN)
  have e : fL_setRate N [.ref 0, .int v1, .int v2, .ref 204] (gS RO J) = hTI (fX8_setRate N [.ref 0, .int v1, .int v2] (gS (rg 0 204) (gS RO J))) (rg 0 204) (gS RO J) [(eIO, 1), (eIA, 2)] (fun x J => some (.inl (some (.int 0)), putL J (Int32.toInt64 x))) := by
    unfold fL_setRate fL_setRate_k0
    refine (tt_fn (L := [some (.ref 0), some (.int v1), some (.int v2), some (.ref 204), none]) rfl rfl).trans ?_
    refine tt_aload rfl ?_
    refine tt_const ?_
    refine tt_aload rfl ?_
    refine tt_iload rfl ?_
    refine tt_iload rfl ?_
    refine tt_tryI (t := [.int 0, .ref 204]) (ρ2 := rg 0 204) (av := [.int v1, .int v2]) ⟨Nat.le_of_ble_eq_true rfl, Nat.le_of_ble_eq_true rfl⟩ (bkC (gBk_i (gBk_i (rfl)))) rfl rfl (fun x J => ?_)
    refine tt_i2l ?_
    refine (tt_last (n := 1) rfl rfl).trans ?_
    refine (if_neg (by decide)).trans ?_
    rw [t_0]
    exact rfl
  rw [e]
  exact hq
set_option maxRecDepth 100000 in
theorem cs_8 {N SL : Nat} {SX : Nat → Int32} {K23 : gK} (hN : 20000 ≤ N) (hs : SL ≤ 3072) : CSt SL K23 (s_mask [true, true, true, true, true, false, false, false] <| fL_law_k788 N SL SX K23) := by
  intro i J hi hQ
  obtain ⟨a, hc, hm, hw⟩ := hQ
  obtain ⟨kk, D, d0, d1⟩ := hq_setRate (v1 := SX (i + 1)) (v2 := SX (i + 2)) hN hc hm hw
  obtain ⟨w, E, a', e0, e1, e2, c1, m1, w1⟩ := d1 _ (QJ.mid (D := D) hm)
  refine ⟨gMg (rg 204 18) (gMg RO J D) E, QJ.end c1 m1 w1, ?_⟩
  refine tt_mask (L2 := Ls i) rfl ?_
  unfold fL_law_k788
  refine tt_aload rfl ?_
  refine tl_arg (j := 1) rfl rfl rfl (by omega) hs ?_
  refine tl_arg (j := 2) rfl rfl rfl (by omega) hs ?_
  refine tt_aload rfl ?_
  refine tl_ca (t := []) (ρ2 := RO) (av := [.ref 0, .int (SX (i + 1)), .int (SX (i + 2)), .ref 204]) ⟨Nat.le_of_ble_eq_true rfl, Nat.le_of_ble_eq_true rfl⟩ (bk0 (gBk_i (gBk_i (bkO rfl)))) rfl rfl d0 ?_
  refine tt_istore (L2 := Lk i kk) (tt_lt rfl) rfl ?_
  refine tt_aload rfl ?_
  refine tl_arg (j := 1) rfl rfl rfl (by omega) hs ?_
  refine tl_arg (j := 2) rfl rfl rfl (by omega) hs ?_
  refine tl_cav (t := []) (ρ2 := rg 204 18) (av := [.int (SX (i + 1)), .int (SX (i + 2))]) ⟨Nat.le_of_ble_eq_true rfl, Nat.le_of_ble_eq_true rfl⟩ (bkM (gBk_i (gBk_i (rfl)))) rfl rfl e0 ?_
  refine tt_istore (L2 := Lw i kk w) (tt_lt rfl) rfl ?_
  refine tt_aload rfl ?_
  refine tl_cav (t := []) (ρ2 := rg 204 18) (av := []) ⟨Nat.le_of_ble_eq_true rfl, Nat.le_of_ble_eq_true rfl⟩ (bkM rfl) rfl rfl (tl_thrown (kk := kk) ((congrFun (m18a (k := 0) (by decide)) 0).trans e1)) ?_
  rw [m18s]
  refine tt_mask (L2 := Lw i kk w) rfl ?_
  unfold fL_law_k829
  exact tl_int (by unfold fL_law_k853; exact tt_mask (L2 := Ls i) rfl tl_back) (fun z => by rw [QJ.out, QJ.out]; exact e2 z)
set_option maxRecDepth 100000 in
theorem hq_setBudget {N : Nat} {a : AB} {J : gM} {v1 v2 : Int32} (hN : 20000 ≤ N) (h : INc J a) (hm : INm (gS (rg 204 18) J) a) (hw : INw a) : HQ Int32.toInt64 a (fL_setBudget N [.ref 0, .int v1, .int v2, .ref 204] (gS RO J)) (fun M' => fX9_setBudget N [.ref 0, .int v1, .int v2] M') := by
  have hq := hq_of (exs := [eIO, eIA]) (hs := [(eIO, 1), (eIA, 2)]) (cv := Int32.toInt64) (oc := fX8_setBudget N [.ref 0, .int v1, .int v2] (gS (rg 0 204) (gS RO J))) (om := fun M' => fX9_setBudget N [.ref 0, .int v1, .int v2] M') (M := gS RO J) (by decide) (lk_2 (by decide)) hm (fun M' hM' => j_setBudget ⟨QJ.cls h, hM', hw⟩ hN)
  have e : fL_setBudget N [.ref 0, .int v1, .int v2, .ref 204] (gS RO J) = hTI (fX8_setBudget N [.ref 0, .int v1, .int v2] (gS (rg 0 204) (gS RO J))) (rg 0 204) (gS RO J) [(eIO, 1), (eIA, 2)] (fun x J => some (.inl (some (.int 0)), putL J (Int32.toInt64 x))) := by
    unfold fL_setBudget fL_setBudget_k0
    refine (tt_fn (L := [some (.ref 0), some (.int v1), some (.int v2), some (.ref 204), none]) rfl rfl).trans ?_
    refine tt_aload rfl ?_
    refine tt_const ?_
    refine tt_aload rfl ?_
    refine tt_iload rfl ?_
    refine tt_iload rfl ?_
    refine tt_tryI (t := [.int 0, .ref 204]) (ρ2 := rg 0 204) (av := [.int v1, .int v2]) ⟨Nat.le_of_ble_eq_true rfl, Nat.le_of_ble_eq_true rfl⟩ (bkC (gBk_i (gBk_i (rfl)))) rfl rfl (fun x J => ?_)
    refine tt_i2l ?_
    refine (tt_last (n := 1) rfl rfl).trans ?_
    refine (if_neg (by decide)).trans ?_
    rw [t_0]
    exact rfl
  rw [e]
  exact hq
set_option maxRecDepth 100000 in
theorem cs_9 {N SL : Nat} {SX : Nat → Int32} {K23 : gK} (hN : 20000 ≤ N) (hs : SL ≤ 3072) : CSt SL K23 (s_mask [true, true, true, true, true, false, false, false] <| fL_law_k856 N SL SX K23) := by
  intro i J hi hQ
  obtain ⟨a, hc, hm, hw⟩ := hQ
  obtain ⟨kk, D, d0, d1⟩ := hq_setBudget (v1 := SX (i + 1)) (v2 := SX (i + 2)) hN hc hm hw
  obtain ⟨w, E, a', e0, e1, e2, c1, m1, w1⟩ := d1 _ (QJ.mid (D := D) hm)
  refine ⟨gMg (rg 204 18) (gMg RO J D) E, QJ.end c1 m1 w1, ?_⟩
  refine tt_mask (L2 := Ls i) rfl ?_
  unfold fL_law_k856
  refine tt_aload rfl ?_
  refine tl_arg (j := 1) rfl rfl rfl (by omega) hs ?_
  refine tl_arg (j := 2) rfl rfl rfl (by omega) hs ?_
  refine tt_aload rfl ?_
  refine tl_ca (t := []) (ρ2 := RO) (av := [.ref 0, .int (SX (i + 1)), .int (SX (i + 2)), .ref 204]) ⟨Nat.le_of_ble_eq_true rfl, Nat.le_of_ble_eq_true rfl⟩ (bk0 (gBk_i (gBk_i (bkO rfl)))) rfl rfl d0 ?_
  refine tt_istore (L2 := Lk i kk) (tt_lt rfl) rfl ?_
  refine tt_aload rfl ?_
  refine tl_arg (j := 1) rfl rfl rfl (by omega) hs ?_
  refine tl_arg (j := 2) rfl rfl rfl (by omega) hs ?_
  refine tl_cav (t := []) (ρ2 := rg 204 18) (av := [.int (SX (i + 1)), .int (SX (i + 2))]) ⟨Nat.le_of_ble_eq_true rfl, Nat.le_of_ble_eq_true rfl⟩ (bkM (gBk_i (gBk_i (rfl)))) rfl rfl e0 ?_
  refine tt_istore (L2 := Lw i kk w) (tt_lt rfl) rfl ?_
  refine tt_aload rfl ?_
  refine tl_cav (t := []) (ρ2 := rg 204 18) (av := []) ⟨Nat.le_of_ble_eq_true rfl, Nat.le_of_ble_eq_true rfl⟩ (bkM rfl) rfl rfl (tl_thrown (kk := kk) ((congrFun (m18a (k := 0) (by decide)) 0).trans e1)) ?_
  rw [m18s]
  refine tt_mask (L2 := Lw i kk w) rfl ?_
  unfold fL_law_k897
  exact tl_int (by unfold fL_law_k921; exact tt_mask (L2 := Ls i) rfl tl_back) (fun z => by rw [QJ.out, QJ.out]; exact e2 z)
set_option maxRecDepth 100000 in
theorem hq_set {N : Nat} {a : AB} {J : gM} {v1 v2 : Int32} (hN : 20000 ≤ N) (h : INc J a) (hm : INm (gS (rg 204 18) J) a) (hw : INw a) : HQ Int32.toInt64 a (fL_set N [.ref 0, .int v1, .int v2, .ref 204] (gS RO J)) (fun M' => fX9_set N [.ref 0, .int v1, .int v2] M') := by
  have hq := hq_of (exs := [eIA]) (hs := [(eIA, 1)]) (cv := Int32.toInt64) (oc := fX8_set N [.ref 0, .int v1, .int v2] (gS (rg 0 204) (gS RO J))) (om := fun M' => fX9_set N [.ref 0, .int v1, .int v2] M') (M := gS RO J) (by decide) lk_1 hm (fun M' hM' => j_set ⟨QJ.cls h, hM', hw⟩ hN)
  have e : fL_set N [.ref 0, .int v1, .int v2, .ref 204] (gS RO J) = hTI (fX8_set N [.ref 0, .int v1, .int v2] (gS (rg 0 204) (gS RO J))) (rg 0 204) (gS RO J) [(eIA, 1)] (fun x J => some (.inl (some (.int 0)), putL J (Int32.toInt64 x))) := by
    unfold fL_set fL_set_k0
    refine (tt_fn (L := [some (.ref 0), some (.int v1), some (.int v2), some (.ref 204), none]) rfl rfl).trans ?_
    refine tt_aload rfl ?_
    refine tt_const ?_
    refine tt_aload rfl ?_
    refine tt_iload rfl ?_
    refine tt_iload rfl ?_
    refine tt_tryI (t := [.int 0, .ref 204]) (ρ2 := rg 0 204) (av := [.int v1, .int v2]) ⟨Nat.le_of_ble_eq_true rfl, Nat.le_of_ble_eq_true rfl⟩ (bkC (gBk_i (gBk_i (rfl)))) rfl rfl (fun x J => ?_)
    refine tt_i2l ?_
    refine (tt_last (n := 1) rfl rfl).trans ?_
    refine (if_neg (by decide)).trans ?_
    rw [t_0]
    exact rfl
  rw [e]
  exact hq
set_option maxRecDepth 100000 in
theorem cs_10 {N SL : Nat} {SX : Nat → Int32} {K23 : gK} (hN : 20000 ≤ N) (hs : SL ≤ 3072) : CSt SL K23 (s_mask [true, true, true, true, true, false, false, false] <| fL_law_k924 N SL SX K23) := by
  intro i J hi hQ
  obtain ⟨a, hc, hm, hw⟩ := hQ
  obtain ⟨kk, D, d0, d1⟩ := hq_set (v1 := SX (i + 1)) (v2 := SX (i + 2)) hN hc hm hw
  obtain ⟨w, E, a', e0, e1, e2, c1, m1, w1⟩ := d1 _ (QJ.mid (D := D) hm)
  refine ⟨gMg (rg 204 18) (gMg RO J D) E, QJ.end c1 m1 w1, ?_⟩
  refine tt_mask (L2 := Ls i) rfl ?_
  unfold fL_law_k924
  refine tt_aload rfl ?_
  refine tl_arg (j := 1) rfl rfl rfl (by omega) hs ?_
  refine tl_arg (j := 2) rfl rfl rfl (by omega) hs ?_
  refine tt_aload rfl ?_
  refine tl_ca (t := []) (ρ2 := RO) (av := [.ref 0, .int (SX (i + 1)), .int (SX (i + 2)), .ref 204]) ⟨Nat.le_of_ble_eq_true rfl, Nat.le_of_ble_eq_true rfl⟩ (bk0 (gBk_i (gBk_i (bkO rfl)))) rfl rfl d0 ?_
  refine tt_istore (L2 := Lk i kk) (tt_lt rfl) rfl ?_
  refine tt_aload rfl ?_
  refine tl_arg (j := 1) rfl rfl rfl (by omega) hs ?_
  refine tl_arg (j := 2) rfl rfl rfl (by omega) hs ?_
  refine tl_cav (t := []) (ρ2 := rg 204 18) (av := [.int (SX (i + 1)), .int (SX (i + 2))]) ⟨Nat.le_of_ble_eq_true rfl, Nat.le_of_ble_eq_true rfl⟩ (bkM (gBk_i (gBk_i (rfl)))) rfl rfl e0 ?_
  refine tt_istore (L2 := Lw i kk w) (tt_lt rfl) rfl ?_
  refine tt_aload rfl ?_
  refine tl_cav (t := []) (ρ2 := rg 204 18) (av := []) ⟨Nat.le_of_ble_eq_true rfl, Nat.le_of_ble_eq_true rfl⟩ (bkM rfl) rfl rfl (tl_thrown (kk := kk) ((congrFun (m18a (k := 0) (by decide)) 0).trans e1)) ?_
  rw [m18s]
  refine tt_mask (L2 := Lw i kk w) rfl ?_
  unfold fL_law_k965
  exact tl_int (by unfold fL_law_k989; exact tt_mask (L2 := Ls i) rfl tl_back) (fun z => by rw [QJ.out, QJ.out]; exact e2 z)
