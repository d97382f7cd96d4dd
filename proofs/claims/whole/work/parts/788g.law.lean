/-! ===== the law's loop, and the functions' answer ===== -/
theorem lcons {SL : Nat} {K23 x : gK} {l : List gK} (h1 : CSt SL K23 x) (h2 : ∀ k, k ∈ l → CSt SL K23 k) : ∀ k, k ∈ x :: l → CSt SL K23 k := fun k hk => by
  rcases List.mem_cons.mp hk with e | e
  · rw [e]; exact h1
  · exact h2 k e
theorem tab_step {SL i : Nat} {K23 kd : gK} {ks : List gK} {J : gM} (hd : CSt SL K23 kd) (h : ∀ k, k ∈ ks → CSt SL K23 k) (hlen : ks.length = 43) (q : Int32) (hi : i + 6 ≤ SL) (hQ : QJ J) : ∃ J', QJ J' ∧ s_tab 0 42 kd ks (Ls i) [.int q] J = K23 (Ls (i + 6)) [] J' := by
  show ∃ J', QJ J' ∧ hT q 0 42 (kd (Ls i) [] J) (ks.map (fun k => k (Ls i) [] J)) = K23 (Ls (i + 6)) [] J'
  unfold hT
  by_cases c : q.toInt < 0 ∨ 42 < q.toInt
  · rw [if_pos c]
    exact hd i J hi hQ
  · rw [if_neg c]
    obtain ⟨k, hk⟩ := get_s (l := ks) (i := (q.toInt - 0).toNat) (by omega)
    rw [List.getElem?_map, hk]
    exact h k (List.mem_of_getElem? hk) i J hi hQ
theorem cs_end {N SL : Nat} {SX : Nat → Int32} {K23 : gK} : CSt SL K23 (s_mask [true, true, true, true, true, false, false, false] <| fL_law_k2794 N SL SX K23) := fun i J hi hQ => ⟨J, hQ, tt_mask (L2 := Ls i) rfl tl_back⟩
set_option maxRecDepth 100000 in
theorem law_body {N SL i : Nat} {SX : Nat → Int32} {K23 : gK} {J : gM} (hN : 20000 ≤ N) (hs : SL ≤ 3072) (hi : i + 6 ≤ SL) (hQ : QJ J) : ∃ J', QJ J' ∧ fL_law_b23 N SL SX K23 (Ls i) [] J = K23 (Ls (i + 6)) [] J' := by
  have es : gb_sub (Int32.ofNat SL) 6 = nI (SL - 6) := pk_sub (a := SL) (b := 6) (by omega)
  have hn : (nI i).toNatClampNeg = i := nI_clamp (by omega)
  obtain ⟨J', q1, q2⟩ := tab_step (SL := SL) (i := i) (K23 := K23) (J := J) (cs_end (N := N) (SX := SX)) (lcons (cs_0 hN hs) (lcons (cs_1 hN hs) (lcons (cs_2 hN hs) (lcons (cs_3 hN hs) (lcons (cs_4 hN hs) (lcons (cs_5 hN hs) (lcons (cs_6 hN hs) (lcons (cs_7 hN hs) (lcons (cs_8 hN hs) (lcons (cs_9 hN hs) (lcons (cs_10 hN hs) (lcons (cs_11 hN hs) (lcons (cs_12 hN hs) (lcons (cs_13 hN hs) (lcons (cs_14 hN hs) (lcons (cs_15 hN hs) (lcons (cs_16 hN hs) (lcons (cs_17 hN hs) (lcons (cs_18 hN hs) (lcons (cs_19 hN hs) (lcons (cs_20 hN hs) (lcons (cs_21 hN hs) (lcons (cs_22 hN hs) (lcons (cs_23 hN hs) (lcons (cs_24 hN hs) (lcons (cs_25 hN hs) (lcons (cs_26 hN hs) (lcons (cs_27 hN hs) (lcons (cs_28 hN hs) (lcons (cs_29 hN hs) (lcons (cs_30 hN hs) (lcons (cs_31 hN hs) (lcons (cs_32 hN hs) (lcons (cs_33 hN hs) (lcons (cs_34 hN hs) (lcons (cs_35 hN hs) (lcons (cs_36 hN hs) (lcons (cs_37 hN hs) (lcons (cs_38 hN hs) (lcons (cs_39 hN hs) (lcons (cs_40 hN hs) (lcons (cs_41 hN hs) (lcons (cs_42 hN hs) (fun k hk => absurd hk List.not_mem_nil)))))))))))))))))))))))))))))))))))))))))))) rfl (gb_and (SX i) 63) hi hQ
  refine ⟨J', q1, ?_⟩
  unfold fL_law_b23
  refine tt_iload (x := nI i) rfl ?_
  refine tt_aload rfl ?_
  refine tt_slen ?_
  refine tt_const ?_
  refine tt_bin ?_
  rw [es]
  refine (tt_cmp rfl rfl).trans ?_
  rw [if_neg (fun z => by have := (cgt (a := i) (b := SL - 6) (by omega) (by omega)).mp z; omega)]
  refine tt_aload rfl ?_
  refine tt_iload (x := nI i) rfl ?_
  refine (tt_sld rfl).trans ?_
  rw [hn, if_neg (fun z => by
    rcases z with z | z
    · exact nI_pos (by omega) z
    · omega)]
  refine tt_const ?_
  refine tt_bin ?_
  exact q2
theorem law_exit {N SL i : Nat} {SX : Nat → Int32} {K23 : gK} {J : gM} (hs : SL ≤ 3072) (hi : i ≤ 4000) (h : SL < i + 6) : fL_law_b23 N SL SX K23 (Ls i) [] J = some (.inl (some (.int 1)), J) := by
  have hgt : gc_gt (nI i) (gb_sub (Int32.ofNat SL) 6) = true := by
    by_cases h6 : 6 ≤ SL
    · have es : gb_sub (Int32.ofNat SL) 6 = nI (SL - 6) := pk_sub (a := SL) (b := 6) h6
      rw [es]
      exact (cgt (by omega) (by omega)).mpr (by omega)
    · have hneg : gb_sub (Int32.ofNat SL) 6 < 0 := by
        match SL, h6 with
        | 0, _ => decide
        | 1, _ => decide
        | 2, _ => decide
        | 3, _ => decide
        | 4, _ => decide
        | 5, _ => decide
        | n + 6, h => omega
      exact decide_eq_true (Int32.lt_of_lt_of_le hneg (nI_pos' (by omega)))
  unfold fL_law_b23
  refine tt_iload (x := nI i) rfl ?_
  refine tt_aload rfl ?_
  refine tt_slen ?_
  refine tt_const ?_
  refine tt_bin ?_
  refine (tt_cmp rfl rfl).trans ?_
  rw [if_pos hgt]
  refine tt_const ?_
  exact tt_zret (Or.inr rfl)
theorem law_loop {N SL : Nat} {SX : Nat → Int32} (hN : 20000 ≤ N) (hs : SL ≤ 3072) : ∀ (m i : Nat) (J : gM), i ≤ SL → SL < 6 * m + i → QJ J → ∃ J', s_lp (fL_law_b23 N SL SX) m (Ls i) [] J = some (.inl (some (.int 1)), J') := by
  intro m
  induction m with
  | zero => intro i J h1 h2; omega
  | succ m ih =>
    intro i J h1 h2 hQ
    show ∃ J', fL_law_b23 N SL SX (s_lp (fL_law_b23 N SL SX) m) (Ls i) [] J = some (.inl (some (.int 1)), J')
    by_cases h : i + 6 ≤ SL
    · obtain ⟨J1, q1, q2⟩ := law_body (K23 := s_lp (fL_law_b23 N SL SX) m) (SX := SX) hN hs h hQ
      rw [q2]
      exact ih (i + 6) J1 h (by omega) q1
    · exact ⟨J, law_exit hs (by omega) (by omega)⟩
theorem QJ.start {J8 J9 : gM} {a : AB} (h : IN J8 J9 a) : QJ (jL_3 J8 J9) := by
  obtain ⟨hc, hm, hw⟩ := h
  have e1 : ∀ k, k < 204 → jL_3 J8 J9 k = J8 k := fun k hk => by
    unfold jL_3 gAdd
    rw [if_neg (by omega)]
    unfold jL_2 gJn
    rw [if_pos hk]
    unfold jL_1 gJn
    rw [if_neg (Nat.not_lt_zero _), Nat.sub_zero]
  have e2 : ∀ k, k < 18 → jL_3 J8 J9 (204 + k) = J9 k := fun k hk => by
    unfold jL_3 gAdd
    rw [if_neg (by omega)]
    unfold jL_2 gJn
    rw [if_neg (by omega), Nat.add_sub_cancel_left]
  exact ⟨a, hc.up e1, hm.at18 (fun k hk => by rw [s18 hk, e2 k hk]), hw⟩
theorem gPure_all {L : Nat} {xs : Nat → Int32} (hL : L ≤ 3072) : gPure L xs := by
  obtain ⟨J8, J9, h8, h9, hI⟩ := first_one (N := 20000) (Nat.le_refl _)
  obtain ⟨J', h⟩ := law_loop (N := 20000) (SX := xs) (Nat.le_refl _) hL 600 0 (jL_3 J8 J9) (Nat.zero_le _) (by omega) (QJ.start hI)
  refine ⟨20000, J8, J9, J', h8, h9, ?_⟩
  unfold fL_end
  refine tt_const ?_
  refine tt_istore (L2 := Ls 0) (tt_lt rfl) rfl ?_
  refine tt_mask (L2 := Ls 0) rfl ?_
  exact h
