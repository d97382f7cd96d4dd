/-! fields as they are born -/
theorem gFs0 : ∀ j, j < 4 → defaultValue (tyX0 j) = vp_V (([some none, some none, none, none] : List gX).map (gHv (fun _ => 0))) j := fun j hj => by
  match j, hj with
  | 0, _ => rfl
  | 1, _ => rfl
  | 2, _ => rfl
  | 3, _ => rfl
  | j + 4, hj => exact absurd hj (by omega)
theorem gFs1 : ∀ j, j < 2 → defaultValue (tyX1 j) = vp_V (([some none, none] : List gX).map (gHv (fun _ => 0))) j := fun j hj => by
  match j, hj with
  | 0, _ => rfl
  | 1, _ => rfl
  | j + 2, hj => exact absurd hj (by omega)
theorem gFs2 : ∀ j, j < 11 → defaultValue (tyX2 j) = vp_V (([none, none, none, some none, some none, some none, some none, some none, some none, some none, some none] : List gX).map (gHv (fun _ => 0))) j := fun j hj => by
  match j, hj with
  | 0, _ => rfl
  | 1, _ => rfl
  | 2, _ => rfl
  | 3, _ => rfl
  | 4, _ => rfl
  | 5, _ => rfl
  | 6, _ => rfl
  | 7, _ => rfl
  | 8, _ => rfl
  | 9, _ => rfl
  | 10, _ => rfl
  | j + 11, hj => exact absurd hj (by omega)
theorem gFs3 : ∀ j, j < 2 → defaultValue (tyX3 j) = vp_V (([some none, some none] : List gX).map (gHv (fun _ => 0))) j := fun j hj => by
  match j, hj with
  | 0, _ => rfl
  | 1, _ => rfl
  | j + 2, hj => exact absurd hj (by omega)
theorem gFs4 : ∀ j, j < 12 → defaultValue (tyX4 j) = vp_V (([some none, some none, some none, some none, some none, some none, some none, some none, some none, none, none, none] : List gX).map (gHv (fun _ => 0))) j := fun j hj => by
  match j, hj with
  | 0, _ => rfl
  | 1, _ => rfl
  | 2, _ => rfl
  | 3, _ => rfl
  | 4, _ => rfl
  | 5, _ => rfl
  | 6, _ => rfl
  | 7, _ => rfl
  | 8, _ => rfl
  | 9, _ => rfl
  | 10, _ => rfl
  | 11, _ => rfl
  | j + 12, hj => exact absurd hj (by omega)
theorem gFs5 : ∀ j, j < 9 → defaultValue (tyX5 j) = vp_V (([some none, some none, none, none, none, none, none, none, none] : List gX).map (gHv (fun _ => 0))) j := fun j hj => by
  match j, hj with
  | 0, _ => rfl
  | 1, _ => rfl
  | 2, _ => rfl
  | 3, _ => rfl
  | 4, _ => rfl
  | 5, _ => rfl
  | 6, _ => rfl
  | 7, _ => rfl
  | 8, _ => rfl
  | j + 9, hj => exact absurd hj (by omega)
theorem gFs6 : ∀ j, j < 4 → defaultValue (tyX6 j) = vp_V (([some none, some none, some none, some none] : List gX).map (gHv (fun _ => 0))) j := fun j hj => by
  match j, hj with
  | 0, _ => rfl
  | 1, _ => rfl
  | 2, _ => rfl
  | 3, _ => rfl
  | j + 4, hj => exact absurd hj (by omega)
theorem gFs7 : ∀ j, j < 4 → defaultValue (tyX7 j) = vp_V (([some none, some none, none, none] : List gX).map (gHv (fun _ => 0))) j := fun j hj => by
  match j, hj with
  | 0, _ => rfl
  | 1, _ => rfl
  | 2, _ => rfl
  | 3, _ => rfl
  | j + 4, hj => exact absurd hj (by omega)
theorem gFs8 : ∀ j, j < 8 → defaultValue (tyX8 j) = vp_V (([some none, some none, some none, some none, some none, some none, some none, none] : List gX).map (gHv (fun _ => 0))) j := fun j hj => by
  match j, hj with
  | 0, _ => rfl
  | 1, _ => rfl
  | 2, _ => rfl
  | 3, _ => rfl
  | 4, _ => rfl
  | 5, _ => rfl
  | 6, _ => rfl
  | 7, _ => rfl
  | j + 8, hj => exact absurd hj (by omega)
theorem gFs9 : ∀ j, j < 32 → defaultValue (tyX9 j) = vp_V (([none, some none, none, none, none, none, none, none, some none, some none, some none, some none, some none, none, none, none, none, some none, some none, some none, some none, some none, some none, none, none, some none, some none, some none, none, some none, none, some none] : List gX).map (gHv (fun _ => 0))) j := fun j hj => by
  match j, hj with
  | 0, _ => rfl
  | 1, _ => rfl
  | 2, _ => rfl
  | 3, _ => rfl
  | 4, _ => rfl
  | 5, _ => rfl
  | 6, _ => rfl
  | 7, _ => rfl
  | 8, _ => rfl
  | 9, _ => rfl
  | 10, _ => rfl
  | 11, _ => rfl
  | 12, _ => rfl
  | 13, _ => rfl
  | 14, _ => rfl
  | 15, _ => rfl
  | 16, _ => rfl
  | 17, _ => rfl
  | 18, _ => rfl
  | 19, _ => rfl
  | 20, _ => rfl
  | 21, _ => rfl
  | 22, _ => rfl
  | 23, _ => rfl
  | 24, _ => rfl
  | 25, _ => rfl
  | 26, _ => rfl
  | 27, _ => rfl
  | 28, _ => rfl
  | 29, _ => rfl
  | 30, _ => rfl
  | 31, _ => rfl
  | j + 32, hj => exact absurd hj (by omega)
theorem gClW_h {n : Nat} {I : gM} {ps : List Nat} {c0 : gL} {rest : List gL} (h0 : gCb n c0 = true) (h1 : ∀ (j q : Nat), ps[(I 1 j).toNatClampNeg]? = some q → q < n) (h2 : rest.all (gCb n) = true) (hn : 2 + rest.length ≤ n) : gClW n I none (c0 :: .inr (.inr (3, ps)) :: rest) := by
  refine ⟨trivial, fun j d hd => ⟨?_, ?_⟩⟩
  · have := (List.getElem?_eq_some_iff.mp hd).1
    have e0 : gF0 none = 0 := rfl
    simp only [List.length_cons] at this
    omega
  · match j, hd with
    | 0, hd => cases hd; exact gCb_ok h0 _
    | 1, hd => cases hd; exact h1
    | j + 2, hd => exact gCb_ok (List.all_eq_true.mp h2 d (List.mem_of_getElem? hd)) _
theorem gPs {ps : List Nat} {row : Nat → Int32} {i n : Nat} (h : ∀ j : Nat, row j = if j < i then Int32.ofNat j else 6) (hps : ps.length = 6) (hi : i ≤ 6) (hlt : (ps.take i).all (fun q => decide (q < n)) = true) : ∀ (j q : Nat), ps[(row j).toNatClampNeg]? = some q → q < n := by
  intro j q hq
  rw [h j] at hq
  split at hq
  · rename_i hj
    rw [clamp_of rfl (show j < 2 ^ 31 by omega)] at hq
    have h2 : (ps.take i)[j]? = some q := by rw [List.getElem?_take_of_lt hj]; exact hq
    exact of_decide_eq_true (List.all_eq_true.mp hlt q (List.mem_of_getElem? h2))
  · have h6 : (6 : Int32).toNatClampNeg = 6 := by decide
    rw [h6, List.getElem?_eq_none (by omega)] at hq
    cases hq
theorem gPs_put {I : gM} {i : Nat} {x : Int32} (h : ∀ j : Nat, I 1 j = if j < i then Int32.ofNat j else 6) (hx : Int32.ofNat i = x := by decide) : ∀ j : Nat, gU I 1 i x 1 j = if j < i + 1 then Int32.ofNat j else 6 := by
  intro j
  rw [gU_s]
  by_cases hj : j = i
  · subst hj; rw [pk_us, if_pos (by omega), hx]
  · rw [pk_un hj, h j]
    by_cases h2 : j < i
    · rw [if_pos h2, if_pos (by omega)]
    · rw [if_neg h2, if_neg (by omega)]
/-! the constructor of PressureNet$Cut -/
def jX0_1 : gM := gAdd (fun _ _ => 0) 1 (fun _ => 0)
def jX0_2 : gM := gAdd jX0_1 2 (fun _ => 0)
def jX0_3 : gM := gAdd jX0_2 0 (fun _ => 0)
def fX0_init_k20 (N : Nat) : gK :=
  s_vret
set_option maxRecDepth 100000 in
set_option maxHeartbeats 4000000 in
theorem fX0_init_s20 {γ : gG} {cs ss : Nat} {ε : gE5} (N : Nat) (G : gOK γ) (hb : gcc γ = cX0_init) (ho : gow γ = RX0) (hy : gly γ = gyC) (hR : grm γ = { frames := 1, cells := 2, slots := 24, locals := 12 }) (he : genv γ = ε) (hr : grt γ = none) (hE : gEnv ε) : gSm γ cs ss 20 (fX0_init_k20 N) := by
  unfold fX0_init_k20
  exact sm_vret (pc := 20) G hb (by decide +kernel : decode cX0_init 20 = .ok (.return_, 1)) hr

set_option maxRecDepth 100000 in
set_option maxHeartbeats 8000000 in
theorem kX0_init {ε : gE5} (hE : gEnv ε) (N : Nat) : gCtrI ε yX0_init cX0_init 1 1 12 2 24 0 (([some none, some none, none, none] : List gX).map (gHv (fun _ => 0))) gyC jX0_3 := by
  refine gCtrI_of ⟨by decide, rfl⟩ (by decide) rfl (fun γ a0 G hb ho hR he hr hin hend => ?_)
  refine gPt_aload (pc := 0) (q := 0) G hb (by decide +kernel : decode cX0_init 0 = .ok (.aload_n 0, 1)) rfl ?_
  show gPt γ a0 0 0 1 (some (0, [some none, some none, none, none])) [] [some (.ref 0)] [.ref 0] (fun _ _ => 0)
  refine gPt_objInit (pc := 1) G hb (own := RX0) ho (by rw [hR]; exact ⟨by decide, by decide⟩) gw2_58 gw1_31 gw1_32 (by decide +kernel : decode cX0_init 1 = .ok (.invokespecial 3, 3)) ?_
  show gPt γ a0 0 0 4 (some (0, [some none, some none, none, none])) [] [some (.ref 0)] [] (fun _ _ => 0)
  refine gPt_aload (pc := 4) (q := 0) G hb (by decide +kernel : decode cX0_init 4 = .ok (.aload_n 0, 1)) rfl ?_
  show gPt γ a0 0 0 5 (some (0, [some none, some none, none, none])) [] [some (.ref 0)] [.ref 0] (fun _ _ => 0)
  refine gPt_bipush (pc := 5) (v := 14) G hb (by decide +kernel : decode cX0_init 5 = .ok (.bipush 14, 2)) (by decide) ?_
  show gPt γ a0 0 0 7 (some (0, [some none, some none, none, none])) [] [some (.ref 0)] [.int 14, .ref 0] (fun _ _ => 0)
  refine gPt_newa (pc := 7) (n := 1) (N := 14) (t := 0) (aty := .int) G hb rfl ⟨by decide, by decide⟩ (gClW_of (by decide +kernel) (by decide)) rfl rfl ⟨by decide, by decide +kernel, by decide +kernel⟩ (fun _ => rfl) (fun ⟨_, h⟩ => by cases h) (fun _ => rfl) gw1_113 (by rw [hR]; exact ⟨by decide, by decide⟩) (by decide +kernel : decode cX0_init 7 = .ok (.newarray .int, 2)) ?_
  show gPt γ a0 1 14 9 (some (0, [some none, some none, none, none])) [.inr (.inl (0, 14))] [some (.ref 0)] [.ref 1, .ref 0] jX0_1
  refine gPt_putF (pc := 9) (j := 0) (b := 1) (C := RX0) (T := TX0) (N := 4) (own := RX0) G hb ho hin tyX0 tyX0_ok nmX0 rfl (by decide) gin_0 gw2_59 rfl rfl (fun _ => ⟨rfl, rfl⟩) rfl (by decide +kernel : decode cX0_init 9 = .ok (.putfield 9, 3)) ?_
  show gPt γ a0 1 14 12 (some (0, [some (some 1), some none, none, none])) [.inr (.inl (0, 14))] [some (.ref 0)] [] jX0_1
  refine gPt_aload (pc := 12) (q := 0) G hb (by decide +kernel : decode cX0_init 12 = .ok (.aload_n 0, 1)) rfl ?_
  show gPt γ a0 1 14 13 (some (0, [some (some 1), some none, none, none])) [.inr (.inl (0, 14))] [some (.ref 0)] [.ref 0] jX0_1
  refine gPt_bipush (pc := 13) (v := 10) G hb (by decide +kernel : decode cX0_init 13 = .ok (.bipush 10, 2)) (by decide) ?_
  show gPt γ a0 1 14 15 (some (0, [some (some 1), some none, none, none])) [.inr (.inl (0, 14))] [some (.ref 0)] [.int 10, .ref 0] jX0_1
  refine gPt_newa (pc := 15) (n := 2) (N := 10) (t := 0) (aty := .int) G hb rfl ⟨by decide, by decide⟩ (gClW_of (by decide +kernel) (by decide)) rfl rfl ⟨by decide, by decide +kernel, by decide +kernel⟩ (fun _ => rfl) (fun ⟨_, h⟩ => by cases h) (fun _ => rfl) gw1_113 (by rw [hR]; exact ⟨by decide, by decide⟩) (by decide +kernel : decode cX0_init 15 = .ok (.newarray .int, 2)) ?_
  show gPt γ a0 2 24 17 (some (0, [some (some 1), some none, none, none])) [.inr (.inl (0, 14)), .inr (.inl (0, 10))] [some (.ref 0)] [.ref 2, .ref 0] jX0_2
  refine gPt_putF (pc := 17) (j := 1) (b := 2) (C := RX0) (T := TX0) (N := 4) (own := RX0) G hb ho hin tyX0 tyX0_ok nmX0 rfl (by decide) gin_0 gw2_60 rfl rfl (fun _ => ⟨rfl, rfl⟩) rfl (by decide +kernel : decode cX0_init 17 = .ok (.putfield 15, 3)) ?_
  show gPt γ a0 2 24 20 (some (0, [some (some 1), some (some 2), none, none])) [.inr (.inl (0, 14)), .inr (.inl (0, 10))] [some (.ref 0)] [] jX0_2
  refine gPt_stands rfl ?_
  show gPt γ a0 2 24 20 none gyC [some (.ref 0)] [] jX0_3
  exact gPt_fin G hend (fun γ' G' hb' ho' hy' hR' he' hr' => fX0_init_s20 N G' (hb'.trans hb) (ho'.trans ho) hy' (hR'.trans hR) (he'.trans he) (hr'.trans hr) hE) rfl

/-! the constructor of PressureNet$Net -/
def jX2_1 : gM := gAdd (fun _ _ => 0) 1 (fun _ => 0)
def jX2_2 : gM := gAdd jX2_1 2 (fun _ => 0)
def jX2_3 : gM := gAdd jX2_2 3 (fun _ => 0)
def jX2_4 : gM := gAdd jX2_3 4 (fun _ => 0)
def jX2_5 : gM := gAdd jX2_4 5 (fun _ => 0)
def jX2_6 : gM := gAdd jX2_5 6 (fun _ => 0)
def jX2_7 : gM := gAdd jX2_6 7 (fun _ => 0)
def jX2_8 : gM := gAdd jX2_7 8 (fun _ => 0)
def jX2_9 : gM := gAdd jX2_8 0 (fun _ => 0)
def fX2_init_k67 (N : Nat) : gK :=
  s_vret
set_option maxRecDepth 100000 in
set_option maxHeartbeats 4000000 in
theorem fX2_init_s67 {γ : gG} {cs ss : Nat} {ε : gE5} (N : Nat) (G : gOK γ) (hb : gcc γ = cX2_init) (ho : gow γ = RX2) (hy : gly γ = gyNet) (hR : grm γ = { frames := 1, cells := 8, slots := 240, locals := 12 }) (he : genv γ = ε) (hr : grt γ = none) (hE : gEnv ε) : gSm γ cs ss 67 (fX2_init_k67 N) := by
  unfold fX2_init_k67
  exact sm_vret (pc := 67) G hb (by decide +kernel : decode cX2_init 67 = .ok (.return_, 1)) hr

set_option maxRecDepth 100000 in
set_option maxHeartbeats 8000000 in
theorem kX2_init {ε : gE5} (hE : gEnv ε) (N : Nat) : gCtrI ε yX2_init cX2_init 1 1 12 8 240 2 (([none, none, none, some none, some none, some none, some none, some none, some none, some none, some none] : List gX).map (gHv (fun _ => 0))) gyNet jX2_9 := by
  refine gCtrI_of ⟨by decide, rfl⟩ (by decide) rfl (fun γ a0 G hb ho hR he hr hin hend => ?_)
  refine gPt_aload (pc := 0) (q := 0) G hb (by decide +kernel : decode cX2_init 0 = .ok (.aload_n 0, 1)) rfl ?_
  show gPt γ a0 0 0 1 (some (2, [none, none, none, some none, some none, some none, some none, some none, some none, some none, some none])) [] [some (.ref 0)] [.ref 0] (fun _ _ => 0)
  refine gPt_objInit (pc := 1) G hb (own := RX2) ho (by rw [hR]; exact ⟨by decide, by decide⟩) gw1_44 gw1_31 gw1_32 (by decide +kernel : decode cX2_init 1 = .ok (.invokespecial 3, 3)) ?_
  show gPt γ a0 0 0 4 (some (2, [none, none, none, some none, some none, some none, some none, some none, some none, some none, some none])) [] [some (.ref 0)] [] (fun _ _ => 0)
  refine gPt_aload (pc := 4) (q := 0) G hb (by decide +kernel : decode cX2_init 4 = .ok (.aload_n 0, 1)) rfl ?_
  show gPt γ a0 0 0 5 (some (2, [none, none, none, some none, some none, some none, some none, some none, some none, some none, some none])) [] [some (.ref 0)] [.ref 0] (fun _ _ => 0)
  refine gPt_bipush (pc := 5) (v := 14) G hb (by decide +kernel : decode cX2_init 5 = .ok (.bipush 14, 2)) (by decide) ?_
  show gPt γ a0 0 0 7 (some (2, [none, none, none, some none, some none, some none, some none, some none, some none, some none, some none])) [] [some (.ref 0)] [.int 14, .ref 0] (fun _ _ => 0)
  refine gPt_newa (pc := 7) (n := 1) (N := 14) (t := 0) (aty := .int) G hb rfl ⟨by decide, by decide⟩ (gClW_of (by decide +kernel) (by decide)) rfl rfl ⟨by decide, by decide +kernel, by decide +kernel⟩ (fun _ => rfl) (fun ⟨_, h⟩ => by cases h) (fun _ => rfl) gw1_113 (by rw [hR]; exact ⟨by decide, by decide⟩) (by decide +kernel : decode cX2_init 7 = .ok (.newarray .int, 2)) ?_
  show gPt γ a0 1 14 9 (some (2, [none, none, none, some none, some none, some none, some none, some none, some none, some none, some none])) [.inr (.inl (0, 14))] [some (.ref 0)] [.ref 1, .ref 0] jX2_1
  refine gPt_putF (pc := 9) (j := 3) (b := 1) (C := RX2) (T := TX2) (N := 11) (own := RX2) G hb ho hin tyX2 tyX2_ok nmX2 rfl (by decide) gin_2 gw1_60 rfl rfl (fun _ => ⟨rfl, rfl⟩) rfl (by decide +kernel : decode cX2_init 9 = .ok (.putfield 9, 3)) ?_
  show gPt γ a0 1 14 12 (some (2, [none, none, none, some (some 1), some none, some none, some none, some none, some none, some none, some none])) [.inr (.inl (0, 14))] [some (.ref 0)] [] jX2_1
  refine gPt_aload (pc := 12) (q := 0) G hb (by decide +kernel : decode cX2_init 12 = .ok (.aload_n 0, 1)) rfl ?_
  show gPt γ a0 1 14 13 (some (2, [none, none, none, some (some 1), some none, some none, some none, some none, some none, some none, some none])) [.inr (.inl (0, 14))] [some (.ref 0)] [.ref 0] jX2_1
  refine gPt_bipush (pc := 13) (v := 14) G hb (by decide +kernel : decode cX2_init 13 = .ok (.bipush 14, 2)) (by decide) ?_
  show gPt γ a0 1 14 15 (some (2, [none, none, none, some (some 1), some none, some none, some none, some none, some none, some none, some none])) [.inr (.inl (0, 14))] [some (.ref 0)] [.int 14, .ref 0] jX2_1
  refine gPt_newa (pc := 15) (n := 2) (N := 14) (t := 0) (aty := .int) G hb rfl ⟨by decide, by decide⟩ (gClW_of (by decide +kernel) (by decide)) rfl rfl ⟨by decide, by decide +kernel, by decide +kernel⟩ (fun _ => rfl) (fun ⟨_, h⟩ => by cases h) (fun _ => rfl) gw1_113 (by rw [hR]; exact ⟨by decide, by decide⟩) (by decide +kernel : decode cX2_init 15 = .ok (.newarray .int, 2)) ?_
  show gPt γ a0 2 28 17 (some (2, [none, none, none, some (some 1), some none, some none, some none, some none, some none, some none, some none])) [.inr (.inl (0, 14)), .inr (.inl (0, 14))] [some (.ref 0)] [.ref 2, .ref 0] jX2_2
  refine gPt_putF (pc := 17) (j := 4) (b := 2) (C := RX2) (T := TX2) (N := 11) (own := RX2) G hb ho hin tyX2 tyX2_ok nmX2 rfl (by decide) gin_2 gw1_65 rfl rfl (fun _ => ⟨rfl, rfl⟩) rfl (by decide +kernel : decode cX2_init 17 = .ok (.putfield 15, 3)) ?_
  show gPt γ a0 2 28 20 (some (2, [none, none, none, some (some 1), some (some 2), some none, some none, some none, some none, some none, some none])) [.inr (.inl (0, 14)), .inr (.inl (0, 14))] [some (.ref 0)] [] jX2_2
  refine gPt_aload (pc := 20) (q := 0) G hb (by decide +kernel : decode cX2_init 20 = .ok (.aload_n 0, 1)) rfl ?_
  show gPt γ a0 2 28 21 (some (2, [none, none, none, some (some 1), some (some 2), some none, some none, some none, some none, some none, some none])) [.inr (.inl (0, 14)), .inr (.inl (0, 14))] [some (.ref 0)] [.ref 0] jX2_2
  refine gPt_bipush (pc := 21) (v := 14) G hb (by decide +kernel : decode cX2_init 21 = .ok (.bipush 14, 2)) (by decide) ?_
  show gPt γ a0 2 28 23 (some (2, [none, none, none, some (some 1), some (some 2), some none, some none, some none, some none, some none, some none])) [.inr (.inl (0, 14)), .inr (.inl (0, 14))] [some (.ref 0)] [.int 14, .ref 0] jX2_2
  refine gPt_newa (pc := 23) (n := 3) (N := 14) (t := 0) (aty := .int) G hb rfl ⟨by decide, by decide⟩ (gClW_of (by decide +kernel) (by decide)) rfl rfl ⟨by decide, by decide +kernel, by decide +kernel⟩ (fun _ => rfl) (fun ⟨_, h⟩ => by cases h) (fun _ => rfl) gw1_113 (by rw [hR]; exact ⟨by decide, by decide⟩) (by decide +kernel : decode cX2_init 23 = .ok (.newarray .int, 2)) ?_
  show gPt γ a0 3 42 25 (some (2, [none, none, none, some (some 1), some (some 2), some none, some none, some none, some none, some none, some none])) [.inr (.inl (0, 14)), .inr (.inl (0, 14)), .inr (.inl (0, 14))] [some (.ref 0)] [.ref 3, .ref 0] jX2_3
  refine gPt_putF (pc := 25) (j := 5) (b := 3) (C := RX2) (T := TX2) (N := 11) (own := RX2) G hb ho hin tyX2 tyX2_ok nmX2 rfl (by decide) gin_2 gw1_70 rfl rfl (fun _ => ⟨rfl, rfl⟩) rfl (by decide +kernel : decode cX2_init 25 = .ok (.putfield 18, 3)) ?_
  show gPt γ a0 3 42 28 (some (2, [none, none, none, some (some 1), some (some 2), some (some 3), some none, some none, some none, some none, some none])) [.inr (.inl (0, 14)), .inr (.inl (0, 14)), .inr (.inl (0, 14))] [some (.ref 0)] [] jX2_3
  refine gPt_aload (pc := 28) (q := 0) G hb (by decide +kernel : decode cX2_init 28 = .ok (.aload_n 0, 1)) rfl ?_
  show gPt γ a0 3 42 29 (some (2, [none, none, none, some (some 1), some (some 2), some (some 3), some none, some none, some none, some none, some none])) [.inr (.inl (0, 14)), .inr (.inl (0, 14)), .inr (.inl (0, 14))] [some (.ref 0)] [.ref 0] jX2_3
  refine gPt_bipush (pc := 29) (v := 14) G hb (by decide +kernel : decode cX2_init 29 = .ok (.bipush 14, 2)) (by decide) ?_
  show gPt γ a0 3 42 31 (some (2, [none, none, none, some (some 1), some (some 2), some (some 3), some none, some none, some none, some none, some none])) [.inr (.inl (0, 14)), .inr (.inl (0, 14)), .inr (.inl (0, 14))] [some (.ref 0)] [.int 14, .ref 0] jX2_3
  refine gPt_newa (pc := 31) (n := 4) (N := 14) (t := 0) (aty := .int) G hb rfl ⟨by decide, by decide⟩ (gClW_of (by decide +kernel) (by decide)) rfl rfl ⟨by decide, by decide +kernel, by decide +kernel⟩ (fun _ => rfl) (fun ⟨_, h⟩ => by cases h) (fun _ => rfl) gw1_113 (by rw [hR]; exact ⟨by decide, by decide⟩) (by decide +kernel : decode cX2_init 31 = .ok (.newarray .int, 2)) ?_
  show gPt γ a0 4 56 33 (some (2, [none, none, none, some (some 1), some (some 2), some (some 3), some none, some none, some none, some none, some none])) [.inr (.inl (0, 14)), .inr (.inl (0, 14)), .inr (.inl (0, 14)), .inr (.inl (0, 14))] [some (.ref 0)] [.ref 4, .ref 0] jX2_4
  refine gPt_putF (pc := 33) (j := 6) (b := 4) (C := RX2) (T := TX2) (N := 11) (own := RX2) G hb ho hin tyX2 tyX2_ok nmX2 rfl (by decide) gin_2 gw1_75 rfl rfl (fun _ => ⟨rfl, rfl⟩) rfl (by decide +kernel : decode cX2_init 33 = .ok (.putfield 21, 3)) ?_
  show gPt γ a0 4 56 36 (some (2, [none, none, none, some (some 1), some (some 2), some (some 3), some (some 4), some none, some none, some none, some none])) [.inr (.inl (0, 14)), .inr (.inl (0, 14)), .inr (.inl (0, 14)), .inr (.inl (0, 14))] [some (.ref 0)] [] jX2_4
  refine gPt_aload (pc := 36) (q := 0) G hb (by decide +kernel : decode cX2_init 36 = .ok (.aload_n 0, 1)) rfl ?_
  show gPt γ a0 4 56 37 (some (2, [none, none, none, some (some 1), some (some 2), some (some 3), some (some 4), some none, some none, some none, some none])) [.inr (.inl (0, 14)), .inr (.inl (0, 14)), .inr (.inl (0, 14)), .inr (.inl (0, 14))] [some (.ref 0)] [.ref 0] jX2_4
  refine gPt_bipush (pc := 37) (v := 14) G hb (by decide +kernel : decode cX2_init 37 = .ok (.bipush 14, 2)) (by decide) ?_
  show gPt γ a0 4 56 39 (some (2, [none, none, none, some (some 1), some (some 2), some (some 3), some (some 4), some none, some none, some none, some none])) [.inr (.inl (0, 14)), .inr (.inl (0, 14)), .inr (.inl (0, 14)), .inr (.inl (0, 14))] [some (.ref 0)] [.int 14, .ref 0] jX2_4
  refine gPt_newa (pc := 39) (n := 5) (N := 14) (t := 0) (aty := .int) G hb rfl ⟨by decide, by decide⟩ (gClW_of (by decide +kernel) (by decide)) rfl rfl ⟨by decide, by decide +kernel, by decide +kernel⟩ (fun _ => rfl) (fun ⟨_, h⟩ => by cases h) (fun _ => rfl) gw1_113 (by rw [hR]; exact ⟨by decide, by decide⟩) (by decide +kernel : decode cX2_init 39 = .ok (.newarray .int, 2)) ?_
  show gPt γ a0 5 70 41 (some (2, [none, none, none, some (some 1), some (some 2), some (some 3), some (some 4), some none, some none, some none, some none])) [.inr (.inl (0, 14)), .inr (.inl (0, 14)), .inr (.inl (0, 14)), .inr (.inl (0, 14)), .inr (.inl (0, 14))] [some (.ref 0)] [.ref 5, .ref 0] jX2_5
  refine gPt_putF (pc := 41) (j := 7) (b := 5) (C := RX2) (T := TX2) (N := 11) (own := RX2) G hb ho hin tyX2 tyX2_ok nmX2 rfl (by decide) gin_2 gw1_78 rfl rfl (fun _ => ⟨rfl, rfl⟩) rfl (by decide +kernel : decode cX2_init 41 = .ok (.putfield 24, 3)) ?_
  show gPt γ a0 5 70 44 (some (2, [none, none, none, some (some 1), some (some 2), some (some 3), some (some 4), some (some 5), some none, some none, some none])) [.inr (.inl (0, 14)), .inr (.inl (0, 14)), .inr (.inl (0, 14)), .inr (.inl (0, 14)), .inr (.inl (0, 14))] [some (.ref 0)] [] jX2_5
  refine gPt_aload (pc := 44) (q := 0) G hb (by decide +kernel : decode cX2_init 44 = .ok (.aload_n 0, 1)) rfl ?_
  show gPt γ a0 5 70 45 (some (2, [none, none, none, some (some 1), some (some 2), some (some 3), some (some 4), some (some 5), some none, some none, some none])) [.inr (.inl (0, 14)), .inr (.inl (0, 14)), .inr (.inl (0, 14)), .inr (.inl (0, 14)), .inr (.inl (0, 14))] [some (.ref 0)] [.ref 0] jX2_5
  refine gPt_iconst (pc := 45) (v := 4) G hb (by decide +kernel : decode cX2_init 45 = .ok (.iconst 4, 1)) (by decide) ?_
  show gPt γ a0 5 70 46 (some (2, [none, none, none, some (some 1), some (some 2), some (some 3), some (some 4), some (some 5), some none, some none, some none])) [.inr (.inl (0, 14)), .inr (.inl (0, 14)), .inr (.inl (0, 14)), .inr (.inl (0, 14)), .inr (.inl (0, 14))] [some (.ref 0)] [.int 4, .ref 0] jX2_5
  refine gPt_newa (pc := 46) (n := 6) (N := 4) (t := 0) (aty := .int) G hb rfl ⟨by decide, by decide⟩ (gClW_of (by decide +kernel) (by decide)) rfl rfl ⟨by decide, by decide +kernel, by decide +kernel⟩ (fun _ => rfl) (fun ⟨_, h⟩ => by cases h) (fun _ => rfl) gw1_113 (by rw [hR]; exact ⟨by decide, by decide⟩) (by decide +kernel : decode cX2_init 46 = .ok (.newarray .int, 2)) ?_
  show gPt γ a0 6 74 48 (some (2, [none, none, none, some (some 1), some (some 2), some (some 3), some (some 4), some (some 5), some none, some none, some none])) [.inr (.inl (0, 14)), .inr (.inl (0, 14)), .inr (.inl (0, 14)), .inr (.inl (0, 14)), .inr (.inl (0, 14)), .inr (.inl (0, 4))] [some (.ref 0)] [.ref 6, .ref 0] jX2_6
  refine gPt_putF (pc := 48) (j := 8) (b := 6) (C := RX2) (T := TX2) (N := 11) (own := RX2) G hb ho hin tyX2 tyX2_ok nmX2 rfl (by decide) gin_2 gw1_81 rfl rfl (fun _ => ⟨rfl, rfl⟩) rfl (by decide +kernel : decode cX2_init 48 = .ok (.putfield 27, 3)) ?_
  show gPt γ a0 6 74 51 (some (2, [none, none, none, some (some 1), some (some 2), some (some 3), some (some 4), some (some 5), some (some 6), some none, some none])) [.inr (.inl (0, 14)), .inr (.inl (0, 14)), .inr (.inl (0, 14)), .inr (.inl (0, 14)), .inr (.inl (0, 14)), .inr (.inl (0, 4))] [some (.ref 0)] [] jX2_6
  refine gPt_aload (pc := 51) (q := 0) G hb (by decide +kernel : decode cX2_init 51 = .ok (.aload_n 0, 1)) rfl ?_
  show gPt γ a0 6 74 52 (some (2, [none, none, none, some (some 1), some (some 2), some (some 3), some (some 4), some (some 5), some (some 6), some none, some none])) [.inr (.inl (0, 14)), .inr (.inl (0, 14)), .inr (.inl (0, 14)), .inr (.inl (0, 14)), .inr (.inl (0, 14)), .inr (.inl (0, 4))] [some (.ref 0)] [.ref 0] jX2_6
  refine gPt_bipush (pc := 52) (v := 66) G hb (by decide +kernel : decode cX2_init 52 = .ok (.bipush 66, 2)) (by decide) ?_
  show gPt γ a0 6 74 54 (some (2, [none, none, none, some (some 1), some (some 2), some (some 3), some (some 4), some (some 5), some (some 6), some none, some none])) [.inr (.inl (0, 14)), .inr (.inl (0, 14)), .inr (.inl (0, 14)), .inr (.inl (0, 14)), .inr (.inl (0, 14)), .inr (.inl (0, 4))] [some (.ref 0)] [.int 66, .ref 0] jX2_6
  refine gPt_newa (pc := 54) (n := 7) (N := 66) (t := 0) (aty := .int) G hb rfl ⟨by decide, by decide⟩ (gClW_of (by decide +kernel) (by decide)) rfl rfl ⟨by decide, by decide +kernel, by decide +kernel⟩ (fun _ => rfl) (fun ⟨_, h⟩ => by cases h) (fun _ => rfl) gw1_113 (by rw [hR]; exact ⟨by decide, by decide⟩) (by decide +kernel : decode cX2_init 54 = .ok (.newarray .int, 2)) ?_
  show gPt γ a0 7 140 56 (some (2, [none, none, none, some (some 1), some (some 2), some (some 3), some (some 4), some (some 5), some (some 6), some none, some none])) [.inr (.inl (0, 14)), .inr (.inl (0, 14)), .inr (.inl (0, 14)), .inr (.inl (0, 14)), .inr (.inl (0, 14)), .inr (.inl (0, 4)), .inr (.inl (0, 66))] [some (.ref 0)] [.ref 7, .ref 0] jX2_7
  refine gPt_putF (pc := 56) (j := 9) (b := 7) (C := RX2) (T := TX2) (N := 11) (own := RX2) G hb ho hin tyX2 tyX2_ok nmX2 rfl (by decide) gin_2 gw1_86 rfl rfl (fun _ => ⟨rfl, rfl⟩) rfl (by decide +kernel : decode cX2_init 56 = .ok (.putfield 30, 3)) ?_
  show gPt γ a0 7 140 59 (some (2, [none, none, none, some (some 1), some (some 2), some (some 3), some (some 4), some (some 5), some (some 6), some (some 7), some none])) [.inr (.inl (0, 14)), .inr (.inl (0, 14)), .inr (.inl (0, 14)), .inr (.inl (0, 14)), .inr (.inl (0, 14)), .inr (.inl (0, 4)), .inr (.inl (0, 66))] [some (.ref 0)] [] jX2_7
  refine gPt_aload (pc := 59) (q := 0) G hb (by decide +kernel : decode cX2_init 59 = .ok (.aload_n 0, 1)) rfl ?_
  show gPt γ a0 7 140 60 (some (2, [none, none, none, some (some 1), some (some 2), some (some 3), some (some 4), some (some 5), some (some 6), some (some 7), some none])) [.inr (.inl (0, 14)), .inr (.inl (0, 14)), .inr (.inl (0, 14)), .inr (.inl (0, 14)), .inr (.inl (0, 14)), .inr (.inl (0, 4)), .inr (.inl (0, 66))] [some (.ref 0)] [.ref 0] jX2_7
  refine gPt_bipush (pc := 60) (v := 100) G hb (by decide +kernel : decode cX2_init 60 = .ok (.bipush 100, 2)) (by decide) ?_
  show gPt γ a0 7 140 62 (some (2, [none, none, none, some (some 1), some (some 2), some (some 3), some (some 4), some (some 5), some (some 6), some (some 7), some none])) [.inr (.inl (0, 14)), .inr (.inl (0, 14)), .inr (.inl (0, 14)), .inr (.inl (0, 14)), .inr (.inl (0, 14)), .inr (.inl (0, 4)), .inr (.inl (0, 66))] [some (.ref 0)] [.int 100, .ref 0] jX2_7
  refine gPt_newa (pc := 62) (n := 8) (N := 100) (t := 0) (aty := .int) G hb rfl ⟨by decide, by decide⟩ (gClW_of (by decide +kernel) (by decide)) rfl rfl ⟨by decide, by decide +kernel, by decide +kernel⟩ (fun _ => rfl) (fun ⟨_, h⟩ => by cases h) (fun _ => rfl) gw1_113 (by rw [hR]; exact ⟨by decide, by decide⟩) (by decide +kernel : decode cX2_init 62 = .ok (.newarray .int, 2)) ?_
  show gPt γ a0 8 240 64 (some (2, [none, none, none, some (some 1), some (some 2), some (some 3), some (some 4), some (some 5), some (some 6), some (some 7), some none])) [.inr (.inl (0, 14)), .inr (.inl (0, 14)), .inr (.inl (0, 14)), .inr (.inl (0, 14)), .inr (.inl (0, 14)), .inr (.inl (0, 4)), .inr (.inl (0, 66)), .inr (.inl (0, 100))] [some (.ref 0)] [.ref 8, .ref 0] jX2_8
  refine gPt_putF (pc := 64) (j := 10) (b := 8) (C := RX2) (T := TX2) (N := 11) (own := RX2) G hb ho hin tyX2 tyX2_ok nmX2 rfl (by decide) gin_2 gw1_87 rfl rfl (fun _ => ⟨rfl, rfl⟩) rfl (by decide +kernel : decode cX2_init 64 = .ok (.putfield 33, 3)) ?_
  show gPt γ a0 8 240 67 (some (2, [none, none, none, some (some 1), some (some 2), some (some 3), some (some 4), some (some 5), some (some 6), some (some 7), some (some 8)])) [.inr (.inl (0, 14)), .inr (.inl (0, 14)), .inr (.inl (0, 14)), .inr (.inl (0, 14)), .inr (.inl (0, 14)), .inr (.inl (0, 4)), .inr (.inl (0, 66)), .inr (.inl (0, 100))] [some (.ref 0)] [] jX2_8
  refine gPt_stands rfl ?_
  show gPt γ a0 8 240 67 none gyNet [some (.ref 0)] [] jX2_9
  exact gPt_fin G hend (fun γ' G' hb' ho' hy' hR' he' hr' => fX2_init_s67 N G' (hb'.trans hb) (ho'.trans ho) hy' (hR'.trans hR) (he'.trans he) (hr'.trans hr) hE) rfl

/-! the constructor of PressureNet$Plan -/
def jX3_1 : gM := gAdd (fun _ _ => 0) 1 (fun _ => 0)
def jX3_2 : gM := gAdd jX3_1 2 (fun _ => 0)
def jX3_3 : gM := gAdd jX3_2 0 (fun _ => 0)
def fX3_init_k20 (N : Nat) : gK :=
  s_vret
set_option maxRecDepth 100000 in
set_option maxHeartbeats 4000000 in
theorem fX3_init_s20 {γ : gG} {cs ss : Nat} {ε : gE5} (N : Nat) (G : gOK γ) (hb : gcc γ = cX3_init) (ho : gow γ = RX3) (hy : gly γ = gyP) (hR : grm γ = { frames := 1, cells := 2, slots := 28, locals := 12 }) (he : genv γ = ε) (hr : grt γ = none) (hE : gEnv ε) : gSm γ cs ss 20 (fX3_init_k20 N) := by
  unfold fX3_init_k20
  exact sm_vret (pc := 20) G hb (by decide +kernel : decode cX3_init 20 = .ok (.return_, 1)) hr

set_option maxRecDepth 100000 in
set_option maxHeartbeats 8000000 in
theorem kX3_init {ε : gE5} (hE : gEnv ε) (N : Nat) : gCtrI ε yX3_init cX3_init 1 1 12 2 28 3 (([some none, some none] : List gX).map (gHv (fun _ => 0))) gyP jX3_3 := by
  refine gCtrI_of ⟨by decide, rfl⟩ (by decide) rfl (fun γ a0 G hb ho hR he hr hin hend => ?_)
  refine gPt_aload (pc := 0) (q := 0) G hb (by decide +kernel : decode cX3_init 0 = .ok (.aload_n 0, 1)) rfl ?_
  show gPt γ a0 0 0 1 (some (3, [some none, some none])) [] [some (.ref 0)] [.ref 0] (fun _ _ => 0)
  refine gPt_objInit (pc := 1) G hb (own := RX3) ho (by rw [hR]; exact ⟨by decide, by decide⟩) gw2_28 gw1_31 gw1_32 (by decide +kernel : decode cX3_init 1 = .ok (.invokespecial 3, 3)) ?_
  show gPt γ a0 0 0 4 (some (3, [some none, some none])) [] [some (.ref 0)] [] (fun _ _ => 0)
  refine gPt_aload (pc := 4) (q := 0) G hb (by decide +kernel : decode cX3_init 4 = .ok (.aload_n 0, 1)) rfl ?_
  show gPt γ a0 0 0 5 (some (3, [some none, some none])) [] [some (.ref 0)] [.ref 0] (fun _ _ => 0)
  refine gPt_bipush (pc := 5) (v := 14) G hb (by decide +kernel : decode cX3_init 5 = .ok (.bipush 14, 2)) (by decide) ?_
  show gPt γ a0 0 0 7 (some (3, [some none, some none])) [] [some (.ref 0)] [.int 14, .ref 0] (fun _ _ => 0)
  refine gPt_newa (pc := 7) (n := 1) (N := 14) (t := 0) (aty := .int) G hb rfl ⟨by decide, by decide⟩ (gClW_of (by decide +kernel) (by decide)) rfl rfl ⟨by decide, by decide +kernel, by decide +kernel⟩ (fun _ => rfl) (fun ⟨_, h⟩ => by cases h) (fun _ => rfl) gw1_113 (by rw [hR]; exact ⟨by decide, by decide⟩) (by decide +kernel : decode cX3_init 7 = .ok (.newarray .int, 2)) ?_
  show gPt γ a0 1 14 9 (some (3, [some none, some none])) [.inr (.inl (0, 14))] [some (.ref 0)] [.ref 1, .ref 0] jX3_1
  refine gPt_putF (pc := 9) (j := 0) (b := 1) (C := RX3) (T := TX3) (N := 2) (own := RX3) G hb ho hin tyX3 tyX3_ok nmX3 rfl (by decide) gin_3 gw2_29 rfl rfl (fun _ => ⟨rfl, rfl⟩) rfl (by decide +kernel : decode cX3_init 9 = .ok (.putfield 9, 3)) ?_
  show gPt γ a0 1 14 12 (some (3, [some (some 1), some none])) [.inr (.inl (0, 14))] [some (.ref 0)] [] jX3_1
  refine gPt_aload (pc := 12) (q := 0) G hb (by decide +kernel : decode cX3_init 12 = .ok (.aload_n 0, 1)) rfl ?_
  show gPt γ a0 1 14 13 (some (3, [some (some 1), some none])) [.inr (.inl (0, 14))] [some (.ref 0)] [.ref 0] jX3_1
  refine gPt_bipush (pc := 13) (v := 14) G hb (by decide +kernel : decode cX3_init 13 = .ok (.bipush 14, 2)) (by decide) ?_
  show gPt γ a0 1 14 15 (some (3, [some (some 1), some none])) [.inr (.inl (0, 14))] [some (.ref 0)] [.int 14, .ref 0] jX3_1
  refine gPt_newa (pc := 15) (n := 2) (N := 14) (t := 0) (aty := .int) G hb rfl ⟨by decide, by decide⟩ (gClW_of (by decide +kernel) (by decide)) rfl rfl ⟨by decide, by decide +kernel, by decide +kernel⟩ (fun _ => rfl) (fun ⟨_, h⟩ => by cases h) (fun _ => rfl) gw1_113 (by rw [hR]; exact ⟨by decide, by decide⟩) (by decide +kernel : decode cX3_init 15 = .ok (.newarray .int, 2)) ?_
  show gPt γ a0 2 28 17 (some (3, [some (some 1), some none])) [.inr (.inl (0, 14)), .inr (.inl (0, 14))] [some (.ref 0)] [.ref 2, .ref 0] jX3_2
  refine gPt_putF (pc := 17) (j := 1) (b := 2) (C := RX3) (T := TX3) (N := 2) (own := RX3) G hb ho hin tyX3 tyX3_ok nmX3 rfl (by decide) gin_3 gw2_32 rfl rfl (fun _ => ⟨rfl, rfl⟩) rfl (by decide +kernel : decode cX3_init 17 = .ok (.putfield 15, 3)) ?_
  show gPt γ a0 2 28 20 (some (3, [some (some 1), some (some 2)])) [.inr (.inl (0, 14)), .inr (.inl (0, 14))] [some (.ref 0)] [] jX3_2
  refine gPt_stands rfl ?_
  show gPt γ a0 2 28 20 none gyP [some (.ref 0)] [] jX3_3
  exact gPt_fin G hend (fun γ' G' hb' ho' hy' hR' he' hr' => fX3_init_s20 N G' (hb'.trans hb) (ho'.trans ho) hy' (hR'.trans hR) (he'.trans he) (hr'.trans hr) hE) rfl

/-! the constructor of PressureNet$Queues -/
def jX4_1 : gM := gAdd (fun _ _ => 0) 1 (fun _ => 0)
def jX4_2 : gM := gAdd jX4_1 2 (fun _ => 0)
def jX4_3 : gM := gAdd jX4_2 3 (fun _ => 0)
def jX4_4 : gM := gAdd jX4_3 4 (fun _ => 0)
def jX4_5 : gM := gAdd jX4_4 5 (fun _ => 0)
def jX4_6 : gM := gAdd jX4_5 6 (fun _ => 0)
def jX4_7 : gM := gAdd jX4_6 7 (fun _ => 0)
def jX4_8 : gM := gAdd jX4_7 8 (fun _ => 0)
def jX4_9 : gM := gAdd jX4_8 9 (fun _ => 0)
def jX4_10 : gM := gAdd jX4_9 0 (fun _ => 0)
def jX4_11 : gM := gU jX4_10 0 10 (-1)
def fX4_init_k81 (N : Nat) : gK :=
  s_aload 0 <| s_const (-1) <| s_put gyQ 4 10 <| s_vret
set_option maxRecDepth 100000 in
set_option maxHeartbeats 4000000 in
theorem fX4_init_s81 {γ : gG} {cs ss : Nat} {ε : gE5} (N : Nat) (G : gOK γ) (hb : gcc γ = cX4_init) (ho : gow γ = RX4) (hy : gly γ = gyQ) (hR : grm γ = { frames := 1, cells := 9, slots := 2900, locals := 12 }) (he : genv γ = ε) (hr : grt γ = none) (hE : gEnv ε) : gSm γ cs ss 81 (fX4_init_k81 N) := by
  unfold fX4_init_k81
  refine sm_aload_n (pc := 81) G hb (by decide +kernel : decode cX4_init 81 = .ok (.aload_n 0, 1)) rfl ?_
  refine sm_iconst (pc := 82) G hb (by decide +kernel : decode cX4_init 82 = .ok (.iconst (-1), 1)) (by decide) ?_
  refine sm_put (pc := 83) (ci := 4) (j := 10) (N := 12) (T := TX4) G hb ho hy tyX4 tyX4_ok nmX4 rfl (by decide) gin_4 gw1_149 rfl rfl (by decide +kernel : decode cX4_init 83 = .ok (.putfield 39, 3)) ?_
  exact sm_vret (pc := 86) G hb (by decide +kernel : decode cX4_init 86 = .ok (.return_, 1)) hr

set_option maxRecDepth 100000 in
set_option maxHeartbeats 8000000 in
theorem kX4_init {ε : gE5} (hE : gEnv ε) (N : Nat) : gCtrI ε yX4_init cX4_init 1 1 12 9 2900 4 (([some none, some none, some none, some none, some none, some none, some none, some none, some none, none, none, none] : List gX).map (gHv (fun _ => 0))) gyQ jX4_11 := by
  refine gCtrI_of ⟨by decide, rfl⟩ (by decide) rfl (fun γ a0 G hb ho hR he hr hin hend => ?_)
  refine gPt_aload (pc := 0) (q := 0) G hb (by decide +kernel : decode cX4_init 0 = .ok (.aload_n 0, 1)) rfl ?_
  show gPt γ a0 0 0 1 (some (4, [some none, some none, some none, some none, some none, some none, some none, some none, some none, none, none, none])) [] [some (.ref 0)] [.ref 0] (fun _ _ => 0)
  refine gPt_objInit (pc := 1) G hb (own := RX4) ho (by rw [hR]; exact ⟨by decide, by decide⟩) gw1_119 gw1_31 gw1_32 (by decide +kernel : decode cX4_init 1 = .ok (.invokespecial 3, 3)) ?_
  show gPt γ a0 0 0 4 (some (4, [some none, some none, some none, some none, some none, some none, some none, some none, some none, none, none, none])) [] [some (.ref 0)] [] (fun _ _ => 0)
  refine gPt_aload (pc := 4) (q := 0) G hb (by decide +kernel : decode cX4_init 4 = .ok (.aload_n 0, 1)) rfl ?_
  show gPt γ a0 0 0 5 (some (4, [some none, some none, some none, some none, some none, some none, some none, some none, some none, none, none, none])) [] [some (.ref 0)] [.ref 0] (fun _ _ => 0)
  refine gPt_bipush (pc := 5) (v := 100) G hb (by decide +kernel : decode cX4_init 5 = .ok (.bipush 100, 2)) (by decide) ?_
  show gPt γ a0 0 0 7 (some (4, [some none, some none, some none, some none, some none, some none, some none, some none, some none, none, none, none])) [] [some (.ref 0)] [.int 100, .ref 0] (fun _ _ => 0)
  refine gPt_newa (pc := 7) (n := 1) (N := 100) (t := 0) (aty := .int) G hb rfl ⟨by decide, by decide⟩ (gClW_of (by decide +kernel) (by decide)) rfl rfl ⟨by decide, by decide +kernel, by decide +kernel⟩ (fun _ => rfl) (fun ⟨_, h⟩ => by cases h) (fun _ => rfl) gw1_113 (by rw [hR]; exact ⟨by decide, by decide⟩) (by decide +kernel : decode cX4_init 7 = .ok (.newarray .int, 2)) ?_
  show gPt γ a0 1 100 9 (some (4, [some none, some none, some none, some none, some none, some none, some none, some none, some none, none, none, none])) [.inr (.inl (0, 100))] [some (.ref 0)] [.ref 1, .ref 0] jX4_1
  refine gPt_putF (pc := 9) (j := 0) (b := 1) (C := RX4) (T := TX4) (N := 12) (own := RX4) G hb ho hin tyX4 tyX4_ok nmX4 rfl (by decide) gin_4 gw1_120 rfl rfl (fun _ => ⟨rfl, rfl⟩) rfl (by decide +kernel : decode cX4_init 9 = .ok (.putfield 9, 3)) ?_
  show gPt γ a0 1 100 12 (some (4, [some (some 1), some none, some none, some none, some none, some none, some none, some none, some none, none, none, none])) [.inr (.inl (0, 100))] [some (.ref 0)] [] jX4_1
  refine gPt_aload (pc := 12) (q := 0) G hb (by decide +kernel : decode cX4_init 12 = .ok (.aload_n 0, 1)) rfl ?_
  show gPt γ a0 1 100 13 (some (4, [some (some 1), some none, some none, some none, some none, some none, some none, some none, some none, none, none, none])) [.inr (.inl (0, 100))] [some (.ref 0)] [.ref 0] jX4_1
  refine gPt_bipush (pc := 13) (v := 100) G hb (by decide +kernel : decode cX4_init 13 = .ok (.bipush 100, 2)) (by decide) ?_
  show gPt γ a0 1 100 15 (some (4, [some (some 1), some none, some none, some none, some none, some none, some none, some none, some none, none, none, none])) [.inr (.inl (0, 100))] [some (.ref 0)] [.int 100, .ref 0] jX4_1
  refine gPt_newa (pc := 15) (n := 2) (N := 100) (t := 0) (aty := .int) G hb rfl ⟨by decide, by decide⟩ (gClW_of (by decide +kernel) (by decide)) rfl rfl ⟨by decide, by decide +kernel, by decide +kernel⟩ (fun _ => rfl) (fun ⟨_, h⟩ => by cases h) (fun _ => rfl) gw1_113 (by rw [hR]; exact ⟨by decide, by decide⟩) (by decide +kernel : decode cX4_init 15 = .ok (.newarray .int, 2)) ?_
  show gPt γ a0 2 200 17 (some (4, [some (some 1), some none, some none, some none, some none, some none, some none, some none, some none, none, none, none])) [.inr (.inl (0, 100)), .inr (.inl (0, 100))] [some (.ref 0)] [.ref 2, .ref 0] jX4_2
  refine gPt_putF (pc := 17) (j := 1) (b := 2) (C := RX4) (T := TX4) (N := 12) (own := RX4) G hb ho hin tyX4 tyX4_ok nmX4 rfl (by decide) gin_4 gw1_122 rfl rfl (fun _ => ⟨rfl, rfl⟩) rfl (by decide +kernel : decode cX4_init 17 = .ok (.putfield 15, 3)) ?_
  show gPt γ a0 2 200 20 (some (4, [some (some 1), some (some 2), some none, some none, some none, some none, some none, some none, some none, none, none, none])) [.inr (.inl (0, 100)), .inr (.inl (0, 100))] [some (.ref 0)] [] jX4_2
  refine gPt_aload (pc := 20) (q := 0) G hb (by decide +kernel : decode cX4_init 20 = .ok (.aload_n 0, 1)) rfl ?_
  show gPt γ a0 2 200 21 (some (4, [some (some 1), some (some 2), some none, some none, some none, some none, some none, some none, some none, none, none, none])) [.inr (.inl (0, 100)), .inr (.inl (0, 100))] [some (.ref 0)] [.ref 0] jX4_2
  refine gPt_bipush (pc := 21) (v := 100) G hb (by decide +kernel : decode cX4_init 21 = .ok (.bipush 100, 2)) (by decide) ?_
  show gPt γ a0 2 200 23 (some (4, [some (some 1), some (some 2), some none, some none, some none, some none, some none, some none, some none, none, none, none])) [.inr (.inl (0, 100)), .inr (.inl (0, 100))] [some (.ref 0)] [.int 100, .ref 0] jX4_2
  refine gPt_newa (pc := 23) (n := 3) (N := 100) (t := 0) (aty := .int) G hb rfl ⟨by decide, by decide⟩ (gClW_of (by decide +kernel) (by decide)) rfl rfl ⟨by decide, by decide +kernel, by decide +kernel⟩ (fun _ => rfl) (fun ⟨_, h⟩ => by cases h) (fun _ => rfl) gw1_113 (by rw [hR]; exact ⟨by decide, by decide⟩) (by decide +kernel : decode cX4_init 23 = .ok (.newarray .int, 2)) ?_
  show gPt γ a0 3 300 25 (some (4, [some (some 1), some (some 2), some none, some none, some none, some none, some none, some none, some none, none, none, none])) [.inr (.inl (0, 100)), .inr (.inl (0, 100)), .inr (.inl (0, 100))] [some (.ref 0)] [.ref 3, .ref 0] jX4_3
  refine gPt_putF (pc := 25) (j := 2) (b := 3) (C := RX4) (T := TX4) (N := 12) (own := RX4) G hb ho hin tyX4 tyX4_ok nmX4 rfl (by decide) gin_4 gw1_123 rfl rfl (fun _ => ⟨rfl, rfl⟩) rfl (by decide +kernel : decode cX4_init 25 = .ok (.putfield 18, 3)) ?_
  show gPt γ a0 3 300 28 (some (4, [some (some 1), some (some 2), some (some 3), some none, some none, some none, some none, some none, some none, none, none, none])) [.inr (.inl (0, 100)), .inr (.inl (0, 100)), .inr (.inl (0, 100))] [some (.ref 0)] [] jX4_3
  refine gPt_aload (pc := 28) (q := 0) G hb (by decide +kernel : decode cX4_init 28 = .ok (.aload_n 0, 1)) rfl ?_
  show gPt γ a0 3 300 29 (some (4, [some (some 1), some (some 2), some (some 3), some none, some none, some none, some none, some none, some none, none, none, none])) [.inr (.inl (0, 100)), .inr (.inl (0, 100)), .inr (.inl (0, 100))] [some (.ref 0)] [.ref 0] jX4_3
  refine gPt_bipush (pc := 29) (v := 100) G hb (by decide +kernel : decode cX4_init 29 = .ok (.bipush 100, 2)) (by decide) ?_
  show gPt γ a0 3 300 31 (some (4, [some (some 1), some (some 2), some (some 3), some none, some none, some none, some none, some none, some none, none, none, none])) [.inr (.inl (0, 100)), .inr (.inl (0, 100)), .inr (.inl (0, 100))] [some (.ref 0)] [.int 100, .ref 0] jX4_3
  refine gPt_newa (pc := 31) (n := 4) (N := 100) (t := 0) (aty := .int) G hb rfl ⟨by decide, by decide⟩ (gClW_of (by decide +kernel) (by decide)) rfl rfl ⟨by decide, by decide +kernel, by decide +kernel⟩ (fun _ => rfl) (fun ⟨_, h⟩ => by cases h) (fun _ => rfl) gw1_113 (by rw [hR]; exact ⟨by decide, by decide⟩) (by decide +kernel : decode cX4_init 31 = .ok (.newarray .int, 2)) ?_
  show gPt γ a0 4 400 33 (some (4, [some (some 1), some (some 2), some (some 3), some none, some none, some none, some none, some none, some none, none, none, none])) [.inr (.inl (0, 100)), .inr (.inl (0, 100)), .inr (.inl (0, 100)), .inr (.inl (0, 100))] [some (.ref 0)] [.ref 4, .ref 0] jX4_4
  refine gPt_putF (pc := 33) (j := 3) (b := 4) (C := RX4) (T := TX4) (N := 12) (own := RX4) G hb ho hin tyX4 tyX4_ok nmX4 rfl (by decide) gin_4 gw1_128 rfl rfl (fun _ => ⟨rfl, rfl⟩) rfl (by decide +kernel : decode cX4_init 33 = .ok (.putfield 21, 3)) ?_
  show gPt γ a0 4 400 36 (some (4, [some (some 1), some (some 2), some (some 3), some (some 4), some none, some none, some none, some none, some none, none, none, none])) [.inr (.inl (0, 100)), .inr (.inl (0, 100)), .inr (.inl (0, 100)), .inr (.inl (0, 100))] [some (.ref 0)] [] jX4_4
  refine gPt_aload (pc := 36) (q := 0) G hb (by decide +kernel : decode cX4_init 36 = .ok (.aload_n 0, 1)) rfl ?_
  show gPt γ a0 4 400 37 (some (4, [some (some 1), some (some 2), some (some 3), some (some 4), some none, some none, some none, some none, some none, none, none, none])) [.inr (.inl (0, 100)), .inr (.inl (0, 100)), .inr (.inl (0, 100)), .inr (.inl (0, 100))] [some (.ref 0)] [.ref 0] jX4_4
  refine gPt_sipush (pc := 37) (v := 500) G hb (by decide +kernel : decode cX4_init 37 = .ok (.sipush 500, 3)) (by decide) ?_
  show gPt γ a0 4 400 40 (some (4, [some (some 1), some (some 2), some (some 3), some (some 4), some none, some none, some none, some none, some none, none, none, none])) [.inr (.inl (0, 100)), .inr (.inl (0, 100)), .inr (.inl (0, 100)), .inr (.inl (0, 100))] [some (.ref 0)] [.int 500, .ref 0] jX4_4
  refine gPt_newa (pc := 40) (n := 5) (N := 500) (t := 0) (aty := .int) G hb rfl ⟨by decide, by decide⟩ (gClW_of (by decide +kernel) (by decide)) rfl rfl ⟨by decide, by decide +kernel, by decide +kernel⟩ (fun _ => rfl) (fun ⟨_, h⟩ => by cases h) (fun _ => rfl) gw1_113 (by rw [hR]; exact ⟨by decide, by decide⟩) (by decide +kernel : decode cX4_init 40 = .ok (.newarray .int, 2)) ?_
  show gPt γ a0 5 900 42 (some (4, [some (some 1), some (some 2), some (some 3), some (some 4), some none, some none, some none, some none, some none, none, none, none])) [.inr (.inl (0, 100)), .inr (.inl (0, 100)), .inr (.inl (0, 100)), .inr (.inl (0, 100)), .inr (.inl (0, 500))] [some (.ref 0)] [.ref 5, .ref 0] jX4_5
  refine gPt_putF (pc := 42) (j := 4) (b := 5) (C := RX4) (T := TX4) (N := 12) (own := RX4) G hb ho hin tyX4 tyX4_ok nmX4 rfl (by decide) gin_4 gw1_132 rfl rfl (fun _ => ⟨rfl, rfl⟩) rfl (by decide +kernel : decode cX4_init 42 = .ok (.putfield 24, 3)) ?_
  show gPt γ a0 5 900 45 (some (4, [some (some 1), some (some 2), some (some 3), some (some 4), some (some 5), some none, some none, some none, some none, none, none, none])) [.inr (.inl (0, 100)), .inr (.inl (0, 100)), .inr (.inl (0, 100)), .inr (.inl (0, 100)), .inr (.inl (0, 500))] [some (.ref 0)] [] jX4_5
  refine gPt_aload (pc := 45) (q := 0) G hb (by decide +kernel : decode cX4_init 45 = .ok (.aload_n 0, 1)) rfl ?_
  show gPt γ a0 5 900 46 (some (4, [some (some 1), some (some 2), some (some 3), some (some 4), some (some 5), some none, some none, some none, some none, none, none, none])) [.inr (.inl (0, 100)), .inr (.inl (0, 100)), .inr (.inl (0, 100)), .inr (.inl (0, 100)), .inr (.inl (0, 500))] [some (.ref 0)] [.ref 0] jX4_5
  refine gPt_sipush (pc := 46) (v := 500) G hb (by decide +kernel : decode cX4_init 46 = .ok (.sipush 500, 3)) (by decide) ?_
  show gPt γ a0 5 900 49 (some (4, [some (some 1), some (some 2), some (some 3), some (some 4), some (some 5), some none, some none, some none, some none, none, none, none])) [.inr (.inl (0, 100)), .inr (.inl (0, 100)), .inr (.inl (0, 100)), .inr (.inl (0, 100)), .inr (.inl (0, 500))] [some (.ref 0)] [.int 500, .ref 0] jX4_5
  refine gPt_newa (pc := 49) (n := 6) (N := 500) (t := 0) (aty := .int) G hb rfl ⟨by decide, by decide⟩ (gClW_of (by decide +kernel) (by decide)) rfl rfl ⟨by decide, by decide +kernel, by decide +kernel⟩ (fun _ => rfl) (fun ⟨_, h⟩ => by cases h) (fun _ => rfl) gw1_113 (by rw [hR]; exact ⟨by decide, by decide⟩) (by decide +kernel : decode cX4_init 49 = .ok (.newarray .int, 2)) ?_
  show gPt γ a0 6 1400 51 (some (4, [some (some 1), some (some 2), some (some 3), some (some 4), some (some 5), some none, some none, some none, some none, none, none, none])) [.inr (.inl (0, 100)), .inr (.inl (0, 100)), .inr (.inl (0, 100)), .inr (.inl (0, 100)), .inr (.inl (0, 500)), .inr (.inl (0, 500))] [some (.ref 0)] [.ref 6, .ref 0] jX4_6
  refine gPt_putF (pc := 51) (j := 5) (b := 6) (C := RX4) (T := TX4) (N := 12) (own := RX4) G hb ho hin tyX4 tyX4_ok nmX4 rfl (by decide) gin_4 gw1_134 rfl rfl (fun _ => ⟨rfl, rfl⟩) rfl (by decide +kernel : decode cX4_init 51 = .ok (.putfield 27, 3)) ?_
  show gPt γ a0 6 1400 54 (some (4, [some (some 1), some (some 2), some (some 3), some (some 4), some (some 5), some (some 6), some none, some none, some none, none, none, none])) [.inr (.inl (0, 100)), .inr (.inl (0, 100)), .inr (.inl (0, 100)), .inr (.inl (0, 100)), .inr (.inl (0, 500)), .inr (.inl (0, 500))] [some (.ref 0)] [] jX4_6
  refine gPt_aload (pc := 54) (q := 0) G hb (by decide +kernel : decode cX4_init 54 = .ok (.aload_n 0, 1)) rfl ?_
  show gPt γ a0 6 1400 55 (some (4, [some (some 1), some (some 2), some (some 3), some (some 4), some (some 5), some (some 6), some none, some none, some none, none, none, none])) [.inr (.inl (0, 100)), .inr (.inl (0, 100)), .inr (.inl (0, 100)), .inr (.inl (0, 100)), .inr (.inl (0, 500)), .inr (.inl (0, 500))] [some (.ref 0)] [.ref 0] jX4_6
  refine gPt_sipush (pc := 55) (v := 500) G hb (by decide +kernel : decode cX4_init 55 = .ok (.sipush 500, 3)) (by decide) ?_
  show gPt γ a0 6 1400 58 (some (4, [some (some 1), some (some 2), some (some 3), some (some 4), some (some 5), some (some 6), some none, some none, some none, none, none, none])) [.inr (.inl (0, 100)), .inr (.inl (0, 100)), .inr (.inl (0, 100)), .inr (.inl (0, 100)), .inr (.inl (0, 500)), .inr (.inl (0, 500))] [some (.ref 0)] [.int 500, .ref 0] jX4_6
  refine gPt_newa (pc := 58) (n := 7) (N := 500) (t := 0) (aty := .int) G hb rfl ⟨by decide, by decide⟩ (gClW_of (by decide +kernel) (by decide)) rfl rfl ⟨by decide, by decide +kernel, by decide +kernel⟩ (fun _ => rfl) (fun ⟨_, h⟩ => by cases h) (fun _ => rfl) gw1_113 (by rw [hR]; exact ⟨by decide, by decide⟩) (by decide +kernel : decode cX4_init 58 = .ok (.newarray .int, 2)) ?_
  show gPt γ a0 7 1900 60 (some (4, [some (some 1), some (some 2), some (some 3), some (some 4), some (some 5), some (some 6), some none, some none, some none, none, none, none])) [.inr (.inl (0, 100)), .inr (.inl (0, 100)), .inr (.inl (0, 100)), .inr (.inl (0, 100)), .inr (.inl (0, 500)), .inr (.inl (0, 500)), .inr (.inl (0, 500))] [some (.ref 0)] [.ref 7, .ref 0] jX4_7
  refine gPt_putF (pc := 60) (j := 6) (b := 7) (C := RX4) (T := TX4) (N := 12) (own := RX4) G hb ho hin tyX4 tyX4_ok nmX4 rfl (by decide) gin_4 gw1_138 rfl rfl (fun _ => ⟨rfl, rfl⟩) rfl (by decide +kernel : decode cX4_init 60 = .ok (.putfield 30, 3)) ?_
  show gPt γ a0 7 1900 63 (some (4, [some (some 1), some (some 2), some (some 3), some (some 4), some (some 5), some (some 6), some (some 7), some none, some none, none, none, none])) [.inr (.inl (0, 100)), .inr (.inl (0, 100)), .inr (.inl (0, 100)), .inr (.inl (0, 100)), .inr (.inl (0, 500)), .inr (.inl (0, 500)), .inr (.inl (0, 500))] [some (.ref 0)] [] jX4_7
  refine gPt_aload (pc := 63) (q := 0) G hb (by decide +kernel : decode cX4_init 63 = .ok (.aload_n 0, 1)) rfl ?_
  show gPt γ a0 7 1900 64 (some (4, [some (some 1), some (some 2), some (some 3), some (some 4), some (some 5), some (some 6), some (some 7), some none, some none, none, none, none])) [.inr (.inl (0, 100)), .inr (.inl (0, 100)), .inr (.inl (0, 100)), .inr (.inl (0, 100)), .inr (.inl (0, 500)), .inr (.inl (0, 500)), .inr (.inl (0, 500))] [some (.ref 0)] [.ref 0] jX4_7
  refine gPt_sipush (pc := 64) (v := 500) G hb (by decide +kernel : decode cX4_init 64 = .ok (.sipush 500, 3)) (by decide) ?_
  show gPt γ a0 7 1900 67 (some (4, [some (some 1), some (some 2), some (some 3), some (some 4), some (some 5), some (some 6), some (some 7), some none, some none, none, none, none])) [.inr (.inl (0, 100)), .inr (.inl (0, 100)), .inr (.inl (0, 100)), .inr (.inl (0, 100)), .inr (.inl (0, 500)), .inr (.inl (0, 500)), .inr (.inl (0, 500))] [some (.ref 0)] [.int 500, .ref 0] jX4_7
  refine gPt_newa (pc := 67) (n := 8) (N := 500) (t := 0) (aty := .int) G hb rfl ⟨by decide, by decide⟩ (gClW_of (by decide +kernel) (by decide)) rfl rfl ⟨by decide, by decide +kernel, by decide +kernel⟩ (fun _ => rfl) (fun ⟨_, h⟩ => by cases h) (fun _ => rfl) gw1_113 (by rw [hR]; exact ⟨by decide, by decide⟩) (by decide +kernel : decode cX4_init 67 = .ok (.newarray .int, 2)) ?_
  show gPt γ a0 8 2400 69 (some (4, [some (some 1), some (some 2), some (some 3), some (some 4), some (some 5), some (some 6), some (some 7), some none, some none, none, none, none])) [.inr (.inl (0, 100)), .inr (.inl (0, 100)), .inr (.inl (0, 100)), .inr (.inl (0, 100)), .inr (.inl (0, 500)), .inr (.inl (0, 500)), .inr (.inl (0, 500)), .inr (.inl (0, 500))] [some (.ref 0)] [.ref 8, .ref 0] jX4_8
  refine gPt_putF (pc := 69) (j := 7) (b := 8) (C := RX4) (T := TX4) (N := 12) (own := RX4) G hb ho hin tyX4 tyX4_ok nmX4 rfl (by decide) gin_4 gw1_142 rfl rfl (fun _ => ⟨rfl, rfl⟩) rfl (by decide +kernel : decode cX4_init 69 = .ok (.putfield 33, 3)) ?_
  show gPt γ a0 8 2400 72 (some (4, [some (some 1), some (some 2), some (some 3), some (some 4), some (some 5), some (some 6), some (some 7), some (some 8), some none, none, none, none])) [.inr (.inl (0, 100)), .inr (.inl (0, 100)), .inr (.inl (0, 100)), .inr (.inl (0, 100)), .inr (.inl (0, 500)), .inr (.inl (0, 500)), .inr (.inl (0, 500)), .inr (.inl (0, 500))] [some (.ref 0)] [] jX4_8
  refine gPt_aload (pc := 72) (q := 0) G hb (by decide +kernel : decode cX4_init 72 = .ok (.aload_n 0, 1)) rfl ?_
  show gPt γ a0 8 2400 73 (some (4, [some (some 1), some (some 2), some (some 3), some (some 4), some (some 5), some (some 6), some (some 7), some (some 8), some none, none, none, none])) [.inr (.inl (0, 100)), .inr (.inl (0, 100)), .inr (.inl (0, 100)), .inr (.inl (0, 100)), .inr (.inl (0, 500)), .inr (.inl (0, 500)), .inr (.inl (0, 500)), .inr (.inl (0, 500))] [some (.ref 0)] [.ref 0] jX4_8
  refine gPt_sipush (pc := 73) (v := 500) G hb (by decide +kernel : decode cX4_init 73 = .ok (.sipush 500, 3)) (by decide) ?_
  show gPt γ a0 8 2400 76 (some (4, [some (some 1), some (some 2), some (some 3), some (some 4), some (some 5), some (some 6), some (some 7), some (some 8), some none, none, none, none])) [.inr (.inl (0, 100)), .inr (.inl (0, 100)), .inr (.inl (0, 100)), .inr (.inl (0, 100)), .inr (.inl (0, 500)), .inr (.inl (0, 500)), .inr (.inl (0, 500)), .inr (.inl (0, 500))] [some (.ref 0)] [.int 500, .ref 0] jX4_8
  refine gPt_newa (pc := 76) (n := 9) (N := 500) (t := 0) (aty := .int) G hb rfl ⟨by decide, by decide⟩ (gClW_of (by decide +kernel) (by decide)) rfl rfl ⟨by decide, by decide +kernel, by decide +kernel⟩ (fun _ => rfl) (fun ⟨_, h⟩ => by cases h) (fun _ => rfl) gw1_113 (by rw [hR]; exact ⟨by decide, by decide⟩) (by decide +kernel : decode cX4_init 76 = .ok (.newarray .int, 2)) ?_
  show gPt γ a0 9 2900 78 (some (4, [some (some 1), some (some 2), some (some 3), some (some 4), some (some 5), some (some 6), some (some 7), some (some 8), some none, none, none, none])) [.inr (.inl (0, 100)), .inr (.inl (0, 100)), .inr (.inl (0, 100)), .inr (.inl (0, 100)), .inr (.inl (0, 500)), .inr (.inl (0, 500)), .inr (.inl (0, 500)), .inr (.inl (0, 500)), .inr (.inl (0, 500))] [some (.ref 0)] [.ref 9, .ref 0] jX4_9
  refine gPt_putF (pc := 78) (j := 8) (b := 9) (C := RX4) (T := TX4) (N := 12) (own := RX4) G hb ho hin tyX4 tyX4_ok nmX4 rfl (by decide) gin_4 gw1_145 rfl rfl (fun _ => ⟨rfl, rfl⟩) rfl (by decide +kernel : decode cX4_init 78 = .ok (.putfield 36, 3)) ?_
  show gPt γ a0 9 2900 81 (some (4, [some (some 1), some (some 2), some (some 3), some (some 4), some (some 5), some (some 6), some (some 7), some (some 8), some (some 9), none, none, none])) [.inr (.inl (0, 100)), .inr (.inl (0, 100)), .inr (.inl (0, 100)), .inr (.inl (0, 100)), .inr (.inl (0, 500)), .inr (.inl (0, 500)), .inr (.inl (0, 500)), .inr (.inl (0, 500)), .inr (.inl (0, 500))] [some (.ref 0)] [] jX4_9
  refine gPt_stands rfl ?_
  show gPt γ a0 9 2900 81 none gyQ [some (.ref 0)] [] jX4_10
  exact gPt_fin G hend (fun γ' G' hb' ho' hy' hR' he' hr' => fX4_init_s81 N G' (hb'.trans hb) (ho'.trans ho) hy' (hR'.trans hR) (he'.trans he) (hr'.trans hr) hE) rfl

/-! the constructor of PressureNet$SetupText -/
def jX5_1 : gM := gAdd (fun _ _ => 0) 1 (fun _ => 0)
def jX5_2 : gM := gJn jX5_1 2 jX2_9
def jX5_3 : gM := gAdd jX5_2 0 (fun _ => 0)
def fX5_init_k24 (N : Nat) : gK :=
  s_vret
set_option maxRecDepth 100000 in
set_option maxHeartbeats 4000000 in
theorem fX5_init_s24 {γ : gG} {cs ss : Nat} {ε : gE5} (N : Nat) (G : gOK γ) (hb : gcc γ = cX5_init) (ho : gow γ = RX5) (hy : gly γ = gyT) (hR : grm γ = { frames := 2, cells := 10, slots := 951, locals := 32 }) (he : genv γ = ε) (hr : grt γ = none) (hE : gEnv ε) : gSm γ cs ss 24 (fX5_init_k24 N) := by
  unfold fX5_init_k24
  exact sm_vret (pc := 24) G hb (by decide +kernel : decode cX5_init 24 = .ok (.return_, 1)) hr

set_option maxRecDepth 100000 in
set_option maxHeartbeats 8000000 in
theorem kX5_init {ε : gE5} (hE : gEnv ε) (N : Nat) : gCtrI ε yX5_init cX5_init 1 2 32 10 951 5 (([some none, some none, none, none, none, none, none, none, none] : List gX).map (gHv (fun _ => 0))) gyT jX5_3 := by
  refine gCtrI_of ⟨by decide, rfl⟩ (by decide) rfl (fun γ a0 G hb ho hR he hr hin hend => ?_)
  refine gPt_aload (pc := 0) (q := 0) G hb (by decide +kernel : decode cX5_init 0 = .ok (.aload_n 0, 1)) rfl ?_
  show gPt γ a0 0 0 1 (some (5, [some none, some none, none, none, none, none, none, none, none])) [] [some (.ref 0)] [.ref 0] (fun _ _ => 0)
  refine gPt_objInit (pc := 1) G hb (own := RX5) ho (by rw [hR]; exact ⟨by decide, by decide⟩) gw1_224 gw1_31 gw1_32 (by decide +kernel : decode cX5_init 1 = .ok (.invokespecial 3, 3)) ?_
  show gPt γ a0 0 0 4 (some (5, [some none, some none, none, none, none, none, none, none, none])) [] [some (.ref 0)] [] (fun _ _ => 0)
  refine gPt_aload (pc := 4) (q := 0) G hb (by decide +kernel : decode cX5_init 4 = .ok (.aload_n 0, 1)) rfl ?_
  show gPt γ a0 0 0 5 (some (5, [some none, some none, none, none, none, none, none, none, none])) [] [some (.ref 0)] [.ref 0] (fun _ _ => 0)
  refine gPt_sipush (pc := 5) (v := 700) G hb (by decide +kernel : decode cX5_init 5 = .ok (.sipush 700, 3)) (by decide) ?_
  show gPt γ a0 0 0 8 (some (5, [some none, some none, none, none, none, none, none, none, none])) [] [some (.ref 0)] [.int 700, .ref 0] (fun _ _ => 0)
  refine gPt_newa (pc := 8) (n := 1) (N := 700) (t := 0) (aty := .int) G hb rfl ⟨by decide, by decide⟩ (gClW_of (by decide +kernel) (by decide)) rfl rfl ⟨by decide, by decide +kernel, by decide +kernel⟩ (fun _ => rfl) (fun ⟨_, h⟩ => by cases h) (fun _ => rfl) gw1_113 (by rw [hR]; exact ⟨by decide, by decide⟩) (by decide +kernel : decode cX5_init 8 = .ok (.newarray .int, 2)) ?_
  show gPt γ a0 1 700 10 (some (5, [some none, some none, none, none, none, none, none, none, none])) [.inr (.inl (0, 700))] [some (.ref 0)] [.ref 1, .ref 0] jX5_1
  refine gPt_putF (pc := 10) (j := 0) (b := 1) (C := RX5) (T := TX5) (N := 9) (own := RX5) G hb ho hin tyX5 tyX5_ok nmX5 rfl (by decide) gin_5 gw1_227 rfl rfl (fun _ => ⟨rfl, rfl⟩) rfl (by decide +kernel : decode cX5_init 10 = .ok (.putfield 9, 3)) ?_
  show gPt γ a0 1 700 13 (some (5, [some (some 1), some none, none, none, none, none, none, none, none])) [.inr (.inl (0, 700))] [some (.ref 0)] [] jX5_1
  refine gPt_aload (pc := 13) (q := 0) G hb (by decide +kernel : decode cX5_init 13 = .ok (.aload_n 0, 1)) rfl ?_
  show gPt γ a0 1 700 14 (some (5, [some (some 1), some none, none, none, none, none, none, none, none])) [.inr (.inl (0, 700))] [some (.ref 0)] [.ref 0] jX5_1
  refine gPt_make (pc := 14) (n := 2) (N := 11) (C := RX2) (host := "PressureNet") (T := TX2) (ci := 2) (y := yX2_init) (J := jX2_9) (layC := gyNet) (own := RX5) G hb ho he hE.1 rfl ⟨by decide, by decide⟩ (gClW_of (by decide +kernel) (by decide)) rfl rfl ⟨by decide +kernel, by decide⟩ (kX2_init hE N) rfl tyX2 tyX2_ok gin_2 (gFs2) gw1_225 gw1_40 gw1_3 ⟨rfl, rfl, by decide, by decide, by decide +kernel⟩ (Or.inr gw1_226) gw1_42 gw1_43 (by rw [hR]; exact ⟨by decide, by decide⟩) (by decide) (by rw [hR]; exact ⟨by decide, by decide⟩) (by decide +kernel : decode cX5_init 14 = .ok (.new 15, 3)) (by decide +kernel : decode cX5_init 17 = .ok (.dup, 1)) (by decide +kernel : decode cX5_init 18 = .ok (.invokespecial 17, 3)) ?_
  show gPt γ a0 10 951 21 (some (5, [some (some 1), some none, none, none, none, none, none, none, none])) [.inr (.inl (0, 700)), .inl (2, [none, none, none, some 3, some 4, some 5, some 6, some 7, some 8, some 9, some 10]), .inr (.inl (0, 14)), .inr (.inl (0, 14)), .inr (.inl (0, 14)), .inr (.inl (0, 14)), .inr (.inl (0, 14)), .inr (.inl (0, 4)), .inr (.inl (0, 66)), .inr (.inl (0, 100))] [some (.ref 0)] [.ref 2, .ref 0] jX5_2
  refine gPt_putF (pc := 21) (j := 1) (b := 2) (C := RX5) (T := TX5) (N := 9) (own := RX5) G hb ho hin tyX5 tyX5_ok nmX5 rfl (by decide) gin_5 gw1_228 rfl rfl (fun _ => ⟨rfl, rfl⟩) rfl (by decide +kernel : decode cX5_init 21 = .ok (.putfield 18, 3)) ?_
  show gPt γ a0 10 951 24 (some (5, [some (some 1), some (some 2), none, none, none, none, none, none, none])) [.inr (.inl (0, 700)), .inl (2, [none, none, none, some 3, some 4, some 5, some 6, some 7, some 8, some 9, some 10]), .inr (.inl (0, 14)), .inr (.inl (0, 14)), .inr (.inl (0, 14)), .inr (.inl (0, 14)), .inr (.inl (0, 14)), .inr (.inl (0, 4)), .inr (.inl (0, 66)), .inr (.inl (0, 100))] [some (.ref 0)] [] jX5_2
  refine gPt_stands rfl ?_
  show gPt γ a0 10 951 24 none gyT [some (.ref 0)] [] jX5_3
  exact gPt_fin G hend (fun γ' G' hb' ho' hy' hR' he' hr' => fX5_init_s24 N G' (hb'.trans hb) (ho'.trans ho) hy' (hR'.trans hR) (he'.trans he) (hr'.trans hr) hE) rfl

/-! the constructor of PressureNet$SlotRunner -/
def jX6_1 : gM := gJn (fun _ _ => 0) 1 jX3_3
def jX6_2 : gM := gAdd jX6_1 4 (fun _ => 0)
def jX6_3 : gM := gAdd jX6_2 5 (fun _ => 0)
def jX6_4 : gM := gAdd jX6_3 6 (fun _ => 0)
def jX6_5 : gM := gAdd jX6_4 0 (fun _ => 0)
def fX6_init_k39 (N : Nat) : gK :=
  s_vret
set_option maxRecDepth 100000 in
set_option maxHeartbeats 4000000 in
theorem fX6_init_s39 {γ : gG} {cs ss : Nat} {ε : gE5} (N : Nat) (G : gOK γ) (hb : gcc γ = cX6_init) (ho : gow γ = RX6) (hy : gly γ = gyR) (hR : grm γ = { frames := 2, cells := 6, slots := 128, locals := 32 }) (he : genv γ = ε) (hr : grt γ = none) (hE : gEnv ε) : gSm γ cs ss 39 (fX6_init_k39 N) := by
  unfold fX6_init_k39
  exact sm_vret (pc := 39) G hb (by decide +kernel : decode cX6_init 39 = .ok (.return_, 1)) hr

set_option maxRecDepth 100000 in
set_option maxHeartbeats 8000000 in
theorem kX6_init {ε : gE5} (hE : gEnv ε) (N : Nat) : gCtrI ε yX6_init cX6_init 1 2 32 6 128 6 (([some none, some none, some none, some none] : List gX).map (gHv (fun _ => 0))) gyR jX6_5 := by
  refine gCtrI_of ⟨by decide, rfl⟩ (by decide) rfl (fun γ a0 G hb ho hR he hr hin hend => ?_)
  refine gPt_aload (pc := 0) (q := 0) G hb (by decide +kernel : decode cX6_init 0 = .ok (.aload_n 0, 1)) rfl ?_
  show gPt γ a0 0 0 1 (some (6, [some none, some none, some none, some none])) [] [some (.ref 0)] [.ref 0] (fun _ _ => 0)
  refine gPt_objInit (pc := 1) G hb (own := RX6) ho (by rw [hR]; exact ⟨by decide, by decide⟩) gw2_22 gw1_31 gw1_32 (by decide +kernel : decode cX6_init 1 = .ok (.invokespecial 3, 3)) ?_
  show gPt γ a0 0 0 4 (some (6, [some none, some none, some none, some none])) [] [some (.ref 0)] [] (fun _ _ => 0)
  refine gPt_aload (pc := 4) (q := 0) G hb (by decide +kernel : decode cX6_init 4 = .ok (.aload_n 0, 1)) rfl ?_
  show gPt γ a0 0 0 5 (some (6, [some none, some none, some none, some none])) [] [some (.ref 0)] [.ref 0] (fun _ _ => 0)
  refine gPt_make (pc := 5) (n := 1) (N := 2) (C := RX3) (host := "PressureNet") (T := TX3) (ci := 3) (y := yX3_init) (J := jX3_3) (layC := gyP) (own := RX6) G hb ho he hE.1 rfl ⟨by decide, by decide⟩ (gClW_of (by decide +kernel) (by decide)) rfl rfl ⟨by decide +kernel, by decide⟩ (kX3_init hE N) rfl tyX3 tyX3_ok gin_3 (gFs3) gw2_23 gw2_24 gw1_8 ⟨rfl, rfl, by decide, by decide, by decide +kernel⟩ (Or.inr gw2_25) gw2_26 gw2_27 (by rw [hR]; exact ⟨by decide, by decide⟩) (by decide) (by rw [hR]; exact ⟨by decide, by decide⟩) (by decide +kernel : decode cX6_init 5 = .ok (.new 9, 3)) (by decide +kernel : decode cX6_init 8 = .ok (.dup, 1)) (by decide +kernel : decode cX6_init 9 = .ok (.invokespecial 11, 3)) ?_
  show gPt γ a0 3 30 12 (some (6, [some none, some none, some none, some none])) [.inl (3, [some 2, some 3]), .inr (.inl (0, 14)), .inr (.inl (0, 14))] [some (.ref 0)] [.ref 1, .ref 0] jX6_1
  refine gPt_putF (pc := 12) (j := 0) (b := 1) (C := RX6) (T := TX6) (N := 4) (own := RX6) G hb ho hin tyX6 tyX6_ok nmX6 rfl (by decide) gin_6 gw2_39 rfl rfl (fun _ => ⟨rfl, rfl⟩) rfl (by decide +kernel : decode cX6_init 12 = .ok (.putfield 12, 3)) ?_
  show gPt γ a0 3 30 15 (some (6, [some (some 1), some none, some none, some none])) [.inl (3, [some 2, some 3]), .inr (.inl (0, 14)), .inr (.inl (0, 14))] [some (.ref 0)] [] jX6_1
  refine gPt_aload (pc := 15) (q := 0) G hb (by decide +kernel : decode cX6_init 15 = .ok (.aload_n 0, 1)) rfl ?_
  show gPt γ a0 3 30 16 (some (6, [some (some 1), some none, some none, some none])) [.inl (3, [some 2, some 3]), .inr (.inl (0, 14)), .inr (.inl (0, 14))] [some (.ref 0)] [.ref 0] jX6_1
  refine gPt_bipush (pc := 16) (v := 70) G hb (by decide +kernel : decode cX6_init 16 = .ok (.bipush 70, 2)) (by decide) ?_
  show gPt γ a0 3 30 18 (some (6, [some (some 1), some none, some none, some none])) [.inl (3, [some 2, some 3]), .inr (.inl (0, 14)), .inr (.inl (0, 14))] [some (.ref 0)] [.int 70, .ref 0] jX6_1
  refine gPt_newa (pc := 18) (n := 4) (N := 70) (t := 0) (aty := .int) G hb rfl ⟨by decide, by decide⟩ (gClW_of (by decide +kernel) (by decide)) rfl rfl ⟨by decide, by decide +kernel, by decide +kernel⟩ (fun _ => rfl) (fun ⟨_, h⟩ => by cases h) (fun _ => rfl) gw1_113 (by rw [hR]; exact ⟨by decide, by decide⟩) (by decide +kernel : decode cX6_init 18 = .ok (.newarray .int, 2)) ?_
  show gPt γ a0 4 100 20 (some (6, [some (some 1), some none, some none, some none])) [.inl (3, [some 2, some 3]), .inr (.inl (0, 14)), .inr (.inl (0, 14)), .inr (.inl (0, 70))] [some (.ref 0)] [.ref 4, .ref 0] jX6_2
  refine gPt_putF (pc := 20) (j := 1) (b := 4) (C := RX6) (T := TX6) (N := 4) (own := RX6) G hb ho hin tyX6 tyX6_ok nmX6 rfl (by decide) gin_6 gw2_41 rfl rfl (fun _ => ⟨rfl, rfl⟩) rfl (by decide +kernel : decode cX6_init 20 = .ok (.putfield 18, 3)) ?_
  show gPt γ a0 4 100 23 (some (6, [some (some 1), some (some 4), some none, some none])) [.inl (3, [some 2, some 3]), .inr (.inl (0, 14)), .inr (.inl (0, 14)), .inr (.inl (0, 70))] [some (.ref 0)] [] jX6_2
  refine gPt_aload (pc := 23) (q := 0) G hb (by decide +kernel : decode cX6_init 23 = .ok (.aload_n 0, 1)) rfl ?_
  show gPt γ a0 4 100 24 (some (6, [some (some 1), some (some 4), some none, some none])) [.inl (3, [some 2, some 3]), .inr (.inl (0, 14)), .inr (.inl (0, 14)), .inr (.inl (0, 70))] [some (.ref 0)] [.ref 0] jX6_2
  refine gPt_bipush (pc := 24) (v := 14) G hb (by decide +kernel : decode cX6_init 24 = .ok (.bipush 14, 2)) (by decide) ?_
  show gPt γ a0 4 100 26 (some (6, [some (some 1), some (some 4), some none, some none])) [.inl (3, [some 2, some 3]), .inr (.inl (0, 14)), .inr (.inl (0, 14)), .inr (.inl (0, 70))] [some (.ref 0)] [.int 14, .ref 0] jX6_2
  refine gPt_newa (pc := 26) (n := 5) (N := 14) (t := 0) (aty := .int) G hb rfl ⟨by decide, by decide⟩ (gClW_of (by decide +kernel) (by decide)) rfl rfl ⟨by decide, by decide +kernel, by decide +kernel⟩ (fun _ => rfl) (fun ⟨_, h⟩ => by cases h) (fun _ => rfl) gw1_113 (by rw [hR]; exact ⟨by decide, by decide⟩) (by decide +kernel : decode cX6_init 26 = .ok (.newarray .int, 2)) ?_
  show gPt γ a0 5 114 28 (some (6, [some (some 1), some (some 4), some none, some none])) [.inl (3, [some 2, some 3]), .inr (.inl (0, 14)), .inr (.inl (0, 14)), .inr (.inl (0, 70)), .inr (.inl (0, 14))] [some (.ref 0)] [.ref 5, .ref 0] jX6_3
  refine gPt_putF (pc := 28) (j := 2) (b := 5) (C := RX6) (T := TX6) (N := 4) (own := RX6) G hb ho hin tyX6 tyX6_ok nmX6 rfl (by decide) gin_6 gw2_42 rfl rfl (fun _ => ⟨rfl, rfl⟩) rfl (by decide +kernel : decode cX6_init 28 = .ok (.putfield 22, 3)) ?_
  show gPt γ a0 5 114 31 (some (6, [some (some 1), some (some 4), some (some 5), some none])) [.inl (3, [some 2, some 3]), .inr (.inl (0, 14)), .inr (.inl (0, 14)), .inr (.inl (0, 70)), .inr (.inl (0, 14))] [some (.ref 0)] [] jX6_3
  refine gPt_aload (pc := 31) (q := 0) G hb (by decide +kernel : decode cX6_init 31 = .ok (.aload_n 0, 1)) rfl ?_
  show gPt γ a0 5 114 32 (some (6, [some (some 1), some (some 4), some (some 5), some none])) [.inl (3, [some 2, some 3]), .inr (.inl (0, 14)), .inr (.inl (0, 14)), .inr (.inl (0, 70)), .inr (.inl (0, 14))] [some (.ref 0)] [.ref 0] jX6_3
  refine gPt_bipush (pc := 32) (v := 14) G hb (by decide +kernel : decode cX6_init 32 = .ok (.bipush 14, 2)) (by decide) ?_
  show gPt γ a0 5 114 34 (some (6, [some (some 1), some (some 4), some (some 5), some none])) [.inl (3, [some 2, some 3]), .inr (.inl (0, 14)), .inr (.inl (0, 14)), .inr (.inl (0, 70)), .inr (.inl (0, 14))] [some (.ref 0)] [.int 14, .ref 0] jX6_3
  refine gPt_newa (pc := 34) (n := 6) (N := 14) (t := 0) (aty := .int) G hb rfl ⟨by decide, by decide⟩ (gClW_of (by decide +kernel) (by decide)) rfl rfl ⟨by decide, by decide +kernel, by decide +kernel⟩ (fun _ => rfl) (fun ⟨_, h⟩ => by cases h) (fun _ => rfl) gw1_113 (by rw [hR]; exact ⟨by decide, by decide⟩) (by decide +kernel : decode cX6_init 34 = .ok (.newarray .int, 2)) ?_
  show gPt γ a0 6 128 36 (some (6, [some (some 1), some (some 4), some (some 5), some none])) [.inl (3, [some 2, some 3]), .inr (.inl (0, 14)), .inr (.inl (0, 14)), .inr (.inl (0, 70)), .inr (.inl (0, 14)), .inr (.inl (0, 14))] [some (.ref 0)] [.ref 6, .ref 0] jX6_4
  refine gPt_putF (pc := 36) (j := 3) (b := 6) (C := RX6) (T := TX6) (N := 4) (own := RX6) G hb ho hin tyX6 tyX6_ok nmX6 rfl (by decide) gin_6 gw2_43 rfl rfl (fun _ => ⟨rfl, rfl⟩) rfl (by decide +kernel : decode cX6_init 36 = .ok (.putfield 25, 3)) ?_
  show gPt γ a0 6 128 39 (some (6, [some (some 1), some (some 4), some (some 5), some (some 6)])) [.inl (3, [some 2, some 3]), .inr (.inl (0, 14)), .inr (.inl (0, 14)), .inr (.inl (0, 70)), .inr (.inl (0, 14)), .inr (.inl (0, 14))] [some (.ref 0)] [] jX6_4
  refine gPt_stands rfl ?_
  show gPt γ a0 6 128 39 none gyR [some (.ref 0)] [] jX6_5
  exact gPt_fin G hend (fun γ' G' hb' ho' hy' hR' he' hr' => fX6_init_s39 N G' (hb'.trans hb) (ho'.trans ho) hy' (hR'.trans hR) (he'.trans he) (hr'.trans hr) hE) rfl

/-! the constructor of PressureNet$State -/
def jX7_1 : gM := gJn (fun _ _ => 0) 1 jX2_9
def jX7_2 : gM := gJn jX7_1 10 jX4_11
def jX7_3 : gM := gAdd jX7_2 0 (fun _ => 0)
def gzX7_0 : List gL := [.inl (2, [none, none, none, some 2, some 3, some 4, some 5, some 6, some 7, some 8, some 9]), .inr (.inl (0, 14)), .inr (.inl (0, 14)), .inr (.inl (0, 14)), .inr (.inl (0, 14)), .inr (.inl (0, 14)), .inr (.inl (0, 4)), .inr (.inl (0, 66)), .inr (.inl (0, 100)), .inl (4, [some 11, some 12, some 13, some 14, some 15, some 16, some 17, some 18, some 19, none, none, none]), .inr (.inl (0, 100)), .inr (.inl (0, 100)), .inr (.inl (0, 100)), .inr (.inl (0, 100)), .inr (.inl (0, 500)), .inr (.inl (0, 500)), .inr (.inl (0, 500)), .inr (.inl (0, 500)), .inr (.inl (0, 500))]
def fX7_init_k26 (N : Nat) : gK :=
  s_vret
set_option maxRecDepth 100000 in
set_option maxHeartbeats 4000000 in
theorem fX7_init_s26 {γ : gG} {cs ss : Nat} {ε : gE5} (N : Nat) (G : gOK γ) (hb : gcc γ = cX7_init) (ho : gow γ = RX7) (hy : gly γ = gyS) (hR : grm γ = { frames := 2, cells := 19, slots := 3163, locals := 32 }) (he : genv γ = ε) (hr : grt γ = none) (hE : gEnv ε) : gSm γ cs ss 26 (fX7_init_k26 N) := by
  unfold fX7_init_k26
  exact sm_vret (pc := 26) G hb (by decide +kernel : decode cX7_init 26 = .ok (.return_, 1)) hr

set_option maxRecDepth 100000 in
set_option maxHeartbeats 8000000 in
theorem kX7_init {ε : gE5} (hE : gEnv ε) (N : Nat) : gCtrI ε yX7_init cX7_init 1 2 32 19 3163 7 (([some none, some none, none, none] : List gX).map (gHv (fun _ => 0))) gyS jX7_3 := by
  refine gCtrI_of ⟨by decide, rfl⟩ (by decide) rfl (fun γ a0 G hb ho hR he hr hin hend => ?_)
  refine gPt_aload (pc := 0) (q := 0) G hb (by decide +kernel : decode cX7_init 0 = .ok (.aload_n 0, 1)) rfl ?_
  show gPt γ a0 0 0 1 (some (7, [some none, some none, none, none])) [] [some (.ref 0)] [.ref 0] (fun _ _ => 0)
  refine gPt_objInit (pc := 1) G hb (own := RX7) ho (by rw [hR]; exact ⟨by decide, by decide⟩) gw1_38 gw1_31 gw1_32 (by decide +kernel : decode cX7_init 1 = .ok (.invokespecial 3, 3)) ?_
  show gPt γ a0 0 0 4 (some (7, [some none, some none, none, none])) [] [some (.ref 0)] [] (fun _ _ => 0)
  refine gPt_aload (pc := 4) (q := 0) G hb (by decide +kernel : decode cX7_init 4 = .ok (.aload_n 0, 1)) rfl ?_
  show gPt γ a0 0 0 5 (some (7, [some none, some none, none, none])) [] [some (.ref 0)] [.ref 0] (fun _ _ => 0)
  refine gPt_make (pc := 5) (n := 1) (N := 11) (C := RX2) (host := "PressureNet") (T := TX2) (ci := 2) (y := yX2_init) (J := jX2_9) (layC := gyNet) (own := RX7) G hb ho he hE.1 rfl ⟨by decide, by decide⟩ (gClW_of (by decide +kernel) (by decide)) rfl rfl ⟨by decide +kernel, by decide⟩ (kX2_init hE N) rfl tyX2 tyX2_ok gin_2 (gFs2) gw1_39 gw1_40 gw1_3 ⟨rfl, rfl, by decide, by decide, by decide +kernel⟩ (Or.inr gw1_41) gw1_42 gw1_43 (by rw [hR]; exact ⟨by decide, by decide⟩) (by decide) (by rw [hR]; exact ⟨by decide, by decide⟩) (by decide +kernel : decode cX7_init 5 = .ok (.new 9, 3)) (by decide +kernel : decode cX7_init 8 = .ok (.dup, 1)) (by decide +kernel : decode cX7_init 9 = .ok (.invokespecial 11, 3)) ?_
  show gPt γ a0 9 251 12 (some (7, [some none, some none, none, none])) [.inl (2, [none, none, none, some 2, some 3, some 4, some 5, some 6, some 7, some 8, some 9]), .inr (.inl (0, 14)), .inr (.inl (0, 14)), .inr (.inl (0, 14)), .inr (.inl (0, 14)), .inr (.inl (0, 14)), .inr (.inl (0, 4)), .inr (.inl (0, 66)), .inr (.inl (0, 100))] [some (.ref 0)] [.ref 1, .ref 0] jX7_1
  refine gPt_putF (pc := 12) (j := 0) (b := 1) (C := RX7) (T := TX7) (N := 4) (own := RX7) G hb ho hin tyX7 tyX7_ok nmX7 rfl (by decide) gin_7 gw1_179 rfl rfl (fun _ => ⟨rfl, rfl⟩) rfl (by decide +kernel : decode cX7_init 12 = .ok (.putfield 12, 3)) ?_
  show gPt γ a0 9 251 15 (some (7, [some (some 1), some none, none, none])) [.inl (2, [none, none, none, some 2, some 3, some 4, some 5, some 6, some 7, some 8, some 9]), .inr (.inl (0, 14)), .inr (.inl (0, 14)), .inr (.inl (0, 14)), .inr (.inl (0, 14)), .inr (.inl (0, 14)), .inr (.inl (0, 4)), .inr (.inl (0, 66)), .inr (.inl (0, 100))] [some (.ref 0)] [] jX7_1
  refine gPt_aload (pc := 15) (q := 0) G hb (by decide +kernel : decode cX7_init 15 = .ok (.aload_n 0, 1)) rfl ?_
  show gPt γ a0 9 251 16 (some (7, [some (some 1), some none, none, none])) [.inl (2, [none, none, none, some 2, some 3, some 4, some 5, some 6, some 7, some 8, some 9]), .inr (.inl (0, 14)), .inr (.inl (0, 14)), .inr (.inl (0, 14)), .inr (.inl (0, 14)), .inr (.inl (0, 14)), .inr (.inl (0, 4)), .inr (.inl (0, 66)), .inr (.inl (0, 100))] [some (.ref 0)] [.ref 0] jX7_1
  refine gPt_make (pc := 16) (n := 10) (N := 12) (C := RX4) (host := "PressureNet") (T := TX4) (ci := 4) (y := yX4_init) (J := jX4_11) (layC := gyQ) (own := RX7) G hb ho he hE.1 rfl ⟨by decide, by decide⟩ (gClW_of (by decide +kernel) (by decide)) rfl rfl ⟨by decide +kernel, by decide⟩ (kX4_init hE N) rfl tyX4 tyX4_ok gin_4 (gFs4) gw1_114 gw1_115 gw1_4 ⟨rfl, rfl, by decide, by decide, by decide +kernel⟩ (Or.inr gw1_116) gw1_117 gw1_118 (by rw [hR]; exact ⟨by decide, by decide⟩) (by decide) (by rw [hR]; exact ⟨by decide, by decide⟩) (by decide +kernel : decode cX7_init 16 = .ok (.new 18, 3)) (by decide +kernel : decode cX7_init 19 = .ok (.dup, 1)) (by decide +kernel : decode cX7_init 20 = .ok (.invokespecial 20, 3)) ?_
  show gPt γ a0 19 3163 23 (some (7, [some (some 1), some none, none, none])) gzX7_0 [some (.ref 0)] [.ref 10, .ref 0] jX7_2
  refine gPt_putF (pc := 23) (j := 1) (b := 10) (C := RX7) (T := TX7) (N := 4) (own := RX7) G hb ho hin tyX7 tyX7_ok nmX7 rfl (by decide) gin_7 gw1_183 rfl rfl (fun _ => ⟨rfl, rfl⟩) rfl (by decide +kernel : decode cX7_init 23 = .ok (.putfield 21, 3)) ?_
  show gPt γ a0 19 3163 26 (some (7, [some (some 1), some (some 10), none, none])) gzX7_0 [some (.ref 0)] [] jX7_2
  refine gPt_stands rfl ?_
  show gPt γ a0 19 3163 26 none gyS [some (.ref 0)] [] jX7_3
  exact gPt_fin G hend (fun γ' G' hb' ho' hy' hR' he' hr' => fX7_init_s26 N G' (hb'.trans hb) (ho'.trans ho) hy' (hR'.trans hR) (he'.trans he) (hr'.trans hr) hE) rfl

