/-! ===== a slot: both sides alike ===== -/
theorem Wg.mono {B B' : Nat} {σ : St} (h : Wg B σ) (hb : B ≤ B') : Wg B' σ := by
  obtain ⟨hw, hg⟩ := h
  refine ⟨Wf.of hw (keepN.refl _) (wfC hw).2.2.2.2.2.2.2.1 (wfC hw).2.2.2.2.2.2.2.2 (fun f hf => ?_) (fun f hf => (wfF hw f hf).2.2.2.2.2.2) (fun a d ha hd => ?_) (wfP hw).1 (wfP hw).2, hg⟩
  · have := (wfF hw f hf).2.2.2.2.2.1
    omega
  · have := wfS hw a d ha hd
    exact ⟨by omega, this.2⟩
theorem STc.congr {I J : gM} {σ : St} (h : STc I σ) (he : ∀ k, k < 20 → J k = I k) : STc J σ := CT.congr h he
def tick (σ : St) : St := (up1 (up1 σ.1 7 (σ.1 7 + 1)) 8 (max (σ.1 8) σ.2.length), σ.2)
theorem tick_e (σ : St) : (tick σ).1 = up1 (up1 σ.1 7 (σ.1 7 + 1)) 8 (max (σ.1 8) σ.2.length) := rfl
theorem tick_n {σ : St} {x : Nat} (h7 : x ≠ 7) (h8 : x ≠ 8) : (tick σ).1 x = σ.1 x := by
  rw [tick_e, up1_n h8, up1_n h7]
theorem tick_7 {σ : St} : (tick σ).1 7 = σ.1 7 + 1 := by
  rw [tick_e, up1_n (by decide), up1_s]
theorem tick_8 {σ : St} : (tick σ).1 8 = max (σ.1 8) σ.2.length := by
  rw [tick_e, up1_s]
theorem tick_keep (σ : St) : keepN σ.1 (tick σ).1 := fun x _ x2 x3 _ _ => tick_n x2 x3
theorem tick_wf {B : Nat} {σ : St} (h : Wg B σ) (h7 : σ.1 7 < 10100) : Wg B (tick σ) := by
  obtain ⟨hw, hg⟩ := h
  have hf : ∀ f w, flp (tick σ).1 f w = flp σ.1 f w := fun f w => tick_n (by omega) (by omega)
  have h1 : Wf B ((tick σ).1, σ.2) := Wf.of (s := (tick σ).1) hw (tick_keep σ) (by rw [tick_7]; omega) (by
    rw [tick_8]
    have := (wfC hw).2.2.2.2.2.2.2.2
    have h2 := (wfP hw).1
    omega) (fun f hf2 => by rw [hf]; exact (wfF hw f hf2).2.2.2.2.2.1) (fun f hf2 => by rw [hf]; exact (wfF hw f hf2).2.2.2.2.2.2) (fun a d ha hd => by
    have e : shp (tick σ).1 a d = shp σ.1 a d := tick_n (by omega) (by omega)
    rw [e]; exact wfS hw a d ha hd) (wfP hw).1 (fun p hp => by
    obtain ⟨p1, p2, p3⟩ := (wfP hw).2 p hp
    rw [tick_7]
    exact ⟨p1, by omega, p3⟩)
  exact ⟨h1, fun f hf2 => by rw [hf]; exact hg f hf2⟩
theorem tick_qs (σ : St) : qsq (tick σ) = qsq σ := by
  funext q
  exact inq_congr (fun p _ => tick_n (x := 65 + 11 * p.1 + 1) (by omega) (by omega))
theorem tick_c {I : gM} {σ : St} (h : STc I σ) (h1 : σ.1 1 ≤ 14) (h2 : σ.1 2 ≤ 6) : STc (gU (gU I 0 2 (nI (σ.1 7 + 1))) 0 3 (nI (max (σ.1 8) σ.2.length))) (tick σ) := by
  obtain ⟨hn, hs, hq⟩ := h
  refine ⟨?_, ⟨?_, ?_, fun q hq2 => ?_⟩, ?_⟩
  · refine CN.congr (I := I) ((hn.far (i := 7) h1 h2 (Or.inl rfl)).far (i := 8) ?_ ?_ (Or.inr (Or.inl rfl))) (fun k k1 k2 => by rw [gU_ok (by omega), gU_ok (by omega)])
    · rw [up1_n (by decide)]; exact h1
    · rw [up1_n (by decide)]; exact h2
  · rw [gU_un (Or.inr (by decide)), gU_us, tick_7]
  · rw [gU_us, tick_8]
  · rw [gU_ok (by decide), gU_ok (by decide), tick_n (by omega) (by omega)]; exact hs.2.2 q hq2
  · rw [tick_qs]
    exact CQ.congr hq (fun k k1 _ _ => by rw [gU_ok (by omega), gU_ok (by omega)])
theorem s_slot {N B : Nat} {σ : St} {I M : gM} (hc : STc (gS (rg 7 20) I) σ) (hr : RowIs (M 3) σ) (hwg : Wg B σ) (hB : B + 110 ≤ 2000000) (h7 : σ.1 7 < 10100) (hN : 1000 ≤ N) :
    ∃ (J M' : gM) (σ' : St), fX6_passSlot N [.ref 0, .ref 7] I = some (.inl none, J) ∧ fX9_slot N [.ref 0] M = some (.inl none, M') ∧ STc (gS (rg 7 20) J) σ' ∧ RowIs (M' 3) σ' ∧ Wg (B + 110) σ' ∧ keepN σ.1 σ'.1 ∧ σ'.1 7 = σ.1 7 + 1 ∧ (∀ j, j ≠ 23 → j ≠ 24 → j ≠ 28 → M' 0 j = M 0 j) ∧ ∀ j, j ≠ 0 → j ≠ 3 → (j < 7 ∨ 16 ≤ j) → M' j = M j := by
  have hw := hwg.1
  obtain ⟨c0, c1, c2, c3, c4, c5, c6, c7, c8⟩ := wfC hw
  have l0 : (0 : Int32) = nI 0 := rfl
  have l1 : (1 : Int32) = nI 1 := rfl
  have l3 : (3 : Int32) = nI 3 := rfl
  have l6 : (6 : Int32) = nI 6 := rfl
  have l7 : (7 : Int32) = nI 7 := rfl
  have l8 : (8 : Int32) = nI 8 := rfl
  have l245 : (245 : Int32) = nI 245 := rfl
  have hFl : ∀ f, f < σ.1 2 → flp σ.1 f 0 < 10 ∧ flp σ.1 f 1 < 10 ∧ flp σ.1 f 2 ≤ 300 := fun f hf => by
    obtain ⟨f0, f1, f2, f3, -⟩ := wfF hw f hf
    exact ⟨by omega, by omega, f3⟩
  -- arrivals
  obtain ⟨A, a0, a1, a2⟩ := pX9_arrivals (N := N) (σ := σ) (M := gS (rg 0 18) M) (by rw [gSm18 (by decide)]; exact hr) (wfP hw).1 c2 c4 c7 hFl hN
  obtain ⟨w1, wk, w7, w8⟩ := arvAll_wf hwg (σ.1 2) (Nat.le_refl _)
  have harr : ∀ m i : Nat, i ≤ σ.1 2 → σ.1 2 - i < m → ∀ K : gM, STc (gS (rg 7 20) K) (arvAll σ i) → ∃ K' : gM, hX6_passSlot_2 N m (nI i) K = hX6_passSlot_2 N 1 (nI (σ.1 2)) K' ∧ STc (gS (rg 7 20) K') (arvAll σ (σ.1 2)) := by
    intro m
    induction m with
    | zero => intro i _ h; omega
    | succ m ih =>
      intro i hi hm K hK
      obtain ⟨v1, vk, v7, v8⟩ := arvAll_wf hwg i hi
      have e2 : K 8 2 = nI (σ.1 2) := by
        have := hK.1.1.2.2
        rw [gS7 (by decide)] at this
        rw [this, vk.lo (by decide)]
      by_cases hin : i = σ.1 2
      · subst hin
        refine ⟨K, ?_, hK⟩
        rw [eX6_passSlot_2, eX6_passSlot_2, e2, if_pos ((cge (by omega) (by omega)).mpr (Nat.le_refl _)), if_pos ((cge (by omega) (by omega)).mpr (Nat.le_refl _))]
      · obtain ⟨J, j0, j1⟩ := arvS_c (N := N) (f := i) hK v1 (by rw [vk.lo (by decide)]; omega) hN
        rw [eX6_passSlot_2, e2, if_neg (fun z => hin (by have := (cge (by omega) (by omega)).mp z; omega)), j0, hV_mk, l1, nI_add]
        exact ih (i + 1) (by omega) (by omega) _ (j1.congr (fun k hk => gM7 k hk))
  obtain ⟨K1, k0, k1⟩ := harr N 0 (Nat.zero_le _) (by omega) I hc
  generalize arvAll σ (σ.1 2) = σ1 at *
  have hw1 := w1.1
  obtain ⟨d0, d1, d2, d3, d4, d5, d6, d7, d8⟩ := wfC hw1
  -- the schedule
  obtain ⟨ds, hds⟩ := CN.ds k1.1
  have hds' : ∀ a b, a < σ1.1 0 → b < σ1.1 0 → isD σ1.1 a b (ds a b) := fun a b ha hb => (hds a b ha hb).1
  have e6 : K1 14 3 = nI (σ1.1 6) := by
    have := k1.1.2.2.1 3 (by decide)
    rw [gS7 (by decide)] at this; exact this
  have hc3 : STc (gS (rg 3 20) (gS (rg 1 3 ++ rg 7 20) K1)) σ1 := k1.congr (fun k hk => by
    rw [gS3 hk, gS7 hk]
    have : ∀ k, k < 20 → gr (rg 1 3 ++ rg 7 20) (3 + k) = 7 + k := by decide
    show K1 (gr (rg 1 3 ++ rg 7 20) (3 + k)) = _
    rw [this k hk])
  obtain ⟨C, S, s0, s1, s2, s3⟩ := s_choose (N := N) (sc := σ1.1 6) hc3 hw1 (by omega) hds' d6 hN
  have a3 : RowIs (gMg (rg 0 18) M A 3) σ1 := by rw [gM18 (by decide)]; exact a1
  obtain ⟨D, T, t0, t1, t2, -, t4, t5⟩ := pX9_scheduleBy (N := N) (sc := σ1.1 6) (M := gS (rg 0 18) (gMg (rg 0 18) M A)) (σ := σ1) (ds := ds) (by rw [gSm18 (by decide)]; exact a3) hw1 (by omega) hds' d6 hN
  have hST := sel_one hw1 (by omega) hds' s1 t1
  subst hST
  -- transmit
  have hc7 : STc (gS (rg 7 20) (gS (rg 0 27) (gMg (rg 1 3 ++ rg 7 20) K1 C))) σ1 := k1.congr (fun k hk => by
    rw [st27 k hk, gS7 hk, gS7 hk]
    have : ∀ k, k < 20 → gIx (rg 1 3 ++ rg 7 20) (7 + k) = some (3 + k) := by decide
    show gMg _ _ _ (7 + k) = _
    unfold gMg
    rw [this k hk]
    show C (3 + k) = _
    rw [s3 (3 + k) (by omega) (by omega)]
    have h2 : ∀ k, k < 20 → gr (rg 1 3 ++ rg 7 20) (3 + k) = 7 + k := by decide
    show K1 (gr (rg 1 3 ++ rg 7 20) (3 + k)) = _
    rw [h2 k hk])
  have hr2 : RowIs (gS (rg 0 18) (gMg (rg 0 18) (gMg (rg 0 18) M A) D) 3) σ1 := by
    rw [gSm18 (by decide), gM18 (by decide), t4 3 (by decide) (by decide), gSm18 (by decide)]; exact a3
  obtain ⟨J, M', σ2, u0, u1, u2, u3, u4, u5, u6, u7, u8, u9, u10⟩ := s_transmit (N := N) (I := gS (rg 0 27) (gMg (rg 1 3 ++ rg 7 20) K1 C)) (M := gS (rg 0 18) (gMg (rg 0 18) (gMg (rg 0 18) M A) D)) hc7 hr2 w1 (by omega) s1 (fun k hk => by
    rw [gS27 (by decide)]
    have : gMg (rg 1 3 ++ rg 7 20) K1 C 2 = C 1 := rfl
    rw [this]; exact (s2 k hk).1) (fun k hk => by rw [gSm18 (by decide), gM18 (by decide)]; exact (t2 k hk).1) hN
  -- expire
  have hw2 := u4.1
  obtain ⟨J4, M4, x0, x1, x2, x3, x4⟩ := s_expire (N := N) (I := gS (rg 7 20) (gMg (rg 0 27) (gMg (rg 1 3 ++ rg 7 20) K1 C) J)) (M := gS (rg 0 18) (gMg (rg 0 18) (gMg (rg 0 18) (gMg (rg 0 18) M A) D) M')) (u2.congr (fun k hk => st27m k hk)) (by rw [gSm18 (by decide), gM18 (by decide)]; exact u3) u4 hN
  have hw3 := expS_wf u4
  have hk3 := expS_keep hw2
  have e37 : (expS σ2).1 7 = σ2.1 7 := expS_n hw2 (fun f _ => by omega)
  generalize expS σ2 = σ3 at *
  obtain ⟨f0, f1, f2, f3, f4, f5, f6, f7, f8⟩ := wfC hw3.1
  have e7 : σ3.1 7 = σ.1 7 := by rw [e37, u6, w7]
  have hlen := (wfP hw3.1).1
  -- the class's end
  have hcend : ∃ J', hX6_passSlot_46 N (gMg (rg 0 27) (gMg (rg 1 3 ++ rg 7 20) K1 C) J) = some (.inl none, J') ∧ STc (gS (rg 7 20) J') (tick σ3) := by
    have i2 : gMg (rg 7 20) (gMg (rg 0 27) (gMg (rg 1 3 ++ rg 7 20) K1 C) J) J4 7 = J4 0 := gMg_rgi (b := 7) (j := 0) (by decide)
    have i17 : gMg (rg 7 20) (gMg (rg 0 27) (gMg (rg 1 3 ++ rg 7 20) K1 C) J) J4 17 = J4 10 := gMg_rgi (b := 7) (j := 10) (by decide)
    have b2' : J4 0 2 = nI (σ3.1 7) := x2.2.1.1
    have b3 : J4 0 3 = nI (σ3.1 8) := x2.2.1.2.1
    have b11 : J4 10 11 = nI σ3.2.length := by
      have := (x2.2.2.toq.P).1
      rw [gS10 (by decide)] at this; exact this
    have ea : gb_add (nI (σ3.1 7)) (nI 1) = nI (σ3.1 7 + 1) := nI_add _ _
    rw [eX6_passSlot_46, x0, hV_mk, i2, i17, b2', b3, b11, l1, ea, jmax (by omega) (by omega)]
    refine ⟨_, rfl, (tick_c x2 f1 f2).congr (fun k hk => ?_)⟩
    rw [gS7 hk]
    by_cases hk0 : k = 0
    · subst hk0
      show gU (gU _ 7 2 _) 7 3 _ 7 = gU (gU J4 0 2 _) 0 3 _ 0
      rw [gU_u3, gU_u3, gU_u3, gU_u3, i2]
    · rw [gU_ok (by omega), gU_ok (by omega), gU_ok hk0, gU_ok hk0]
      exact gMg_rgi (b := 7) (j := k) hk
  obtain ⟨J', y0, y1⟩ := hcend
  have hX : RowIs (gMg (rg 0 18) (gMg (rg 0 18) (gMg (rg 0 18) (gMg (rg 0 18) M A) D) M') M4 3) σ3 := by rw [gM18 (by decide)]; exact x3
  have hX4 : ∀ j, j ≠ 3 → j ≠ 7 → gMg (rg 0 18) (gMg (rg 0 18) (gMg (rg 0 18) (gMg (rg 0 18) M A) D) M') M4 j = gMg (rg 0 18) (gMg (rg 0 18) (gMg (rg 0 18) M A) D) M' j := fun j j3 j7 => rlift (t := fun j => j = 3 ∨ j = 7) (fun j hj => x4 j (fun e => hj (Or.inl e)) (fun e => hj (Or.inr e))) j (fun z => by omega)
  have hX3 : ∀ j, j ≠ 0 → j ≠ 3 → j ≠ 7 → j ≠ 13 → j ≠ 14 → j ≠ 15 → gMg (rg 0 18) (gMg (rg 0 18) (gMg (rg 0 18) M A) D) M' j = gMg (rg 0 18) (gMg (rg 0 18) M A) D j := fun j z0 z3 z7 z13 z14 z15 => rlift (t := fun j => j = 0 ∨ j = 3 ∨ j = 7 ∨ j = 13 ∨ j = 14 ∨ j = 15) (fun j hj => u10 j (fun e => hj (by omega)) (fun e => hj (by omega)) (fun e => hj (by omega)) (fun e => hj (by omega)) (fun e => hj (by omega)) (fun e => hj (by omega))) j (fun z => by omega)
  have hX2 : ∀ j, j ≠ 0 → (j < 8 ∨ 13 ≤ j) → gMg (rg 0 18) (gMg (rg 0 18) M A) D j = gMg (rg 0 18) M A j := fun j z0 zj => rlift (t := fun j => j = 0 ∨ ¬ (j < 8 ∨ 13 ≤ j)) (fun j hj => t4 j (fun e => hj (Or.inl e)) (Classical.not_not.mp (fun e => hj (Or.inr e)))) j (fun z => z.elim z0 (fun y => y zj))
  have hX1 : ∀ j, j ≠ 3 → gMg (rg 0 18) M A j = M j := rlift (t := fun j => j = 3) a2
  generalize hXe : gMg (rg 0 18) (gMg (rg 0 18) (gMg (rg 0 18) (gMg (rg 0 18) M A) D) M') M4 = X at hX hX4
  have b7 : X 3 7 = nI (σ3.1 7) := hX.1 7 (by decide)
  have b8 : X 3 8 = nI (σ3.1 8) := hX.1 8 (by decide)
  have b245 : X 3 245 = nI σ3.2.length := hX.2.1
  have n7 : (nI 7).toNatClampNeg = 7 := nI_clamp (by decide)
  have n8 : (nI 8).toNatClampNeg = 8 := nI_clamp (by decide)
  have n245 : (nI 245).toNatClampNeg = 245 := nI_clamp (by decide)
  have n6 : (nI 6).toNatClampNeg = 6 := nI_clamp (by decide)
  have g6 : gMg (rg 0 18) M A 3 6 = nI (σ1.1 6) := a3.1 6 (by decide)
  have ea : gb_add (nI (σ3.1 7)) (nI 1) = nI (σ3.1 7 + 1) := nI_add _ _
  have e82 : K1 8 2 = nI (σ.1 2) := by
    have := k1.1.1.2.2
    rw [gS7 (by decide)] at this
    rw [this, wk.lo (by decide)]
  have hcl : fX6_passSlot N [.ref 0, .ref 7] I = some (.inl none, J') := by
    rw [eX6_passSlot, eX6_passSlot_0, l0, k0, eX6_passSlot_2, e82, if_pos ((cge (by omega) (by omega)).mpr (Nat.le_refl _)), l3, ckI (by decide) (by decide), nI_clamp (n := 3) (by decide), e6, s0, hI_mk, u0, hV_mk, y0]
  have hrf : fX9_slot N [.ref 0] M = some (.inl none, gU (gU X 3 7 (nI (σ3.1 7 + 1))) 3 8 (nI (max (σ3.1 8) σ3.2.length))) := by
    rw [eX9_slot, eX9_slot_0, a0, hV_mk, l6, ckI (by decide) (by decide), n6, g6, t0, hI_mk, u1, hV_mk, eX9_slot_19, x1, hV_mk, hXe, l7, l8, l245, ckI (by decide) (by decide), ckI (by decide) (by decide), ckI (by decide) (by decide), ckI (by decide) (by decide), ckI (by decide) (by decide), n7, n8, n245, b7, l1, ea, gU_un (k' := 3) (j' := 8) (Or.inr (by decide)), gU_un (k' := 3) (j' := 245) (Or.inr (by decide)), b8, b245, jmax (by omega) (by omega)]
  have hall : ∀ j, j ≠ 3 → j ≠ 7 → j ≠ 0 → j ≠ 13 → j ≠ 14 → j ≠ 15 → (j < 8 ∨ 13 ≤ j) → X j = M j := fun j j3 j7 j0 j13 j14 j15 jb => by rw [hX4 j j3 j7, hX3 j j0 j3 j7 j13 j14 j15, hX2 j j0 jb, hX1 j j3]
  refine ⟨J', _, tick σ3, hcl, hrf, y1, ?_, (tick_wf hw3 (by omega)).mono (by omega), ((wk.tr u5).tr hk3).tr (tick_keep σ3), by rw [tick_7, e7], fun j h1 h2 h3 => ?_, fun j h1 h2 h3 => ?_⟩
  · rw [gU_u3, gU_u3]
    exact (hX.put (k := 7) (by decide)).put (k := 8) (by decide)
  · rw [gU_ok (by decide), gU_ok (by decide), hX4 0 (by decide) (by decide)]
    have q1 : gMg (rg 0 18) (gMg (rg 0 18) (gMg (rg 0 18) M A) D) M' 0 j = M' 0 j := by rw [gM18 (by decide)]
    rw [q1, u9 j h3, gSm18 (by decide), gM18 (by decide), t5 j h1 h2, gSm18 (by decide), hX1 0 (by decide)]
  · rw [gU_ok h2, gU_ok h2]
    exact hall j h2 (by omega) h1 (by omega) (by omega) (by omega) (by omega)
