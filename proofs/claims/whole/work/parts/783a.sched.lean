/-! ===== schedules of both sides: one set ===== -/
theorem gIx_at : ∀ (ρ : List Nat) (p j : Nat), gIx ρ p = some j → ρ[j]? = some p
  | [], p, j, h => by cases h
  | a :: t, p, j, h => by
    have h' : (if a = p then some 0 else match gIx t p with
    | some j => some (j + 1)
    | none => none) = some j := h
    by_cases e : a = p
    · rw [if_pos e] at h'
      cases h'
      rw [e]; rfl
    · rw [if_neg e] at h'
      cases hg : gIx t p with
      | none => rw [hg] at h'; cases h'
      | some i =>
        rw [hg] at h'
        have h2 : some (i + 1) = some j := h'
        cases h2
        show t[i]? = some p
        exact gIx_at t p i hg
/-- what comes back untouched -/
theorem gMg_gS (ρ : List Nat) (I : gM) (hl : ρ.length ≤ 1000) : gMg ρ I (gS ρ I) = I := by
  funext p
  unfold gMg
  cases h : gIx ρ p with
  | none => rfl
  | some j =>
    have h1 := gIx_at ρ p j h
    have h2 := (List.getElem?_eq_some_iff.mp h1).1
    show I (gr ρ j) = I p
    unfold gr
    rw [if_pos (by omega), List.getD_eq_getElem?_getD, h1]
    rfl
theorem gS_at {ρ : List Nat} {I : gM} {j p : Nat} (h : ρ[j]? = some p) (hj : j < 1000) : gS ρ I j = I p := by
  show I (gr ρ j) = I p
  unfold gr
  rw [if_pos hj, List.getD_eq_getElem?_getD, h]
  rfl
theorem sub_neg {a b : Nat} (h : a < b) (hb : b < 2 ^ 31) : ¬ nI 0 < nI a - nI b := by
  intro hl
  have e : nI a + (nI b - nI a) = nI b := by rw [pk_sub (by omega), nI_add]; congr 1; omega
  have e2 : nI a - nI b = nI (2 ^ 32 - (b - a)) := by
    apply Int32.toBitVec_inj.mp
    show BitVec.ofNat 32 a - BitVec.ofNat 32 b = BitVec.ofNat 32 (2 ^ 32 - (b - a))
    apply BitVec.eq_of_toNat_eq
    rw [BitVec.toNat_sub, BitVec.toNat_ofNat, BitVec.toNat_ofNat, BitVec.toNat_ofNat]
    omega
  have h3 : (nI a - nI b).toInt < 0 := by
    rw [e2]
    show (BitVec.ofNat 32 (2 ^ 32 - (b - a))).toInt < 0
    rw [BitVec.toInt_eq_toNat_cond, BitVec.toNat_ofNat]
    split <;> omega
  have h4 := Int32.lt_iff_toInt_lt.mp hl
  have h5 : (nI 0).toInt = 0 := by decide
  omega
theorem wfo_b {lv ds : Nat → Nat → Nat} {bias a b M : Nat} : ∀ n, (∀ g, g < n → lv a g + bias * ds a g ≤ M ∧ lv b g + bias * ds b g ≤ M) → ∃ x y, x ≤ M ∧ y ≤ M ∧ (wfo lv ds bias a b n).2 = nI x - nI y
  | 0, _ => ⟨0, 0, Nat.zero_le _, Nat.zero_le _, show (0 : Int32) = nI 0 - nI 0 by decide⟩
  | n + 1, h => by
    rw [wfo_s]
    obtain ⟨x, y, h1, h2, h3⟩ := wfo_b n (fun g hg => h g (by omega))
    have h4 := h n (Nat.lt_succ_self _)
    generalize wfo lv ds bias a b n = z at h3
    unfold wst
    by_cases c1 : 0 < lv a n
    · rw [if_pos c1]
      by_cases c2 : z.1 = mI ∨ z.2 < nI (lv a n + bias * ds a n) - nI (lv b n + bias * ds b n)
      · rw [if_pos c2]; exact ⟨_, _, h4.1, h4.2, rfl⟩
      · rw [if_neg c2]; exact ⟨x, y, h1, h2, h3⟩
    · rw [if_neg c1]; exact ⟨x, y, h1, h2, h3⟩
theorem i_mul_sub (c x y : Nat) : nI c * (nI x - nI y) = nI (c * x) - nI (c * y) := by
  apply Int32.toBitVec_inj.mp
  show BitVec.ofNat 32 c * (BitVec.ofNat 32 x - BitVec.ofNat 32 y) = BitVec.ofNat 32 (c * x) - BitVec.ofNat 32 (c * y)
  rw [BitVec.ofNat_mul, BitVec.ofNat_mul, BitVec.mul_sub]
theorem wgN_le {r : Nat → Nat} {lv ds : Nat → Nat → Nat} {k M : Nat} (hc : lkp r k 2 ≤ 5) (hM : M ≤ 3000000) (h : ∀ g, g < r 0 → lv (lkp r k 0) g + r 5 * ds (lkp r k 0) g ≤ M ∧ lv (lkp r k 1) g + r 5 * ds (lkp r k 1) g ≤ M) : wgN r lv ds k ≤ 5 * M := by
  obtain ⟨h1, h2⟩ := wgN_eq r lv ds k
  obtain ⟨x, y, x1, y1, e⟩ := wfo_b (r 0) h
  rw [e, i_mul_sub] at h2
  have hx : lkp r k 2 * x ≤ 5 * M := mul_le2 hc x1
  have hy : lkp r k 2 * y ≤ 5 * M := mul_le2 hc y1
  have e2 : gj_max (nI 0) (nI (lkp r k 2 * x) - nI (lkp r k 2 * y)) = if nI 0 < nI (lkp r k 2 * x) - nI (lkp r k 2 * y) then nI (lkp r k 2 * x) - nI (lkp r k 2 * y) else nI 0 := rfl
  rw [e2] at h2
  by_cases hc2 : nI 0 < nI (lkp r k 2 * x) - nI (lkp r k 2 * y)
  · rw [if_pos hc2] at h2
    by_cases hxy : lkp r k 2 * x < lkp r k 2 * y
    · exact absurd hc2 (sub_neg hxy (by omega))
    · rw [pk_sub (by omega)] at h2
      have := (nI_eq (by omega) h1).mp h2
      omega
  · rw [if_neg hc2] at h2
    have := (nI_eq (by decide) h1).mp h2
    omega
/-- weights of the links that there are -/
def wgZ (σ : St) (ds : Nat → Nat → Nat) (k : Nat) : Nat := if k < σ.1 1 then wgN σ.1 (lvl σ.1 (qsq σ)) ds k else 0
theorem wgZ_at {σ : St} {ds : Nat → Nat → Nat} {k : Nat} (h : k < σ.1 1) : wgN σ.1 (lvl σ.1 (qsq σ)) ds k = wgZ σ ds k := (if_pos h).symm
theorem lvl_le {B : Nat} {σ : St} (hw : Wf B σ) {a g : Nat} (ha : a < 10) (hg : g < 10) : lvl σ.1 (qsq σ) a g ≤ B + 500 := by
  unfold lvl
  by_cases h : σ.1 3 = 0
  · rw [if_pos h, qsq_at σ hg]
    have h1 : (qls σ a g).length ≤ σ.2.length := List.length_filter_le _ _
    have h2 := (wfP hw).1
    omega
  · rw [if_neg h, Nat.mul_comm a 10]
    have := ((wfS hw) a g ha hg).1
    unfold shp at this
    rw [Nat.add_assoc] at this; omega
theorem wgZ_le {B : Nat} {σ : St} {ds : Nat → Nat → Nat} (hw : Wf B σ) (hB : B ≤ 2000000) (hds : ∀ a b, a < σ.1 0 → b < σ.1 0 → isD σ.1 a b (ds a b)) (k : Nat) : wgZ σ ds k ≤ 10010000 := by
  unfold wgZ
  by_cases h : k < σ.1 1
  · rw [if_pos h]
    obtain ⟨c0, c1, c2, c3, c4, c5, -⟩ := wfC hw
    obtain ⟨k1, k2, k3, k4, k5⟩ := wfL hw k h
    have hd : ∀ a g, a < σ.1 0 → g < σ.1 0 → σ.1 5 * ds a g ≤ 200 := fun a g ha hg => by
      have h1 := (hds a g ha hg).1
      exact mul_le2 (c := 20) (d := 10) c5 (by omega)
    refine Nat.le_trans (wgN_le (M := 2000700) k5 (by decide) (fun g hg => ?_)) (by decide)
    have e1 := lvl_le hw (a := lkp σ.1 k 0) (g := g) (by omega) (by omega)
    have e2 := lvl_le hw (a := lkp σ.1 k 1) (g := g) (by omega) (by omega)
    have e3 := hd _ g k1 hg
    have e4 := hd _ g k2 hg
    omega
  · rw [if_neg h]; omega
theorem tot_le {W : Nat → Nat} {M : Nat} (h : ∀ k, W k ≤ M) : ∀ n, tot W n ≤ n * M
  | 0 => by rw [Nat.zero_mul]; exact Nat.le_refl _
  | n + 1 => by
    show tot W n + W n ≤ (n + 1) * M
    rw [Nat.add_mul, Nat.one_mul]
    have h1 := tot_le h n
    have h2 := h n
    omega
theorem cnd_congr {W V : Nat → Nat} : ∀ n, (∀ k, k < n → W k = V k) → cnd W n = cnd V n
  | 0, _ => rfl
  | n + 1, h => by
    show (if 0 < W n then cnd W n ||| 2 ^ n else cnd W n) = (if 0 < V n then cnd V n ||| 2 ^ n else cnd V n)
    rw [h n (Nat.lt_succ_self _), cnd_congr n (fun k hk => h k (by omega))]
/-- S is what the scheduler sc chooses -/
def sel (σ : St) (ds : Nat → Nat → Nat) (sc S : Nat) : Prop := if sc = 0 then grd (wgZ σ ds) (cfp σ.1) (cnd (wgZ σ ds) (σ.1 1)) S else bst (wgZ σ ds) (cfp σ.1) (cnd (wgZ σ ds) (σ.1 1)) S
theorem sel_sub {σ : St} {ds : Nat → Nat → Nat} {sc S : Nat} (h : sel σ ds sc S) : ∀ j, S.testBit j = true → j < σ.1 1 ∧ 0 < wgZ σ ds j := fun j hj => by
  unfold sel at h
  have h1 : (cnd (wgZ σ ds) (σ.1 1)).testBit j = true := by
    by_cases e : sc = 0
    · rw [if_pos e] at h; exact ((h j).mp hj).1
    · rw [if_neg e] at h; exact h.1 j hj
  rw [cnd_tb, decide_eq_true_eq] at h1
  exact h1
theorem sel_lt {B : Nat} {σ : St} {ds : Nat → Nat → Nat} {sc S : Nat} (hw : Wf B σ) (h : sel σ ds sc S) : S < 2 ^ 14 := by
  have h14 := (wfC hw).2.1
  apply Nat.lt_pow_two_of_testBit
  intro j hj
  cases hb : S.testBit j with
  | false => rfl
  | true => have := (sel_sub h j hb).1; omega
theorem sel_one {B : Nat} {σ : St} {ds : Nat → Nat → Nat} {sc S T : Nat} (hw : Wf B σ) (hB : B ≤ 2000000) (hds : ∀ a b, a < σ.1 0 → b < σ.1 0 → isD σ.1 a b (ds a b)) (h : sel σ ds sc S) (h' : sel σ ds sc T) : S = T := by
  have h14 := (wfC hw).2.1
  unfold sel at h h'
  by_cases e : sc = 0
  · rw [if_pos e] at h h'
    exact grd_one (M := 10010000) (Nat.lt_of_lt_of_le (cnd_lt _ _) (Nat.pow_le_pow_right (by decide) h14)) (fun k _ => wgZ_le hw hB hds k) h h'
  · rw [if_neg e] at h h'
    exact bst_one h h'
theorem cf_sym {B : Nat} {σ : St} (hw : Wf B σ) {i j : Nat} (hi : i < σ.1 1) (hj : j < σ.1 1) : (cfp σ.1 i).testBit j = (cfp σ.1 j).testBit i := by
  rw [Bool.eq_iff_iff]
  exact ⟨fun h => ((wfK hw) i hi j h).2.2, fun h => ((wfK hw) j hj i h).2.2⟩
/-- a whole state of the class -/
def STc (J : gM) (σ : St) : Prop := CT J σ.1 (qsq σ) [] σ.2.length
theorem s_choose {N B sc : Nat} {σ : St} {I : gM} {ds : Nat → Nat → Nat} (h : STc (gS (rg 3 20) I) σ) (hw : Wf B σ) (hB : B ≤ 2000000) (hds : ∀ a b, a < σ.1 0 → b < σ.1 0 → isD σ.1 a b (ds a b)) (hsc : sc ≤ 1) (hN : 1000 ≤ N) :
    ∃ (J : gM) (S : Nat), fX3_choose N [.ref 0, .ref 3, .int (nI sc)] I = some (.inl (some (.int (nI S))), J) ∧ sel σ ds sc S ∧ (∀ k, k < σ.1 1 → J 1 k = cmI σ.1 (lvl σ.1 (qsq σ)) ds k ∧ J 2 k = nI (wgZ σ ds k)) ∧ ∀ j, j ≠ 1 → j ≠ 2 → J j = I j := by
  obtain ⟨c0, c1, c2, c3, c4, c5, -⟩ := wfC hw
  have hsh : ∀ q, q < 100 → σ.1 (145 + q) < 2 ^ 31 := fun q hq => by
    have := ((wfS hw) (q / 10) (q % 10) (by omega) (by omega)).1
    unfold shp at this
    rw [show 145 + 10 * (q / 10) + q % 10 = 145 + q by omega] at this
    omega
  have hd2 : ∀ a b, a < σ.1 0 → b < σ.1 0 → I 12 (a * 10 + b) = nI (ds a b) := fun a b ha hb => by
    obtain ⟨d, d1, d2⟩ := h.1.2.2.2.2 a b ha hb
    rw [gS3 (by decide)] at d2
    rw [show 3 + 9 = 12 from rfl] at d2
    rw [d2, isD.one d1 (hds a b ha hb)]
  obtain ⟨J, j0, j1, -, j3⟩ := choose_weigh (N := N) (sc := nI sc) h hd2 c0.2 c1 (fun k hk => ⟨(wfL hw k hk).1, (wfL hw k hk).2.1⟩) c3 hsh hN
  have ecnd : cnd (wgN σ.1 (lvl σ.1 (qsq σ)) ds) (σ.1 1) = cnd (wgZ σ ds) (σ.1 1) := cnd_congr _ (fun k hk => wgZ_at hk)
  rw [ecnd] at j0
  have hJ : ∀ k, k < σ.1 1 → J 1 k = cmI σ.1 (lvl σ.1 (qsq σ)) ds k ∧ J 2 k = nI (wgZ σ ds k) := fun k hk => by
    rw [← wgZ_at hk]; exact j1 k hk
  have hlt := cnd_lt (wgZ σ ds) (σ.1 1)
  have hlt14 : cnd (wgZ σ ds) (σ.1 1) < 2 ^ 14 := Nat.lt_of_lt_of_le hlt (Nat.pow_le_pow_right (by decide) c1)
  have hcf : ∀ k, k < σ.1 1 → J 9 k = nI (cfp σ.1 k) := fun k hk => by
    have := (h.1.2.1 k hk).2.2.2.2
    rw [gS3 (by decide)] at this
    rw [j3 9 (by decide) (by decide)]; exact this
  have hbit : ∀ k, (cnd (wgZ σ ds) (σ.1 1)).testBit k = true → k < σ.1 1 ∧ 0 < wgZ σ ds k := fun k hk => by
    rw [cnd_tb, decide_eq_true_eq] at hk; exact hk
  have hC : ∀ i j, (cnd (wgZ σ ds) (σ.1 1)).testBit i = true → (cnd (wgZ σ ds) (σ.1 1)).testBit j = true → (cfp σ.1 i).testBit j = (cfp σ.1 j).testBit i := fun i j hi hj => cf_sym hw (hbit i hi).1 (hbit j hj).1
  by_cases e : sc = 0
  · rw [if_neg (fun z => ((zne (by omega)).mp z) e)] at j0
    have hl3 : (gS (rg 0 3 ++ rg 4 9) J) 3 1 = nI (σ.1 1) := by
      rw [gS_at (p := 4) rfl (by decide), j3 4 (by decide) (by decide)]
      have := h.1.1.2.1
      rw [gS3 (by decide)] at this; exact this
    obtain ⟨G, g0, g1⟩ := pX3_greediest (N := N) (I := gS (rg 0 3 ++ rg 4 9) J) (W := wgZ σ ds) (C := cfp σ.1) hl3 c1 hlt (fun k hk hb => ⟨by rw [gS_at (p := 2) rfl (by decide)]; exact (hJ k hk).2, by have := wgZ_le hw hB hds k; omega, by rw [gS_at (p := 9) rfl (by decide)]; exact hcf k hk⟩) hC hN
    rw [g0, hI_mk, gMg_gS _ _ (by decide)] at j0
    exact ⟨J, G, j0, by unfold sel; rw [if_pos e]; exact g1, hJ, j3⟩
  · rw [if_pos ((zne (by omega)).mpr e)] at j0
    have hBW : ∀ s, s < 2 ^ 14 → wsum (wgZ σ ds) s 14 < 2 ^ 31 := fun s _ => by
      have h1 := wsum_tot (wgZ σ ds) s 14
      have h2 := tot_le (fun k => wgZ_le hw hB hds k) 14
      omega
    rw [pX3_exact (W := wgZ σ ds) (C := cfp σ.1) hlt14 (fun k _ hb => ⟨(hJ k (hbit k hb).1).2, hcf k (hbit k hb).1⟩) hBW hN] at j0
    exact ⟨J, _, j0, by unfold sel; rw [if_neg e]; exact hvy_bst 14 _ (Nat.le_refl _) hlt14 hC (fun j hj => (hbit j hj).2), hJ, j3⟩
theorem pX9_scheduleBy {N B sc : Nat} {σ : St} {M : gM} {ds : Nat → Nat → Nat} (hr : RowIs (M 3) σ) (hw : Wf B σ) (hB : B ≤ 2000000) (hds : ∀ a b, a < σ.1 0 → b < σ.1 0 → isD σ.1 a b (ds a b)) (hsc : sc ≤ 1) (hN : 1000 ≤ N) :
    ∃ (J : gM) (S : Nat), fX9_scheduleBy N [.ref 0, .int (nI sc)] M = some (.inl (some (.int (nI S))), J) ∧ sel σ ds sc S ∧ (∀ k, k < σ.1 1 → J 11 k = cmI σ.1 (lvl σ.1 (qsq σ)) ds k ∧ J 12 k = nI (wgZ σ ds k)) ∧ (∀ q, q < 100 → J 10 q = nI (qln σ (q / 10) (q % 10))) ∧ (∀ k, k ≠ 0 → (k < 8 ∨ 13 ≤ k) → J k = M k) ∧ ∀ j, j ≠ 23 → j ≠ 24 → J 0 j = M 0 j := by
  obtain ⟨c0, c1, c2, c3, c4, c5, -⟩ := wfC hw
  obtain ⟨J0, b0, b1, b2', b3⟩ := pX9_layWeights (N := N) (σ := σ) (M := gS (rg 0 18) M) (by rw [gSm18 (by decide)]; exact hr) hw (by omega) hds hN
  have m3 : gMg (rg 0 18) M J0 3 = M 3 := by rw [gM18 (by decide), b3 3 (by decide), gSm18 (by decide)]
  have hrJ : RowIs (gMg (rg 0 18) M J0 3) σ := by rw [m3]; exact hr
  have hlo : ∀ k, (k < 8 ∨ 13 ≤ k) → gMg (rg 0 18) M J0 k = M k := fun k hk => rlift (t := fun k => ¬ (k < 8 ∨ 13 ≤ k)) (fun k hk => b3 k (Classical.not_not.mp hk)) k (fun z => z hk)
  have hse : SE (gMg (rg 0 18) M J0) (wgZ σ ds) (cfp σ.1) (σ.1 1) := ⟨hrJ.1 1 (by decide), fun k hk => by rw [gM18 (by decide), (b1 k hk).2, wgZ_at hk], fun k hk => hrJ.1 _ (by omega)⟩
  have hWl : ∀ k, k < σ.1 1 → wgZ σ ds k < 2 ^ 31 := fun k _ => by have := wgZ_le hw hB hds k; omega
  have hCl : ∀ k, k < σ.1 1 → cfp σ.1 k < 2 ^ 31 := fun k hk => by have := cf_lt hw hk; omega
  have hse2 : SE (gS (rg 0 18) (gMg (rg 0 18) M J0)) (wgZ σ ds) (cfp σ.1) (σ.1 1) := hse.mem (gSm18 (by decide)) (gSm18 (by decide))
  rw [eX9_scheduleBy, eX9_scheduleBy_0, b0, hV_mk]
  by_cases e : sc = 0
  · obtain ⟨G, g0, g1⟩ := pX9_greedy (N := N) hse2.1 c1 (fun k hk => ⟨hse2.2.1 k hk, hWl k hk⟩) (fun k hk => ⟨hse2.2.2 k hk, hCl k hk⟩) hN
    rw [if_neg (fun z => ((zne (by omega)).mp z) e), g0, hI_mk, gMm18]
    refine ⟨_, G, rfl, by unfold sel; rw [if_pos e]; exact g1, fun k hk => ?_, fun q hq => by rw [gM18 (by decide)]; exact b2' q hq, fun k _ hk => hlo k hk, fun j _ _ => by rw [hlo 0 (by decide)]⟩
    rw [gM18 (by decide), gM18 (by decide), ← wgZ_at hk]; exact b1 k hk
  · obtain ⟨J1, b, g0, g1, g2⟩ := pX9_exact (N := N) c1 (by have := tot_le (fun k => wgZ_le hw hB hds k) (σ.1 1); have h2 := mul_le2 c1 (Nat.le_refl 10010000); omega) hCl (fun i j hi hj => cf_sym hw hi hj) hse2 hN
    have g3 := g2.lift
    rw [if_pos ((zne (by omega)).mpr e), g0, hI_mk]
    refine ⟨_, b, rfl, by unfold sel; rw [if_neg e]; exact g1, fun k hk => ?_, fun q hq => by rw [g3.1 10 (by decide), gM18 (by decide)]; exact b2' q hq, fun k h0 hk => by rw [g3.1 k h0]; exact hlo k hk, fun j h1 h2 => by rw [g3.2 j h1 h2, hlo 0 (by decide)]⟩
    rw [g3.1 11 (by decide), g3.1 12 (by decide), gM18 (by decide), gM18 (by decide), ← wgZ_at hk]; exact b1 k hk
