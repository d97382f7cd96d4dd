/-! ===== transmit: the state behind it, both sides ===== -/
def cmN (σ : St) (ds : Nat → Nat → Nat) (k : Nat) : Nat := (cmI σ.1 (lvl σ.1 (qsq σ)) ds k).toBitVec.toNat
theorem cm_sel {B sc S k : Nat} {σ : St} {ds : Nat → Nat → Nat} (hw : Wf B σ) (hs : sel σ ds sc S) (hk : S.testBit k = true) : cmN σ ds k < σ.1 0 ∧ cmI σ.1 (lvl σ.1 (qsq σ)) ds k = nI (cmN σ ds k) := by
  obtain ⟨h1, h2⟩ := sel_sub hs k hk
  refine ⟨?_, i_any _⟩
  rw [← wgZ_at h1] at h2
  obtain ⟨e1, e2⟩ := wgN_eq σ.1 (lvl σ.1 (qsq σ)) ds k
  rcases wfo_m (lv := lvl σ.1 (qsq σ)) (ds := ds) (bias := σ.1 5) (a := lkp σ.1 k 0) (b := lkp σ.1 k 1) (σ.1 0) (wfC hw).1.2 with ⟨z1, z2⟩ | ⟨g, hg, z1⟩
  · rw [z2] at e2
    have h00 : gj_max (nI 0) (nI (lkp σ.1 k 2) * 0) = nI 0 := by
      have : nI (lkp σ.1 k 2) * 0 = nI 0 := by
        show nI (lkp σ.1 k 2) * nI 0 = _
        rw [pk_mul, Nat.mul_zero]
      rw [this]; rfl
    rw [h00] at e2
    have := (nI_eq (by decide) e1).mp e2
    omega
  · have e : cmN σ ds k = g := by
      unfold cmN
      have : cmI σ.1 (lvl σ.1 (qsq σ)) ds k = nI g := z1
      rw [this]
      show (BitVec.ofNat 32 g).toNat = g
      rw [BitVec.toNat_ofNat]
      have := (wfC hw).1.2
      omega
    rw [e]; exact hg
theorem lanF_n {x : Nat} : ∀ (l : List (Nat × Pk)) (σ : St), (∀ y ∈ l, x ≠ 9 + 4 * y.1 + 3 ∧ ∀ w, 6 ≤ w → w < 11 → x ≠ 65 + 11 * y.2.1 + w) → (lanF σ l).1 x = σ.1 x
  | [], _, _ => rfl
  | y :: t, σ, h => by
    obtain ⟨h1, h2⟩ := h y List.mem_cons_self
    have e : lanF σ (y :: t) = lanF (lanS σ y.1 y.2) t := rfl
    rw [e, lanF_n t _ (fun z hz => h z (List.mem_cons_of_mem _ hz))]
    exact lanS_n h1 h2
/-- a state, with the bounds that need every place of a flow -/
def Wg (B : Nat) (σ : St) : Prop := Wf B σ ∧ ∀ f, f < 6 → flp σ.1 f 10 ≤ 10101
theorem s_transmit {N B S sc : Nat} {σ : St} {I M : gM} {ds : Nat → Nat → Nat} (hc : STc (gS (rg 7 20) I) σ) (hr : RowIs (M 3) σ) (hwg : Wg B σ) (hB : B ≤ 2000000) (hsel : sel σ ds sc S) (hI : ∀ k, k < σ.1 1 → I 2 k = cmI σ.1 (lvl σ.1 (qsq σ)) ds k) (hM : ∀ k, k < σ.1 1 → M 11 k = cmI σ.1 (lvl σ.1 (qsq σ)) ds k) (hN : 1000 ≤ N) :
    ∃ (J M' : gM) (σ' : St), fX6_transmit N [.ref 0, .ref 7, .int (nI S)] I = some (.inl none, J) ∧ fX9_transmit N [.ref 0, .int (nI S)] M = some (.inl none, M') ∧ STc (gS (rg 7 20) J) σ' ∧ RowIs (M' 3) σ' ∧ Wg (B + 70) σ' ∧ keepN σ.1 σ'.1 ∧ σ'.1 7 = σ.1 7 ∧ σ'.1 8 = σ.1 8 ∧ (∀ j, j < 4 → J j = I j) ∧ (∀ j, j ≠ 28 → M' 0 j = M 0 j) ∧ ∀ j, j ≠ 0 → j ≠ 3 → j ≠ 7 → j ≠ 13 → j ≠ 14 → j ≠ 15 → M' j = M j := by
  obtain ⟨hw, hg10⟩ := hwg
  obtain ⟨r, ps⟩ := σ
  have hS := sel_lt hw hsel
  obtain ⟨c0, c1, c2, c3, c4, c5, c6, c7, c8⟩ := wfC hw
  have c0' : r 0 ≤ 10 := c0.2
  have c1' : r 1 ≤ 14 := c1
  have c2' : r 2 ≤ 6 := c2
  have c7' : r 7 ≤ 10100 := c7
  have c8' : r 8 ≤ 500 := c8
  have hl : ps.length ≤ 500 := (wfP hw).1
  have hsh : ∀ q, q < 100 → r (145 + q) ≤ B := fun q hq => by
    have h1 := ((wfS hw) (q / 10) (q % 10) (by omega) (by omega)).1
    have h2 : shp (r, ps).1 (q / 10) (q % 10) = r (145 + q) := by
      unfold shp
      show r (145 + 10 * (q / 10) + q % 10) = _
      congr 1; omega
    omega
  have hlk : ∀ k, k < r 1 → lkp r k 0 < r 0 ∧ lkp r k 1 < r 0 ∧ lkp r k 2 ≤ 5 := fun k hk => ⟨(wfL hw k hk).1, (wfL hw k hk).2.1, (wfL hw k hk).2.2.2.2⟩
  have hcm : ∀ k, k < r 1 → S.testBit k = true → cmN (r, ps) ds k < r 0 ∧ cmI r (lvl r (qsq (r, ps))) ds k = nI (cmN (r, ps) ds k) := fun k _ hk => cm_sel hw hsel hk
  generalize hcmd : cmN (r, ps) ds = cm at hcm
  have hpk : ∀ p ∈ ps, p.1 < r 2 ∧ p.2.1 ≤ r 7 ∧ p.2.2.2.1 < 1024 ∧ pkn p < r 0 ∧ pkn p ≠ gol r p := (wfP hw).2
  have hta5 : ∀ k, k < r 1 → tkA S cm r (qsq (r, ps)) k ≤ 5 := fun k hk => by
    have := (hlk k hk).2.2
    unfold tkA; omega
  obtain ⟨J, j0, j1, j2⟩ := pX6_transmit (N := N) (S := S) (cm := cm) hc c1 c2 c7 hS hg10 (fun k hk => ⟨by have := (hlk k hk).1; show lkp r k 0 < 10; omega, by have := (hlk k hk).2.1; show lkp r k 1 < 10; omega, (hlk k hk).2.2⟩) (fun k hk hb => ⟨by have := (hcm k hk hb).1; omega, by rw [hI k hk]; exact (hcm k hk hb).2⟩) (fun q hq => by have := hsh q hq; show r (145 + q) < _; omega) (fun q hq p hp => by
    have h1 := hpk p (List.mem_filter.mp hp).1
    exact ⟨h1.1, h1.2.1, h1.2.2.1⟩) hN
  obtain ⟨M', ps1, m0, m1, m2, m3, m4, m5, m6⟩ := pX9_transmit (N := N) (S := S) (cm := cm) hr hw (by omega) hS (fun k hk hb => ⟨(hcm k hk hb).1, by rw [hM k hk]; exact (hcm k hk hb).2⟩) (fun k hk => by have := hta5 k hk; omega) hg10 hN
  have j1' : CT (gS (rg 7 20) J) (brS S (fun k => lkp r k 1) cm (tkP S cm r (qsq (r, ps))) (tkA S cm r (qsq (r, ps))) (tkS S cm r (qsq (r, ps)) (r 1)).1 (tkS S cm r (qsq (r, ps)) (r 1)).2 ps.length (r 1)).1 (brS S (fun k => lkp r k 1) cm (tkP S cm r (qsq (r, ps))) (tkA S cm r (qsq (r, ps))) (tkS S cm r (qsq (r, ps)) (r 1)).1 (tkS S cm r (qsq (r, ps)) (r 1)).2 ps.length (r 1)).2.1 [] (brS S (fun k => lkp r k 1) cm (tkP S cm r (qsq (r, ps))) (tkA S cm r (qsq (r, ps))) (tkS S cm r (qsq (r, ps)) (r 1)).1 (tkS S cm r (qsq (r, ps)) (r 1)).2 ps.length (r 1)).2.2 := j1
  have htp : ∀ k, k < r 1 → S.testBit k = true → ∀ p ∈ tkP S cm r (qsq (r, ps)) k, p ∈ ps ∧ gol r p = cm k := fun k hk hb p hp => by
    have h1 := tkP_mem hp
    have h2 : p ∈ ps.filter (inq r (tkQ r cm k / 10) (tkQ r cm k % 10)) := h1
    obtain ⟨h3, h4⟩ := List.mem_filter.mp h2
    refine ⟨h3, ?_⟩
    unfold inq tkQ at h4
    rw [Bool.and_eq_true, decide_eq_true_eq, decide_eq_true_eq] at h4
    have := (hcm k hk hb).1
    omega
  have t145 : ∀ x, x < 145 → (∀ j, j < 14 → x ≠ 9 + 4 * j + 3) → (tkS S cm r (qsq (r, ps)) (r 1)).1 x = r x := fun x h1 h2 => tkS_n2 S cm r (qsq (r, ps)) (r 1) x c1' h1 h2
  have hfl : ∀ j, j < r 1 → S.testBit j = true → ∀ p ∈ tkP S cm r (qsq (r, ps)) j, p.1 < 6 := fun j hj hb p hp => by
    have := (hpk p (htp j hj hb p hp).1).1
    omega
  obtain ⟨i1, i2, i3, i4, i5, i6, i7⟩ := tr_join (S := S) (n := r 1) (cm := cm) (ta := tkA S cm r (qsq (r, ps))) (rT := (tkS S cm r (qsq (r, ps)) (r 1)).1) (s0 := shR S cm r (qsq (r, ps)) (r 1)) (r := r) (tp := tkP S cm r (qsq (r, ps))) (qT := (tkS S cm r (qsq (r, ps)) (r 1)).2) (ps1 := ps1) (P := ps.length) c1' (shR_keep S cm r _ _) (shR_lo (by decide)) (t145 7 (by decide) (fun j _ => by omega)) (fun x hx => by rw [shR_lo (by omega), t145 x (by omega) (fun j _ => by omega)]) (fun q hq => shR_hi (by omega)) (fun k hk => ⟨by have := (hlk k hk).2.1; omega, fun hb => by have := (hcm k hk hb).1; omega⟩) (fun k hk hb p hp => ⟨hfl k hk hb p hp, (htp k hk hb p hp).2⟩) m2 m3 (r 1) (Nat.le_refl _)
  have hmem : ∀ x ∈ ctl S (tkP S cm r (qsq (r, ps))) (r 1), x.1 < r 1 ∧ x.2 ∈ ps ∧ x.2.1 < 6 := fun x hx => by
    obtain ⟨x1, x2, x3⟩ := ctl_mem (r 1) hx
    exact ⟨x1, (htp x.1 x1 x2 x.2 x3).1, hfl x.1 x1 x2 x.2 x3⟩
  have hcl : (ctl S (tkP S cm r (qsq (r, ps))) (r 1)).length ≤ 70 := by
    have : ∀ k', k' ≤ r 1 → (ctl S (tkP S cm r (qsq (r, ps))) k').length ≤ 5 * k' := by
      intro k'
      induction k' with
      | zero => intro _; exact Nat.le_refl _
      | succ k' ih =>
        intro hk'
        have ih := ih (by omega)
        show (if S.testBit k' = true then ctl S (tkP S cm r (qsq (r, ps))) k' ++ (tkP S cm r (qsq (r, ps)) k').map (fun p => (k', p)) else ctl S (tkP S cm r (qsq (r, ps))) k').length ≤ 5 * (k' + 1)
        by_cases hS' : S.testBit k' = true
        · rw [if_pos hS', List.length_append, List.length_map, tkP_len]
          have := (hlk k' (by omega)).2.2
          omega
        · rw [if_neg hS']; omega
    have := this (r 1) (Nat.le_refl _)
    omega
  generalize hclg : ctl S (tkP S cm r (qsq (r, ps))) (r 1) = cl at *
  have lo : ∀ x, (x < 65 ∧ (∀ j, j < 14 → x ≠ 9 + 4 * j + 3)) ∨ 131 ≤ x → (lanF (shR S cm r (qsq (r, ps)) (r 1), ps1) cl).1 x = shR S cm r (qsq (r, ps)) (r 1) x := fun x hx => lanF_n cl _ (fun y hy => by
    obtain ⟨y1, y2, y3⟩ := hmem y hy
    rcases hx with ⟨hx, hx2⟩ | hx
    · exact ⟨hx2 y.1 (by omega), fun w _ _ => by omega⟩
    · exact ⟨by omega, fun w _ _ => by omega⟩)
  generalize hLN : lanF (shR S cm r (qsq (r, ps)) (r 1), ps1) cl = LN at *
  generalize hBR : brS S (fun k => lkp r k 1) cm (tkP S cm r (qsq (r, ps))) (tkA S cm r (qsq (r, ps))) (tkS S cm r (qsq (r, ps)) (r 1)).1 (tkS S cm r (qsq (r, ps)) (r 1)).2 ps.length (r 1) = BR at *
  have hkp : keepN r (addS S (fun k => lkp r k 1) cm (tkA S cm r (qsq (r, ps))) LN.1 (r 1)) := fun x x1 x2 x3 x4 x5 => by
    rw [addS_lo _ _ x1]; exact i6 x x1 x2 x3 x4 x5
  have hta : ∀ k, k < r 1 → tkA S cm r (qsq (r, ps)) k ≤ 5 := hta5
  have hadd : ∀ q, q < 100 → addS S (fun k => lkp r k 1) cm (tkA S cm r (qsq (r, ps))) LN.1 (r 1) (145 + q) ≤ LN.1 (145 + q) + 70 := fun q hq => by
    have : ∀ k, k ≤ r 1 → ∀ x, addS S (fun k => lkp r k 1) cm (tkA S cm r (qsq (r, ps))) LN.1 k x ≤ LN.1 x + 5 * k := by
      intro k
      induction k with
      | zero => intro _ x; exact Nat.le_refl _
      | succ k ih =>
        intro hk x
        show (if S.testBit k = true ∧ lkp r k 1 ≠ cm k then up1 (addS S (fun k => lkp r k 1) cm (tkA S cm r (qsq (r, ps))) LN.1 k) (145 + (lkp r k 1 * 10 + cm k)) (addS S (fun k => lkp r k 1) cm (tkA S cm r (qsq (r, ps))) LN.1 k (145 + (lkp r k 1 * 10 + cm k)) + tkA S cm r (qsq (r, ps)) k) else addS S (fun k => lkp r k 1) cm (tkA S cm r (qsq (r, ps))) LN.1 k) x ≤ _
        by_cases h : S.testBit k = true ∧ lkp r k 1 ≠ cm k
        · rw [if_pos h]
          by_cases e : x = 145 + (lkp r k 1 * 10 + cm k)
          · rw [e, up1_s]
            have h1 := ih (by omega) (145 + (lkp r k 1 * 10 + cm k))
            have h2 := hta k (by omega)
            omega
          · rw [up1_n e]
            have := ih (by omega) x
            omega
        · rw [if_neg h]
          have := ih (by omega) x
          omega
    have := this (r 1) (Nat.le_refl _) (145 + q)
    omega
  have hLs : ∀ q, q < 100 → LN.1 (145 + q) = (tkS S cm r (qsq (r, ps)) (r 1)).1 (145 + q) := fun q hq => by rw [lo _ (Or.inr (by omega))]; exact shR_hi (by omega)
  have heq : ∀ x, x < 245 → addS S (fun k => lkp r k 1) cm (tkA S cm r (qsq (r, ps))) LN.1 (r 1) x = BR.1 x := fun x hx => by
    by_cases x1 : x < 145
    · rw [addS_lo _ _ x1]
      by_cases x2 : 65 ≤ x ∧ x < 131
      · exact i1 x (Or.inr x2)
      · have hb : BR.1 x = (tkS S cm r (qsq (r, ps)) (r 1)).1 x := by
          rw [← hBR]; exact brS_n (r 1) (fun j hj hb p hp => hfl j hj hb p hp) x (by omega)
        rw [hb]
        by_cases x3 : ∃ j, j < 14 ∧ x = 9 + 4 * j + 3
        · obtain ⟨j, hj, e⟩ := x3
          rw [e, i2 j hj, tkS_car S cm r (qsq (r, ps)) (r 1) c1' j hj, shR_lo (by omega)]
        · have x4 : ∀ j, j < 14 → x ≠ 9 + 4 * j + 3 := fun j hj e => x3 ⟨j, hj, e⟩
          rw [t145 x x1 x4, lo x ((Nat.lt_or_ge x 65).elim (fun z => Or.inl ⟨z, x4⟩) (fun z => Or.inr (by omega))), shR_lo x1]
    · have := i5 (x - 145) (by omega) LN.1 (fun q hq => lo _ (Or.inr (by omega)))
      rwa [show 145 + (x - 145) = x by omega] at this
  have hG : (∀ p ∈ LN.2, p.1 < r 2 ∧ p.2.1 ≤ r 7 ∧ p.2.2.2.1 < 1024 ∧ pkn p < r 0 ∧ pkn p ≠ gol r p) := by
    have := (lanF_mem (G := fun p => p.1 < r 2 ∧ p.2.1 ≤ r 7 ∧ p.2.2.2.1 < 1024 ∧ pkn p < r 0 ∧ pkn p ≠ gol r p) (r := r) cl (shR S cm r (qsq (r, ps)) (r 1), ps1) (shR_keep S cm r _ _) (fun x hx => by obtain ⟨h1, h2, h3⟩ := hmem x hx; exact ⟨by omega, h3⟩) (fun p hp => hpk p (m1 p hp)) (fun x hx hne => by
      obtain ⟨h1, h2, h3⟩ := hmem x hx
      obtain ⟨g1, g2, g3, g4, g5⟩ := hpk x.2 h2
      have hb := (hlk x.1 h1).2.1
      refine ⟨g1, g2, ?_, hb, hne⟩
      show x.2.2.2.2.1 ||| 2 ^ lkp r x.1 1 < 2 ^ 10
      exact Nat.or_lt_two_pow g3 (pow_lt (by omega)))).1
    rw [hLN] at this; exact this
  have hlen : LN.2.length = BR.2.2 := by omega
  have hP := (j1'.2.2.toq.P).2
  have hq : ∀ q, q < 100 → qsq (addS S (fun k => lkp r k 1) cm (tkA S cm r (qsq (r, ps))) LN.1 (r 1), LN.2) q = BR.2.1 q := fun q hq => by
    rw [← i3 q hq]
    exact inq_congr (fun p hp => hkp.fl (by have := (hG p hp).1; omega) (by decide))
  refine ⟨J, M', (addS S (fun k => lkp r k 1) cm (tkA S cm r (qsq (r, ps))) LN.1 (r 1), LN.2), j0, m0, ?_, m4, ⟨?_, fun f hf => ?_⟩, hkp, ?_, ?_, j2, m5, m6⟩
  · have e1 : BR.1 1 = r 1 := by rw [← heq 1 (by decide)]; exact hkp.lo (by decide)
    have e2 : BR.1 2 = r 2 := by rw [← heq 2 (by decide)]; exact hkp.lo (by decide)
    have := j1'.to (s := addS S (fun k => lkp r k 1) cm (tkA S cm r (qsq (r, ps))) LN.1 (r 1)) (qs' := qsq (addS S (fun k => lkp r k 1) cm (tkA S cm r (qsq (r, ps))) LN.1 (r 1), LN.2)) (by omega) (by omega) heq hq
    rw [← hlen] at this
    exact this
  · have e10 : ∀ f, f < 6 → flp (addS S (fun k => lkp r k 1) cm (tkA S cm r (qsq (r, ps))) LN.1 (r 1)) f 10 ≤ 10101 := fun f hf => by
      have e : flp (addS S (fun k => lkp r k 1) cm (tkA S cm r (qsq (r, ps))) LN.1 (r 1)) f 10 = BR.1 (65 + 11 * f + 10) := heq _ (by omega)
      rw [e, ← hBR]
      exact brS_10 (by rw [t145 7 (by decide) (fun j _ => by omega)]; exact c7') (fun f hf => by
        have : flp (tkS S cm r (qsq (r, ps)) (r 1)).1 f 10 = flp r f 10 := t145 _ (by omega) (fun j _ => by omega)
        rw [this]; exact hg10 f hf) (r 1) (fun j hj hb p hp => hfl j hj hb p hp) f hf
    refine Wf.of hw hkp ?_ ?_ (fun f hf => ?_) (fun f hf => e10 f (by omega)) (fun a d ha hd => ?_) (by omega) (fun p hp => ?_)
    · rw [addS_lo _ _ (by decide), i7]; exact c7'
    · rw [addS_lo _ _ (by decide), lo 8 (Or.inl ⟨by decide, fun j _ => by omega⟩), shR_lo (by decide)]; exact c8'
    · have h1 := lanF_6 cl (shR S cm r (qsq (r, ps)) (r 1), ps1) f (fun x hx => by obtain ⟨h1, h2, h3⟩ := hmem x hx; exact ⟨by omega, h3⟩) (by omega)
      rw [hLN] at h1
      have h2 : flp (shR S cm r (qsq (r, ps)) (r 1)) f 6 = flp r f 6 := shR_lo (by omega)
      have h3 : flp (addS S (fun k => lkp r k 1) cm (tkA S cm r (qsq (r, ps))) LN.1 (r 1)) f 6 = flp LN.1 f 6 := addS_lo _ _ (by omega)
      have h4 : flp r f 6 ≤ B := (wfF hw f hf).2.2.2.2.2.1
      have h5 : flp LN.1 f 6 ≤ flp (shR S cm r (qsq (r, ps)) (r 1)) f 6 + cl.length := h1
      omega
    · have e1 : shp (addS S (fun k => lkp r k 1) cm (tkA S cm r (qsq (r, ps))) LN.1 (r 1)) a d = addS S (fun k => lkp r k 1) cm (tkA S cm r (qsq (r, ps))) LN.1 (r 1) (145 + (10 * a + d)) := by
        unfold shp; rw [Nat.add_assoc]
      have h1 := hadd (10 * a + d) (by omega)
      have h2 := hLs (10 * a + d) (by omega)
      have h3 := tkS_le S cm r (qsq (r, ps)) (r 1) (10 * a + d) (by omega) c1'
      have h4 := hsh (10 * a + d) (by omega)
      rw [e1]
      refine ⟨by omega, fun e => ?_⟩
      subst e
      have h5 := addS_dg (S := S) (n := r 1) (bb := fun k => lkp r k 1) (cm := cm) (ta := tkA S cm r (qsq (r, ps))) (r := LN.1) (fun k hk => ⟨by have := (hlk k hk).2.1; show lkp r k 1 < 10; omega, fun hb => by have := (hcm k hk hb).1; omega⟩) (r 1) (Nat.le_refl _) a ha
      have h6 := ((wfS hw) a a ha ha).2 rfl
      have h7 : shp (r, ps).1 a a = r (145 + (10 * a + a)) := by unfold shp; rw [Nat.add_assoc]
      rw [h5]; omega
    · rw [addS_lo _ _ (by decide), i7]; exact hG p hp
  · have e : flp (addS S (fun k => lkp r k 1) cm (tkA S cm r (qsq (r, ps))) LN.1 (r 1)) f 10 = BR.1 (65 + 11 * f + 10) := heq _ (by omega)
    show flp (addS S (fun k => lkp r k 1) cm (tkA S cm r (qsq (r, ps))) LN.1 (r 1)) f 10 ≤ 10101
    rw [e, ← hBR]
    exact brS_10 (by rw [t145 7 (by decide) (fun j _ => by omega)]; exact c7') (fun f hf => by
        have : flp (tkS S cm r (qsq (r, ps)) (r 1)).1 f 10 = flp r f 10 := t145 _ (by omega) (fun j _ => by omega)
        rw [this]; exact hg10 f hf) (r 1) (fun j hj hb p hp => hfl j hj hb p hp) f hf
  · show addS S (fun k => lkp r k 1) cm (tkA S cm r (qsq (r, ps))) LN.1 (r 1) 7 = r 7
    rw [addS_lo _ _ (by decide), i7]
  · show addS S (fun k => lkp r k 1) cm (tkA S cm r (qsq (r, ps))) LN.1 (r 1) 8 = r 8
    rw [addS_lo _ _ (by decide), lo 8 (Or.inl ⟨by decide, fun j _ => by omega⟩), shR_lo (by decide)]
