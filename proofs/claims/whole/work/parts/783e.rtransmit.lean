/-! ===== the reference: transmit as a whole ===== -/
def lanF (σ : St) (l : List (Nat × Pk)) : St := l.foldl (fun s x => lanS s x.1 x.2) σ
theorem lanF_s (σ : St) (l : List (Nat × Pk)) (x : Nat × Pk) : lanF σ (l ++ [x]) = lanS (lanF σ l) x.1 x.2 := by
  unfold lanF; rw [List.foldl_append]; rfl
theorem lanF_app (σ : St) (l m : List (Nat × Pk)) : lanF σ (l ++ m) = lanF (lanF σ l) m := by
  unfold lanF; rw [List.foldl_append]
theorem lanS_n {σ : St} {k : Nat} {p : Pk} {x : Nat} (h1 : x ≠ 9 + 4 * k + 3) (h2 : ∀ w, 6 ≤ w → w < 11 → x ≠ 65 + 11 * p.1 + w) : (lanS σ k p).1 x = σ.1 x := by
  unfold lanS
  by_cases h : lkp σ.1 k 1 = gol σ.1 p
  · rw [if_pos h]
    show delN (lanR σ.1 k) p.1 _ x = _
    rw [delN_n ⟨h2 6 (by decide) (by decide), h2 9 (by decide) (by decide), h2 10 (by decide) (by decide)⟩]
    exact up1_n h1
  · rw [if_neg h]
    show passN (lanR σ.1 k) p.1 _ x = _
    rw [passN_n (h2 8 (by decide) (by decide))]
    exact up1_n h1
/-- what landing keeps -/
def LI (σ0 σ : St) (m : Nat) : Prop := keepN σ0.1 σ.1 ∧ σ.1 7 = σ0.1 7 ∧ σ.1 8 = σ0.1 8 ∧ (∀ x, 145 ≤ x → σ.1 x = σ0.1 x) ∧ (∀ f, f < 6 → flp σ.1 f 10 ≤ 10101) ∧ σ.2.length ≤ σ0.2.length + m
theorem LI.step {σ0 σ : St} {m k : Nat} {p : Pk} (h : LI σ0 σ m) (hk : k < 14) (hf : p.1 < 6) (h7 : σ0.1 7 ≤ 10100) : LI σ0 (lanS σ k p) (m + 1) := by
  obtain ⟨h1, h2, h8, h3, h4, h5⟩ := h
  refine ⟨h1.tr (fun x x1 x2 x3 x4 x5 => lanS_n (x4 k hk) (fun w w1 w2 => x5 p.1 w hf (by omega) w2)), ?_, ?_, fun x hx => ?_, fun f hf2 => ?_, ?_⟩
  · rw [lanS_n (by omega) (fun w _ _ => by omega)]; exact h2
  · rw [lanS_n (by omega) (fun w _ _ => by omega)]; exact h8
  · rw [lanS_n (by omega) (fun w _ _ => by omega)]; exact h3 x hx
  · have hl : flp (lanR σ.1 k) f 10 = flp σ.1 f 10 := up1_n (by omega)
    have := h4 f hf2
    unfold lanS
    by_cases hg : lkp σ.1 k 1 = gol σ.1 p
    · rw [if_pos hg]
      show flp (delN (lanR σ.1 k) p.1 (σ.1 7 + 1 - p.2.1)) f 10 ≤ 10101
      by_cases e : f = p.1
      · subst e
        show up1 _ (65 + 11 * p.1 + 10) _ (65 + 11 * p.1 + 10) ≤ _
        rw [up1_s, hl]
        omega
      · show delN (lanR σ.1 k) p.1 _ (65 + 11 * f + 10) ≤ _
        rw [delN_n (by omega)]
        show flp (lanR σ.1 k) f 10 ≤ _
        omega
    · rw [if_neg hg]
      show passN (lanR σ.1 k) p.1 _ (65 + 11 * f + 10) ≤ _
      rw [passN_n (by omega)]
      show flp (lanR σ.1 k) f 10 ≤ _
      omega
  · unfold lanS
    by_cases hg : lkp σ.1 k 1 = gol σ.1 p
    · rw [if_pos hg]
      show σ.2.length ≤ _
      omega
    · rw [if_neg hg]
      show (σ.2 ++ [passP p (lkp σ.1 k 1)]).length ≤ _
      rw [List.length_append]
      show σ.2.length + 1 ≤ _
      omega
def addS (S : Nat) (bb cm ta r : Nat → Nat) : Nat → Nat → Nat
  | 0 => r
  | k + 1 => if S.testBit k = true ∧ bb k ≠ cm k then up1 (addS S bb cm ta r k) (145 + (bb k * 10 + cm k)) (addS S bb cm ta r k (145 + (bb k * 10 + cm k)) + ta k) else addS S bb cm ta r k
theorem addS_lo {S : Nat} {bb cm ta r : Nat → Nat} : ∀ k x, x < 145 → addS S bb cm ta r k x = r x
  | 0, _, _ => rfl
  | k + 1, x, hx => by
    show (if S.testBit k = true ∧ bb k ≠ cm k then up1 (addS S bb cm ta r k) (145 + (bb k * 10 + cm k)) (addS S bb cm ta r k (145 + (bb k * 10 + cm k)) + ta k) else addS S bb cm ta r k) x = r x
    by_cases h : S.testBit k = true ∧ bb k ≠ cm k
    · rw [if_pos h, up1_n (by omega)]; exact addS_lo k x hx
    · rw [if_neg h]; exact addS_lo k x hx
theorem ctl_mem {S : Nat} {tp : Nat → List Pk} {x : Nat × Pk} : ∀ k, x ∈ ctl S tp k → x.1 < k ∧ S.testBit x.1 = true ∧ x.2 ∈ tp x.1
  | 0, h => by cases h
  | k + 1, h => by
    have h' : x ∈ (if S.testBit k = true then ctl S tp k ++ (tp k).map (fun p => (k, p)) else ctl S tp k) := h
    by_cases hS : S.testBit k = true
    · rw [if_pos hS] at h'
      rcases List.mem_append.mp h' with e | e
      · obtain ⟨a, b⟩ := ctl_mem k e
        exact ⟨by omega, b⟩
      · obtain ⟨p, p1, p2⟩ := List.mem_map.mp e
        subst p2
        exact ⟨Nat.lt_succ_self _, hS, p1⟩
    · rw [if_neg hS] at h'
      obtain ⟨a, b⟩ := ctl_mem k h'
      exact ⟨by omega, b⟩
theorem pX9_transmit {N B S : Nat} {cm r : Nat → Nat} {ps : List Pk} {I : gM} (hr : RowIs (I 3) (r, ps)) (hw : Wf B (r, ps)) (hB : B < 2 ^ 31) (hS : S < 2 ^ 14) (hcm : ∀ k, k < r 1 → S.testBit k = true → cm k < r 0 ∧ I 11 k = nI (cm k)) (hta : ∀ k, k < r 1 → tkA S cm r (qsq (r, ps)) k < 2 ^ 31) (hg10 : ∀ f, f < 6 → flp r f 10 ≤ 10101) (hN : 1000 ≤ N) :
    ∃ (J : gM) (ps1 : List Pk), fX9_transmit N [.ref 0, .int (nI S)] I = some (.inl none, J) ∧ (∀ p ∈ ps1, p ∈ ps) ∧ (∀ q, q < 100 → ps1.filter (inq r (q / 10) (q % 10)) = (tkS S cm r (qsq (r, ps)) (r 1)).2 q) ∧ ps1.length + (ctl S (tkP S cm r (qsq (r, ps))) (r 1)).length = ps.length ∧
      RowIs (J 3) (addS S (fun k => lkp r k 1) cm (tkA S cm r (qsq (r, ps))) (lanF (shR S cm r (qsq (r, ps)) (r 1), ps1) (ctl S (tkP S cm r (qsq (r, ps))) (r 1))).1 (r 1), (lanF (shR S cm r (qsq (r, ps)) (r 1), ps1) (ctl S (tkP S cm r (qsq (r, ps))) (r 1))).2) ∧
      (∀ j, j ≠ 28 → J 0 j = I 0 j) ∧ ∀ j, j ≠ 0 → j ≠ 3 → j ≠ 7 → j ≠ 13 → j ≠ 14 → j ≠ 15 → J j = I j := by
  have c1 : r 1 ≤ 14 := (wfC hw).2.1
  have c2 : r 2 ≤ 6 := (wfC hw).2.2.1
  have c0 : r 0 ≤ 10 := (wfC hw).1.2
  have c7 : r 7 ≤ 10100 := (wfC hw).2.2.2.2.2.2.2.1
  have hl : ps.length ≤ 500 := (wfP hw).1
  have l0 : (0 : Int32) = nI 0 := rfl
  have l1 : (1 : Int32) = nI 1 := rfl
  have cc1 : ∀ X : gO, ck 2746 1 X = X := fun X => by rw [l1, ckI (by decide) (by decide)]
  have n1 : (1 : Int32).toNatClampNeg = 1 := by decide
  obtain ⟨A, a0, a1, a2⟩ := r_stayAll (N := N) (I := gU I 0 28 (nI 0)) (K := fun I1 => hX9_transmit_11 N N (nI S) (nI 0) I1) hN
  -- links take
  have key : ∀ m i : Nat, i ≤ r 1 → r 1 - i < m → ∀ (K : gM) (g : Nat → Bool), TKr I S cm r ps g i K → ∃ (J : gM) (g' : Nat → Bool), hX9_transmit_11 N m (nI S) (nI i) K = (hI (fX9_closeUp N [.ref 0] (gS (rg 0 18) J)) (rg 0 18) J fun x2 I2 => hX9_transmit_47 N N (nI S) 0 I2) ∧ TKr I S cm r ps g' (r 1) J := by
    intro m
    induction m with
    | zero => intro i _ h; omega
    | succ m ih =>
      intro i hi hm K g hT
      have e1 : K 3 1 = nI (r 1) := by
        have := hT.2.2.2.1.1 1 (by decide)
        rw [this]; congr 1
      rw [eX9_transmit_11, cc1, n1, e1]
      by_cases hin : i = r 1
      · rw [hin, if_pos ((cge (by omega) (by omega)).mpr (Nat.le_refl _))]
        rw [hin] at hT
        exact ⟨K, g, rfl, hT⟩
      · rw [if_neg (fun z => hin (by have := (cge (by omega) (by omega)).mp z; omega)), r_has (by omega) (by omega)]
        have nx : ∀ (K' : gM) (g' : Nat → Bool), TKr I S cm r ps g' (i + 1) K' → ∃ (J : gM) (g'' : Nat → Bool), hX9_transmit_34 N m (nI S) (nI i) K' = (hI (fX9_closeUp N [.ref 0] (gS (rg 0 18) J)) (rg 0 18) J fun x2 I2 => hX9_transmit_47 N N (nI S) 0 I2) ∧ TKr I S cm r ps g'' (r 1) J := fun K' g' hT' => by
          rw [eX9_transmit_34, l1, nI_add]
          exact ih (i + 1) (by omega) (by omega) K' g' hT'
        cases hb : S.testBit i with
        | true =>
          obtain ⟨h1, h2⟩ := hcm i (by omega) hb
          rw [if_neg (by decide)]
          obtain ⟨J, g', j0, j1⟩ := TKr_s (N := N) (KK := fun I4 => hX9_transmit_34 N m (nI S) (nI i) I4) hw hB (by omega) hb (by omega) h2 hT hN
          rw [j0]
          exact nx J g' j1
        | false =>
          rw [if_pos (by decide)]
          have hb' : ¬ S.testBit i = true := by rw [hb]; decide
          have t1 : tkS S cm r (qsq (r, ps)) (i + 1) = tkS S cm r (qsq (r, ps)) i := if_neg hb'
          have t2 : ctl S (tkP S cm r (qsq (r, ps))) (i + 1) = ctl S (tkP S cm r (qsq (r, ps))) i := if_neg hb'
          have hji : ∀ j, j < i + 1 → S.testBit j = true → j < i := fun j hj hSj => by
            have : j ≠ i := fun e => hb' (e ▸ hSj)
            omega
          refine nx K g ⟨hT.1, by rw [t2]; exact hT.2.1, fun q hq => by rw [t1]; exact hT.2.2.1 q hq, ?_, fun j hj hSj => hT.2.2.2.2.1 j (hji j hj hSj) hSj, by rw [t2]; exact hT.2.2.2.2.2.1, hT.2.2.2.2.2.2⟩
          refine RowIs.fn hT.2.2.2.1 (fun x _ => ?_)
          unfold shR; rw [t1]
  obtain ⟨J1, g, j0, t7, tc, tq, tr, ta, tl, t0, tf⟩ := key N 0 (Nat.zero_le _) (by omega) A (fun _ => false) ⟨fun i hi => a1 i hi, ⟨by rw [a2 0 (by decide), gU_us]; rfl, fun j x hx => by cases hx⟩, fun q hq => by
      have : ∀ (l : List Pk) (i : Nat), kls (fun _ => false) i l = l := by
        intro l
        induction l with
        | nil => intro _; rfl
        | cons p t ih => intro i; show p :: kls (fun _ => false) (i + 1) t = p :: t; rw [ih]
      rw [this]; rfl, by
      rw [a2 3 (by decide), gU_ok (by decide)]
      refine RowIs.fn hr (fun x _ => ?_)
      unfold shR
      by_cases hx : 145 ≤ x
      · rw [if_pos hx]; rfl
      · rw [if_neg hx], fun j hj => absurd hj (Nat.not_lt_zero _), by
      have : ∀ (l : List Pk) (i : Nat), kls (fun _ => false) i l = l := by
        intro l
        induction l with
        | nil => intro _; rfl
        | cons p t ih => intro i; show p :: kls (fun _ => false) (i + 1) t = p :: t; rw [ih]
      rw [this]; rfl, fun j hj => by rw [a2 0 (by decide), gU_un (Or.inr hj)], fun j z0 z3 z7 _ _ _ => by rw [a2 j z7, gU_ok z0]⟩
  generalize hcl : ctl S (tkP S cm r (qsq (r, ps))) (r 1) = cl at tc tl ⊢
  have hmem : ∀ x ∈ cl, x.1 < r 1 ∧ S.testBit x.1 = true ∧ x.2 ∈ ps := fun x hx => by
    rw [← hcl] at hx
    obtain ⟨m1, m2, m3⟩ := ctl_mem (r 1) hx
    exact ⟨m1, m2, (List.mem_filter.mp (tkP_mem m3)).1⟩
  have hcl70 : cl.length ≤ 500 := by omega
  obtain ⟨J2, k0, k1, k2⟩ := r_closeUp (N := N) (g := g) (K := fun x2 I2 => hX9_transmit_47 N N (nI S) 0 I2) tr hl (fun i hi => t7 i (by have : i < ps.length := hi; omega)) hN
  generalize hps1 : kls g 0 ps = ps1 at tq tl k1
  have k1' : RowIs (J2 3) (shR S cm r (qsq (r, ps)) (r 1), ps1) := k1
  have hps : ∀ p ∈ ps1, p ∈ ps := fun p hp => kls_mem g ps 0 p (by rw [hps1]; exact hp)
  have hcl5 : cl.length ≤ 70 := by
    have hcap : ∀ j, j < r 1 → lkp r j 2 ≤ 5 := fun j hj => (wfL hw j hj).2.2.2.2
    have : ∀ k', k' ≤ r 1 → (ctl S (tkP S cm r (qsq (r, ps))) k').length ≤ 5 * k' := by
      intro k'
      induction k' with
      | zero => intro _; exact Nat.le_refl _
      | succ k' ih =>
        intro hk'
        have ih := ih (by omega)
        show (if S.testBit k' = true then ctl S (tkP S cm r (qsq (r, ps))) k' ++ (tkP S cm r (qsq (r, ps)) k').map (fun p => (k', p)) else ctl S (tkP S cm r (qsq (r, ps))) k').length ≤ 5 * (k' + 1)
        by_cases hS' : S.testBit k' = true
        · rw [if_pos hS', List.length_append, List.length_map, tkP_len]
          have := hcap k' (by omega)
          omega
        · rw [if_neg hS']; omega
    have := this (r 1) (Nat.le_refl _)
    rw [hcl] at this
    omega
  generalize hσ : ((shR S cm r (qsq (r, ps)) (r 1), ps1) : St) = σ1 at k1'
  have s7 : σ1.1 7 = r 7 := by rw [← hσ]; show shR S cm r (qsq (r, ps)) (r 1) 7 = r 7; exact shR_lo (by decide)
  have sl : σ1.2.length = ps1.length := by rw [← hσ]
  have hLI0 : LI σ1 σ1 0 := ⟨keepN.refl _, rfl, rfl, fun _ _ => rfl, fun f hf => by rw [← hσ]; have : flp (shR S cm r (qsq (r, ps)) (r 1)) f 10 = flp r f 10 := shR_lo (by omega); rw [this]; exact hg10 f hf, by omega⟩
  have skeep : keepN r σ1.1 := by rw [← hσ]; exact shR_keep S cm r _ _
  have land : ∀ m i : Nat, i ≤ cl.length → cl.length - i < m → ∀ K : gM, RowIs (K 3) (lanF σ1 (cl.take i)) → LI σ1 (lanF σ1 (cl.take i)) i → (∀ j, j ≠ 3 → K j = J2 j) → ∃ J, hX9_transmit_47 N m (nI S) (nI i) K = hX9_transmit_68 N N (nI S) 0 J ∧ RowIs (J 3) (lanF σ1 cl) ∧ LI σ1 (lanF σ1 cl) cl.length ∧ ∀ j, j ≠ 3 → J j = J2 j := by
    intro m
    induction m with
    | zero => intro i _ h; omega
    | succ m ih =>
      intro i hi hm K hK hL ho
      have e28 : K 0 28 = nI cl.length := by rw [ho 0 (by decide), k2 0 (by decide)]; exact tc.1
      rw [eX9_transmit_47, e28]
      by_cases hin : i = cl.length
      · rw [hin, if_pos ((cge (by omega) (by omega)).mpr (Nat.le_refl _))]
        rw [hin, List.take_length] at hK hL
        exact ⟨K, rfl, hK, hL, ho⟩
      · obtain ⟨⟨k, p⟩, hx⟩ : ∃ x, cl[i]? = some x := ⟨_, List.getElem?_eq_getElem (show i < cl.length by omega)⟩
        obtain ⟨m1, m2, m3⟩ := hmem _ (List.mem_of_getElem? hx)
        have m1' : k < r 1 := m1
        have m3' : p ∈ ps := m3
        obtain ⟨p1, p2, p3, p4, p5⟩ := (wfP hw).2 p m3'
        have p1' : p.1 < r 2 := p1
        have p2' : p.2.1 ≤ r 7 := p2
        obtain ⟨n1', n2', n8, n3, n4, n5⟩ := hL
        have ktr := skeep.tr n1'
        have w7 : (lanF σ1 (cl.take i)).1 7 = r 7 := by rw [n2', s7]
        have wk1 : lkp (lanF σ1 (cl.take i)).1 k 1 = lkp r k 1 := ktr.lk (by omega) (by decide)
        have wg : gol (lanF σ1 (cl.take i)).1 p = gol r p := ktr.fl (by omega) (by decide)
        have hk1 : lkp r k 1 < r 0 := (wfL hw k m1').2.1
        have hgl : gol r p < r 0 := (wfF hw p.1 p1).2.1
        obtain ⟨J, j0, j1, j2⟩ := pX9_land (N := N) (k := k) (j := i) (σ := lanF σ1 (cl.take i)) (I := gS (rg 0 18) K) (cl := cl) (p := p) (by rw [gSm18 (by decide)]; exact hK) ⟨by rw [gSm18 (by decide), ho 0 (by decide), k2 0 (by decide)]; exact tc.1, fun j x hx => by rw [gSm18 (by decide), gSm18 (by decide), ho 13 (by decide), ho 14 (by decide), k2 13 (by decide), k2 14 (by decide)]; exact tc.2 j x hx⟩ hx (by omega) (by omega) (by omega) (by omega) (by omega) p3 (by omega) (by omega) (n4 p.1 (by omega)) (by omega)
        rw [if_neg (fun z => hin (by have := (cge (by omega) (by omega)).mp z; omega)), j0, hV_mk, l1, nI_add]
        have tk : cl.take (i + 1) = cl.take i ++ [(k, p)] := take_s hx
        refine ih (i + 1) (by omega) (by omega) _ ?_ ?_ (fun j hj => ?_)
        · rw [gM18 (by decide), tk, lanF_s]; exact j1
        · rw [tk, lanF_s]
          exact LI.step ⟨n1', n2', n8, n3, n4, n5⟩ (by show k < 14; omega) (by show p.1 < 6; omega) (by omega)
        · rw [rlift (t := fun q => q = 3) (fun q hq => j2 q hq) j hj]; exact ho j hj
  obtain ⟨J3, q0, q1, q2, q3⟩ := land N 0 (Nat.zero_le _) (by omega) J2 k1' hLI0 (fun _ _ => rfl)
  -- shadows come over
  generalize hσ2 : lanF σ1 cl = σ2 at q1 q2
  have ktr : keepN r σ2.1 := skeep.tr q2.1
  have add : ∀ m i : Nat, i ≤ r 1 → r 1 - i < m → ∀ K : gM, RowIs (K 3) (addS S (fun k => lkp r k 1) cm (tkA S cm r (qsq (r, ps))) σ2.1 i, σ2.2) → (∀ j, j ≠ 3 → K j = J2 j) → ∃ J, hX9_transmit_68 N m (nI S) (nI i) K = some (.inl none, J) ∧ RowIs (J 3) (addS S (fun k => lkp r k 1) cm (tkA S cm r (qsq (r, ps))) σ2.1 (r 1), σ2.2) ∧ ∀ j, j ≠ 3 → J j = J2 j := by
    intro m
    induction m with
    | zero => intro i _ h; omega
    | succ m ih =>
      intro i hi hm K hK ho
      have e1 : K 3 1 = nI (r 1) := by
        rw [hK.1 1 (by decide)]
        show nI (addS S (fun k => lkp r k 1) cm (tkA S cm r (qsq (r, ps))) σ2.1 i 1) = _
        rw [addS_lo _ _ (by decide), ktr.lo (by decide)]
      rw [eX9_transmit_68, cc1, n1, e1]
      by_cases hin : i = r 1
      · rw [hin, if_pos ((cge (by omega) (by omega)).mpr (Nat.le_refl _))]
        rw [hin] at hK
        exact ⟨K, rfl, hK, ho⟩
      · have hir : i < r 1 := by omega
        have nx : ∀ K' : gM, RowIs (K' 3) (addS S (fun k => lkp r k 1) cm (tkA S cm r (qsq (r, ps))) σ2.1 (i + 1), σ2.2) → (∀ j, j ≠ 3 → K' j = J2 j) → ∃ J, hX9_transmit_135 N m (nI S) (nI i) K' = some (.inl none, J) ∧ RowIs (J 3) (addS S (fun k => lkp r k 1) cm (tkA S cm r (qsq (r, ps))) σ2.1 (r 1), σ2.2) ∧ ∀ j, j ≠ 3 → J j = J2 j := fun K' h1 h2 => by
          rw [eX9_transmit_135, l1, nI_add]
          exact ih (i + 1) (by omega) (by omega) K' h1 h2
        have li1 : K 3 (9 + 4 * i + 1) = nI (lkp r i 1) := by
          rw [hK.1 _ (by omega)]
          show nI (addS S (fun k => lkp r k 1) cm (tkA S cm r (qsq (r, ps))) σ2.1 i (9 + 4 * i + 1)) = _
          rw [addS_lo _ _ (by omega)]
          exact congrArg nI (ktr.lk (by omega) (by decide))
        have hb1 : lkp r i 1 < r 0 := (wfL hw i hir).2.1
        have un : addS S (fun k => lkp r k 1) cm (tkA S cm r (qsq (r, ps))) σ2.1 (i + 1) = (if S.testBit i = true ∧ lkp r i 1 ≠ cm i then up1 (addS S (fun k => lkp r k 1) cm (tkA S cm r (qsq (r, ps))) σ2.1 i) (145 + (lkp r i 1 * 10 + cm i)) (addS S (fun k => lkp r k 1) cm (tkA S cm r (qsq (r, ps))) σ2.1 i (145 + (lkp r i 1 * 10 + cm i)) + tkA S cm r (qsq (r, ps)) i) else addS S (fun k => lkp r k 1) cm (tkA S cm r (qsq (r, ps))) σ2.1 i) := rfl
        rw [if_neg (fun z => hin (by have := (cge (by omega) (by omega)).mp z; omega)), r_has (by omega) (by omega)]
        cases hb : S.testBit i with
        | false =>
          rw [if_pos (by decide)]
          refine nx K ?_ ho
          rw [un, if_neg (fun z => by rw [hb] at z; cases z.1)]; exact hK
        | true =>
          obtain ⟨h1, h2⟩ := hcm i hir hb
          have e11 : K 11 i = nI (cm i) := by rw [ho 11 (by decide), k2 11 (by decide), tf 11 (by decide) (by decide) (by decide) (by decide) (by decide) (by decide)]; exact h2
          rw [if_neg (by decide), l1, r_link (N := N) (k := i) (w := 1) (by omega), li1, ckI (by omega) (by decide), nI_clamp (by omega), e11]
          by_cases hbc : lkp r i 1 = cm i
          · rw [if_pos ((ceq (by omega) (by omega)).mpr hbc)]
            refine nx K ?_ ho
            rw [un, if_neg (fun z => z.2 hbc)]; exact hK
          · have eA : gb_add (gb_add 145 (gb_mul 10 (nI (lkp r i 1)))) (nI (cm i)) = nI (145 + (lkp r i 1 * 10 + cm i)) := by
              simp only [gb_add, gb_mul, fa_lit, pk_mul, nI_add]
              congr 1; omega
            have e15 : K 15 i = nI (tkA S cm r (qsq (r, ps)) i) := by rw [ho 15 (by decide), k2 15 (by decide)]; exact ta i hir hb
            rw [if_neg (fun z => hbc ((ceq (by omega) (by omega)).mp z)), r_link (N := N) (k := i) (w := 1) (by omega), li1, eX9_transmit_116, ckI (by omega) (by decide), nI_clamp (n := i) (by omega), e11, eA, ckI (by omega) (by decide), ckI (by omega) (by decide), ckI (by omega) (by decide), nI_clamp (n := 145 + (lkp r i 1 * 10 + cm i)) (by omega), e15, hK.1 (145 + (lkp r i 1 * 10 + cm i)) (by omega)]
            refine nx _ ?_ (fun j hj => by rw [gU_ok hj]; exact ho j hj)
            rw [un, if_pos ⟨hb, hbc⟩, gU_u3]
            exact hK.num (by omega) (nI_add _ _)
  obtain ⟨J4, v0, v1, v2⟩ := add N 0 (Nat.zero_le _) (by omega) J3 q1 q3
  rw [eX9_transmit, eX9_transmit_0, l0, a0, j0, k0, l0, q0, l0, v0]
  exact ⟨J4, ps1, rfl, hps, tq, tl, by rw [hσ, hσ2]; exact v1, fun j hj => by rw [v2 0 (by decide), k2 0 (by decide)]; exact t0 j hj, fun j z0 z3 z7 z13 z14 z15 => by rw [v2 j z3, k2 j z3]; exact tf j z0 z3 z7 z13 z14 z15⟩
