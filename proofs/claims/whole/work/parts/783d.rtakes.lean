/-! ===== what a slot keeps; the reference: all links take ===== -/
/-- the same but for counters, the slot, the peak and shadows -/
def keepN (r s : Nat → Nat) : Prop := ∀ x, x < 145 → x ≠ 7 → x ≠ 8 → (∀ k, k < 14 → x ≠ 9 + 4 * k + 3) → (∀ f w, f < 6 → 4 ≤ w → w < 11 → x ≠ 65 + 11 * f + w) → s x = r x
theorem keepN.lk {r s : Nat → Nat} (h : keepN r s) {k w : Nat} (hk : k < 14) (hw : w < 3) : lkp s k w = lkp r k w := h _ (by omega) (by omega) (by omega) (fun j hj => by omega) (fun f w' _ _ _ => by omega)
theorem keepN.fl {r s : Nat → Nat} (h : keepN r s) {f w : Nat} (hf : f < 6) (hw : w < 4) : flp s f w = flp r f w := h _ (by omega) (by omega) (by omega) (fun j hj => by omega) (fun f' w' _ _ _ => by omega)
theorem keepN.cf {r s : Nat → Nat} (h : keepN r s) {k : Nat} (hk : k < 14) : cfp s k = cfp r k := h _ (by omega) (by omega) (by omega) (fun j hj => by omega) (fun f w' _ _ _ => by omega)
theorem keepN.lo {r s : Nat → Nat} (h : keepN r s) {x : Nat} (hx : x < 7) : s x = r x := h _ (by omega) (by omega) (by omega) (fun j hj => by omega) (fun f w' _ _ _ => by omega)
theorem keepN.refl (r : Nat → Nat) : keepN r r := fun _ _ _ _ _ _ => rfl
theorem keepN.tr {r s t : Nat → Nat} (h : keepN r s) (h2 : keepN s t) : keepN r t := fun x a b c d e => (h2 x a b c d e).trans (h x a b c d e)
theorem keepN.sameL {r s : Nat → Nat} (h : keepN r s) (h14 : r 1 ≤ 14) : sameL r s := ⟨h.lo (by decide), h.lo (by decide), fun j hj => ⟨h.lk (by omega) (by decide), h.lk (by omega) (by decide)⟩⟩
theorem Wf.of {B B' : Nat} {r s : Nat → Nat} {ps qs : List Pk} (h : Wf B (r, ps)) (hk : keepN r s) (h7 : s 7 ≤ 10100) (h8 : s 8 ≤ 500) (h6 : ∀ f, f < r 2 → flp s f 6 ≤ B') (h10 : ∀ f, f < r 2 → flp s f 10 ≤ 10101)
    (hsh : ∀ a d, a < 10 → d < 10 → shp s a d ≤ B' ∧ (a = d → shp s a d = 0)) (hlen : qs.length ≤ 500) (hp : ∀ p ∈ qs, p.1 < r 2 ∧ p.2.1 ≤ s 7 ∧ p.2.2.2.1 < 1024 ∧ pkn p < r 0 ∧ pkn p ≠ gol r p) : Wf B' (s, qs) := by
  obtain ⟨c0, c1, c2, c3, c4, c5, c6, c7, c8⟩ := wfC h
  have e : ∀ x, x < 7 → s x = r x := fun x hx => hk.lo hx
  have c1' : r 1 ≤ 14 := c1
  have c2' : r 2 ≤ 6 := c2
  refine ⟨⟨by show 2 ≤ s 0 ∧ s 0 ≤ 10; rw [e 0 (by decide)]; exact c0, by show s 1 ≤ 14; rw [e 1 (by decide)]; exact c1, by show s 2 ≤ 6; rw [e 2 (by decide)]; exact c2, by show s 3 ≤ 1; rw [e 3 (by decide)]; exact c3, by show s 4 ≤ 50; rw [e 4 (by decide)]; exact c4, by show s 5 ≤ 20; rw [e 5 (by decide)]; exact c5, by show s 6 ≤ 1; rw [e 6 (by decide)]; exact c6, h7, h8⟩, fun k hk2 => ?_, fun j k hj hk2 => ?_, fun k hk2 j hj => ?_, fun f hf => ?_, hsh, hlen, fun p hp2 => ?_⟩
  · have hk3 : k < r 1 := by rw [← e 1 (by decide)]; exact hk2
    show lkp s k 0 < s 0 ∧ lkp s k 1 < s 0 ∧ lkp s k 0 ≠ lkp s k 1 ∧ 1 ≤ lkp s k 2 ∧ lkp s k 2 ≤ 5
    rw [hk.lk (by omega) (by decide), hk.lk (by omega) (by decide), hk.lk (by omega) (by decide), e 0 (by decide)]
    exact wfL h k hk3
  · have hj3 : j < r 1 := by rw [← e 1 (by decide)]; exact hj
    have hk3 : k < r 1 := by rw [← e 1 (by decide)]; exact hk2
    show lkp s j 0 = lkp s k 0 → lkp s j 1 = lkp s k 1 → j = k
    rw [hk.lk (by omega) (by decide), hk.lk (by omega) (by decide), hk.lk (by omega) (by decide), hk.lk (by omega) (by decide)]
    exact wfU h j k hj3 hk3
  · have hk3 : k < r 1 := by rw [← e 1 (by decide)]; exact hk2
    have hj2 : (cfp s k).testBit j = true := hj
    rw [hk.cf (by omega)] at hj2
    obtain ⟨z1, z2, z3⟩ := wfK h k hk3 j hj2
    have z1' : j < r 1 := z1
    refine ⟨by show j < s 1; rw [e 1 (by decide)]; exact z1, z2, ?_⟩
    show (cfp s j).testBit k = true
    rw [hk.cf (by omega)]; exact z3
  · have hf3 : f < r 2 := by rw [← e 2 (by decide)]; exact hf
    obtain ⟨f0, f1, f2, f3, f4, -, -⟩ := wfF h f hf3
    show flp s f 0 < s 0 ∧ flp s f 1 < s 0 ∧ flp s f 0 ≠ flp s f 1 ∧ flp s f 2 ≤ 300 ∧ flp s f 3 ≤ 200 ∧ flp s f 6 ≤ B' ∧ flp s f 10 ≤ 10101
    rw [hk.fl (by omega) (by decide), hk.fl (by omega) (by decide), hk.fl (by omega) (by decide), hk.fl (by omega) (by decide), e 0 (by decide)]
    exact ⟨f0, f1, f2, f3, f4, h6 f hf3, h10 f hf3⟩
  · obtain ⟨p1, p2, p3, p4, p5⟩ := hp p hp2
    refine ⟨by show p.1 < s 2; rw [e 2 (by decide)]; exact p1, p2, p3, by show pkn p < s 0; rw [e 0 (by decide)]; exact p4, ?_⟩
    show pkn p ≠ flp s p.1 1
    rw [hk.fl (by omega) (by decide)]; exact p5
/-- the row of the reference while links take -/
def shR (S : Nat) (cm r : Nat → Nat) (qs : Nat → List Pk) (k : Nat) : Nat → Nat := fun x => if 145 ≤ x then (tkS S cm r qs k).1 x else r x
theorem shR_lo {S : Nat} {cm r : Nat → Nat} {qs : Nat → List Pk} {k x : Nat} (h : x < 145) : shR S cm r qs k x = r x := if_neg (by omega)
theorem shR_hi {S : Nat} {cm r : Nat → Nat} {qs : Nat → List Pk} {k x : Nat} (h : 145 ≤ x) : shR S cm r qs k x = (tkS S cm r qs k).1 x := if_pos h
theorem shR_keep (S : Nat) (cm r : Nat → Nat) (qs : Nat → List Pk) (k : Nat) : keepN r (shR S cm r qs k) := fun _ h _ _ _ _ => shR_lo h
theorem shR_wf {B S k : Nat} {cm r : Nat → Nat} {ps : List Pk} {qs : Nat → List Pk} (h : Wf B (r, ps)) (hk : k ≤ 14) : Wf B (shR S cm r qs k, ps) := by
  have h8 : r 8 ≤ 500 := (wfC h).2.2.2.2.2.2.2.2
  have h7 : r 7 ≤ 10100 := (wfC h).2.2.2.2.2.2.2.1
  have c2 : r 2 ≤ 6 := (wfC h).2.2.1
  refine Wf.of h (shR_keep S cm r qs k) (by rw [shR_lo (by decide)]; exact h7) (by rw [shR_lo (by decide)]; exact h8) (fun f hf => ?_) (fun f hf => ?_) (fun a d ha hd => ?_) (wfP h).1 (fun p hp => ?_)
  · have e : flp (shR S cm r qs k) f 6 = flp r f 6 := shR_lo (by omega)
    rw [e]; exact (wfF h f hf).2.2.2.2.2.1
  · have e : flp (shR S cm r qs k) f 10 = flp r f 10 := shR_lo (by omega)
    rw [e]; exact (wfF h f hf).2.2.2.2.2.2
  · have e : shp (shR S cm r qs k) a d = (tkS S cm r qs k).1 (145 + (10 * a + d)) := by
      unfold shp
      rw [Nat.add_assoc]; exact shR_hi (by omega)
    have e2 := tkS_le S cm r qs k (10 * a + d) (by omega) hk
    have e3 := wfS h a d ha hd
    have e4 : shp r a d = r (145 + (10 * a + d)) := by unfold shp; rw [Nat.add_assoc]
    rw [e]
    have e5 : shp (r, ps).1 a d = shp r a d := rfl
    rw [e5, e4] at e3
    exact ⟨by omega, fun h => by have := e3.2 h; omega⟩
  · rw [shR_lo (by decide)]
    exact (wfP h).2 p hp
/-- what is carried, link by link -/
def ctl (S : Nat) (tp : Nat → List Pk) : Nat → List (Nat × Pk)
  | 0 => []
  | k + 1 => if S.testBit k = true then ctl S tp k ++ (tp k).map (fun p => (k, p)) else ctl S tp k
theorem len_split (f : Pk → Bool) : ∀ l : List Pk, l.length = (l.filter f).length + (l.filter (fun p => !f p)).length
  | [] => rfl
  | p :: t => by
    have ih := len_split f t
    cases hf : f p with
    | true => rw [List.filter_cons_of_pos hf, List.filter_cons_of_neg (by simp [hf]), List.length_cons, List.length_cons]; omega
    | false => rw [List.filter_cons_of_neg (by simp [hf]), List.filter_cons_of_pos (by simp [hf]), List.length_cons, List.length_cons]; omega
theorem inq_congr {r s : Nat → Nat} {a d : Nat} {l : List Pk} (h : ∀ p ∈ l, gol s p = gol r p) : l.filter (inq s a d) = l.filter (inq r a d) := List.filter_congr (fun p hp => by unfold inq; rw [h p hp])
def TKr (I : gM) (S : Nat) (cm r : Nat → Nat) (ps : List Pk) (g : Nat → Bool) (k : Nat) (K : gM) : Prop :=
  (∀ i, i < 500 → K 7 i = b2 (g i)) ∧ CL K (ctl S (tkP S cm r (qsq (r, ps))) k) ∧ (∀ q, q < 100 → (kls g 0 ps).filter (inq r (q / 10) (q % 10)) = (tkS S cm r (qsq (r, ps)) k).2 q) ∧ RowIs (K 3) (shR S cm r (qsq (r, ps)) k, ps) ∧
  (∀ j, j < k → S.testBit j = true → K 15 j = nI (tkA S cm r (qsq (r, ps)) j)) ∧ (kls g 0 ps).length + (ctl S (tkP S cm r (qsq (r, ps))) k).length = ps.length ∧ (∀ j, j ≠ 28 → K 0 j = I 0 j) ∧ ∀ j, j ≠ 0 → j ≠ 3 → j ≠ 7 → j ≠ 13 → j ≠ 14 → j ≠ 15 → K j = I j
theorem TKr_s {N B S k : Nat} {cm r : Nat → Nat} {ps : List Pk} {I K : gM} {g : Nat → Bool} {KK : gM → gO} (hw : Wf B (r, ps)) (hB : B < 2 ^ 31) (hk : k < r 1) (hS : S.testBit k = true) (hc : cm k < 10) (hcm : I 11 k = nI (cm k)) (h : TKr I S cm r ps g k K) (hN : 1000 ≤ N) :
    ∃ (J : gM) (g' : Nat → Bool), hV (fX9_take N [.ref 0, .int (nI k)] (gS (rg 0 18) K)) (rg 0 18) K KK = KK J ∧ TKr I S cm r ps g' (k + 1) J := by
  obtain ⟨t7, tc, tq, tr, ta, tl, t0, tf⟩ := h
  have c1 : r 1 ≤ 14 := (wfC hw).2.1
  have c2 : r 2 ≤ 6 := (wfC hw).2.2.1
  have c0 : r 0 ≤ 10 := (wfC hw).1.2
  have hk0 : lkp r k 0 < r 0 := (wfL hw k hk).1
  have hcap : ∀ j, j < r 1 → lkp r j 2 ≤ 5 := fun j hj => (wfL hw j hj).2.2.2.2
  have hcl5 : (ctl S (tkP S cm r (qsq (r, ps))) k).length ≤ 65 := by
    have : ∀ k', k' ≤ r 1 → (ctl S (tkP S cm r (qsq (r, ps))) k').length ≤ 5 * k' := by
      intro k'
      induction k' with
      | zero => intro _; exact Nat.le_refl _
      | succ k' ih =>
        intro hk'
        have ih := ih (by omega)
        show (if S.testBit k' = true then ctl S (tkP S cm r (qsq (r, ps))) k' ++ (tkP S cm r (qsq (r, ps)) k').map (fun p => (k', p)) else ctl S (tkP S cm r (qsq (r, ps))) k').length ≤ 5 * (k' + 1)
        by_cases hS' : S.testBit k' = true
        · rw [if_pos hS', List.length_append, List.length_map, tkP_len]
          have := hcap k' (by omega)
          omega
        · rw [if_neg hS']; omega
    have := this k (by omega)
    omega
  have gl : ∀ p ∈ ps, gol (shR S cm r (qsq (r, ps)) k) p = gol r p := fun p hp => by
    have := ((wfP hw).2 p hp).1
    have this : p.1 < r 2 := this
    exact shR_lo (by omega)
  have glk : ∀ (g : Nat → Bool), ∀ p ∈ kls g 0 ps, gol (shR S cm r (qsq (r, ps)) k) p = gol r p := fun g p hp => gl p (kls_mem g ps 0 p hp)
  have lkk : ∀ w, w < 4 → lkp (shR S cm r (qsq (r, ps)) k) k w = lkp r k w := fun w hw4 => shR_lo (by omega)
  obtain ⟨J, g', j0, j7, jc, j1, j2, jr, ja, jn, jz, jf⟩ := pX9_take (N := N) (B := B) (k := k) (c := cm k) (I := gS (rg 0 18) K) (g := g) (cl := ctl S (tkP S cm r (qsq (r, ps))) k) (r := shR S cm r (qsq (r, ps)) k) (ps := ps) (by rw [gSm18 (by decide)]; exact tr) (shR_wf hw (by omega)) hB (by rw [shR_lo (by decide)]; exact hk) hc (by rw [gSm18 (by decide), tf 11 (by decide) (by decide) (by decide) (by decide) (by decide) (by decide)]; exact hcm) (fun i hi => by rw [gSm18 (by decide)]; exact t7 i hi) ⟨by rw [gSm18 (by decide)]; exact tc.1, fun j x hx => by rw [gSm18 (by decide), gSm18 (by decide)]; exact tc.2 j x hx⟩ hcl5 hN
  rw [lkk 0 (by decide), lkk 2 (by decide)] at jc j1 jr ja
  rw [lkk 0 (by decide)] at j2
  rw [inq_congr (glk g)] at jc j1
  rw [inq_congr (glk g')] at j1
  have hQ : tkQ r cm k = lkp r k 0 * 10 + cm k := rfl
  have eq1 : (kls g 0 ps).filter (inq r (lkp r k 0) (cm k)) = (tkS S cm r (qsq (r, ps)) k).2 (tkQ r cm k) := by
    have := tq (tkQ r cm k) (by rw [hQ]; omega)
    rw [hQ, show (lkp r k 0 * 10 + cm k) / 10 = lkp r k 0 by omega, show (lkp r k 0 * 10 + cm k) % 10 = cm k by omega] at this
    rw [hQ]; exact this
  have eP : ((kls g 0 ps).filter (inq r (lkp r k 0) (cm k))).take (min (lkp r k 2) ((kls g 0 ps).filter (inq r (lkp r k 0) (cm k))).length) = tkP S cm r (qsq (r, ps)) k := by
    rw [eq1]; rfl
  rw [eP] at jc
  have tS : tkS S cm r (qsq (r, ps)) (k + 1) = (takN (tkS S cm r (qsq (r, ps)) k).1 k (tkQ r cm k) (min (lkp r k 2) ((tkS S cm r (qsq (r, ps)) k).2 (tkQ r cm k)).length) (min (lkp r k 2) ((tkS S cm r (qsq (r, ps)) k).1 (145 + tkQ r cm k))), upq (tkS S cm r (qsq (r, ps)) k).2 (tkQ r cm k) (((tkS S cm r (qsq (r, ps)) k).2 (tkQ r cm k)).drop (min (lkp r k 2) ((tkS S cm r (qsq (r, ps)) k).2 (tkQ r cm k)).length))) := if_pos hS
  have hA : 145 + 10 * lkp r k 0 + cm k = 145 + tkQ r cm k := by rw [hQ]; omega
  have hshA : shR S cm r (qsq (r, ps)) k (145 + tkQ r cm k) = (tkS S cm r (qsq (r, ps)) k).1 (145 + tkQ r cm k) := shR_hi (by omega)
  rw [hA, hshA] at jr ja
  have cS : ctl S (tkP S cm r (qsq (r, ps))) (k + 1) = ctl S (tkP S cm r (qsq (r, ps))) k ++ (tkP S cm r (qsq (r, ps)) k).map (fun p => (k, p)) := if_pos hS
  refine ⟨gMg (rg 0 18) K J, g', by rw [j0, hV_mk], fun i hi => by rw [gM18 (by decide)]; exact j7 i hi, ?_, fun q hq => ?_, ?_, fun j hj hSj => ?_, ?_, fun j hj => by rw [gM18 (by decide), jz j hj, gSm18 (by decide)]; exact t0 j hj, fun j z0 z3 z7 z13 z14 z15 => ?_⟩
  · rw [cS]
    exact ⟨by rw [gM18 (by decide)]; exact jc.1, fun j x hx => by rw [gM18 (by decide), gM18 (by decide)]; exact jc.2 j x hx⟩
  · rw [tS]
    show _ = upq (tkS S cm r (qsq (r, ps)) k).2 (tkQ r cm k) _ q
    by_cases e : q = tkQ r cm k
    · rw [e, upq_s, hQ, show (lkp r k 0 * 10 + cm k) / 10 = lkp r k 0 by omega, show (lkp r k 0 * 10 + cm k) % 10 = cm k by omega, j1, eq1, hQ]
    · rw [upq_n e, ← tq q hq, ← inq_congr (glk g'), ← inq_congr (glk g)]
      refine j2 _ (fun p h1 h2 => e ?_)
      unfold inq at h1 h2
      rw [Bool.and_eq_true, decide_eq_true_eq, decide_eq_true_eq] at h1 h2
      rw [hQ]; omega
  · rw [gM18 (by decide)]
    refine RowIs.fn jr (fun x hx => ?_)
    by_cases e : x = 145 + tkQ r cm k
    · rw [e, up1_s, shR_hi (by omega), tS]
      exact up1_s
    · rw [up1_n e]
      by_cases hx2 : x < 145
      · rw [shR_lo hx2, shR_lo hx2]
      · rw [shR_hi (by omega), shR_hi (by omega), tS]
        exact takN_n (by omega) e
  · by_cases e : j = k
    · subst e
      rw [gM18 (by decide)]; exact ja
    · rw [gM18 (by decide), jn j e, gSm18 (by decide)]
      exact ta j (by omega) hSj
  · rw [cS, List.length_append, List.length_map]
    have l1 := len_split (inq r (lkp r k 0) (cm k)) (kls g' 0 ps)
    have l2 := len_split (inq r (lkp r k 0) (cm k)) (kls g 0 ps)
    have l3 : (kls g' 0 ps).filter (fun p => !inq r (lkp r k 0) (cm k) p) = (kls g 0 ps).filter (fun p => !inq r (lkp r k 0) (cm k) p) := by
      have := j2 (fun p => !inq (shR S cm r (qsq (r, ps)) k) (lkp r k 0) (cm k) p) (fun p h1 h2 => by rw [h2] at h1; cases h1)
      have e : ∀ g : Nat → Bool, (kls g 0 ps).filter (fun p => !inq (shR S cm r (qsq (r, ps)) k) (lkp r k 0) (cm k) p) = (kls g 0 ps).filter (fun p => !inq r (lkp r k 0) (cm k) p) := fun g => List.filter_congr (fun p hp => by unfold inq; rw [glk g p hp])
      rwa [e, e] at this
    rw [j1, List.length_drop] at l1
    rw [l3] at l1
    have l4 : (tkP S cm r (qsq (r, ps)) k).length = min (lkp r k 2) ((kls g 0 ps).filter (inq r (lkp r k 0) (cm k))).length := by rw [tkP_len, eq1]
    omega
  · rw [← tf j z0 z3 z7 z13 z14 z15]
    exact rlift (t := fun j => j = 0 ∨ j = 3 ∨ j = 7 ∨ j = 13 ∨ j = 14 ∨ j = 15) (fun j hj => jf j (fun e => hj (by omega)) (fun e => hj (by omega)) (fun e => hj (by omega)) (fun e => hj (by omega)) (fun e => hj (by omega)) (fun e => hj (by omega))) j (fun z => by omega)
