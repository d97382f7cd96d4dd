/-! ===== the class: packets expire ===== -/
theorem QI.pos {I : gM} {c : Nat → List Nat} {own : Nat → Nat} {u P i : Nat} (h : QI I c own u P) (hi : i < u) (ho : own i = 101) : 0 < P := by
  have hn := (h.2.2.2.1 100 (Nat.le_refl _)).1
  have h2 : (i :: c 100).length ≤ u := nodup_len u (i :: c 100) (List.nodup_cons.mpr ⟨h.none hi ho (Nat.le_refl _), hn⟩) (fun j hj => by
    rcases List.mem_cons.mp hj with e | e
    · rw [e]; exact hi
    · exact ((h.2.2.2.1 100 (Nat.le_refl _)).2 j e).1)
  rw [List.length_cons] at h2
  have := h.1.2.2.2
  omega
/-- the slot in which the budget is used up -/
def dln (r : Nat → Nat) (p : Pk) : Int32 := if flp r p.1 3 = 0 then mI else nI (p.2.1 + flp r p.1 3)
theorem s_deadline {N : Nat} {I : gM} {r : Nat → Nat} {i : Nat} {p : Pk} {K : Int32 → gM → gO} (hn : CN I r) (h6 : r 2 ≤ 6) (hf : p.1 < r 2) (hb : flp r p.1 3 ≤ 200) (hi : i < 500) (d16 : I 16 i = nI p.1) (d17 : I 17 i = nI p.2.1) : hI (fX7_deadline N [.ref 0, .int (nI i)] (gS (rg 0 20) I)) (rg 0 20) I K = K (dln r p) I := by
  have l3 : (3 : Int32) = nI 3 := rfl
  have lm : (-1 : Int32) = mI := rfl
  have hs : gMg (rg 0 20) I (gS (rg 0 20) I) = I := gMg_same I (by decide)
  have e : fX7_deadline N [.ref 0, .int (nI i)] (gS (rg 0 20) I) = some (.inl (some (.int (dln r p))), gS (rg 0 20) I) := by
    rw [eX7_deadline, eX7_deadline_0, ckI hi (by decide), nI_clamp (by omega), gS20 (by decide), d16, l3, sN_get (hn.congr (fun k _ h2 => gS20 (by omega))) h6 hf (by decide), lm]
    unfold dln
    by_cases h0 : flp r p.1 3 = 0
    · rw [if_neg (by rw [zne (by omega)]; exact fun z => z h0), if_pos h0]
    · rw [if_pos (by rw [zne (by omega)]; exact h0), if_neg h0, ckI hi (by decide)]
      have e17 : gS (rg 0 20) I 17 = I 17 := gS20 (by decide)
      show some (Sum.inl (some (Value.int (gb_add (gS (rg 0 20) I 17 i) (nI (flp r p.1 3))))), gS (rg 0 20) I) = _
      rw [e17, d17]
      simp only [gb_add, nI_add]
  rw [e, hI_mk, hs]
def isE (r : Nat → Nat) (p : Pk) : Bool := decide (flp r p.1 3 ≠ 0) && decide (p.2.1 + flp r p.1 3 ≤ r 7 + 1)
def expN (r : Nat → Nat) (f : Nat) : Nat → Nat := up1 r (65 + 11 * f + 7) (flp r f 7 + 1)
def expF (r : Nat → Nat) (ps : List Pk) : Nat → Nat := ps.foldl (fun r p => expN r p.1) r
def lstI (l : List Nat) : Int32 := match l.getLast? with
  | none => mI
  | some b => nI b
theorem lstI_s (l : List Nat) (i : Nat) : lstI (l ++ [i]) = nI i := by
  unfold lstI; rw [List.getLast?_append]; rfl
/-- alike but for the numbers of the expired -/
def likeE (r r0 : Nat → Nat) : Prop := ∀ x, (∀ f, f < 6 → x ≠ 65 + 11 * f + 7) → r x = r0 x
theorem isE_like {r r0 : Nat → Nat} (h : likeE r r0) (p : Pk) : isE r p = isE r0 p := by
  unfold isE
  rw [show flp r p.1 3 = flp r0 p.1 3 from h _ (fun f _ => by omega), h 7 (fun f _ => by omega)]
theorem likeE.exp {r r0 : Nat → Nat} (h : likeE r r0) {f : Nat} (hf : f < 6) : likeE (expN r f) r0 := fun x hx => by
  show up1 r _ _ x = _
  rw [up1_n (hx f hf)]; exact h x hx
theorem expireIn_loop {N q n : Nat} {r0 : Nat → Nat} {qs : Nat → List Pk} (hq : q < 100) (hn : n ≤ 500) (h14 : r0 1 ≤ 14) (h6 : r0 2 ≤ 6) (h7 : r0 7 ≤ 10100) (hb : ∀ f, f < r0 2 → flp r0 f 3 ≤ 200) :
    ∀ (lt : List Pk) (ct : List Nat) (m : Nat) (c0 : List Nat) (l0 : List Pk) (K : gM) (r : Nat → Nat) (P : Nat) (c : Nat → List Nat) (own : Nat → Nat) (u : Nat), lt.length < m → lt.length ≤ n → c q = c0 ++ ct → ct.map (dt K) = lt.map pd → c0.map (dt K) = l0.map pd → (∀ k, k < 100 → k ≠ q → (c k).map (dt K) = (qs k).map pd) → QI (gS (rg 10 10) K) c own u P → CN K r → CS K r → likeE r r0 → (∀ p ∈ lt, p.1 < r0 2 ∧ p.2.1 ≤ r0 7) →
      ∃ J, hX7_expireIn_26 N m (nI q) (nI n) (lstI c0) (hde ct mI) (nI (n - lt.length)) K = some (.inl none, J) ∧ CT J (expF r (lt.filter (isE r0))) (upq qs q (l0 ++ lt.filter (fun p => !isE r0 p))) [] (P - (lt.filter (isE r0)).length) := by
  intro lt
  induction lt with
  | nil =>
    intro ct m c0 l0 K r P c own u hm _ hc hct hc0 ho hQ hN hS _ _
    obtain ⟨m, rfl⟩ : ∃ k, m = k + 1 := ⟨m - 1, by have : ([] : List Pk).length = 0 := rfl; omega⟩
    have hct0 : ct = [] := List.map_eq_nil_iff.mp hct
    subst hct0
    rw [List.append_nil] at hc
    rw [eX7_expireIn_26, if_pos ((cge (a := n - ([] : List Pk).length) (by have : ([] : List Pk).length = 0 := rfl; omega) (by omega)).mpr (by have : ([] : List Pk).length = 0 := rfl; omega))]
    refine ⟨K, rfl, hN, hS, c, own, u, hQ, fun k hk => ?_, fun x hx => (by cases hx), List.nodup_nil⟩
    by_cases e : k = q
    · rw [e, upq_s, hc, hc0]
      show _ = (l0 ++ []).map pd
      rw [List.append_nil]
    · rw [upq_n e]; exact ho k hk e
  | cons p lt ih =>
    intro ct m c0 l0 K r P c own u hm hln hc hct hc0 ho hQ hN hS hlk hpl
    obtain ⟨m, rfl⟩ : ∃ k, m = k + 1 := ⟨m - 1, by have : (p :: lt).length = lt.length + 1 := rfl; omega⟩
    have hll : (p :: lt).length = lt.length + 1 := rfl
    rw [List.map_cons] at hct
    obtain ⟨i, ct, rfl, hdi, hct⟩ := map_cons_inv hct
    have lm : (-1 : Int32) = mI := rfl
    have l1 : (1 : Int32) = nI 1 := rfl
    have l7 : (7 : Int32) = nI 7 := rfl
    have hu := hQ.1.2.1
    have him : i ∈ c q := by rw [hc]; exact List.mem_append_right _ List.mem_cons_self
    obtain ⟨hiu, hio⟩ := (hQ.2.2.2.1 q (by omega)).2 i him
    obtain ⟨p1, p2⟩ := hpl p List.mem_cons_self
    have hd4 : (K 16 i, K 17 i, K 18 i, K 19 i) = (nI p.1, nI p.2.1, nI p.2.2.1, nI p.2.2.2.1) := hdi
    have d16 : K 16 i = nI p.1 := (Prod.mk.inj hd4).1
    have d17 : K 17 i = nI p.2.1 := (Prod.mk.inj (Prod.mk.inj hd4).2).1
    have e2 : r 2 = r0 2 := hlk 2 (fun f _ => by omega)
    have e1 : r 1 = r0 1 := hlk 1 (fun f _ => by omega)
    have e7 : r 7 = r0 7 := hlk 7 (fun f _ => by omega)
    have e3 : flp r p.1 3 = flp r0 p.1 3 := hlk _ (fun f _ => by omega)
    have hb3 := hb p.1 p1
    have hnx : K 15 i = hde ct mI := by
      have h1 := (hQ.2.2.1 q hq).2.2.2
      rw [hc, nxe_app, gS10 (by decide)] at h1
      exact h1.2.1
    have hi2 : n - (p :: lt).length + 1 = n - lt.length := by omega
    show ∃ J, hX7_expireIn_26 N (m + 1) (nI q) (nI n) (lstI c0) (nI i) (nI (n - (p :: lt).length)) K = _ ∧ _
    rw [eX7_expireIn_26, lm, l1, l7, if_neg (by rw [cge (by omega) (by omega)]; omega), if_neg (by rw [ceqm (by omega)]; exact id), ckI (by omega) (by decide), s_deadline hN (by omega) (by omega) (by rw [e3]; exact hb3) (by omega) d16 d17, nI_clamp (by omega), hnx, hS.1]
    have e120 : ∀ (v3 : Int32) (K' : gM), hX7_expireIn_120 N m (nI q) (nI n) v3 (nI (n - (p :: lt).length)) (hde ct mI) K' = hX7_expireIn_26 N m (nI q) (nI n) v3 (hde ct mI) (nI (n - lt.length)) K' := by
      intro v3 K'
      rw [eX7_expireIn_120, l1, nI_add, hi2]
    -- it stays
    have stay : isE r0 p = false → ∃ J, hX7_expireIn_117 N m (nI q) (nI n) (nI i) (nI (n - (p :: lt).length)) (hde ct mI) K = some (.inl none, J) ∧ CT J (expF r ((p :: lt).filter (isE r0))) (upq qs q (l0 ++ (p :: lt).filter (fun p => !isE r0 p))) [] (P - ((p :: lt).filter (isE r0)).length) := by
      intro hE
      rw [eX7_expireIn_117, e120, List.filter_cons_of_neg (by rw [hE]; decide), List.filter_cons_of_pos (by rw [hE]; rfl)]
      have := ih ct m (c0 ++ [i]) (l0 ++ [p]) K r P c own u (by omega) (by omega) (by rw [List.append_assoc]; exact hc) hct (by rw [List.map_append, List.map_append, hc0]; exact congrArg _ (congrArg (fun z => [z]) hdi)) ho hQ hN hS hlk (fun q hq => hpl q (List.mem_cons_of_mem _ hq))
      rw [lstI_s, List.append_assoc] at this
      exact this
    unfold dln
    rw [e3, e7]
    by_cases h0 : flp r0 p.1 3 = 0
    · rw [if_pos h0, if_pos (by decide)]
      exact stay (by unfold isE; rw [h0]; rfl)
    · rw [if_neg h0, if_neg (by rw [ceqm (by omega)]; exact id)]
      have es : gb_add (nI (r0 7)) (nI 1) = nI (r0 7 + 1) := nI_add _ _
      rw [es]
      by_cases hlt : r0 7 + 1 < p.2.1 + flp r0 p.1 3
      · rw [if_pos ((clt (by omega) (by omega)).mpr hlt)]
        exact stay (by unfold isE; rw [decide_eq_false (show ¬ p.2.1 + flp r0 p.1 3 ≤ r0 7 + 1 by omega), Bool.and_false])
      · have hE : isE r0 p = true := by
          unfold isE
          rw [decide_eq_true h0, decide_eq_true (show p.2.1 + flp r0 p.1 3 ≤ r0 7 + 1 by omega)]; rfl
        rw [if_neg (fun z => hlt ((clt (by omega) (by omega)).mp z)), List.filter_cons_of_pos hE, List.filter_cons_of_neg (by rw [hE]; decide)]
        obtain ⟨J1, j0, j1, j2, -⟩ := pX4_takeBehind (N := N) (l0 := c0) (t := ct) hQ hq hc
        have j0' : fX4_takeBehind N [.ref 0, .int (nI q), .int (lstI c0)] (gS (rg 10 10) K) = some (.inl (some (.int (nI i))), J1) := j0
        rw [j0', hI_mk, ckI (by omega) (by decide)]
        have k1 : ∀ k, k < 10 → gMg (rg 10 10) K J1 k = K k := fun k hk => gM10o hk
        have k2 : ∀ k, 16 ≤ k → k < 20 → gMg (rg 10 10) K J1 k = K k := fun k h1 h2 => by
          rw [show k = 10 + (k - 10) by omega, gM10 (by omega), j2 _ (by omega) (by omega) (by omega) (by omega), gS10 (by omega)]
        have k14 : gMg (rg 10 10) K J1 14 = K 14 := by
          rw [show (14 : Nat) = 10 + 4 from rfl, gM10 (by decide), j2 4 (by decide) (by decide) (by decide) (by decide), gS10 (by decide)]
        rw [k2 16 (by decide) (by decide), d16]
        have hN1 : CN (gMg (rg 10 10) K J1) r := hN.congr (fun k _ h2 => k1 k (by omega))
        rw [sT_add hN1 (by omega) (by omega) (by decide), eX7_expireIn_105]
        have hN2 := hN1.num (x := flp r p.1 7 + 1) (by omega) (by omega) (f := p.1) (by omega) (show 7 < 11 by decide)
        have hQ2 : QI (gS (rg 10 10) (gU (gMg (rg 10 10) K J1) 8 (p.1 * 11 + 7) (nI (flp r p.1 7 + 1)))) (upl c q (c0 ++ ct)) (upn own i 101) u P := by
          refine j1.mem (fun j _ _ => ?_) ?_ ?_ ?_ ?_
          · rw [gS10 (by decide), gU_ok (by decide), gM10 (by decide)]
          · rw [gS10 (by decide), gU_ok (by decide), gM10 (by decide)]
          · rw [gS10 (by decide), gU_ok (by decide), gM10 (by decide)]
          · rw [gS10 (by decide), gU_ok (by decide), gM10 (by decide)]
          · rw [gS10 (by decide), gU_ok (by decide), gM10 (by decide)]
        generalize hK2 : gU (gMg (rg 10 10) K J1) 8 (p.1 * 11 + 7) (nI (flp r p.1 7 + 1)) = K2 at hN2 hQ2 ⊢
        have m1 : ∀ k, k ≠ 8 → K2 k = gMg (rg 10 10) K J1 k := fun k hk => by rw [← hK2, gU_ok hk]
        obtain ⟨J2, r0', r1', r2', r3'⟩ := pX4_release (N := N) hQ2 hiu upn_s (hQ2.pos hiu upn_s)
        rw [r0', hV_mk, e120]
        have hdt : ∀ j, dt (gMg (rg 10 10) K2 J2) j = dt K j := fun j => by
          have a : ∀ k, 6 ≤ k → k < 10 → gMg (rg 10 10) K2 J2 (10 + k) = K (10 + k) := fun k h1 h2 => by
            rw [gM10 h2, r3' k (by omega) (by omega), gS10 h2, m1 _ (by omega), k2 _ (by omega) (by omega)]
          unfold dt
          rw [a 6 (by decide) (by decide), a 7 (by decide) (by decide), a 8 (by decide) (by decide), a 9 (by decide) (by decide)]
        have hmp : ∀ l : List Nat, l.map (dt (gMg (rg 10 10) K2 J2)) = l.map (dt K) := fun l => List.map_congr_left (fun j _ => hdt j)
        have := ih ct m c0 l0 (gMg (rg 10 10) K2 J2) (expN r p.1) (P - 1) u (by omega) (by omega) (c := upl (upl c q (c0 ++ ct)) 100 (i :: upl c q (c0 ++ ct) 100)) (own := upn (upn own i 101) i 100) (by rw [upl_n (by omega), upl_s]) (by rw [hmp]; exact hct) (by rw [hmp]; exact hc0) (fun k hk hkq => by rw [hmp, upl_n (by omega), upl_n hkq]; exact ho k hk hkq) (r1'.mem (fun j _ _ => by rw [gS10 (by decide), gM10 (by decide)]) (by rw [gS10 (by decide), gM10 (by decide)]) (by rw [gS10 (by decide), gM10 (by decide)]) (by rw [gS10 (by decide), gM10 (by decide)]) (by rw [gS10 (by decide), gM10 (by decide)])) (hN2.congr (fun k _ h2 => gM10o (by omega))) ((hS.up (i := 65 + 11 * p.1 + 7) (by omega)).mem (by rw [gM10o (by decide), m1 0 (by decide), k1 0 (by decide)]) (by rw [show (14 : Nat) = 10 + 4 from rfl, gM10 (by decide), r3' 4 (by decide) (by decide), gS10 (by decide), m1 _ (by decide), k14])) (hlk.exp (by omega)) (fun q hq => hpl q (List.mem_cons_of_mem _ hq))
        rw [List.length_cons, show P - ((lt.filter (isE r0)).length + 1) = P - 1 - (lt.filter (isE r0)).length by omega]
        exact this
