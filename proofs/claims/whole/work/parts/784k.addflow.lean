/-! ===== addFlow, inject on both sides ===== -/
theorem gM_3 {J D : gM} : gMg [3] J D 3 = D 0 := rfl
theorem gM_3o {J D : gM} {k : Nat} (hk : k ≠ 3) : gMg [3] J D k = J k := by
  unfold gMg
  have : gIx [3] k = none := if_neg (fun z => hk z.symm)
  rw [this]
theorem j_addFlow {N : Nat} {v u c d : Int32} {I J : gM} {a : AB} (h : IN I J a) (hN : 20000 ≤ N) : AG [eIO, eIA, eIS] (fX8_addFlow N [.ref 0, .int v, .int u, .int c, .int d] I) (fX9_addFlow N [.ref 0, .int v, .int u, .int c, .int d] J) := by
  obtain ⟨hc, hm, hw⟩ := h
  have hm' := hm.thr (x := nI 0)
  have l0 : (0 : Int32) = nI 0 := rfl
  have l1 : (1 : Int32) = nI 1 := rfl
  have l6 : (6 : Int32) = nI 6 := rfl
  have l300 : (300 : Int32) = nI 300 := rfl
  have l200 : (200 : Int32) = nI 200 := rfl
  have d0 : (0 : Int64) = (nI 0).toInt64 := by decide
  have d300 : (300 : Int64) = (nI 300).toInt64 := by decide
  have d200 : (200 : Int64) = (nI 200).toInt64 := by decide
  have l2 : (2 : Int32) = nI 2 := rfl
  have cc2 : ∀ X : gO, ck 2746 2 X = X := fun X => by rw [l2, ckI (by decide) (by decide)]
  have n2 : (2 : Int32).toNatClampNeg = 2 := by decide
  obtain ⟨w0, w1, w2⟩ := hw.lt
  rw [eX8_addFlow, eX8_addFlow_0, x_two hc hw, eX9_addFlow, eX9_addFlow_0, l0, m_nodes hm'.1]
  cases hv : (ndb v (a.1.1 0) && ndb u (a.1.1 0)) with
  | false =>
    rw [m_ff, i_f, i_e1]
    exact AG.ex 0 rfl rfl rfl gU_us ⟨hc, hm'.thr, hw⟩
  | true =>
    obtain ⟨hv1, hv2⟩ := and_t hv
    obtain ⟨x, x1, x2⟩ := ndb_t (by omega) hv1
    obtain ⟨y, y1, y2⟩ := ndb_t (by omega) hv2
    subst x2; subst y2
    rw [m_ft, i_t, i_e0]
    have fail2 : AG [eIO, eIA, eIS] (some (.inr "java/lang/IllegalArgumentException", I)) (hX9_addFlow_56 N (nI x) (nI y) c d (gU J 0 0 (nI 0))) := by
      rw [eX9_addFlow_56, eX9_addFlow_57, m_f0, i_n1]
      exact AG.ex 1 rfl rfl rfl gU_us ⟨hc, hm'.thr, hw⟩
    by_cases e : x = y
    · rw [if_neg (fun z => (cne (by omega) (by omega)).mp z e), if_pos ((ceq (by omega) (by omega)).mpr e)]
      exact fail2
    · rw [if_pos ((cne (by omega) (by omega)).mpr e), if_neg (fun z => e ((ceq (by omega) (by omega)).mp z)), l300, x_range, d0, d300, m_in, eX9_addFlow_36]
      cases hr : rgb c (nI 0) (nI 300) with
      | false =>
        rw [i_f, show gz_eq (b2 false) = gz_eq 0 from rfl, i_e0]
        exact fail2
      | true =>
        obtain ⟨z, -, z1, z2⟩ := rgb_t (by decide) (by decide) hr
        subst z2
        rw [i_t, show gz_eq (b2 true) = gz_eq 1 from rfl, i_e1, l200, x_range, d0, d200, m_in]
        cases hd : rgb d (nI 0) (nI 200) with
        | false =>
          rw [i_f, show gz_eq (b2 false) = gz_eq 0 from rfl, i_e0]
          exact fail2
        | true =>
          obtain ⟨t, -, t1, t2⟩ := rgb_t (by decide) (by decide) hd
          subst t2
          have e32 : gU J 0 0 (nI 0) 3 2 = nI (a.1.1 2) := hm'.1.1 2 (by decide)
          rw [i_t, show gz_eq (b2 true) = gz_eq 1 from rfl, i_e1, eX9_addFlow_57, m_f1, i_n0, cc2, n2, e32, eX8_addFlow_23, hc.nums.2.2, l6]
          by_cases h6 : a.1.1 2 < 6
          · obtain ⟨I1, i0, i1, i2⟩ := c_rem (N := N) (K := fun I4 => hV (fX2_putFlow N [.ref 0, .int (nI x), .int (nI y), .int (nI z), .int (nI t)] (gS (rg 2 9) I4)) (rg 2 9) I4 fun I5 => some (.inl (some (.int (gb_sub (I5 2 2) 1))), I5)) hc hw (by omega)
            obtain ⟨J1, j0, j1, j2, j3⟩ := m_rec (N := N) (K := fun I7 => hV (fX9_layFlow N [.ref 0, .int (nI x), .int (nI y), .int (nI z), .int (nI t)] (gS [3] I7)) [3] I7 fun I8 => hX9_addFlow_106 N I8) hm' hw hN
            have h1 : STc (gS (rg 1 20) I1) a.1 := hc.1.congr (fun q hq => by rw [gS_b hq (by decide), gS_b hq (by decide), i2 _ (by omega)])
            obtain ⟨C, p0, p1, p2⟩ := pX2_putFlow (N := N) (a := x) (b := y) (c := z) (d := t) (c_sh1 h1) w1 h6 (by omega)
            obtain ⟨D, q0, q1, q2⟩ := pX9_layFlow (N := N) (a := x) (b := y) (c := z) (d := t) (σ := a.1) (I := gS [3] J1) (by show RowIs (J1 3) a.1; rw [j3 3 (by decide) (by decide)]; exact hm'.1) h6 (by omega)
            have hst := c_net (s := layF a.1.1 x y z t) h1 hw.1.1.1 p1 (fun f hf => by
              have hf' : f < a.1.1 2 := hf
              exact layF_n (by omega) (by omega)) (fun k hk => by
              have hk' : k = 7 ∨ k = 8 ∨ 145 ≤ k := hk
              exact layF_n (by omega) (by omega))
            have e21 : gMg (rg 2 9) I1 C 2 2 = nI (a.1.1 2 + 1) := by
              have := hst.1.1.2.2
              rw [gS_b (by decide) (by decide)] at this
              rw [this]
              show nI (layF a.1.1 x y z t 2) = _
              rw [layF_2]
            have eD : D 0 2 = nI (a.1.1 2 + 1) := by
              rw [q1.1 2 (by decide)]
              show nI (layF a.1.1 x y z t 2) = _
              rw [layF_2]
            rw [if_pos ((clt (by omega) (by decide)).mpr h6), if_neg (fun q => by have := (cge (by omega) (by decide)).mp q; omega), eX9_addFlow_81, m_f1, i_e0, i0, j0, p0, hV_mk, q0, hV_mk, eX9_addFlow_106, cc2, n2, e21, gM_3, eD]
            exact AG.ok rfl rfl (by rw [gM_3o (by decide), j2 0 (by decide)]; exact gU_us) (IN.step (σ' := (layF a.1.1 x y z t, a.1.2)) hc hm' hw i1 i2 j1 j2 j3 hst (fun q hq => gMg_rgo (by omega)) (by rw [gM_3]; exact q1) (fun j hj => by rw [gM_3o (by decide)]) (fun q hq => gM_3o (by omega)) (hw.1.flow h6 x1 y1 e z1 t1))
          · rw [if_neg (fun q => h6 ((clt (by omega) (by decide)).mp q)), if_pos ((cge (by omega) (by decide)).mpr (by omega)), eX9_addFlow_81, l0, m_fz, i_e1]
            exact AG.ex 2 rfl rfl rfl gU_us ⟨hc, hm'.thr, hw⟩
/-- the state behind an injection -/
def injS (σ : St) (f n : Nat) : St := (arrN σ.1 f n (min n (500 - σ.2.length)), σ.2 ++ List.replicate (min n (500 - σ.2.length)) (newP σ.1 f))
theorem arrN_keep {r : Nat → Nat} {f n k : Nat} (hf : f < 6) : keepN r (arrN r f n k) := fun x _ _ _ _ x5 => arrN_n (x5 f 4 hf (by decide) (by decide)) (x5 f 5 hf (by decide) (by decide))
theorem injS_wt {f n : Nat} {σ : St} (h : Wt σ) (hf : f < σ.1 2) : Wt (injS σ f n) := by
  obtain ⟨⟨hw, hg⟩, h7⟩ := h
  obtain ⟨r, ps⟩ := σ
  have hf' : f < r 2 := hf
  have c0 : r 0 ≤ 10 := (wfC hw).1.2
  have c2 : r 2 ≤ 6 := (wfC hw).2.2.1
  have hpk : ∀ p ∈ ps, p.1 < r 2 ∧ p.2.1 ≤ r 7 ∧ p.2.2.2.1 < 1024 ∧ pkn p < r 0 ∧ pkn p ≠ gol r p := (wfP hw).2
  have hlen : ps.length ≤ 500 := (wfP hw).1
  obtain ⟨f0, f1, f2, f3, f4, f5, f6⟩ := wfF hw f hf
  have e : ∀ x, x ≠ 65 + 11 * f + 4 → x ≠ 65 + 11 * f + 5 → arrN r f n (min n (500 - ps.length)) x = r x := fun x h1 h2 => arrN_n h1 h2
  have e7 : arrN r f n (min n (500 - ps.length)) 7 = r 7 := e 7 (by omega) (by omega)
  have h1 : Wf (110 * r 7) (arrN r f n (min n (500 - ps.length)), ps ++ List.replicate (min n (500 - ps.length)) (newP r f)) := by
    refine Wf.of hw (arrN_keep (by omega)) (by rw [e7]; exact (wfC hw).2.2.2.2.2.2.2.1) (by rw [e 8 (by omega) (by omega)]; exact (wfC hw).2.2.2.2.2.2.2.2) (fun g hg2 => ?_) (fun g hg2 => ?_) (fun x d hx hd => ?_) (by rw [List.length_append, List.length_replicate]; omega) (fun p hp => ?_)
    · have e6 : flp (arrN r f n (min n (500 - ps.length))) g 6 = flp r g 6 := e _ (by omega) (by omega)
      rw [e6]; exact (wfF hw g hg2).2.2.2.2.2.1
    · have e6 : flp (arrN r f n (min n (500 - ps.length))) g 10 = flp r g 10 := e _ (by omega) (by omega)
      rw [e6]; exact (wfF hw g hg2).2.2.2.2.2.2
    · have es : shp (arrN r f n (min n (500 - ps.length))) x d = shp r x d := e _ (by omega) (by omega)
      rw [es]; exact wfS hw x d hx hd
    · rw [e7]
      rcases List.mem_append.mp hp with z | z
      · exact hpk p z
      · rw [List.eq_of_mem_replicate z]
        refine ⟨hf', Nat.le_refl _, ?_, f0, f2⟩
        show 2 ^ flp r f 0 < 2 ^ 10
        have f0' : flp r f 0 < r 0 := f0
        exact pow_lt (by omega)
  refine ⟨⟨?_, fun g hg2 => ?_⟩, ?_⟩
  · show Wf (110 * arrN r f n (min n (500 - ps.length)) 7) _
    rw [e7]; exact h1
  · have e6 : flp (arrN r f n (min n (500 - ps.length))) g 10 = flp r g 10 := e _ (by omega) (by omega)
    show flp (arrN r f n (min n (500 - ps.length))) g 10 ≤ _
    rw [e6]; exact hg g hg2
  · show arrN r f n (min n (500 - ps.length)) 7 ≤ 9999
    rw [e7]; exact h7
theorem injS_qs {B f n q : Nat} {σ : St} (hw : Wf B σ) (hf : f < σ.1 2) (hq : q < 100) : qsq (injS σ f n) q = upq (qsq σ) (fq σ.1 f) (qsq σ (fq σ.1 f) ++ List.replicate (min n (500 - σ.2.length)) (newP σ.1 f)) q := by
  obtain ⟨r, ps⟩ := σ
  have hf' : f < r 2 := hf
  have c0 : r 0 ≤ 10 := (wfC hw).1.2
  have c2 : r 2 ≤ 6 := (wfC hw).2.2.1
  obtain ⟨f0, f1, -⟩ := wfF hw f hf
  have f0' : flp r f 0 < r 0 := f0
  have f1' : flp r f 1 < r 0 := f1
  have hpk : ∀ p ∈ ps, p.1 < r 2 := fun p hp => ((wfP hw).2 p hp).1
  show (ps ++ List.replicate (min n (500 - ps.length)) (newP r f)).filter (inq (arrN r f n (min n (500 - ps.length))) (q / 10) (q % 10)) = upq (qsq (r, ps)) (fq r f) (qsq (r, ps) (fq r f) ++ List.replicate (min n (500 - ps.length)) (newP r f)) q
  rw [inq_congr (r := r) (fun p hp => ?_), List.filter_append, List.filter_replicate]
  · have hi : inq r (q / 10) (q % 10) (newP r f) = true ↔ q = fq r f := by
      unfold inq
      have h1 : pkn (newP r f) = flp r f 0 := rfl
      have h2 : gol r (newP r f) = flp r f 1 := rfl
      rw [Bool.and_eq_true, decide_eq_true_eq, decide_eq_true_eq, h1, h2]
      unfold fq
      omega
    by_cases e : q = fq r f
    · rw [if_pos (hi.mpr e), e, upq_s]; rfl
    · rw [if_neg (fun z => e (hi.mp z)), upq_n e, List.append_nil]; rfl
  · rcases List.mem_append.mp hp with z | z
    · have := hpk p z
      exact (arrN_keep (by omega)).fl (by omega) (by decide)
    · rw [List.eq_of_mem_replicate z]
      exact (arrN_keep (by omega)).fl (show f < 6 by omega) (by decide)
/-- a block of the class: its state's own method ran -/
theorem c_blk {I X : gM} {σ : St} (h : STc X σ) : STc (gS (rg 1 20) (gMg (rg 1 20) I X)) σ := h.congr (fun k hk => by rw [gS_b hk (by decide), gMg_rgi hk])
theorem j_inject {N : Nat} {v u : Int32} {I J : gM} {a : AB} (h : IN I J a) (hN : 20000 ≤ N) : AG [eIO, eIA] (fX8_inject N [.ref 0, .int v, .int u] I) (fX9_inject N [.ref 0, .int v, .int u] J) := by
  obtain ⟨hc, hm, hw⟩ := h
  have hm' := hm.thr (x := nI 0)
  have l0 : (0 : Int32) = nI 0 := rfl
  have l1 : (1 : Int32) = nI 1 := rfl
  have l100 : (100 : Int32) = nI 100 := rfl
  have d1 : (1 : Int64) = (nI 1).toInt64 := by decide
  have d100 : (100 : Int64) = (nI 100).toInt64 := by decide
  obtain ⟨w0, w1, w2⟩ := hw.lt
  rw [eX8_inject, eX8_inject_0, x_flow hc hw, eX9_inject, eX9_inject_0, l0, m_flow hm'.1]
  cases hv : ndb v (a.1.1 2) with
  | false =>
    rw [m_ff, i_f, i_n1]
    exact AG.ex 0 rfl rfl rfl gU_us ⟨hc, hm'.thr, hw⟩
  | true =>
    obtain ⟨f, k1, k2⟩ := ndb_t (by omega) hv
    subst k2
    rw [m_ft, i_t, i_n0, l1, l100, x_range, d1, d100, m_in, eX9_inject_28]
    cases hu : rgb u (nI 1) (nI 100) with
    | false =>
      rw [m_ff, i_f, i_e1]
      exact AG.ex 1 rfl rfl rfl gU_us ⟨hc, hm'.thr, hw⟩
    | true =>
      obtain ⟨n, u0, u1, u2⟩ := rgb_t (by decide) (by decide) hu
      subst u2
      obtain ⟨I1, i0, i1, i2⟩ := c_rem (N := N) (K := fun I3 => hX8_inject_23 N (nI f) (nI n) I3) hc hw (by omega)
      obtain ⟨J1, j0, j1, j2, j3⟩ := m_rec (N := N) (K := fun I5 => hI (fX9_arrive N [.ref 0, .int (nI f), .int (nI n)] (gS (rg 0 18) I5)) (rg 0 18) I5 fun x6 I6 => some (.inl (some (.int x6)), I6)) hm' hw hN
      have h1 : STc (gS (rg 1 20) I1) a.1 := hc.1.congr (fun q hq => by rw [gS_b hq (by decide), gS_b hq (by decide), i2 _ (by omega)])
      obtain ⟨f0, f1, f2, -⟩ := wfF hw.1.1.1 f k1
      obtain ⟨C, c0, c1, c2, c3⟩ := pX7_arrive (N := N) (I := gS (rg 1 20) I1) (n := n) h1.1 h1.2.1 h1.2.2 w1 w2 k1 (by omega) (by omega) (wfP hw.1.1.1).1 (by omega) (by omega)
      obtain ⟨D, e0, e1, e2⟩ := pX9_arrive (N := N) (σ := a.1) (M := gS (rg 0 18) J1) (f := f) (n := n) (by rw [gSm18 (by decide), j3 3 (by decide) (by decide)]; exact hm'.1) (wfP hw.1.1.1).1 (by omega) (by omega) (by omega) (by omega)
      have hk := arrN_keep (r := a.1.1) (n := n) (k := min n (500 - a.1.2.length)) (show f < 6 by omega)
      have hcC : STc C (injS a.1 f n) := by
        have := CT.to (s := (injS a.1 f n).1) (qs' := qsq (injS a.1 f n)) ⟨c1, c2, c3⟩ (by rw [hk.lo (by decide)]; exact w1) (by rw [hk.lo (by decide)]; exact w2) (fun _ _ => rfl) (fun q hq => injS_qs hw.1.1.1 k1 hq)
        have hl : (injS a.1 f n).2.length = a.1.2.length + min n (500 - a.1.2.length) := by
          show (a.1.2 ++ List.replicate _ _).length = _
          rw [List.length_append, List.length_replicate]
        show CT C (injS a.1 f n).1 (qsq (injS a.1 f n)) [] (injS a.1 f n).2.length
        rw [hl]; exact this
      have hr := rlift (I := J1) (J := D) (t := fun k => k = 3) e2
      rw [m_ft, i_t, i_e0, i0, j0, eX8_inject_23, c0, hI_mk, e0, hI_mk]
      exact AG.ok rfl rfl (by rw [hr 0 (by decide), j2 0 (by decide)]; exact gU_us) (IN.step (σ' := injS a.1 f n) hc hm' hw i1 i2 j1 j2 j3 (c_blk hcC) (fun q hq => gMg_rgo (by omega)) (by rw [gM18 (by decide)]; exact e1) (fun j hj => by rw [hr 0 (by decide)]) (fun q hq => hr q (by omega)) (injS_wt hw.1 k1))
