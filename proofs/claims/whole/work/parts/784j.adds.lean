/-! ===== addLink, addFlow, inject on both sides ===== -/
theorem lkF_some {r : Nat → Nat} {x y j : Nat} : ∀ (k i : Nat), lkF r x y i k = some j → i ≤ j ∧ j < i + k
  | 0, _, h => by cases h
  | k + 1, i, h => by
    have h' : (if lkp r i 0 = x ∧ lkp r i 1 = y then some i else lkF r x y (i + 1) k) = some j := h
    by_cases e : lkp r i 0 = x ∧ lkp r i 1 = y
    · rw [if_pos e] at h'; cases h'; omega
    · rw [if_neg e] at h'
      have := lkF_some k (i + 1) h'
      omega
theorem lkF_none {r : Nat → Nat} {x y : Nat} : ∀ (k i : Nat), lkF r x y i k = none → ∀ j, i ≤ j → j < i + k → ¬ (lkp r j 0 = x ∧ lkp r j 1 = y)
  | 0, _, _, j, h1, h2 => by omega
  | k + 1, i, h, j, h1, h2 => by
    have h' : (if lkp r i 0 = x ∧ lkp r i 1 = y then some i else lkF r x y (i + 1) k) = none := h
    by_cases e : lkp r i 0 = x ∧ lkp r i 1 = y
    · rw [if_pos e] at h'; cases h'
    · rw [if_neg e] at h'
      by_cases e2 : j = i
      · rw [e2]; exact e
      · exact lkF_none k (i + 1) h' j (by omega) (by omega)
theorem cfind_lk {I : gM} {r : Nat → Nat} {x y n : Nat} (h : ∀ k, k < n → I 1 k = nI (lkp r k 0) ∧ I 2 k = nI (lkp r k 1) ∧ lkp r k 0 < 2 ^ 31 ∧ lkp r k 1 < 2 ^ 31) (hx : x < 2 ^ 31) (hy : y < 2 ^ 31) : ∀ k, k ≤ n → cfind I (nI x) (nI y) n k = lsI (lkF r x y (n - k) k)
  | 0, _ => rfl
  | k + 1, hk => by
    obtain ⟨h1, h2, h3, h4⟩ := h (n - (k + 1)) (by omega)
    show (if I 1 (n - (k + 1)) = nI x ∧ I 2 (n - (k + 1)) = nI y then nI (n - (k + 1)) else cfind I (nI x) (nI y) n k) = lsI (if lkp r (n - (k + 1)) 0 = x ∧ lkp r (n - (k + 1)) 1 = y then some (n - (k + 1)) else lkF r x y (n - (k + 1) + 1) k)
    rw [h1, h2]
    by_cases e : lkp r (n - (k + 1)) 0 = x ∧ lkp r (n - (k + 1)) 1 = y
    · rw [if_pos e, if_pos ⟨(nI_eq h3 hx).mpr e.1, (nI_eq h4 hy).mpr e.2⟩]; rfl
    · rw [if_neg e, if_neg (fun z => e ⟨(nI_eq h3 hx).mp z.1, (nI_eq h4 hy).mp z.2⟩), cfind_lk h hx hy k (by omega), show n - (k + 1) + 1 = n - k by omega]
theorem qsq_to {B : Nat} {r s : Nat → Nat} {ps : List Pk} (hw : Wf B (r, ps)) (h : ∀ f, f < r 2 → flp s f 1 = flp r f 1) : qsq (s, ps) = qsq (r, ps) := by
  funext q
  exact inq_congr (fun p hp => h p.1 ((wfP hw).2 p hp).1)
/-- the net of a state is changed by its own method (places 2..10) -/
theorem c_net {B : Nat} {r s : Nat → Nat} {ps : List Pk} {I X : gM} (h : STc (gS (rg 1 20) I) (r, ps)) (hw : Wf B (r, ps)) (hX : CN (sh1 X) s) (h1 : ∀ f, f < r 2 → flp s f 1 = flp r f 1) (hx : ∀ x, (x = 7 ∨ x = 8 ∨ 145 ≤ x) → s x = r x) : STc (gS (rg 1 20) (gMg (rg 2 9) I X)) (s, ps) := by
  obtain ⟨hn, hs, hq⟩ := h
  have mi : ∀ k, k < 9 → gMg (rg 2 9) I X (2 + k) = X k := fun k hk => gMg_rgi hk
  have mo : ∀ k, (k < 2 ∨ 11 ≤ k) → gMg (rg 2 9) I X k = I k := fun k hk => gMg_rgo (by omega)
  refine ⟨hX.congr (fun k k1 k9 => ?_), ⟨?_, ?_, fun q hq2 => ?_⟩, ?_⟩
  · rw [gS_b (by omega) (by decide), show 1 + k = 2 + (k - 1) by omega, mi _ (by omega)]; rfl
  · rw [gS_b (by decide) (by decide), mo _ (by omega)]
    show _ = nI (s 7)
    rw [hx 7 (by omega)]
    have := hs.1
    rw [gS_b (by decide) (by decide)] at this; exact this
  · rw [gS_b (by decide) (by decide), mo _ (by omega)]
    show _ = nI (s 8)
    rw [hx 8 (by omega)]
    have := hs.2.1
    rw [gS_b (by decide) (by decide)] at this; exact this
  · rw [gS_b (by decide) (by decide), mo _ (by omega)]
    show _ = nI (s (145 + q))
    rw [hx _ (by omega)]
    have := hs.2.2 q hq2
    rw [gS_b (by decide) (by decide)] at this; exact this
  · rw [qsq_to hw h1]
    exact CQ.congr hq (fun k k1 k2 _ => by rw [gS_b k2 (by decide), gS_b k2 (by decide), mo _ (by omega)])
theorem c_sh1 {I : gM} {σ : St} (h : STc (gS (rg 1 20) I) σ) : CN (sh1 (gS (rg 2 9) I)) σ.1 := h.1.congr (fun k k1 k9 => by
  show gS (rg 2 9) I (k - 1) = _
  rw [gS_b (by omega) (by decide), gS_b (by omega) (by decide), show 2 + (k - 1) = 1 + k by omega])
theorem j_addLink {N : Nat} {v u c : Int32} {I J : gM} {a : AB} (h : IN I J a) (hN : 20000 ≤ N) : AG [eIO, eIA, eIS] (fX8_addLink N [.ref 0, .int v, .int u, .int c] I) (fX9_addLink N [.ref 0, .int v, .int u, .int c] J) := by
  obtain ⟨hc, hm, hw⟩ := h
  have hm' := hm.thr (x := nI 0)
  have l0 : (0 : Int32) = nI 0 := rfl
  have l1 : (1 : Int32) = nI 1 := rfl
  have l5 : (5 : Int32) = nI 5 := rfl
  have l14 : (14 : Int32) = nI 14 := rfl
  have lm : (-1 : Int32) = mI := rfl
  have d1 : (1 : Int64) = (nI 1).toInt64 := by decide
  have d5 : (5 : Int64) = (nI 5).toInt64 := by decide
  have cc1 : ∀ X : gO, ck 2746 1 X = X := fun X => by rw [l1, ckI (by decide) (by decide)]
  have n1 : (1 : Int32).toNatClampNeg = 1 := by decide
  obtain ⟨w0, w1, w2⟩ := hw.lt
  obtain ⟨c0, -⟩ := wfC hw.1.1.1
  rw [eX8_addLink, eX8_addLink_0, x_two hc hw, eX9_addLink, eX9_addLink_0, l0, m_nodes hm'.1]
  cases hv : (ndb v (a.1.1 0) && ndb u (a.1.1 0)) with
  | false =>
    rw [m_ff, i_f, i_n1]
    exact AG.ex 0 rfl rfl rfl gU_us ⟨hc, hm'.thr, hw⟩
  | true =>
    obtain ⟨hv1, hv2⟩ := and_t hv
    obtain ⟨x, x1, x2⟩ := ndb_t (by omega) hv1
    obtain ⟨y, y1, y2⟩ := ndb_t (by omega) hv2
    subst x2; subst y2
    rw [m_ft, i_t, i_n0]
    by_cases e : x = y
    · rw [if_neg (fun z => (cne (by omega) (by omega)).mp z e), if_pos ((ceq (by omega) (by omega)).mpr e), eX9_addLink_41, eX9_addLink_42, m_f0, i_e1]
      exact AG.ex 1 rfl rfl rfl gU_us ⟨hc, hm'.thr, hw⟩
    · rw [if_pos ((cne (by omega) (by omega)).mpr e), if_neg (fun z => e ((ceq (by omega) (by omega)).mp z)), l1, l5, x_range, d1, d5, m_in, eX9_addLink_34]
      cases hr : rgb c (nI 1) (nI 5) with
      | false =>
        rw [i_f, show gz_eq (b2 false) = gz_eq 0 from rfl, i_e0, eX9_addLink_41, eX9_addLink_42, m_f0, i_e1]
        exact AG.ex 1 rfl rfl rfl gU_us ⟨hc, hm'.thr, hw⟩
      | true =>
        obtain ⟨z, z0, z1, z2⟩ := rgb_t (by decide) (by decide) hr
        subst z2
        have hlk : ∀ k, k < a.1.1 1 → lkp a.1.1 k 0 < 10 ∧ lkp a.1.1 k 1 < 10 := fun k hk => by
          obtain ⟨q0, q1, -⟩ := wfL hw.1.1.1 k hk
          exact ⟨by omega, by omega⟩
        have hli := pX9_linkIn (N := N) (a := x) (b := y) (r := a.1.1) (I := gS [3] (gU J 0 0 (nI 0))) (fun k hk => hm'.1.1 k (by omega)) w1 hlk (by omega) (by omega) (by omega)
        have g3 : ∀ X : gM, gMg [3] X (gS [3] X) = X := fun X => gMg_gS _ _ (by decide)
        have e31 : gU J 0 0 (nI 0) 3 1 = nI (a.1.1 1) := hm'.1.1 1 (by decide)
        rw [i_t, show gz_eq (b2 true) = gz_eq 1 from rfl, i_e1, eX9_addLink_42, m_f1, i_e0, hli, hI_mk, g3, lm, cc1, n1, e31, hc.nums.2.1, l14]
        have hfind : fX2_findLink N [.ref 0, .int (nI x), .int (nI y)] (gS (rg 2 9) I) = some (.inl (some (.int (lsI (lkF a.1.1 x y 0 (a.1.1 1))))), gS (rg 2 9) I) := by
          have h1 := pX2_findLink N (n := a.1.1 1) (nI x) (nI y) (gS (rg 2 9) I) (by rw [gS_b (by decide) (by decide)]; exact hc.nums.2.1) w1 (by omega)
          rw [cfind_lk (r := a.1.1) (fun k hk => by
            obtain ⟨q0, q1, -⟩ := hc.lk hk
            obtain ⟨p0, p1⟩ := hlk k hk
            rw [gS_b (by decide) (by decide), gS_b (by decide) (by decide)]
            exact ⟨q0, q1, by omega, by omega⟩) (by omega) (by omega) _ (Nat.le_refl _), Nat.sub_self] at h1
          exact h1
        have fail3 : ∀ X : gO, X = hX9_addLink_80 N (nI x) (nI y) (nI z) (gU J 0 0 (nI 0)) → AG [eIO, eIA, eIS] (some (.inr "java/lang/IllegalStateException", I)) X := fun X hX => by
          rw [hX, eX9_addLink_80, eX9_addLink_81, m_f0, i_e1]
          exact AG.ex 2 rfl rfl rfl gU_us ⟨hc, hm'.thr, hw⟩
        by_cases h14 : a.1.1 1 < 14
        · rw [if_neg (fun q => by have := (cge (by omega) (by decide)).mp q; omega), hfind, hI_mk, gMg_same _ (by decide), eX8_addLink_39, lm, if_neg (show ¬ gc_ge (nI (a.1.1 1)) (nI 14) = true from fun q => by have := (cge (by omega) (by decide)).mp q; omega)]
          cases hf : lkF a.1.1 x y 0 (a.1.1 1) with
          | some k =>
            have hk := lkF_some _ _ hf
            rw [show lsI (some k) = nI k from rfl, if_neg (ceqm (a := k) (by omega)).mp, if_pos ((cnem (a := k) (by omega)).mpr True.intro)]
            exact fail3 _ rfl
          | none =>
            have hno := lkF_none _ _ hf
            obtain ⟨I1, i0, i1, i2⟩ := c_rem (N := N) (K := fun I4 => hV (fX2_putLink N [.ref 0, .int (nI x), .int (nI y), .int (nI z)] (gS (rg 2 9) I4)) (rg 2 9) I4 fun I5 => some (.inl (some (.int (gb_sub (I5 2 1) (nI 1)))), I5)) hc hw (by omega)
            obtain ⟨J1, j0, j1, j2, j3⟩ := m_rec (N := N) (K := fun I7 => hV (fX9_layLink N [.ref 0, .int (nI x), .int (nI y), .int (nI z)] (gS [3] I7)) [3] I7 fun I8 => hX9_addLink_104 N I8) hm' hw hN
            have h1 : STc (gS (rg 1 20) I1) a.1 := hc.1.congr (fun q hq => by rw [gS_b hq (by decide), gS_b hq (by decide), i2 _ (by omega)])
            obtain ⟨C, p0, p1, p2⟩ := pX2_putLink (N := N) (a := x) (b := y) (c := z) (c_sh1 h1) w0 h14 w2 x1 y1 (fun k hk => ⟨(wfL hw.1.1.1 k hk).1, (wfL hw.1.1.1 k hk).2.1⟩) (by omega)
            obtain ⟨D, q0, q1, q2⟩ := pX9_layLink (N := N) (a := x) (b := y) (c := z) (σ := a.1) (I := gS [3] J1) (by show RowIs (J1 3) a.1; rw [j3 3 (by decide) (by decide)]; exact hm'.1) h14
            have hst := c_net (s := layL a.1.1 x y z) h1 hw.1.1.1 p1 (fun f hf => by
              have hf' : f < a.1.1 2 := hf
              exact layL_n (by omega) (by omega) (by omega)) (fun k hk => by
              have hk' : k = 7 ∨ k = 8 ∨ 145 ≤ k := hk
              exact layL_n (by omega) (by omega) (by omega))
            have m3 : gMg [3] J1 D 3 = D 0 := rfl
            have mo : ∀ k, k ≠ 3 → gMg [3] J1 D k = J1 k := fun k hk => by
              unfold gMg
              have : gIx [3] k = none := if_neg (fun z => hk z.symm)
              rw [this]
            have e21 : gMg (rg 2 9) I1 C 2 1 = nI (a.1.1 1 + 1) := by
              have := hst.1.1.2.1
              rw [gS_b (by decide) (by decide)] at this
              rw [this]
              show nI (layL a.1.1 x y z 1) = _
              rw [layL_1]
            have eD : D 0 1 = nI (a.1.1 1 + 1) := by
              rw [q1.1 1 (by decide)]
              show nI (layL a.1.1 x y z 1) = _
              rw [layL_1]
            rw [show lsI none = mI from rfl, if_pos (ceqmm.mpr True.intro), if_neg (fun q => cnemm.mp q), eX9_addLink_81, m_f1, i_e0, l1, i0, j0, p0, hV_mk, q0, hV_mk, eX9_addLink_104, cc1, n1, e21, m3, eD]
            exact AG.ok rfl rfl (by rw [mo 0 (by decide), j2 0 (by decide)]; exact gU_us) (IN.step (σ' := (layL a.1.1 x y z, a.1.2)) hc hm' hw i1 i2 j1 j2 j3 hst (fun q hq => gMg_rgo (by omega)) (by rw [m3]; exact q1) (fun j hj => by rw [mo 0 (by decide)]) (fun q hq => mo q (by omega)) (hw.1.link h14 x1 y1 e z0 z1 (fun k hk => hno k (Nat.zero_le _) (by omega))))
        · rw [if_pos ((cge (by omega) (by decide)).mpr (by omega))]
          refine fail3 _ ?_
          by_cases hn : gc_ne (lsI (lkF a.1.1 x y 0 (a.1.1 1))) mI = true
          · rw [if_pos hn]
          · rw [if_neg hn, if_pos ((cge (by omega) (by decide)).mpr (by omega))]
