/-! ===== a link is told ===== -/
/-- slot, peak and shadows of a net that begins -/
def PZ (r : Nat → Nat) : Prop := ∀ x, (x = 7 ∨ x = 8 ∨ 145 ≤ x) → r x = 0
theorem PZ.layL {r : Nat → Nat} {a b c : Nat} (h : PZ r) (h14 : r 1 < 14) : PZ (layL r a b c) := fun x hx => by
  rw [layL_n (by omega) (by omega) (by omega)]; exact h x hx
theorem PZ.layF {r : Nat → Nat} {a b c d : Nat} (h : PZ r) (h6 : r 2 < 6) : PZ (layF r a b c d) := fun x hx => by
  rw [layF_n (by omega) (by omega)]; exact h x hx
theorem PZ.con {r : Nat → Nat} {a b : Nat} (h : PZ r) (ha : a < 14) (hb : b < 14) : PZ (conS r a b true) := fun x hx => by
  rw [conS_n (by omega) (by omega)]; exact h x hx
theorem PZ.set {r : Nat → Nat} {k v : Nat} (h : PZ r) (hk : k < 4) : PZ (up1 r (3 + k) v) := fun x hx => by
  rw [up1_n (by omega)]; exact h x hx
def PW (r : Nat → Nat) (cm td : Nat) : Prop := Wt (r, ([] : List Pk)) ∧ cm ≤ 40 ∧ td < 16 ∧ PZ r
/-- both sides have read a statement that began at s: well, or up to the same place -/
def PRS (l : List Nat) (s : Nat) (J0 : gM) (oc om : gO) : Prop := (∃ I' J' s' r' cm' td', oc = some (.inl (some (.int 1)), I') ∧ om = some (.inl none, J') ∧ PC I' l s' r' cm' td' ∧ PM J' l s' none r' cm' td' ∧ PW r' cm' td' ∧ tzE l s ≤ s' ∧ s' ≤ l.length ∧ FM J0 J') ∨ ∃ I' J' e r1 c1 t1 s2 r2 c2 t2, oc = some (.inl (some (.int 0)), I') ∧ om = some (.inl none, J') ∧ PC I' l e r1 c1 t1 ∧ PM J' l s2 (some e) r2 c2 t2 ∧ FM J0 J'
theorem PC.nums {I : gM} {l : List Nat} {s : Nat} {r : Nat → Nat} {cm td : Nat} (h : PC I l s r cm td) : I 2 0 = nI (r 0) ∧ I 2 1 = nI (r 1) ∧ I 2 2 = nI (r 2) := by
  obtain ⟨a0, a1, a2⟩ := h.2.2.1
  have e : gS (rg 2 9) I 0 = I 2 := gS_b (by decide) (by decide)
  have a0' : gS (rg 2 9) I 0 0 = nI (r 0) := a0
  have a1' : gS (rg 2 9) I 0 1 = nI (r 1) := a1
  have a2' : gS (rg 2 9) I 0 2 = nI (r 2) := a2
  rw [e] at a0' a1' a2'
  exact ⟨a0', a1', a2'⟩
theorem PC.net {I C : gM} {l : List Nat} {s : Nat} {r r' : Nat → Nat} {cm td : Nat} (h : PC I l s r cm td) (hC : CN (sh1 C) r') : PC (gMg (rg 2 9) I C) l s r' cm td := by
  have e0 : gMg (rg 2 9) I C 0 = I 0 := gMg_rgo (Or.inl (by decide))
  have e1 : gMg (rg 2 9) I C 1 = I 1 := gMg_rgo (Or.inl (by decide))
  exact ⟨h.1.congr (fun j _ => by rw [e0]) e1, by rw [e0]; exact h.2.1, cn_back hC⟩
theorem x_lk {N s x y : Nat} {l : List Nat} {I : gM} {r : Nat → Nat} {cm td : Nat} {K : Int32 → gM → gO} (hN : 1000 ≤ N) (h : PC I l s r cm td) (W : Wt (r, ([] : List Pk))) (hx : x < 10) (hy : y < 10) : hI (fX2_findLink N [.ref 0, .int (nI x), .int (nI y)] (gS (rg 2 9) I)) (rg 2 9) I K = K (lsI (lkF r x y 0 (r 1))) I := by
  have w14 : r 1 ≤ 14 := (wfC W.1.1).2.1
  have w10 : r 0 ≤ 10 := (wfC W.1.1).1.2
  have h1 := pX2_findLink N (n := r 1) (nI x) (nI y) (gS (rg 2 9) I) (h.2.2.1.2.1) w14 (by omega)
  rw [cfind_lk (r := r) (fun k hk => by
    obtain ⟨q0, q1, -⟩ := h.2.2.2.1 k hk
    obtain ⟨p0, p1, -⟩ := wfL W.1.1 k hk
    have p0' : lkp r k 0 < r 0 := p0
    have p1' : lkp r k 1 < r 0 := p1
    exact ⟨q0, q1, by omega, by omega⟩) (by omega) (by omega) _ (Nat.le_refl _), Nat.sub_self] at h1
  rw [h1, hI_mk, g29s]
theorem m_lk {N s x y : Nat} {g : Option Nat} {l : List Nat} {J : gM} {r : Nat → Nat} {cm td : Nat} {K : Int32 → gM → gO} (hN : 1000 ≤ N) (h : PM J l s g r cm td) (W : Wt (r, ([] : List Pk))) (hx : x < 10) (hy : y < 10) : hI (fX9_linkIn N [.ref 0, .int (nI x), .int (nI y)] (gS [2] J)) [2] J K = K (lsI (lkF r x y 0 (r 1))) J := by
  have w14 : r 1 ≤ 14 := (wfC W.1.1).2.1
  have w10 : r 0 ≤ 10 := (wfC W.1.1).1.2
  have g2 : ∀ X : gM, gMg [2] X (gS [2] X) = X := fun X => gMg_gS _ _ (by decide)
  have hR := h.2.2.2.2
  rw [pX9_linkIn (N := N) (a := x) (b := y) (r := r) (I := gS [2] J) (fun k hk => hR.1 k (by omega)) w14 (fun k hk => by
    obtain ⟨p0, p1, -⟩ := wfL W.1.1 k hk
    have p0' : lkp r k 0 < r 0 := p0
    have p1' : lkp r k 1 < r 0 := p1
    exact ⟨by omega, by omega⟩) (by omega) (by omega) hN, hI_mk, g2]
theorem PM.row {J D : gM} {l : List Nat} {s : Nat} {g : Option Nat} {r r' : Nat → Nat} {cm td : Nat} (h : PM J l s g r cm td) (hD : RowIs (D 0) (r', [])) : PM (gMg [2] J D) l s g r' cm td ∧ FM J (gMg [2] J D) := by
  have mo : ∀ k, k ≠ 2 → gMg [2] J D k = J k := fun k hk => by
    unfold gMg
    have : gIx [2] k = none := if_neg (fun z => hk z.symm)
    rw [this]
  have m2 : gMg [2] J D 2 = D 0 := rfl
  refine ⟨?_, fun j _ => by rw [mo 0 (by decide)], fun q _ q2 => mo q q2⟩
  unfold PM
  rw [mo 0 (by decide), m2]
  exact ⟨h.1.pos (by rw [mo 0 (by decide)]) (mo 1 (by decide)), h.2.1, h.2.2.1, h.2.2.2.1, hD⟩
theorem m_lay {N s a b c : Nat} {g : Option Nat} {l : List Nat} {J : gM} {r : Nat → Nat} {cm td : Nat} (h : PM J l s g r cm td) (h14 : r 1 < 14) : ∃ J', (∀ K : gM → gO, hV (fX9_layLink N [.ref 0, .int (nI a), .int (nI b), .int (nI c)] (gS [2] J)) [2] J K = K J') ∧ PM J' l s g (layL r a b c) cm td ∧ FM J J' := by
  obtain ⟨D, q0, q1, q2⟩ := pX9_layLink (N := N) (a := a) (b := b) (c := c) (σ := (r, [])) (I := gS [2] J) h.2.2.2.2 h14
  obtain ⟨p1, p2⟩ := h.row (D := D) q1
  exact ⟨gMg [2] J D, fun K => by rw [q0, hV_mk], p1, p2⟩
theorem c_0 {X : gO} : ck 2746 0 X = X := by
  have l0 : (0 : Int32) = nI 0 := rfl
  rw [l0, ckI (by decide) (by decide)]
theorem c_1 {X : gO} : ck 2746 1 X = X := by
  have l1 : (1 : Int32) = nI 1 := rfl
  rw [l1, ckI (by decide) (by decide)]
theorem c_2 {X : gO} : ck 2746 2 X = X := by
  have l2 : (2 : Int32) = nI 2 := rfl
  rw [l2, ckI (by decide) (by decide)]
theorem t_0 : (0 : Int32).toNatClampNeg = 0 := by decide
theorem t_1 : (1 : Int32).toNatClampNeg = 1 := by decide
theorem t_2 : (2 : Int32).toNatClampNeg = 2 := by decide
theorem PM.at {J : gM} {l : List Nat} {s : Nat} {g : Option Nat} {r : Nat → Nat} {cm td : Nat} (h : PM J l s g r cm td) {k : Nat} (hk : k < 245) : J 2 k = nI (r k) := h.2.2.2.2.1 k hk
theorem m_node_t {N s : Nat} {l : List Nat} {J : gM} {r : Nat → Nat} {cm td : Nat} (hT : TXT l) (hN : 1000 ≤ N) (hs : s ≤ l.length) (h0 : 1 ≤ r 0) (h10 : r 0 ≤ 10) (h : PM J l s none r cm td) (hn : nmb l s 0 (r 0 - 1) = true) : ∃ J', (∀ K : Int32 → gM → gO, hI (fX9_takeNode N [.ref 0] (gS (rg 0 18) J)) (rg 0 18) J K = K (nI (tzN l s)) J') ∧ PM J' l (nxt l s) none r cm td ∧ FM J J' := by
  obtain ⟨D, d0, d1, d2⟩ := m_take_t (N := N) (lo := 0) (hi := r 0 - 1) hT hN hs (by decide) (by omega) h.sub hn
  have es : gb_sub (nI (r 0)) 1 = nI (r 0 - 1) := pk_sub (a := r 0) (b := 1) h0
  refine ⟨gMg (rg 0 18) J D, fun K => ?_, d1.sup, d2.sup⟩
  have d0' := d0
  rw [eX9_takeNode, eX9_takeNode_0, c_0, t_0, h.sub.at (by decide), es]
  refine (congrArg (fun o => hI o (rg 0 18) J K) (d0' _)).trans ?_
  rw [hI_mk]
theorem m_node_f {N s : Nat} {g : Option Nat} {l : List Nat} {J : gM} {r : Nat → Nat} {cm td : Nat} (hT : TXT l) (hs : s ≤ l.length) (h0 : 1 ≤ r 0) (h10 : r 0 ≤ 10) (h : PM J l s g r cm td) (hn : (g.isNone && nmb l s 0 (r 0 - 1)) = false) : ∃ J', (∀ K : Int32 → gM → gO, hI (fX9_takeNode N [.ref 0] (gS (rg 0 18) J)) (rg 0 18) J K = K (nI 0) J') ∧ PM J' l s (some (g.getD s)) r cm td ∧ FM J J' := by
  obtain ⟨D, d0, d1, d2⟩ := m_take_f (N := N) (lo := 0) (hi := r 0 - 1) hT hs (by decide) (by omega) h.sub hn
  have es : gb_sub (nI (r 0)) 1 = nI (r 0 - 1) := pk_sub (a := r 0) (b := 1) h0
  refine ⟨gMg (rg 0 18) J D, fun K => ?_, d1.sup, d2.sup⟩
  rw [eX9_takeNode, eX9_takeNode_0, c_0, t_0, h.sub.at (by decide), es]
  refine (congrArg (fun o => hI o (rg 0 18) J K) (d0 _)).trans ?_
  rw [hI_mk]
theorem link_bad {N s a e : Nat} {l : List Nat} {J : gM} {r : Nat → Nat} {cm td : Nat} (hT : TXT l) (hs : s ≤ l.length) (h0 : 1 ≤ r 0) (h10 : r 0 ≤ 10) (h14 : r 1 < 14) (ha : a < 1000) (h : PM J l s (some e) r cm td) : ∃ J' r', hX9_linkStatement_61 N (nI a) J = some (.inl none, J') ∧ PM J' l s (some e) r' cm td ∧ FM J J' := by
  obtain ⟨D, d0, d1, d2⟩ := m_other_f (N := N) (lo := 0) (hi := r 0 - 1) (b := a) hT hs (by decide) (by omega) ha h (Or.inl rfl)
  obtain ⟨E, e0, e1, e2⟩ := m_take_f (N := N) (lo := 1) (hi := 5) hT hs (by decide) (by decide) d1 rfl
  obtain ⟨F, f0, f1, f2⟩ := m_lay (N := N) (a := a) (b := 0) (c := 1) e1 h14
  have es : gb_sub (nI (r 0)) 1 = nI (r 0 - 1) := pk_sub (a := r 0) (b := 1) h0
  refine ⟨F, _, ?_, f1, (d2.tr e2).tr f2⟩
  rw [eX9_linkStatement_61, c_0, t_0, h.at (by decide), es]
  exact (d0 _).trans ((e0 _).trans (f0 _))
theorem s_link {N s : Nat} {l : List Nat} {I J : gM} {r : Nat → Nat} {cm td : Nat} (hT : TXT l) (hN : 20000 ≤ N) (hs : s ≤ l.length) (hW : PW r cm td) (hP : PC I l s r cm td) (hJ : PM J l s none r cm td) : PRS l s J (fX5_readLink N [.ref 0] I) (fX9_linkStatement N [.ref 0] J) := by
  have hT1 := hT.1
  have W := hW.1.1.1
  obtain ⟨⟨w2, w10⟩, w14, w6, _⟩ := wfC W
  have w2' : 2 ≤ r 0 := w2
  have w10' : r 0 ≤ 10 := w10
  have w14' : r 1 ≤ 14 := w14
  have w6' : r 2 ≤ 6 := w6
  have l14 : (14 : Int32) = nI 14 := rfl
  have lm : (-1 : Int32) = mI := rfl
  have es : gb_sub (nI (r 0)) 1 = nI (r 0 - 1) := pk_sub (a := r 0) (b := 1) (by omega)
  rw [eX5_readLink, eX5_readLink_0, hP.nums.2.1, eX9_linkStatement, eX9_linkStatement_0, c_1, t_1, hJ.at (by decide), l14]
  by_cases h14 : r 1 = 14
  · obtain ⟨J1, j0, j1, j2⟩ := m_fail (N := N) (by omega) hJ
    rw [if_neg (fun z => by have := (clt (a := r 1) (b := 14) (by omega) (by decide)).mp z; omega), if_neg (fun z => (cne (a := r 1) (b := 14) (by omega) (by decide)).mp z h14), j0]
    exact Or.inr ⟨I, J1, s, r, cm, td, s, r, cm, td, rfl, rfl, hP, j1, j2⟩
  · obtain ⟨I1, i0, i1⟩ := x_next (N := N) hT (by omega) hs hP
    obtain ⟨J1, j0, j1, j2⟩ := m_step (N := N) hT (by omega) hs hJ
    have hs1 := nxt_le hs
    have hg1 := nxt_ge l s
    have qa : ∀ K : Int32 → gM → gO, hI (fX5_isNumber N [.ref 0, .int 0, .int (nI (r 0 - 1))] (gS (rg 0 11) I1)) (rg 0 11) I1 K = K (b2 (nmb l (nxt l s) 0 (r 0 - 1))) I1 := fun K => x_num hT (lo := 0) (by decide) (by omega) i1.1
    rw [if_pos ((clt (by omega) (by decide)).mpr (by omega)), if_pos ((cne (by omega) (by decide)).mpr h14), i0, j0, i1.nums.1, es, qa]
    cases c1 : nmb l (nxt l s) 0 (r 0 - 1) with
    | false =>
      obtain ⟨J2, k0, k1, k2⟩ := m_node_f (N := N) hT hs1 (by omega) w10' j1 (by rw [c1]; rfl)
      obtain ⟨J3, r3, m0, m1, m2⟩ := link_bad (N := N) (a := 0) hT hs1 (by omega) w10' (by omega) (by decide) k1
      have qb : ∀ K : Int32 → gM → gO, hI (fX9_isNumber N [.ref 0, .int 0, .int (nI (r 0 - 1))] (gS (rg 0 18) J2)) (rg 0 18) J2 K = K (b2 false) J2 := fun K => m_num hT hs1 (lo := 0) (by decide) (by omega) k1
      rw [b2_f, i_n0, k0, eX9_linkStatement_24, c_0, t_0, k1.at (by decide), es, qb, b2_f, i_e0, m0]
      exact Or.inr ⟨I1, J3, nxt l s, r, cm, td, nxt l s, r3, cm, td, rfl, rfl, i1, m1, (j2.tr k2).tr m2⟩
    | true =>
      obtain ⟨_, _, a1⟩ := nmb_t c1
      obtain ⟨I2, i2, i3⟩ := x_next (N := N) hT (by omega) hs1 i1
      obtain ⟨J2, k0, k1, k2⟩ := m_node_t (N := N) hT (by omega) hs1 (by omega) w10' j1 c1
      have hs2 := nxt_le hs1
      have hg2 := nxt_ge l (nxt l s)
      have hz1 := tzE_ge l (nxt l s)
      have qa2 : ∀ K : Int32 → gM → gO, hI (fX5_isNumber N [.ref 0, .int 0, .int (nI (r 0 - 1))] (gS (rg 0 11) I2)) (rg 0 11) I2 K = K (b2 (nmb l (nxt l (nxt l s)) 0 (r 0 - 1))) I2 := fun K => x_num hT (lo := 0) (by decide) (by omega) i3.1
      have qb2 : ∀ K : Int32 → gM → gO, hI (fX9_isNumber N [.ref 0, .int 0, .int (nI (r 0 - 1))] (gS (rg 0 18) J2)) (rg 0 18) J2 K = K (b2 (nmb l (nxt l (nxt l s)) 0 (r 0 - 1))) J2 := fun K => (m_num hT hs2 (lo := 0) (by decide) (by omega) k1).trans rfl
      rw [b2_t, i_n1, i2, i1.1.2.2.2.2, eX5_readLink_46, i3.nums.1, es, qa2, k0, eX9_linkStatement_24, c_0, t_0, k1.at (by decide), es, qb2]
      generalize hS1 : nxt l s = s1 at *
      generalize hS2 : nxt l s1 = s2 at *
      cases c2 : nmb l s2 0 (r 0 - 1) with
      | false =>
        obtain ⟨D, d0, d1, d2⟩ := m_other_f (N := N) (lo := 0) (hi := r 0 - 1) (b := tzN l s1) hT hs2 (by decide) (by omega) (by omega) k1 (Or.inl (by rw [c2]; rfl))
        obtain ⟨E, e0, e1, e2⟩ := m_take_f (N := N) (lo := 1) (hi := 5) hT hs2 (by decide) (by decide) d1 rfl
        obtain ⟨F, f0, f1, f2⟩ := m_lay (N := N) (a := tzN l s1) (b := 0) (c := 1) e1 (by omega)
        rw [b2_f, i_e0, i_e0, eX9_linkStatement_61, c_0, t_0, k1.at (by decide), es]
        exact Or.inr ⟨I2, F, s2, r, cm, td, s2, _, cm, td, rfl, (d0 _).trans ((e0 _).trans (f0 _)), i3, f1, (((j2.tr k2).tr d2).tr e2).tr f2⟩
      | true =>
        obtain ⟨_, _, b1⟩ := nmb_t c2
        have hv2 := m_val k1 c2 (by omega)
        rw [b2_t, i_e1, i_e1, i3.1.2.2.2.2, hv2, m_lk (by omega) k1 hW.1 (by omega) (by omega), lm]
        have hbad : ∃ Jx rx, (if gc_eq (lsI (lkF r (tzN l s1) (tzN l s2) 0 (r 1))) mI = true then hX9_linkStatement_61 N (nI (tzN l s1)) J2 else hV (fX9_fail N [.ref 0] (gS (rg 0 18) J2)) (rg 0 18) J2 fun I6 => hX9_linkStatement_61 N (nI (tzN l s1)) I6) = some (.inl none, Jx) ∧ PM Jx l s2 (some s2) rx cm td ∧ FM J2 Jx ∨ ((lkF r (tzN l s1) (tzN l s2) 0 (r 1)) = none ∧ tzN l s2 ≠ tzN l s1) := by
          cases hf : lkF r (tzN l s1) (tzN l s2) 0 (r 1) with
          | some k =>
            have hk := lkF_some _ _ hf
            obtain ⟨D, d0, d1, d2⟩ := m_fail (N := N) (by omega) k1
            obtain ⟨F, r3, f0, f1, f2⟩ := link_bad (N := N) (a := tzN l s1) hT hs2 (by omega) w10' (by omega) (by omega) d1
            refine ⟨F, r3, Or.inl ⟨?_, f1, d2.tr f2⟩⟩
            rw [show lsI (some k) = nI k from rfl, if_neg (ceqm (a := k) (by omega)).mp, d0, f0]
          | none =>
            by_cases he : tzN l s2 = tzN l s1
            · obtain ⟨D, d0, d1, d2⟩ := m_other_f (N := N) (lo := 0) (hi := r 0 - 1) (b := tzN l s1) hT hs2 (by decide) (by omega) (by omega) k1 (Or.inr he)
              obtain ⟨E, e0, e1, e2⟩ := m_take_f (N := N) (lo := 1) (hi := 5) hT hs2 (by decide) (by decide) d1 rfl
              obtain ⟨F, f0, f1, f2⟩ := m_lay (N := N) (a := tzN l s1) (b := 0) (c := 1) e1 (by omega)
              refine ⟨F, _, Or.inl ⟨?_, f1, (d2.tr e2).tr f2⟩⟩
              rw [show lsI none = mI from rfl, if_pos (ceqmm.mpr True.intro), eX9_linkStatement_61, c_0, t_0, k1.at (by decide), es]
              exact (d0 _).trans ((e0 _).trans (f0 _))
            · exact ⟨J, r, Or.inr ⟨rfl, he⟩⟩
        obtain ⟨Jx, rx, hbad⟩ := hbad
        have hout : tzN l s2 = tzN l s1 ∨ (lkF r (tzN l s1) (tzN l s2) 0 (r 1)) ≠ none → ∃ Jx rx, (if gc_eq (lsI (lkF r (tzN l s1) (tzN l s2) 0 (r 1))) mI = true then hX9_linkStatement_61 N (nI (tzN l s1)) J2 else hV (fX9_fail N [.ref 0] (gS (rg 0 18) J2)) (rg 0 18) J2 fun I6 => hX9_linkStatement_61 N (nI (tzN l s1)) I6) = some (.inl none, Jx) ∧ PM Jx l s2 (some s2) rx cm td ∧ FM J2 Jx := fun h => by
          rcases hbad with hb | ⟨hb1, hb2⟩
          · exact ⟨Jx, rx, hb⟩
          · rcases h with h | h
            · exact absurd h hb2
            · exact absurd hb1 h
        by_cases he : tzN l s2 = tzN l s1
        · obtain ⟨Jy, ry, y0, y1, y2⟩ := hout (Or.inl he)
          rw [if_pos ((ceq (by omega) (by omega)).mpr he), y0]
          exact Or.inr ⟨I2, Jy, s2, r, cm, td, s2, ry, cm, td, rfl, rfl, i3, y1, (j2.tr k2).tr y2⟩
        · rw [if_neg (fun z => he ((ceq (by omega) (by omega)).mp z)), x_lk (by omega) i3 hW.1 (by omega) (by omega)]
          cases hf : lkF r (tzN l s1) (tzN l s2) 0 (r 1) with
          | some k =>
            have hk := lkF_some _ _ hf
            obtain ⟨Jy, ry, y0, y1, y2⟩ := hout (Or.inr (by rw [hf]; exact fun z => by cases z))
            rw [hf] at y0
            rw [y0, show lsI (some k) = nI k from rfl, if_neg (ceqm (a := k) (by omega)).mp]
            exact Or.inr ⟨I2, Jy, s2, r, cm, td, s2, ry, cm, td, rfl, rfl, i3, y1, (j2.tr k2).tr y2⟩
          | none =>
            have hno := lkF_none _ _ hf
            obtain ⟨I3, i4, i5⟩ := x_next (N := N) hT (by omega) hs2 i3
            obtain ⟨D, d0, d1, d2⟩ := m_other_t (N := N) (lo := 0) (hi := r 0 - 1) (b := tzN l s1) hT (by omega) hs2 (by decide) (by omega) (by omega) k1 c2 he
            have hs3 := nxt_le hs2
            have hg3 := nxt_ge l s2
            have hz2 := tzE_ge l s2
            have qa3 : ∀ K : Int32 → gM → gO, hI (fX5_isNumber N [.ref 0, .int 1, .int 5] (gS (rg 0 11) I3)) (rg 0 11) I3 K = K (b2 (nmb l (nxt l s2) 1 5)) I3 := fun K => x_num hT (lo := 1) (hi := 5) (by decide) (by decide) i5.1
            rw [show lsI none = mI from rfl, if_pos (ceqmm.mpr True.intro), if_pos (ceqmm.mpr True.intro), i4, i3.1.2.2.2.2, eX5_readLink_98, qa3, eX9_linkStatement_61, c_0, t_0, k1.at (by decide), es]
            generalize hS3 : nxt l s2 = s3 at *
            cases c3 : nmb l s3 1 5 with
            | false =>
              obtain ⟨E, e0, e1, e2⟩ := m_take_f (N := N) (lo := 1) (hi := 5) hT hs3 (by decide) (by decide) d1 (by rw [c3]; rfl)
              obtain ⟨F, f0, f1, f2⟩ := m_lay (N := N) (a := tzN l s1) (b := tzN l s2) (c := 1) e1 (by omega)
              rw [b2_f, i_n0]
              exact Or.inr ⟨I3, F, s3, r, cm, td, s3, _, cm, td, rfl, (d0 _).trans ((e0 _).trans (f0 _)), i5, f1, (((j2.tr k2).tr d2).tr e2).tr f2⟩
            | true =>
              obtain ⟨_, v1, v5⟩ := nmb_t c3
              obtain ⟨E, e0, e1, e2⟩ := m_take_t (N := N) (lo := 1) (hi := 5) hT (by omega) hs3 (by decide) (by decide) d1 c3
              obtain ⟨F, f0, f1, f2⟩ := m_lay (N := N) (a := tzN l s1) (b := tzN l s2) (c := tzN l s3) e1 (by omega)
              obtain ⟨C, p0, p1, p2⟩ := pX2_putLink (N := N) (a := tzN l s1) (b := tzN l s2) (c := tzN l s3) i5.2.2 w10' (by omega) w6' (by omega) (by omega) (fun k hk => ⟨(wfL W k hk).1, (wfL W k hk).2.1⟩) (by omega)
              obtain ⟨I5, i6, i7⟩ := x_next (N := N) hT (by omega) hs3 (i5.net p1)
              have hs4 := nxt_le hs3
              have hg4 := nxt_ge l s3
              have hz3 := tzE_ge l s3
              rw [b2_t, i_n1, i5.1.2.2.2.2, p0, hV_mk, i6]
              refine Or.inl ⟨I5, F, nxt l s3, _, cm, td, rfl, (d0 _).trans ((e0 _).trans (f0 _)), i7, f1, ⟨hW.1.link (σ := (r, [])) (by show r 1 < 14; omega) (show tzN l s1 < r 0 by omega) (show tzN l s2 < r 0 by omega) (fun z => he z.symm) v1 v5 (fun k hk => hno k (Nat.zero_le _) (by have hk' : k < r 1 := hk; omega)), hW.2.1, hW.2.2.1, hW.2.2.2.layL (by omega)⟩, by omega, hs4, (((j2.tr k2).tr d2).tr e2).tr f2⟩
