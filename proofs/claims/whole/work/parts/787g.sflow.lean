/-! ===== a flow is told ===== -/
theorem layF_b {r : Nat → Nat} {a b c d : Nat} : up1 (layF r a b c 0) (65 + 11 * r 2 + 3) d = layF r a b c d := by
  funext x
  by_cases e : x = 65 + 11 * r 2 + 3
  · rw [e, up1_s]
    unfold layF
    rw [if_neg (by omega), if_neg (by omega), if_neg (by omega), if_neg (by omega), if_pos rfl]
  · rw [up1_n e]
    unfold layF
    by_cases e2 : x = 2
    · rw [if_pos e2, if_pos e2]
    · rw [if_neg e2, if_neg e2]
      by_cases e3 : x = 65 + 11 * r 2 + 0
      · rw [if_pos e3, if_pos e3]
      · rw [if_neg e3, if_neg e3]
        by_cases e4 : x = 65 + 11 * r 2 + 1
        · rw [if_pos e4, if_pos e4]
        · rw [if_neg e4, if_neg e4]
          by_cases e5 : x = 65 + 11 * r 2 + 2
          · rw [if_pos e5, if_pos e5]
          · rw [if_neg e5, if_neg e5, if_neg e, if_neg e]
theorem m_layF {N s a b c d : Nat} {g : Option Nat} {l : List Nat} {J : gM} {r : Nat → Nat} {cm td : Nat} (h : PM J l s g r cm td) (h6 : r 2 < 6) (hN : 1000 ≤ N) : ∃ J', (∀ K : gM → gO, hV (fX9_layFlow N [.ref 0, .int (nI a), .int (nI b), .int (nI c), .int (nI d)] (gS [2] J)) [2] J K = K J') ∧ PM J' l s g (layF r a b c d) cm td ∧ FM J J' := by
  obtain ⟨D, q0, q1, q2⟩ := pX9_layFlow (N := N) (a := a) (b := b) (c := c) (d := d) (σ := (r, [])) (I := gS [2] J) h.2.2.2.2 h6 hN
  obtain ⟨p1, p2⟩ := h.row (D := D) q1
  exact ⟨gMg [2] J D, fun K => by rw [q0, hV_mk], p1, p2⟩
/-- the rest of a flow statement of the reference, where something was wrong before -/
theorem flow_bad75 {N s a b c d e : Nat} {l : List Nat} {J : gM} {r : Nat → Nat} {cm td : Nat} (hN : 1000 ≤ N) (h6 : r 2 < 6) (h : PM J l s (some e) r cm td) : ∃ J' r', hX9_flowStatement_75 N (nI a) (nI b) (nI c) (nI d) J = some (.inl none, J') ∧ PM J' l s (some e) r' cm td ∧ FM J J' := by
  obtain ⟨F, f0, f1, f2⟩ := m_layF (N := N) (a := a) (b := b) (c := c) (d := d) h h6 hN
  exact ⟨F, _, by rw [eX9_flowStatement_75]; exact f0 _, f1, f2⟩
theorem flow_badW {N s a b c e : Nat} {l : List Nat} {J : gM} {r : Nat → Nat} {cm td : Nat} (hT : TXT l) (hN : 1000 ≤ N) (hs : s ≤ l.length) (h6 : r 2 < 6) (h : PM J l s (some e) r cm td) : ∃ J' r', (hI (fX9_isWord N [.ref 0, .ref 1017] (gS (rg 0 18) J)) (rg 0 18) J fun x6 I6 => hX9_flowStatement_58 N (nI a) (nI b) (nI c) 0 x6 I6) = some (.inl none, J') ∧ PM J' l s (some e) r' cm td ∧ FM J J' := by
  obtain ⟨F, r3, f0, f1, f2⟩ := flow_bad75 (N := N) (a := a) (b := b) (c := c) (d := 0) hN h6 h
  refine ⟨F, r3, ?_, f1, f2⟩
  refine (m_word (i := 17) hT (by omega) (by decide) hs h).trans ?_
  show hX9_flowStatement_58 N (nI a) (nI b) (nI c) 0 (b2 false) J = _
  rw [eX9_flowStatement_58, b2_f, i_e0]
  exact f0
theorem flow_bad24 {N s a e : Nat} {l : List Nat} {J : gM} {r : Nat → Nat} {cm td : Nat} (hT : TXT l) (hN : 1000 ≤ N) (hs : s ≤ l.length) (h0 : 1 ≤ r 0) (h10 : r 0 ≤ 10) (h6 : r 2 < 6) (ha : a < 1000) (h : PM J l s (some e) r cm td) : ∃ J' r', hX9_flowStatement_24 N (nI a) J = some (.inl none, J') ∧ PM J' l s (some e) r' cm td ∧ FM J J' := by
  obtain ⟨D, d0, d1, d2⟩ := m_other_f (N := N) (lo := 0) (hi := r 0 - 1) (b := a) hT hs (by decide) (by omega) ha h (Or.inl rfl)
  obtain ⟨E, e0, e1, e2⟩ := m_take_f (N := N) (lo := 0) (hi := 300) hT hs (by decide) (by decide) d1 rfl
  obtain ⟨F, r3, f0, f1, f2⟩ := flow_badW (N := N) (a := a) (b := 0) (c := 0) hT hN hs h6 e1
  have es : gb_sub (nI (r 0)) 1 = nI (r 0 - 1) := pk_sub (a := r 0) (b := 1) h0
  refine ⟨F, r3, ?_, f1, (d2.tr e2).tr f2⟩
  rw [eX9_flowStatement_24, c_0, t_0, h.at (by decide), es]
  exact (d0 _).trans ((e0 _).trans f0)
theorem s_flow {N s : Nat} {l : List Nat} {I J : gM} {r : Nat → Nat} {cm td : Nat} (hT : TXT l) (hN : 20000 ≤ N) (hs : s ≤ l.length) (hW : PW r cm td) (hP : PC I l s r cm td) (hJ : PM J l s none r cm td) : PRS l s J (fX5_readFlow N [.ref 0] I) (fX9_flowStatement N [.ref 0] J) := by
  have hT1 := hT.1
  have W := hW.1.1.1
  obtain ⟨⟨w2, w10⟩, w14, w6, _⟩ := wfC W
  have w2' : 2 ≤ r 0 := w2
  have w10' : r 0 ≤ 10 := w10
  have w14' : r 1 ≤ 14 := w14
  have w6' : r 2 ≤ 6 := w6
  have l6 : (6 : Int32) = nI 6 := rfl
  have es : gb_sub (nI (r 0)) 1 = nI (r 0 - 1) := pk_sub (a := r 0) (b := 1) (by omega)
  rw [eX5_readFlow, eX5_readFlow_0, hP.nums.2.2, eX9_flowStatement, eX9_flowStatement_0, c_2, t_2, hJ.at (by decide), l6]
  by_cases h6 : r 2 = 6
  · obtain ⟨J1, j0, j1, j2⟩ := m_fail (N := N) (by omega) hJ
    rw [if_neg (fun z => by have := (clt (a := r 2) (b := 6) (by omega) (by decide)).mp z; omega), if_neg (fun z => (cne (a := r 2) (b := 6) (by omega) (by decide)).mp z h6), j0]
    exact Or.inr ⟨I, J1, s, r, cm, td, s, r, cm, td, rfl, rfl, hP, j1, j2⟩
  · obtain ⟨I1, i0, i1⟩ := x_next (N := N) hT (by omega) hs hP
    obtain ⟨J1, j0, j1, j2⟩ := m_step (N := N) hT (by omega) hs hJ
    have hs1 := nxt_le hs
    have hg1 := nxt_ge l s
    have qa : ∀ K : Int32 → gM → gO, hI (fX5_isNumber N [.ref 0, .int 0, .int (nI (r 0 - 1))] (gS (rg 0 11) I1)) (rg 0 11) I1 K = K (b2 (nmb l (nxt l s) 0 (r 0 - 1))) I1 := fun K => x_num hT (lo := 0) (by decide) (by omega) i1.1
    rw [if_pos ((clt (by omega) (by decide)).mpr (by omega)), if_pos ((cne (by omega) (by decide)).mpr h6), i0, j0, i1.nums.1, es, qa]
    cases c1 : nmb l (nxt l s) 0 (r 0 - 1) with
    | false =>
      obtain ⟨J2, k0, k1, k2⟩ := m_node_f (N := N) hT hs1 (by omega) w10' j1 (by rw [c1]; rfl)
      obtain ⟨J3, r3, m0, m1, m2⟩ := flow_bad24 (N := N) (a := 0) hT (by omega) hs1 (by omega) w10' (by omega) (by decide) k1
      rw [b2_f, i_n0, k0, m0]
      exact Or.inr ⟨I1, J3, nxt l s, r, cm, td, nxt l s, r3, cm, td, rfl, rfl, i1, m1, (j2.tr k2).tr m2⟩
    | true =>
      obtain ⟨_, _, a1⟩ := nmb_t c1
      obtain ⟨I2, i2, i3⟩ := x_next (N := N) hT (by omega) hs1 i1
      obtain ⟨J2, k0, k1, k2⟩ := m_node_t (N := N) hT (by omega) hs1 (by omega) w10' j1 c1
      have hs2 := nxt_le hs1
      have hg2 := nxt_ge l (nxt l s)
      have hz1 := tzE_ge l (nxt l s)
      have qa2 : ∀ K : Int32 → gM → gO, hI (fX5_isNumber N [.ref 0, .int 0, .int (nI (r 0 - 1))] (gS (rg 0 11) I2)) (rg 0 11) I2 K = K (b2 (nmb l (nxt l (nxt l s)) 0 (r 0 - 1))) I2 := fun K => x_num hT (lo := 0) (by decide) (by omega) i3.1
      rw [b2_t, i_n1, i2, i1.1.2.2.2.2, eX5_readFlow_46, i3.nums.1, es, qa2, k0]
      generalize hS1 : nxt l s = s1 at *
      generalize hS2 : nxt l s1 = s2 at *
      have hbad : (nmb l s2 0 (r 0 - 1) = false ∨ tzN l s2 = tzN l s1) → ∃ Jx rx, hX9_flowStatement_24 N (nI (tzN l s1)) J2 = some (.inl none, Jx) ∧ PM Jx l s2 (some s2) rx cm td ∧ FM J2 Jx := fun h => by
        obtain ⟨D, d0, d1, d2⟩ := m_other_f (N := N) (lo := 0) (hi := r 0 - 1) (b := tzN l s1) hT hs2 (by decide) (by omega) (by omega) k1 (by
          rcases h with h | h
          · exact Or.inl (by rw [h]; rfl)
          · exact Or.inr h)
        obtain ⟨E, e0, e1, e2⟩ := m_take_f (N := N) (lo := 0) (hi := 300) hT hs2 (by decide) (by decide) d1 rfl
        obtain ⟨F, r3, f0, f1, f2⟩ := flow_badW (N := N) (a := tzN l s1) (b := 0) (c := 0) hT (by omega) hs2 (by omega) e1
        refine ⟨F, r3, ?_, f1, (d2.tr e2).tr f2⟩
        rw [eX9_flowStatement_24, c_0, t_0, k1.at (by decide), es]
        exact (d0 _).trans ((e0 _).trans f0)
      cases c2 : nmb l s2 0 (r 0 - 1) with
      | false =>
        obtain ⟨Jy, ry, y0, y1, y2⟩ := hbad (Or.inl c2)
        rw [b2_f, i_e0, y0]
        exact Or.inr ⟨I2, Jy, s2, r, cm, td, s2, ry, cm, td, rfl, rfl, i3, y1, (j2.tr k2).tr y2⟩
      | true =>
        obtain ⟨_, _, b1⟩ := nmb_t c2
        rw [b2_t, i_e1, i3.1.2.2.2.2]
        by_cases he : tzN l s2 = tzN l s1
        · obtain ⟨Jy, ry, y0, y1, y2⟩ := hbad (Or.inr he)
          rw [if_neg (fun z => (cne (by omega) (by omega)).mp z he), y0]
          exact Or.inr ⟨I2, Jy, s2, r, cm, td, s2, ry, cm, td, rfl, rfl, i3, y1, (j2.tr k2).tr y2⟩
        · obtain ⟨I3, i4, i5⟩ := x_next (N := N) hT (by omega) hs2 i3
          obtain ⟨D, d0, d1, d2⟩ := m_other_t (N := N) (lo := 0) (hi := r 0 - 1) (b := tzN l s1) hT (by omega) hs2 (by decide) (by omega) (by omega) k1 c2 he
          have hs3 := nxt_le hs2
          have hg3 := nxt_ge l s2
          have hz2 := tzE_ge l s2
          have qa3 : ∀ K : Int32 → gM → gO, hI (fX5_isNumber N [.ref 0, .int 0, .int 300] (gS (rg 0 11) I3)) (rg 0 11) I3 K = K (b2 (nmb l (nxt l s2) 0 300)) I3 := fun K => x_num hT (lo := 0) (hi := 300) (by decide) (by decide) i5.1
          rw [if_pos ((cne (by omega) (by omega)).mpr he), i4, qa3, eX5_readFlow_90, eX9_flowStatement_24, c_0, t_0, k1.at (by decide), es]
          generalize hS3 : nxt l s2 = s3 at *
          cases c3 : nmb l s3 0 300 with
          | false =>
            obtain ⟨E, e0, e1, e2⟩ := m_take_f (N := N) (lo := 0) (hi := 300) hT hs3 (by decide) (by decide) d1 (by rw [c3]; rfl)
            obtain ⟨F, r3, f0, f1, f2⟩ := flow_badW (N := N) (a := tzN l s1) (b := tzN l s2) (c := 0) hT (by omega) hs3 (by omega) e1
            rw [b2_f, i_n0]
            exact Or.inr ⟨I3, F, s3, r, cm, td, s3, r3, cm, td, rfl, (d0 _).trans ((e0 _).trans f0), i5, f1, (((j2.tr k2).tr d2).tr e2).tr f2⟩
          | true =>
            obtain ⟨_, _, v3⟩ := nmb_t c3
            obtain ⟨E, e0, e1, e2⟩ := m_take_t (N := N) (lo := 0) (hi := 300) hT (by omega) hs3 (by decide) (by decide) d1 c3
            obtain ⟨C, p0, p1, p2⟩ := pX2_putFlow (N := N) (a := tzN l s1) (b := tzN l s2) (c := tzN l s3) (d := 0) i5.2.2 w14' (by omega) (by omega)
            obtain ⟨I5, i6, i7⟩ := x_next (N := N) hT (by omega) hs3 (i5.net p1)
            have p0' : fX2_putFlow N [.ref 0, .int (nI (tzN l s1)), .int (nI (tzN l s2)), .int (nI (tzN l s3)), .int 0] (gS (rg 2 9) I3) = some (.inl none, C) := p0
            have hs4 := nxt_le hs3
            have hg4 := nxt_ge l s3
            have hz3 := tzE_ge l s3
            have qw : ∀ K : Int32 → gM → gO, hI (fX5_isWord N [.ref 0, .ref 1004] (gS (rg 0 11) I5)) (rg 0 11) I5 K = K (b2 (twW l (nxt l s3) (wdN 4))) I5 := fun K => x_word (i := 4) hT (by omega) (by decide) hs4 i7.1
            have ew : wdN 17 = wdN 4 := rfl
            have qm : ∀ K : Int32 → gM → gO, hI (fX9_isWord N [.ref 0, .ref 1017] (gS (rg 0 18) E)) (rg 0 18) E K = K (b2 (twW l (nxt l s3) (wdN 4))) E := fun K => (m_word (i := 17) hT (by omega) (by decide) hs4 e1).trans (by rw [ew]; rfl)
            have W1 : PW (layF r (tzN l s1) (tzN l s2) (tzN l s3) 0) cm td := ⟨hW.1.flow (σ := (r, [])) (show r 2 < 6 by omega) (show tzN l s1 < r 0 by omega) (show tzN l s2 < r 0 by omega) (fun z => he z.symm) v3 (Nat.zero_le _), hW.2.1, hW.2.2.1, hW.2.2.2.layF (by omega)⟩
            rw [b2_t, i_n1, i5.1.2.2.2.2, i5.nums.2.2, p0', hV_mk, i6, qw, eX5_readFlow_127]
            refine (show PRS l s J _ (hI (fX9_takeOther N [.ref 0, .int 0, .int (nI (r 0 - 1)), .int (nI (tzN l s1))] (gS (rg 0 18) J2)) (rg 0 18) J2 fun x4 I4 => hI (fX9_takeNumber N [.ref 0, .int 0, .int 300] (gS (rg 0 18) I4)) (rg 0 18) I4 fun x5 I5 => hI (fX9_isWord N [.ref 0, .ref 1017] (gS (rg 0 18) I5)) (rg 0 18) I5 fun x6 I6 => hX9_flowStatement_58 N (nI (tzN l s1)) x4 x5 0 x6 I6) from ?_)
            have hm : (hI (fX9_takeOther N [.ref 0, .int 0, .int (nI (r 0 - 1)), .int (nI (tzN l s1))] (gS (rg 0 18) J2)) (rg 0 18) J2 fun x4 I4 => hI (fX9_takeNumber N [.ref 0, .int 0, .int 300] (gS (rg 0 18) I4)) (rg 0 18) I4 fun x5 I5 => hI (fX9_isWord N [.ref 0, .ref 1017] (gS (rg 0 18) I5)) (rg 0 18) I5 fun x6 I6 => hX9_flowStatement_58 N (nI (tzN l s1)) x4 x5 0 x6 I6) = hX9_flowStatement_58 N (nI (tzN l s1)) (nI (tzN l s2)) (nI (tzN l s3)) 0 (b2 (twW l (nxt l s3) (wdN 4))) E := (d0 _).trans ((e0 _).trans (qm _))
            rw [hm, eX9_flowStatement_58]
            generalize hS4 : nxt l s3 = s4 at *
            cases hw : twW l s4 (wdN 4) with
            | false =>
              obtain ⟨F, f0, f1, f2⟩ := m_layF (N := N) (a := tzN l s1) (b := tzN l s2) (c := tzN l s3) (d := 0) e1 (by omega) (by omega)
              rw [b2_f, i_e0, i_e0, eX5_readFlow_138, eX9_flowStatement_75]
              exact Or.inl ⟨I5, F, s4, _, cm, td, rfl, f0 _, i7, f1, W1, by omega, hs4, (((j2.tr k2).tr d2).tr e2).tr f2⟩
            | true =>
              obtain ⟨I6, x0, x1⟩ := x_next (N := N) hT (by omega) hs4 i7.sub
              obtain ⟨E2, y0, y1, y2⟩ := m_step (N := N) hT (by omega) hs4 e1
              have hs5 := nxt_le hs4
              have hg5 := nxt_ge l s4
              have hz4 := tzE_ge l s4
              have qb : ∀ K : Int32 → gM → gO, hI (fX5_isNumber N [.ref 0, .int 0, .int 200] (gS (rg 0 11) I6)) (rg 0 11) I6 K = K (b2 (nmb l (nxt l s4) 0 200)) I6 := fun K => x_num hT (lo := 0) (hi := 200) (by decide) (by decide) x1.1
              rw [b2_t, i_e1, i_e1, y0, eX5_readBudget, eX5_readBudget_0, x0, qb]
              generalize hS5 : nxt l s4 = s5 at *
              cases c5 : nmb l s5 0 200 with
              | false =>
                obtain ⟨E3, z0, z1, z2⟩ := m_take_f (N := N) (lo := 0) (hi := 200) hT hs5 (by decide) (by decide) y1 (by rw [c5]; rfl)
                obtain ⟨F, r3, f0, f1, f2⟩ := flow_bad75 (N := N) (a := tzN l s1) (b := tzN l s2) (c := tzN l s3) (d := 0) (by omega) (by omega) z1
                rw [b2_f, i_n0, hI_mk, i_e0]
                exact Or.inr ⟨_, F, s5, _, cm, td, s5, r3, cm, td, rfl, (z0 _).trans f0, x1.sup, f1, (((((j2.tr k2).tr d2).tr e2).tr y2).tr z2).tr f2⟩
              | true =>
                obtain ⟨_, _, v5⟩ := nmb_t c5
                obtain ⟨E3, z0, z1, z2⟩ := m_take_t (N := N) (lo := 0) (hi := 200) hT (by omega) hs5 (by decide) (by decide) y1 c5
                obtain ⟨F, f0, f1, f2⟩ := m_layF (N := N) (a := tzN l s1) (b := tzN l s2) (c := tzN l s3) (d := tzN l s5) z1 (by omega) (by omega)
                have hput : fX2_putNumber N [.ref 0, .int (nI (r 2)), .int 3, .int (nI (tzN l s5))] (gS (rg 2 9) I6) = some (.inl none, gU (gS (rg 2 9) I6) 7 (r 2 * 11 + 3) (nI (tzN l s5))) := pX2_putNumber N (f := r 2) (w := 3) _ _ (by omega)
                have e1' : layF r (tzN l s1) (tzN l s2) (tzN l s3) 0 1 = r 1 := layF_n (by decide) (by omega)
                have e2' : layF r (tzN l s1) (tzN l s2) (tzN l s3) 0 2 = r 2 + 1 := layF_2
                have hCN : CN (sh1 (gU (gS (rg 2 9) I6) 7 (r 2 * 11 + 3) (nI (tzN l s5)))) (layF r (tzN l s1) (tzN l s2) (tzN l s3) (tzN l s5)) := by
                  rw [sh1U (by decide), ← layF_b]
                  exact x1.2.2.num (by rw [e1']; exact w14') (by rw [e2']; omega) (by rw [e2']; omega) (by decide)
                obtain ⟨I7, u0, u1⟩ := x_next (N := N) hT (by omega) hs5 (x1.net hCN)
                have hs6 := nxt_le hs5
                have hg6 := nxt_ge l s5
                have hz5 := tzE_ge l s5
                rw [b2_t, i_n1, x1.1.2.2.2.2, hput, hV_mk, eX5_readBudget_30, u0, hI_mk, i_e1, eX5_readFlow_138]
                refine Or.inl ⟨_, F, nxt l s5, _, cm, td, rfl, (z0 _).trans ((eX9_flowStatement_75 _ _ _ _ _ _).trans (f0 _)), u1.sup, f1, ⟨hW.1.flow (σ := (r, [])) (show r 2 < 6 by omega) (show tzN l s1 < r 0 by omega) (show tzN l s2 < r 0 by omega) (fun z => he z.symm) v3 v5, hW.2.1, hW.2.2.1, hW.2.2.2.layF (by omega)⟩, by omega, hs6, (((((j2.tr k2).tr d2).tr e2).tr y2).tr z2).tr f2⟩
