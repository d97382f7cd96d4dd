/-! ===== a conflict, a flow ===== -/
theorem CN.conf {I : gM} {r : Nat → Nat} {k j : Nat} {c : Bool} (hn : CN I r) (h14 : r 1 ≤ 14) (h6 : r 2 ≤ 6) (hk : k < r 1) (hj : j < r 1) (hkj : k ≠ j) : CN (gU (gU I 6 k (nI (cS c (cfp r k) j))) 6 j (nI (cS c (cfp r j) k))) (conS r k j c) := by
  have e : ∀ x, (x < 131 ∨ 145 ≤ x) → conS r k j c x = r x := fun x hx => conS_n (by omega) (by omega)
  refine hn.gen (s := conS r k j c) (e 0 (by omega)) (e 1 (by omega)) (e 2 (by omega)) (by rw [gU_ok (by decide), gU_ok (by decide)]) (fun i hi => ?_) (fun i hi => ?_) (fun f w hf hw => ?_) (fun i hi => ⟨e _ (by omega), e _ (by omega)⟩) (by rw [gU_ok (by decide), gU_ok (by decide)])
  · obtain ⟨b0, b1, b2, b3, b4⟩ := hn.2.1 i hi
    have l : ∀ w, w < 4 → lkp (conS r k j c) i w = lkp r i w := fun w hw4 => e _ (by omega)
    rw [l 0 (by decide), l 1 (by decide), l 2 (by decide), l 3 (by decide), conS_cf hkj, gU_ok (k' := 2) (by decide), gU_ok (k' := 2) (by decide), gU_ok (k' := 3) (by decide), gU_ok (k' := 3) (by decide), gU_ok (k' := 4) (by decide), gU_ok (k' := 4) (by decide), gU_ok (k' := 5) (by decide), gU_ok (k' := 5) (by decide)]
    refine ⟨b0, b1, b2, b3, ?_⟩
    by_cases e1 : i = k
    · rw [if_pos e1, e1, gU_un (Or.inr hkj), gU_us]
    · rw [if_neg e1]
      by_cases e2 : i = j
      · rw [if_pos e2, e2, gU_us]
      · rw [if_neg e2, gU_un (Or.inr e2), gU_un (Or.inr e1)]; exact b4
  · rw [gU_ok (by decide), gU_ok (by decide), e _ (by omega)]; exact hn.2.2.1 i hi
  · have l : flp (conS r k j c) f w = flp r f w := e _ (by omega)
    rw [gU_ok (by decide), gU_ok (by decide), l]; exact hn.2.2.2.1 f w hf hw
theorem CN.set {I : gM} {r : Nat → Nat} {k x : Nat} (hn : CN I r) (hk : k < 4) : CN (gU I 7 k (nI x)) (up1 r (3 + k) x) := by
  refine hn.gen (up1_n (by omega)) (up1_n (by omega)) (up1_n (by omega)) (gU_ok (by decide)) (fun j hj => ?_) (fun i hi => ?_) (fun f w hf hw => ?_) (fun j hj => ⟨up1_n (by omega), up1_n (by omega)⟩) (gU_ok (by decide))
  · have l : ∀ w, lkp (up1 r (3 + k) x) j w = lkp r j w := fun w => up1_n (by omega)
    have lc : cfp (up1 r (3 + k) x) j = cfp r j := up1_n (by omega)
    rw [l, l, l, l, lc, gU_ok (by decide), gU_ok (by decide), gU_ok (by decide), gU_ok (by decide), gU_ok (by decide)]
    exact hn.2.1 j hj
  · by_cases e : i = k
    · rw [e, gU_us, up1_s]
    · rw [gU_un (Or.inr e), up1_n (by omega)]; exact hn.2.2.1 i hi
  · have l : flp (up1 r (3 + k) x) f w = flp r f w := up1_n (by omega)
    rw [gU_ok (by decide), l]; exact hn.2.2.2.1 f w hf hw
theorem sh1U {I : gM} {p j : Nat} {x : Int32} (hp : 1 ≤ p) : sh1 (gU I p j x) = gU (sh1 I) (p + 1) j x := by
  funext q
  show gU I p j x (q - 1) = gU (sh1 I) (p + 1) j x q
  by_cases e : q = p + 1
  · rw [e, Nat.add_sub_cancel, gU_u3, gU_u3]
    show upd (I p) j x = upd (I (p + 1 - 1)) j x
    rw [Nat.add_sub_cancel]
  · rw [gU_ok (by omega), gU_ok e]; rfl
theorem PM.put {J : gM} {l : List Nat} {s : Nat} {g : Option Nat} {r : Nat → Nat} {cm td k x : Nat} (h : PM J l s g r cm td) (hk : k < 245) : PM (gU J 2 k (nI x)) l s g (up1 r k x) cm td ∧ FM J (gU J 2 k (nI x)) := by
  refine ⟨?_, fun j _ => by rw [gU_ok (by decide)], fun q _ q2 => gU_ok q2⟩
  unfold PM
  rw [gU_ok (k' := 0) (by decide), gU_u3]
  exact ⟨h.1.pos (by rw [gU_ok (by decide)]) (gU_ok (by decide)), h.2.1, h.2.2.1, h.2.2.2.1, h.2.2.2.2.put (σ := (r, [])) hk⟩
theorem PM.cm {J : gM} {l : List Nat} {s : Nat} {g : Option Nat} {r : Nat → Nat} {cm td x : Nat} (h : PM J l s g r cm td) : PM (gU J 0 15 (nI x)) l s g r x td ∧ FM J (gU J 0 15 (nI x)) := by
  refine ⟨?_, fun j hj => gU_un (Or.inr (by omega)), fun q q0 _ => gU_ok q0⟩
  unfold PM
  rw [gU_un (k' := 0) (j' := 3) (Or.inr (by decide)), gU_un (k' := 0) (j' := 4) (Or.inr (by decide)), gU_un (k' := 0) (j' := 5) (Or.inr (by decide)), gU_un (k' := 0) (j' := 6) (Or.inr (by decide)), gU_un (k' := 0) (j' := 7) (Or.inr (by decide)), gU_un (k' := 0) (j' := 14) (Or.inr (by decide)), gU_us, gU_ok (k' := 2) (by decide)]
  exact ⟨h.1.pos (gU_un (Or.inr (by decide))) (gU_ok (by decide)), h.2.1, h.2.2.1, ⟨h.2.2.2.1.1, rfl⟩, h.2.2.2.2⟩
theorem PM.td {J : gM} {l : List Nat} {s : Nat} {g : Option Nat} {r : Nat → Nat} {cm td x : Nat} (h : PM J l s g r cm td) : PM (gU J 0 14 (nI x)) l s g r cm x ∧ FM J (gU J 0 14 (nI x)) := by
  refine ⟨?_, fun j hj => gU_un (Or.inr (by omega)), fun q q0 _ => gU_ok q0⟩
  unfold PM
  rw [gU_un (k' := 0) (j' := 3) (Or.inr (by decide)), gU_un (k' := 0) (j' := 4) (Or.inr (by decide)), gU_un (k' := 0) (j' := 5) (Or.inr (by decide)), gU_un (k' := 0) (j' := 6) (Or.inr (by decide)), gU_un (k' := 0) (j' := 7) (Or.inr (by decide)), gU_un (k' := 0) (j' := 15) (Or.inr (by decide)), gU_us, gU_ok (k' := 2) (by decide)]
  exact ⟨h.1.pos (gU_un (Or.inr (by decide))) (gU_ok (by decide)), h.2.1, h.2.2.1, ⟨rfl, h.2.2.2.1.2⟩, h.2.2.2.2⟩
theorem PC.cm {I : gM} {l : List Nat} {s : Nat} {r : Nat → Nat} {cm td x : Nat} (h : PC I l s r cm td) : PC (gU I 0 7 (nI x)) l s r x td :=
  ⟨h.1.congr (fun j hj => gU_un (Or.inr (by omega))) (gU_ok (by decide)), ⟨gU_us, by rw [gU_un (Or.inr (by decide))]; exact h.2.1.2⟩, cn29 h.2.2 (fun k k2 _ => gU_ok (by omega))⟩
theorem PC.td {I : gM} {l : List Nat} {s : Nat} {r : Nat → Nat} {cm td x : Nat} (h : PC I l s r cm td) : PC (gU I 0 8 (nI x)) l s r cm x :=
  ⟨h.1.congr (fun j hj => gU_un (Or.inr (by omega))) (gU_ok (by decide)), ⟨by rw [gU_un (Or.inr (by decide))]; exact h.2.1.1, gU_us⟩, cn29 h.2.2 (fun k k2 _ => gU_ok (by omega))⟩
/-- the end of a conflict statement in the reference's row -/
def cfE (r : Nat → Nat) (a b : Nat) : Nat → Nat := up1 (up1 r (131 + a) (r (131 + a) ||| 2 ^ b)) (131 + b) (up1 r (131 + a) (r (131 + a) ||| 2 ^ b) (131 + b) ||| 2 ^ a)
theorem cfE_eq {r : Nat → Nat} {a b : Nat} (h : a ≠ b) : cfE r a b = conS r a b true := by
  unfold cfE conS cS
  rw [if_pos rfl, if_pos rfl, up1_n (show 131 + b ≠ 131 + a by omega)]
  rfl
theorem conf_end {N s a b : Nat} {g : Option Nat} {l : List Nat} {J : gM} {r : Nat → Nat} {cm td : Nat} (ha : a < 14) (hb : b < 14) (h : PM J l s g r cm td) : ∃ J', (ck 2746 (gb_add 131 (nI a)) <| ck 2746 (gb_add 131 (nI a)) <| ck 2746 (gb_add 131 (nI b)) <| ck 2746 (gb_add 131 (nI b)) <| some (.inl none, (gU (gU (gU J 2 ((Int32.toNatClampNeg (gb_add 131 (nI a)))) ((gb_or ((J 2 ((Int32.toNatClampNeg (gb_add 131 (nI a)))))) (gb_shl 1 (nI b))))) 2 ((Int32.toNatClampNeg (gb_add 131 (nI b)))) ((gb_or (((gU J 2 ((Int32.toNatClampNeg (gb_add 131 (nI a)))) ((gb_or ((J 2 ((Int32.toNatClampNeg (gb_add 131 (nI a)))))) (gb_shl 1 (nI b))))) 2 ((Int32.toNatClampNeg (gb_add 131 (nI b)))))) (gb_shl 1 (nI a))))) 0 15 ((gb_add (J 0 15) 1)))) : gO) = some (.inl none, J') ∧ PM J' l s g (cfE r a b) (cm + 1) td ∧ FM J J' := by
  have l131 : (131 : Int32) = nI 131 := rfl
  have ea : gb_add 131 (nI a) = nI (131 + a) := by rw [l131]; exact nI_add _ _
  have eb : gb_add 131 (nI b) = nI (131 + b) := by rw [l131]; exact nI_add _ _
  have na : (nI (131 + a)).toNatClampNeg = 131 + a := nI_clamp (by omega)
  have nb : (nI (131 + b)).toNatClampNeg = 131 + b := nI_clamp (by omega)
  have sa : gb_shl 1 (nI a) = nI (2 ^ a) := shl1' (by omega)
  have sb : gb_shl 1 (nI b) = nI (2 ^ b) := shl1' (by omega)
  have o1 : gb_or (nI (r (131 + a))) (nI (2 ^ b)) = nI (r (131 + a) ||| 2 ^ b) := nI_or _ _
  have o2 : ∀ y, gb_or (nI y) (nI (2 ^ a)) = nI (y ||| 2 ^ a) := fun y => nI_or _ _
  have o3 : gb_add (nI cm) 1 = nI (cm + 1) := nI_add _ 1
  obtain ⟨p1, p2⟩ := h.put (k := 131 + a) (x := r (131 + a) ||| 2 ^ b) (by omega)
  obtain ⟨q1, q2⟩ := p1.put (k := 131 + b) (x := up1 r (131 + a) (r (131 + a) ||| 2 ^ b) (131 + b) ||| 2 ^ a) (by omega)
  obtain ⟨t1, t2⟩ := q1.cm (x := cm + 1)
  rw [ea, eb, ckI (by omega) (by decide), ckI (by omega) (by decide), ckI (by omega) (by decide), ckI (by omega) (by decide), na, nb, h.at (by omega), sa, sb, o1, p1.at (by omega), o2, h.2.2.2.1.2, o3]
  exact ⟨_, rfl, t1, (p2.tr q2).tr t2⟩
theorem conf_bad {N s a e : Nat} {l : List Nat} {J : gM} {r : Nat → Nat} {cm td : Nat} (hT : TXT l) (hs : s ≤ l.length) (h1 : 1 ≤ r 1) (h14 : r 1 ≤ 14) (ha : a < 14) (h : PM J l s (some e) r cm td) : ∃ J' r', hX9_conflictStatement_82 N (nI a) J = some (.inl none, J') ∧ PM J' l s (some e) r' (cm + 1) td ∧ FM J J' := by
  obtain ⟨D, d0, d1, d2⟩ := m_other_f (N := N) (lo := 0) (hi := r 1 - 1) (b := a) hT hs (by decide) (by omega) (by omega) h (Or.inl rfl)
  obtain ⟨E, e0, e1, e2⟩ := conf_end (N := N) (b := 0) ha (by decide) d1
  have es : gb_sub (nI (r 1)) 1 = nI (r 1 - 1) := pk_sub (a := r 1) (b := 1) h1
  refine ⟨E, _, ?_, e1, d2.tr e2⟩
  rw [eX9_conflictStatement_82, c_1, t_1, h.at (by decide), es]
  exact (d0 _).trans e0
theorem s_conflict {N s : Nat} {l : List Nat} {I J : gM} {r : Nat → Nat} {cm td : Nat} (hT : TXT l) (hN : 20000 ≤ N) (hs : s ≤ l.length) (hW : PW r cm td) (hP : PC I l s r cm td) (hJ : PM J l s none r cm td) : PRS l s J (fX5_readConflict N [.ref 0] I) (fX9_conflictStatement N [.ref 0] J) := by
  have hT1 := hT.1
  have W := hW.1.1.1
  obtain ⟨⟨w2, w10⟩, w14, w6, _⟩ := wfC W
  have w14' : r 1 ≤ 14 := w14
  have w6' : r 2 ≤ 6 := w6
  have hcm := hW.2.1
  have l40 : (40 : Int32) = nI 40 := rfl
  have l2 : (2 : Int32) = nI 2 := rfl
  have ec : gb_add (nI cm) 1 = nI (cm + 1) := nI_add _ 1
  rw [eX5_readConflict, eX5_readConflict_0, hP.2.1.1, hP.nums.2.1, l40, l2, ec, eX9_conflictStatement, eX9_conflictStatement_0, c_1, t_1, hJ.at (by decide), hJ.2.2.2.1.2, l40, l2]
  obtain ⟨Jf, f0, f1, f2⟩ := m_fail (N := N) (by omega) hJ
  have ef : hX9_conflictStatement_19 N J = some (.inl none, Jf) := by rw [eX9_conflictStatement_19]; exact f0 _
  have hfail : PRS l s J (some (.inl (some (.int 0)), I)) (some (.inl none, Jf)) := Or.inr ⟨I, Jf, s, r, cm, td, s, r, cm, td, rfl, rfl, hP, f1, f2⟩
  rw [ef]
  by_cases h40 : cm = 40
  · rw [if_pos (c := gc_ge (nI cm) (nI 40) = true) ((cge (by omega) (by decide)).mpr (by omega)), if_neg (c := gc_ne (nI cm) (nI 40) = true) (fun z => (cne (by omega) (by decide)).mp z h40)]
    by_cases hl : gc_lt (nI (r 1)) (nI 2) = true
    · rw [if_pos hl]; exact hfail
    · rw [if_neg hl]; exact hfail
  · rw [if_neg (c := gc_ge (nI cm) (nI 40) = true) (fun z => by have := (cge (a := cm) (b := 40) (by omega) (by decide)).mp z; omega), if_pos (c := gc_ne (nI cm) (nI 40) = true) ((cne (by omega) (by decide)).mpr h40)]
    by_cases h2 : r 1 < 2
    · rw [if_pos (c := gc_lt (nI (r 1)) (nI 2) = true) ((clt (by omega) (by decide)).mpr h2), if_neg (fun z => by have := (cge (a := r 1) (b := 2) (by omega) (by decide)).mp z; omega)]
      exact hfail
    · have es : gb_sub (nI (r 1)) 1 = nI (r 1 - 1) := pk_sub (a := r 1) (b := 1) (by omega)
      obtain ⟨I1, i0, i1⟩ := x_next (N := N) hT (by omega) hs (hP.cm (x := cm + 1))
      obtain ⟨J1, j0, j1, j2⟩ := m_step (N := N) hT (by omega) hs hJ
      have hs1 := nxt_le hs
      have hg1 := nxt_ge l s
      have qa : ∀ K : Int32 → gM → gO, hI (fX5_isNumber N [.ref 0, .int 0, .int (nI (r 1 - 1))] (gS (rg 0 11) I1)) (rg 0 11) I1 K = K (b2 (nmb l (nxt l s) 0 (r 1 - 1))) I1 := fun K => x_num hT (lo := 0) (by decide) (by omega) i1.1
      rw [if_neg (c := gc_lt (nI (r 1)) (nI 2) = true) (fun z => h2 ((clt (by omega) (by decide)).mp z)), if_pos ((cge (by omega) (by decide)).mpr (by omega)), i0, j0, i1.nums.2.1, es, qa, c_1, j1.at (by decide), es]
      cases c1 : nmb l (nxt l s) 0 (r 1 - 1) with
      | false =>
        obtain ⟨J2, k0, k1, k2⟩ := m_take_f (N := N) (lo := 0) (hi := r 1 - 1) hT hs1 (by decide) (by omega) j1 (by rw [c1]; rfl)
        obtain ⟨J3, r3, m0, m1, m2⟩ := conf_bad (N := N) (a := 0) hT hs1 (by omega) w14' (by decide) k1
        have qb : ∀ K : Int32 → gM → gO, hI (fX9_isNumber N [.ref 0, .int 0, .int (nI (r 1 - 1))] (gS (rg 0 18) J2)) (rg 0 18) J2 K = K (b2 false) J2 := fun K => m_num hT hs1 (lo := 0) (by decide) (by omega) k1
        have k0' : ∀ K : Int32 → gM → gO, hI (fX9_takeNumber N [.ref 0, .int 0, .int (nI (r 1 - 1))] (gS (rg 0 18) J1)) (rg 0 18) J1 K = K (nI 0) J2 := k0
        rw [b2_f, i_n0, k0', eX9_conflictStatement_41, c_1, t_1, k1.at (by decide), es, qb, b2_f, i_e0, m0]
        exact Or.inr ⟨I1, J3, nxt l s, r, cm + 1, td, nxt l s, r3, cm + 1, td, rfl, rfl, i1, m1, (j2.tr k2).tr m2⟩
      | true =>
        obtain ⟨_, _, a1⟩ := nmb_t c1
        obtain ⟨I2, i2, i3⟩ := x_next (N := N) hT (by omega) hs1 i1
        obtain ⟨J2, k0, k1, k2⟩ := m_take_t (N := N) (lo := 0) (hi := r 1 - 1) hT (by omega) hs1 (by decide) (by omega) j1 c1
        have k0' : ∀ K : Int32 → gM → gO, hI (fX9_takeNumber N [.ref 0, .int 0, .int (nI (r 1 - 1))] (gS (rg 0 18) J1)) (rg 0 18) J1 K = K (nI (tzN l (nxt l s))) J2 := k0
        have hs2 := nxt_le hs1
        have hg2 := nxt_ge l (nxt l s)
        have hz1 := tzE_ge l (nxt l s)
        have qa2 : ∀ K : Int32 → gM → gO, hI (fX5_isNumber N [.ref 0, .int 0, .int (nI (r 1 - 1))] (gS (rg 0 11) I2)) (rg 0 11) I2 K = K (b2 (nmb l (nxt l (nxt l s)) 0 (r 1 - 1))) I2 := fun K => x_num hT (lo := 0) (by decide) (by omega) i3.1
        have qb2 : ∀ K : Int32 → gM → gO, hI (fX9_isNumber N [.ref 0, .int 0, .int (nI (r 1 - 1))] (gS (rg 0 18) J2)) (rg 0 18) J2 K = K (b2 (nmb l (nxt l (nxt l s)) 0 (r 1 - 1))) J2 := fun K => (m_num hT hs2 (lo := 0) (by decide) (by omega) k1).trans rfl
        rw [b2_t, i_n1, i2, i1.1.2.2.2.2, eX5_readConflict_64, i3.nums.2.1, es, qa2, k0', eX9_conflictStatement_41, c_1, t_1, k1.at (by decide), es, qb2]
        generalize hS1 : nxt l s = s1 at *
        generalize hS2 : nxt l s1 = s2 at *
        have ha14 : tzN l s1 < 14 := by omega
        cases c2 : nmb l s2 0 (r 1 - 1) with
        | false =>
          obtain ⟨D, d0, d1, d2⟩ := m_other_f (N := N) (lo := 0) (hi := r 1 - 1) (b := tzN l s1) hT hs2 (by decide) (by omega) (by omega) k1 (Or.inl (by rw [c2]; rfl))
          obtain ⟨E, e0, e1, e2⟩ := conf_end (N := N) (b := 0) ha14 (by decide) d1
          rw [b2_f, i_e0, i_e0, eX9_conflictStatement_82, c_1, t_1, k1.at (by decide), es]
          exact Or.inr ⟨I2, E, s2, r, cm + 1, td, s2, _, _, td, rfl, (d0 _).trans e0, i3, e1, ((j2.tr k2).tr d2).tr e2⟩
        | true =>
          obtain ⟨_, _, b1⟩ := nmb_t c2
          have hv2 := m_val k1 c2 (by omega)
          have hb14 : tzN l s2 < 14 := by omega
          have l131 : (131 : Int32) = nI 131 := rfl
          have eadd : gb_add 131 (nI (tzN l s1)) = nI (131 + tzN l s1) := by rw [l131]; exact nI_add _ _
          have nadd : (nI (131 + tzN l s1)).toNatClampNeg = 131 + tzN l s1 := nI_clamp (by omega)
          have hcl : r (131 + tzN l s1) < 2 ^ 14 := cf_lt (σ := (r, [])) W (show tzN l s1 < r 1 by omega)
          rw [b2_t, i_e1, i_e1, i3.1.2.2.2.2, hv2, eadd, ckI (by omega) (by decide), nadd, k1.at (by omega), r_has (by omega) (by omega)]
          /- the reference ends badly where the two are the same or in conflict -/
          have hout : tzN l s2 = tzN l s1 ∨ (r (131 + tzN l s1)).testBit (tzN l s2) = true → ∃ Jx rx cx, (if gz_eq (b2 ((r (131 + tzN l s1)).testBit (tzN l s2))) = true then hX9_conflictStatement_82 N (nI (tzN l s1)) J2 else hV (fX9_fail N [.ref 0] (gS (rg 0 18) J2)) (rg 0 18) J2 fun I6 => hX9_conflictStatement_82 N (nI (tzN l s1)) I6) = some (.inl none, Jx) ∧ PM Jx l s2 (some s2) rx cx td ∧ FM J2 Jx := fun h => by
            cases hb : (r (131 + tzN l s1)).testBit (tzN l s2) with
            | true =>
              obtain ⟨D, d0, d1, d2⟩ := m_fail (N := N) (by omega) k1
              obtain ⟨F, r3, f0, f1, f2⟩ := conf_bad (N := N) (a := tzN l s1) hT hs2 (by omega) w14' ha14 d1
              refine ⟨F, r3, _, ?_, f1, d2.tr f2⟩
              rw [b2_t, i_e1, d0, f0]
            | false =>
              have he : tzN l s2 = tzN l s1 := by
                rcases h with h | h
                · exact h
                · rw [hb] at h; cases h
              obtain ⟨D, d0, d1, d2⟩ := m_other_f (N := N) (lo := 0) (hi := r 1 - 1) (b := tzN l s1) hT hs2 (by decide) (by omega) (by omega) k1 (Or.inr he)
              obtain ⟨E, e0, e1, e2⟩ := conf_end (N := N) (b := 0) ha14 (by decide) d1
              refine ⟨E, _, _, ?_, e1, d2.tr e2⟩
              rw [b2_f, i_e0, eX9_conflictStatement_82, c_1, t_1, k1.at (by decide), es]
              exact (d0 _).trans e0
          by_cases he : tzN l s2 = tzN l s1
          · obtain ⟨Jy, ry, cy, y0, y1, y2⟩ := hout (Or.inl he)
            rw [if_pos ((ceq (by omega) (by omega)).mpr he), y0]
            exact Or.inr ⟨I2, Jy, s2, r, cm + 1, td, s2, ry, cy, td, rfl, rfl, i3, y1, (j2.tr k2).tr y2⟩
          · have hin := pX2_inConflict (N := N) (k := tzN l s1) (j := tzN l s2) (c := r (131 + tzN l s1)) (I := gS (rg 2 9) I2) ha14 (by omega) (i3.2.2.2.1 (tzN l s1) (by omega)).2.2.2.2 (by omega)
            rw [if_neg (fun z => he ((ceq (by omega) (by omega)).mp z)), hin, hI_mk, g29s, i3.1.2.2.2.2]
            cases hb : (r (131 + tzN l s1)).testBit (tzN l s2) with
            | true =>
              obtain ⟨Jy, ry, cy, y0, y1, y2⟩ := hout (Or.inr hb)
              rw [hb] at y0
              rw [y0, b2_t, i_e1]
              exact Or.inr ⟨I2, Jy, s2, r, cm + 1, td, s2, ry, cy, td, rfl, rfl, i3, y1, (j2.tr k2).tr y2⟩
            | false =>
              obtain ⟨D, d0, d1, d2⟩ := m_other_t (N := N) (lo := 0) (hi := r 1 - 1) (b := tzN l s1) hT (by omega) hs2 (by decide) (by omega) (by omega) k1 c2 he
              obtain ⟨E, e0, e1, e2⟩ := conf_end (N := N) (b := tzN l s2) ha14 hb14 d1
              rw [cfE_eq (fun z => he z.symm)] at e1
              have hput : fX2_putConflict N [.ref 0, .int (nI (tzN l s1)), .int (nI (tzN l s2)), .int 1] (gS (rg 2 9) I2) = _ := pX2_putConflict (N := N) (k := tzN l s1) (j := tzN l s2) (Ck := r (131 + tzN l s1)) (Cj := r (131 + tzN l s2)) (c := true) (I := gS (rg 2 9) I2) ha14 hb14 (fun z => he z.symm) (i3.2.2.2.1 (tzN l s1) (by omega)).2.2.2.2 (i3.2.2.2.1 (tzN l s2) (by omega)).2.2.2.2
              have hCN : CN (sh1 (gU (gU (gS (rg 2 9) I2) 5 (tzN l s1) (nI (cS true (r (131 + tzN l s1)) (tzN l s2)))) 5 (tzN l s2) (nI (cS true (r (131 + tzN l s2)) (tzN l s1))))) (conS r (tzN l s1) (tzN l s2) true) := by
                rw [sh1U (by decide), sh1U (by decide)]
                exact i3.2.2.conf w14' w6' (by omega) (by omega) (fun z => he z.symm)
              obtain ⟨I5, i6, i7⟩ := x_next (N := N) hT (by omega) hs2 (i3.net hCN)
              have hs3 := nxt_le hs2
              have hg3 := nxt_ge l s2
              have hz2 := tzE_ge l s2
              rw [b2_f, i_e0, i_e0, hput, hV_mk, eX5_readConflict_119, i6, eX9_conflictStatement_82, c_1, t_1, k1.at (by decide), es]
              exact Or.inl ⟨I5, E, nxt l s2, _, cm + 1, td, rfl, (d0 _).trans e0, i7, e1, ⟨hW.1.conf (σ := (r, [])) (show tzN l s1 < r 1 by omega) (show tzN l s2 < r 1 by omega) (fun z => he z.symm), by omega, hW.2.2.1, hW.2.2.2.con ha14 hb14⟩, by omega, hs3, ((j2.tr k2).tr d2).tr e2⟩
