/-! ===== settings are told ===== -/
theorem PC.set {I : gM} {l : List Nat} {s : Nat} {r : Nat → Nat} {cm td k x : Nat} (h : PC I l s r cm td) (hk : k < 4) : PC (gU I 8 k (nI x)) l s (up1 r (3 + k) x) cm td := by
  refine ⟨h.1.congr (fun j _ => by rw [gU_ok (by decide)]) (gU_ok (by decide)), by rw [gU_ok (k' := 0) (by decide)]; exact h.2.1, (CN.set (k := k) (x := x) h.2.2 hk).congr (fun q q1 q9 => ?_)⟩
  show gS (rg 2 9) (gU I 8 k (nI x)) (q - 1) = gU (sh1 (gS (rg 2 9) I)) 7 k (nI x) q
  rw [gS_b (by omega) (by decide), show 2 + (q - 1) = q + 1 by omega]
  by_cases e : q = 7
  · rw [e, gU_u3, gU_u3]
    show upd (I 8) k (nI x) = upd (gS (rg 2 9) I 6) k (nI x)
    rw [gS_b (by decide) (by decide)]
  · rw [gU_ok (by omega), gU_ok e]
    show I (q + 1) = gS (rg 2 9) I (q - 1)
    rw [gS_b (by omega) (by decide), show 2 + (q - 1) = q + 1 by omega]
theorem x_bset_t {N s k : Nat} {l : List Nat} {I : gM} {r : Nat → Nat} {cm td : Nat} (hk : k < 4) (htd : td < 16) (h : PC I l s r cm td) (hb : td.testBit k = true) : fX5_beginSetting N [.ref 0, .int (nI k)] I = some (.inl (some (.int 0)), I) := by
  rw [eX5_beginSetting, eX5_beginSetting_0, h.2.1.2, bit_b2 (by omega) (by omega), hb, if_neg (show ¬ gc_ne (b2 true) 1 = true by decide)]
theorem x_bset_f {N s k : Nat} {l : List Nat} {I : gM} {r : Nat → Nat} {cm td : Nat} (hT : TXT l) (hN : 1000 ≤ N) (hs : s ≤ l.length) (hk : k < 4) (htd : td < 16) (h : PC I l s r cm td) (hb : td.testBit k = false) : ∃ I', fX5_beginSetting N [.ref 0, .int (nI k)] I = some (.inl (some (.int 1)), I') ∧ PC I' l (nxt l s) r cm (td ||| 2 ^ k) := by
  have sk : gb_shl 1 (nI k) = nI (2 ^ k) := shl1' (by omega)
  have eo : gb_or (nI td) (nI (2 ^ k)) = nI (td ||| 2 ^ k) := nI_or _ _
  obtain ⟨I1, i0, i1⟩ := x_next (N := N) hT hN hs (h.td (x := td ||| 2 ^ k))
  refine ⟨I1, ?_, i1⟩
  rw [eX5_beginSetting, eX5_beginSetting_0, h.2.1.2, bit_b2 (by omega) (by omega), hb, if_pos (show gc_ne (b2 false) 1 = true by decide), sk, eo, i0]
theorem td_lt {td k : Nat} (hk : k < 4) (htd : td < 16) : td ||| 2 ^ k < 16 := by
  have h2 : 2 ^ k < 2 ^ 4 := Nat.pow_lt_pow_right (by decide) hk
  exact Nat.or_lt_two_pow (n := 4) htd h2
theorem m_once_f {N s i : Nat} {v : Int32} {l : List Nat} {J : gM} {r : Nat → Nat} {cm td : Nat} {K : Int32 → gM → gO} (hT : TXT l) (hN : 20 ≤ N) (hi : i < 26) (hs : s ≤ l.length) (h : PM J l s none r cm td) (hw : twW l s (wdN i) = false) : hI (fX9_once N [.ref 0, .ref (1000 + i), .int v] (gS (rg 0 18) J)) (rg 0 18) J K = K 0 J := by
  rw [eX9_once, eX9_once_0 _ _ _ _ (by omega), m_word hT hN hi hs h.sub, hw, if_neg (show ¬ gz_ne (b2 ((none : Option Nat).isNone && false)) = true by decide), hI_mk, gMm18]
theorem once_end {N s k : Nat} {g : Option Nat} {l : List Nat} {J : gM} {r : Nat → Nat} {cm td : Nat} (hT : TXT l) (hN : 1000 ≤ N) (hs : s ≤ l.length) (hk : k < 4) (h : PM J l s g r cm td) : ∃ J', hX9_once_25 N (nI k) J = some (.inl (some (.int 1)), J') ∧ (g = none → PM J' l (nxt l s) none r cm (td ||| 2 ^ k)) ∧ (g ≠ none → PM J' l s g r cm (td ||| 2 ^ k)) ∧ FM J J' := by
  have sk : gb_shl 1 (nI k) = nI (2 ^ k) := shl1' (by omega)
  have eo : gb_or (nI td) (nI (2 ^ k)) = nI (td ||| 2 ^ k) := nI_or _ _
  obtain ⟨p1, p2⟩ := h.td (x := td ||| 2 ^ k)
  rw [eX9_once_25, h.2.2.2.1.1, sk, eo, m_good p1.2.2.1.1 p1.lt]
  cases g with
  | none =>
    obtain ⟨J1, j0, j1, j2⟩ := m_step (N := N) hT hN hs p1
    rw [if_neg (show ¬ gz_eq (b2 (none : Option Nat).isNone) = true by decide), j0]
    exact ⟨J1, rfl, fun _ => j1, fun z => absurd rfl z, p2.tr j2⟩
  | some e =>
    rw [if_pos (show gz_eq (b2 (some e).isNone) = true from (show gz_eq (b2 false) = true by decide))]
    exact ⟨_, rfl, fun z => (by cases z), fun _ => p1, p2⟩
theorem m_once_t {N s i k : Nat} {l : List Nat} {J : gM} {r : Nat → Nat} {cm td : Nat} (hT : TXT l) (hN : 1000 ≤ N) (hi : i < 26) (hk : k < 4) (htd : td < 16) (hs : s ≤ l.length) (h : PM J l s none r cm td) (hw : twW l s (wdN i) = true) : ∃ J', (∀ K : Int32 → gM → gO, hI (fX9_once N [.ref 0, .ref (1000 + i), .int (nI k)] (gS (rg 0 18) J)) (rg 0 18) J K = K 1 J') ∧ (td.testBit k = true ∧ PM J' l s (some s) r cm (td ||| 2 ^ k) ∨ td.testBit k = false ∧ PM J' l (nxt l s) none r cm (td ||| 2 ^ k)) ∧ FM J J' := by
  have hT1 := hT.1
  cases hb : td.testBit k with
  | true =>
    obtain ⟨D, d0, d1, d2⟩ := m_fail (N := N) (by omega) h.sub
    obtain ⟨E, e0, e1, e2, e3⟩ := once_end (N := N) hT hN hs hk d1
    refine ⟨gMg (rg 0 18) J E, fun K => ?_, Or.inl ⟨rfl, (e2 (fun z => by cases z)).sup⟩, (d2.tr e3).sup⟩
    rw [eX9_once, eX9_once_0 _ _ _ _ (by omega), m_word hT (by omega) hi hs h.sub, hw, if_pos (show gz_ne (b2 ((none : Option Nat).isNone && true)) = true by decide), h.sub.2.2.2.1.1, r_has (by omega) (by omega), hb, b2_t, i_e1, d0, e0, hI_mk]
  | false =>
    obtain ⟨E, e0, e1, e2, e3⟩ := once_end (N := N) hT hN hs hk h.sub
    refine ⟨gMg (rg 0 18) J E, fun K => ?_, Or.inr ⟨rfl, (e1 rfl).sup⟩, e3.sup⟩
    rw [eX9_once, eX9_once_0 _ _ _ _ (by omega), m_word hT (by omega) hi hs h.sub, hw, if_pos (show gz_ne (b2 ((none : Option Nat).isNone && true)) = true by decide), h.sub.2.2.2.1.1, r_has (by omega) (by omega), hb, b2_f, i_e0, e0, hI_mk]
/-- one of two words -/
theorem m_tw {N s i j : Nat} {g : Option Nat} {l : List Nat} {J : gM} {r : Nat → Nat} {cm td : Nat} (hT : TXT l) (hN : 1000 ≤ N) (hi : i < 26) (hj : j < 26) (hs : s ≤ l.length) (h : PM J l s g r cm td) : ∃ J', (∀ K : Int32 → gM → gO, hI (fX9_takeWord N [.ref 0, .ref (1000 + i), .ref (1000 + j)] (gS (rg 0 18) J)) (rg 0 18) J K = K (b2 (g.isNone && twW l s (wdN j))) J') ∧ ((g.isNone && (twW l s (wdN i) || twW l s (wdN j))) = true → PM J' l (nxt l s) none r cm td) ∧ ((g.isNone && (twW l s (wdN i) || twW l s (wdN j))) = false → PM J' l s (some (g.getD s)) r cm td) ∧ FM J J' := by
  have hT1 := hT.1
  have step27 : ∀ v : Int32, g = none → ∃ D, hX9_takeWord_27 N v (gS (rg 0 18) J) = some (.inl (some (.int v)), D) ∧ PM D l (nxt l s) none r cm td ∧ FM (gS (rg 0 18) J) D := fun v hg => by
    subst hg
    obtain ⟨D, d0, d1, d2⟩ := m_step (N := N) hT hN hs h.sub
    exact ⟨D, by rw [eX9_takeWord_27, d0], d1, d2⟩
  cases hz : (g.isNone && twW l s (wdN j)) with
  | true =>
    obtain ⟨z1, z2⟩ := and_t hz
    obtain ⟨D, d0, d1, d2⟩ := step27 1 (Option.isNone_iff_eq_none.mp z1)
    have hor : (g.isNone && (twW l s (wdN i) || twW l s (wdN j))) = true := by rw [z1, z2, Bool.or_true]; rfl
    refine ⟨gMg (rg 0 18) J D, fun K => ?_, fun _ => d1.sup, fun q => (by rw [hor] at q; cases q), d2.sup⟩
    rw [eX9_takeWord, eX9_takeWord_0 _ _ _ _ (by omega) (by omega), m_word hT (by omega) hj hs h.sub, hz, b2_t, i_e1, eX9_takeWord_13 _ _ _ _ (by omega), if_pos (show gc_eq 1 1 = true by decide), d0, hI_mk]
  | false =>
    cases hy : (g.isNone && twW l s (wdN i)) with
    | true =>
      obtain ⟨z1, z2⟩ := and_t hy
      obtain ⟨D, d0, d1, d2⟩ := step27 0 (Option.isNone_iff_eq_none.mp z1)
      have hor : (g.isNone && (twW l s (wdN i) || twW l s (wdN j))) = true := by rw [z1, z2, Bool.true_or]; rfl
      refine ⟨gMg (rg 0 18) J D, fun K => ?_, fun _ => d1.sup, fun q => (by rw [hor] at q; cases q), d2.sup⟩
      rw [eX9_takeWord, eX9_takeWord_0 _ _ _ _ (by omega) (by omega), m_word hT (by omega) hj hs h.sub, hz, b2_f, i_e0, eX9_takeWord_13 _ _ _ _ (by omega), if_neg (show ¬ gc_eq 0 1 = true by decide), m_word hT (by omega) hi hs h.sub, hy, b2_t, i_e1, d0, hI_mk]
    | false =>
      obtain ⟨D, d0, d1, d2⟩ := m_fail (N := N) (by omega) h.sub
      have hor : (g.isNone && (twW l s (wdN i) || twW l s (wdN j))) = false := by
        cases hg : g.isNone with
        | false => rfl
        | true =>
          rw [hg, Bool.true_and] at hy hz
          rw [hy, hz]; rfl
      refine ⟨gMg (rg 0 18) J D, fun K => ?_, fun q => (by rw [hor] at q; cases q), fun _ => d1.sup, d2.sup⟩
      rw [eX9_takeWord, eX9_takeWord_0 _ _ _ _ (by omega) (by omega), m_word hT (by omega) hj hs h.sub, hz, b2_f, i_e0, eX9_takeWord_13 _ _ _ _ (by omega), if_neg (show ¬ gc_eq 0 1 = true by decide), m_word hT (by omega) hi hs h.sub, hy, b2_f, i_e0, d0, hI_mk]
theorem PRS.liftc {l : List Nat} {s : Nat} {I J : gM} {oc om : gO} (h : PRS l s J oc om) : PRS l s J (hI oc (rg 0 11) I fun x I' => if x = 0 ∨ x = 1 then some (.inl (some (.int x)), I') else none) om := by
  rcases h with ⟨I', J', s', r', cm', td', h1, h2, h3, h4⟩ | ⟨I', J', e, r1, c1, t1, s2, r2, c2, t2, h1, h2, h3, h4⟩
  · refine Or.inl ⟨gMg (rg 0 11) I I', J', s', r', cm', td', ?_, h2, h3.sup, h4⟩
    rw [h1, hI_mk, if_pos (Or.inr rfl)]
  · refine Or.inr ⟨gMg (rg 0 11) I I', J', e, r1, c1, t1, s2, r2, c2, t2, ?_, h2, h3.sup, h4⟩
    rw [h1, hI_mk, if_pos (Or.inl rfl)]
theorem PRS.liftm {l : List Nat} {s : Nat} {J : gM} {oc om : gO} (h : PRS l s (gS (rg 0 18) J) oc om) : PRS l s J oc (hV om (rg 0 18) J fun I' => some (.inl none, I')) := by
  rcases h with ⟨I', J', s', r', cm', td', h1, h2, h3, h4, h5, h6, h7, h8⟩ | ⟨I', J', e, r1, c1, t1, s2, r2, c2, t2, h1, h2, h3, h4, h5⟩
  · exact Or.inl ⟨I', gMg (rg 0 18) J J', s', r', cm', td', h1, by rw [h2, hV_mk], h3, h4.sup, h5, h6, h7, h8.sup⟩
  · exact Or.inr ⟨I', gMg (rg 0 18) J J', e, r1, c1, t1, s2, r2, c2, t2, h1, by rw [h2, hV_mk], h3, h4.sup, h5.sup⟩
theorem PRS.fm {l : List Nat} {s : Nat} {J J1 : gM} {oc om : gO} (h : PRS l s J1 oc om) (hf : FM J J1) : PRS l s J oc om := by
  rcases h with ⟨I', J', s', r', cm', td', h1, h2, h3, h4, h5, h6, h7, h8⟩ | ⟨I', J', e, r1, c1, t1, s2, r2, c2, t2, h1, h2, h3, h4, h5⟩
  · exact Or.inl ⟨I', J', s', r', cm', td', h1, h2, h3, h4, h5, h6, h7, hf.tr h8⟩
  · exact Or.inr ⟨I', J', e, r1, c1, t1, s2, r2, c2, t2, h1, h2, h3, h4, hf.tr h5⟩
/-- a setting is written into the reference's row -/
theorem m_setrow {s k x : Nat} {g : Option Nat} {l : List Nat} {J : gM} {r : Nat → Nat} {cm td : Nat} (hk : k < 4) (h : PM J l s g r cm td) : ∃ J', (ck 2746 (nI (3 + k)) <| some (.inl none, gU J 2 (Int32.toNatClampNeg (nI (3 + k))) (nI x)) : gO) = some (.inl none, J') ∧ PM J' l s g (up1 r (3 + k) x) cm td ∧ FM J J' := by
  obtain ⟨p1, p2⟩ := h.put (k := 3 + k) (x := x) (by omega)
  exact ⟨_, by rw [ckI (by omega) (by decide), nI_clamp (by omega)], p1, p2⟩
theorem b2_nI (b : Bool) : b2 b = nI (b.toNat) := by cases b <;> rfl
theorem s_choice {N s k i j : Nat} {l : List Nat} {I J1 : gM} {r : Nat → Nat} {cm td : Nat} (hT : TXT l) (hN : 20000 ≤ N) (hs : s ≤ l.length) (hi : i < 13) (hj : j < 13) (hk : k < 4) (hm : 1 ≤ msz k) (hW : PW r cm td) (hP : PC I l s r cm td) (hJ : td.testBit k = true ∧ PM J1 l s (some s) r cm (td ||| 2 ^ k) ∨ td.testBit k = false ∧ PM J1 l (nxt l s) none r cm (td ||| 2 ^ k)) : PRS l s J1 (fX5_readChoice N [.ref 0, .int (nI k), .ref (1000 + i), .ref (1000 + j)] I) (hI (fX9_takeWord N [.ref 0, .ref (1000 + (13 + i)), .ref (1000 + (13 + j))] (gS (rg 0 18) J1)) (rg 0 18) J1 fun x7 I7 => ck 2746 (nI (3 + k)) <| some (.inl none, gU I7 2 (Int32.toNatClampNeg (nI (3 + k))) x7)) := by
  have ewi : wdN (13 + i) = wdN i := by unfold wdN gSb; rw [show (13 + i) % 13 = i % 13 by omega]
  have ewj : wdN (13 + j) = wdN j := by unfold wdN gSb; rw [show (13 + j) % 13 = j % 13 by omega]
  rw [eX5_readChoice, eX5_readChoice_0 _ _ _ _ _ (by omega) (by omega)]
  rcases hJ with ⟨hb, hJ⟩ | ⟨hb, hJ⟩
  · obtain ⟨D, d0, d1, d2, d3⟩ := m_tw (N := N) (i := 13 + i) (j := 13 + j) hT (by omega) (by omega) (by omega) hs hJ
    obtain ⟨E, e0, e1, e2⟩ := m_setrow (k := k) (x := 0) hk (d2 rfl)
    rw [x_bset_t hk hW.2.2.1 hP.sub hb, hI_mk, i_e0, g11s]
    refine Or.inr ⟨I, E, s, r, cm, td, s, _, cm, _, rfl, (d0 _).trans e0, hP, e1, d3.tr e2⟩
  · obtain ⟨I1', i0, i1'⟩ := x_bset_f (N := N) hT (by omega) hs hk hW.2.2.1 hP.sub hb
    have i1 : PC (gMg (rg 0 11) I I1') l (nxt l s) r cm (td ||| 2 ^ k) := i1'.sup
    have hs1 := nxt_le hs
    have hg1 := nxt_ge l s
    obtain ⟨D, d0, d1, d2, d3⟩ := m_tw (N := N) (i := 13 + i) (j := 13 + j) hT (by omega) (by omega) (by omega) hs1 hJ
    rw [ewi, ewj] at d1 d2
    rw [ewj] at d0
    have d0' : ∀ K : Int32 → gM → gO, hI (fX9_takeWord N [.ref 0, .ref (1000 + (13 + i)), .ref (1000 + (13 + j))] (gS (rg 0 18) J1)) (rg 0 18) J1 K = K (b2 (twW l (nxt l s) (wdN j))) D := d0
    rw [i0, hI_mk, i_e1, d0']
    generalize gMg (rg 0 11) I I1' = I1 at i1 ⊢
    generalize hS1 : nxt l s = s1 at *
    have qw : ∀ (q : Nat) (K : Int32 → gM → gO), q < 13 → hI (fX5_isWord N [.ref 0, .ref (1000 + q)] (gS (rg 0 11) I1)) (rg 0 11) I1 K = K (b2 (twW l s1 (wdN q))) I1 := fun q K hq => x_word (i := q) hT (by omega) (by omega) hs1 i1.1
    rw [qw i _ hi]
    have h26 : (twW l s1 (wdN i) || twW l s1 (wdN j)) = true → PRS l s J1 (hX5_readChoice_26 N (nI k) (1000 + j) I1) (ck 2746 (nI (3 + k)) <| some (.inl none, gU D 2 (Int32.toNatClampNeg (nI (3 + k))) (b2 (twW l s1 (wdN j))))) := fun hor => by
      have hv : (twW l s1 (wdN j)).toNat ≤ msz k := Nat.le_trans (Bool.toNat_le _) hm
      obtain ⟨E, e0, e1, e2⟩ := m_setrow (k := k) (x := (twW l s1 (wdN j)).toNat) hk (d1 hor)
      obtain ⟨I2, i2, i3⟩ := x_next (N := N) hT (by omega) hs1 (i1.set (k := k) (x := (twW l s1 (wdN j)).toNat) hk)
      have hs2 := nxt_le hs1
      have hg2 := nxt_ge l s1
      have hz1 := tzE_ge l s1
      have e47 : hX5_readChoice_47 N (nI k) (b2 (twW l s1 (wdN j))) I1 = some (.inl (some (.int 1)), I2) := by
        rw [eX5_readChoice_47, ckI hk (by decide), nI_clamp (by omega), b2_nI]
        exact i2 _
      have e26 : hX5_readChoice_26 N (nI k) (1000 + j) I1 = some (.inl (some (.int 1)), I2) := by
        rw [eX5_readChoice_26 _ _ _ _ (by omega), qw j _ hj]
        cases hz : twW l s1 (wdN j) with
        | true => rw [hz] at e47; rw [b2_t, i_e1]; exact e47
        | false => rw [hz] at e47; rw [b2_f, i_e0]; exact e47
      rw [e26, b2_nI, e0]
      exact Or.inl ⟨I2, E, nxt l s1, _, cm, td ||| 2 ^ k, rfl, rfl, i3, e1, ⟨hW.1.set (σ := (r, [])) hk hv, hW.2.1, td_lt hk hW.2.2.1, hW.2.2.2.set hk⟩, by omega, hs2, d3.tr e2⟩
    cases hwi : twW l s1 (wdN i) with
    | true =>
      rw [b2_t, i_n1]
      exact h26 (by rw [hwi]; rfl)
    | false =>
      rw [b2_f, i_n0, qw j _ hj, eX5_readChoice_21 _ _ _ _ _ (by omega)]
      cases hwj : twW l s1 (wdN j) with
      | true =>
        rw [b2_t, i_n1]
        have := h26 (by rw [hwj, Bool.or_true])
        rw [hwj] at this
        exact this
      | false =>
        obtain ⟨E, e0, e1, e2⟩ := m_setrow (k := k) (x := 0) hk (d2 (by rw [hwi, hwj]; rfl))
        rw [b2_f, i_n0]
        exact Or.inr ⟨I1, E, s1, r, cm, _, s1, _, cm, _, rfl, e0, i1, e1, d3.tr e2⟩
theorem s_number {N s k : Nat} {l : List Nat} {I J1 : gM} {r : Nat → Nat} {cm td : Nat} (hT : TXT l) (hN : 20000 ≤ N) (hs : s ≤ l.length) (hk : k < 4) (hW : PW r cm td) (hP : PC I l s r cm td) (hJ : td.testBit k = true ∧ PM J1 l s (some s) r cm (td ||| 2 ^ k) ∨ td.testBit k = false ∧ PM J1 l (nxt l s) none r cm (td ||| 2 ^ k)) : PRS l s J1 (fX5_readSetting N [.ref 0, .int (nI k)] I) (hI (fX9_takeNumber N [.ref 0, .int 0, .int (nI (msz k))] (gS (rg 0 18) J1)) (rg 0 18) J1 fun x7 I7 => ck 2746 (nI (3 + k)) <| some (.inl none, gU I7 2 (Int32.toNatClampNeg (nI (3 + k))) x7)) := by
  have hmz : msz k ≤ 50 := by
    match k, hk with
    | 0, _ => decide
    | 1, _ => decide
    | 2, _ => decide
    | 3, _ => decide
  have nk : (nI k).toNatClampNeg = k := nI_clamp (by omega)
  have hcond : gRng 1200 1201 1200 ∧ ¬ (nI k < 0 ∨ 4 ≤ (nI k).toNatClampNeg) := ⟨⟨by decide, by decide⟩, fun z => by
    rw [nk] at z
    rcases z with z | z
    · exact nI_pos (by omega) z
    · omega⟩
  have eg : gGS.getD k 0 = nI (msz k) := gGS_at hk
  rw [eX5_readSetting, eX5_readSetting_0]
  rcases hJ with ⟨hb, hJ⟩ | ⟨hb, hJ⟩
  · obtain ⟨D, d0, d1, d2⟩ := m_take_f (N := N) (lo := 0) (hi := msz k) hT hs (by decide) (by omega) hJ rfl
    obtain ⟨E, e0, e1, e2⟩ := m_setrow (k := k) (x := 0) hk d1
    rw [x_bset_t hk hW.2.2.1 hP.sub hb, hI_mk, i_e0, g11s]
    exact Or.inr ⟨I, E, s, r, cm, td, s, _, cm, _, rfl, (d0 _).trans e0, hP, e1, d2.tr e2⟩
  · obtain ⟨I1', i0, i1'⟩ := x_bset_f (N := N) hT (by omega) hs hk hW.2.2.1 hP.sub hb
    have i1 : PC (gMg (rg 0 11) I I1') l (nxt l s) r cm (td ||| 2 ^ k) := i1'.sup
    have hs1 := nxt_le hs
    have hg1 := nxt_ge l s
    rw [i0, hI_mk, i_e1, if_pos hcond, nk, eg]
    generalize gMg (rg 0 11) I I1' = I1 at i1 ⊢
    have qa : ∀ K : Int32 → gM → gO, hI (fX5_isNumber N [.ref 0, .int 0, .int (nI (msz k))] (gS (rg 0 11) I1)) (rg 0 11) I1 K = K (b2 (nmb l (nxt l s) 0 (msz k))) I1 := fun K => x_num hT (lo := 0) (by decide) (by omega) i1.1
    rw [qa]
    generalize hS1 : nxt l s = s1 at *
    cases c1 : nmb l s1 0 (msz k) with
    | false =>
      obtain ⟨D, d0, d1, d2⟩ := m_take_f (N := N) (lo := 0) (hi := msz k) hT hs1 (by decide) (by omega) hJ (by rw [c1]; rfl)
      obtain ⟨E, e0, e1, e2⟩ := m_setrow (k := k) (x := 0) hk d1
      rw [b2_f, i_n0]
      exact Or.inr ⟨I1, E, s1, r, cm, _, s1, _, cm, _, rfl, (d0 _).trans e0, i1, e1, d2.tr e2⟩
    | true =>
      obtain ⟨_, _, v3⟩ := nmb_t c1
      obtain ⟨D, d0, d1, d2⟩ := m_take_t (N := N) (lo := 0) (hi := msz k) hT (by omega) hs1 (by decide) (by omega) hJ c1
      obtain ⟨E, e0, e1, e2⟩ := m_setrow (k := k) (x := tzN l s1) hk d1
      obtain ⟨I2, i2, i3⟩ := x_next (N := N) hT (by omega) hs1 (i1.set (k := k) (x := tzN l s1) hk)
      have hs2 := nxt_le hs1
      have hg2 := nxt_ge l s1
      have hz1 := tzE_ge l s1
      rw [b2_t, i_n1, i1.1.2.2.2.2, ckI hk (by decide), i2]
      exact Or.inl ⟨I2, E, nxt l s1, _, cm, td ||| 2 ^ k, rfl, (d0 _).trans e0, i3, e1, ⟨hW.1.set (σ := (r, [])) hk v3, hW.2.1, td_lt hk hW.2.2.1, hW.2.2.2.set hk⟩, by omega, hs2, d2.tr e2⟩
