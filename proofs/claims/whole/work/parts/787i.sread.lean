/-! ===== a statement; the whole text ===== -/
theorem s_statement {N s : Nat} {l : List Nat} {I J : gM} {r : Nat → Nat} {cm td : Nat} (hT : TXT l) (hN : 20000 ≤ N) (hs : s ≤ l.length) (hW : PW r cm td) (hP : PC I l s r cm td) (hJ : PM J l s none r cm td) : PRS l s J (fX5_readStatement N [.ref 0] I) (fX9_readStatement N [.ref 0] J) := by
  have hT1 := hT.1
  have qx : ∀ (i : Nat) (K : Int32 → gM → gO), i < 26 → hI (fX5_isWord N [.ref 0, .ref (1000 + i)] (gS (rg 0 11) I)) (rg 0 11) I K = K (b2 (twW l s (wdN i))) I := fun i K hi => x_word hT (by omega) hi hs hP.1
  have qm : ∀ (i : Nat) (K : Int32 → gM → gO), i < 26 → hI (fX9_isWord N [.ref 0, .ref (1000 + i)] (gS (rg 0 18) J)) (rg 0 18) J K = K (b2 (twW l s (wdN i))) J := fun i K hi => (m_word hT (by omega) hi hs hJ).trans rfl
  have x1 : ∀ K : Int32 → gM → gO, hI (fX5_isWord N [.ref 0, .ref 1001] (gS (rg 0 11) I)) (rg 0 11) I K = K (b2 (twW l s (wdN 1))) I := fun K => qx 1 K (by decide)
  have x2 : ∀ K : Int32 → gM → gO, hI (fX5_isWord N [.ref 0, .ref 1002] (gS (rg 0 11) I)) (rg 0 11) I K = K (b2 (twW l s (wdN 2))) I := fun K => qx 2 K (by decide)
  have x3 : ∀ K : Int32 → gM → gO, hI (fX5_isWord N [.ref 0, .ref 1003] (gS (rg 0 11) I)) (rg 0 11) I K = K (b2 (twW l s (wdN 3))) I := fun K => qx 3 K (by decide)
  have x5 : ∀ K : Int32 → gM → gO, hI (fX5_isWord N [.ref 0, .ref 1005] (gS (rg 0 11) I)) (rg 0 11) I K = K (b2 (twW l s (wdN 5))) I := fun K => qx 5 K (by decide)
  have x8 : ∀ K : Int32 → gM → gO, hI (fX5_isWord N [.ref 0, .ref 1008] (gS (rg 0 11) I)) (rg 0 11) I K = K (b2 (twW l s (wdN 8))) I := fun K => qx 8 K (by decide)
  have x9 : ∀ K : Int32 → gM → gO, hI (fX5_isWord N [.ref 0, .ref 1009] (gS (rg 0 11) I)) (rg 0 11) I K = K (b2 (twW l s (wdN 9))) I := fun K => qx 9 K (by decide)
  have x10 : ∀ K : Int32 → gM → gO, hI (fX5_isWord N [.ref 0, .ref 1010] (gS (rg 0 11) I)) (rg 0 11) I K = K (b2 (twW l s (wdN 10))) I := fun K => qx 10 K (by decide)
  have m1 : ∀ K : Int32 → gM → gO, hI (fX9_isWord N [.ref 0, .ref 1014] (gS (rg 0 18) J)) (rg 0 18) J K = K (b2 (twW l s (wdN 1))) J := fun K => qm 14 K (by decide)
  have m2 : ∀ K : Int32 → gM → gO, hI (fX9_isWord N [.ref 0, .ref 1015] (gS (rg 0 18) J)) (rg 0 18) J K = K (b2 (twW l s (wdN 2))) J := fun K => qm 15 K (by decide)
  have m3 : ∀ K : Int32 → gM → gO, hI (fX9_isWord N [.ref 0, .ref 1016] (gS (rg 0 18) J)) (rg 0 18) J K = K (b2 (twW l s (wdN 3))) J := fun K => qm 16 K (by decide)
  rw [eX5_readStatement, eX5_readStatement_0, x1, eX9_readStatement, eX9_readStatement_0, m1]
  cases c1 : twW l s (wdN 1) with
  | true =>
    rw [b2_t, i_e1, i_e1]
    exact (s_link hT hN hs hW hP.sub hJ.sub).liftm.liftc
  | false =>
    rw [b2_f, i_e0, i_e0, x2, m2, eX5_readStatement_20, eX9_readStatement_22]
    cases c2 : twW l s (wdN 2) with
    | true =>
      rw [b2_t, i_e1, i_e1]
      exact (s_conflict hT hN hs hW hP.sub hJ.sub).liftm.liftc
    | false =>
      rw [b2_f, i_e0, i_e0, x3, m3]
      cases c3 : twW l s (wdN 3) with
      | true =>
        rw [b2_t, i_e1, i_e1]
        have e45 : (fun I8 : gM => hX9_readStatement_45 N I8) = fun I8 => some (.inl none, I8) := by
          funext I8; rw [eX9_readStatement_45]
        rw [e45]
        exact (s_flow hT hN hs hW hP.sub hJ.sub).liftm.liftc
      | false =>
        rw [b2_f, i_e0, i_e0, x5]
        cases c5 : twW l s (wdN 5) with
        | true =>
          obtain ⟨J1, j0, j1, j2⟩ := m_once_t (N := N) (i := 18) (k := 0) hT (by omega) (by decide) (by decide) hW.2.2.1 hs hJ c5
          have j0' : ∀ K : Int32 → gM → gO, hI (fX9_once N [.ref 0, .ref 1018, .int 0] (gS (rg 0 18) J)) (rg 0 18) J K = K 1 J1 := j0
          rw [eX5_readStatement_48, b2_t, i_e1, j0', i_e1]
          exact ((s_choice (k := 0) (i := 6) (j := 7) hT hN hs (by decide) (by decide) (by decide) (by decide) hW hP.sub j1).fm j2).liftc
        | false =>
          have j0' : ∀ K : Int32 → gM → gO, hI (fX9_once N [.ref 0, .ref 1018, .int 0] (gS (rg 0 18) J)) (rg 0 18) J K = K 0 J := fun K => m_once_f (i := 18) hT (by omega) (by decide) hs hJ c5
          rw [eX5_readStatement_48, b2_f, i_e0, j0', i_e0, x8]
          cases c8 : twW l s (wdN 8) with
          | true =>
            obtain ⟨J1, j0, j1, j2⟩ := m_once_t (N := N) (i := 21) (k := 1) hT (by omega) (by decide) (by decide) hW.2.2.1 hs hJ c8
            have j0' : ∀ K : Int32 → gM → gO, hI (fX9_once N [.ref 0, .ref 1021, .int 1] (gS (rg 0 18) J)) (rg 0 18) J K = K 1 J1 := j0
            rw [b2_t, i_e1, j0', eX9_readStatement_82, i_e1]
            exact ((s_number (k := 1) hT hN hs (by decide) hW hP.sub j1).fm j2).liftc
          | false =>
            have j0' : ∀ K : Int32 → gM → gO, hI (fX9_once N [.ref 0, .ref 1021, .int 1] (gS (rg 0 18) J)) (rg 0 18) J K = K 0 J := fun K => m_once_f (i := 21) hT (by omega) (by decide) hs hJ c8
            rw [b2_f, i_e0, j0', eX9_readStatement_82, i_e0, x9, eX5_readStatement_82]
            cases c9 : twW l s (wdN 9) with
            | true =>
              obtain ⟨J1, j0, j1, j2⟩ := m_once_t (N := N) (i := 22) (k := 2) hT (by omega) (by decide) (by decide) hW.2.2.1 hs hJ c9
              have j0' : ∀ K : Int32 → gM → gO, hI (fX9_once N [.ref 0, .ref 1022, .int 2] (gS (rg 0 18) J)) (rg 0 18) J K = K 1 J1 := j0
              have e123 : (fun (x14 : Int32) (I14 : gM) => hX9_readStatement_123 N 5 x14 I14) = fun x14 I14 => ck 2746 5 <| some (.inl none, gU I14 2 (Int32.toNatClampNeg 5) x14) := by
                funext x14 I14; rw [eX9_readStatement_123]
              rw [b2_t, i_e1, j0', i_e1, e123]
              exact ((s_number (k := 2) hT hN hs (by decide) hW hP.sub j1).fm j2).liftc
            | false =>
              have j0' : ∀ K : Int32 → gM → gO, hI (fX9_once N [.ref 0, .ref 1022, .int 2] (gS (rg 0 18) J)) (rg 0 18) J K = K 0 J := fun K => m_once_f (i := 22) hT (by omega) (by decide) hs hJ c9
              rw [b2_f, i_e0, j0', i_e0, x10]
              cases c10 : twW l s (wdN 10) with
              | true =>
                obtain ⟨J1, j0, j1, j2⟩ := m_once_t (N := N) (i := 23) (k := 3) hT (by omega) (by decide) (by decide) hW.2.2.1 hs hJ c10
                have j0' : ∀ K : Int32 → gM → gO, hI (fX9_once N [.ref 0, .ref 1023, .int 3] (gS (rg 0 18) J)) (rg 0 18) J K = K 1 J1 := j0
                rw [b2_t, i_e1, j0', i_e1]
                exact ((s_choice (k := 3) (i := 11) (j := 12) hT hN hs (by decide) (by decide) (by decide) (by decide) hW hP.sub j1).fm j2).liftc
              | false =>
                have j0' : ∀ K : Int32 → gM → gO, hI (fX9_once N [.ref 0, .ref 1023, .int 3] (gS (rg 0 18) J)) (rg 0 18) J K = K 0 J := fun K => m_once_f (i := 23) hT (by omega) (by decide) hs hJ c10
                obtain ⟨J1, k0, k1, k2⟩ := m_fail (N := N) (by omega) hJ
                rw [b2_f, i_e0, j0', i_e0, k0]
                exact Or.inr ⟨I, J1, s, r, cm, td, s, r, cm, td, rfl, rfl, hP, k1, k2⟩
/-- the net of a new text -/
theorem rz_wt {n : Nat} (h2 : 2 ≤ n) (h10 : n ≤ 10) : Wt (rz n, ([] : List Pk)) := by
  have z : ∀ x, x ≠ 0 → x ≠ 4 → rz n x = 0 := fun x h0 h4 => by unfold rz; rw [if_neg h0, if_neg h4]
  have z0 : rz n 0 = n := rfl
  have z1 : rz n 1 = 0 := rfl
  have z2 : rz n 2 = 0 := rfl
  refine ⟨⟨⟨⟨⟨h2, h10⟩, Nat.zero_le _, Nat.zero_le _, Nat.zero_le _, (by decide : (10 : Nat) ≤ 50), Nat.zero_le _, Nat.zero_le _, Nat.zero_le _, Nat.zero_le _⟩, fun k hk => ?_, fun j k hj hk => ?_, fun k hk j hj => ?_, fun f hf => ?_, fun a d ha hd => ?_, Nat.zero_le _, fun p hp => absurd hp List.not_mem_nil⟩, fun f hf => ?_⟩, Nat.zero_le _⟩
  · exact absurd (show k < 0 from hk) (Nat.not_lt_zero _)
  · exact absurd (show j < 0 from hj) (Nat.not_lt_zero _)
  · exact absurd (show k < 0 from hk) (Nat.not_lt_zero _)
  · exact absurd (show f < 0 from hf) (Nat.not_lt_zero _)
  · have e : shp (rz n) a d = 0 := z _ (by omega) (by omega)
    show shp (rz n) a d ≤ _ ∧ (a = d → shp (rz n) a d = 0)
    rw [e]
    exact ⟨Nat.zero_le _, fun _ => rfl⟩
  · have e : flp (rz n) f 10 = 0 := z _ (by omega) (by omega)
    show flp (rz n) f 10 ≤ 10101
    rw [e]; exact Nat.zero_le _
theorem rz_z {n : Nat} : PZ (rz n) := fun x hx => by unfold rz; rw [if_neg (by omega), if_neg (by omega)]
theorem rz_up {n : Nat} : up1 (rz 0) 0 n = rz n := by
  funext x
  by_cases e : x = 0
  · rw [e, up1_s]; rfl
  · rw [up1_n e]
    unfold rz
    rw [if_neg e, if_neg e]
/-- how reading ends -/
def RDR (l : List Nat) (J0 : gM) (oc om : gO) : Prop := ∃ x I' J', oc = some (.inl (some (.int x)), I') ∧ om = some (.inl (some (.int x)), J') ∧ BFx I' l ∧ BFx J' l ∧ FM J0 J' ∧ ((x = mI ∧ ∃ r, CN (sh1 (gS (rg 2 9) I')) r ∧ RowIs (J' 2) (r, []) ∧ Wt (r, ([] : List Pk)) ∧ PZ r) ∨ ∃ e, e ≤ 700 ∧ x = nI e)
theorem read_bad {N e s2 : Nat} {l : List Nat} {J : gM} {r : Nat → Nat} {cm td : Nat} (h : PM J l s2 (some e) r cm td) : ∀ m, 1 ≤ m → hX9_parse_51 N m J = some (.inl (some (.int (nI e))), J) := fun m hm => by
  obtain ⟨m, rfl⟩ : ∃ k, m = k + 1 := ⟨m - 1, by omega⟩
  have hz : gz_eq (b2 (some e).isNone) = true := (show gz_eq (b2 false) = true by decide)
  rw [eX9_parse_51, m_good h.2.2.1.1 h.lt, if_pos hz, eX9_parse_91, m_good h.2.2.1.1 h.lt, if_pos hz, h.2.2.1.1]
  rfl
theorem read_end {N m m' k s : Nat} {l : List Nat} {I J : gM} {r : Nat → Nat} {cm td : Nat} (hT : TXT l) (hs : s ≤ l.length) (hW : PW r cm td) (hP : PC I l s r cm td) (hJ : PM J l s none r cm td) : RDR l J (hX5_read_69 N I) (hX9_parse_91 N J) := by
  have hT1 := hT.1
  have hC := tzC_le l s
  have hg : ¬ gz_eq (b2 (none : Option Nat).isNone) = true := by decide
  rw [eX5_read_69, hP.1.2.2.1, hP.1.2.2.2.1, eX9_parse_91, m_good hJ.2.2.1.1 hJ.lt, if_neg hg, (hJ.2.1.2 rfl).2.1]
  by_cases h0 : tzC l s = 0
  · rw [if_neg (fun z => (zne (by omega)).mp z h0), if_pos ((zeq (by omega)).mpr h0), hJ.2.2.1.1]
    exact ⟨mI, I, J, rfl, rfl, hP.1.1, hJ.1, FM.rfl' J, Or.inl ⟨rfl, r, hP.2.2, hJ.2.2.2.2, hW.1, hW.2.2.2⟩⟩
  · obtain ⟨D, d0, d1, d2⟩ := m_fail (N := N) (by omega) hJ
    rw [if_pos ((zne (by omega)).mpr h0), if_neg (fun z => h0 ((zeq (by omega)).mp z)), d0, d1.2.2.1.1]
    exact ⟨nI s, I, D, rfl, rfl, hP.1.1, d1.1, d2, Or.inr ⟨s, by omega, rfl⟩⟩
theorem RDR.fm {l : List Nat} {J J1 : gM} {oc om : gO} (h : RDR l J1 oc om) (hf : FM J J1) : RDR l J oc om := by
  obtain ⟨x, I', J', h1, h2, h3, h4, h5, h6⟩ := h
  exact ⟨x, I', J', h1, h2, h3, h4, hf.tr h5, h6⟩
theorem read_lap {N : Nat} {l : List Nat} (hT : TXT l) (hN : 20000 ≤ N) : ∀ m m' k s : Nat, k ≤ s → s ≤ l.length → l.length - s < m → l.length - s + 1 < m' → ∀ (I J : gM) (r : Nat → Nat) (cm td : Nat), PW r cm td → PC I l s r cm td → PM J l s none r cm td → RDR l J (hX5_read_33 N m (nI k) I) (hX9_parse_51 N m' J) := by
  have hT1 := hT.1
  have l700 : (700 : Int32) = nI 700 := rfl
  have l3 : (3 : Int32) = nI 3 := rfl
  have l59 : (59 : Int32) = nI 59 := rfl
  have hg : ¬ gz_eq (b2 (none : Option Nat).isNone) = true := by decide
  intro m
  induction m with
  | zero => intro m' k s _ _ h; omega
  | succ m ih =>
    intro m' k s hk hs hm hm' I J r cm td hW hP hJ
    obtain ⟨m', rfl⟩ : ∃ k, m' = k + 1 := ⟨m' - 1, by omega⟩
    have hC := tzC_le l s
    have hV := tzN_lt hT s
    have hend := read_end (N := N) (m := 0) (m' := 0) (k := 0) hT hs hW hP hJ
    rw [eX9_parse_51, m_good hJ.2.2.1.1 hJ.lt, if_neg hg, (hJ.2.1.2 rfl).2.1, hJ.2.1.1, l3, l59]
    have esemi : ∀ b : Bool, (decide (tzC l s = 3) && decide (tzN l s = 59)) = b → ∀ K : Int32 → gM → gO, hI (fX5_isSemicolon N [.ref 0] (gS (rg 0 11) I)) (rg 0 11) I K = K (b2 b) I := fun b hb K => by
      rw [eX5_isSemicolon, eX5_isSemicolon_0, g11S (by decide), hP.1.2.2.1, hP.1.2.2.2.2, l3, l59, ← hb]
      by_cases h3 : tzC l s = 3
      · rw [if_neg (fun z => (cne (by omega) (by decide)).mp z h3), decide_eq_true h3, Bool.true_and]
        by_cases h9 : tzN l s = 59
        · rw [if_neg (fun z => (cne (by omega) (by decide)).mp z h9), decide_eq_true h9, hI_mk, g11s]; rfl
        · rw [if_pos ((cne (by omega) (by decide)).mpr h9), decide_eq_false h9, hI_mk, g11s]; rfl
      · rw [if_pos ((cne (by omega) (by decide)).mpr h3), decide_eq_false h3, Bool.false_and, hI_mk, g11s]; rfl
    /- the class's side where no semicolon stands -/
    have hno : (decide (tzC l s = 3) && decide (tzN l s = 59)) = false → hX5_read_33 N (m + 1) (nI k) I = hX5_read_69 N I := fun hb => by
      rw [eX5_read_33]
      by_cases h7 : gc_ge (nI k) 700 = true
      · rw [if_pos h7]
      · rw [if_neg h7, esemi false hb, b2_f, i_e0]
    by_cases h3 : tzC l s = 3
    · have hsl : s < l.length := by
        rcases Nat.lt_or_ge s l.length with q | q
        · exact q
        · unfold tzC at h3
          rw [List.getElem?_eq_none q] at h3
          cases h3
      obtain ⟨c, hc⟩ := get_s hsl
      obtain ⟨s7, c2⟩ := hT.at hc
      have hNc : tzN l s = c := by
        unfold tzC at h3
        rw [hc] at h3
        have h3' : tzK c = 3 := h3
        unfold tzN
        rw [hc]
        exact (if_neg (fun z => by have := tzK_1.mpr z; omega)).trans (if_neg (fun z => by have := tzK_2.mpr z; omega))
      rw [if_neg (fun z => (cne (by omega) (by decide)).mp z h3), ckI s7 (by decide), nI_clamp (by omega), hJ.1.2 s c hc]
      by_cases h9 : c = 59
      · have hb : (decide (tzC l s = 3) && decide (tzN l s = 59)) = true := by rw [decide_eq_true h3, decide_eq_true (hNc.trans h9)]; rfl
        obtain ⟨I1, i0, i1⟩ := x_next (N := N) hT (by omega) hs hP
        obtain ⟨J1, j0, j1, j2⟩ := m_step (N := N) hT (by omega) hs hJ
        have hs1 := nxt_le hs
        have hg1 := nxt_ge l s
        have hgt : s < tzE l s := tzE_gt (by omega)
        have hz := tzE_ge l (nxt l s)
        rw [if_neg (fun z => (cne (by omega) (by decide)).mp z h9), eX5_read_33, l700, if_neg (fun z => by have := (cge (a := k) (b := 700) (by omega) (by decide)).mp z; omega), esemi true hb, b2_t, i_e1, i0, j0]
        rcases s_statement hT hN hs1 hW i1.sub j1.sub with ⟨I', J', s', r', cm', td', h1, h2, h3', h4, h5, h6, h7, h8⟩ | ⟨I', J', e, r1, c1, t1, s2, r2, c2', t2, h1, h2, h3', h4, h5⟩
        · rw [h1, hI_mk, h2, hV_mk, eX5_read_55, i_n1, nI_s, eX9_parse_88]
          exact (ih m' (k + 1) s' (by omega) h7 (by omega) (by omega) _ _ r' cm' td' h5 h3'.sup h4.sup).fm (j2.tr h8.sup)
        · have h4s : PM (gMg (rg 0 18) J1 J') l s2 (some e) r2 c2' t2 := h4.sup
          have h3s : PC (gMg (rg 0 11) I1 I') l e r1 c1 t1 := h3'.sup
          rw [h1, hI_mk, h2, hV_mk, eX5_read_55, i_n0, eX9_parse_88, read_bad h4s m' (by omega), h3s.1.2.2.2.1]
          exact ⟨nI e, _, _, rfl, rfl, h3s.1.1, h4s.1, j2.tr h5.sup, Or.inr ⟨e, h4s.2.2.1.2 e rfl, rfl⟩⟩
      · have hb : (decide (tzC l s = 3) && decide (tzN l s = 59)) = false := by rw [decide_eq_true h3, decide_eq_false (fun z => h9 (hNc.symm.trans z))]; rfl
        rw [if_pos ((cne (by omega) (by decide)).mpr h9), hno hb]
        exact hend
    · have hb : (decide (tzC l s = 3) && decide (tzN l s = 59)) = false := by rw [decide_eq_false h3, Bool.false_and]
      rw [if_pos ((cne (by omega) (by decide)).mpr h3), hno hb]
      exact hend
theorem s_read {N : Nat} {l : List Nat} {I J : gM} (hT : TXT l) (hN : 20000 ≤ N) (hB : BFx I l) (hC : BFx J l) : RDR l J (fX5_read N [.ref 0] I) (fX9_parse N [.ref 0] J) := by
  have hT1 := hT.1
  have l0 : (0 : Int32) = nI 0 := rfl
  /- both begin -/
  have hB0 : BFx (gU (gU (gU I 0 3 0) 0 7 0) 0 8 0) l := hB.pos (by rw [gU_un (Or.inr (by decide)), gU_un (Or.inr (by decide)), gU_un (Or.inr (by decide))]) (by rw [gU_ok (by decide), gU_ok (by decide), gU_ok (by decide)])
  obtain ⟨I1, i0, i1, i2, i3⟩ := x_next0 (N := N) (p := 0) hT (by omega) hB0 (by rw [gU_un (Or.inr (by decide)), gU_un (Or.inr (by decide)), gU_us]; rfl) (Nat.zero_le _)
  have i7 : I1 0 7 = nI 0 := by rw [i2 7 (by decide) (by decide) (by decide) (by decide), gU_un (Or.inr (by decide)), gU_us]; rfl
  have i8 : I1 0 8 = nI 0 := by rw [i2 8 (by decide) (by decide) (by decide) (by decide), gU_us]; rfl
  obtain ⟨B, b0, b1, b2', b3, b4, b5⟩ := pX9_begin (N := N) (I := gS (rg 0 18) (gU (gU J 0 3 0) 0 7 (-1))) hN
  have B0 : gMg (rg 0 18) (gU (gU J 0 3 0) 0 7 (-1)) B 0 = B 0 := gM18 (by decide)
  have B2 : gMg (rg 0 18) (gU (gU J 0 3 0) 0 7 (-1)) B 2 = B 2 := gM18 (by decide)
  have Bj : ∀ j, j ≠ 3 → j ≠ 7 → j ≠ 14 → j ≠ 15 → gMg (rg 0 18) (gU (gU J 0 3 0) 0 7 (-1)) B 0 j = J 0 j := fun j h3 h7 h14 h15 => by
    rw [B0, b4 j h14 h15, gSm18 (by decide), gU_un (Or.inr h7), gU_un (Or.inr h3)]
  have Bq : ∀ q, q ≠ 0 → q ≠ 2 → gMg (rg 0 18) (gU (gU J 0 3 0) 0 7 (-1)) B q = J q := fun q h0 h2 => by
    by_cases h : q < 18
    · rw [gM18 h, b5 q h0 h2, gSm18 h, gU_ok h0, gU_ok h0]
    · rw [gM18o (by omega), gU_ok h0, gU_ok h0]
  have hC0 : BFx (gMg (rg 0 18) (gU (gU J 0 3 0) 0 7 (-1)) B) l := hC.pos (Bj 2 (by decide) (by decide) (by decide) (by decide)) (Bq 1 (by decide) (by decide))
  have F0 : FM J (gMg (rg 0 18) (gU (gU J 0 3 0) 0 7 (-1)) B) := ⟨fun j hj => Bj j (by omega) (by omega) (by omega) (by omega), Bq⟩
  obtain ⟨J1, j0, ⟨j1, j2, j3, j4, j5⟩, j6, j7⟩ := m_step0 (N := N) (p := 0) hT (by omega) hC0 (by rw [B0, b4 3 (by decide) (by decide), gSm18 (by decide), gU_un (Or.inr (by decide)), gU_us]; rfl) (Nat.zero_le _)
  have F1 : FM (gMg (rg 0 18) (gU (gU J 0 3 0) 0 7 (-1)) B) J1 := ⟨fun j hj => j6 j (by omega) (by omega) (by omega) (by omega), fun q q0 _ => j7 q q0⟩
  have hM : PM J1 l (tzS l 0) none (rz 0) 0 0 := by
    refine ⟨j1, ⟨j2, fun _ => ⟨j3, j4, j5⟩⟩, ⟨?_, fun e he => by cases he⟩, ⟨?_, ?_⟩, ?_⟩
    · rw [j6 7 (by decide) (by decide) (by decide) (by decide), B0, b4 7 (by decide) (by decide), gSm18 (by decide), gU_us]; rfl
    · rw [j6 14 (by decide) (by decide) (by decide) (by decide), B0, b2']; rfl
    · rw [j6 15 (by decide) (by decide) (by decide) (by decide), B0, b3]; rfl
    · rw [j7 2 (by decide), B2]; exact b1
  have hs := tzS_le (l := l) (p := 0) (Nat.zero_le _)
  rw [eX5_read, eX5_read_0, i0, eX9_parse, eX9_parse_0, b0, hV_mk, j0]
  generalize tzS l 0 = s at *
  have h1s : TKc (gS (rg 0 11) I1) l s := i1.congr (fun j _ => by rw [g11S (by decide)]) (g11S (by decide))
  have x0 : ∀ K : Int32 → gM → gO, hI (fX5_isWord N [.ref 0, .ref 1000] (gS (rg 0 11) (gS (rg 0 11) I1))) (rg 0 11) (gS (rg 0 11) I1) K = K (b2 (twW l s (wdN 0))) (gS (rg 0 11) I1) := fun K => x_word (i := 0) hT (by omega) (by decide) hs h1s
  have m0 : ∀ K : Int32 → gM → gO, hI (fX9_isWord N [.ref 0, .ref 1013] (gS (rg 0 18) J1)) (rg 0 18) J1 K = K (b2 (twW l s (wdN 0))) J1 := fun K => (m_word (i := 13) hT (by omega) (by decide) hs hM).trans rfl
  rw [eX5_readNodes, eX5_readNodes_0, x0, m0, eX9_parse_24]
  cases cw : twW l s (wdN 0) with
  | false =>
    obtain ⟨D, d0, d1, d2⟩ := m_fail (N := N) (by omega) hM
    rw [b2_f, i_n0, hI_mk, i_n0, i_e0, d0, read_bad d1 N (by omega), g11s, i1.2.2.2.1]
    exact ⟨nI s, I1, D, rfl, rfl, i1.1, d1.1, (F0.tr F1).tr d2, Or.inr ⟨s, by omega, rfl⟩⟩
  | true =>
    obtain ⟨I2, a0, a1, a2, a3⟩ := x_next0 (N := N) hT (by omega) h1s.1 h1s.2.1 (tzE_le hs)
    obtain ⟨J2, k0, k1, k2⟩ := m_step (N := N) hT (by omega) hs hM
    have hs1 : nxt l s ≤ l.length := nxt_le hs
    have hg1 := nxt_ge l s
    have a1' : TKc I2 l (nxt l s) := a1
    have qa : ∀ K : Int32 → gM → gO, hI (fX5_isNumber N [.ref 0, .int 2, .int 10] (gS (rg 0 11) I2)) (rg 0 11) I2 K = K (b2 (nmb l (nxt l s) 2 10)) I2 := fun K => x_num hT (lo := 2) (hi := 10) (by decide) (by decide) a1'
    rw [b2_t, i_n1, a0, qa, eX5_readNodes_22, i_e1, k0]
    generalize hS1 : nxt l s = s1 at *
    cases cn : nmb l s1 2 10 with
    | false =>
      obtain ⟨D, d0, d1, d2⟩ := m_take_f (N := N) (lo := 2) (hi := 10) hT hs1 (by decide) (by decide) k1 (by rw [cn]; rfl)
      obtain ⟨p1, p2⟩ := d1.put (k := 0) (x := 2) (by decide)
      have d0' : ∀ K : Int32 → gM → gO, hI (fX9_takeNumber N [.ref 0, .int 2, .int 10] (gS (rg 0 18) J2)) (rg 0 18) J2 K = K (nI 2) D := d0
      have g5 : gMg (rg 0 11) I1 I2 0 5 = nI s1 := by rw [g11M (by decide)]; exact a1'.2.2.2.1
      rw [b2_f, i_n0, hI_mk, i_n0, d0', c_0, t_0, read_bad p1 N (by omega), g5]
      refine ⟨nI s1, _, _, rfl, rfl, a1'.1.pos (by rw [g11M (by decide)]) (g11M (by decide)), p1.1, (((F0.tr F1).tr k2).tr d2).tr p2, Or.inr ⟨s1, by omega, rfl⟩⟩
    | true =>
      obtain ⟨_, v2, v10⟩ := nmb_t cn
      obtain ⟨D, d0, d1, d2⟩ := m_take_t (N := N) (lo := 2) (hi := 10) hT (by omega) hs1 (by decide) (by decide) k1 cn
      obtain ⟨p1, p2⟩ := d1.put (k := 0) (x := tzN l s1) (by decide)
      rw [rz_up] at p1
      have d0' : ∀ K : Int32 → gM → gO, hI (fX9_takeNumber N [.ref 0, .int 2, .int 10] (gS (rg 0 18) J2)) (rg 0 18) J2 K = K (nI (tzN l s1)) D := d0
      obtain ⟨C, q0, q1, q2⟩ := pX2_clear (N := N) (n := tzN l s1) (I := gS (rg 2 9) I2) (by omega) v10 (by omega)
      have e0 : gMg (rg 2 9) I2 C 0 = I2 0 := gMg_rgo (Or.inl (by decide))
      have e1 : gMg (rg 2 9) I2 C 1 = I2 1 := gMg_rgo (Or.inl (by decide))
      have hP2 : PC (gMg (rg 2 9) I2 C) l s1 (rz (tzN l s1)) 0 0 := by
        refine ⟨a1'.congr (fun j _ => by rw [e0]) e1, ⟨?_, ?_⟩, cn_back q1⟩
        · rw [e0, a2 7 (by decide) (by decide) (by decide) (by decide), g11S (by decide)]; exact i7
        · rw [e0, a2 8 (by decide) (by decide) (by decide) (by decide), g11S (by decide)]; exact i8
      obtain ⟨I4, u0, u1⟩ := x_next (N := N) hT (by omega) hs1 hP2
      have hs2 := nxt_le hs1
      rw [b2_t, i_n1, a1'.2.2.2.2, q0, hV_mk, u0, hI_mk, i_n1, d0', c_0, t_0]
      exact (read_lap hT hN N N 0 (nxt l s1) (Nat.zero_le _) hs2 (by omega) (by omega) _ _ (rz (tzN l s1)) 0 0 ⟨rz_wt v2 v10, by decide, by decide, rz_z⟩ u1.sup p1).fm ((((F0.tr F1).tr k2).tr d2).tr p2)
