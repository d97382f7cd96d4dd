/-! ===== setConflict on both sides ===== -/
def cS (c : Bool) (C b : Nat) : Nat := if c = true then C ||| 2 ^ b else andn C (2 ^ b)
theorem cS_tb (c : Bool) (C b j : Nat) : (cS c C b).testBit j = if j = b then c else C.testBit j := by
  unfold cS
  cases c with
  | true =>
    rw [if_pos rfl, tb_or2]
    by_cases e : j = b
    · rw [if_pos e, e, decide_eq_true rfl, Bool.or_true]
    · rw [if_neg e, decide_eq_false (fun z => e z.symm), Bool.or_false]
  | false =>
    rw [if_neg (by decide), andn_tb, Nat.testBit_two_pow]
    by_cases e : j = b
    · rw [if_pos e, e, decide_eq_true rfl]; cases C.testBit b <;> rfl
    · rw [if_neg e, decide_eq_false (fun z => e z.symm)]; cases C.testBit j <;> rfl
theorem cS_lt {c : Bool} {C b : Nat} (hC : C < 2 ^ 14) (hb : b < 14) : cS c C b < 2 ^ 14 := by
  unfold cS
  cases c with
  | true => rw [if_pos rfl]; exact Nat.or_lt_two_pow hC (pow_lt hb)
  | false => rw [if_neg (by decide)]; exact andn_lt hC
theorem cS_same {c : Bool} {C b : Nat} (h : C.testBit b = c) : cS c C b = C := by
  apply Nat.eq_of_testBit_eq
  intro j
  rw [cS_tb]
  by_cases e : j = b
  · rw [if_pos e, e, h]
  · rw [if_neg e]
theorem cS_xor {c : Bool} {C b : Nat} (h : C.testBit b ≠ c) : C ^^^ 2 ^ b = cS c C b := by
  apply Nat.eq_of_testBit_eq
  intro j
  rw [cS_tb, Nat.testBit_xor, Nat.testBit_two_pow]
  by_cases e : j = b
  · rw [if_pos e, e, decide_eq_true rfl]
    cases hc : C.testBit b <;> cases c <;> first | rfl | (rw [hc] at h; exact absurd rfl h)
  · rw [if_neg e, decide_eq_false (fun z => e z.symm)]
    cases C.testBit j <;> rfl
def conS (r : Nat → Nat) (k j : Nat) (c : Bool) : Nat → Nat := up1 (up1 r (131 + k) (cS c (cfp r k) j)) (131 + j) (cS c (cfp r j) k)
theorem conS_n {r : Nat → Nat} {k j x : Nat} {c : Bool} (h1 : x ≠ 131 + k) (h2 : x ≠ 131 + j) : conS r k j c x = r x := by
  unfold conS
  rw [up1_n h2, up1_n h1]
theorem conS_cf {r : Nat → Nat} {k j i : Nat} {c : Bool} (hkj : k ≠ j) : cfp (conS r k j c) i = if i = k then cS c (cfp r k) j else if i = j then cS c (cfp r j) k else cfp r i := by
  show conS r k j c (131 + i) = _
  unfold conS
  by_cases e : i = k
  · rw [if_pos e, e, up1_n (by omega), up1_s]
  · rw [if_neg e]
    by_cases e2 : i = j
    · rw [if_pos e2, e2, up1_s]
    · rw [if_neg e2, up1_n (by omega), up1_n (by omega)]; rfl
theorem conS_tb {r : Nat → Nat} {k j i b : Nat} {c : Bool} (hkj : k ≠ j) : (cfp (conS r k j c) i).testBit b = if (i = k ∧ b = j) ∨ (i = j ∧ b = k) then c else (cfp r i).testBit b := by
  rw [conS_cf hkj]
  by_cases e : i = k
  · rw [if_pos e, cS_tb]
    by_cases e3 : b = j
    · rw [if_pos e3, if_pos (Or.inl ⟨e, e3⟩)]
    · rw [if_neg e3, if_neg (by omega), e]
  · rw [if_neg e]
    by_cases e2 : i = j
    · rw [if_pos e2, cS_tb]
      by_cases e3 : b = k
      · rw [if_pos e3, if_pos (Or.inr ⟨e2, e3⟩)]
      · rw [if_neg e3, if_neg (by omega), e2]
    · rw [if_neg e2, if_neg (by omega)]
theorem Wt.conf {σ : St} {k j : Nat} {c : Bool} (h : Wt σ) (hk : k < σ.1 1) (hj : j < σ.1 1) (hkj : k ≠ j) : Wt (conS σ.1 k j c, σ.2) := by
  obtain ⟨⟨hw, hg⟩, h7⟩ := h
  obtain ⟨r, ps⟩ := σ
  have hk' : k < r 1 := hk
  have hj' : j < r 1 := hj
  obtain ⟨c0, c1, c2, c3, c4, c5, c6, c7, c8⟩ := wfC hw
  have c1' : r 1 ≤ 14 := c1
  have c2' : r 2 ≤ 6 := c2
  have e : ∀ x, (x < 131 ∨ 145 ≤ x) → conS r k j c x = r x := fun x hx => conS_n (by omega) (by omega)
  have e7 : conS r k j c 7 = r 7 := e 7 (by omega)
  refine ⟨⟨?_, fun f hf => ?_⟩, ?_⟩
  · show Wf (110 * conS r k j c 7) (conS r k j c, ps)
    rw [e7]
    refine Wf.gen hw (e 0 (by omega)) (e 1 (by omega)) (e 2 (by omega)) ⟨by rw [e 3 (by omega)]; exact c3, by rw [e 4 (by omega)]; exact c4, by rw [e 5 (by omega)]; exact c5, by rw [e 6 (by omega)]; exact c6⟩ e7 (e 8 (by omega)) (fun i hi => ?_) (fun i hi b hb => ?_) (fun f hf => ?_) (fun x hx => e x (by omega))
    · obtain ⟨z0, z1, z2, z3, z4⟩ := wfL hw i hi
      have l : ∀ w, w < 4 → lkp (conS r k j c) i w = lkp r i w := fun w hw4 => e _ (by omega)
      rw [l 2 (by decide)]
      exact ⟨l 0 (by decide), l 1 (by decide), z3, z4⟩
    · rw [conS_tb hkj] at hb
      rw [conS_tb hkj]
      by_cases h1 : (i = k ∧ b = j) ∨ (i = j ∧ b = k)
      · rw [if_pos h1] at hb
        rw [if_pos (by omega)]
        exact ⟨by omega, by omega, hb⟩
      · rw [if_neg h1] at hb
        rw [if_neg (by omega)]
        exact wfK hw i hi b hb
    · obtain ⟨y0, y1, y2, y3, y4, y5, y6⟩ := wfF hw f hf
      have l : ∀ w, w < 11 → flp (conS r k j c) f w = flp r f w := fun w hw11 => e _ (by omega)
      rw [l 2 (by decide), l 3 (by decide)]
      exact ⟨l 0 (by decide), l 1 (by decide), y3, y4, l 6 (by decide), l 10 (by decide)⟩
  · have l : flp (conS r k j c) f 10 = flp r f 10 := e _ (by omega)
    show flp (conS r k j c) f 10 ≤ 10101
    rw [l]; exact hg f hf
  · show conS r k j c 7 ≤ 9999
    rw [e7]; exact h7
theorem STc.conf {I : gM} {r : Nat → Nat} {ps : List Pk} {B k j : Nat} {c : Bool} (h : STc I (r, ps)) (hw : Wf B (r, ps)) (hk : k < r 1) (hj : j < r 1) (hkj : k ≠ j) : STc (gU (gU I 6 k (nI (cS c (cfp r k) j))) 6 j (nI (cS c (cfp r j) k))) (conS r k j c, ps) := by
  have c1 : r 1 ≤ 14 := (wfC hw).2.1
  have c2 : r 2 ≤ 6 := (wfC hw).2.2.1
  have e : ∀ x, (x < 131 ∨ 145 ≤ x) → conS r k j c x = r x := fun x hx => conS_n (by omega) (by omega)
  obtain ⟨hn', hs, hq⟩ := h
  have hn : CN I r := hn'
  refine ⟨hn.gen (s := conS r k j c) (e 0 (by omega)) (e 1 (by omega)) (e 2 (by omega)) (by rw [gU_ok (by decide), gU_ok (by decide)]) (fun i hi => ?_) (fun i hi => ?_) (fun f w hf hw => ?_) (fun i hi => ⟨e _ (by omega), e _ (by omega)⟩) (by rw [gU_ok (by decide), gU_ok (by decide)]), ⟨?_, ?_, fun q hq2 => ?_⟩, ?_⟩
  · obtain ⟨b0, b1, b2, b3, b4⟩ := hn.2.1 i hi
    have l : ∀ w, w < 4 → lkp (conS r k j c) i w = lkp r i w := fun w hw4 => e _ (by omega)
    rw [l 0 (by decide), l 1 (by decide), l 2 (by decide), l 3 (by decide), conS_cf hkj, gU_ok (k' := 2) (by decide), gU_ok (k' := 2) (by decide), gU_ok (k' := 3) (by decide), gU_ok (k' := 3) (by decide), gU_ok (k' := 4) (by decide), gU_ok (k' := 4) (by decide), gU_ok (k' := 5) (by decide), gU_ok (k' := 5) (by decide)]
    refine ⟨b0, b1, b2, b3, ?_⟩
    by_cases e1 : i = k
    · rw [if_pos e1, e1, gU_un (Or.inr hkj), gU_us]
    · rw [if_neg e1]
      by_cases e2 : i = j
      · rw [if_pos e2, e2, gU_us]
      · rw [if_neg e2, gU_un (Or.inr e2), gU_un (Or.inr e1)]; exact b4
  · rw [gU_ok (by decide), gU_ok (by decide), e _ (by omega)]; exact hn.2.2.1 i hi
  · have l : flp (conS r k j c) f w = flp r f w := e _ (by omega)
    rw [gU_ok (by decide), gU_ok (by decide), l]; exact hn.2.2.2.1 f w hf hw
  · rw [gU_ok (by decide), gU_ok (by decide)]
    show _ = nI (conS r k j c 7)
    rw [e 7 (by omega)]; exact hs.1
  · rw [gU_ok (by decide), gU_ok (by decide)]
    show _ = nI (conS r k j c 8)
    rw [e 8 (by omega)]; exact hs.2.1
  · rw [gU_ok (by decide), gU_ok (by decide)]
    show _ = nI (conS r k j c (145 + q))
    rw [e _ (by omega)]; exact hs.2.2 q hq2
  · rw [qsq_to (s := conS r k j c) hw (fun f hf => e _ (by omega))]
    exact CQ.congr hq (fun q q1 _ _ => by rw [gU_ok (by omega), gU_ok (by omega)])
theorem b2_cs {c : Bool} {C b : Nat} (hb : b < 31) : (if gz_eq (b2 c) = true then nI (andn C (2 ^ b)) else nI (C ||| 2 ^ b)) = nI (cS c C b) := by
  unfold cS
  cases c
  · rw [if_pos (by decide), if_neg (by decide)]
  · rw [if_neg (by decide), if_pos rfl]
theorem pX2_putConflict {N k j Ck Cj : Nat} {c : Bool} {I : gM} (hk : k < 14) (hj : j < 14) (hkj : k ≠ j) (h1 : I 5 k = nI Ck) (h2 : I 5 j = nI Cj) : fX2_putConflict N [.ref 0, .int (nI k), .int (nI j), .int (b2 c)] I = some (.inl none, gU (gU I 5 k (nI (cS c Ck j))) 5 j (nI (cS c Cj k))) := by
  have lm : (-1 : Int32) = mI := rfl
  have ek : gb_shl 1 (nI k) = nI (2 ^ k) := shl1' (by omega)
  have ej : gb_shl 1 (nI j) = nI (2 ^ j) := shl1' (by omega)
  have h2' : ∀ x, gU I 5 k x 5 j = nI Cj := fun x => by rw [gU_un (Or.inr (fun z => hkj z.symm))]; exact h2
  rw [eX2_putConflict, eX2_putConflict_0, ek, ej, nI_clamp (n := k) (by omega), nI_clamp (n := j) (by omega), h1, h2', h2', lm]
  cases c with
  | false =>
    have a1 : gb_and (nI Ck) (gb_xor (nI (2 ^ j)) mI) = nI (andn Ck (2 ^ j)) := andnI _ _
    have a2 : gb_and (nI Cj) (gb_xor (nI (2 ^ k)) mI) = nI (andn Cj (2 ^ k)) := andnI _ _
    rw [if_pos (by decide), ckI hk (by decide), ckI hk (by decide), ckI hj (by decide), ckI hj (by decide), a1, a2]
    rfl
  | true =>
    have a1 : gb_or (nI Ck) (nI (2 ^ j)) = nI (Ck ||| 2 ^ j) := nI_or _ _
    have a2 : gb_or (nI Cj) (nI (2 ^ k)) = nI (Cj ||| 2 ^ k) := nI_or _ _
    rw [if_neg (by decide), ckI hk (by decide), ckI hk (by decide), ckI hj (by decide), ckI hj (by decide), a1, a2]
    rfl
theorem two_and {k j : Nat} (hkj : k ≠ j) : andn (2 ^ k ||| 2 ^ j) (2 ^ k) = 2 ^ j := by
  apply Nat.eq_of_testBit_eq
  intro i
  rw [andn_tb, Nat.testBit_or, Nat.testBit_two_pow, Nat.testBit_two_pow]
  by_cases e1 : k = i
  · rw [decide_eq_true e1, decide_eq_false (fun z => hkj (e1.trans z.symm))]; rfl
  · rw [decide_eq_false e1]; cases decide (j = i) <;> rfl
theorem j_setConflict {N : Nat} {v u : Int32} {c : Bool} {I J : gM} {a : AB} (h : IN I J a) (hN : 20000 ≤ N) : AG [eIO, eIA] (fX8_setConflict N [.ref 0, .int v, .int u, .int (b2 c)] I) (fX9_setConflict N [.ref 0, .int v, .int u, .int (b2 c)] J) := by
  obtain ⟨hc, hm, hw⟩ := h
  have hm' := hm.thr (x := nI 0)
  have l0 : (0 : Int32) = nI 0 := rfl
  have lm : (-1 : Int32) = mI := rfl
  have l131 : (131 : Int32) = nI 131 := rfl
  obtain ⟨w0, w1, w2⟩ := hw.lt
  rw [eX8_setConflict, eX8_setConflict_0, x_link hc hw, eX9_setConflict, eX9_setConflict_0, l0, m_link hm'.1]
  have fail1 : AG [eIO, eIA] (some (.inr "java/lang/IndexOutOfBoundsException", I)) (hX9_setConflict_26 N v u (b2 c) (gU J 0 0 (nI 0))) := by
    rw [eX9_setConflict_26, eX9_setConflict_27, m_f0, i_n1]
    exact AG.ex 0 rfl rfl rfl gU_us ⟨hc, hm'.thr, hw⟩
  cases hv : ndb v (a.1.1 1) with
  | false =>
    rw [i_f, show gz_eq (b2 false) = gz_eq 0 from rfl, i_e0]
    exact fail1
  | true =>
    rw [i_t, show gz_eq (b2 true) = gz_eq 1 from rfl, i_e1, x_link hc hw, m_link hm'.1]
    cases hu : ndb u (a.1.1 1) with
    | false =>
      rw [i_f, show gz_eq (b2 false) = gz_eq 0 from rfl, i_e0]
      exact fail1
    | true =>
      obtain ⟨k, k1, k2⟩ := ndb_t (by omega) hv
      obtain ⟨j, j1, j2⟩ := ndb_t (by omega) hu
      subst k2; subst j2
      rw [i_t, show gz_eq (b2 true) = gz_eq 1 from rfl, i_e1, eX9_setConflict_27, m_f1, i_n0]
      by_cases e : k = j
      · rw [if_neg (fun z => (cne (by omega) (by omega)).mp z e), if_pos ((ceq (by omega) (by omega)).mpr e), eX9_setConflict_45, m_f0, i_e1]
        exact AG.ex 1 rfl rfl rfl gU_us ⟨hc, hm'.thr, hw⟩
      · have hck := cf_lt hw.1.1.1 k1
        have hcj := cf_lt hw.1.1.1 j1
        obtain ⟨I1, i0, i1, i2⟩ := c_rem (N := N) (K := fun I3 => hX8_setConflict_36 N (nI k) (nI j) (b2 c) I3) hc hw (by omega)
        obtain ⟨J1, q0, q1, q2, q3⟩ := m_rec (N := N) (K := fun I5 => ck 2746 (gb_add 131 (nI k)) <| hI (fX9_has N [.int (I5 3 (gb_add 131 (nI k)).toNatClampNeg), .int (nI j)] (gS [] I5)) [] I5 fun x6 I6 => hX9_setConflict_72 N (nI k) (nI j) (b2 c) x6 I6) hm' hw hN
        have h1 : STc (gS (rg 1 20) I1) a.1 := hc.1.congr (fun q hq => by rw [gS_b hq (by decide), gS_b hq (by decide), i2 _ (by omega)])
        have e7k : I1 7 k = nI (cfp a.1.1 k) := by rw [i2 7 (by omega)]; exact (hc.lk k1).2.2.2.2
        have e7j : I1 7 j = nI (cfp a.1.1 j) := by rw [i2 7 (by omega)]; exact (hc.lk j1).2.2.2.2
        have hin := pX2_inConflict (N := N) (k := k) (j := j) (c := cfp a.1.1 k) (I := gS (rg 2 9) I1) (by omega) (by omega) (by rw [gS_b (by decide) (by decide)]; exact e7k) (by omega)
        have hput := pX2_putConflict (N := N) (k := k) (j := j) (Ck := cfp a.1.1 k) (Cj := cfp a.1.1 j) (c := c) (I := gS (rg 2 9) I1) (by omega) (by omega) e (by rw [gS_b (by decide) (by decide)]; exact e7k) (by rw [gS_b (by decide) (by decide)]; exact e7j)
        have ek : gb_add 131 (nI k) = nI (131 + k) := by rw [l131]; exact nI_add _ _
        have ej : gb_add 131 (nI j) = nI (131 + j) := by rw [l131]; exact nI_add _ _
        have hr1 : RowIs (J1 3) a.1 := by rw [q3 3 (by decide) (by decide)]; exact hm'.1
        have rk : J1 3 (131 + k) = nI (cfp a.1.1 k) := hr1.1 _ (by omega)
        have rj : J1 3 (131 + j) = nI (cfp a.1.1 j) := hr1.1 _ (by omega)
        have hclass : hX8_setConflict_36 N (nI k) (nI j) (b2 c) I1 = some (.inl (some (.int (b2 ((cfp a.1.1 k).testBit j)))), gU (gU I1 7 k (nI (cS c (cfp a.1.1 k) j))) 7 j (nI (cS c (cfp a.1.1 j) k))) := by
          rw [eX8_setConflict_36, hin, hI_mk, gMg_same _ (by decide), hput, hV_mk, if_pos (b2_01 _), gMg_U (by decide), gMg_U (by decide), gMg_same _ (by decide)]
        have hst : STc (gS (rg 1 20) (gU (gU I1 7 k (nI (cS c (cfp a.1.1 k) j))) 7 j (nI (cS c (cfp a.1.1 j) k)))) (conS a.1.1 k j c, a.1.2) := (STc.conf (c := c) h1 hw.1.1.1 k1 j1 e).congr (fun q hq => by
          rw [gSU (p := 6) q hq]
          by_cases hq6 : q = 6
          · rw [hq6, gU_u3, gU_u3, gU_u3, gSU (p := 6) 6 (by decide), gU_u3]
          · rw [gU_ok hq6, gU_ok hq6, gU_ok hq6, gSU (p := 6) q hq, gU_ok hq6])
        have n131k : (nI (131 + k)).toNatClampNeg = 131 + k := nI_clamp (by omega)
        have n131j : (nI (131 + j)).toNatClampNeg = 131 + j := nI_clamp (by omega)
        rw [if_pos ((cne (by omega) (by omega)).mpr e), if_neg (fun z => e ((ceq (by omega) (by omega)).mp z)), eX9_setConflict_45, m_f1, i_e0, i0, q0, hclass, ek, ckI (by omega) (by decide), n131k, rk, r_has (by omega) (by omega), eX9_setConflict_72]
        by_cases hb : (cfp a.1.1 k).testBit j = c
        · have hb2 : (cfp a.1.1 j).testBit k = c := by rw [← cf_sym hw.1.1.1 k1 j1]; exact hb
          have hsame : conS a.1.1 k j c = a.1.1 := by
            unfold conS
            rw [cS_same hb, cS_same hb2]
            show up1 (up1 a.1.1 (131 + k) (a.1.1 (131 + k))) (131 + j) (a.1.1 (131 + j)) = _
            rw [up1_self, up1_self]
          rw [if_pos (by rw [hb]; exact decide_eq_true rfl), if_pos (b2_01 _)]
          rw [hsame] at hst
          exact AG.ok rfl rfl (by rw [q2 0 (by decide)]; exact gU_us) (IN.step (σ' := a.1) hc hm' hw i1 i2 q1 q2 q3 hst (fun q hq => by rw [gU_ok (by omega), gU_ok (by omega)]) hr1 (fun _ _ => rfl) (fun _ _ => rfl) hw.1)
        · have hb2 : (cfp a.1.1 j).testBit k ≠ c := by rw [← cf_sym hw.1.1.1 k1 j1]; exact hb
          have hne : ¬ gc_eq (b2 ((cfp a.1.1 k).testBit j)) (b2 c) = true := fun z => by
            have := of_decide_eq_true z
            cases h1 : (cfp a.1.1 k).testBit j <;> cases h2 : c <;> rw [h1, h2] at this hb <;> first | exact hb rfl | exact absurd this (by decide)
          have sk : gb_shl 1 (nI k) = nI (2 ^ k) := shl1' (by omega)
          have sj : gb_shl 1 (nI j) = nI (2 ^ j) := shl1' (by omega)
          have ob : gb_or (nI (2 ^ k)) (nI (2 ^ j)) = nI (2 ^ k ||| 2 ^ j) := nI_or _ _
          have a1 : gb_and (nI (2 ^ k ||| 2 ^ j)) (gb_xor (nI (2 ^ k)) mI) = nI (2 ^ j) := (andnI _ _).trans (by rw [two_and e])
          have a2 : gb_and (nI (2 ^ k ||| 2 ^ j)) (gb_xor (nI (2 ^ j)) mI) = nI (2 ^ k) := (andnI _ _).trans (by rw [Nat.or_comm, two_and (fun z => e z.symm)])
          have x1 : gb_xor (nI (cfp a.1.1 k)) (nI (2 ^ j)) = nI (cS c (cfp a.1.1 k) j) := (nI_xor _ _).trans (by rw [cS_xor hb])
          have x2 : gb_xor (nI (cfp a.1.1 j)) (nI (2 ^ k)) = nI (cS c (cfp a.1.1 j) k) := (nI_xor _ _).trans (by rw [cS_xor hb2])
          have rj2 : ∀ x, gU J1 3 (131 + k) x 3 (131 + j) = nI (cfp a.1.1 j) := fun x => by rw [gU_un (Or.inr (by omega))]; exact rj
          rw [if_neg hne, ek, ej, n131k, n131j, rk, sk, sj, ob, lm, a1, a2, x1, rj2, x2, ckI (by omega) (by decide), ckI (by omega) (by decide), ckI (by omega) (by decide), ckI (by omega) (by decide), if_pos (b2_01 _)]
          exact AG.ok rfl rfl (by rw [gU_ok (by decide), gU_ok (by decide), q2 0 (by decide)]; exact gU_us) (IN.step (σ' := (conS a.1.1 k j c, a.1.2)) hc hm' hw i1 i2 q1 q2 q3 hst (fun q hq => by rw [gU_ok (by omega), gU_ok (by omega)]) (by rw [gU_u3, gU_u3]; exact (hr1.put (by omega)).put (by omega)) (fun j hj => by rw [gU_ok (by decide), gU_ok (by decide)]) (fun q hq => by rw [gU_ok (by omega), gU_ok (by omega)]) (hw.1.conf k1 j1 e))
