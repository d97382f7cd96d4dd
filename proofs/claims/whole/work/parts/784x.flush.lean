/-! ===== flush on both sides ===== -/
theorem losF_o : ∀ (ps : List Pk) (r : Nat → Nat) (i : Nat), (∀ p ∈ ps, i ≠ 65 + 11 * p.1 + 5) → losF r ps i = r i
  | [], _, _, _ => rfl
  | p :: t, r, i, h => by
    show losF (losN r p.1) t i = _
    rw [losF_o t _ i (fun q hq => h q (List.mem_cons_of_mem _ hq))]
    exact up1_n (h p List.mem_cons_self)
theorem losF_fl {l : List Pk} {r : Nat → Nat} {f w : Nat} (hw : w < 11) (h5 : w ≠ 5) : flp (losF r l) f w = flp r f w := losF_n l r _ (fun g => by omega)
theorem losF_keep {l : List Pk} {r : Nat → Nat} (h : ∀ p ∈ l, p.1 < 6) : keepN r (losF r l) := fun x _ _ _ _ h5 => losF_o l r x (fun p hp => h5 p.1 5 (h p hp) (by decide) (by decide))
theorem losF_wf {B : Nat} {r : Nat → Nat} {ps qs l : List Pk} (h : Wf B (r, ps)) (hl : ∀ p ∈ l, p.1 < 6) (hlen : qs.length ≤ 500) (hq : ∀ p ∈ qs, p ∈ ps) : Wf B (losF r l, qs) := by
  have h8 : r 8 ≤ 500 := (wfC h).2.2.2.2.2.2.2.2
  have h7 : r 7 ≤ 10100 := (wfC h).2.2.2.2.2.2.2.1
  have o : ∀ x, (x < 65 ∨ 145 ≤ x) → losF r l x = r x := fun x hx => losF_o l r x (fun p hp => by have := hl p hp; omega)
  refine Wf.of h (losF_keep hl) (by rw [o 7 (by omega)]; exact h7) (by rw [o 8 (by omega)]; exact h8) (fun f hf => ?_) (fun f hf => ?_) (fun a d ha hd => ?_) hlen (fun p hp => ?_)
  · rw [losF_fl (by decide) (by decide)]; exact (wfF h f hf).2.2.2.2.2.1
  · rw [losF_fl (by decide) (by decide)]; exact (wfF h f hf).2.2.2.2.2.2
  · have e : shp (losF r l) a d = shp r a d := by
      unfold shp
      exact o _ (by omega)
    rw [e]; exact wfS h a d ha hd
  · rw [o 7 (by omega)]; exact (wfP h).2 p (hq p hp)
theorem inq_los {r : Nat → Nat} {l : List Pk} {a d : Nat} (p : Pk) : inq (losF r l) a d p = inq r a d p := by
  unfold inq
  have e : gol (losF r l) p = gol r p := losF_fl (by decide) (by decide)
  rw [e]
theorem filt_two {q : Pk → Bool} : ∀ l : List Pk, l.length - (l.filter (fun p => !q p)).length = (l.filter q).length ∧ (l.filter (fun p => !q p)).length ≤ l.length
  | [] => ⟨rfl, Nat.le_refl _⟩
  | p :: t => by
    obtain ⟨h1, h2⟩ := filt_two (q := q) t
    have e : (p :: t).length = t.length + 1 := rfl
    cases hq : q p with
    | true =>
      rw [List.filter_cons_of_neg (by rw [hq]; decide), List.filter_cons_of_pos hq, e]
      have e2 : (p :: t.filter q).length = (t.filter q).length + 1 := rfl
      omega
    | false =>
      rw [List.filter_cons_of_pos (by rw [hq]; rfl), List.filter_cons_of_neg (by rw [hq]; decide), e]
      have e2 : (p :: t.filter (fun p => !q p)).length = (t.filter (fun p => !q p)).length + 1 := rfl
      omega
theorem flush_loop {N B a d : Nat} {σ : St} {M : gM} (hw : Wf B σ) (ha : a < 2 ^ 31) (hd : d < 2 ^ 31) (hN : 1000 ≤ N) : ∀ m i : Nat, i ≤ σ.2.length → σ.2.length - i < m → ∀ K : gM, RowIs (K 3) (losF σ.1 ((σ.2.take i).filter (inq σ.1 a d)), σ.2) → (∀ (j : Nat) (p : Pk), j < i → σ.2[j]? = some p → K 7 j = b2 (inq σ.1 a d p)) → (∀ k, k ≠ 3 → k ≠ 7 → K k = M k) →
    ∃ J, hX9_flush_49 N m (nI a) (nI d) (nI i) K = some (.inl (some (.int (nI (qln σ a d)))), J) ∧ RowIs (J 3) (losF σ.1 (qls σ a d), σ.2.filter (fun p => !inq σ.1 a d p)) ∧ ∀ k, k ≠ 3 → k ≠ 7 → J k = M k := by
  have l245 : (245 : Int32) = nI 245 := rfl
  have l0 : (0 : Int32) = nI 0 := rfl
  have l5 : (5 : Int32) = nI 5 := rfl
  have cc : ∀ X : gO, ck 2746 245 X = X := fun X => by rw [l245, ckI (by decide) (by decide)]
  have n245 : (245 : Int32).toNatClampNeg = 245 := by decide
  obtain ⟨hl, hP⟩ := wfP hw
  have c2 := (wfC hw).2.2.1
  intro m
  induction m with
  | zero => intro i _ h; omega
  | succ m ih =>
    intro i hi hm K hk hg ho
    have hlen : K 3 245 = nI σ.2.length := hk.2.1
    by_cases hin : i = σ.2.length
    · rw [eX9_flush_49, cc, n245, hlen, if_pos ((cge (by omega) (by omega)).mpr (by omega))]
      rw [hin, List.take_length] at hk
      let g : Nat → Bool := fun j => match σ.2[j]? with
        | some p => inq σ.1 a d p
        | none => false
      have hgj : ∀ (j : Nat) (p : Pk), σ.2[j]? = some p → g j = inq σ.1 a d p := fun j p hj => by
        show (match σ.2[j]? with | some p => inq σ.1 a d p | none => false) = _
        rw [hj]
      obtain ⟨J, j0, j1, j2⟩ := r_closeUp (N := N) (g := g) (K := fun x6 I6 => some (.inl (some (.int x6)), I6)) hk hl (fun j hj => by
        obtain ⟨p, hpj⟩ := get_s hj
        rw [hgj j p hpj]; exact hg j p (by have : j < σ.2.length := hj; omega) hpj) hN
      have e : kls g 0 σ.2 = σ.2.filter (fun p => !inq σ.1 a d p) := kls_filter (g := g) (q := inq σ.1 a d) σ.2 0 (fun j p hj => by rw [Nat.zero_add]; exact hgj j p hj)
      have j1' : RowIs (J 3) (losF σ.1 (qls σ a d), kls g 0 σ.2) := j1
      have j0' : hI (fX9_closeUp N [.ref 0] (gS (rg 0 18) K)) (rg 0 18) K (fun x6 I6 => some (.inl (some (.int x6)), I6)) = some (.inl (some (.int (nI (σ.2.length - (kls g 0 σ.2).length)))), J) := j0
      rw [e] at j1' j0'
      rw [(filt_two σ.2).1] at j0'
      exact ⟨J, j0', j1', fun k h3 h7 => (j2 k h3).trans (ho k h3 h7)⟩
    · have hil : i < σ.2.length := by omega
      obtain ⟨p, hpi⟩ := get_s hil
      obtain ⟨p1, -⟩ := hP p (List.mem_of_getElem? hpi)
      have hwl : Wf B (losF σ.1 ((σ.2.take i).filter (inq σ.1 a d)), σ.2) := losF_wf (r := σ.1) (ps := σ.2) hw (fun q hq => by
        have := (hP q (List.mem_of_mem_take (List.mem_filter.mp hq).1)).1
        omega) hl (fun q hq => hq)
      have k0 : K 3 (246 + 5 * i + 0) = nI p.1 := hk.2.2 i p hpi 0 (by decide)
      have hx : K 3 (65 + 11 * p.1 + 5) = nI (flp (losF σ.1 ((σ.2.take i).filter (inq σ.1 a d))) p.1 5) := hk.1 _ (by omega)
      have lap : ∀ b : Bool, inq σ.1 a d p = b → hX9_flush_49 N (m + 1) (nI a) (nI d) (nI i) K = hX9_flush_49 N m (nI a) (nI d) (nI (i + 1)) (gU (gU K 7 i (b2 b)) 3 (65 + 11 * p.1 + 5) (nI (flp (losF σ.1 ((σ.2.take i).filter (inq σ.1 a d))) p.1 5 + (if b = true then 1 else 0)))) := fun b hb => by
        have hbn : ∀ t, nI t + b2 b = nI (t + (if b = true then 1 else 0)) := fun t => by cases b <;> exact nI_add _ _
        have s1 : hX9_flush_49 N (m + 1) (nI a) (nI d) (nI i) K = hX9_flush_96 N m (nI a) (nI d) (nI i) (nI p.1) (nI 5) (b2 b) (gU K 7 i (b2 b)) := by
          rw [eX9_flush_49, cc, n245, hlen, if_neg (fun z => hin (by have := (cge (by omega) (by omega)).mp z; omega)), isq (by rw [gSm18 (by decide)]; exact hk) hwl hpi ha hd, hI_mk, gMm18, inq_los, hb, b2_nar, ckI (by omega) (by decide), nI_clamp (n := i) (by omega), l0, r_packet (by omega), ckI (by omega) (by decide), gU_us, gU_ok (by decide), k0]
          cases b with
          | false => rw [if_pos (by decide)]; rfl
          | true => rw [if_neg (by decide)]; rfl
        rw [s1, eX9_flush_96, r_count (by omega), nI_s, gU_ok (by decide), hx, hbn]
      have hput := hk.put (k := 65 + 11 * p.1 + 5) (x := flp (losF σ.1 ((σ.2.take i).filter (inq σ.1 a d))) p.1 5 + (if inq σ.1 a d p = true then 1 else 0)) (by omega)
      rw [lap _ rfl]
      refine ih (i + 1) (by omega) (by omega) _ ?_ (fun j q hj hq => ?_) (fun k h3 h7 => ?_)
      · rw [gU_u3, gU_ok (by decide), take_s hpi, List.filter_append]
        cases hb : inq σ.1 a d p with
        | true =>
          rw [hb] at hput
          rw [List.filter_cons_of_pos hb]
          show RowIs _ (losF σ.1 (_ ++ [p]), σ.2)
          rw [losF_s]
          exact hput
        | false =>
          rw [hb] at hput
          rw [List.filter_cons_of_neg (by rw [hb]; decide)]
          show RowIs _ (losF σ.1 (_ ++ []), σ.2)
          rw [List.append_nil]
          refine hput.fn (fun k _ => ?_)
          by_cases e : k = 65 + 11 * p.1 + 5
          · rw [e, up1_s]; rfl
          · rw [up1_n e]
      · rw [gU_ok (by decide)]
        by_cases e : j = i
        · subst e
          rw [hpi] at hq
          rw [gU_us, ← Option.some.inj hq]
        · rw [gU_un (Or.inr e)]; exact hg j q (by omega) hq
      · rw [gU_ok h3, gU_ok h7]; exact ho k h3 h7
theorem j_flush {N : Nat} {v u : Int32} {I J : gM} {a : AB} (h : IN I J a) (hN : 20000 ≤ N) : AG [eIO, eIA] (fX8_flush N [.ref 0, .int v, .int u] I) (fX9_flush N [.ref 0, .int v, .int u] J) := by
  obtain ⟨hc, hm, hw⟩ := h
  have hm' := hm.thr (x := 0)
  obtain ⟨w0, w1, w2⟩ := hw.lt
  have hW := hw.1.1.1
  obtain ⟨hl, hP⟩ := wfP hW
  rw [eX8_flush, eX8_flush_0, x_two hc hw, eX9_flush, eX9_flush_0, m_nodes hm'.1]
  cases hv : (ndb v (a.1.1 0) && ndb u (a.1.1 0)) with
  | false =>
    rw [m_ff, i_f, i_n1]
    exact AG.ex 0 rfl rfl rfl gU_us ⟨hc, hm'.thr, hw⟩
  | true =>
    obtain ⟨hv1, hv2⟩ := and_t hv
    obtain ⟨k, k1, k2⟩ := ndb_t (by omega) hv1
    obtain ⟨g, g1, g2⟩ := ndb_t (by omega) hv2
    subst k2; subst g2
    rw [m_ft, i_t, i_n0]
    by_cases e : k = g
    · rw [if_neg (fun z => (cne (by omega) (by omega)).mp z e), if_pos ((ceq (by omega) (by omega)).mpr e), eX9_flush_30, m_f0, i_e1]
      exact AG.ex 1 rfl rfl rfl gU_us ⟨hc, hm'.thr, hw⟩
    · obtain ⟨I1, i0, i1, i2⟩ := c_rem (N := N) (K := fun I2 => hI (fX8_pair N [.int (nI k), .int (nI g)] (gS [] I2)) [] I2 fun x3 I3 => hX8_flush_26 N x3 I3) hc hw (by omega)
      obtain ⟨J1, j0, j1, j2, j3⟩ := m_rec (N := N) (K := fun I4 => hV (fX9_stayAll N [.ref 0] (gS (rg 0 18) I4)) (rg 0 18) I4 fun I5 => hX9_flush_47 N (nI k) (nI g) I5) hm' hw hN
      obtain ⟨J2, p0, -, p2⟩ := r_stayAll (N := N) (I := J1) (K := fun I5 => hX9_flush_47 N (nI k) (nI g) I5) (by omega)
      have hr2 : RowIs (J2 3) a.1 := by rw [p2 3 (by decide), j3 3 (by decide) (by decide)]; exact hm'.1
      obtain ⟨J3, q0, q1, q2⟩ := flush_loop (N := N) (a := k) (d := g) (M := J2) hW (by omega) (by omega) (by omega) N 0 (Nat.zero_le _) (by omega) J2 hr2 (fun j p hj => absurd hj (Nat.not_lt_zero _)) (fun _ _ _ => rfl)
      have q0' : hX9_flush_49 N N (nI k) (nI g) 0 J2 = some (.inl (some (.int (nI (qln a.1 k g)))), J3) := q0
      have hpl : ∀ p ∈ qls a.1 k g, p.1 < 6 := fun p hp => by
        have := (hP p (List.mem_filter.mp hp).1).1
        omega
      have h1 : STc (gS (rg 1 20) I1) a.1 := hc.1.congr (fun q hq => by rw [gS_b hq (by decide), gS_b hq (by decide), i2 _ (by omega)])
      obtain ⟨C, t0, t1⟩ := pX7_loseAll (N := N) (q := k * 10 + g) h1 w1 w2 (by omega) (fun p hp => (hP p (List.mem_filter.mp hp).1).1) (by omega)
      rw [qsq_at a.1 (by omega)] at t0 t1
      have hS : STc C (losF a.1.1 (qls a.1 k g), a.1.2.filter (fun p => !inq a.1.1 k g p)) := by
        have ep : a.1.2.length - (qls a.1 k g).length = (a.1.2.filter (fun p => !inq a.1.1 k g p)).length := by
          have := filt_two (q := inq a.1.1 k g) a.1.2
          have e2 : (qls a.1 k g).length = (a.1.2.filter (inq a.1.1 k g)).length := rfl
          omega
        rw [ep] at t1
        have lo : ∀ x, x < 65 → losF a.1.1 (qls a.1 k g) x = a.1.1 x := fun x hx => losF_o _ _ x (fun p hp => by omega)
        refine CT.to t1 (by rw [lo 1 (by decide)]; exact w1) (by rw [lo 2 (by decide)]; exact w2) (fun _ _ => rfl) (fun z hz => ?_)
        show (a.1.2.filter (fun p => !inq a.1.1 k g p)).filter (inq (losF a.1.1 (qls a.1 k g)) (z / 10) (z % 10)) = _
        rw [List.filter_filter]
        by_cases ez : z = k * 10 + g
        · rw [ez, upq_s, List.filter_eq_nil_iff]
          intro p _ hp
          rw [show (k * 10 + g) / 10 = k by omega, show (k * 10 + g) % 10 = g by omega, inq_los] at hp
          cases hq : inq a.1.1 k g p with
          | true => rw [hq] at hp; exact absurd hp (by decide)
          | false => rw [hq] at hp; exact absurd hp (by decide)
        · rw [upq_n ez]
          refine List.filter_congr (fun p _ => ?_)
          rw [inq_los]
          cases hq : inq a.1.1 (z / 10) (z % 10) p with
          | false => rfl
          | true =>
            have hne : inq a.1.1 k g p = false := by
              unfold inq at hq ⊢
              rw [Bool.and_eq_true, decide_eq_true_eq, decide_eq_true_eq] at hq
              by_cases h5 : pkn p = k
              · rw [decide_eq_false (show ¬ gol a.1.1 p = g by omega), Bool.and_false]
              · rw [decide_eq_false h5, Bool.false_and]
            rw [hne]; rfl
      have hWt : Wt (losF a.1.1 (qls a.1 k g), a.1.2.filter (fun p => !inq a.1.1 k g p)) := by
        have e7 : losF a.1.1 (qls a.1 k g) 7 = a.1.1 7 := losF_o _ _ 7 (fun p hp => by omega)
        refine ⟨⟨?_, fun f hf => ?_⟩, ?_⟩
        · show Wf (110 * losF a.1.1 (qls a.1 k g) 7) _
          rw [e7]
          exact losF_wf (r := a.1.1) (ps := a.1.2) hW hpl (Nat.le_trans (List.length_filter_le _ _) hl) (fun p hp => (List.mem_filter.mp hp).1)
        · show flp (losF a.1.1 (qls a.1 k g)) f 10 ≤ 10101
          rw [losF_fl (by decide) (by decide)]; exact hw.1.1.2 f hf
        · show losF a.1.1 (qls a.1 k g) 7 ≤ 9999
          rw [e7]; exact hw.1.2
      rw [if_pos ((cne (by omega) (by omega)).mpr e), if_neg (fun z => e ((ceq (by omega) (by omega)).mp z)), eX9_flush_30, m_f1, i_e0, i0, j0, p0, eX9_flush_47, q0', s_pair, eX8_flush_26, t0, hI_mk]
      exact AG.ok rfl rfl (by rw [q2 0 (by decide) (by decide), p2 0 (by decide), j2 0 (by decide)]; exact gU_us) (IN.step (σ' := (losF a.1.1 (qls a.1 k g), a.1.2.filter (fun p => !inq a.1.1 k g p))) hc hm' hw i1 i2 j1 j2 j3 (hS.congr (fun q hq => by rw [gS_b hq (by decide), gMg_rgi hq])) (fun q hq => gMg_rgo (by omega)) q1 (fun j hj => by rw [q2 0 (by decide) (by decide), p2 0 (by decide)]) (fun q hq => by rw [q2 q (by omega) (by omega), p2 q (by omega)]) hWt)
