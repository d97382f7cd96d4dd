/-! ===== packet on both sides ===== -/
theorem hT30 {d x y z : gO} : hT (nI 0) 0 2 d [x, y, z] = x := rfl
theorem hT31 {d x y z : gO} : hT (nI 1) 0 2 d [x, y, z] = y := rfl
theorem hT32 {d x y z : gO} : hT (nI 2) 0 2 d [x, y, z] = z := rfl
theorem hT33 {d x y z : gO} : hT (nI 3) 0 2 d [x, y, z] = d := rfl
theorem nI_p (c : Nat) : nI (c + 1) + -1 = nI c := by
  rw [← nI_s c, Int32.add_assoc]
  exact Int32.add_zero _
def pkR (N : Nat) (o : Option Pk) (w : Nat) (I : gM) : gO := match o with
  | some p => some (.inl (some (.int (nI (pkp p w)))), I)
  | none => hX9_packet_109 N I
theorem packet_loop {N B k a d w : Nat} {σ : St} {I : gM} (hr : RowIs (I 3) σ) (hw : Wf B σ) (hk : k < 2 ^ 31) (ha : a < 2 ^ 31) (hd : d < 2 ^ 31) (hw5 : w < 5) : ∀ m i : Nat, i ≤ σ.2.length → σ.2.length - i < m → ((σ.2.take i).filter (inq σ.1 a d)).length ≤ k →
    hX9_packet_58 N m (nI a) (nI d) (nI k) (nI w) (nI (k - ((σ.2.take i).filter (inq σ.1 a d)).length)) (nI i) I = pkR N (qls σ a d)[k]? w I := by
  have l245 : (245 : Int32) = nI 245 := rfl
  have cc : ∀ X : gO, ck 2746 245 X = X := fun X => by rw [l245, ckI (by decide) (by decide)]
  have n245 : (245 : Int32).toNatClampNeg = 245 := by decide
  have hl := (wfP hw).1
  intro m
  induction m with
  | zero => intro i _ h; omega
  | succ m ih =>
    intro i hi hm hcnt
    rw [eX9_packet_58, cc, n245, hr.2.1]
    by_cases hin : i = σ.2.length
    · rw [if_pos ((cge (by omega) (by omega)).mpr (by omega))]
      rw [hin, List.take_length] at hcnt
      have e : (qls σ a d)[k]? = none := List.getElem?_eq_none hcnt
      rw [e]; rfl
    · obtain ⟨p, hp⟩ := get_s (show i < σ.2.length by omega)
      have hnx := ih (i + 1) (by omega) (by omega)
      rw [take_s hp, List.filter_append] at hnx
      rw [if_neg (fun z => hin (by have := (cge (by omega) (by omega)).mp z; omega)), if_neg (zlt hk).mp, isq (by rw [gSm18 (by decide)]; exact hr) hw hp ha hd, hI_mk, gMm18]
      cases hq : inq σ.1 a d p with
      | false =>
        rw [List.filter_cons_of_neg (by rw [hq]; exact Bool.false_ne_true), List.filter_nil, List.append_nil] at hnx
        rw [show gz_eq (b2 false) = gz_eq 0 from rfl, i_e0, eX9_packet_103, nI_s]
        exact hnx hcnt
      | true =>
        rw [List.filter_cons_of_pos hq, List.filter_nil, List.length_append] at hnx
        rw [show gz_eq (b2 true) = gz_eq 1 from rfl, i_e1]
        by_cases hz : k - ((σ.2.take i).filter (inq σ.1 a d)).length = 0
        · have e : (qls σ a d)[k]? = some p := by
            have h1 : σ.2 = σ.2.take i ++ p :: σ.2.drop (i + 1) := by
              have hil : i < σ.2.length := by omega
              have h2 : σ.2.drop i = σ.2[i] :: σ.2.drop (i + 1) := List.drop_eq_getElem_cons hil
              have h3 : σ.2[i] = p := by
                have := List.getElem?_eq_getElem hil
                rw [hp] at this
                exact (Option.some.inj this).symm
              rw [h3] at h2
              rw [← h2, List.take_append_drop]
            have h4 : qls σ a d = (σ.2.take i).filter (inq σ.1 a d) ++ p :: (σ.2.drop (i + 1)).filter (inq σ.1 a d) := by
              show σ.2.filter (inq σ.1 a d) = _
              conv => lhs; rw [h1]
              rw [List.filter_append, List.filter_cons_of_pos hq]
            rw [h4, List.getElem?_append_right (by omega), hz]; rfl
          rw [if_neg (fun z => (zne (by omega)).mp z hz), r_packet (by omega), hr.2.2 i p hp w hw5, e]
          rfl
        · have ec : k - ((σ.2.take i).filter (inq σ.1 a d)).length = (k - (((σ.2.take i).filter (inq σ.1 a d)).length + 1)) + 1 := by omega
          rw [if_pos ((zne (by omega)).mpr hz), ec, nI_p, eX9_packet_103, nI_s]
          exact hnx (show ((σ.2.take i).filter (inq σ.1 a d)).length + 1 ≤ k by omega)
theorem j_packet {N : Nat} {v u x y : Int32} {I J : gM} {a : AB} (h : IN I J a) (hN : 20000 ≤ N) : AG [eIO, eIA, eNS] (fX8_packet N [.ref 0, .int v, .int u, .int x, .int y] I) (fX9_packet N [.ref 0, .int v, .int u, .int x, .int y] J) := by
  obtain ⟨hc, hm, hw⟩ := h
  have hm' := hm.thr (x := 0)
  have d0 : (0 : Int64) = (nI 0).toInt64 := by decide
  have d3 : (3 : Int64) = (nI 3).toInt64 := by decide
  have lm : (-1 : Int32) = mI := rfl
  have z2 : (fX8_checkRange N [.int y, .int 0, .int 3]) = fX8_checkRange N [.int y, .int (nI 0), .int (nI 3)] := rfl
  obtain ⟨w0, w1, w2⟩ := hw.lt
  have hW := hw.1.1.1
  rw [eX8_packet, eX8_packet_0, x_two hc hw, eX9_packet, eX9_packet_0, m_nodes hm'.1]
  cases hv : (ndb v (a.1.1 0) && ndb u (a.1.1 0)) with
  | false =>
    rw [m_ff, i_f, i_n1]
    exact AG.ex 0 rfl rfl rfl gU_us ⟨hc, hm'.thr, hw⟩
  | true =>
    obtain ⟨hv1, hv2⟩ := and_t hv
    obtain ⟨k, k1, k2⟩ := ndb_t (by omega) hv1
    obtain ⟨g, g1, g2⟩ := ndb_t (by omega) hv2
    subst k2; subst g2
    rw [m_ft, i_t, i_n0]
    by_cases e : k = g
    · rw [if_neg (fun z => (cne (by omega) (by omega)).mp z e), if_pos ((ceq (by omega) (by omega)).mpr e), eX9_packet_42, eX9_packet_43, m_f0, i_e1]
      exact AG.ex 1 rfl rfl rfl gU_us ⟨hc, hm'.thr, hw⟩
    · rw [if_pos ((cne (by omega) (by omega)).mpr e), if_neg (fun z => e ((ceq (by omega) (by omega)).mp z)), z2, x_range, d0, d3, m_in, eX9_packet_35]
      cases hu : rgb y (nI 0) (nI 3) with
      | false =>
        rw [i_f, show gz_eq (b2 false) = gz_eq 0 from rfl, i_e0, eX9_packet_42, eX9_packet_43, m_f0, i_e1]
        exact AG.ex 1 rfl rfl rfl gU_us ⟨hc, hm'.thr, hw⟩
      | true =>
        obtain ⟨w, -, y1, y2⟩ := rgb_t (by decide) (by decide) hu
        subst y2
        rw [i_t, show gz_eq (b2 true) = gz_eq 1 from rfl, i_e1, eX9_packet_43, m_f1, i_e0, s_pair, eX8_packet_25]
        have hQ : CQq (gS (rg 11 10) I) (qsq a.1) [] a.1.2.length := hc.1.2.2.toq.congr (fun j _ _ => by
          rw [gS_b (by decide) (by decide), gS10 (by decide), gS_b (by decide) (by decide)]) (fun q _ hq _ => by
          rw [gS_b hq (by decide), gS10 hq, gS_b (by omega) (by decide), show 11 + q = 1 + (10 + q) by omega])
        obtain ⟨hl, hP⟩ := wfP hW
        have hm3 : RowIs (gU J 0 0 0 3) a.1 := hm'.1
        rcases pX4_find (N := N) (v := x) hQ (show k * 10 + g < 100 by omega) (by omega) with ⟨i, c, p, e1, e2, e3, e4, e5, e6⟩ | ⟨e1, e2⟩
        · subst e1
          rw [qsq_at a.1 (by omega)] at e3
          have hr := packet_loop (N := N) (k := c) (a := k) (d := g) (w := w) hm3 hW e2 (by omega) (by omega) (by omega) N 0 (Nat.zero_le _) (by omega) (Nat.zero_le _)
          rw [e3] at hr
          have hr' : hX9_packet_58 N N (nI k) (nI g) (nI c) (nI w) (nI c) 0 (gU J 0 0 0) = some (.inl (some (.int (nI (pkp p w)))), gU J 0 0 0) := hr
          unfold dq pd at e5
          rw [gS_b (by decide) (by decide), gS_b (by decide) (by decide), gS_b (by decide) (by decide), gS_b (by decide) (by decide)] at e5
          have q0 : I 17 i = nI p.1 := congrArg (fun t => t.1) e5
          have q1 : I 18 i = nI p.2.1 := congrArg (fun t => t.2.1) e5
          have q2 : I 19 i = nI p.2.2.1 := congrArg (fun t => t.2.2.1) e5
          have q3 : I 20 i = nI p.2.2.2.1 := congrArg (fun t => t.2.2.2) e5
          have ans : hT (nI w) 0 2 (some (.inl (some (.int (I 20 i))), I)) [some (.inl (some (.int (I 17 i))), I), some (.inl (some (.int (I 18 i))), I), some (.inl (some (.int (I 19 i))), I)] = some (.inl (some (.int (nI (pkp p w)))), I) := by
            have : w = 0 ∨ w = 1 ∨ w = 2 ∨ w = 3 := by omega
            rcases this with h | h | h | h
            · subst h; rw [hT30, q0]; rfl
            · subst h; rw [hT31, q1]; rfl
            · subst h; rw [hT32, q2]; rfl
            · subst h; rw [hT33, q3]; rfl
          rw [hr', e6, hI_mk, gMg_same _ (by decide), lm, if_pos ((cnem (a := i) (by omega)).mpr True.intro), ckI e4 (by decide), ckI e4 (by decide), ckI e4 (by decide), ckI e4 (by decide), nI_clamp (n := i) (by omega), ans]
          exact AG.ok rfl rfl gU_us ⟨hc, hm', hw⟩
        · rw [e2, hI_mk, gMg_same _ (by decide), lm, if_neg cnemm.mp]
          have none' : hX9_packet_58 N N (nI k) (nI g) x (nI w) x 0 (gU J 0 0 0) = hX9_packet_109 N (gU J 0 0 0) := by
            rcases e1 with e1 | ⟨c, e1, e3, e4⟩
            · obtain ⟨N', rfl⟩ : ∃ N', N = N' + 1 := ⟨N - 1, by omega⟩
              have l245 : (245 : Int32) = nI 245 := rfl
              have cc : ∀ X : gO, ck 2746 245 X = X := fun X => by rw [l245, ckI (by decide) (by decide)]
              have hlt : gz_lt x = true := by rw [decide_eq_true_eq]; exact e1
              rw [eX9_packet_58, cc]
              by_cases hz : gc_ge 0 (gU J 0 0 0 3 (245 : Int32).toNatClampNeg) = true
              · rw [if_pos hz]
              · rw [if_neg hz, if_pos hlt]
            · subst e1
              rw [qsq_at a.1 (by omega)] at e4
              have hr := packet_loop (N := N) (k := c) (a := k) (d := g) (w := w) hm3 hW e3 (by omega) (by omega) (by omega) N 0 (Nat.zero_le _) (by omega) (Nat.zero_le _)
              rw [List.getElem?_eq_none e4] at hr
              exact hr
          rw [none', eX9_packet_109]
          exact AG.ex 2 rfl rfl rfl gU_us ⟨hc, hm'.thr, hw⟩
