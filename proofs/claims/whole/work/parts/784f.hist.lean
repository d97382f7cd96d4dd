/-! ===== undo, save, restore, truncate, set, count ===== -/
theorem past_split {past : List St} (h : past.length ≠ 0) : ∃ l τ, past = l ++ [τ] := by
  have hne : past ≠ [] := fun e => h (by rw [e]; rfl)
  exact ⟨past.dropLast, past.getLast hne, (List.dropLast_concat_getLast hne).symm⟩
theorem gM3x {a b : Nat} {J C : gM} (hab : a ≠ b) : gMg [a, b] J C b = C 1 ∧ ∀ k, k ≠ a → k ≠ b → gMg [a, b] J C k = J k := by
  refine ⟨?_, fun k ka kb => ?_⟩
  · unfold gMg
    have e : gIx [a, b] b = some 1 := by
      show (if a = b then some 0 else match (if b = b then some 0 else match (none : Option Nat) with
          | some j => some (j + 1)
          | none => none) with
          | some j => some (j + 1)
          | none => none) = some 1
      rw [if_neg hab, if_pos rfl]
    rw [e]
  · unfold gMg
    have e : gIx [a, b] k = none := by
      show (if a = k then some 0 else match (if b = k then some 0 else match (none : Option Nat) with
          | some j => some (j + 1)
          | none => none) with
          | some j => some (j + 1)
          | none => none) = none
      rw [if_neg (fun z => ka z.symm), if_neg (fun z => kb z.symm)]
    rw [e]
theorem gM3a {a b : Nat} {J C : gM} : gMg [a, b] J C a = C 0 := by
  unfold gMg
  have e : gIx [a, b] a = some 0 := if_pos rfl
  rw [e]
/-- a row is copied within the reference -/
theorem m_copy {N n1 n2 a b p q : Nat} {J : gM} {K : gM → gO} (hab : a ≠ b) (h1 : p + 2746 ≤ n1) (h2 : q + 2746 ≤ n2) (hn1 : n1 < 2 ^ 31) (hn2 : n2 < 2 ^ 31) (hN : 20000 ≤ N) : ∃ J', hV (fX9_copy N n1 n2 [.ref 0, .int (nI p), .ref 1, .int (nI q)] (gS [a, b] J)) [a, b] J K = K J' ∧ (∀ k, k < 2746 → J' b (q + k) = J a (p + k)) ∧ (∀ x, (x < q ∨ q + 2746 ≤ x) → J' b x = J b x) ∧ ∀ k, k ≠ b → J' k = J k := by
  obtain ⟨C, c0, c1, c2, c3⟩ := pX9_copy (N := N) (n1 := n1) (n2 := n2) (a := p) (b := q) (I := gS [a, b] J) h1 h2 hn1 hn2 (by omega)
  obtain ⟨mb, mo⟩ := gM3x (J := J) (C := C) hab
  refine ⟨gMg [a, b] J C, by rw [c0, hV_mk], fun k hk => by rw [mb, c1 k hk]; rfl, fun x hx => by rw [mb, c2 x hx]; rfl, fun k hk => ?_⟩
  by_cases e : k = a
  · rw [e, gM3a, c3 0 (by decide)]; rfl
  · exact mo k e hk
theorem j_undo {N : Nat} {I J : gM} {a : AB} (h : IN I J a) (hN : 20000 ≤ N) : AG [eIS] (fX8_undo N [.ref 0] I) (fX9_undo N [.ref 0] J) := by
  obtain ⟨hc, hm, hw⟩ := h
  have hm' := hm.thr (x := nI 0)
  have l0 : (0 : Int32) = nI 0 := rfl
  have l1 : (1 : Int32) = nI 1 := rfl
  have l2746 : (2746 : Int32) = nI 2746 := rfl
  obtain ⟨σ, past, sv, buf⟩ := a
  have hp6 : past.length ≤ 6 := hw.2.2.2.2.1
  have e1 : I 61 1 = nI past.length := by
    have := hc.2.1.2.1
    rw [gS_b (by decide) (by decide)] at this; exact this
  have e13 : J 0 13 = nI past.length := hm.2.1.1
  rw [eX8_undo, eX8_undo_0, e1, eX9_undo, eX9_undo_0, e13]
  by_cases h0 : past.length = 0
  · rw [if_neg (fun z => (zne (by omega)).mp z h0), if_pos ((zle (by omega)).mpr h0), eX9_undo_18, l0, m_fz, i_e1]
    exact AG.ex 0 rfl rfl rfl gU_us ⟨hc, hm'.thr, hw⟩
  · obtain ⟨l, τ, hl⟩ := past_split h0
    subst hl
    have hlen : (l ++ [τ]).length = l.length + 1 := by rw [List.length_append]; rfl
    have hwt : Wt τ := hw.2.1 τ (List.mem_append_right _ (List.mem_singleton.mpr rfl))
    obtain ⟨C, c0, c1, c2, c3⟩ := pX1_takeBack (N := N) (I := gS (rg 61 122 ++ rg 1 20) I) (past := l) (σ := τ) (hc.2.1.congr (fun k hk => by rw [gS_b hk (by decide), gS_aq1 hk (by decide)])) hwt.1.1 (by omega)
    have es : gb_sub (nI (l.length + 1)) (nI 1) = nI l.length := by
      show nI _ - nI 1 = _
      rw [pk_sub (by omega), Nat.add_sub_cancel]
    have em : gb_mul (nI 2746) (nI l.length) = nI (2746 * l.length) := pk_mul _ _
    have e13' : gU J 0 0 (nI 0) 0 13 = nI (l.length + 1) := by rw [gU_un (Or.inr (by decide)), e13, hlen]
    obtain ⟨J2, q0, q1, q2, q3⟩ := m_copy (N := N) (n1 := 16476) (n2 := 2746) (a := 6) (b := 3) (p := 2746 * l.length) (q := 0) (J := gU (gU J 0 0 (nI 0)) 0 13 (nI l.length)) (K := fun I2 => some (.inl (some (.int (I2 0 13))), I2)) (by decide) (by omega) (by decide) (by decide) (by decide) hN
    have e01 : J2 0 13 = nI l.length := by rw [q3 0 (by decide), gU_us]
    have eC : gMg (rg 61 122 ++ rg 1 20) I C 61 1 = nI l.length := by
      have : gMg (rg 61 122 ++ rg 1 20) I C (61 + 0) = C 0 := gM_aq1 (by decide)
      rw [Nat.add_zero] at this
      rw [this]; exact c1.2.1
    rw [if_pos ((zne (by omega)).mpr h0), if_neg (fun z => h0 ((zle (by omega)).mp z)), eX9_undo_18, m_f1, i_e0, c0, hV_mk, l0, l1, l2746, e13', es, em, q0, e01, eC]
    have hrow : RowIs (J 6 ∘ (fun k => 2746 * l.length + k)) τ := hm.2.1.2 l.length τ (by show (l ++ [τ])[l.length]? = some τ; rw [List.getElem?_append_right (Nat.le_refl _), Nat.sub_self]; rfl)
    refine AG.ok rfl rfl (by rw [q3 0 (by decide), gU_un (Or.inr (by decide)), gU_us]) (a := (τ, l, sv, buf)) ⟨⟨c2.congr (fun k hk => ?_), c1.congr (fun k hk => ?_), ⟨?_, fun ρ hρ => (hc.2.2.1.2 ρ hρ).congr (fun k hk => ?_)⟩, ?_⟩, ⟨?_, ⟨e01, fun i ρ hρ => ?_⟩, ⟨?_, fun ρ hρ => ?_⟩, ?_⟩, hwt, fun ρ hρ => hw.2.1 ρ (List.mem_append_left _ hρ), hw.2.2.1, hw.2.2.2.1, by show l.length ≤ 6; omega, hw.2.2.2.2.2⟩
    · rw [gS_b hk (by decide), gS_b hk (by decide), gM_aq2 hk (Or.inr (by decide))]
    · rw [gS_b hk (by decide), gM_aq1 hk]
    · rw [gM_aqo (by omega) (by omega)]; exact hc.2.2.1.1
    · rw [gS_b hk (by decide), gS_b hk (by decide), gM_aqo (by omega) (by omega)]
    · rw [BFc, gM_aqo (by omega) (by omega), gM_aqo (by omega) (by omega)]; exact hc.2.2.2
    · refine hrow.congr (wfP hwt.1.1).1 (fun k hk => ?_)
      have := q1 k hk
      rw [Nat.zero_add] at this
      rw [this, gU_ok (by decide), gU_ok (by decide)]; rfl
    · have hi := (List.getElem?_eq_some_iff.mp hρ).1
      have := hm.2.1.2 i ρ (by show (l ++ [τ])[i]? = some ρ; rw [List.getElem?_append_left hi]; exact hρ)
      rw [q3 6 (by decide), gU_ok (by decide), gU_ok (by decide)]; exact this
    · rw [q3 0 (by decide), gU_un (Or.inr (by decide)), gU_un (Or.inr (by decide))]; exact hm.2.2.1.1
    · rw [q3 5 (by decide), gU_ok (by decide), gU_ok (by decide)]; exact hm.2.2.1.2 ρ hρ
    · rw [BFm, q3 0 (by decide), q3 1 (by decide), gU_un (Or.inr (by decide)), gU_un (Or.inr (by decide)), gU_ok (by decide), gU_ok (by decide)]; exact hm.2.2.2
theorem j_save {N : Nat} {I J : gM} {a : AB} (h : IN I J a) (hN : 20000 ≤ N) : AG [] (fX8_save N [.ref 0] I) (fX9_save N [.ref 0] J) := by
  obtain ⟨hc, hm, hw⟩ := h
  have hm' := hm.thr (x := nI 0)
  have l0 : (0 : Int32) = nI 0 := rfl
  have l7 : (7 : Int32) = nI 7 := rfl
  obtain ⟨C, c0, c1, c2⟩ := l_copy (N := N) (d := 21) (s := 1) (σ := a.1) (K := fun I1 => some (.inl (some (.int (I1 1 2))), gU I1 0 7 1)) hc.1 hw.1.1.1 (Or.inr (by decide)) (by omega)
  obtain ⟨J2, q0, q1, q2, q3⟩ := m_copy (N := N) (n1 := 2746) (n2 := 2746) (a := 3) (b := 5) (p := 0) (q := 0) (J := gU J 0 0 (nI 0)) (K := fun I1 => ck 2746 (nI 7) <| some (.inl (some (.int (I1 3 (nI 7).toNatClampNeg))), gU I1 0 16 1)) (by decide) (by decide) (by decide) (by decide) (by decide) hN
  have n7 : (nI 7).toNatClampNeg = 7 := nI_clamp (by decide)
  have e7 : J2 3 7 = nI (a.1.1 7) := by rw [q3 3 (by decide), gU_ok (by decide)]; exact hm.1.1 7 (by decide)
  have e2 : C 1 2 = nI (a.1.1 7) := by rw [c2 1 (by omega)]; exact hc.sl.1
  rw [eX8_save, eX8_save_0, c0, eX9_save, eX9_save_0, l0, l7, q0, ckI (by decide) (by decide), n7, e7, e2]
  obtain ⟨σ, past, sv, buf⟩ := a
  refine AG.ok rfl rfl (by rw [gU_un (Or.inr (by decide)), q3 0 (by decide), gU_us]) (a := (σ, past, some σ, buf)) ⟨⟨hc.1.congr (fun k hk => ?_), hc.2.1.congr (fun k hk => ?_), ⟨by rw [gU_us]; rfl, fun ρ hρ => ?_⟩, ?_⟩, ⟨?_, ⟨?_, fun i ρ hρ => ?_⟩, ⟨by rw [gU_us]; rfl, fun ρ hρ => ?_⟩, ?_⟩, hw.1, hw.2.1, (fun ρ hρ => by cases hρ; exact hw.1), hw.2.2.2⟩
  · rw [gS_b hk (by decide), gS_b hk (by decide), gU_ok (by omega), c2 _ (by omega)]
  · rw [gS_b hk (by decide), gS_b hk (by decide), gU_ok (by omega), c2 _ (by omega)]
  · cases hρ
    exact c1.congr (fun k hk => by rw [gS_b hk (by decide), gS_b hk (by decide), gU_ok (by omega)])
  · rw [BFc, gU_ok (by decide), gU_ok (by decide), c2 _ (by omega), c2 _ (by omega)]; exact hc.2.2.2
  · rw [gU_ok (by decide), q3 3 (by decide), gU_ok (by decide)]; exact hm.1
  · rw [gU_un (Or.inr (by decide)), q3 0 (by decide), gU_un (Or.inr (by decide))]; exact hm.2.1.1
  · rw [gU_ok (by decide), q3 6 (by decide), gU_ok (by decide)]; exact hm.2.1.2 i ρ hρ
  · cases hρ
    refine hm.1.congr (wfP hw.1.1.1).1 (fun k hk => ?_)
    have := q1 k hk
    rw [Nat.zero_add] at this
    rw [gU_ok (by decide), this, gU_ok (by decide)]
  · rw [BFm, gU_un (Or.inr (by decide)), gU_ok (by decide), q3 0 (by decide), q3 1 (by decide), gU_un (Or.inr (by decide)), gU_ok (by decide)]; exact hm.2.2.2
theorem j_restore {N : Nat} {I J : gM} {a : AB} (h : IN I J a) (hN : 20000 ≤ N) : AG [eIS] (fX8_restore N [.ref 0] I) (fX9_restore N [.ref 0] J) := by
  obtain ⟨hc, hm, hw⟩ := h
  have hm' := hm.thr (x := nI 0)
  have l0 : (0 : Int32) = nI 0 := rfl
  have l7 : (7 : Int32) = nI 7 := rfl
  obtain ⟨σ, past, sv, buf⟩ := a
  have e16 : gU J 0 0 (nI 0) 0 16 = J 0 16 := gU_un (Or.inr (by decide))
  rw [eX8_restore, eX8_restore_0, hc.2.2.1.1, eX9_restore, eX9_restore_0, hm.2.2.1.1, l0]
  cases sv with
  | none =>
    rw [show b2 (Option.isSome (none : Option St)) = b2 false from rfl, if_neg (by decide), m_ff, i_e1]
    exact AG.ex 0 rfl rfl rfl gU_us ⟨hc, hm'.thr, hw⟩
  | some τ =>
    have hwt : Wt τ := hw.2.2.1 τ rfl
    obtain ⟨C, c0, c1, c2⟩ := l_copy (N := N) (d := 1) (s := 21) (σ := τ) (I := I) (K := fun I1 => some (.inl (some (.int (I1 1 2))), gU I1 61 1 (nI 0))) (hc.2.2.1.2 τ rfl) hwt.1.1 (Or.inl (by decide)) (by omega)
    have e40 : rg 1 40 = rg 1 20 ++ rg 21 20 := rfl
    obtain ⟨J2, q0, q1, q2, q3⟩ := m_copy (N := N) (n1 := 2746) (n2 := 2746) (a := 5) (b := 3) (p := 0) (q := 0) (J := gU J 0 0 (nI 0)) (K := fun I1 => ck 2746 (nI 7) <| some (.inl (some (.int (I1 3 (nI 7).toNatClampNeg))), gU I1 0 13 (nI 0))) (by decide) (by decide) (by decide) (by decide) (by decide) hN
    have n7 : (nI 7).toNatClampNeg = 7 := nI_clamp (by decide)
    have hrow : RowIs (J2 3) τ := (hm.2.2.1.2 τ rfl).congr (wfP hwt.1.1).1 (fun k hk => by
      have := q1 k hk
      rw [Nat.zero_add] at this
      rw [this, gU_ok (by decide)])
    have e2 : C 1 2 = nI (τ.1 7) := by
      have := c1.2.1.1
      rw [gS_b (by decide) (by decide)] at this; exact this
    rw [show b2 (Option.isSome (some τ)) = b2 true from rfl, if_pos (by decide), m_ft, i_e0, e40, c0, l7, q0, ckI (by decide) (by decide), n7, hrow.1 7 (by decide), e2]
    refine AG.ok rfl rfl (by rw [gU_un (Or.inr (by decide)), q3 0 (by decide), gU_us]) (a := (τ, [], some τ, buf)) ⟨⟨c1.congr (fun k hk => ?_), ⟨Nat.zero_le 6, ?_, ?_⟩, ⟨?_, fun ρ hρ => ?_⟩, ?_⟩, ⟨?_, ⟨by rw [gU_us]; rfl, (fun i ρ hρ => by cases hρ)⟩, ⟨?_, fun ρ hρ => ?_⟩, ?_⟩, hwt, (fun ρ hρ => by cases hρ), hw.2.2.1, hw.2.2.2.1, Nat.zero_le 6, hw.2.2.2.2.2⟩
    · rw [gS_b hk (by decide), gS_b hk (by decide), gU_ok (by omega)]
    · rw [gS_b (by decide) (by decide)]
      show gU C 61 1 (nI 0) 61 1 = _
      rw [gU_us]; rfl
    · obtain ⟨-, -, π, p1, p2, -⟩ := hc.2.1
      refine ⟨π, fun i hi => ?_, p2, fun i ρ hρ => by cases hρ⟩
      have := p1 i hi
      rw [gS_b (by decide) (by decide)] at this ⊢
      rw [gU_ok (by decide), c2 _ (by omega)]; exact this
    · rw [gU_ok (by decide), c2 0 (by omega)]; exact hc.2.2.1.1
    · refine (hc.2.2.1.2 ρ hρ).congr (fun k hk => ?_)
      rw [gS_b hk (by decide), gS_b hk (by decide), gU_ok (by omega), c2 _ (by omega)]
    · rw [BFc, gU_ok (by decide), gU_ok (by decide), c2 _ (by omega), c2 _ (by omega)]; exact hc.2.2.2
    · rw [gU_ok (by decide)]; exact hrow
    · rw [gU_un (Or.inr (by decide)), q3 0 (by decide), gU_un (Or.inr (by decide))]; exact hm.2.2.1.1
    · rw [gU_ok (by decide), q3 5 (by decide), gU_ok (by decide)]; exact hm.2.2.1.2 ρ hρ
    · rw [BFm, gU_un (Or.inr (by decide)), gU_ok (by decide), q3 0 (by decide), q3 1 (by decide), gU_un (Or.inr (by decide)), gU_ok (by decide)]; exact hm.2.2.2
