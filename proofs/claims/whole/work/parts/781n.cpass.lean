/-! ===== the class: a packet is delivered, or passed on ===== -/
theorem CT.num {I : gM} {r : Nat → Nat} {qs : Nat → List Pk} {tr : List (Nat × Pk)} {P f w x : Nat} (h : CT I r qs tr P) (h14 : r 1 ≤ 14) (h6 : r 2 ≤ 6) (hf : f < r 2) (hw : w < 11) : CT (gU I 8 (f * 11 + w) (nI x)) (up1 r (65 + 11 * f + w) x) qs tr P :=
  ⟨h.1.num h14 h6 hf hw, (h.2.1.mem (gU_ok (by decide)) (gU_ok (by decide))).up (by omega), h.2.2.congr (fun k h1 _ _ => gU_ok (by omega))⟩
theorem sT_add {N : Nat} {I : gM} {r : Nat → Nat} {f w x : Nat} {K : gM → gO} (hn : CN I r) (h6 : r 2 ≤ 6) (hf : f < r 2) (hw : w < 11) : hV (fX2_addNumber N [.ref 0, .int (nI f), .int (nI w), .int (nI x)] (gS (rg 1 9) I)) (rg 1 9) I K = K (gU I 8 (f * 11 + w) (nI (flp r f w + x))) := by
  rw [sN_add (by omega) hw, hn.2.2.2.1 f w hf hw, nI_add]
theorem CT.qlift {I J : gM} {r : Nat → Nat} {qs qs' : Nat → List Pk} {tr tr' : List (Nat × Pk)} {P P' : Nat} (h : CT I r qs tr P) (hq : CQq J qs' tr' P') (h4 : J 4 = gS (rg 10 10) I 4) : CT (gMg (rg 10 10) I J) r qs' tr' P' := by
  refine ⟨h.1.congr (fun k _ h2 => gM10o (by omega)), h.2.1.mem (gM10o (by decide)) ?_, ?_⟩
  · rw [show (14 : Nat) = 10 + 4 from rfl, gM10 (by decide), h4, gS10 (by decide)]
  · refine CQq.toCQ (hq.congr (fun j _ _ => ?_) (fun k _ hk _ => ?_))
    · rw [gS10 (by decide), gM10 (by decide)]
    · rw [gS10 hk, gM10 hk]
theorem CT.tr {I : gM} {r : Nat → Nat} {qs : Nat → List Pk} {tr : List (Nat × Pk)} {P i : Nat} {p : Pk} (h : CT I r qs tr P) (hx : (i, p) ∈ tr) : i < 500 ∧ I 16 i = nI p.1 ∧ I 17 i = nI p.2.1 ∧ I 18 i = nI p.2.2.1 ∧ I 19 i = nI p.2.2.2.1 := by
  obtain ⟨h1, h2⟩ := h.2.2.toq.tr_lt (i, p) hx
  rw [dq_10] at h2
  have h3 : (I 16 i, I 17 i, I 18 i, I 19 i) = (nI p.1, nI p.2.1, nI p.2.2.1, nI p.2.2.2.1) := h2
  have h4 := Prod.mk.inj h3
  have h5 := Prod.mk.inj h4.2
  have h6 := Prod.mk.inj h5.2
  exact ⟨h1, h4.1, h5.1, h6.1, h6.2⟩
def delN (r : Nat → Nat) (f d : Nat) : Nat → Nat := up1 (up1 (up1 r (65 + 11 * f + 6) (flp r f 6 + 1)) (65 + 11 * f + 9) (flp r f 9 + d)) (65 + 11 * f + 10) (max d (flp r f 10))
theorem pX6_deliver {N : Nat} {I : gM} {r : Nat → Nat} {qs : Nat → List Pk} {a b : List (Nat × Pk)} {P i : Nat} {p : Pk} (h : CT I r qs (a ++ (i, p) :: b) P) (h14 : r 1 ≤ 14) (h6 : r 2 ≤ 6) (hf : p.1 < r 2) (hs : p.2.1 ≤ r 7) (h7 : r 7 ≤ 10100) (hg : flp r p.1 10 ≤ 10101) (hP : 0 < P) :
    ∃ J, fX6_deliver N [.ref 0, .int (nI i)] I = some (.inl none, J) ∧ CT J (delN r p.1 (r 7 + 1 - p.2.1)) qs (a ++ b) (P - 1) := by
  obtain ⟨hi, d16, d17, -, -⟩ := h.tr (List.mem_append_right _ List.mem_cons_self)
  have l1 : (1 : Int32) = nI 1 := rfl
  have l6 : (6 : Int32) = nI 6 := rfl
  have l9 : (9 : Int32) = nI 9 := rfl
  have l10 : (10 : Int32) = nI 10 := rfl
  have hd : gb_sub (gb_add (nI (r 7)) (nI 1)) (nI p.2.1) = nI (r 7 + 1 - p.2.1) := by
    show nI (r 7) + nI 1 - nI p.2.1 = _
    rw [nI_add, pk_sub (by omega)]
  rw [eX6_deliver, eX6_deliver_0, ckI hi (by decide), ckI hi (by decide), nI_clamp (by omega), d16, d17, h.2.1.1, l1, l6, l9, l10, hd, sT_add h.1 h6 hf (by decide)]
  have t1 := h.num (x := flp r p.1 6 + 1) h14 h6 hf (show 6 < 11 by decide)
  have n1 : ∀ k, k ≠ 65 + 11 * p.1 + 6 → up1 r (65 + 11 * p.1 + 6) (flp r p.1 6 + 1) k = r k := fun k hk => up1_n hk
  have e9 : flp (up1 r (65 + 11 * p.1 + 6) (flp r p.1 6 + 1)) p.1 9 = flp r p.1 9 := n1 _ (by omega)
  rw [sT_add t1.1 (by rw [n1 2 (by omega)]; exact h6) (by rw [n1 2 (by omega)]; exact hf) (by decide), e9]
  have t2 := t1.num (x := flp r p.1 9 + (r 7 + 1 - p.2.1)) (by rw [n1 1 (by omega)]; exact h14) (by rw [n1 2 (by omega)]; exact h6) (f := p.1) (by rw [n1 2 (by omega)]; exact hf) (show 9 < 11 by decide)
  generalize hr2 : up1 (up1 r (65 + 11 * p.1 + 6) (flp r p.1 6 + 1)) (65 + 11 * p.1 + 9) (flp r p.1 9 + (r 7 + 1 - p.2.1)) = r2 at t2
  have n2 : ∀ k, k ≠ 65 + 11 * p.1 + 6 → k ≠ 65 + 11 * p.1 + 9 → r2 k = r k := fun k h1 h2 => by rw [← hr2, up1_n h2, up1_n h1]
  have e10 : flp r2 p.1 10 = flp r p.1 10 := n2 _ (by omega) (by omega)
  generalize gU (gU I 8 (p.1 * 11 + 6) (nI (flp r p.1 6 + 1))) 8 (p.1 * 11 + 9) (nI (flp r p.1 9 + (r 7 + 1 - p.2.1))) = I2 at t2 ⊢
  rw [sN_get t2.1 (by rw [n2 2 (by omega) (by omega)]; exact h6) (by rw [n2 2 (by omega) (by omega)]; exact hf) (by decide), eX6_deliver_63, e10, jmax (by omega) (by omega), sN_put (by omega) (by decide)]
  have t3 := t2.num (x := max (r 7 + 1 - p.2.1) (flp r p.1 10)) (by rw [n2 1 (by omega) (by omega)]; exact h14) (by rw [n2 2 (by omega) (by omega)]; exact h6) (f := p.1) (by rw [n2 2 (by omega) (by omega)]; exact hf) (show 10 < 11 by decide)
  obtain ⟨J, j0, j1, j2, j3⟩ := CQq.release (N := N) t3.2.2.toq hP
  rw [j0, hV_mk]
  refine ⟨_, rfl, ?_⟩
  have := t3.qlift j1 (j3 4 (by decide) (by decide))
  rw [← hr2] at this
  exact this
theorem CT.data {I J : gM} {r : Nat → Nat} {qs : Nat → List Pk} {a b : List (Nat × Pk)} {P i : Nat} {p p' : Pk} (h : CT I r qs (a ++ (i, p) :: b) P) (hk : ∀ k, k < 16 → J k = I k) (ho : ∀ j, j ≠ i → dt J j = dt I j) (hi : dt J i = pd p') : CT J r qs (a ++ (i, p') :: b) P := by
  refine ⟨h.1.congr (fun k _ h2 => hk k (by omega)), h.2.1.mem (hk 0 (by decide)) (hk 14 (by decide)), CQq.toCQ (h.2.2.toq.data (fun k h1 => ?_) (fun j hj => ?_) ?_)⟩
  · rw [gS10 (by omega), gS10 (by omega), hk _ (by omega)]
  · rw [dq_10, dq_10]; exact ho j hj
  · rw [dq_10]; exact hi
def passN (r : Nat → Nat) (f l : Nat) : Nat → Nat := up1 r (65 + 11 * f + 8) (flp r f 8 + l)
def passP (p : Pk) (a : Nat) : Pk := (p.1, p.2.1, p.2.2.1 + 1, p.2.2.2.1 ||| 2 ^ a, a)
theorem pd_passP (p : Pk) (a : Nat) : pd (passP p a) = (nI p.1, nI p.2.1, nI (p.2.2.1 + 1), nI (p.2.2.2.1 ||| 2 ^ a)) := rfl
theorem pX6_pass {N : Nat} {I : gM} {r : Nat → Nat} {qs : Nat → List Pk} {a b : List (Nat × Pk)} {P i q x : Nat} {p : Pk} (h : CT I r qs (a ++ (i, p) :: b) P) (h14 : r 1 ≤ 14) (h6 : r 2 ≤ 6) (hf : p.1 < r 2) (hb : p.2.2.2.1 < 1024) (hq : q < 100) (hx : x < 10) :
    ∃ J, fX6_pass N [.ref 0, .int (nI i), .int (nI q), .int (nI x)] I = some (.inl none, J) ∧ CT J (passN r p.1 (bt p.2.2.2.1 x)) (upq qs q (qs q ++ [passP p x])) (a ++ b) P := by
  obtain ⟨hi, d16, d17, d18, d19⟩ := h.tr (List.mem_append_right _ List.mem_cons_self)
  have l1 : (1 : Int32) = nI 1 := rfl
  have l8 : (8 : Int32) = nI 8 := rfl
  -- the end, from a memory where the carriers are counted
  have fin : ∀ (K : gM) (s : Nat → Nat), CT K s qs (a ++ (i, (p.1, p.2.1, p.2.2.1 + 1, p.2.2.2.1, pkn p)) :: b) P → ∃ J, hX6_pass_49 N (nI i) (nI q) (nI x) K = some (.inl none, J) ∧ CT J s (upq qs q (qs q ++ [passP p x])) (a ++ b) P := by
    intro K s hK
    obtain ⟨-, k16, k17, k18, k19⟩ := hK.tr (List.mem_append_right _ List.mem_cons_self)
    rw [eX6_pass_49, ckI hi (by decide), ckI hi (by decide), nI_clamp (by omega), k19, l1, shl1 (by omega)]
    have eo : gb_or (nI p.2.2.2.1) (nI (2 ^ x)) = nI (p.2.2.2.1 ||| 2 ^ x) := nI_or _ _
    show ∃ J, hV (fX4_putLast N [.ref 0, .int (nI q), .int (nI i)] (gS (rg 10 10) (gU K 19 i (gb_or (nI p.2.2.2.1) (nI (2 ^ x)))))) (rg 10 10) (gU K 19 i (gb_or (nI p.2.2.2.1) (nI (2 ^ x)))) _ = _ ∧ _
    rw [eo]
    have hd : CT (gU K 19 i (nI (p.2.2.2.1 ||| 2 ^ x))) s qs (a ++ (i, passP p x) :: b) P := by
      refine hK.data (fun k hk => gU_ok (by omega)) (fun j hj => ?_) ?_
      · unfold dt
        rw [gU_ok (by decide), gU_ok (by decide), gU_ok (by decide), gU_un (Or.inr hj)]
      · unfold dt
        rw [gU_ok (by decide), gU_ok (by decide), gU_ok (by decide), gU_us, k16, k17, k18]
        rfl
    obtain ⟨J, j0, j1, j2⟩ := CQq.put (N := N) hd.2.2.toq hq
    rw [j0, hV_mk]
    exact ⟨_, rfl, hd.qlift j1 (j2 4 (by decide) (by decide) (by decide) (by decide))⟩
  have h1 : CT (gU I 18 i (nI (p.2.2.1 + 1))) r qs (a ++ (i, (p.1, p.2.1, p.2.2.1 + 1, p.2.2.2.1, pkn p)) :: b) P := by
    refine h.data (fun k hk => gU_ok (by omega)) (fun j hj => ?_) ?_
    · unfold dt
      rw [gU_ok (by decide), gU_ok (by decide), gU_un (Or.inr hj), gU_ok (by decide)]
    · unfold dt
      rw [gU_ok (by decide), gU_ok (by decide), gU_us, gU_ok (by decide), d16, d17, d19]
      rfl
  have e1 : gb_and (gb_shr (nI p.2.2.2.1) (nI x)) (nI 1) = nI (bt p.2.2.2.1 x) := btI (by omega) (by omega)
  have e2 : gb_add (nI p.2.2.1) (nI 1) = nI (p.2.2.1 + 1) := nI_add _ _
  rw [eX6_pass, eX6_pass_0, ckI hi (by decide), ckI hi (by decide), ckI hi (by decide), nI_clamp (by omega), d16, d18, d19, l1, l8, e1, e2]
  have hbt := bt_lt p.2.2.2.1 x
  by_cases hb1 : bt p.2.2.2.1 x = 1
  · rw [hb1, if_neg (by rw [cne (by decide) (by decide)]; exact fun z => z rfl), ckI hi (by decide), sT_add h1.1 h6 hf (by decide)]
    exact fin _ _ (h1.num h14 h6 hf (by decide))
  · have hb0 : bt p.2.2.2.1 x = 0 := by omega
    rw [hb0, if_pos (by rw [cne (by decide) (by decide)]; decide)]
    have hp : passN r p.1 0 = r := by
      funext k
      show up1 r _ _ k = r k
      by_cases e : k = 65 + 11 * p.1 + 8
      · rw [e, up1_s]; rfl
      · rw [up1_n e]
    rw [hp]
    exact fin _ _ h1
