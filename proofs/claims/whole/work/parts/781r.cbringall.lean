def brS (S : Nat) (bb cm : Nat → Nat) (tp : Nat → List Pk) (ta : Nat → Nat) (r : Nat → Nat) (qs : Nat → List Pk) (P : Nat) : Nat → (Nat → Nat) × (Nat → List Pk) × Nat
  | 0 => (r, qs, P)
  | k + 1 => if S.testBit k = true then (if bb k = cm k then (delF (brS S bb cm tp ta r qs P k).1 (tp k), (brS S bb cm tp ta r qs P k).2.1, (brS S bb cm tp ta r qs P k).2.2 - (tp k).length) else (up1 (passF (brS S bb cm tp ta r qs P k).1 (bb k) (tp k)) (145 + (bb k * 10 + cm k)) ((brS S bb cm tp ta r qs P k).1 (145 + (bb k * 10 + cm k)) + ta k), upq (brS S bb cm tp ta r qs P k).2.1 (bb k * 10 + cm k) ((brS S bb cm tp ta r qs P k).2.1 (bb k * 10 + cm k) ++ (tp k).map (fun p => passP p (bb k))), (brS S bb cm tp ta r qs P k).2.2)) else brS S bb cm tp ta r qs P k
theorem brS_n {S : Nat} {bb cm : Nat → Nat} {tp : Nat → List Pk} {ta : Nat → Nat} {r : Nat → Nat} {qs : Nat → List Pk} {P : Nat} : ∀ k, (∀ j, j < k → S.testBit j = true → ∀ p ∈ tp j, p.1 < 6) → ∀ x, (x < 65 ∨ (131 ≤ x ∧ x < 145)) → (brS S bb cm tp ta r qs P k).1 x = r x
  | 0, _, _, _ => rfl
  | k + 1, h, x, hx => by
    have ih := brS_n (S := S) (bb := bb) (cm := cm) (tp := tp) (ta := ta) (r := r) (qs := qs) (P := P) k (fun j hj => h j (by omega)) x hx
    unfold brS
    by_cases hS : S.testBit k = true
    · have hp := h k (by omega) hS
      rw [if_pos hS]
      by_cases hb : bb k = cm k
      · rw [if_pos hb]
        show delF _ (tp k) x = _
        rw [delF_n _ _ x hp (by omega), ih]
      · rw [if_neg hb]
        show up1 (passF _ (bb k) (tp k)) _ _ x = _
        rw [up1_n (by omega), passF_n _ _ _ x hp (fun f _ => by omega), ih]
    · rw [if_neg hS, ih]
theorem passF_10 {r : Nat → Nat} {a : Nat} {ps : List Pk} (h : ∀ p ∈ ps, p.1 < 6) {f : Nat} (hf : f < 6) : flp (passF r a ps) f 10 = flp r f 10 := passF_n ps a r _ h (fun g hg => by omega)
theorem brS_10 {S : Nat} {bb cm : Nat → Nat} {tp : Nat → List Pk} {ta : Nat → Nat} {r : Nat → Nat} {qs : Nat → List Pk} {P : Nat} (h7 : r 7 ≤ 10100) (hg : ∀ f, f < 6 → flp r f 10 ≤ 10101) : ∀ k, (∀ j, j < k → S.testBit j = true → ∀ p ∈ tp j, p.1 < 6) → ∀ f, f < 6 → flp (brS S bb cm tp ta r qs P k).1 f 10 ≤ 10101
  | 0, _, f, hf => hg f hf
  | k + 1, h, f, hf => by
    have ih := brS_10 (S := S) (bb := bb) (cm := cm) (tp := tp) (ta := ta) (r := r) (qs := qs) (P := P) h7 hg k (fun j hj => h j (by omega))
    have i7 := brS_n (S := S) (bb := bb) (cm := cm) (tp := tp) (ta := ta) (r := r) (qs := qs) (P := P) k (fun j hj => h j (by omega)) 7 (Or.inl (by decide))
    unfold brS
    by_cases hS : S.testBit k = true
    · have hp := h k (by omega) hS
      rw [if_pos hS]
      by_cases hb : bb k = cm k
      · rw [if_pos hb]
        exact delF_10 _ _ hp (by rw [i7]; exact h7) ih f hf
      · rw [if_neg hb]
        show up1 (passF _ (bb k) (tp k)) _ _ (65 + 11 * f + 10) ≤ _
        rw [up1_n (by omega)]
        have := passF_10 (r := (brS S bb cm tp ta r qs P k).1) (a := bb k) hp hf
        rw [show passF (brS S bb cm tp ta r qs P k).1 (bb k) (tp k) (65 + 11 * f + 10) = flp (passF (brS S bb cm tp ta r qs P k).1 (bb k) (tp k)) f 10 from rfl, this]
        exact ih f hf
    · rw [if_neg hS]; exact ih f hf
theorem transmit_bring {N : Nat} {I : gM} {r bb cm : Nat → Nat} {qs : Nat → List Pk} {tp : Nat → List Pk} {ta : Nat → Nat} {ids : Nat → List Nat} {P S : Nat} (h : CT (gS (rg 7 20) I) r qs (trs S ids tp 0 (r 1)) P) (hT : TK S ids tp ta I (r 1)) (h14 : r 1 ≤ 14) (h6 : r 2 ≤ 6) (h7 : r 7 ≤ 10100) (hS : S < 2 ^ 14)
    (hg : ∀ f, f < 6 → flp r f 10 ≤ 10101) (hl : ∀ k, k < r 1 → lkp r k 1 = bb k ∧ bb k < 10) (hc : ∀ k, k < r 1 → S.testBit k = true → cm k < 10 ∧ I 2 k = nI (cm k)) (hp : ∀ k, k < r 1 → S.testBit k = true → (tp k).length ≤ 5 ∧ ∀ p ∈ tp k, p.1 < r 2 ∧ p.2.1 ≤ r 7 ∧ p.2.2.2.1 < 1024) (hN : 1000 ≤ N) :
    ∃ J, hX6_transmit_36 N N (nI S) 0 I = some (.inl none, J) ∧ CT (gS (rg 7 20) J) (brS S bb cm tp ta r qs P (r 1)).1 (brS S bb cm tp ta r qs P (r 1)).2.1 [] (brS S bb cm tp ta r qs P (r 1)).2.2 ∧ ∀ j, j < 7 → J j = I j := by
  have l0 : (0 : Int32) = nI 0 := rfl
  have l1 : (1 : Int32) = nI 1 := rfl
  have hp6 : ∀ i, i ≤ r 1 → ∀ j, j < i → S.testBit j = true → ∀ p ∈ tp j, p.1 < 6 := fun i hi j hj hb p hpm => by
    have := ((hp j (by omega) hb).2 p hpm).1
    omega
  have key : ∀ m i : Nat, i ≤ r 1 → r 1 - i < m → ∀ K : gM, CT (gS (rg 7 20) K) (brS S bb cm tp ta r qs P i).1 (brS S bb cm tp ta r qs P i).2.1 (trs S ids tp i (r 1 - i)) (brS S bb cm tp ta r qs P i).2.2 → (∀ j, j < 7 → K j = I j) →
      ∃ J, hX6_transmit_36 N m (nI S) (nI i) K = some (.inl none, J) ∧ CT (gS (rg 7 20) J) (brS S bb cm tp ta r qs P (r 1)).1 (brS S bb cm tp ta r qs P (r 1)).2.1 [] (brS S bb cm tp ta r qs P (r 1)).2.2 ∧ ∀ j, j < 7 → J j = I j := by
    intro m
    induction m with
    | zero => intro i _ h; omega
    | succ m ih =>
      intro i hi hm K hK hlo
      have n0 := brS_n (S := S) (bb := bb) (cm := cm) (tp := tp) (ta := ta) (r := r) (qs := qs) (P := P) i (hp6 i hi)
      have g0 := brS_10 (S := S) (bb := bb) (cm := cm) (tp := tp) (ta := ta) (r := r) (qs := qs) (P := P) h7 hg i (hp6 i hi)
      have hlinks : K 8 1 = nI (r 1) := by
        have := hK.1.1.2.1
        rw [gS7 (by decide), n0 1 (Or.inl (by decide))] at this
        exact this
      rw [eX6_transmit_36, hlinks, l1]
      by_cases hin : i = r 1
      · subst hin
        rw [if_pos ((cge (by omega) (by omega)).mpr (Nat.le_refl _))]
        rw [Nat.sub_self] at hK
        exact ⟨K, rfl, hK, hlo⟩
      · have hir : i < r 1 := by omega
        have ebt : gb_and (gb_shr (nI S) (nI i)) (nI 1) = nI (bt S i) := btI (by omega) (by omega)
        have hbl := bt_lt S i
        have htr : trs S ids tp i (r 1 - i) = (if S.testBit i = true then (ids i).zip (tp i) else []) ++ trs S ids tp (i + 1) (r 1 - (i + 1)) := by
          rw [show r 1 - i = (r 1 - (i + 1)) + 1 by omega]; rfl
        rw [if_neg (fun z => hin (by have := (cge (by omega) (by omega)).mp z; omega)), ebt]
        by_cases hb : S.testBit i = true
        · rw [(bt_one S i).mpr hb, if_neg (by rw [cne (by decide) (by decide)]; exact fun z => z rfl)]
          rw [htr, if_pos hb] at hK
          obtain ⟨t1, t2, t3, t4⟩ := hT i hir hb
          obtain ⟨c1, c2⟩ := hc i hir hb
          obtain ⟨p1, p2⟩ := hp i hir hb
          obtain ⟨b1, b2⟩ := hl i hir
          have eb : lkp (brS S bb cm tp ta r qs P i).1 i 1 = bb i := (n0 _ (Or.inl (by omega))).trans b1
          have e1 := n0 1 (Or.inl (by decide))
          have e2 := n0 2 (Or.inl (by decide))
          have e7 := n0 7 (Or.inl (by decide))
          by_cases hbc : bb i = cm i
          · obtain ⟨J, j0, j1, j2⟩ := pX6_bringDel (N := N) (I := gS (rg 0 27) K) (k := i) (ids := ids i) (ps := tp i) t1 p1 (hK.congr st27) (by rw [e1]; exact h14) (by rw [e2]; exact h6) (by rw [e1]; exact hir) (by rw [eb]; exact b2) (by rw [gS27 (by decide), hlo 2 (by decide), eb, hbc]; exact c2) (by rw [e7]; exact h7) g0 (fun p hpm => by rw [e2, e7]; exact ⟨(p2 p hpm).1, (p2 p hpm).2.1⟩) (fun z x hz => by rw [gS27 (by decide), hlo 4 (by decide)]; exact t2 z x hz) (by rw [gS27 (by decide), hlo 5 (by decide)]; exact t3) hN
            rw [j0, hV_mk, eX6_transmit_62, l1, nI_add]
            have es : brS S bb cm tp ta r qs P (i + 1) = (delF (brS S bb cm tp ta r qs P i).1 (tp i), (brS S bb cm tp ta r qs P i).2.1, (brS S bb cm tp ta r qs P i).2.2 - (tp i).length) := (if_pos hb).trans (if_pos hbc)
            refine ih (i + 1) (by omega) (by omega) _ ?_ (fun j hj => by rw [gM27 (by omega), j2 j hj, gS27 (by omega)]; exact hlo j hj)
            rw [es]
            exact CT.congr j1 st27m
          · obtain ⟨J, j0, j1, j2⟩ := pX6_bringPass (N := N) (I := gS (rg 0 27) K) (k := i) (c := cm i) (m0 := ta i) (ids := ids i) (ps := tp i) t1 p1 (hK.congr st27) (by rw [e1]; exact h14) (by rw [e2]; exact h6) (by rw [e1]; exact hir) (by rw [eb]; exact b2) c1 (by rw [eb]; exact hbc) (by rw [gS27 (by decide), hlo 2 (by decide)]; exact c2) (fun p hpm => by rw [e2]; exact ⟨(p2 p hpm).1, (p2 p hpm).2.2⟩) (fun z x hz => by rw [gS27 (by decide), hlo 4 (by decide)]; exact t2 z x hz) (by rw [gS27 (by decide), hlo 5 (by decide)]; exact t3) (by rw [gS27 (by decide), hlo 6 (by decide)]; exact t4) hN
            rw [eb] at j1
            rw [j0, hV_mk, eX6_transmit_62, l1, nI_add]
            have es : brS S bb cm tp ta r qs P (i + 1) = (up1 (passF (brS S bb cm tp ta r qs P i).1 (bb i) (tp i)) (145 + (bb i * 10 + cm i)) ((brS S bb cm tp ta r qs P i).1 (145 + (bb i * 10 + cm i)) + ta i), upq (brS S bb cm tp ta r qs P i).2.1 (bb i * 10 + cm i) ((brS S bb cm tp ta r qs P i).2.1 (bb i * 10 + cm i) ++ (tp i).map (fun p => passP p (bb i))), (brS S bb cm tp ta r qs P i).2.2) := (if_pos hb).trans (if_neg hbc)
            refine ih (i + 1) (by omega) (by omega) _ ?_ (fun j hj => by rw [gM27 (by omega), j2 j hj, gS27 (by omega)]; exact hlo j hj)
            rw [es]
            exact CT.congr j1 st27m
        · have hb0 : bt S i = 0 := by
            have : ¬ bt S i = 1 := fun z => hb ((bt_one S i).mp z)
            omega
          rw [hb0, if_pos (by rw [cne (by decide) (by decide)]; decide), eX6_transmit_62, l1, nI_add]
          rw [htr, if_neg hb, List.nil_append] at hK
          have es : brS S bb cm tp ta r qs P (i + 1) = brS S bb cm tp ta r qs P i := if_neg hb
          refine ih (i + 1) (by omega) (by omega) K ?_ hlo
          rw [es]; exact hK
  exact key N 0 (Nat.zero_le _) (by omega) I h (fun _ _ => rfl)
