/-- a new packet comes into a queue, where there is room -/
theorem enter_end {N : Nat} {I : gM} {c : Nat → List Nat} {own : Nat → Nat} {u P i q : Nat} (v2 v3 v4 : Int32) (h : QI I c own u (P + 1)) (hi : i < u) (ho : own i = 101) (hq : q < 100) {K : gM} (hK : K 0 11 = nI P) (hI : I = gU (gU (gU (gU (gU K 6 i v2) 7 i v3) 8 i 0) 9 i (gb_shl 1 v4)) 0 11 (nI (P + 1))) :
    ∃ J, hX4_enter_72 N (nI q) v2 v3 v4 (nI i) K = some (.inl (some (.int 1)), J) ∧ QI J (upl c q (c q ++ [i])) (upn own i q) u (P + 1) ∧ J 0 = I 0 ∧ J 4 = I 4 ∧ J 6 = I 6 ∧ J 7 = I 7 ∧ J 8 = I 8 ∧ J 9 = I 9 ∧ ∀ k, 10 ≤ k → J k = I k := by
  have hu := h.1.2.1
  have e1 : gb_add (K 0 11) 1 = nI (P + 1) := by
    rw [hK]
    simp only [gb_add, fa_lit, nI_add]
  rw [eX4_enter_72, ckI (by omega) (by decide), ckI (by omega) (by decide), ckI (by omega) (by decide), ckI (by omega) (by decide), nI_clamp (by omega), e1, ← hI]
  have hS : QI (gS (rg 0 10) I) c own u (P + 1) := h.mem (fun j _ _ => by rw [gS_rg (by decide) (by decide)]) (by rw [gS_rg (by decide) (by decide)]) (by rw [gS_rg (by decide) (by decide)]) (by rw [gS_rg (by decide) (by decide)]) (by rw [gS_rg (by decide) (by decide)])
  obtain ⟨J, j0, jq, jk⟩ := pX4_putLast (N := N) hS hi ho hq
  rw [j0, hV_mk]
  have g : ∀ k, k < 10 → gMg (rg 0 10) I J k = J k := fun k hk => by
    have := gMg_rgi (b := 0) (n := 10) (I := I) (J := J) (j := k) hk
    rwa [Nat.zero_add] at this
  have s : ∀ k, k < 10 → gS (rg 0 10) I k = I k := fun k hk => by rw [gS_rg hk (by decide), Nat.zero_add]
  refine ⟨_, rfl, jq.mem (fun j _ _ => by rw [g 0 (by decide)]) (g 1 (by decide)) (g 2 (by decide)) (g 3 (by decide)) (g 5 (by decide)), ?_, ?_, ?_, ?_, ?_, ?_, fun k hk => gMg_rgo (Or.inr (by omega))⟩
  · rw [g 0 (by decide), jk 0 (by decide) (by decide) (by decide) (by decide), s 0 (by decide)]
  · rw [g 4 (by decide), jk 4 (by decide) (by decide) (by decide) (by decide), s 4 (by decide)]
  · rw [g 6 (by decide), jk 6 (by decide) (by decide) (by decide) (by decide), s 6 (by decide)]
  · rw [g 7 (by decide), jk 7 (by decide) (by decide) (by decide) (by decide), s 7 (by decide)]
  · rw [g 8 (by decide), jk 8 (by decide) (by decide) (by decide) (by decide), s 8 (by decide)]
  · rw [g 9 (by decide), jk 9 (by decide) (by decide) (by decide) (by decide), s 9 (by decide)]
theorem QI.none {I : gM} {c : Nat → List Nat} {own : Nat → Nat} {u P : Nat} (h : QI I c own u P) {i q : Nat} (hi : i < u) (ho : own i = 101) (hq : q ≤ 100) : ¬ i ∈ c q := fun hm => by
  have := ((h.2.2.2.1 q hq).2 i hm).2
  omega
theorem pX4_enter {N : Nat} {I : gM} {c : Nat → List Nat} {own : Nat → Nat} {u P q : Nat} (v2 v3 v4 : Int32) (h : QI I c own u P) (hP : P < 500) (hq : q < 100) :
    ∃ (J : gM) (i : Nat) (c1 : Nat → List Nat) (own1 : Nat → Nat) (u1 : Nat), fX4_enter N [.ref 0, .int (nI q), .int v2, .int v3, .int v4] I = some (.inl (some (.int 1)), J) ∧ QI J c1 own1 u1 (P + 1) ∧ c1 q = c q ++ [i] ∧ (∀ k, k < 100 → k ≠ q → c1 k = c k) ∧ (∀ k, k < 100 → ¬ i ∈ c k) ∧ (u ≤ u1 ∧ ∀ j, own j = 101 → j < u → own1 j = 101) ∧
      (J 6 i = v2 ∧ J 7 i = v3 ∧ J 8 i = 0 ∧ J 9 i = gb_shl 1 v4) ∧ (∀ j, j ≠ i → J 6 j = I 6 j ∧ J 7 j = I 7 j ∧ J 8 j = I 8 j ∧ J 9 j = I 9 j) ∧ J 4 = I 4 ∧ ∀ k, 10 ≤ k → J k = I k := by
  have hu := h.1.2.1
  have h0 := h
  obtain ⟨⟨a1, a2, a3, a4⟩, ⟨b1, b2⟩, hqs, hn, hown⟩ := h
  have lm : (-1 : Int32) = mI := rfl
  have l500 : (500 : Int32) = nI 500 := rfl
  have dat : ∀ (K : gM) (i : Nat), K 6 = I 6 → K 7 = I 7 → K 8 = I 8 → K 9 = I 9 → K 4 = I 4 → (∀ k, 10 ≤ k → K k = I k) → ∀ J : gM, J 0 = (gU (gU (gU (gU (gU K 6 i v2) 7 i v3) 8 i 0) 9 i (gb_shl 1 v4)) 0 11 (nI (P + 1))) 0 → J 4 = (gU (gU (gU (gU (gU K 6 i v2) 7 i v3) 8 i 0) 9 i (gb_shl 1 v4)) 0 11 (nI (P + 1))) 4 → J 6 = (gU (gU (gU (gU (gU K 6 i v2) 7 i v3) 8 i 0) 9 i (gb_shl 1 v4)) 0 11 (nI (P + 1))) 6 → J 7 = (gU (gU (gU (gU (gU K 6 i v2) 7 i v3) 8 i 0) 9 i (gb_shl 1 v4)) 0 11 (nI (P + 1))) 7 → J 8 = (gU (gU (gU (gU (gU K 6 i v2) 7 i v3) 8 i 0) 9 i (gb_shl 1 v4)) 0 11 (nI (P + 1))) 8 → J 9 = (gU (gU (gU (gU (gU K 6 i v2) 7 i v3) 8 i 0) 9 i (gb_shl 1 v4)) 0 11 (nI (P + 1))) 9 → (∀ k, 10 ≤ k → J k = (gU (gU (gU (gU (gU K 6 i v2) 7 i v3) 8 i 0) 9 i (gb_shl 1 v4)) 0 11 (nI (P + 1))) k) →
      (J 6 i = v2 ∧ J 7 i = v3 ∧ J 8 i = 0 ∧ J 9 i = gb_shl 1 v4) ∧ (∀ j, j ≠ i → J 6 j = I 6 j ∧ J 7 j = I 7 j ∧ J 8 j = I 8 j ∧ J 9 j = I 9 j) ∧ J 4 = I 4 ∧ ∀ k, 10 ≤ k → J k = I k := by
    intro K i k6 k7 k8 k9 k4 kk J j0 j4 j6 j7 j8 j9 jk
    rw [gU_ok (by decide), gU_ok (by decide), gU_ok (by decide), gU_ok (by decide), gU_u3, k6] at j6
    rw [gU_ok (by decide), gU_ok (by decide), gU_ok (by decide), gU_u3, gU_ok (by decide), k7] at j7
    rw [gU_ok (by decide), gU_ok (by decide), gU_u3, gU_ok (by decide), gU_ok (by decide), k8] at j8
    rw [gU_ok (by decide), gU_u3, gU_ok (by decide), gU_ok (by decide), gU_ok (by decide), k9] at j9
    rw [gU_ok (by decide), gU_ok (by decide), gU_ok (by decide), gU_ok (by decide), gU_ok (by decide), k4] at j4
    refine ⟨⟨by rw [j6, pk_us], by rw [j7, pk_us], by rw [j8, pk_us], by rw [j9, pk_us]⟩, fun j hj => ⟨by rw [j6, pk_un hj], by rw [j7, pk_un hj], by rw [j8, pk_un hj], by rw [j9, pk_un hj]⟩, j4, fun k hk => ?_⟩
    rw [jk k hk, gU_ok (by omega), gU_ok (by omega), gU_ok (by omega), gU_ok (by omega), gU_ok (by omega)]
    exact kk k hk
  rw [eX4_enter, eX4_enter_0, a3, l500, if_neg (by rw [cge (by omega) (by omega)]; omega), lm, b1]
  cases hc : c 100 with
  | nil =>
    rw [hc] at a4
    have a4' : P = u := a4
    have e30 : hX4_enter_30 N (nI q) v2 v3 v4 I = hX4_enter_72 N (nI q) v2 v3 v4 (nI u) (gU I 0 9 (nI (u + 1))) := by
      rw [eX4_enter_30, lm, b1, hc]
      show (if gc_eq mI mI = true then _ else _) = _
      rw [if_pos (by decide), a1]
      simp only [gb_add, fa_lit, nI_add]
    show ∃ (J : gM) (i : Nat) (c1 : Nat → List Nat) (own1 : Nat → Nat) (u1 : Nat), (if gc_ne mI mI = true then _ else _) = _ ∧ _
    rw [if_neg (by decide), a1, if_pos (by rw [clt (by omega) (by omega)]; omega), e30]
    have hnu : ∀ k, k ≤ 100 → ¬ u ∈ c k := fun k hk hm => by
      have := ((hn k hk).2 u hm).1
      omega
    have hI : QI (gU (gU (gU (gU (gU (gU I 0 9 (nI (u + 1))) 6 u v2) 7 u v3) 8 u 0) 9 u (gb_shl 1 v4)) 0 11 (nI (P + 1))) c (upn own u 101) (u + 1) (P + 1) := by
      refine ⟨⟨?_, by omega, gU_us, by rw [hc]; show P + 1 + 0 = u + 1; omega⟩, ⟨?_, ?_⟩, fun k hk => ?_, fun k hk => ⟨(hn k hk).1, fun j hj => ?_⟩, fun k hk hok => ?_⟩
      · rw [gU_un (Or.inr (by decide)), gU_ok (by decide), gU_ok (by decide), gU_ok (by decide), gU_ok (by decide), gU_us]
      · rw [gU_un (Or.inr (by decide)), gU_ok (by decide), gU_ok (by decide), gU_ok (by decide), gU_ok (by decide), gU_un (Or.inr (by decide))]; exact b1
      · rw [hc]; exact True.intro
      · rw [gU_ok (by decide), gU_ok (by decide), gU_ok (by decide), gU_ok (by decide), gU_ok (by decide), gU_ok (by decide), gU_ok (by decide), gU_ok (by decide), gU_ok (by decide), gU_ok (by decide), gU_ok (by decide), gU_ok (by decide), gU_ok (by decide), gU_ok (by decide), gU_ok (by decide), gU_ok (by decide), gU_ok (by decide), gU_ok (by decide), gU_ok (by decide), gU_ok (by decide), gU_ok (by decide), gU_ok (by decide), gU_ok (by decide), gU_ok (by decide)]
        exact hqs k hk
      · have := (hn k hk).2 j hj
        exact ⟨by omega, (upn_n (nmm (hnu k hk) hj)).trans this.2⟩
      · by_cases e : k = u
        · rw [e, upn_s] at hok; omega
        · rw [upn_n e] at hok ⊢
          exact hown k (by omega) hok
    obtain ⟨J, j0, jq, d0, d4, d6, d7, d8, d9, dk⟩ := enter_end (N := N) (i := u) (q := q) v2 v3 v4 hI (by omega) upn_s hq (K := gU I 0 9 (nI (u + 1))) (by rw [gU_un (Or.inr (by decide))]; exact a3) rfl
    have hd := dat (gU I 0 9 (nI (u + 1))) u (gU_ok (by decide)) (gU_ok (by decide)) (gU_ok (by decide)) (gU_ok (by decide)) (gU_ok (by decide)) (fun k hk => gU_ok (by omega)) J d0 d4 d6 d7 d8 d9 dk
    exact ⟨J, u, _, _, _, j0, jq, upl_s, fun k _ hk => upl_n hk, fun k hk => hnu k (by omega), ⟨by omega, fun j hj hju => by rw [upn_n (show j ≠ u by omega), upn_n (show j ≠ u by omega)]; exact hj⟩, hd⟩
  | cons x t =>
    rw [hc] at a4 b2
    have hxm : x ∈ c 100 := by rw [hc]; exact List.mem_cons_self
    obtain ⟨hxu, hxo⟩ := (hn 100 (Nat.le_refl _)).2 x hxm
    have hnd := (hn 100 (Nat.le_refl _)).1
    rw [hc] at hnd
    have hxt : ¬ x ∈ t := (List.nodup_cons.mp hnd).1
    have hxo' : ∀ k, k < 100 → ¬ x ∈ c k := fun k hk hm => by
      have := ((hn k (by omega)).2 x hm).2
      omega
    have e30 : hX4_enter_30 N (nI q) v2 v3 v4 I = hX4_enter_72 N (nI q) v2 v3 v4 (nI x) (gU I 0 10 (hde t mI)) := by
      rw [eX4_enter_30, lm, b1, hc]
      show (if gc_eq (nI x) mI = true then _ else _) = _
      rw [if_neg (by rw [ceqm (by omega)]; exact id)]
      show ck 500 (nI x) _ = _
      rw [ckI (by omega) (by decide)]
      show hX4_enter_72 N (nI q) v2 v3 v4 (nI x) (gU I 0 10 (I 5 (nI x).toNatClampNeg)) = _
      rw [nI_clamp (by omega), b2.1]
    show ∃ (J : gM) (i : Nat) (c1 : Nat → List Nat) (own1 : Nat → Nat) (u1 : Nat), (if gc_ne (nI x) mI = true then _ else _) = _ ∧ _
    rw [if_pos (by rw [cnem (by omega)]; exact True.intro), e30]
    have hlen : (x :: t).length = t.length + 1 := rfl
    have hI : QI (gU (gU (gU (gU (gU (gU I 0 10 (hde t mI)) 6 x v2) 7 x v3) 8 x 0) 9 x (gb_shl 1 v4)) 0 11 (nI (P + 1))) (upl c 100 t) (upn own x 101) u (P + 1) := by
      refine ⟨⟨?_, a2, gU_us, by rw [upl_s]; omega⟩, ⟨?_, ?_⟩, fun k hk => ?_, fun k hk => ?_, fun k hk hok => ?_⟩
      · rw [gU_un (Or.inr (by decide)), gU_ok (by decide), gU_ok (by decide), gU_ok (by decide), gU_ok (by decide), gU_un (Or.inr (by decide))]; exact a1
      · rw [gU_un (Or.inr (by decide)), gU_ok (by decide), gU_ok (by decide), gU_ok (by decide), gU_ok (by decide), gU_us, upl_s]
      · rw [upl_s, gU_ok (by decide), gU_ok (by decide), gU_ok (by decide), gU_ok (by decide), gU_ok (by decide), gU_ok (by decide)]; exact b2.2
      · rw [gU_ok (by decide), gU_ok (by decide), gU_ok (by decide), gU_ok (by decide), gU_ok (by decide), gU_ok (by decide), gU_ok (by decide), gU_ok (by decide), gU_ok (by decide), gU_ok (by decide), gU_ok (by decide), gU_ok (by decide), gU_ok (by decide), gU_ok (by decide), gU_ok (by decide), gU_ok (by decide), gU_ok (by decide), gU_ok (by decide), gU_ok (by decide), gU_ok (by decide), gU_ok (by decide), gU_ok (by decide), gU_ok (by decide), gU_ok (by decide), upl_n (by omega)]
        exact hqs k hk
      · by_cases e : k = 100
        · subst e
          rw [upl_s]
          refine ⟨(List.nodup_cons.mp hnd).2, fun j hj => ?_⟩
          have := (hn 100 (Nat.le_refl _)).2 j (by rw [hc]; exact List.mem_cons_of_mem _ hj)
          exact ⟨this.1, (upn_n (nmm (hxt) hj)).trans this.2⟩
        · rw [upl_n e]
          refine ⟨(hn k hk).1, fun j hj => ?_⟩
          have := (hn k hk).2 j hj
          exact ⟨this.1, (upn_n (nmm (hxo' k (by omega)) hj)).trans this.2⟩
      · by_cases e : k = x
        · rw [e, upn_s] at hok; omega
        · rw [upn_n e] at hok ⊢
          have h1 := hown k hk hok
          by_cases e2 : own k = 100
          · rw [e2, upl_s]
            rw [e2, hc] at h1
            rcases List.mem_cons.mp h1 with e3 | e3
            · exact absurd e3 e
            · exact e3
          · rw [upl_n e2]; exact h1
    obtain ⟨J, j0, jq, d0, d4, d6, d7, d8, d9, dk⟩ := enter_end (N := N) (i := x) (q := q) v2 v3 v4 hI hxu upn_s hq (K := gU I 0 10 (hde t mI)) (by rw [gU_un (Or.inr (by decide))]; exact a3) rfl
    have hd := dat (gU I 0 10 (hde t mI)) x (gU_ok (by decide)) (gU_ok (by decide)) (gU_ok (by decide)) (gU_ok (by decide)) (gU_ok (by decide)) (fun k hk => gU_ok (by omega)) J d0 d4 d6 d7 d8 d9 dk
    refine ⟨J, x, _, _, _, j0, jq, ?_, fun k hk hkq => ?_, hxo', ⟨Nat.le_refl _, fun j hj hju => ?_⟩, hd⟩
    · rw [upl_s, upl_n (by omega)]
    · rw [upl_n hkq, upl_n (by omega)]
    · have e : j ≠ x := fun e => by rw [e] at hj; omega
      rw [upn_n e, upn_n e]; exact hj
theorem pX4_enter_full {N : Nat} {I : gM} {c : Nat → List Nat} {own : Nat → Nat} {u P : Nat} (v1 v2 v3 v4 : Int32) (h : QI I c own u P) (hP : P = 500) : fX4_enter N [.ref 0, .int v1, .int v2, .int v3, .int v4] I = some (.inl (some (.int 0)), I) := by
  have a3 := h.1.2.2.1
  have l500 : (500 : Int32) = nI 500 := rfl
  rw [eX4_enter, eX4_enter_0, a3, l500, if_pos (by rw [cge (by omega) (by omega)]; omega)]
