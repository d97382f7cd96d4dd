/-! ===== errorPosition and load ===== -/
theorem IN.txt {I J : gM} {a : AB} (h : IN I J a) : TXT a.2.2.2 := ⟨h.2.2.2.2.2.1, fun x hx => (h.2.2.2.2.2.2.2 x hx).2⟩
theorem c_read {N : Nat} {I J : gM} {a : AB} (h : IN I J a) (hN : 20000 ≤ N) : ∃ x I' J', (∀ K : Int32 → gM → gO, hI (fX5_read N [.ref 0] (gS (rg 183 11) I)) (rg 183 11) I K = K x I') ∧ (∀ K : Int32 → gM → gO, hI (fX9_parse N [.ref 0] (gS (rg 0 18) (gU J 0 0 0))) (rg 0 18) (gU J 0 0 0) K = K x J') ∧ IN I' J' a ∧ J' 0 0 = 0 ∧ (∀ k, k < 183 → I' k = I k) ∧ ((x = mI ∧ ∃ r, CN (sh1 (gS (rg 185 9) I')) r ∧ RowIs (J' 2) (r, []) ∧ Wt (r, ([] : List Pk)) ∧ PZ r) ∨ ∃ e, e ≤ 700 ∧ x = nI e) := by
  have hT := h.txt
  obtain ⟨hc, hm, hw⟩ := h
  have hm' := hm.thr (x := 0)
  have hB : BFx (gS (rg 183 11) I) a.2.2.2 := ⟨by rw [gS_b (by decide) (by decide)]; exact hc.2.2.2.1, fun j x hx => by rw [gS_b (by decide) (by decide)]; exact hc.2.2.2.2 j x hx⟩
  have hC : BFx (gS (rg 0 18) (gU J 0 0 0)) a.2.2.2 := ⟨by rw [gSm18 (by decide)]; exact hm'.2.2.2.1, fun j x hx => by rw [gSm18 (by decide)]; exact hm'.2.2.2.2 j x hx⟩
  obtain ⟨x, D, E, d0, e0, d1, e1, e2, e3⟩ := s_read (N := N) hT hN hB hC
  have f2 : FM (gU J 0 0 0) (gMg (rg 0 18) (gU J 0 0 0) E) := e2.sup
  have lo : ∀ k, k < 183 → gMg (rg 183 11) I D k = I k := fun k hk => gMg_rgo (Or.inl hk)
  have hi' : ∀ k, k < 11 → gMg (rg 183 11) I D (183 + k) = D k := fun k hk => gMg_rgi hk
  have g0 : gMg (rg 183 11) I D 183 = D 0 := hi' 0 (by decide)
  have g1 : gMg (rg 183 11) I D 184 = D 1 := hi' 1 (by decide)
  refine ⟨x, gMg (rg 183 11) I D, gMg (rg 0 18) (gU J 0 0 0) E, fun K => by rw [d0, hI_mk], fun K => by rw [e0, hI_mk], ⟨hc.buf lo ⟨by rw [g0]; exact d1.1, fun j y hy => by rw [g1]; exact d1.2 j y hy⟩, hm'.congr (fun j hj => f2.1 j (by omega)) (fun k hk => f2.2 k (by omega) (by omega)), hw⟩, by rw [f2.1 0 (by omega)]; exact gU_us, lo, ?_⟩
  rcases e3 with ⟨x1, r, r1, r2, r3⟩ | e3
  · refine Or.inl ⟨x1, r, r1.congr (fun k k1 k9 => ?_), ?_, r3⟩
    · show gS (rg 185 9) (gMg (rg 183 11) I D) (k - 1) = gS (rg 2 9) D (k - 1)
      rw [gS_b (by omega) (by decide), gS_b (by omega) (by decide), show 185 + (k - 1) = 183 + (2 + (k - 1)) by omega, hi' _ (by omega)]
    · rw [gM18 (by decide)]; exact r2
  · exact Or.inr e3
theorem j_errorPosition {N : Nat} {I J : gM} {a : AB} (h : IN I J a) (hN : 20000 ≤ N) : AG [] (fX8_errorPosition N [.ref 0] I) (fX9_errorPosition N [.ref 0] J) := by
  obtain ⟨x, I', J', c0, m0, h1, h2, -, -⟩ := c_read h hN
  rw [eX8_errorPosition, eX8_errorPosition_0, c0, eX9_errorPosition, eX9_errorPosition_0, m0]
  exact AG.ok rfl rfl h2 h1
/-- the queues of a net that begins -/
theorem pX4_clear {N : Nat} {I : gM} (hN : 1000 ≤ N) : ∃ J, fX4_clear N [.ref 0] I = some (.inl none, J) ∧ (J 0 9 = 0 ∧ J 0 10 = -1 ∧ J 0 11 = 0) ∧ (∀ j, j < 100 → J 3 j = 0) ∧ (∀ j, j < 100 → J 4 j = 0) ∧ (∀ j, (j < 9 ∨ 12 ≤ j) → J 0 j = I 0 j) ∧ ∀ k, k ≠ 0 → k ≠ 3 → k ≠ 4 → J k = I k := by
  have o1 : ∀ (A B : gM) (q k : Nat), k ≠ q → gMg [q] A B k = A k := fun A B q k hk => (gMg_rgo (b := q) (n := 1) (p := k) (I := A) (J := B) (by omega) : gMg (rg q 1) A B k = A k)
  have o2 : ∀ (A B : gM) (q : Nat), gMg [q] A B q = B 0 := fun A B q => (gMg_rgi (b := q) (n := 1) (j := 0) (I := A) (J := B) (by decide) : gMg (rg q 1) A B (q + 0) = B 0)
  obtain ⟨F, f0, f1, f2, f3⟩ := pJF_fill (N := N) (n := 100) (x := 0) (I := gS [3] I) (by decide) (by omega)
  obtain ⟨G, g0, g1, g2, g3⟩ := pJF_fill (N := N) (n := 100) (x := 0) (I := gS [4] (gMg [3] I F)) (by decide) (by omega)
  rw [eX4_clear, eX4_clear_0, f0, hV_mk, g0, hV_mk]
  refine ⟨_, rfl, ⟨?_, ?_, ?_⟩, fun j hj => ?_, fun j hj => ?_, fun j hj => ?_, fun k k0 k3 k4 => ?_⟩
  · rw [gU_un (Or.inr (by decide)), gU_un (Or.inr (by decide)), gU_us]
  · rw [gU_un (Or.inr (by decide)), gU_us]
  · rw [gU_us]
  · rw [gU_ok (by decide), gU_ok (by decide), gU_ok (by decide), o1 _ _ 4 3 (by decide), o2, f1 j hj]
  · rw [gU_ok (by decide), gU_ok (by decide), gU_ok (by decide), o2, g1 j hj]
  · rw [gU_un (Or.inr (by omega)), gU_un (Or.inr (by omega)), gU_un (Or.inr (by omega)), o1 _ _ 4 0 (by decide), o1 _ _ 3 0 (by decide)]
  · rw [gU_ok k0, gU_ok k0, gU_ok k0, o1 _ _ 4 k k4, o1 _ _ 3 k k3]
/-- a state begins with a net -/
theorem pX7_begin {N : Nat} {M : gM} {r : Nat → Nat} (hN : 1000 ≤ N) (hn : CN (sh1 (gS (rg 20 9) M)) r) (W : Wt (r, ([] : List Pk))) (Z : PZ r) : ∃ J, fX7_begin N [.ref 0, .ref 20] M = some (.inl none, J) ∧ STc J (r, []) ∧ ∀ k, 20 ≤ k → J k = M k := by
  obtain ⟨⟨_, w10⟩, w14, w6, _⟩ := wfC W.1.1
  have w10' : r 0 ≤ 10 := w10
  have w14' : r 1 ≤ 14 := w14
  have w6' : r 2 ≤ 6 := w6
  obtain ⟨A, a0, a1, a2, a3, a6, a7, a8, a9⟩ := pX2_copyFrom (N := N) (I := gS (rg 1 9 ++ rg 20 9) M) hN
  have sI : ∀ k, k < 9 → gS (rg 1 9 ++ rg 20 9) M (9 + k) = M (20 + k) := fun k hk => gS_ap2 hk (by decide)
  have m1 : ∀ k, k < 9 → gMg (rg 1 9 ++ rg 20 9) M A (1 + k) = A k := fun k hk => gM_ap1 hk
  have m2 : ∀ k, (k = 0 ∨ 10 ≤ k) → gMg (rg 1 9 ++ rg 20 9) M A k = M k := fun k hk => by
    by_cases e : 20 ≤ k ∧ k < 29
    · have e2 : k = 20 + (k - 20) := by omega
      rw [e2, gM_ap2 (by omega) (Or.inl (by decide)), a9 _ (by omega), sI _ (by omega)]
    · exact gM_apo (by omega) (by omega)
  generalize hX : gMg (rg 1 9 ++ rg 20 9) M A = X at m1 m2
  obtain ⟨B, b0, ⟨b9, b10, b11⟩, b3, b4, b5, b6⟩ := pX4_clear (N := N) (I := gS (rg 10 10) X) hN
  have n1 : ∀ k, k < 10 → gMg (rg 10 10) X B (10 + k) = B k := fun k hk => gMg_rgi hk
  have n2 : ∀ k, (k < 10 ∨ 20 ≤ k) → gMg (rg 10 10) X B k = X k := fun k hk => gMg_rgo (by omega)
  generalize hY : gMg (rg 10 10) X B = Y at n1 n2
  have p1 : ∀ k, 1 ≤ k → gU (gU Y 0 2 0) 0 3 0 k = Y k := fun k hk => by rw [gU_ok (by omega), gU_ok (by omega)]
  have nA : ∀ k, k < 9 → gU (gU Y 0 2 0) 0 3 0 (1 + k) = A k := fun k hk => by rw [p1 _ (by omega), n2 _ (by omega), m1 k hk]
  have hs : ∀ k, k < 9 → sh1 (gS (rg 20 9) M) (1 + k) = M (20 + k) := fun k hk => by
    show gS (rg 20 9) M (1 + k - 1) = _
    rw [gS_b (by omega) (by decide), show 20 + (1 + k - 1) = 20 + k by omega]
  refine ⟨gU (gU Y 0 2 0) 0 3 0, ?_, ⟨hn.cpy w10' w14' w6' ⟨fun j hj => ?_, fun k k2 k6 j hj => ?_, fun j hj => ?_, fun j hj => ?_, fun j hj => ?_⟩, ⟨?_, ?_, fun q hq => ?_⟩, fun _ => [], fun _ => 0, 0, ⟨⟨?_, Nat.zero_le _, ?_, rfl⟩, ⟨?_, trivial⟩, fun q hq => ⟨?_, fun x hx => (by cases hx), fun x hx => (by cases hx), trivial⟩, fun q hq => ⟨List.nodup_nil, fun i hi => absurd hi List.not_mem_nil⟩, fun i hi => absurd hi (Nat.not_lt_zero _)⟩, fun q hq => rfl, fun x hx => absurd hx List.not_mem_nil, List.nodup_nil⟩, fun k hk => by rw [p1 k (by omega), n2 k (by omega), m2 k (by omega)]⟩
  · rw [eX7_begin, eX7_begin_0, a0, hV_mk, hX, b0, hV_mk, hY]
  · have e1 := nA 0 (by decide)
    have e2 := hs 0 (by decide)
    have e3 := sI 0 (by decide)
    rw [show 1 + 0 = 1 from rfl] at e1 e2
    rw [show 9 + 0 = 9 from rfl] at e3
    rw [e1, e2, a1 j hj, e3]
  · have e1 := nA (k - 1) (by omega)
    have e2 := hs (k - 1) (by omega)
    rw [show 1 + (k - 1) = k by omega] at e1 e2
    rw [e1, e2, a3 (k - 1) (by omega) (by omega) j hj, sI _ (by omega)]
  · have e1 := nA 6 (by decide)
    have e2 := hs 6 (by decide)
    have e3 := sI 6 (by decide)
    rw [show 1 + 6 = 7 from rfl] at e1 e2
    rw [show 9 + 6 = 15 from rfl] at e3
    rw [e1, e2, a6 j hj, e3]
  · have e1 := nA 7 (by decide)
    have e2 := hs 7 (by decide)
    have e3 := sI 7 (by decide)
    rw [show 1 + 7 = 8 from rfl] at e1 e2
    rw [show 9 + 7 = 16 from rfl] at e3
    rw [e1, e2, a7 j hj, e3]
  · have e1 := nA 8 (by decide)
    have e2 := hs 8 (by decide)
    have e3 := sI 8 (by decide)
    rw [show 1 + 8 = 9 from rfl] at e1 e2
    rw [show 9 + 8 = 17 from rfl] at e3
    rw [e1, e2, a8 j hj, e3]
  · rw [gU_un (Or.inr (by decide)), gU_us]
    show _ = nI (r 7)
    rw [Z 7 (Or.inl rfl)]; rfl
  · rw [gU_us]
    show _ = nI (r 8)
    rw [Z 8 (Or.inr (Or.inl rfl))]; rfl
  · have e1 := n1 4 (by decide)
    rw [show 10 + 4 = 14 from rfl] at e1
    rw [p1 14 (by decide), e1, b4 q hq]
    show _ = nI (r (145 + q))
    rw [Z _ (Or.inr (Or.inr (by omega)))]; rfl
  · have e1 := n1 0 (by decide)
    rw [show 10 + 0 = 10 from rfl] at e1
    rw [gS10 (by decide), p1 _ (by decide), e1, b9]; rfl
  · have e1 := n1 0 (by decide)
    rw [show 10 + 0 = 10 from rfl] at e1
    rw [gS10 (by decide), p1 _ (by decide), e1, b11]; rfl
  · have e1 := n1 0 (by decide)
    rw [show 10 + 0 = 10 from rfl] at e1
    rw [gS10 (by decide), p1 _ (by decide), e1, b10]; rfl
  · have e1 := n1 3 (by decide)
    rw [show 10 + 3 = 13 from rfl] at e1
    rw [gS10 (by decide), p1 _ (by decide), e1, b3 q hq]; rfl
theorem j_load {N : Nat} {I J : gM} {a : AB} (h : IN I J a) (hN : 20000 ≤ N) : AG [eIA] (fX8_load N [.ref 0] I) (fX9_load N [.ref 0] J) := by
  obtain ⟨x, I', J', c0, m0, ⟨hc, hm, hw⟩, h2, lo, h3⟩ := c_read h hN
  have lm : (-1 : Int32) = mI := rfl
  rw [eX8_load, eX8_load_0, c0, lm, eX9_load, eX9_load_0, m0]
  rcases h3 with ⟨x1, r, r1, r2, r3, r4⟩ | ⟨e, e1, e2⟩
  · subst x1
    have gin : ∀ k, k < 9 → gS (rg 1 20 ++ rg 185 9) I' (20 + k) = I' (185 + k) := fun k hk => gS_aq2 hk (by decide)
    obtain ⟨A, a0, a1, a2⟩ := pX7_begin (N := N) (M := gS (rg 1 20 ++ rg 185 9) I') (r := r) (by omega) (r1.congr (fun k k1 k9 => by
      show gS (rg 20 9) (gS (rg 1 20 ++ rg 185 9) I') (k - 1) = gS (rg 185 9) I' (k - 1)
      rw [gS_b (by omega) (by decide), gS_b (by omega) (by decide), gin _ (by omega)])) r3 r4
    have q1 : ∀ k, k < 20 → gMg (rg 1 20 ++ rg 185 9) I' A (1 + k) = A k := fun k hk => gM_aq1 hk
    have q2 : ∀ k, (k < 1 ∨ 21 ≤ k) → gMg (rg 1 20 ++ rg 185 9) I' A k = I' k := fun k hk => by
      by_cases z : 185 ≤ k ∧ k < 194
      · have z2 : k = 185 + (k - 185) := by omega
        rw [z2, gM_aq2 (by omega) (Or.inl (by decide)), a2 _ (by omega), gin _ (by omega)]
      · exact gM_aqo (by omega) (by omega)
    generalize hX : gMg (rg 1 20 ++ rg 185 9) I' A = X at q1 q2
    have m2746 : ∀ Y : gO, ck 2746 1 Y = Y := fun Y => c_1
    obtain ⟨F, f0, f1, f2, f3⟩ := m_copyA (N := N) (n1 := 2746) (n2 := 2746) (a := 2) (b := 3) (p := 0) (q := 0) (J := gS (rg 0 18) J') (by decide) (by decide) (by decide) (by decide) (by decide) hN
    have f0' : ∀ K : gM → gO, hV (fX9_copy N 2746 2746 [.ref 0, .int 0, .ref 1, .int 0] (gS (rg 2 2) (gS (rg 0 18) J'))) (rg 2 2) (gS (rg 0 18) J') K = K F := f0
    have hF3 : RowIs (F 3) (r, []) := r2.congr (Nat.zero_le _) (fun k hk => by
      have e := f1 k hk
      rw [Nat.zero_add] at e
      rw [e, gSm18 (by decide)])
    have hX2 : X 2 1 = nI (r 1) := by
      have e := a1.1.1.2.1
      have e1 := q1 1 (by decide)
      rw [show 1 + 1 = 2 from rfl] at e1
      rw [e1]; exact e
    have M3 : gMg (rg 0 18) J' (gU (gU F 0 13 0) 0 16 0) 3 = F 3 := by rw [gM18 (by decide), gU_ok (by decide), gU_ok (by decide)]
    have M0 : ∀ j, j ≠ 13 → j ≠ 16 → gMg (rg 0 18) J' (gU (gU F 0 13 0) 0 16 0) 0 j = J' 0 j := fun j h13 h16 => by
      rw [gM18 (by decide), gU_un (Or.inr h16), gU_un (Or.inr h13), f3 0 (by decide), gSm18 (by decide)]
    have e3 : gMg (rg 0 18) J' (gU (gU F 0 13 0) 0 16 0) 3 1 = nI (r 1) := by rw [M3]; exact hF3.1 1 (by decide)
    rw [if_pos (ceqmm.mpr True.intro), a0, hV_mk, hX, hX2, if_neg (show ¬ gz_ge mI = true by decide), eX9_load_18, m_f1, i_e0, eX9_takeRead, eX9_takeRead_0, f0', hV_mk, m2746, t_1, e3]
    have X61 : ∀ k, 1 ≤ k → k ≠ 61 → k ≠ 183 → gU (gU (gU X 183 2 0) 61 1 0) 0 7 0 k = X k := fun k h1 h61 h183 => by rw [gU_ok (by omega), gU_ok h61, gU_ok h183]
    refine AG.ok rfl rfl ?_ (a := ((r, []), [], none, [])) ⟨⟨a1.congr (fun k hk => ?_), ⟨Nat.zero_le _, ?_, ?_⟩, ⟨?_, fun τ hτ => (by cases hτ)⟩, ?_, fun j y hy => (by cases hy)⟩, ⟨?_, ⟨?_, fun i τ hτ => (by cases hτ)⟩, ⟨?_, fun τ hτ => (by cases hτ)⟩, ?_, fun j y hy => (by cases hy)⟩, r3, fun τ hτ => absurd hτ List.not_mem_nil, fun τ hτ => (by cases hτ), Nat.zero_le _, Nat.zero_le _, fun y hy => absurd hy List.not_mem_nil⟩
    · rw [gU_un (Or.inr (by decide)), M0 0 (by decide) (by decide)]; exact h2
    · rw [gS_b hk (by decide), X61 _ (by omega) (by omega) (by omega), q1 k hk]
    · rw [gS_b (by decide) (by decide), gU_ok (by decide), gU_us]; rfl
    · obtain ⟨h1, h2', π, p1, p2, p3⟩ := hc.2.1
      refine ⟨π, fun i hi => ?_, p2, fun i τ hτ => by cases hτ⟩
      have e := p1 i hi
      rw [gS_b (by decide) (by decide)] at e ⊢
      rw [X61 _ (by decide) (by decide) (by decide), q2 _ (by omega)]
      exact e
    · rw [gU_us]; rfl
    · rw [gU_ok (by decide), gU_ok (by decide), gU_us]; rfl
    · rw [gU_ok (by decide), M3]; exact hF3
    · rw [gU_un (Or.inr (by decide)), gM18 (by decide), gU_un (Or.inr (by decide)), gU_us]; rfl
    · rw [gU_un (Or.inr (by decide)), gM18 (by decide), gU_us]; rfl
    · rw [gU_us]; rfl
  · subst e2
    rw [if_neg (ceqm (a := e) (by omega)).mp, if_pos ((zge (a := e) (by omega)).mpr True.intro), eX9_load_18, m_f0, i_e1]
    exact AG.ex 0 rfl rfl rfl gU_us ⟨hc, hm.thr, hw⟩
