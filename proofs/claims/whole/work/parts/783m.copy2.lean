/-! ===== the class: a state is copied ===== -/
theorem gIx_app : ∀ (l m : List Nat) (p : Nat), gIx (l ++ m) p = match gIx l p with
    | some j => some j
    | none => match gIx m p with
      | some j => some (l.length + j)
      | none => none
  | [], m, p => by
    show gIx m p = match gIx m p with
      | some j => some (0 + j)
      | none => none
    cases gIx m p with
    | none => rfl
    | some j => show some j = some (0 + j); rw [Nat.zero_add]
  | a :: t, m, p => by
    show (if a = p then some 0 else match gIx (t ++ m) p with
      | some j => some (j + 1)
      | none => none) = match (if a = p then some 0 else match gIx t p with
      | some j => some (j + 1)
      | none => none) with
      | some j => some j
      | none => match gIx m p with
        | some j => some ((a :: t).length + j)
        | none => none
    by_cases e : a = p
    · rw [if_pos e, if_pos e]
    · rw [if_neg e, if_neg e, gIx_app t m p]
      cases gIx t p with
      | some j => rfl
      | none =>
        cases gIx m p with
        | none => rfl
        | some j =>
          show some (t.length + j + 1) = some (t.length + 1 + j)
          congr 1; omega
theorem gS_ap1 {d s n k : Nat} {I : gM} (hk : k < n) (hn : n ≤ 500) : gS (rg d n ++ rg s n) I k = I (d + k) := by
  refine gS_at ?_ (by omega)
  rw [List.getElem?_append_left (by rw [rg_len]; exact hk)]
  exact rg_get n d k hk
theorem gS_ap2 {d s n k : Nat} {I : gM} (hk : k < n) (hn : n ≤ 500) : gS (rg d n ++ rg s n) I (n + k) = I (s + k) := by
  refine gS_at ?_ (by omega)
  rw [List.getElem?_append_right (by rw [rg_len]; omega), rg_len, Nat.add_sub_cancel_left]
  exact rg_get n s k hk
theorem gM_ap1 {d s n k : Nat} {I J : gM} (hk : k < n) : gMg (rg d n ++ rg s n) I J (d + k) = J k := by
  unfold gMg
  rw [gIx_app, gIx_rg, if_pos (by omega), Nat.add_sub_cancel_left]
theorem gM_ap2 {d s n k : Nat} {I J : gM} (hk : k < n) (hds : d + n ≤ s ∨ s + n ≤ d) : gMg (rg d n ++ rg s n) I J (s + k) = J (n + k) := by
  unfold gMg
  rw [gIx_app, gIx_rg, if_neg (by omega), gIx_rg, if_pos (by omega), Nat.add_sub_cancel_left, rg_len]
theorem gM_apo {d s n p : Nat} {I J : gM} (h1 : p < d ∨ d + n ≤ p) (h2 : p < s ∨ s + n ≤ p) : gMg (rg d n ++ rg s n) I J p = I p := by
  unfold gMg
  rw [gIx_app, gIx_rg, if_neg (by omega), gIx_rg, if_neg (by omega)]
theorem gS_b {b n k : Nat} {I : gM} (h : k < n) (hn : n ≤ 1000) : gS (rg b n) I k = I (b + k) := gS_rg h hn
theorem pX7_copyFrom {N B : Nat} {σ : St} {I : gM} (hc : STc (gS (rg 20 20) I) σ) (hw : Wf B σ) (hN : 1000 ≤ N) : ∃ J, fX7_copyFrom N [.ref 0, .ref 20] I = some (.inl none, J) ∧ STc J σ ∧ ∀ k, 20 ≤ k → J k = I k := by
  obtain ⟨c0, c1, c2, -⟩ := wfC hw
  obtain ⟨hn, hs, c, own, u, q1, q2, q3, q4⟩ := hc
  have hu5 : u ≤ 500 := q1.1.2.1
  obtain ⟨J1, a0, a1, a2, a3, a6, a7, a8, a9⟩ := pX2_copyFrom (N := N) (I := gS (rg 1 9 ++ rg 21 9) I) hN
  have i1 : ∀ k, k < 9 → gMg (rg 1 9 ++ rg 21 9) I J1 (1 + k) = J1 k := fun k hk => gM_ap1 hk
  have i2 : ∀ k, k < 9 → gMg (rg 1 9 ++ rg 21 9) I J1 (21 + k) = I (21 + k) := fun k hk => by
    rw [gM_ap2 hk (Or.inl (by decide)), a9 (9 + k) (by omega), gS_ap2 hk (by decide)]
  have io : ∀ k, (k = 0 ∨ (10 ≤ k ∧ k < 21) ∨ 30 ≤ k) → gMg (rg 1 9 ++ rg 21 9) I J1 k = I k := fun k hk => gM_apo (by omega) (by omega)
  have hu : gS (rg 10 10 ++ rg 30 10) (gMg (rg 1 9 ++ rg 21 9) I J1) 10 9 = nI u := by
    have h1 := q1.1.1
    rw [gS10 (by decide), gS_b (by decide) (by decide)] at h1
    have h2 : gS (rg 10 10 ++ rg 30 10) (gMg (rg 1 9 ++ rg 21 9) I J1) (10 + 0) = gMg (rg 1 9 ++ rg 21 9) I J1 (30 + 0) := gS_ap2 (by decide) (by decide)
    rw [show (10 : Nat) = 10 + 0 from rfl, h2, io 30 (by omega)]; exact h1
  obtain ⟨J2, b0, b1, b2', b3, b4⟩ := pX4_copyFrom (N := N) (I := gS (rg 10 10 ++ rg 30 10) (gMg (rg 1 9 ++ rg 21 9) I J1)) hu hu5 hN
  have s2 : ∀ k, k < 10 → gS (rg 10 10 ++ rg 30 10) (gMg (rg 1 9 ++ rg 21 9) I J1) (10 + k) = I (30 + k) := fun k hk => by
    rw [gS_ap2 hk (by decide), io _ (by omega)]
  have m1 : ∀ k, k < 10 → gMg (rg 10 10 ++ rg 30 10) (gMg (rg 1 9 ++ rg 21 9) I J1) J2 (10 + k) = J2 k := fun k hk => gM_ap1 hk
  have m2 : ∀ k, 20 ≤ k → gMg (rg 10 10 ++ rg 30 10) (gMg (rg 1 9 ++ rg 21 9) I J1) J2 k = I k := fun k hk => by
    by_cases h : 30 ≤ k ∧ k < 40
    · have e : k = 30 + (k - 30) := by omega
      rw [e, gM_ap2 (by omega) (Or.inl (by decide)), b4 _ (by omega), s2 _ (by omega)]
    · rw [gM_apo (by omega) (by omega)]
      by_cases h2 : 21 ≤ k ∧ k < 30
      · have e : k = 21 + (k - 21) := by omega
        rw [e, i2 _ (by omega)]
      · exact io k (by omega)
  have m3 : ∀ k, k < 10 → gMg (rg 10 10 ++ rg 30 10) (gMg (rg 1 9 ++ rg 21 9) I J1) J2 k = gMg (rg 1 9 ++ rg 21 9) I J1 k := fun k hk => gM_apo (by omega) (by omega)
  generalize hX : gMg (rg 10 10 ++ rg 30 10) (gMg (rg 1 9 ++ rg 21 9) I J1) J2 = X at m1 m2 m3
  have n1 : ∀ k, k < 9 → X (1 + k) = J1 k := fun k hk => by rw [m3 _ (by omega), i1 k hk]
  have sI : ∀ k, k < 9 → gS (rg 1 9 ++ rg 21 9) I (9 + k) = I (21 + k) := fun k hk => gS_ap2 hk (by decide)
  have sB : ∀ k, k < 20 → gS (rg 20 20) I k = I (20 + k) := fun k hk => gS_b hk (by decide)
  refine ⟨gU (gU X 0 2 (X 20 2)) 0 3 (X 20 3), ?_, ?_, fun k hk => by rw [gU_ok (by omega), gU_ok (by omega)]; exact m2 k hk⟩
  · rw [eX7_copyFrom, eX7_copyFrom_0, a0, hV_mk, b0, hV_mk, hX]
  · have P : ∀ k, 1 ≤ k → gU (gU X 0 2 (X 20 2)) 0 3 (X 20 3) k = X k := fun k hk => by rw [gU_ok (by omega), gU_ok (by omega)]
    have N1 : ∀ k, k < 9 → gU (gU X 0 2 (X 20 2)) 0 3 (X 20 3) (1 + k) = J1 k := fun k hk => by rw [P _ (by omega), n1 k hk]
    have N2 : ∀ k, k < 10 → gU (gU X 0 2 (X 20 2)) 0 3 (X 20 3) (10 + k) = J2 k := fun k hk => by rw [P _ (by omega), m1 k hk]
    have h20 : ∀ j, X 20 j = I 20 j := fun j => by rw [m2 20 (by decide)]
    refine ⟨hn.cpy c0.2 c1 c2 ⟨fun j hj => ?_, fun k k2 k6 j hj => ?_, fun j hj => ?_, fun j hj => ?_, fun j hj => ?_⟩, ⟨?_, ?_, fun q hq => ?_⟩, c, own, u, ?_, fun q hq => ?_, (fun x hx => by cases hx), q4⟩
    · have e := N1 0 (by decide)
      rw [show 1 + 0 = 1 from rfl] at e
      rw [e, sB 1 (by decide), a1 j hj]
      have := sI 0 (by decide)
      rw [show 9 + 0 = 9 from rfl, show 21 + 0 = 21 from rfl] at this
      rw [this]
    · have e := N1 (k - 1) (by omega)
      rw [show 1 + (k - 1) = k by omega] at e
      rw [e, sB k (by omega), a3 (k - 1) (by omega) (by omega) j hj, sI _ (by omega), show 21 + (k - 1) = 20 + k by omega]
    · have e := N1 6 (by decide)
      rw [show 1 + 6 = 7 from rfl] at e
      rw [e, sB 7 (by decide), a6 j hj]
      have := sI 6 (by decide)
      rw [show 9 + 6 = 15 from rfl] at this
      rw [this]
    · have e := N1 7 (by decide)
      rw [show 1 + 7 = 8 from rfl] at e
      rw [e, sB 8 (by decide), a7 j hj]
      have := sI 7 (by decide)
      rw [show 9 + 7 = 16 from rfl] at this
      rw [this]
    · have e := N1 8 (by decide)
      rw [show 1 + 8 = 9 from rfl] at e
      rw [e, sB 9 (by decide), a8 j hj]
      have := sI 8 (by decide)
      rw [show 9 + 8 = 17 from rfl] at this
      rw [this]
    · rw [gU_un (Or.inr (by decide)), gU_us, h20]
      have := hs.1
      rw [sB 0 (by decide)] at this; exact this
    · rw [gU_us, h20]
      have := hs.2.1
      rw [sB 0 (by decide)] at this; exact this
    · have e := N2 4 (by decide)
      rw [show 10 + 4 = 14 from rfl] at e
      rw [e, b2' 4 (by decide) (by decide) q hq, s2 4 (by decide)]
      have := hs.2.2 q hq
      rw [sB 14 (by decide)] at this; exact this
    · have sq : ∀ k, k < 10 → gS (rg 10 10) (gS (rg 20 20) I) k = I (30 + k) := fun k hk => by
        rw [gS10 hk, sB _ (by omega), show 20 + (10 + k) = 30 + k by omega]
      refine q1.cpy (fun j j9 j11 => ?_) (fun k k1 k3 q hq => ?_) (fun j hj => ?_)
      · rw [gS10 (by decide), N2 0 (by decide), b1 j j9 j11, sq 0 (by decide)]
        have := s2 0 (by decide)
        rw [show 10 + 0 = 10 from rfl] at this
        rw [this]
      · rw [gS10 (by omega), N2 k (by omega), b2' k k1 (by omega) q hq, sq k (by omega), s2 k (by omega)]
      · rw [gS10 (by decide), N2 5 (by decide), b3 5 (by decide) (by decide) j hj, sq 5 (by decide), s2 5 (by decide)]
    · rw [← q2 q hq]
      refine List.map_congr_left (fun i hi => ?_)
      have hiu := ((q1.2.2.2.1 q (by omega)).2 i hi).1
      have t : ∀ k, 6 ≤ k → k ≤ 9 → gU (gU X 0 2 (X 20 2)) 0 3 (X 20 3) (10 + k) i = gS (rg 20 20) I (10 + k) i := fun k k6 k9 => by
        rw [N2 k (by omega), b3 k (by omega) k9 i hiu, s2 k (by omega), sB _ (by omega), show 20 + (10 + k) = 30 + k by omega]
      have t6 := t 6 (by decide) (by decide)
      have t7 := t 7 (by decide) (by decide)
      have t8 := t 8 (by decide) (by decide)
      have t9 := t 9 (by decide) (by decide)
      unfold dt
      rw [show 10 + 6 = 16 from rfl] at t6
      rw [show 10 + 7 = 17 from rfl] at t7
      rw [show 10 + 8 = 18 from rfl] at t8
      rw [show 10 + 9 = 19 from rfl] at t9
      rw [t6, t7, t8, t9]
/-- a copy from block s into block d -/
theorem l_copy {N B d s : Nat} {σ : St} {I : gM} {K : gM → gO} (hc : STc (gS (rg s 20) I) σ) (hw : Wf B σ) (hds : d + 20 ≤ s ∨ s + 20 ≤ d) (hN : 1000 ≤ N) :
    ∃ J, hV (fX7_copyFrom N [.ref 0, .ref 20] (gS (rg d 20 ++ rg s 20) I)) (rg d 20 ++ rg s 20) I K = K J ∧ STc (gS (rg d 20) J) σ ∧ ∀ k, (k < d ∨ d + 20 ≤ k) → J k = I k := by
  obtain ⟨J, j0, j1, j2⟩ := pX7_copyFrom (N := N) (I := gS (rg d 20 ++ rg s 20) I) (hc.congr (fun k hk => by rw [gS_b hk (by decide), gS_b hk (by decide), gS_ap2 hk (by decide)])) hw hN
  refine ⟨gMg (rg d 20 ++ rg s 20) I J, by rw [j0, hV_mk], j1.congr (fun k hk => by rw [gS_b hk (by decide), gM_ap1 hk]), fun k hk => ?_⟩
  by_cases h : s ≤ k ∧ k < s + 20
  · have e : k = s + (k - s) := by omega
    rw [e, gM_ap2 (by omega) hds, j2 _ (by omega), gS_ap2 (by omega) (by decide)]
  · exact gM_apo hk (by omega)
