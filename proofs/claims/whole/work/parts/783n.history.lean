/-! ===== the class: history ===== -/
/-- the ring of past states (places 0..121) -/
def HI (I : gM) (past : List St) : Prop := past.length ≤ 6 ∧ I 0 1 = nI past.length ∧ ∃ π : Nat → Nat, (∀ i, i < 6 → I 1 i = nI (π i) ∧ π i < 6) ∧ (∀ i j, i < 6 → j < 6 → π i = π j → i = j) ∧ ∀ (i : Nat) (σ : St), past[i]? = some σ → STc (gS (rg (2 + 20 * π i) 20) I) σ
theorem HI.congr {I J : gM} {past : List St} (h : HI I past) (e : ∀ k, k < 122 → J k = I k) : HI J past := by
  obtain ⟨h1, h2, π, h3, h4, h5⟩ := h
  refine ⟨h1, by rw [e 0 (by decide)]; exact h2, π, fun i hi => by rw [e 1 (by decide)]; exact h3 i hi, h4, fun i σ hσ => (h5 i σ hσ).congr (fun k hk => ?_)⟩
  have hi := (List.getElem?_eq_some_iff.mp hσ).1
  have := (h3 i (by omega)).2
  rw [gS_b hk (by decide), gS_b hk (by decide), e _ (by omega)]
def rem6 (past : List St) (σ : St) : List St := if past.length < 6 then past ++ [σ] else past.drop 1 ++ [σ]
theorem qst_at {i j : Nat} {I : gM} {K : gK} (hi : i < 6) (hj : j < 6) : s_qst gyH K [] [.ref (2 + 20 * j), .int (nI i), .ref 1] I = K [] [] (gU I 1 i (nI j)) := by
  have hc : nI i = nI i := rfl
  have h1 : ¬ nI i < 0 := nI_pos (by omega)
  have h2 : (nI i).toNatClampNeg = i := nI_clamp (by omega)
  have e1 : gyH[1]? = some (.inr (.inr (3, [2, 22, 42, 62, 82, 102]))) := rfl
  have main : ∀ (q : Nat) (x : List (Option Nat)), gyH[q]? = some (.inl (7, x)) → gIx [2, 22, 42, 62, 82, 102] q = some j → s_qst gyH K [] [.ref q, .int (nI i), .ref 1] I = K [] [] (gU I 1 i (nI j)) := fun q x hq hg => by
    show (match gyH[1]?, gyH[q]? with
      | some (.inr (.inr (ki, ps))), some (.inl (7, _)) => if ki = 3 ∧ ¬ (nI i < 0 ∨ ps.length ≤ (nI i).toNatClampNeg) then match gIx ps q with
          | some j => if j < 2 ^ 31 then K [] [] (gU I 1 (nI i).toNatClampNeg (Int32.ofNat j)) else none
          | none => none
        else none
      | _, _ => none) = _
    rw [e1, hq]
    show (if 3 = 3 ∧ ¬ (nI i < 0 ∨ 6 ≤ (nI i).toNatClampNeg) then (match gIx [2, 22, 42, 62, 82, 102] q with
          | some j => if j < 2 ^ 31 then K [] [] (gU I 1 (nI i).toNatClampNeg (Int32.ofNat j)) else none
          | none => none) else none) = _
    rw [if_pos ⟨rfl, fun z => by rw [h2] at z; rcases z with z | z; exact h1 z; omega⟩, hg, h2]
    show (if j < 2 ^ 31 then _ else _) = _
    rw [if_pos (by omega)]
    rfl
  match j, hj with
  | 0, _ => exact main 2 _ rfl rfl
  | 1, _ => exact main 22 _ rfl rfl
  | 2, _ => exact main 42 _ rfl rfl
  | 3, _ => exact main 62 _ rfl rfl
  | 4, _ => exact main 82 _ rfl rfl
  | 5, _ => exact main 102 _ rfl rfl
  | j + 6, h => omega
theorem hQ_at {j : Nat} {K : Nat → gO} (hj : j < 6) : hQ [2, 22, 42, 62, 82, 102] (nI j) K = K (2 + 20 * j) := by
  unfold hQ
  rw [nI_clamp (by omega)]
  match j, hj with
  | 0, _ => rfl
  | 1, _ => rfl
  | 2, _ => rfl
  | 3, _ => rfl
  | 4, _ => rfl
  | 5, _ => rfl
  | j + 6, h => omega
theorem rem_56 {N B : Nat} {σ : St} {I : gM} {past : List St} (hH : HI I past) (hl : past.length < 6) (hc : STc (gS (rg 122 20) I) σ) (hw : Wf B σ) (hN : 1000 ≤ N) : ∃ J, hX1_remember_56 N I = some (.inl none, J) ∧ HI J (past ++ [σ]) ∧ ∀ k, 122 ≤ k → J k = I k := by
  obtain ⟨h1, h2, π, h3, h4, h5⟩ := hH
  obtain ⟨p1, p2⟩ := h3 past.length hl
  have l1 : (1 : Int32) = nI 1 := rfl
  have htab : ∀ j, j < 6 → hD (2 + 20 * j) [(2, hV (fX7_copyFrom N [.ref 0, .ref 20] (gS (rg 2 20 ++ rg 122 20) I)) (rg 2 20 ++ rg 122 20) I fun I3 => some (.inl none, (gU I3 0 1 ((gb_add (I3 0 1) 1))))), (22, hV (fX7_copyFrom N [.ref 0, .ref 20] (gS (rg 22 20 ++ rg 122 20) I)) (rg 22 20 ++ rg 122 20) I fun I4 => some (.inl none, (gU I4 0 1 ((gb_add (I4 0 1) 1))))), (42, hV (fX7_copyFrom N [.ref 0, .ref 20] (gS (rg 42 20 ++ rg 122 20) I)) (rg 42 20 ++ rg 122 20) I fun I5 => some (.inl none, (gU I5 0 1 ((gb_add (I5 0 1) 1))))), (62, hV (fX7_copyFrom N [.ref 0, .ref 20] (gS (rg 62 20 ++ rg 122 20) I)) (rg 62 20 ++ rg 122 20) I fun I6 => some (.inl none, (gU I6 0 1 ((gb_add (I6 0 1) 1))))), (82, hV (fX7_copyFrom N [.ref 0, .ref 20] (gS (rg 82 20 ++ rg 122 20) I)) (rg 82 20 ++ rg 122 20) I fun I7 => some (.inl none, (gU I7 0 1 ((gb_add (I7 0 1) 1))))), (102, hV (fX7_copyFrom N [.ref 0, .ref 20] (gS (rg 102 40) I)) (rg 102 40) I fun I8 => some (.inl none, (gU I8 0 1 ((gb_add (I8 0 1) 1)))))] = hV (fX7_copyFrom N [.ref 0, .ref 20] (gS (rg (2 + 20 * j) 20 ++ rg 122 20) I)) (rg (2 + 20 * j) 20 ++ rg 122 20) I fun I3 => some (.inl none, (gU I3 0 1 ((gb_add (I3 0 1) 1)))) := fun j hj => by
    match j, hj with
    | 0, _ => rfl
    | 1, _ => rfl
    | 2, _ => rfl
    | 3, _ => rfl
    | 4, _ => rfl
    | 5, _ => rfl
    | j + 6, h => omega
  obtain ⟨J, j0, j1, j2⟩ := l_copy (N := N) (d := 2 + 20 * π past.length) (s := 122) (K := fun I3 => some (.inl none, (gU I3 0 1 ((gb_add (I3 0 1) 1))))) hc hw (Or.inl (by omega)) hN
  have e01 : J 0 1 = nI past.length := by rw [j2 0 (Or.inl (by omega))]; exact h2
  have ea : gb_add (nI past.length) (nI 1) = nI (past.length + 1) := nI_add _ _
  rw [eX1_remember_56, h2, nI_clamp (by omega), if_neg (fun z => by rcases z with z | z; exact nI_pos (by omega) z; omega), p1, hQ_at p2, htab _ p2, j0, e01, l1, ea]
  refine ⟨_, rfl, ⟨by rw [List.length_append]; show past.length + 1 ≤ 6; omega, by rw [gU_us, List.length_append]; rfl, π, fun i hi => ?_, h4, fun i τ hτ => ?_⟩, fun k hk => by rw [gU_ok (by omega)]; exact j2 k (Or.inr (by omega))⟩
  · rw [gU_ok (by decide), j2 1 (Or.inl (by omega))]; exact h3 i hi
  · rcases get_app hτ with ⟨e1, e2⟩ | ⟨e1, e2⟩
    · refine (h5 i τ e2).congr (fun k hk => ?_)
      have q1 := (h3 i (by omega)).2
      have q2 : π i ≠ π past.length := fun e => by have := h4 i past.length (by omega) hl e; omega
      rw [gS_b hk (by decide), gS_b hk (by decide), gU_ok (by omega), j2 _ (by omega)]
    · rw [e1, e2]
      exact j1.congr (fun k hk => by rw [gS_b hk (by decide), gS_b hk (by decide), gU_ok (by omega)])
theorem pX1_remember {N B : Nat} {σ : St} {I : gM} {past : List St} (hH : HI I past) (hc : STc (gS (rg 122 20) I) σ) (hw : Wf B σ) (hN : 1000 ≤ N) : ∃ J, fX1_remember N [.ref 0, .ref 122] I = some (.inl none, J) ∧ HI J (rem6 past σ) ∧ ∀ k, 122 ≤ k → J k = I k := by
  have l0 : (0 : Int32) = nI 0 := rfl
  have l1 : (1 : Int32) = nI 1 := rfl
  have l5 : (5 : Int32) = nI 5 := rfl
  have l6 : (6 : Int32) = nI 6 := rfl
  by_cases hl : past.length < 6
  · obtain ⟨J, j0, j1, j2⟩ := rem_56 (N := N) hH hl hc hw hN
    refine ⟨J, ?_, by unfold rem6; rw [if_pos hl]; exact j1, j2⟩
    rw [eX1_remember, eX1_remember_0, hH.2.1, l6, if_pos ((clt (by omega) (by decide)).mpr hl), j0]
  · obtain ⟨h1, h2, π, h3, h4, h5⟩ := hH
    have hl6 : past.length = 6 := by omega
    obtain ⟨p1, p2⟩ := h3 0 (by decide)
    have rot : ∀ m i : Nat, 1 ≤ i → i ≤ 6 → 6 - i < m → ∀ K : gM, (∀ k, k + 1 < i → K 1 k = nI (π (k + 1))) → (∀ k, i ≤ k → k < 6 → K 1 k = nI (π k)) → (∀ k, k ≠ 1 → K k = I k) → ∃ J, hX1_remember_18 N m (2 + 20 * π 0) (nI i) K = hX1_remember_56 N (gU J 0 1 (nI 5)) ∧ (∀ k, k < 5 → J 1 k = nI (π (k + 1))) ∧ J 1 5 = nI (π 0) ∧ ∀ k, k ≠ 1 → J k = I k := by
      intro m
      induction m with
      | zero => intro i _ _ h; omega
      | succ m ih =>
        intro i hi1 hi hm K k1 k2 k3
        rw [eX1_remember_18, l6]
        by_cases hin : i = 6
        · subst hin
          rw [if_pos ((cge (by omega) (by omega)).mpr (Nat.le_refl _)), l5, qst_at (by decide) p2]
          exact ⟨_, rfl, fun k hk => by rw [gU_un (Or.inr (by omega))]; exact k1 k (by omega), gU_us, fun k hk => by rw [gU_ok hk]; exact k3 k hk⟩
        · obtain ⟨q1, q2⟩ := h3 i (by omega)
          have es : gb_sub (nI i) (nI 1) = nI (i - 1) := pk_sub hi1
          rw [if_neg (fun z => hin (by have := (cge (by omega) (by omega)).mp z; omega)), nI_clamp (by omega), if_neg (fun z => by rcases z with z | z; exact nI_pos (by omega) z; omega), k2 i (Nat.le_refl _) (by omega), hQ_at q2, l1, es, qst_at (by omega) q2, nI_add]
          refine ih (i + 1) (by omega) (by omega) (by omega) _ (fun k hk => ?_) (fun k hk hk6 => by rw [gU_un (Or.inr (by omega))]; exact k2 k (by omega) hk6) (fun k hk => by rw [gU_ok hk]; exact k3 k hk)
          by_cases e : k = i - 1
          · rw [e, gU_us, show i - 1 + 1 = i by omega]
          · rw [gU_un (Or.inr e)]; exact k1 k (by omega)
    obtain ⟨J, j0, j1, j2, j3⟩ := rot N 1 (Nat.le_refl _) (by decide) (by omega) I (fun k hk => by omega) (fun k hk hk6 => (h3 k hk6).1) (fun _ _ => rfl)
    have hH2 : HI (gU J 0 1 (nI 5)) (past.drop 1) := by
      refine ⟨by rw [List.length_drop]; omega, by rw [gU_us, List.length_drop, hl6], fun i => if i < 5 then π (i + 1) else π 0, fun i hi => ?_, fun i j hi hj e => ?_, fun i τ hτ => ?_⟩
      · rw [gU_ok (by decide)]
        by_cases h : i < 5
        · rw [j1 i h]
          show nI _ = nI (if i < 5 then π (i + 1) else π 0) ∧ (if i < 5 then π (i + 1) else π 0) < 6
          rw [if_pos h]; exact ⟨rfl, (h3 _ (by omega)).2⟩
        · have e : i = 5 := by omega
          subst e
          rw [j2]; exact ⟨rfl, p2⟩
      · have e' : (if i < 5 then π (i + 1) else π 0) = (if j < 5 then π (j + 1) else π 0) := e
        by_cases h : i < 5 <;> by_cases h' : j < 5
        · rw [if_pos h, if_pos h'] at e'
          have := h4 _ _ (by omega) (by omega) e'
          omega
        · rw [if_pos h, if_neg h'] at e'
          have := h4 _ _ (by omega) (by omega) e'
          omega
        · rw [if_neg h, if_pos h'] at e'
          have := h4 _ _ (by omega) (by omega) e'
          omega
        · omega
      · rw [List.getElem?_drop] at hτ
        have hi := (List.getElem?_eq_some_iff.mp hτ).1
        have := h5 _ τ hτ
        have hp := (h3 (1 + i) (by omega)).2
        show STc (gS (rg (2 + 20 * (if i < 5 then π (i + 1) else π 0)) 20) _) τ
        rw [if_pos (by omega), Nat.add_comm i 1]
        exact this.congr (fun k hk => by rw [gS_b hk (by decide), gS_b hk (by decide), gU_ok (by omega), j3 _ (by omega)])
    obtain ⟨J', v0, v1, v2⟩ := rem_56 (N := N) hH2 (by rw [List.length_drop]; omega) (σ := σ) (hc.congr (fun k hk => by rw [gS_b hk (by decide), gS_b hk (by decide), gU_ok (by omega), j3 _ (by omega)])) hw hN
    refine ⟨J', ?_, by unfold rem6; rw [if_neg hl]; exact v1, fun k hk => by rw [v2 k hk, gU_ok (by omega), j3 k (by omega)]⟩
    rw [eX1_remember, eX1_remember_0, h2, l6, if_neg (fun z => hl ((clt (by omega) (by decide)).mp z)), l0, nI_clamp (n := 0) (by decide), if_neg (fun z => by rcases z with z | z; exact absurd z (by decide); omega), p1, hQ_at p2, l1, j0, v0]
theorem pX1_takeBack {N B : Nat} {σ : St} {I : gM} {past : List St} (hH : HI I (past ++ [σ])) (hw : Wf B σ) (hN : 1000 ≤ N) : ∃ J, fX1_takeBack N [.ref 0, .ref 122] I = some (.inl none, J) ∧ HI J past ∧ STc (gS (rg 122 20) J) σ ∧ ∀ k, 142 ≤ k → J k = I k := by
  obtain ⟨h1, h2, π, h3, h4, h5⟩ := hH
  rw [List.length_append] at h1 h2
  have h1' : past.length + 1 ≤ 6 := h1
  have h2' : I 0 1 = nI (past.length + 1) := h2
  obtain ⟨p1, p2⟩ := h3 past.length (by omega)
  have hσ := h5 past.length σ (by rw [List.getElem?_append_right (Nat.le_refl _), Nat.sub_self]; rfl)
  have l1 : (1 : Int32) = nI 1 := rfl
  have es : gb_sub (nI (past.length + 1)) (nI 1) = nI past.length := by
    show nI _ - nI 1 = _
    rw [pk_sub (by omega), Nat.add_sub_cancel]
  generalize hX : gU I 0 1 (nI past.length) = X
  have hX1 : ∀ k, k ≠ 0 → X k = I k := fun k hk => by rw [← hX, gU_ok hk]
  have htab : ∀ j, j < 6 → hD (2 + 20 * j) [(2, hV (fX7_copyFrom N [.ref 0, .ref 20] (gS (rg 122 20 ++ rg 2 20) X)) (rg 122 20 ++ rg 2 20) X fun I2 => some (.inl none, I2)), (22, hV (fX7_copyFrom N [.ref 0, .ref 20] (gS (rg 122 20 ++ rg 22 20) X)) (rg 122 20 ++ rg 22 20) X fun I3 => some (.inl none, I3)), (42, hV (fX7_copyFrom N [.ref 0, .ref 20] (gS (rg 122 20 ++ rg 42 20) X)) (rg 122 20 ++ rg 42 20) X fun I4 => some (.inl none, I4)), (62, hV (fX7_copyFrom N [.ref 0, .ref 20] (gS (rg 122 20 ++ rg 62 20) X)) (rg 122 20 ++ rg 62 20) X fun I5 => some (.inl none, I5)), (82, hV (fX7_copyFrom N [.ref 0, .ref 20] (gS (rg 122 20 ++ rg 82 20) X)) (rg 122 20 ++ rg 82 20) X fun I6 => some (.inl none, I6)), (102, hV (fX7_copyFrom N [.ref 0, .ref 20] (gS (rg 122 20 ++ rg 102 20) X)) (rg 122 20 ++ rg 102 20) X fun I7 => some (.inl none, I7))] = hV (fX7_copyFrom N [.ref 0, .ref 20] (gS (rg 122 20 ++ rg (2 + 20 * j) 20) X)) (rg 122 20 ++ rg (2 + 20 * j) 20) X fun I2 => some (.inl none, I2) := fun j hj => by
    match j, hj with
    | 0, _ => rfl
    | 1, _ => rfl
    | 2, _ => rfl
    | 3, _ => rfl
    | 4, _ => rfl
    | 5, _ => rfl
    | j + 6, h => omega
  obtain ⟨J, j0, j1, j2⟩ := l_copy (N := N) (d := 122) (s := 2 + 20 * π past.length) (I := X) (K := fun I3 => some (.inl none, I3)) (σ := σ) (hσ.congr (fun k hk => by rw [gS_b hk (by decide), gS_b hk (by decide), hX1 _ (by omega)])) hw (Or.inr (by omega)) hN
  rw [eX1_takeBack, eX1_takeBack_0, h2', l1, es, if_neg (fun z => by have := (zle (by omega)).mp z; omega), nI_clamp (by omega), if_neg (fun z => by rcases z with z | z; exact nI_pos (by omega) z; omega), p1, hQ_at p2, hX, htab _ p2, j0]
  refine ⟨J, rfl, ⟨by omega, by rw [j2 0 (Or.inl (by decide)), ← hX, gU_us], π, fun i hi => by rw [j2 1 (Or.inl (by decide)), hX1 1 (by decide)]; exact h3 i hi, h4, fun i τ hτ => ?_⟩, j1, fun k hk => by rw [j2 k (Or.inr (by omega)), hX1 k (by omega)]⟩
  have hi := (List.getElem?_eq_some_iff.mp hτ).1
  have hp := (h3 i (by omega)).2
  refine (h5 i τ (by rw [List.getElem?_append_left hi]; exact hτ)).congr (fun k hk => ?_)
  rw [gS_b hk (by decide), gS_b hk (by decide), j2 _ (by omega), hX1 _ (by omega)]
