/-! ===== the class: copies of states ===== -/
def cpy (I : gM) (a b n : Nat) : gM := fun q => if q = b then va_cpy (I a) (I b) 0 0 n else I q
theorem cpy_in {I : gM} {a b n j : Nat} (h : j < n) : cpy I a b n b j = I a j := by
  show (if b = b then va_cpy (I a) (I b) 0 0 n else I b) j = _
  rw [if_pos rfl]; exact sb_cpy0 h
theorem cpy_o {I : gM} {a b n k : Nat} (h : k ≠ b) : cpy I a b n k = I k := if_neg h
theorem k_copy {N n1 n2 n a b : Nat} {I : gM} {K : gM → gO} (hab : a ≠ b) (h1 : n ≤ n1) (h2 : n ≤ n2) (hn : n < 2 ^ 31) : hV (fX8_copyRow N n1 n2 [.ref 0, .ref 1, .int (nI n)] (gS [a, b] I)) [a, b] I K = K (cpy I a b n) := by
  have l0 : (0 : Int32) = nI 0 := rfl
  have c0 : (nI 0).toNatClampNeg = 0 := nI_clamp (by decide)
  rw [eX8_copyRow, eX8_copyRow_0, l0]
  have hk : ∀ X : gO, hCk n1 n2 (nI 0) (nI 0) (nI n) X = X := fun X => by
    unfold hCk
    rw [if_pos]
    rw [c0, nI_clamp hn]
    exact ⟨⟨nI_pos (by decide), nI_pos (by decide), nI_pos hn⟩, by omega, by omega⟩
  rw [hk, hV_mk]
  congr 1
  funext p
  by_cases ha : p = a
  · subst ha
    have e : gIx [p, b] p = some 0 := if_pos rfl
    unfold gMg
    rw [e, cpy_o hab]
    show hCp 0 1 (nI 0) (nI 0) (nI n) (gS [p, b] I) 0 = I p
    rfl
  · by_cases hb : p = b
    · subst hb
      have e : gIx [a, p] p = some 1 := by
        show (if a = p then some 0 else match (if p = p then some 0 else match (none : Option Nat) with
          | some j => some (j + 1)
          | none => none) with
          | some j => some (j + 1)
          | none => none) = some 1
        rw [if_neg hab, if_pos rfl]
      unfold gMg
      rw [e]
      show hCp 0 1 (nI 0) (nI 0) (nI n) (gS [a, p] I) 1 = cpy I a p n p
      unfold hCp cpy
      rw [if_pos rfl, if_pos rfl, c0, nI_clamp hn]
      rfl
    · have e : gIx [a, b] p = none := by
        show (if a = p then some 0 else match (if b = p then some 0 else match (none : Option Nat) with
          | some j => some (j + 1)
          | none => none) with
          | some j => some (j + 1)
          | none => none) = none
        rw [if_neg (fun z => ha z.symm), if_neg (fun z => hb z.symm)]
      unfold gMg
      rw [e, cpy_o hb]
/-- the net's rows alike, as far as they go -/
def eqN (J I : gM) : Prop := (∀ j, j < 3 → J 1 j = I 1 j) ∧ (∀ k, 2 ≤ k → k ≤ 6 → ∀ j, j < 14 → J k j = I k j) ∧ (∀ j, j < 4 → J 7 j = I 7 j) ∧ (∀ j, j < 66 → J 8 j = I 8 j) ∧ ∀ j, j < 100 → J 9 j = I 9 j
theorem CN.cpy {J I : gM} {r : Nat → Nat} (h : CN I r) (h0 : r 0 ≤ 10) (h14 : r 1 ≤ 14) (h6 : r 2 ≤ 6) (e : eqN J I) : CN J r := by
  obtain ⟨e1, e2, e7, e8, e9⟩ := e
  obtain ⟨⟨a0, a1, a2⟩, b, c, d, f⟩ := h
  refine ⟨⟨by rw [e1 0 (by decide)]; exact a0, by rw [e1 1 (by decide)]; exact a1, by rw [e1 2 (by decide)]; exact a2⟩, fun k hk => ?_, fun i hi => by rw [e7 i hi]; exact c i hi, fun g w hg hw => by rw [e8 _ (by omega)]; exact d g w hg hw, fun a g ha hg => ?_⟩
  · rw [e2 2 (by decide) (by decide) k (by omega), e2 3 (by decide) (by decide) k (by omega), e2 4 (by decide) (by decide) k (by omega), e2 5 (by decide) (by decide) k (by omega), e2 6 (by decide) (by decide) k (by omega)]
    exact b k hk
  · obtain ⟨x, x1, x2⟩ := f a g ha hg
    exact ⟨x, x1, by rw [e9 _ (by omega)]; exact x2⟩
/-- a net is copied: places 9.. into 0.. -/
theorem pX2_copyFrom {N : Nat} {I : gM} (hN : 1000 ≤ N) : ∃ J, fX2_copyFrom N [.ref 0, .ref 9] I = some (.inl none, J) ∧ (∀ j, j < 3 → J 0 j = I 9 j) ∧ (∀ j, 3 ≤ j → J 0 j = I 0 j) ∧ (∀ k, 1 ≤ k → k ≤ 5 → ∀ j, j < 14 → J k j = I (9 + k) j) ∧ (∀ j, j < 4 → J 6 j = I 15 j) ∧ (∀ j, j < 66 → J 7 j = I 16 j) ∧ (∀ j, j < 100 → J 8 j = I 17 j) ∧ ∀ k, 9 ≤ k → J k = I k := by
  have l14 : (14 : Int32) = nI 14 := rfl
  have l4 : (4 : Int32) = nI 4 := rfl
  have l66 : (66 : Int32) = nI 66 := rfl
  have l100 : (100 : Int32) = nI 100 := rfl
  rw [eX2_copyFrom, eX2_copyFrom_0, l14, k_copy (by decide) (by decide) (by decide) (by decide), k_copy (by decide) (by decide) (by decide) (by decide), k_copy (by decide) (by decide) (by decide) (by decide), eX2_copyFrom_63, l14, l4, k_copy (by decide) (by decide) (by decide) (by decide), k_copy (by decide) (by decide) (by decide) (by decide), k_copy (by decide) (by decide) (by decide) (by decide), eX2_copyFrom_101, l66, l100, k_copy (by decide) (by decide) (by decide) (by decide), k_copy (by decide) (by decide) (by decide) (by decide)]
  refine ⟨_, rfl, fun j hj => ?_, fun j hj => ?_, fun k k1 k5 j hj => ?_, fun j hj => ?_, fun j hj => ?_, fun j hj => ?_, fun k hk => ?_⟩
  · rw [cpy_o (by decide), cpy_o (by decide), cpy_o (by decide), cpy_o (by decide), cpy_o (by decide), cpy_o (by decide), cpy_o (by decide), cpy_o (by decide)]
    match j, hj with
    | 0, _ => rw [gU_un (Or.inr (by decide)), gU_un (Or.inr (by decide)), gU_us]
    | 1, _ => rw [gU_un (Or.inr (by decide)), gU_us]
    | 2, _ => rw [gU_us]
    | j + 3, h => omega
  · rw [cpy_o (by decide), cpy_o (by decide), cpy_o (by decide), cpy_o (by decide), cpy_o (by decide), cpy_o (by decide), cpy_o (by decide), cpy_o (by decide), gU_un (Or.inr (by omega)), gU_un (Or.inr (by omega)), gU_un (Or.inr (by omega))]
  · match k, k1, k5 with
    | 1, _, _ => rw [cpy_o (by decide), cpy_o (by decide), cpy_o (by decide), cpy_o (by decide), cpy_o (by decide), cpy_o (by decide), cpy_o (by decide), cpy_in hj, gU_ok (by decide), gU_ok (by decide), gU_ok (by decide)]
    | 2, _, _ => rw [cpy_o (by decide), cpy_o (by decide), cpy_o (by decide), cpy_o (by decide), cpy_o (by decide), cpy_o (by decide), cpy_in hj, cpy_o (by decide), gU_ok (by decide), gU_ok (by decide), gU_ok (by decide)]
    | 3, _, _ => rw [cpy_o (by decide), cpy_o (by decide), cpy_o (by decide), cpy_o (by decide), cpy_o (by decide), cpy_in hj, cpy_o (by decide), cpy_o (by decide), gU_ok (by decide), gU_ok (by decide), gU_ok (by decide)]
    | 4, _, _ => rw [cpy_o (by decide), cpy_o (by decide), cpy_o (by decide), cpy_o (by decide), cpy_in hj, cpy_o (by decide), cpy_o (by decide), cpy_o (by decide), gU_ok (by decide), gU_ok (by decide), gU_ok (by decide)]
    | 5, _, _ => rw [cpy_o (by decide), cpy_o (by decide), cpy_o (by decide), cpy_in hj, cpy_o (by decide), cpy_o (by decide), cpy_o (by decide), cpy_o (by decide), gU_ok (by decide), gU_ok (by decide), gU_ok (by decide)]
    | k + 6, _, h => omega
  · rw [cpy_o (by decide), cpy_o (by decide), cpy_in hj, cpy_o (by decide), cpy_o (by decide), cpy_o (by decide), cpy_o (by decide), cpy_o (by decide), gU_ok (by decide), gU_ok (by decide), gU_ok (by decide)]
  · rw [cpy_o (by decide), cpy_in hj, cpy_o (by decide), cpy_o (by decide), cpy_o (by decide), cpy_o (by decide), cpy_o (by decide), cpy_o (by decide), gU_ok (by decide), gU_ok (by decide), gU_ok (by decide)]
  · rw [cpy_in hj, cpy_o (by decide), cpy_o (by decide), cpy_o (by decide), cpy_o (by decide), cpy_o (by decide), cpy_o (by decide), cpy_o (by decide), gU_ok (by decide), gU_ok (by decide), gU_ok (by decide)]
  · rw [cpy_o (by omega), cpy_o (by omega), cpy_o (by omega), cpy_o (by omega), cpy_o (by omega), cpy_o (by omega), cpy_o (by omega), cpy_o (by omega), gU_ok (by omega), gU_ok (by omega), gU_ok (by omega)]
theorem QI.cpy {J I : gM} {c : Nat → List Nat} {own : Nat → Nat} {u P : Nat} (h : QI I c own u P) (h0 : ∀ j, 9 ≤ j → j ≤ 11 → J 0 j = I 0 j) (h123 : ∀ k, 1 ≤ k → k ≤ 3 → ∀ q, q < 100 → J k q = I k q) (h5 : ∀ j, j < u → J 5 j = I 5 j) : QI J c own u P := by
  obtain ⟨⟨a1, a2, a3, a4⟩, ⟨b1, b2⟩, hqs, hn, hown⟩ := h
  have hx : ∀ q, q ≤ 100 → ∀ e, nxe (I 5) (c q) e → nxe (J 5) (c q) e := fun q hq e => nxe_congr _ _ (fun j hj => h5 j ((hn q hq).2 j hj).1)
  refine ⟨⟨by rw [h0 9 (by decide) (by decide)]; exact a1, a2, by rw [h0 11 (by decide) (by decide)]; exact a3, a4⟩, ⟨by rw [h0 10 (by decide) (by decide)]; exact b1, hx 100 (Nat.le_refl _) _ b2⟩, fun q hq => ?_, hn, hown⟩
  obtain ⟨c1, c2, c3, c4⟩ := hqs q hq
  rw [h123 1 (by decide) (by decide) q hq, h123 2 (by decide) (by decide) q hq, h123 3 (by decide) (by decide) q hq]
  exact ⟨c1, c2, c3, hx q (by omega) _ c4⟩
theorem pX4_copyFrom {N u : Nat} {I : gM} (hu : I 10 9 = nI u) (hu5 : u ≤ 500) (hN : 1000 ≤ N) : ∃ J, fX4_copyFrom N [.ref 0, .ref 10] I = some (.inl none, J) ∧ (∀ j, 9 ≤ j → j ≤ 11 → J 0 j = I 10 j) ∧ (∀ k, 1 ≤ k → k ≤ 4 → ∀ j, j < 100 → J k j = I (10 + k) j) ∧ (∀ k, 5 ≤ k → k ≤ 9 → ∀ j, j < u → J k j = I (10 + k) j) ∧ ∀ k, 10 ≤ k → J k = I k := by
  have l100 : (100 : Int32) = nI 100 := rfl
  have u0 : ∀ (X : gM) (x y z : Int32), X 10 9 = nI u → gU (gU (gU X 0 9 x) 0 10 y) 0 11 z 0 9 = x := fun X x y z _ => by
    rw [gU_un (Or.inr (by decide)), gU_un (Or.inr (by decide)), gU_us]
  rw [eX4_copyFrom, eX4_copyFrom_0, l100, k_copy (by decide) (by decide) (by decide) (by decide), k_copy (by decide) (by decide) (by decide) (by decide), k_copy (by decide) (by decide) (by decide) (by decide), eX4_copyFrom_39, l100, k_copy (by decide) (by decide) (by decide) (by decide)]
  have hX : ∀ j, (cpy (cpy (cpy (cpy I 11 1 100) 12 2 100) 13 3 100) 14 4 100) 10 j = I 10 j := fun j => by
    rw [cpy_o (by decide), cpy_o (by decide), cpy_o (by decide), cpy_o (by decide)]
  rw [hX 9, hX 10, hX 11, hu, k_copy (by decide) (by omega) (by omega) (by omega)]
  have e1 : ∀ (Y : gM) (a b n : Nat), b ≠ 0 → cpy Y a b n 0 = Y 0 := fun Y a b n hb => cpy_o (fun e => hb e.symm)
  have hY : ∀ Z : gM, gU (gU (gU Z 0 9 (nI u)) 0 10 (I 10 10)) 0 11 (I 10 11) 0 9 = nI u := fun Z => by
    rw [gU_un (Or.inr (by decide)), gU_un (Or.inr (by decide)), gU_us]
  rw [e1 _ _ _ _ (by decide), hY, k_copy (by decide) (by omega) (by omega) (by omega), eX4_copyFrom_106, e1 _ _ _ _ (by decide), e1 _ _ _ _ (by decide), hY, k_copy (by decide) (by omega) (by omega) (by omega), e1 _ _ _ _ (by decide), e1 _ _ _ _ (by decide), e1 _ _ _ _ (by decide), hY, k_copy (by decide) (by omega) (by omega) (by omega), e1 _ _ _ _ (by decide), e1 _ _ _ _ (by decide), e1 _ _ _ _ (by decide), e1 _ _ _ _ (by decide), hY, k_copy (by decide) (by omega) (by omega) (by omega)]
  refine ⟨_, rfl, fun j j9 j11 => ?_, fun k k1 k4 j hj => ?_, fun k k5 k9 j hj => ?_, fun k hk => ?_⟩
  · rw [e1 _ _ _ _ (by decide), e1 _ _ _ _ (by decide), e1 _ _ _ _ (by decide), e1 _ _ _ _ (by decide), e1 _ _ _ _ (by decide)]
    match j, j9, j11 with
    | 9, _, _ => rw [hY, hu]
    | 10, _, _ => rw [gU_un (Or.inr (by decide)), gU_us]
    | 11, _, _ => rw [gU_us]
    | j + 12, _, h => omega
  · have t : ∀ (Z : gM), (∀ k, 1 ≤ k → k ≤ 4 → cpy (cpy (cpy (cpy (cpy Z 15 5 u) 16 6 u) 17 7 u) 18 8 u) 19 9 u k = Z k) := fun Z k a b => by
      rw [cpy_o (by omega), cpy_o (by omega), cpy_o (by omega), cpy_o (by omega), cpy_o (by omega)]
    rw [t _ k k1 k4, gU_ok (by omega), gU_ok (by omega), gU_ok (by omega)]
    match k, k1, k4 with
    | 1, _, _ => rw [cpy_o (by decide), cpy_o (by decide), cpy_o (by decide), cpy_in hj]
    | 2, _, _ => rw [cpy_o (by decide), cpy_o (by decide), cpy_in hj, cpy_o (by decide)]
    | 3, _, _ => rw [cpy_o (by decide), cpy_in hj, cpy_o (by decide), cpy_o (by decide)]
    | 4, _, _ => rw [cpy_in hj, cpy_o (by decide), cpy_o (by decide), cpy_o (by decide)]
    | k + 5, _, h => omega
  · have t : ∀ q, 15 ≤ q → (gU (gU (gU (cpy (cpy (cpy (cpy I 11 1 100) 12 2 100) 13 3 100) 14 4 100) 0 9 (nI u)) 0 10 (I 10 10)) 0 11 (I 10 11)) q = I q := fun q hq => by
      rw [gU_ok (by omega), gU_ok (by omega), gU_ok (by omega), cpy_o (by omega), cpy_o (by omega), cpy_o (by omega), cpy_o (by omega)]
    match k, k5, k9 with
    | 5, _, _ => rw [cpy_o (by decide), cpy_o (by decide), cpy_o (by decide), cpy_o (by decide), cpy_in hj, t 15 (by decide)]
    | 6, _, _ => rw [cpy_o (by decide), cpy_o (by decide), cpy_o (by decide), cpy_in hj, cpy_o (by decide), t 16 (by decide)]
    | 7, _, _ => rw [cpy_o (by decide), cpy_o (by decide), cpy_in hj, cpy_o (by decide), cpy_o (by decide), t 17 (by decide)]
    | 8, _, _ => rw [cpy_o (by decide), cpy_in hj, cpy_o (by decide), cpy_o (by decide), cpy_o (by decide), t 18 (by decide)]
    | 9, _, _ => rw [cpy_in hj, cpy_o (by decide), cpy_o (by decide), cpy_o (by decide), cpy_o (by decide), t 19 (by decide)]
    | k + 10, _, h => omega
  · rw [cpy_o (by omega), cpy_o (by omega), cpy_o (by omega), cpy_o (by omega), cpy_o (by omega), gU_ok (by omega), gU_ok (by omega), gU_ok (by omega), cpy_o (by omega), cpy_o (by omega), cpy_o (by omega), cpy_o (by omega)]
