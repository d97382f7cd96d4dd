/-! ===== a flow is added; conflicts; a net begins ===== -/
def layF (r : Nat → Nat) (a b c d : Nat) : Nat → Nat := fun x => if x = 2 then r 2 + 1 else if x = 65 + 11 * r 2 + 0 then a else if x = 65 + 11 * r 2 + 1 then b else if x = 65 + 11 * r 2 + 2 then c else if x = 65 + 11 * r 2 + 3 then d else if 65 + 11 * r 2 ≤ x ∧ x < 65 + 11 * r 2 + 11 then 0 else r x
theorem layF_2 {r : Nat → Nat} {a b c d : Nat} : layF r a b c d 2 = r 2 + 1 := if_pos rfl
theorem layF_n {r : Nat → Nat} {a b c d x : Nat} (h2 : x ≠ 2) (h : x < 65 + 11 * r 2 ∨ 65 + 11 * r 2 + 11 ≤ x) : layF r a b c d x = r x := by
  unfold layF
  rw [if_neg h2, if_neg (by omega), if_neg (by omega), if_neg (by omega), if_neg (by omega), if_neg (by omega)]
def fv (a b c d w : Nat) : Nat := match w with
  | 0 => a
  | 1 => b
  | 2 => c
  | 3 => d
  | _ => 0
theorem layF_w {r : Nat → Nat} {a b c d w : Nat} (hw : w < 11) : flp (layF r a b c d) (r 2) w = fv a b c d w := by
  show layF r a b c d (65 + 11 * r 2 + w) = _
  unfold layF
  match w, hw with
  | 0, _ => rw [if_neg (by omega), if_pos rfl]; rfl
  | 1, _ => rw [if_neg (by omega), if_neg (by omega), if_pos rfl]; rfl
  | 2, _ => rw [if_neg (by omega), if_neg (by omega), if_neg (by omega), if_pos rfl]; rfl
  | 3, _ => rw [if_neg (by omega), if_neg (by omega), if_neg (by omega), if_neg (by omega), if_pos rfl]; rfl
  | w + 4, h =>
    rw [if_neg (by omega), if_neg (by omega), if_neg (by omega), if_neg (by omega), if_neg (by omega), if_pos (by omega)]
    unfold fv
    rfl
theorem k_put {N f w : Nat} {x : Int32} {I : gM} {K : gM → gO} (hf : f < 6) (hw : w < 11) : hV (fX2_putNumber N [.ref 0, .int (nI f), .int (nI w), .int x] (gS (rg 0 9) I)) (rg 0 9) I K = K (gU I 7 (f * 11 + w) x) := by
  rw [pX2_putNumber N _ _ (by omega), hV_mk]
  congr 1
  have e := gMg_U (b := 0) (n := 9) (k := 7) (j := f * 11 + w) (x := x) (I := I) (J := gS (rg 0 9) I) (by decide)
  rw [gMg_same I (by decide)] at e
  exact e
theorem pX2_putFlow {N a b c d : Nat} {r : Nat → Nat} {I : gM} (h : CN (sh1 I) r) (h14 : r 1 ≤ 14) (h6 : r 2 < 6) (hN : 1000 ≤ N) :
    ∃ J, fX2_putFlow N [.ref 0, .int (nI a), .int (nI b), .int (nI c), .int (nI d)] I = some (.inl none, J) ∧ CN (sh1 J) (layF r a b c d) ∧ ∀ k, 9 ≤ k → J k = I k := by
  obtain ⟨⟨a0, a1, a2⟩, bb, cc, dd, ee⟩ := h
  have a2' : I 0 2 = nI (r 2) := a2
  have l6 : (6 : Int32) = nI 6 := rfl
  have l0 : (0 : Int32) = nI 0 := rfl
  have l1 : (1 : Int32) = nI 1 := rfl
  have l2 : (2 : Int32) = nI 2 := rfl
  have l3 : (3 : Int32) = nI 3 := rfl
  have l11 : (11 : Int32) = nI 11 := rfl
  have ea : gb_add (nI (r 2)) (nI 1) = nI (r 2 + 1) := nI_add _ _
  have key : ∀ m i : Nat, i ≤ 11 → 11 - i < m → ∀ K : gM, (∀ w, w < i → K 7 (r 2 * 11 + w) = nI 0) → (∀ q, (q < r 2 * 11 ∨ r 2 * 11 + 11 ≤ q) → K 7 q = I 7 q) → (∀ k, k ≠ 7 → K k = gU I 0 2 (nI (r 2 + 1)) k) →
      ∃ J, hX2_putFlow_29 N m (nI a) (nI b) (nI c) (nI d) (nI (r 2)) (nI i) K = some (.inl none, J) ∧ (∀ w, w < 11 → J 7 (r 2 * 11 + w) = nI (fv a b c d w)) ∧ (∀ q, (q < r 2 * 11 ∨ r 2 * 11 + 11 ≤ q) → J 7 q = I 7 q) ∧ ∀ k, k ≠ 7 → J k = gU I 0 2 (nI (r 2 + 1)) k := by
    intro m
    induction m with
    | zero => intro i _ h; omega
    | succ m ih =>
      intro i hi hm K k1 k2 k3
      rw [eX2_putFlow_29, l11]
      by_cases hin : i = 11
      · subst hin
        rw [if_pos ((cge (by omega) (by omega)).mpr (Nat.le_refl _)), l0, l1, k_put h6 (by decide), k_put h6 (by decide), eX2_putFlow_67, l2, l3, k_put h6 (by decide), k_put h6 (by decide)]
        refine ⟨_, rfl, fun w hw => ?_, fun q hq => ?_, fun k hk => by rw [gU_ok hk, gU_ok hk, gU_ok hk, gU_ok hk]; exact k3 k hk⟩
        · match w, hw with
          | 0, _ => rw [gU_un (Or.inr (by omega)), gU_un (Or.inr (by omega)), gU_un (Or.inr (by omega)), gU_us]; rfl
          | 1, _ => rw [gU_un (Or.inr (by omega)), gU_un (Or.inr (by omega)), gU_us]; rfl
          | 2, _ => rw [gU_un (Or.inr (by omega)), gU_us]; rfl
          | 3, _ => rw [gU_us]; rfl
          | w + 4, h =>
            rw [gU_un (Or.inr (by omega)), gU_un (Or.inr (by omega)), gU_un (Or.inr (by omega)), gU_un (Or.inr (by omega)), k1 _ h]
            rfl
        · rw [gU_un (Or.inr (by omega)), gU_un (Or.inr (by omega)), gU_un (Or.inr (by omega)), gU_un (Or.inr (by omega))]; exact k2 q hq
      · rw [if_neg (fun z => hin (by have := (cge (by omega) (by omega)).mp z; omega)), l0, k_put h6 (by omega), l1, nI_add]
        refine ih (i + 1) (by omega) (by omega) _ (fun w hw => ?_) (fun q hq => by rw [gU_un (Or.inr (by omega))]; exact k2 q hq) (fun k hk => by rw [gU_ok hk]; exact k3 k hk)
        by_cases e : w = i
        · rw [e, gU_us]
        · rw [gU_un (Or.inr (by omega))]; exact k1 w (by omega)
  obtain ⟨J, j0, j1, j2, j3⟩ := key N 0 (by omega) (by omega) (gU I 0 2 (nI (r 2 + 1))) (fun w hw => absurd hw (Nat.not_lt_zero _)) (fun q _ => by rw [gU_ok (by decide)]) (fun _ _ => rfl)
  rw [eX2_putFlow, eX2_putFlow_0, a2', l6, if_pos ((clt (by omega) (by decide)).mpr h6), l1, ea, l0, j0]
  have hlo : ∀ x, x ≠ 2 → (x < 65 ∨ 131 ≤ x) → layF r a b c d x = r x := fun x h2 hx => layF_n h2 (by omega)
  have hs : sameL r (layF r a b c d) := ⟨hlo 0 (by decide) (by omega), hlo 1 (by decide) (by omega), fun j hj => ⟨hlo _ (by omega) (by omega), hlo _ (by omega) (by omega)⟩⟩
  have jj : ∀ k, k ≠ 7 → k ≠ 0 → J k = I k := fun k h7 h0 => by rw [j3 k h7, gU_ok h0]
  refine ⟨J, rfl, ⟨⟨?_, ?_, ?_⟩, fun k hk => ?_, fun i hi => ?_, fun f w hf hw => ?_, fun x g hx hg => ?_⟩, fun k hk => jj k (by omega) (by omega)⟩
  · show J 0 0 = _
    rw [j3 0 (by decide), gU_un (Or.inr (by decide)), hlo 0 (by decide) (by omega)]; exact a0
  · show J 0 1 = _
    rw [j3 0 (by decide), gU_un (Or.inr (by decide)), hlo 1 (by decide) (by omega)]; exact a1
  · show J 0 2 = _
    rw [j3 0 (by decide), gU_us, layF_2]
  · rw [hlo 1 (by decide) (by omega)] at hk
    have l : ∀ w, w < 4 → lkp (layF r a b c d) k w = lkp r k w := fun w hw => hlo _ (by omega) (by omega)
    have lc : cfp (layF r a b c d) k = cfp r k := hlo _ (by omega) (by omega)
    show J 1 k = _ ∧ J 2 k = _ ∧ J 3 k = _ ∧ J 4 k = _ ∧ J 5 k = _
    rw [jj 1 (by decide) (by decide), jj 2 (by decide) (by decide), jj 3 (by decide) (by decide), jj 4 (by decide) (by decide), jj 5 (by decide) (by decide), l 0 (by decide), l 1 (by decide), l 2 (by decide), l 3 (by decide), lc]
    exact bb k hk
  · show J 6 i = _
    rw [jj 6 (by decide) (by decide), hlo _ (by omega) (by omega)]; exact cc i hi
  · rw [layF_2] at hf
    show J 7 (f * 11 + w) = _
    by_cases e : f = r 2
    · subst e
      rw [j1 w hw, layF_w hw]
    · have lf : flp (layF r a b c d) f w = flp r f w := layF_n (by omega) (by omega)
      rw [j2 _ (by omega), lf]; exact dd f w (by omega) hw
  · rw [hs.1] at hx hg
    obtain ⟨z, z1, z2⟩ := ee x g hx hg
    refine ⟨z, isD_congr hs z1, ?_⟩
    show J 8 (x * 10 + g) = _
    rw [jj 8 (by decide) (by decide)]; exact z2
theorem pX9_layFlow {N a b c d : Nat} {σ : St} {I : gM} (hr : RowIs (I 0) σ) (h6 : σ.1 2 < 6) (hN : 1000 ≤ N) : ∃ J, fX9_layFlow N [.ref 0, .int (nI a), .int (nI b), .int (nI c), .int (nI d)] I = some (.inl none, J) ∧ RowIs (J 0) (layF σ.1 a b c d, σ.2) ∧ ∀ k, k ≠ 0 → J k = I k := by
  have l0 : (0 : Int32) = nI 0 := rfl
  have l1 : (1 : Int32) = nI 1 := rfl
  have l2 : (2 : Int32) = nI 2 := rfl
  have l3 : (3 : Int32) = nI 3 := rfl
  have l11 : (11 : Int32) = nI 11 := rfl
  have l65 : (65 : Int32) = nI 65 := rfl
  have e2 : I 0 2 = nI (σ.1 2) := hr.1 2 (by decide)
  have n2 : (nI 2).toNatClampNeg = 2 := nI_clamp (by decide)
  have eP : gb_add (nI 65) (gb_mul (nI 11) (nI (σ.1 2))) = nI (65 + 11 * σ.1 2) := by
    simp only [gb_add, gb_mul, pk_mul, nI_add]
  have ea : ∀ w, gb_add (nI (65 + 11 * σ.1 2)) (nI w) = nI (65 + 11 * σ.1 2 + w) := fun w => nI_add _ _
  have ea1 : gb_add (nI (σ.1 2)) (nI 1) = nI (σ.1 2 + 1) := nI_add _ _
  have key : ∀ m i : Nat, i ≤ 11 → 11 - i < m → ∀ K : gM, (∀ w, w < i → K 0 (65 + 11 * σ.1 2 + w) = nI 0) → (∀ q, (q < 65 + 11 * σ.1 2 ∨ 65 + 11 * σ.1 2 + 11 ≤ q) → K 0 q = I 0 q) → (∀ k, k ≠ 0 → K k = I k) →
      ∃ J, hX9_layFlow_14 N m (nI a) (nI b) (nI c) (nI d) (nI (65 + 11 * σ.1 2)) (nI i) K = some (.inl none, J) ∧ (∀ w, w < 11 → J 0 (65 + 11 * σ.1 2 + w) = nI (fv a b c d w)) ∧ J 0 2 = nI (σ.1 2 + 1) ∧ (∀ q, q ≠ 2 → (q < 65 + 11 * σ.1 2 ∨ 65 + 11 * σ.1 2 + 11 ≤ q) → J 0 q = I 0 q) ∧ ∀ k, k ≠ 0 → J k = I k := by
    intro m
    induction m with
    | zero => intro i _ h; omega
    | succ m ih =>
      intro i hi hm K k1 k2 k3
      rw [eX9_layFlow_14, l11]
      by_cases hin : i = 11
      · subst hin
        have v2 : gU (gU (gU (gU K 0 (65 + 11 * σ.1 2 + 0) (nI a)) 0 (65 + 11 * σ.1 2 + 1) (nI b)) 0 (65 + 11 * σ.1 2 + 2) (nI c)) 0 (65 + 11 * σ.1 2 + 3) (nI d) 0 2 = nI (σ.1 2) := by
          rw [gU_un (Or.inr (by omega)), gU_un (Or.inr (by omega)), gU_un (Or.inr (by omega)), gU_un (Or.inr (by omega)), k2 2 (by omega)]; exact e2
        rw [if_pos ((cge (by omega) (by omega)).mpr (Nat.le_refl _)), l0, l1, l2, l3, ea, ea, ea, ea, n2, ckI (by omega) (by decide), ckI (by omega) (by decide), ckI (by omega) (by decide), ckI (by omega) (by decide), ckI (by decide) (by decide), ckI (by decide) (by decide), nI_clamp (n := 65 + 11 * σ.1 2 + 0) (by omega), nI_clamp (n := 65 + 11 * σ.1 2 + 1) (by omega), nI_clamp (n := 65 + 11 * σ.1 2 + 2) (by omega), nI_clamp (n := 65 + 11 * σ.1 2 + 3) (by omega), v2, ea1]
        refine ⟨_, rfl, fun w hw => ?_, gU_us, fun q q2 hq => ?_, fun k hk => by rw [gU_ok hk, gU_ok hk, gU_ok hk, gU_ok hk, gU_ok hk]; exact k3 k hk⟩
        · rw [gU_un (Or.inr (by omega))]
          match w, hw with
          | 0, _ => rw [gU_un (Or.inr (by omega)), gU_un (Or.inr (by omega)), gU_un (Or.inr (by omega)), gU_us]; rfl
          | 1, _ => rw [gU_un (Or.inr (by omega)), gU_un (Or.inr (by omega)), gU_us]; rfl
          | 2, _ => rw [gU_un (Or.inr (by omega)), gU_us]; rfl
          | 3, _ => rw [gU_us]; rfl
          | w + 4, h =>
            rw [gU_un (Or.inr (by omega)), gU_un (Or.inr (by omega)), gU_un (Or.inr (by omega)), gU_un (Or.inr (by omega)), k1 _ h]
            rfl
        · rw [gU_un (Or.inr q2), gU_un (Or.inr (by omega)), gU_un (Or.inr (by omega)), gU_un (Or.inr (by omega)), gU_un (Or.inr (by omega))]; exact k2 q hq
      · rw [if_neg (fun z => hin (by have := (cge (by omega) (by omega)).mp z; omega)), ea, ckI (by omega) (by decide), nI_clamp (by omega), l1, nI_add, l0]
        refine ih (i + 1) (by omega) (by omega) _ (fun w hw => ?_) (fun q hq => by rw [gU_un (Or.inr (by omega))]; exact k2 q hq) (fun k hk => by rw [gU_ok hk]; exact k3 k hk)
        by_cases e : w = i
        · rw [e, gU_us]
        · rw [gU_un (Or.inr (by omega))]; exact k1 w (by omega)
  obtain ⟨J, j0, j1, j2, j3, j4⟩ := key N 0 (by omega) (by omega) I (fun w hw => absurd hw (Nat.not_lt_zero _)) (fun _ _ => rfl) (fun _ _ => rfl)
  rw [eX9_layFlow, eX9_layFlow_0, l2, l65, l11, n2, e2, eP, ckI (by decide) (by decide), l0, j0]
  refine ⟨J, rfl, ⟨fun k hk => ?_, ?_, fun i p hp w hw => ?_⟩, j4⟩
  · show _ = nI (layF σ.1 a b c d k)
    by_cases h2 : k = 2
    · rw [h2, layF_2, j2]
    · by_cases h3 : k < 65 + 11 * σ.1 2 ∨ 65 + 11 * σ.1 2 + 11 ≤ k
      · rw [layF_n h2 h3, j3 k h2 h3]; exact hr.1 k hk
      · have e : k = 65 + 11 * σ.1 2 + (k - (65 + 11 * σ.1 2)) := by omega
        have hw : k - (65 + 11 * σ.1 2) < 11 := by omega
        have h4 := layF_w (r := σ.1) (a := a) (b := b) (c := c) (d := d) hw
        unfold flp at h4
        rw [e, j1 _ hw, h4]
  · rw [j3 _ (by omega) (by omega)]; exact hr.2.1
  · rw [j3 _ (by omega) (by omega)]; exact hr.2.2 i p hp w hw
