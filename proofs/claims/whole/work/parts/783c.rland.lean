/-! ===== the reference: what is carried lands ===== -/
def lanR (r : Nat → Nat) (k : Nat) : Nat → Nat := up1 r (9 + 4 * k + 3) (lkp r k 3 + 1)
def lanS (σ : St) (k : Nat) (p : Pk) : St :=
  if lkp σ.1 k 1 = gol σ.1 p then (delN (lanR σ.1 k) p.1 (σ.1 7 + 1 - p.2.1), σ.2) else (passN (lanR σ.1 k) p.1 (bt p.2.2.2.1 (lkp σ.1 k 1)), σ.2 ++ [passP p (lkp σ.1 k 1)])
theorem RowIs.num {row : Nat → Int32} {σ : St} (h : RowIs row σ) {i x : Nat} {y : Int32} (hi : i < 245) (hy : y = nI x) : RowIs (upd row i y) (up1 σ.1 i x, σ.2) := by
  rw [hy]; exact h.put hi
theorem pX9_deliver {N f d : Nat} {σ : St} {I : gM} (hr : RowIs (I 3) σ) (hf : f < 6) (hg : flp σ.1 f 10 < 2 ^ 31) (hd : d < 2 ^ 31) : ∃ J, fX9_deliver N [.ref 0, .int (nI f), .int (nI d)] I = some (.inl none, J) ∧ RowIs (J 3) (delN σ.1 f d, σ.2) ∧ ∀ q, q ≠ 3 → J q = I q := by
  have l1 : (1 : Int32) = nI 1 := rfl
  have l6 : (6 : Int32) = nI 6 := rfl
  have l9 : (9 : Int32) = nI 9 := rfl
  have l10 : (10 : Int32) = nI 10 := rfl
  have l11 : (11 : Int32) = nI 11 := rfl
  have l65 : (65 : Int32) = nI 65 := rfl
  have ea : gb_add (gb_add (nI 65) (gb_mul (nI 11) (nI f))) (nI 10) = nI (65 + 11 * f + 10) := by
    simp only [gb_add, gb_mul, pk_mul, nI_add]
  have a6 : I 3 (65 + 11 * f + 6) + nI 1 = nI (flp σ.1 f 6 + 1) := by rw [hr.1 _ (by omega), nI_add]; rfl
  have a9 : I 3 (65 + 11 * f + 9) + nI d = nI (flp σ.1 f 9 + d) := by rw [hr.1 _ (by omega), nI_add]; rfl
  have a10 : I 3 (65 + 11 * f + 10) = nI (flp σ.1 f 10) := hr.1 _ (by omega)
  rw [eX9_deliver, eX9_deliver_0, l1, l6, l9, l10, l11, l65, r_count (by omega), r_count (by omega), r_flow (by omega), eX9_deliver_37, ea, ckI (by omega) (by decide), nI_clamp (by omega)]
  rw [gU_un (k' := 3) (j' := 65 + 11 * f + 9) (Or.inr (by omega)), a6, a9, gU_un (k' := 3) (j' := 65 + 11 * f + 10) (Or.inr (by omega)), gU_un (k' := 3) (j' := 65 + 11 * f + 10) (Or.inr (by omega)), a10, jmax hg hd]
  refine ⟨_, rfl, ?_, fun q hq => by rw [gU_ok hq, gU_ok hq, gU_ok hq]⟩
  rw [gU_u3, gU_u3, gU_u3]
  have h1 := ((hr.put (k := 65 + 11 * f + 6) (x := flp σ.1 f 6 + 1) (by omega)).put (k := 65 + 11 * f + 9) (x := flp σ.1 f 9 + d) (by omega)).put (k := 65 + 11 * f + 10) (x := max (flp σ.1 f 10) d) (by omega)
  rw [Nat.max_comm] at h1 ⊢
  exact h1
theorem bt_b2 (a k : Nat) : nI (bt a k) = b2 (a.testBit k) := by
  rw [bt_tb]; cases a.testBit k <;> rfl
theorem pX9_land {N k j : Nat} {σ : St} {I : gM} {cl : List (Nat × Pk)} {p : Pk} (hr : RowIs (I 3) σ) (hcl : CL I cl) (hj : cl[j]? = some (k, p)) (hj70 : j < 70) (h14 : k < 14) (hf : p.1 < 6) (h7 : σ.1 7 ≤ 10100) (hs : p.2.1 ≤ σ.1 7) (hb : p.2.2.2.1 < 1024) (hn : lkp σ.1 k 1 < 10) (hgl : gol σ.1 p < 10) (hg : flp σ.1 p.1 10 ≤ 10101) (hl : σ.2.length < 500) :
    ∃ J, fX9_land N [.ref 0, .int (nI j)] I = some (.inl none, J) ∧ RowIs (J 3) (lanS σ k p) ∧ ∀ q, q ≠ 3 → J q = I q := by
  have l0 : (0 : Int32) = nI 0 := rfl
  have l1 : (1 : Int32) = nI 1 := rfl
  have l2 : (2 : Int32) = nI 2 := rfl
  have l3 : (3 : Int32) = nI 3 := rfl
  have l4 : (4 : Int32) = nI 4 := rfl
  have l5 : (5 : Int32) = nI 5 := rfl
  have l7 : (7 : Int32) = nI 7 := rfl
  have l8 : (8 : Int32) = nI 8 := rfl
  have l9 : (9 : Int32) = nI 9 := rfl
  obtain ⟨u1, u2⟩ := hcl.2 j (k, p) hj
  have u1' : I 14 j = nI k := u1
  have e5 : gb_mul (nI 5) (nI j) = nI (5 * j) := pk_mul _ _
  have e50 : ∀ w, gb_add (nI (5 * j)) (nI w) = nI (5 * j + w) := fun w => nI_add _ _
  have e4 : gb_add (gb_add (nI 9) (gb_mul (nI 4) (nI k))) (nI 3) = nI (9 + 4 * k + 3) := by
    simp only [gb_add, gb_mul, pk_mul, nI_add]
  have i1 : I 3 (9 + 4 * k + 1) = nI (lkp σ.1 k 1) := hr.1 _ (by omega)
  have i3 : I 3 (9 + 4 * k + 3) = nI (lkp σ.1 k 3) := hr.1 _ (by omega)
  have v0 : I 13 (5 * j + 0) = nI p.1 := u2 0 (by decide)
  have v1 : I 13 (5 * j + 1) = nI p.2.1 := u2 1 (by decide)
  have v2 : I 13 (5 * j + 2) = nI p.2.2.1 := u2 2 (by decide)
  have v3 : I 13 (5 * j + 3) = nI p.2.2.2.1 := u2 3 (by decide)
  have hr1 : RowIs (gU I 3 (9 + 4 * k + 3) (nI (lkp σ.1 k 3 + 1)) 3) (lanR σ.1 k, σ.2) := by
    rw [gU_u3]; exact hr.put (by omega)
  have ig : gU I 3 (9 + 4 * k + 3) (nI (lkp σ.1 k 3 + 1)) 3 (65 + 11 * p.1 + 1) = nI (gol σ.1 p) := by
    rw [gU_un (Or.inr (by omega)), hr.1 _ (by omega)]; rfl
  have ea : gb_add (nI (lkp σ.1 k 3)) (nI 1) = nI (lkp σ.1 k 3 + 1) := nI_add _ _
  rw [eX9_land, eX9_land_0, l0, l1, l3, l4, l5, l7, l8, l9, e5, e50 0, e50 1, e50 3, ckI (by omega) (by decide), ckI (by omega) (by decide), nI_clamp (n := j) (by omega), u1', r_link (N := N) (k := k) (w := 1) (by omega), i1, ckI (by omega) (by decide), u1', e4, ckI (by omega) (by decide), ckI (by omega) (by decide), nI_clamp (n := 9 + 4 * k + 3) (by omega), i3, ea, nI_clamp (n := 5 * j + 0) (by omega), v0, r_flow (by omega), ig]
  by_cases hgo : lkp σ.1 k 1 = gol σ.1 p
  · have i7 : gU I 3 (9 + 4 * k + 3) (nI (lkp σ.1 k 3 + 1)) 3 7 = nI (σ.1 7) := by
      rw [gU_un (Or.inr (by omega))]; exact hr.1 7 (by decide)
    have n7 : (nI 7).toNatClampNeg = 7 := nI_clamp (by decide)
    have ed : gb_sub (gb_add (nI (σ.1 7)) (nI 1)) (nI p.2.1) = nI (σ.1 7 + 1 - p.2.1) := by
      show nI _ + nI 1 - nI _ = _
      rw [nI_add, pk_sub (by omega)]
    rw [if_neg (fun z => ((cne (by omega) (by omega)).mp z) hgo), ckI (by decide) (by decide), ckI (by omega) (by decide), n7, i7, nI_clamp (n := 5 * j + 1) (by omega), gU_ok (k' := 13) (by decide), v1, ed]
    obtain ⟨J, j0, j1, j2⟩ := pX9_deliver (N := N) (f := p.1) (d := σ.1 7 + 1 - p.2.1) (σ := (lanR σ.1 k, σ.2)) (I := gS (rg 0 18) (gU I 3 (9 + 4 * k + 3) (nI (lkp σ.1 k 3 + 1)))) (by rw [gSm18 (by decide)]; exact hr1) hf (by show flp (lanR σ.1 k) p.1 10 < _; have : flp (lanR σ.1 k) p.1 10 = flp σ.1 p.1 10 := up1_n (by omega); omega) (by omega)
    rw [j0, hV_mk]
    refine ⟨_, rfl, ?_, fun q hq => by rw [rlift (t := fun q => q = 3) (fun q hq => j2 q hq) q hq, gU_ok hq]⟩
    rw [gM18 (by decide)]
    unfold lanS
    rw [if_pos hgo]; exact j1
  · have hlen : (lanR σ.1 k, σ.2).2.length < 500 := hl
    have go : ∀ s3 : Nat, s3 = bt p.2.2.2.1 (lkp σ.1 k 1) → ∃ J, hX9_land_108 N (nI (5 * j)) (nI p.1) (nI (lkp σ.1 k 1)) (nI p.1) (nI 8) (nI s3) (gU I 3 (9 + 4 * k + 3) (nI (lkp σ.1 k 3 + 1))) = some (.inl none, J) ∧ RowIs (J 3) (lanS σ k p) ∧ ∀ q, q ≠ 3 → J q = I q := fun s3 hs3 => by
      have i8 : gU I 3 (9 + 4 * k + 3) (nI (lkp σ.1 k 3 + 1)) 3 (65 + 11 * p.1 + 8) + nI s3 = nI (flp (lanR σ.1 k) p.1 8 + s3) := by
        rw [hr1.1 _ (by omega), nI_add]; rfl
      have hr2 : RowIs (gU (gU I 3 (9 + 4 * k + 3) (nI (lkp σ.1 k 3 + 1))) 3 (65 + 11 * p.1 + 8) (nI (flp (lanR σ.1 k) p.1 8 + s3)) 3) (passN (lanR σ.1 k) p.1 s3, σ.2) := by
        rw [gU_u3]; exact hr1.put (k := 65 + 11 * p.1 + 8) (by omega)
      have eb : gb_or (nI p.2.2.2.1) (gb_shl (nI 1) (nI (lkp σ.1 k 1))) = nI (p.2.2.2.1 ||| 2 ^ lkp σ.1 k 1) := by
        rw [shl1 (by omega)]; exact nI_or _ _
      have ec : gb_add (nI p.2.2.1) (nI 1) = nI (p.2.2.1 + 1) := nI_add _ _
      rw [eX9_land_108, r_count (by omega), i8, l1, l2, l3, e50 1, e50 2, e50 3, ckI (by omega) (by decide), ckI (by omega) (by decide), ckI (by omega) (by decide), nI_clamp (n := 5 * j + 1) (by omega), nI_clamp (n := 5 * j + 2) (by omega), nI_clamp (n := 5 * j + 3) (by omega), gU_ok (k' := 13) (by decide), gU_ok (k' := 13) (by decide), v1, v2, v3, ec, eb]
      obtain ⟨J, j0, j1, j2⟩ := r_come (N := N) (σ := (passN (lanR σ.1 k) p.1 s3, σ.2)) (p := passP p (lkp σ.1 k 1)) (K := fun I6 => some (.inl none, I6)) hr2 hl
      refine ⟨J, j0, ?_, fun q hq => by rw [j2 q hq, gU_ok hq, gU_ok hq]⟩
      unfold lanS
      rw [if_neg hgo, ← hs3]; exact j1
    rw [if_pos ((cne (by omega) (by omega)).mpr hgo), ckI (by omega) (by decide), nI_clamp (n := 5 * j + 3) (by omega), gU_ok (k' := 13) (by decide), v3, r_has (by omega) (by omega), eX9_land_100, l0, l1]
    cases hbt : p.2.2.2.1.testBit (lkp σ.1 k 1) with
    | true =>
      rw [if_neg (by decide)]
      exact go 1 (by rw [bt_tb, hbt]; rfl)
    | false =>
      rw [if_pos (by decide)]
      exact go 0 (by rw [bt_tb, hbt]; rfl)
