/-! ===== the first state of the reference ===== -/
def r00 : Nat → Nat := layF (layL (layL (rz 3) 0 1 1) 1 2 1) 0 2 50 0
def ab0 : AB := ((r00, []), [], none, [])
theorem rz3 : up1 (rz 0) 0 3 = rz 3 := by
  funext x
  by_cases e : x = 0
  · rw [e, up1_s]; rfl
  · rw [up1_n e]
    unfold rz
    rw [if_neg e, if_neg e]
theorem rg22 : rg 2 2 = [2, 3] := rfl
theorem first_m {N : Nat} {I : gM} (h2 : I 0 2 = 0) (hN : 20000 ≤ N) : ∃ J, fX9_init_k148 N [some (.ref 0)] [] I = some (.inl none, J) ∧ INm J ab0 := by
  have l0 : (0 : Int32) = nI 0 := rfl
  have n0 : (0 : Int32).toNatClampNeg = 0 := by decide
  have c0 : ∀ X : gO, ck 2746 0 X = X := fun X => by rw [l0, ckI (by decide) (by decide)]
  have o1 : ∀ (A B : gM) (q k : Nat), k ≠ q → gMg [q] A B k = A k := fun A B q k hk => (gMg_rgo (b := q) (n := 1) (p := k) (I := A) (J := B) (by omega) : gMg (rg q 1) A B k = A k)
  have o2 : ∀ (A B : gM) (q : Nat), gMg [q] A B q = B 0 := fun A B q => (gMg_rgi (b := q) (n := 1) (j := 0) (I := A) (J := B) (by decide) : gMg (rg q 1) A B (q + 0) = B 0)
  have s1 : ∀ A : gM, gS [2] A 0 = A 2 := fun A => rfl
  obtain ⟨B, b0, b1, b2', b3, b4, b5⟩ := pX9_begin (N := N) (I := gS (rg 0 18) I) hN
  have r1 : RowIs (gU (gMg (rg 0 18) I B) 2 0 3 2) (rz 3, []) := by
    rw [gU_u3, gM18 (by decide), ← rz3]
    exact b1.put (k := 0) (x := 3) (by decide)
  obtain ⟨C, c1, c2, c3⟩ := pX9_layLink (N := N) (a := 0) (b := 1) (c := 1) (I := gS [2] (gU (gMg (rg 0 18) I B) 2 0 3)) (σ := (rz 3, [])) (by rw [s1]; exact r1) (by decide)
  obtain ⟨D, d1, d2, d3⟩ := pX9_layLink (N := N) (a := 1) (b := 2) (c := 1) (I := gS [2] (gMg [2] (gU (gMg (rg 0 18) I B) 2 0 3) C)) (σ := (layL (rz 3) 0 1 1, [])) (by rw [s1, o2]; exact c2) (by decide)
  obtain ⟨E, e1, e2, e3⟩ := pX9_layFlow (N := N) (a := 0) (b := 2) (c := 50) (d := 0) (I := gS [2] (gMg [2] (gMg [2] (gU (gMg (rg 0 18) I B) 2 0 3) C) D)) (σ := (layL (layL (rz 3) 0 1 1) 1 2 1, [])) (by rw [s1, o2]; exact d2) (by decide) (by omega)
  obtain ⟨F, f0, f1, f2, f3⟩ := m_copyA (N := N) (n1 := 2746) (n2 := 2746) (a := 2) (b := 3) (p := 0) (q := 0) (J := gS (rg 0 18) (gMg [2] (gMg [2] (gMg [2] (gU (gMg (rg 0 18) I B) 2 0 3) C) D) E)) (by decide) (by decide) (by decide) (by decide) (by decide) hN
  rw [k148, b0, hV_mk, c0, n0]
  have c1' : fX9_layLink N [.ref 0, .int 0, .int 1, .int 1] (gS [2] (gU (gMg (rg 0 18) I B) 2 0 3)) = some (.inl none, C) := c1
  have d1' : fX9_layLink N [.ref 0, .int 1, .int 2, .int 1] (gS [2] (gMg [2] (gU (gMg (rg 0 18) I B) 2 0 3) C)) = some (.inl none, D) := d1
  have e1' : fX9_layFlow N [.ref 0, .int 0, .int 2, .int 50, .int 0] (gS [2] (gMg [2] (gMg [2] (gU (gMg (rg 0 18) I B) 2 0 3) C) D)) = some (.inl none, E) := e1
  rw [c1', hV_mk, d1', hV_mk, e1', hV_mk, eX9_takeRead, eX9_takeRead_0, rg22]
  have f0' : ∀ K : gM → gO, hV (fX9_copy N 2746 2746 [.ref 0, .int 0, .ref 1, .int 0] (gS [2, 3] (gS (rg 0 18) (gMg [2] (gMg [2] (gMg [2] (gU (gMg (rg 0 18) I B) 2 0 3) C) D) E)))) [2, 3] (gS (rg 0 18) (gMg [2] (gMg [2] (gMg [2] (gU (gMg (rg 0 18) I B) 2 0 3) C) D) E)) K = K F := f0
  rw [f0', hV_mk]
  have fz : F 0 2 = 0 := by
    rw [f3 0 (by decide), gSm18 (by decide), o1 _ _ 2 0 (by decide), o1 _ _ 2 0 (by decide), o1 _ _ 2 0 (by decide), gU_ok (by decide), gM18 (by decide), b4 2 (by decide) (by decide), gSm18 (by decide)]
    exact h2
  refine ⟨_, rfl, ?_, ⟨?_, fun i τ hτ => by cases hτ⟩, ⟨?_, fun τ hτ => by cases hτ⟩, ?_, fun j x hx => by cases hx⟩
  · rw [gM18 (by decide), gU_ok (by decide), gU_ok (by decide)]
    have hE : RowIs (E 0) (r00, []) := e2
    refine hE.congr (Nat.zero_le _) (fun k hk => ?_)
    have := f1 k hk
    rw [Nat.zero_add] at this
    rw [this, gSm18 (by decide), o2]
  · rw [gM18 (by decide), gU_un (Or.inr (by decide)), gU_us]; rfl
  · rw [gM18 (by decide), gU_us]; rfl
  · rw [gM18 (by decide), gU_un (Or.inr (by decide)), gU_un (Or.inr (by decide)), fz]; rfl
