/-! ===== the first state of the class ===== -/
theorem j9_2 : jX9_18 0 2 = 0 := rfl
theorem cn_back {r : Nat → Nat} {I B : gM} (h : CN (sh1 B) r) : CN (sh1 (gS (rg 2 9) (gMg (rg 2 9) I B))) r := h.congr (fun k k1 k9 => by
  show gS (rg 2 9) (gMg (rg 2 9) I B) (k - 1) = B (k - 1)
  rw [gS_b (by omega) (by decide), gMg_rgi (by omega)])
theorem r00_z {x : Nat} (h : 145 ≤ x) : r00 x = 0 := by
  have e2 : layL (layL (rz 3) 0 1 1) 1 2 1 2 = 0 := rfl
  have e1 : layL (rz 3) 0 1 1 1 = 1 := rfl
  have e0 : rz 3 1 = 0 := rfl
  unfold r00
  rw [layF_n (by omega) (by rw [e2]; omega), layL_n (by omega) (by rw [e1]; omega) (by rw [e1]; omega), layL_n (by omega) (by rw [e0]; omega) (by rw [e0]; omega)]
  unfold rz
  rw [if_neg (by omega), if_neg (by omega)]
theorem first_c {N : Nat} (hN : 1000 ≤ N) : ∃ J, fX8_init_k81 N [some (.ref 0)] [] jX8_8 = some (.inl none, J) ∧ INc J ab0 := by
  obtain ⟨B, b0, b1, -⟩ := pX2_clear (N := N) (n := 3) (I := gS (rg 2 9) jX8_8) (by decide) (by decide) hN
  obtain ⟨C, c0, c1, -⟩ := pX2_putLink (N := N) (a := 0) (b := 1) (c := 1) (r := rz 3) (I := gS (rg 2 9) (gMg (rg 2 9) jX8_8 B)) (cn_back b1) (by decide) (by decide) (by decide) (by decide) (by decide) (fun j hj => absurd hj (Nat.not_lt_zero _)) hN
  obtain ⟨D, d0, d1, -⟩ := pX2_putLink (N := N) (a := 1) (b := 2) (c := 1) (r := layL (rz 3) 0 1 1) (I := gS (rg 2 9) (gMg (rg 2 9) (gMg (rg 2 9) jX8_8 B) C)) (cn_back c1) (by decide) (by decide) (by decide) (by decide) (by decide) (fun j hj => by
    have e : layL (rz 3) 0 1 1 1 = 1 := rfl
    have : j = 0 := by omega
    subst this
    decide) hN
  obtain ⟨E, e0, e1, -⟩ := pX2_putFlow (N := N) (a := 0) (b := 2) (c := 50) (d := 0) (r := layL (layL (rz 3) 0 1 1) 1 2 1) (I := gS (rg 2 9) (gMg (rg 2 9) (gMg (rg 2 9) (gMg (rg 2 9) jX8_8 B) C) D)) (cn_back d1) (by decide) (by decide) hN
  have b0' : fX2_clear N [.ref 0, .int 3] (gS (rg 2 9) jX8_8) = some (.inl none, B) := b0
  have c0' : fX2_putLink N [.ref 0, .int 0, .int 1, .int 1] (gS (rg 2 9) (gMg (rg 2 9) jX8_8 B)) = some (.inl none, C) := c0
  have d0' : fX2_putLink N [.ref 0, .int 1, .int 2, .int 1] (gS (rg 2 9) (gMg (rg 2 9) (gMg (rg 2 9) jX8_8 B) C)) = some (.inl none, D) := d0
  have e0' : fX2_putFlow N [.ref 0, .int 0, .int 2, .int 50, .int 0] (gS (rg 2 9) (gMg (rg 2 9) (gMg (rg 2 9) (gMg (rg 2 9) jX8_8 B) C) D)) = some (.inl none, E) := e0
  rw [k81, b0', hV_mk, c0', hV_mk, d0', hV_mk, e0', hV_mk]
  refine ⟨_, rfl, ?_⟩
  have fr : ∀ k, (k < 2 ∨ 11 ≤ k) → gMg (rg 2 9) (gMg (rg 2 9) (gMg (rg 2 9) (gMg (rg 2 9) jX8_8 B) C) D) E k = jX8_8 k := fun k hk => by
    rw [gMg_rgo (by omega), gMg_rgo (by omega), gMg_rgo (by omega), gMg_rgo (by omega)]
  have fn : ∀ k, k < 9 → gMg (rg 2 9) (gMg (rg 2 9) (gMg (rg 2 9) (gMg (rg 2 9) jX8_8 B) C) D) E (2 + k) = E k := fun k hk => gMg_rgi hk
  generalize gMg (rg 2 9) (gMg (rg 2 9) (gMg (rg 2 9) (gMg (rg 2 9) jX8_8 B) C) D) E = J at fr fn
  have hE : CN (sh1 E) r00 := e1
  have q11 : J 11 = jX8_8 11 := fr 11 (by omega)
  have q14 : J 14 = jX8_8 14 := fr 14 (by omega)
  have g11 : gS (rg 10 10) (gS (rg 1 20) J) 0 = jX8_8 11 := by rw [gS10 (by decide), gS_b (by decide) (by decide)]; exact q11
  have g14 : gS (rg 10 10) (gS (rg 1 20) J) 3 = jX8_8 14 := by rw [gS10 (by decide), gS_b (by decide) (by decide)]; exact q14
  refine ⟨⟨hE.congr (fun k k1 k9 => ?_), ⟨?_, ?_, fun q hq => ?_⟩, fun _ => [], fun _ => 0, 0, ⟨⟨?_, Nat.zero_le _, ?_, rfl⟩, ⟨?_, trivial⟩, fun q hq => ⟨?_, fun x hx => (by cases hx), fun x hx => (by cases hx), trivial⟩, fun q hq => ⟨List.nodup_nil, fun i hi => absurd hi List.not_mem_nil⟩, fun i hi => absurd hi (Nat.not_lt_zero _)⟩, fun q hq => rfl, fun x hx => absurd hx List.not_mem_nil, List.nodup_nil⟩, ⟨Nat.zero_le _, ?_, id, fun i hi => ⟨?_, hi⟩, fun i j _ _ h => h, fun i τ hτ => by cases hτ⟩, ⟨?_, fun τ hτ => by cases hτ⟩, ?_, fun j x hx => by cases hx⟩
  · show gS (rg 1 20) J k = E (k - 1)
    rw [gS_b (by omega) (by decide), show 1 + k = 2 + (k - 1) by omega]
    exact fn _ (by omega)
  · rw [gS_b (by decide) (by decide), fr 1 (by omega)]; rfl
  · rw [gS_b (by decide) (by decide), fr 1 (by omega)]; rfl
  · rw [gS_b (by decide) (by decide), fr 15 (by omega)]
    show _ = nI (r00 (145 + q))
    rw [r00_z (by omega)]; rfl
  · rw [g11]; rfl
  · rw [g11]; rfl
  · rw [g11]; rfl
  · rw [g14]; rfl
  · rw [gS_b (by decide) (by decide), fr 61 (by omega)]; rfl
  · rw [gS_b (by decide) (by decide), fr 62 (by omega)]
    match i, hi with
    | 0, _ => rfl
    | 1, _ => rfl
    | 2, _ => rfl
    | 3, _ => rfl
    | 4, _ => rfl
    | 5, _ => rfl
  · rw [fr 0 (by omega)]; rfl
  · show J 183 2 = nI 0
    rw [fr 183 (by omega)]; rfl
