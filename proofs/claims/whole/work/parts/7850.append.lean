/-! ===== append on both sides ===== -/
def BFx (I : gM) (l : List Nat) : Prop := I 0 2 = nI l.length ∧ ∀ (j x : Nat), l[j]? = some x → I 1 j = nI x
theorem BFx.push {I : gM} {l : List Nat} {b : Nat} (h : BFx I l) : BFx (gU (gU I 1 l.length (nI b)) 0 2 (nI (l.length + 1))) (l ++ [b]) := by
  refine ⟨by rw [gU_us, List.length_append]; rfl, fun j x hx => ?_⟩
  rw [gU_ok (by decide)]
  by_cases e : j = l.length
  · rw [e, List.getElem?_append_right (Nat.le_refl _), Nat.sub_self] at hx
    have hx' : b = x := Option.some.inj hx
    rw [e, gU_us, hx']
  · have hj : j < l.length := by
      rcases Nat.lt_or_ge j (l ++ [b]).length with z | z
      · rw [List.length_append] at z
        have : [b].length = 1 := rfl
        omega
      · rw [List.getElem?_eq_none z] at hx; cases hx
    rw [List.getElem?_append_left hj] at hx
    rw [gU_un (Or.inr e)]; exact h.2 j x hx
theorem put_lap {N m k : Nat} {v : Int32} {I : gM} {l : List Nat} (hk : k = 24 ∨ k = 16 ∨ k = 8 ∨ k = 0) (h : BFx I l) (hl : (l ++ bys v k).length ≤ 700) : ∃ J, hX5_putBytes_3 N (m + 1) v (nI k) I = hX5_putBytes_3 N m v (nI k + (-8)) J ∧ BFx J (l ++ bys v k) ∧ (∀ q, q ≠ 0 → q ≠ 1 → J q = I q) ∧ ∀ j, j ≠ 2 → J 0 j = I 0 j := by
  have hb := byt_lt v k
  have l700 : (700 : Int32) = nI 700 := rfl
  rw [eX5_putBytes_3, if_neg (zlt (a := k) (by omega)).mp, ush_byt hk]
  by_cases hz : byt v k = 0
  · have e : bys v k = [] := if_pos hz
    rw [if_pos ((zeq (by omega)).mpr hz), eX5_putBytes_49, e, List.append_nil]
    exact ⟨I, rfl, h, fun _ _ _ => rfl, fun _ _ => rfl⟩
  · have e : bys v k = [byt v k] := if_neg hz
    rw [e, List.length_append] at hl
    have e1 : [byt v k].length = 1 := rfl
    have ea : gb_add (nI l.length) 1 = nI (l.length + 1) := nI_add _ _
    rw [if_neg (fun z => hz ((zeq (by omega)).mp z)), h.1, l700, if_neg (fun z => by have := (cge (a := l.length) (b := 700) (by omega) (by decide)).mp z; omega), ckI (by omega) (by decide), nI_clamp (by omega), ea, eX5_putBytes_49, e]
    exact ⟨_, rfl, h.push, fun q h0 h1 => by rw [gU_ok h0, gU_ok h1], fun j hj => by rw [gU_un (Or.inr hj), gU_ok (by decide)]⟩
theorem pX5_putBytes {N : Nat} {v : Int32} {I : gM} {l : List Nat} (h : BFx I l) (hl : (l ++ byA v).length ≤ 700) (hN : 1000 ≤ N) : ∃ J, fX5_putBytes N [.ref 0, .int v] I = some (.inl none, J) ∧ BFx J (l ++ byA v) ∧ (∀ q, q ≠ 0 → q ≠ 1 → J q = I q) ∧ ∀ j, j ≠ 2 → J 0 j = I 0 j := by
  unfold byA at hl
  rw [List.length_append, List.length_append, List.length_append, List.length_append] at hl
  obtain ⟨N', rfl⟩ : ∃ N', N = N' + 1 + 1 + 1 + 1 + 1 := ⟨N - 5, by omega⟩
  obtain ⟨J1, a1, b1, c1, d1⟩ := put_lap (N := N' + 1 + 1 + 1 + 1 + 1) (m := N' + 1 + 1 + 1 + 1) (v := v) (k := 24) (by decide) h (by rw [List.length_append]; omega)
  obtain ⟨J2, a2, b2', c2, d2⟩ := put_lap (N := N' + 1 + 1 + 1 + 1 + 1) (m := N' + 1 + 1 + 1) (v := v) (k := 16) (by decide) b1 (by rw [List.length_append, List.length_append]; omega)
  obtain ⟨J3, a3, b3, c3, d3⟩ := put_lap (N := N' + 1 + 1 + 1 + 1 + 1) (m := N' + 1 + 1) (v := v) (k := 8) (by decide) b2' (by rw [List.length_append, List.length_append, List.length_append]; omega)
  obtain ⟨J4, a4, b4, c4, d4⟩ := put_lap (N := N' + 1 + 1 + 1 + 1 + 1) (m := N' + 1) (v := v) (k := 0) (by decide) b3 (by rw [List.length_append, List.length_append, List.length_append, List.length_append]; omega)
  have e1 : nI 24 + (-8) = nI 16 := by decide
  have e2 : nI 16 + (-8) = nI 8 := by decide
  have e3 : nI 8 + (-8) = nI 0 := by decide
  have e4 : gz_lt (nI 0 + (-8)) = true := by decide
  rw [e1] at a1; rw [e2] at a2; rw [e3] at a3
  refine ⟨J4, ?_, ?_, fun q h0 h1 => by rw [c4 q h0 h1, c3 q h0 h1, c2 q h0 h1, c1 q h0 h1], fun j hj => by rw [d4 j hj, d3 j hj, d2 j hj, d1 j hj]⟩
  · rw [eX5_putBytes, eX5_putBytes_0]
    refine (a1.trans (a2.trans (a3.trans a4))).trans ?_
    rw [eX5_putBytes_3, if_pos e4]
  · unfold byA
    rw [← List.append_assoc, ← List.append_assoc, ← List.append_assoc]
    exact b4
def wOf (v1 v2 v3 v4 v5 : Int32) (j : Nat) : Int32 := if j = 0 then v1 else if j = 1 then v2 else if j = 2 then v3 else if j = 3 then v4 else v5
theorem pX9_byteOf {N i : Nat} {v1 v2 v3 v4 v5 : Int32} {I : gM} (hi : i < 20) : fX9_byteOf N [.int v1, .int v2, .int v3, .int v4, .int v5, .int (nI i)] I = some (.inl (some (.int (nI (byt (wOf v1 v2 v3 v4 v5 (i / 4)) (24 - 8 * (i % 4)))))), I) := by
  have l4 : (4 : Int32) = nI 4 := rfl
  have l8 : (8 : Int32) = nI 8 := rfl
  have l12 : (12 : Int32) = nI 12 := rfl
  have l16 : (16 : Int32) = nI 16 := rfl
  have ne4 : ¬ (4 : Int32) = 0 := by decide
  have fin : ∀ w : Int32, hX9_byteOf_45 N (nI i) w I = some (.inl (some (.int (nI (byt w (24 - 8 * (i % 4)))))), I) := fun w => by
    have e1 : gb_rem (nI i) 4 = nI (i % 4) := pk_rem (d := 4) (by omega) (by decide) (by decide)
    have e2 : gb_mul 8 (nI (i % 4)) = nI (8 * (i % 4)) := pk_mul 8 _
    have e3 : gb_sub 24 (nI (8 * (i % 4))) = nI (24 - 8 * (i % 4)) := pk_sub (a := 24) (by omega)
    rw [eX9_byteOf_45, if_neg ne4, e1, e2, e3, shr_byt (by omega)]
  rw [eX9_byteOf, eX9_byteOf_0]
  by_cases h4 : 4 ≤ i
  · rw [if_pos (by rw [l4]; exact (cge (by omega) (by decide)).mpr h4)]
    by_cases h8 : 8 ≤ i
    · rw [if_pos (by rw [l8]; exact (cge (by omega) (by decide)).mpr h8)]
      by_cases h12 : 12 ≤ i
      · rw [if_pos (by rw [l12]; exact (cge (by omega) (by decide)).mpr h12)]
        by_cases h16 : 16 ≤ i
        · rw [if_pos (by rw [l16]; exact (cge (by omega) (by decide)).mpr h16), fin, show i / 4 = 4 by omega]; rfl
        · rw [if_neg (by rw [l16]; exact fun z => h16 ((cge (by omega) (by decide)).mp z)), fin, show i / 4 = 3 by omega]; rfl
      · rw [if_neg (by rw [l12]; exact fun z => h12 ((cge (by omega) (by decide)).mp z)), fin, show i / 4 = 2 by omega]; rfl
    · rw [if_neg (by rw [l8]; exact fun z => h8 ((cge (by omega) (by decide)).mp z)), fin, show i / 4 = 1 by omega]; rfl
  · rw [if_neg (by rw [l4]; exact fun z => h4 ((cge (by omega) (by decide)).mp z)), fin, show i / 4 = 0 by omega]; rfl
