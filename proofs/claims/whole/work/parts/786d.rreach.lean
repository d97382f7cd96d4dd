/-! ===== the reference's greatest flow: nodes reached ===== -/
def mrE (rs : Nat → Nat) (w x : Nat) : Prop := w < 10 ∧ x < 10 ∧ 0 < rs (10 * w + x)
def mrD (M : gM) (rs : Nat → Nat) (b : Nat) : Prop := ∀ p, p < 100 → M 16 p = nI (rs p) ∧ rs p ≤ b
def mrV (M : gM) (rs : Nat → Nat) (w x : Nat) : Prop := M 17 x = nI w ∧ mrE rs w x
def mrX (M : gM) (rs : Nat → Nat) (s A : Nat) (ord : List Nat) : Prop := M 0 30 = nI A ∧ mfT (mrV M rs) s ord ∧ mfB A ord ∧ ∀ x, x ∈ ord → x < 10
def mrK (rs : Nat → Nat) (ord : List Nat) (p : Nat) : Prop := 0 < rs p → p / 10 ∈ ord → p % 10 ∈ ord
theorem mrD.congr {I J : gM} {rs : Nat → Nat} {b : Nat} (h : mrD I rs b) (e : J 16 = I 16) : mrD J rs b := by
  unfold mrD
  rw [e]; exact h
theorem mrT.via {I J : gM} {rs : Nat → Nat} {s : Nat} {ord : List Nat} (h : mfT (mrV I rs) s ord) (e : J 17 = I 17) : mfT (mrV J rs) s ord :=
  h.mono (fun w x _ _ h2 => ⟨by rw [e]; exact h2.1, h2.2⟩)
theorem mrX.congr {I J : gM} {rs : Nat → Nat} {s A : Nat} {ord : List Nat} (h : mrX I rs s A ord) (e : J 17 = I 17) (e0 : J 0 30 = I 0 30) : mrX J rs s A ord := ⟨e0.trans h.1, mrT.via h.2.1 e, h.2.2⟩
theorem mrX.push {M : gM} {rs : Nat → Nat} {s A w x : Nat} {ord : List Nat} (h : mrX M rs s A ord) (hw : w ∈ ord) (hx : x ∉ ord) (hE : mrE rs w x) : mrX (gU (gU M 0 30 (nI (A ||| 2 ^ x))) 17 x (nI w)) rs s (A ||| 2 ^ x) (x :: ord) := by
  obtain ⟨h0, h1, h2, h3⟩ := h
  refine ⟨by rw [gU_ok (by decide), gU_us], Or.inr ⟨hx, fun e => hx (by rw [e]; exact h1.root), ⟨w, hw, gU_us, hE⟩, h1.mono (fun w' x' _ hx' h4 => ⟨?_, h4.2⟩)⟩, h2.push, fun y hy => ?_⟩
  · rw [gU_un (Or.inr (fun e => hx (by rw [← e]; exact hx'))), gU_ok (by decide)]; exact h4.1
  · rcases List.mem_cons.mp hy with e | e
    · rw [e]; exact hE.2.1
    · exact h3 y e
theorem rreach_in {N n9 s b : Nat} {rs : Nat → Nat} {ord0 : List Nat} (hb : b < 2 ^ 30) : ∀ m i : Nat, i ≤ 100 → 100 - i < m → ∀ (M : gM) (A mo : Nat) (ord : List Nat), mrD M rs b → mrX M rs s A ord → (mo = 0 ∧ ord = ord0 ∧ (∀ j, j < i → mrK rs ord0 j) ∨ mo = 1 ∧ ord0.length < ord.length) → ∃ M' A' mo' ord', hX9_reach_17 N n9 m (nI mo) (nI i) M = hX9_reach_9 N n9 (nI mo') M' ∧ mrX M' rs s A' ord' ∧ (∀ j, j ≠ 30 → M' 0 j = M 0 j) ∧ (∀ q, q ≠ 0 → q ≠ 17 → M' q = M q) ∧ (mo' = 0 ∧ ord' = ord0 ∧ (∀ j, j < 100 → mrK rs ord0 j) ∨ mo' = 1 ∧ ord0.length < ord'.length) := by
  have l100 : (100 : Int32) = nI 100 := rfl
  have ne10 : ¬ (10 : Int32) = 0 := by decide
  intro m
  induction m with
  | zero => intro i _ h; omega
  | succ m ih =>
    intro i hi hm M A mo ord hD hX hc
    have hA : A < 1024 := hX.2.2.1.lt hX.2.2.2
    rw [eX9_reach_17, l100]
    by_cases hin : i = 100
    · rw [if_pos ((cge (by omega) (by omega)).mpr (by omega))]
      refine ⟨M, A, mo, ord, rfl, hX, fun _ _ => rfl, fun _ _ _ => rfl, ?_⟩
      rw [hin] at hc
      exact hc
    · have hi100 : i < 100 := by omega
      obtain ⟨d1, d2⟩ := hD i hi100
      have ed : gb_div (nI i) 10 = nI (i / 10) := pk_div (by omega) (by decide) (by decide)
      have er : gb_rem (nI i) 10 = nI (i % 10) := pk_rem (d := 10) (by omega) (by decide) (by decide)
      have hgo : ∀ (M1 : gM) (A1 mo1 : Nat) (ord1 : List Nat), mrX M1 rs s A1 ord1 → (∀ j, j ≠ 30 → M1 0 j = M 0 j) → (∀ q, q ≠ 0 → q ≠ 17 → M1 q = M q) → (mo1 = 0 ∧ ord1 = ord0 ∧ (∀ j, j < i + 1 → mrK rs ord0 j) ∨ mo1 = 1 ∧ ord0.length < ord1.length) → ∃ M' A' mo' ord', hX9_reach_90 N n9 m (nI mo1) (nI i) M1 = hX9_reach_9 N n9 (nI mo') M' ∧ mrX M' rs s A' ord' ∧ (∀ j, j ≠ 30 → M' 0 j = M 0 j) ∧ (∀ q, q ≠ 0 → q ≠ 17 → M' q = M q) ∧ (mo' = 0 ∧ ord' = ord0 ∧ (∀ j, j < 100 → mrK rs ord0 j) ∨ mo' = 1 ∧ ord0.length < ord'.length) := fun M1 A1 mo1 ord1 a1 a2 a3 a4 => by
        obtain ⟨M2, A2, mo2, ord2, q1, q2, q3, q4, q5⟩ := ih (i + 1) (by omega) (by omega) M1 A1 mo1 ord1 (hD.congr (a3 16 (by decide) (by decide))) a1 a4
        rw [eX9_reach_90, nI_s]
        exact ⟨M2, A2, mo2, ord2, q1, q2, fun j hj => by rw [q3 j hj, a2 j hj], fun q h0 h17 => by rw [q4 q h0 h17, a3 q h0 h17], q5⟩
      have hsame : mrK rs ord i → ∃ M' A' mo' ord', hX9_reach_90 N n9 m (nI mo) (nI i) M = hX9_reach_9 N n9 (nI mo') M' ∧ mrX M' rs s A' ord' ∧ (∀ j, j ≠ 30 → M' 0 j = M 0 j) ∧ (∀ q, q ≠ 0 → q ≠ 17 → M' q = M q) ∧ (mo' = 0 ∧ ord' = ord0 ∧ (∀ j, j < 100 → mrK rs ord0 j) ∨ mo' = 1 ∧ ord0.length < ord'.length) := fun hk => by
        refine hgo M A mo ord hX (fun _ _ => rfl) (fun _ _ _ => rfl) ?_
        rcases hc with ⟨c1, c2, c3⟩ | hc
        · refine Or.inl ⟨c1, c2, fun j hj => ?_⟩
          by_cases e : j = i
          · rw [e, ← c2]; exact hk
          · exact c3 j (by omega)
        · exact Or.inr hc
      rw [if_neg (fun z => by have := (cge (a := i) (b := 100) (by omega) (by omega)).mp z; omega), ckI hi100 (by decide), nI_clamp (by omega), d1]
      by_cases h0 : rs i = 0
      · rw [if_pos ((zle (by omega)).mpr h0)]
        exact hsame (fun z => by omega)
      · rw [if_neg (fun z => h0 ((zle (by omega)).mp z)), if_neg ne10, ed, er, hX.1, pX9_has N _ (by omega) (by omega), hI_mk, gS_nil]
        cases ha : A.testBit (i / 10) with
        | false =>
          rw [b2_f, i_e0]
          exact hsame (fun _ z => by rw [hX.2.2.1.t.mpr z] at ha; cases ha)
        | true =>
          rw [b2_t, i_e1, if_neg ne10, hX.1, pX9_has N _ (by omega) (by omega), hI_mk, gS_nil]
          cases hb2 : A.testBit (i % 10) with
          | true =>
            rw [b2_t, i_n1]
            exact hsame (fun _ _ => hX.2.2.1.t.mp hb2)
          | false =>
            have hw := hX.2.2.1.t.mp ha
            have hx := hX.2.2.1.f.mp hb2
            have hlen : ord0.length ≤ ord.length := by
              rcases hc with ⟨_, c2, _⟩ | ⟨_, c2⟩
              · rw [c2]; exact Nat.le_refl _
              · omega
            have eo : gb_or (nI A) (nI (2 ^ (i % 10))) = nI (A ||| 2 ^ (i % 10)) := nI_or _ _
            rw [b2_f, i_n0, if_neg ne10, if_neg ne10, if_neg ne10, ckI (c := i % 10) (by omega) (by decide), hX.1, shl1' (by omega), nI_clamp (by omega), eo]
            exact hgo _ _ 1 _ (hX.push hw hx ⟨by omega, by omega, by rw [show 10 * (i / 10) + i % 10 = i by omega]; omega⟩) (fun j hj => by rw [gU_ok (by decide), gU_un (Or.inr hj)]) (fun q q0 q17 => by rw [gU_ok q17, gU_ok q0]) (Or.inr ⟨rfl, by rw [List.length_cons]; omega⟩)
theorem rreach_out {N s b : Nat} {rs : Nat → Nat} (hb : b < 2 ^ 30) (hN : 200 ≤ N) : ∀ (m : Nat) (M : gM) (A : Nat) (ord : List Nat), 12 ≤ m + ord.length → mrD M rs b → mrX M rs s A ord → ∃ M' A' ord', hX9_reach_9 N m 1 M = some (.inl none, M') ∧ mrX M' rs s A' ord' ∧ (∀ j, j ≠ 30 → M' 0 j = M 0 j) ∧ (∀ q, q ≠ 0 → q ≠ 17 → M' q = M q) ∧ ∀ j, j < 100 → mrK rs ord' j := by
  intro m
  induction m with
  | zero =>
    intro M A ord hm hD hX
    have := mf_pig 10 ord hX.2.1.nodup hX.2.2.2
    omega
  | succ m ih =>
    intro M A ord hm hD hX
    have hl := mf_pig 10 ord hX.2.1.nodup hX.2.2.2
    obtain ⟨M1, A1, mo1, ord1, o1, o2, o3, o4, o5⟩ := rreach_in (N := N) (n9 := m) (ord0 := ord) hb N 0 (Nat.zero_le _) (by omega) M A 0 ord hD hX (Or.inl ⟨rfl, rfl, fun j hj => absurd hj (Nat.not_lt_zero _)⟩)
    have o1' : hX9_reach_17 N m N 0 0 M = hX9_reach_9 N m (nI mo1) M1 := o1
    rw [eX9_reach_9, i_e1, o1']
    rcases o5 with ⟨c1, c2, c3⟩ | ⟨c1, c2⟩
    · obtain ⟨m, rfl⟩ : ∃ k, m = k + 1 := ⟨m - 1, by omega⟩
      rw [c1, eX9_reach_9, if_pos (c := gz_eq (nI 0) = true) (by decide)]
      exact ⟨M1, A1, ord1, rfl, o2, o3, o4, by rw [c2]; exact c3⟩
    · obtain ⟨M2, A2, ord2, q1, q2, q3, q4, q5⟩ := ih M1 A1 ord1 (by omega) (hD.congr (o4 16 (by decide) (by decide))) o2
      rw [c1]
      exact ⟨M2, A2, ord2, q1, q2, fun j hj => by rw [q3 j hj, o3 j hj], fun q h0 h17 => by rw [q4 q h0 h17, o4 q h0 h17], q5⟩
theorem pX9_reach {N s b : Nat} {rs : Nat → Nat} {M : gM} (hb : b < 2 ^ 30) (hN : 200 ≤ N) (hD : mrD M rs b) (hs : s < 10) : ∃ M' A ord, fX9_reach N [.ref 0, .int (nI s)] M = some (.inl none, M') ∧ mrX M' rs s A ord ∧ (∀ j, j ≠ 30 → M' 0 j = M 0 j) ∧ (∀ q, q ≠ 0 → q ≠ 17 → M' q = M q) ∧ ∀ j, j < 100 → mrK rs ord j := by
  obtain ⟨M', A, ord, h1, h2, h3, h4, h5⟩ := rreach_out (N := N) (s := s) hb hN N (gU M 0 30 (nI (2 ^ s))) (2 ^ s) [s] (by omega) (hD.congr (gU_ok (by decide))) ⟨gU_us, Or.inl ⟨rfl, rfl⟩, mfB.one s, fun x hx => by rw [List.mem_singleton.mp hx]; exact hs⟩
  rw [eX9_reach, eX9_reach_0, shl1' (by omega)]
  exact ⟨M', A, ord, h1, h2, fun j hj => by rw [h3 j hj, gU_un (Or.inr hj)], fun q h0 h17 => by rw [h4 q h0 h17, gU_ok h0], h5⟩
