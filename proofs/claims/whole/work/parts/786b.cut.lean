/-! ===== the class's Cut: nodes reached ===== -/
def mfW (r : Nat → Nat) : Prop := (2 ≤ r 0 ∧ r 0 ≤ 10) ∧ r 1 ≤ 14 ∧ (∀ k, k < r 1 → lkp r k 0 < r 0 ∧ lkp r k 1 < r 0 ∧ lkp r k 0 ≠ lkp r k 1 ∧ 1 ≤ lkp r k 2 ∧ lkp r k 2 ≤ 5) ∧ ∀ j k, j < r 1 → k < r 1 → lkp r j 0 = lkp r k 0 → lkp r j 1 = lkp r k 1 → j = k
/-- link l lets one more go from w to x -/
def mfE (r snd : Nat → Nat) (l w x : Nat) : Prop := l < r 1 ∧ (lkp r l 0 = w ∧ lkp r l 1 = x ∧ snd l < lkp r l 2 ∨ lkp r l 1 = w ∧ lkp r l 0 = x ∧ 0 < snd l)
def mfN (M : gM) (r : Nat → Nat) : Prop := M 3 0 = nI (r 0) ∧ M 3 1 = nI (r 1) ∧ ∀ k, k < r 1 → M 4 k = nI (lkp r k 0) ∧ M 5 k = nI (lkp r k 1) ∧ M 6 k = nI (lkp r k 2)
def mfD (M : gM) (r snd : Nat → Nat) : Prop := (∀ k, k < 14 → M 1 k = nI (snd k)) ∧ ∀ k, k < r 1 → snd k ≤ lkp r k 2
def mfV (M : gM) (r snd : Nat → Nat) (w x : Nat) : Prop := ∃ l, M 2 x = nI l ∧ mfE r snd l w x
def mfX (M : gM) (r snd : Nat → Nat) (s A : Nat) (ord : List Nat) : Prop := mfT (mfV M r snd) s ord ∧ mfB A ord ∧ ∀ x, x ∈ ord → x < r 0
def mfK (r snd : Nat → Nat) (ord : List Nat) (k : Nat) : Prop := ∀ w x, mfE r snd k w x → w ∈ ord → x ∈ ord
theorem mfN.congr {I J : gM} {r : Nat → Nat} (h : mfN I r) (e : ∀ q, 3 ≤ q → q ≤ 6 → J q = I q) : mfN J r := by
  unfold mfN
  rw [e 3 (by decide) (by decide), e 4 (by decide) (by decide), e 5 (by decide) (by decide), e 6 (by decide) (by decide)]
  exact h
theorem mfD.congr {I J : gM} {r snd : Nat → Nat} (h : mfD I r snd) (e : J 1 = I 1) : mfD J r snd := by
  unfold mfD
  rw [e]
  exact h
theorem mfT.via {I J : gM} {r snd : Nat → Nat} {s : Nat} {ord : List Nat} (h : mfT (mfV I r snd) s ord) (e : J 2 = I 2) : mfT (mfV J r snd) s ord :=
  h.mono (fun w x _ _ ⟨l, h1, h2⟩ => ⟨l, by rw [e]; exact h1, h2⟩)
theorem mfX.congr {I J : gM} {r snd : Nat → Nat} {s A : Nat} {ord : List Nat} (h : mfX I r snd s A ord) (e : J 2 = I 2) : mfX J r snd s A ord := ⟨h.1.via e, h.2⟩
theorem mfX.push {M : gM} {r snd : Nat → Nat} {s A k w x : Nat} {ord : List Nat} (h : mfX M r snd s A ord) (hw : w ∈ ord) (hx : x ∉ ord) (hxn : x < r 0) (hE : mfE r snd k w x) : mfX (gU M 2 x (nI k)) r snd s (A ||| 2 ^ x) (x :: ord) := by
  obtain ⟨h1, h2, h3⟩ := h
  refine ⟨Or.inr ⟨hx, fun e => hx (by rw [e]; exact h1.root), ⟨w, hw, k, gU_us, hE⟩, h1.mono (fun w' x' _ hx' ⟨l, l1, l2⟩ => ⟨l, ?_, l2⟩)⟩, h2.push, fun y hy => ?_⟩
  · rw [gU_un (Or.inr (fun e => hx (by rw [← e]; exact hx')))]; exact l1
  · rcases List.mem_cons.mp hy with e | e
    · rw [e]; exact hxn
    · exact h3 y e
theorem p_over {N k A : Nat} {r snd : Nat → Nat} {M : gM} (W : mfW r) (hN : mfN M r) (hD : mfD M r snd) (hk : k < r 1) (hA : A < 1024) : fX0_reachOver N [.ref 0, .ref 3, .int (nI k), .int (nI A)] M = if (A.testBit (lkp r k 0) && !A.testBit (lkp r k 1)) = true ∧ snd k < lkp r k 2 then some (.inl (some (.int (nI (2 ^ lkp r k 1)))), gU M 2 (lkp r k 1) (nI k)) else if (A.testBit (lkp r k 1) && !A.testBit (lkp r k 0)) = true ∧ 0 < snd k then some (.inl (some (.int (nI (2 ^ lkp r k 0)))), gU M 2 (lkp r k 0) (nI k)) else some (.inl (some (.int 0)), M) := by
  obtain ⟨⟨w0, w1⟩, w2, w3, w4⟩ := W
  obtain ⟨n1, n2, n3⟩ := hN
  obtain ⟨x1, x2, x3, x4, x5⟩ := w3 k hk
  obtain ⟨m1, m2, m3⟩ := n3 k hk
  have hs := hD.2 k hk
  have ms := hD.1 k (by omega)
  rw [eX0_reachOver, eX0_reachOver_0, ckI (by omega) (by decide), ckI (by omega) (by decide), nI_clamp (by omega), m1, m2, bit_b2 (by omega) (by omega)]
  refine (b2_sel (F := fun z => hX0_reachOver_31 N (nI k) (nI A) (nI (lkp r k 0)) (nI (lkp r k 1)) z M)).trans ?_
  show hX0_reachOver_31 N (nI k) (nI A) (nI (lkp r k 0)) (nI (lkp r k 1)) (b2 (A.testBit (lkp r k 0))) M = _
  rw [eX0_reachOver_31, bit_b2 (by omega) (by omega)]
  refine (b2_sel (F := fun z => hX0_reachOver_48 N (nI k) (nI (lkp r k 0)) (nI (lkp r k 1)) (b2 (A.testBit (lkp r k 0))) z M)).trans ?_
  show hX0_reachOver_48 N (nI k) (nI (lkp r k 0)) (nI (lkp r k 1)) (b2 (A.testBit (lkp r k 0))) (b2 (A.testBit (lkp r k 1))) M = _
  have e88 : ∀ z1 z2 : Int32, hX0_reachOver_88 N (nI k) (nI (lkp r k 0)) z1 z2 M = if gz_eq z2 = true then some (.inl (some (.int 0)), M) else if gz_ne z1 = true then some (.inl (some (.int 0)), M) else if 0 < snd k then some (.inl (some (.int (nI (2 ^ lkp r k 0)))), gU M 2 (lkp r k 0) (nI k)) else some (.inl (some (.int 0)), M) := fun z1 z2 => by
    rw [eX0_reachOver_88, ckI (by omega) (by decide), nI_clamp (by omega), ms, ckI (by omega) (by decide), nI_clamp (by omega), shl1' (by omega)]
    by_cases h0 : 0 < snd k
    · rw [if_pos h0, if_neg (c := gz_le (nI (snd k)) = true) (fun z => by have := (zle (a := snd k) (by omega)).mp z; omega)]
    · rw [if_neg h0, if_pos (c := gz_le (nI (snd k)) = true) ((zle (by omega)).mpr (by omega))]
  rw [eX0_reachOver_48, e88, ckI (by omega) (by decide), ckI (by omega) (by decide), nI_clamp (by omega), ms, m3, ckI (by omega) (by decide), nI_clamp (by omega), shl1' (by omega)]
  cases A.testBit (lkp r k 0) <;> cases A.testBit (lkp r k 1)
  · rw [b2_f, i_e0, i_e0, if_neg (fun z => absurd z.1 (by decide)), if_neg (fun z => absurd z.1 (by decide))]
  · have c1 : ¬ ((false && !true) = true ∧ snd k < lkp r k 2) := fun z => absurd z.1 (by decide)
    rw [b2_f, b2_t, i_e0, i_e1, i_n0, if_neg c1]
    by_cases h0 : 0 < snd k
    · rw [if_pos h0, if_pos ⟨rfl, h0⟩]
    · rw [if_neg h0, if_neg (fun z => h0 z.2)]
  · rw [b2_f, b2_t, i_e1, i_n0]
    by_cases h0 : snd k < lkp r k 2
    · rw [if_neg (fun z => by have := (cge (a := snd k) (b := lkp r k 2) (by omega) (by omega)).mp z; omega), if_pos ⟨rfl, h0⟩]
    · rw [if_pos ((cge (by omega) (by omega)).mpr (by omega)), i_e0, if_neg (fun z => h0 z.2), if_neg (fun z => absurd z.1 (by decide))]
  · rw [b2_t, i_e1, i_n1, i_e1, i_n1, if_neg (fun z => absurd z.1 (by decide)), if_neg (fun z => absurd z.1 (by decide))]
theorem p_over2 {N k s A : Nat} {r snd : Nat → Nat} {M : gM} {ord : List Nat} (W : mfW r) (hN : mfN M r) (hD : mfD M r snd) (hX : mfX M r snd s A ord) (hk : k < r 1) : ∃ M' A' ord' y, fX0_reachOver N [.ref 0, .ref 3, .int (nI k), .int (nI A)] M = some (.inl (some (.int y)), M') ∧ gb_or (nI A) y = nI A' ∧ mfX M' r snd s A' ord' ∧ (∀ q, q ≠ 2 → M' q = M q) ∧ (ord' = ord ∧ mfK r snd ord k ∨ ord.length < ord'.length ∧ ¬ mfK r snd ord k) := by
  obtain ⟨x1, x2, x3, x4, x5⟩ := W.2.2.1 k hk
  have w1 := W.1.2
  have hA : A < 1024 := hX.2.1.lt (fun x hx => by have := hX.2.2 x hx; omega)
  rw [p_over W hN hD hk hA]
  by_cases c1 : (A.testBit (lkp r k 0) && !A.testBit (lkp r k 1)) = true ∧ snd k < lkp r k 2
  · rw [if_pos c1]
    obtain ⟨d1, d2⟩ := and_t c1.1
    have hw := hX.2.1.t.mp d1
    have hx : lkp r k 1 ∉ ord := hX.2.1.f.mp (by rwa [Bool.not_eq_true'] at d2)
    have hE : mfE r snd k (lkp r k 0) (lkp r k 1) := ⟨hk, Or.inl ⟨rfl, rfl, c1.2⟩⟩
    exact ⟨_, _, _, _, rfl, nI_or _ _, hX.push hw hx x2 hE, fun q hq => gU_ok hq, Or.inr ⟨by rw [List.length_cons]; omega, fun z => hx (z _ _ hE hw)⟩⟩
  · rw [if_neg c1]
    by_cases c2 : (A.testBit (lkp r k 1) && !A.testBit (lkp r k 0)) = true ∧ 0 < snd k
    · rw [if_pos c2]
      obtain ⟨d1, d2⟩ := and_t c2.1
      have hw := hX.2.1.t.mp d1
      have hx : lkp r k 0 ∉ ord := hX.2.1.f.mp (by rwa [Bool.not_eq_true'] at d2)
      have hE : mfE r snd k (lkp r k 1) (lkp r k 0) := ⟨hk, Or.inr ⟨rfl, rfl, c2.2⟩⟩
      exact ⟨_, _, _, _, rfl, nI_or _ _, hX.push hw hx x1 hE, fun q hq => gU_ok hq, Or.inr ⟨by rw [List.length_cons]; omega, fun z => hx (z _ _ hE hw)⟩⟩
    · rw [if_neg c2]
      refine ⟨M, A, ord, 0, rfl, ?_, hX, fun _ _ => rfl, Or.inl ⟨rfl, fun w x hE hw => ?_⟩⟩
      · have e := nI_or A 0
        rw [Nat.or_zero] at e; exact e
      · refine Classical.byContradiction (fun hx => ?_)
        rcases hE.2 with ⟨e1, e2, e3⟩ | ⟨e1, e2, e3⟩
        · refine c1 ⟨?_, e3⟩
          rw [e1, e2, hX.2.1.t.mpr hw, hX.2.1.f.mpr hx]; rfl
        · refine c2 ⟨?_, e3⟩
          rw [e1, e2, hX.2.1.t.mpr hw, hX.2.1.f.mpr hx]; rfl
theorem g12S {I : gM} {j : Nat} (h : j < 12) : gS (rg 0 12) I j = I j := by rw [gS_b h (by decide), Nat.zero_add]
theorem g12M {I J : gM} {k : Nat} (h : k < 12) : gMg (rg 0 12) I J k = J k := by
  have e := gMg_rgi (b := 0) (n := 12) (I := I) (J := J) h
  rwa [Nat.zero_add] at e
theorem g12o {I J : gM} {k : Nat} (h : 12 ≤ k) : gMg (rg 0 12) I J k = I k := gMg_rgo (Or.inr (by omega))
theorem g12l {I J : gM} {t : Nat → Prop} (h : ∀ k, ¬ t k → J k = gS (rg 0 12) I k) : ∀ k, ¬ t k → gMg (rg 0 12) I J k = I k := fun k hk => by
  by_cases e : k < 12
  · rw [g12M e, h k hk, g12S e]
  · exact g12o (by omega)
theorem reach_in {N n7 s : Nat} {r snd : Nat → Nat} {v4 : Int32} {ord0 : List Nat} (W : mfW r) : ∀ m i : Nat, i ≤ r 1 → r 1 - i < m → ∀ (M : gM) (A : Nat) (ord : List Nat), mfN M r → mfD M r snd → mfX M r snd s A ord → (ord = ord0 ∧ (∀ j, j < i → mfK r snd ord0 j) ∨ ord0.length < ord.length ∧ ∃ j, j < r 1 ∧ ¬ mfK r snd ord0 j) → ∃ M' A' ord', hX0_reach_19 N n7 m (nI A) v4 (nI i) M = hX0_reach_7 N n7 (nI A') (v4 + 1) M' ∧ mfX M' r snd s A' ord' ∧ (∀ q, q ≠ 2 → M' q = M q) ∧ (ord' = ord0 ∧ (∀ j, j < r 1 → mfK r snd ord0 j) ∨ ord0.length < ord'.length ∧ ∃ j, j < r 1 ∧ ¬ mfK r snd ord0 j) := by
  intro m
  induction m with
  | zero => intro i _ h; omega
  | succ m ih =>
    intro i hi hm M A ord hN hD hX hc
    have h14 := W.2.1
    rw [eX0_reach_19, hN.2.1]
    by_cases hin : i = r 1
    · rw [if_pos ((cge (by omega) (by omega)).mpr (by omega))]
      refine ⟨M, A, ord, rfl, hX, fun _ _ => rfl, ?_⟩
      rw [hin] at hc
      exact hc
    · obtain ⟨M1, A1, ord1, y, o1, o2, o3, o4, o5⟩ := p_over2 (N := N) (M := gS (rg 0 12) M) W (hN.congr (fun q h3 h6 => g12S (by omega))) (hD.congr (g12S (by decide))) (hX.congr (g12S (by decide))) (show i < r 1 by omega)
      have hl : ∀ q, q ≠ 2 → gMg (rg 0 12) M M1 q = M q := g12l (t := fun q => q = 2) o4
      have hc1 : ord1 = ord0 ∧ (∀ j, j < i + 1 → mfK r snd ord0 j) ∨ ord0.length < ord1.length ∧ ∃ j, j < r 1 ∧ ¬ mfK r snd ord0 j := by
        rcases hc with ⟨c1, c2⟩ | ⟨c1, c2⟩
        · rcases o5 with ⟨d1, d2⟩ | ⟨d1, d2⟩
          · refine Or.inl ⟨d1.trans c1, fun j hj => ?_⟩
            by_cases e : j = i
            · rw [e, ← c1]; exact d2
            · exact c2 j (by omega)
          · exact Or.inr ⟨by rw [← c1]; exact d1, i, by omega, by rw [← c1]; exact d2⟩
        · refine Or.inr ⟨?_, c2⟩
          rcases o5 with ⟨d1, _⟩ | ⟨d1, _⟩
          · rw [d1]; exact c1
          · omega
      rw [if_neg (fun z => by have := (cge (a := i) (b := r 1) (by omega) (by omega)).mp z; omega), o1, hI_mk, o2, nI_s]
      obtain ⟨M2, A2, ord2, q1, q2, q3, q4⟩ := ih (i + 1) (by omega) (by omega) (gMg (rg 0 12) M M1) A1 ord1 (hN.congr (fun q h3 h6 => hl q (by omega))) (hD.congr (hl 1 (by decide))) (o3.congr (g12M (by decide))) hc1
      exact ⟨M2, A2, ord2, q1, q2, fun q hq => by rw [q3 q hq, hl q hq], q4⟩
theorem reach_out {N s : Nat} {r snd : Nat → Nat} (W : mfW r) (h20 : 20 ≤ N) : ∀ m v : Nat, 1 ≤ v → v ≤ r 0 → r 0 - v < m → ∀ (M : gM) (A : Nat) (ord : List Nat), mfN M r → mfD M r snd → mfX M r snd s A ord → ((∀ j, j < r 1 → mfK r snd ord j) ∨ v ≤ ord.length) → ∃ M' A' ord', hX0_reach_7 N m (nI A) (nI v) M = some (.inl (some (.int (nI A'))), M') ∧ mfX M' r snd s A' ord' ∧ (∀ q, q ≠ 2 → M' q = M q) ∧ ∀ j, j < r 1 → mfK r snd ord' j := by
  intro m
  induction m with
  | zero => intro v _ _ h; omega
  | succ m ih =>
    intro v hv1 hv hm M A ord hN hD hX hc
    have h10 := W.1.2
    have h14 := W.2.1
    rw [eX0_reach_7, hN.1]
    by_cases hin : v = r 0
    · rw [if_pos ((cge (by omega) (by omega)).mpr (by omega))]
      refine ⟨M, A, ord, rfl, hX, fun _ _ => rfl, ?_⟩
      rcases hc with hc | hc
      · exact hc
      · intro j hj w x hE hw
        refine mf_full hX.1.nodup hX.2.2 (by omega) ?_
        obtain ⟨x1, x2, _⟩ := W.2.2.1 j hj
        rcases hE.2 with ⟨_, e2, _⟩ | ⟨_, e2, _⟩ <;> omega
    · obtain ⟨M1, A1, ord1, o1, o2, o3, o4⟩ := reach_in (N := N) (n7 := m) (v4 := nI v) (ord0 := ord) W N 0 (Nat.zero_le _) (by omega) M A ord hN hD hX (Or.inl ⟨rfl, fun j hj => absurd hj (Nat.not_lt_zero _)⟩)
      have o1' : hX0_reach_19 N m N (nI A) (nI v) 0 M = hX0_reach_7 N m (nI A1) (nI v + 1) M1 := o1
      have hc1 : (∀ j, j < r 1 → mfK r snd ord1 j) ∨ v + 1 ≤ ord1.length := by
        rcases o4 with ⟨c1, c2⟩ | ⟨c1, j, c2, c3⟩
        · rw [c1]; exact Or.inl c2
        · rcases hc with hc | hc
          · exact absurd (hc j c2) c3
          · exact Or.inr (by omega)
      rw [if_neg (fun z => by have := (cge (a := v) (b := r 0) (by omega) (by omega)).mp z; omega), o1', nI_s]
      obtain ⟨M2, A2, ord2, q1, q2, q3, q4⟩ := ih (v + 1) (by omega) (by omega) (by omega) M1 A1 ord1 (hN.congr (fun q h3 h6 => o3 q (by omega))) (hD.congr (o3 1 (by decide))) o2 hc1
      exact ⟨M2, A2, ord2, q1, q2, fun q hq => by rw [q3 q hq, o3 q hq], q4⟩
theorem pX0_reach {N s : Nat} {r snd : Nat → Nat} {M : gM} (W : mfW r) (h20 : 20 ≤ N) (hN : mfN M r) (hD : mfD M r snd) (hs : s < r 0) : ∃ M' A ord, fX0_reach N [.ref 0, .ref 3, .int (nI s)] M = some (.inl (some (.int (nI A))), M') ∧ mfX M' r snd s A ord ∧ (∀ q, q ≠ 2 → M' q = M q) ∧ ∀ j, j < r 1 → mfK r snd ord j := by
  have h10 := W.1.2
  have h1 := reach_out (N := N) (s := s) W h20 N 1 (by decide) (by omega) (by omega) M (2 ^ s) [s] hN hD ⟨Or.inl ⟨rfl, rfl⟩, mfB.one s, fun x hx => by rw [List.mem_singleton.mp hx]; exact hs⟩ (Or.inr (Nat.le_refl 1))
  rw [eX0_reach, eX0_reach_0, shl1' (by omega)]
  exact h1
