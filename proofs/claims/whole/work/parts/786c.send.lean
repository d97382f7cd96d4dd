/-! ===== the class's Cut: one packet more, and the greatest flow ===== -/
def mfY (r snd : Nat → Nat) (S : Nat → Bool) : Nat := mfS (fun k => cond (S (lkp r k 0) && !S (lkp r k 1)) (lkp r k 2 - snd k) (cond (S (lkp r k 1) && !S (lkp r k 0)) (snd k) 0)) (r 1)
theorem mfY_fwd {r snd : Nat → Nat} {l : Nat} (hl : l < r 1) (hs : snd l < lkp r l 2) (S : Nat → Bool) : mfY r (up1 snd l (snd l + 1)) S + mfI (S (lkp r l 0)) = mfY r snd S + mfI (S (lkp r l 1)) := by
  unfold mfY
  refine mfS_upd (l := l) ?_ hl (fun k _ hk => by simp only [up1_n hk])
  simp only [up1_s]
  cases S (lkp r l 0) <;> cases S (lkp r l 1) <;> simp only [mfI, cond_true, cond_false, Bool.not_true, Bool.not_false, Bool.and_true, Bool.and_false, Bool.and_self] <;> omega
theorem mfY_bwd {r snd : Nat → Nat} {l : Nat} (hl : l < r 1) (hs : snd l ≤ lkp r l 2) (h0 : 0 < snd l) (S : Nat → Bool) : mfY r (up1 snd l (snd l - 1)) S + mfI (S (lkp r l 1)) = mfY r snd S + mfI (S (lkp r l 0)) := by
  unfold mfY
  refine mfS_upd (l := l) ?_ hl (fun k _ hk => by simp only [up1_n hk])
  simp only [up1_s]
  cases S (lkp r l 0) <;> cases S (lkp r l 1) <;> simp only [mfI, cond_true, cond_false, Bool.not_true, Bool.not_false, Bool.and_true, Bool.and_false, Bool.and_self] <;> omega
theorem mfY_zero {r snd : Nat → Nat} {l w x : Nat} {S : Nat → Bool} (h : mfY r snd S = 0) (hE : mfE r snd l w x) (hw : S w = true) : S x = true := by
  cases hx : S x with
  | true => rfl
  | false =>
    have hp : 0 < mfY r snd S := by
      unfold mfY
      refine mfS_pos (l := l) ?_ hE.1
      rcases hE.2 with ⟨e1, e2, e3⟩ | ⟨e1, e2, e3⟩
      · show 0 < cond (S (lkp r l 0) && !S (lkp r l 1)) (lkp r l 2 - snd l) _
        rw [e1, e2, hw, hx]
        show 0 < lkp r l 2 - snd l
        omega
      · show 0 < cond (S (lkp r l 0) && !S (lkp r l 1)) (lkp r l 2 - snd l) (cond (S (lkp r l 1) && !S (lkp r l 0)) (snd l) 0)
        rw [e1, e2, hw, hx]
        exact e3
    omega
theorem mfE.upd {r snd : Nat → Nat} {l k z w x : Nat} (h : mfE r snd l w x) (hk : l ≠ k) : mfE r (up1 snd k z) l w x := by
  unfold mfE
  rw [up1_n hk]
  exact h
theorem mfE.ends {r snd : Nat → Nat} {l w x : Nat} (h : mfE r snd l w x) {t : List Nat} (hw : w ∈ t) (hx : x ∈ t) : lkp r l 0 ∈ t ∧ lkp r l 1 ∈ t := by
  rcases h.2 with ⟨e1, e2, _⟩ | ⟨e1, e2, _⟩
  · rw [e1, e2]; exact ⟨hw, hx⟩
  · rw [e1, e2]; exact ⟨hx, hw⟩
theorem send_lap {N s : Nat} {r : Nat → Nat} (W : mfW r) (hs : s < 10) : ∀ (ord : List Nat) (m x v : Nat) (M : gM) (snd : Nat → Nat), mfN M r → mfD M r snd → mfT (mfV M r snd) s ord → (∀ y, y ∈ ord → y < 10) → x ∈ ord → ord.length + v ≤ 10 → ord.length ≤ m → ∃ M' snd', hX0_sendOne_6 N m (nI s) (nI x) (nI v) M = some (.inl none, M') ∧ mfD M' r snd' ∧ (∀ q, q ≠ 1 → M' q = M q) ∧ ∀ S : Nat → Bool, mfY r snd' S + mfI (S s) = mfY r snd S + mfI (S x) := by
  have l10 : (10 : Int32) = nI 10 := rfl
  intro ord
  induction ord with
  | nil => intro m x v M snd _ _ h; exact h.elim
  | cons y t ih =>
    intro m x v M snd hN hD hT hb hx hv hm
    rw [List.length_cons] at hv hm
    obtain ⟨m, rfl⟩ : ∃ k, m = k + 1 := ⟨m - 1, by omega⟩
    have hx10 := hb x hx
    have h14 := W.2.1
    have hexit : x = s → ∃ M' snd', hX0_sendOne_6 N (m + 1) (nI s) (nI x) (nI v) M = some (.inl none, M') ∧ mfD M' r snd' ∧ (∀ q, q ≠ 1 → M' q = M q) ∧ ∀ S : Nat → Bool, mfY r snd' S + mfI (S s) = mfY r snd S + mfI (S x) := fun hxs => by
      rw [eX0_sendOne_6, l10, if_neg (fun z => by have := (cge (a := v) (b := 10) (by omega) (by decide)).mp z; omega), if_pos ((ceq (by omega) (by omega)).mpr hxs)]
      exact ⟨M, snd, rfl, hD, fun _ _ => rfl, fun S => by rw [hxs]⟩
    rcases hT with ⟨h1, h2⟩ | ⟨h1, h2, ⟨w, w1, l, l1, l2⟩, h4⟩
    · subst h2
      exact hexit ((List.mem_singleton.mp hx).trans h1)
    · by_cases hxy : x = y
      · subst hxy
        have hl := l2.1
        have hl14 : l < 14 := by omega
        obtain ⟨x1, x2, x3, x4, x5⟩ := W.2.2.1 l hl
        have w10 := W.1.2
        obtain ⟨m1, m2, m3⟩ := hN.2.2 l hl
        have ms := hD.1 l hl14
        have hsc := hD.2 l hl
        have hlx : lkp r l 0 = x ∨ lkp r l 1 = x := by
          rcases l2.2 with ⟨_, e, _⟩ | ⟨_, e, _⟩
          · exact Or.inr e
          · exact Or.inl e
        have key : ∀ z : Nat, z ≤ lkp r l 2 → (∀ S : Nat → Bool, mfY r (up1 snd l z) S + mfI (S w) = mfY r snd S + mfI (S x)) → ∃ M' snd', hX0_sendOne_83 N m (nI s) (nI w) (nI v) (gU M 1 l (nI z)) = some (.inl none, M') ∧ mfD M' r snd' ∧ (∀ q, q ≠ 1 → M' q = M q) ∧ ∀ S : Nat → Bool, mfY r snd' S + mfI (S s) = mfY r snd S + mfI (S x) := fun z hz hS => by
          have hD1 : mfD (gU M 1 l (nI z)) r (up1 snd l z) := by
            refine ⟨fun k hk => ?_, fun k hk => ?_⟩
            · by_cases e : k = l
              · rw [e, gU_us, up1_s]
              · rw [gU_un (Or.inr e), up1_n e]; exact hD.1 k hk
            · by_cases e : k = l
              · rw [e, up1_s]; exact hz
              · rw [up1_n e]; exact hD.2 k hk
          have hT1 : mfT (mfV (gU M 1 l (nI z)) r (up1 snd l z)) s t := h4.mono (fun w' x' hw' hx' ⟨l', k1, k2⟩ => ⟨l', by rw [gU_ok (by decide)]; exact k1, k2.upd (fun e => by
            have he := k2.ends hw' hx'
            rw [e] at he
            rcases hlx with q | q
            · exact h1 (by rw [← q]; exact he.1)
            · exact h1 (by rw [← q]; exact he.2))⟩)
          obtain ⟨M', snd', o1, o2, o3, o4⟩ := ih m w (v + 1) (gU M 1 l (nI z)) (up1 snd l z) (hN.congr (fun q q3 q6 => gU_ok (by omega))) hD1 hT1 (fun y hy => hb y (List.mem_cons_of_mem _ hy)) w1 (by omega) (by omega)
          rw [eX0_sendOne_83, nI_s]
          exact ⟨M', snd', o1, o2, fun q hq => by rw [o3 q hq, gU_ok hq], fun S => (o4 S).trans (hS S)⟩
        rw [eX0_sendOne_6, l10, if_neg (fun z => by have := (cge (a := v) (b := 10) (by omega) (by decide)).mp z; omega), if_neg (fun z => h2 ((ceq (by omega) (by omega)).mp z)), ckI hx10 (by decide), nI_clamp (by omega), l1, ckI hl14 (by decide), nI_clamp (by omega), m2]
        rcases l2.2 with ⟨e1, e2, e3⟩ | ⟨e1, e2, e3⟩
        · have ea : gb_add (nI (snd l)) 1 = nI (snd l + 1) := nI_add _ 1
          rw [if_neg (fun z => (cne (by omega) (by omega)).mp z e2), ckI hl14 (by decide), ckI hl14 (by decide), ckI hl14 (by decide), m1, ms, ea, e1]
          exact key _ (by omega) (fun S => by
            have := mfY_fwd hl e3 S
            rw [e1, e2] at this; exact this)
        · have ea : gb_sub (nI (snd l)) 1 = nI (snd l - 1) := pk_sub (a := snd l) (b := 1) e3
          rw [if_pos ((cne (by omega) (by omega)).mpr (fun e => x3 (e2.trans e.symm))), ckI hl14 (by decide), ckI hl14 (by decide), ckI hl14 (by decide), ms, ea, e1]
          exact key _ (by omega) (fun S => by
            have := mfY_bwd hl hsc e3 S
            rw [e1, e2] at this; exact this)
      · have hxt : x ∈ t := by
          rcases List.mem_cons.mp hx with e | e
          · exact absurd e hxy
          · exact e
        exact ih (m + 1) x v M snd hN hD h4 (fun y hy => hb y (List.mem_cons_of_mem _ hy)) hxt (by omega) (by omega)
theorem pX0_send {N s t A : Nat} {r snd : Nat → Nat} {M : gM} {ord : List Nat} (W : mfW r) (h20 : 20 ≤ N) (hN : mfN M r) (hD : mfD M r snd) (hX : mfX M r snd s A ord) (ht : t ∈ ord) : ∃ M' snd', fX0_sendOne N [.ref 0, .ref 3, .int (nI s), .int (nI t)] M = some (.inl none, M') ∧ mfD M' r snd' ∧ (∀ q, q ≠ 1 → M' q = M q) ∧ ∀ S : Nat → Bool, mfY r snd' S + mfI (S s) = mfY r snd S + mfI (S t) := by
  have w10 := W.1.2
  have hb : ∀ y, y ∈ ord → y < 10 := fun y hy => by have := hX.2.2 y hy; omega
  have hlen := mf_pig 10 ord hX.1.nodup hb
  have h1 := send_lap (N := N) W (hb s hX.1.root) ord N t 0 M snd hN hD hX.1 hb ht (by omega) (by omega)
  rw [eX0_sendOne, eX0_sendOne_0]
  exact h1
theorem find_lap {N s t : Nat} {r : Nat → Nat} (W : mfW r) (h20 : 20 ≤ N) (hs : s < r 0) (ht : t < r 0) (hst : s ≠ t) : ∀ m v : Nat, 71 ≤ m + v → ∀ (M : gM) (A : Nat) (snd : Nat → Nat) (ord : List Nat), mfN M r → mfD M r snd → mfX M r snd s A ord → (∀ j, j < r 1 → mfK r snd ord j) → M 0 2 = nI v → M 0 3 = nI A → (∀ S : Nat → Bool, S s = true → S t = false → mfY r snd S + v = mfC r S) → ∃ M' v' A', hX0_find_26 N m (nI s) (nI t) (nI v) M = some (.inl none, M') ∧ mfO r s t v' A' ∧ M' 0 2 = nI v' ∧ M' 0 3 = nI A' ∧ ∀ q, 3 ≤ q → M' q = M q := by
  have l70 : (70 : Int32) = nI 70 := rfl
  have w10 := W.1.2
  have h1s : (fun j : Nat => decide (j = s)) s = true := decide_eq_true rfl
  have h1t : (fun j : Nat => decide (j = s)) t = false := decide_eq_false (fun e => hst e.symm)
  have hC := mfC_le W.2.1 (fun k hk => (W.2.2.1 k hk).2.2.2.2) (fun j : Nat => decide (j = s))
  intro m
  induction m with
  | zero =>
    intro v hv M A snd ord hN hD hX hK h2 h3 hS
    have := hS (fun j => decide (j = s)) h1s h1t
    omega
  | succ m ih =>
    intro v hv M A snd ord hN hD hX hK h2 h3 hS
    have hv70 := hS (fun j => decide (j = s)) h1s h1t
    have hA : A < 1024 := hX.2.1.lt (fun x hx => by have := hX.2.2 x hx; omega)
    rw [eX0_find_26, l70, h3, bit_b2 (by omega) (by omega)]
    by_cases htm : t ∈ ord
    · have hmore := mf_more (Y := mfY r snd) (S := fun j => decide (j = s)) hX.1 htm h1s h1t (fun h0 w x ⟨l, _, hE⟩ hw => mfY_zero h0 hE hw)
      have hb := hX.2.1.t.mpr htm
      obtain ⟨M1, snd1, o1, o2, o3, o4⟩ := pX0_send (N := N) (M := gS (rg 0 12) M) W h20 (hN.congr (fun q h3 h6 => g12S (by omega))) (hD.congr (g12S (by decide))) (hX.congr (g12S (by decide))) htm
      have hl : ∀ q, q ≠ 1 → gMg (rg 0 12) M M1 q = M q := g12l (t := fun q => q = 1) o3
      have ea : gb_add (nI v) 1 = nI (v + 1) := nI_add _ 1
      have hN1 : mfN (gU (gMg (rg 0 12) M M1) 0 2 (nI (v + 1))) r := hN.congr (fun q h3 h6 => by rw [gU_ok (by omega), hl q (by omega)])
      have hD1 : mfD (gU (gMg (rg 0 12) M M1) 0 2 (nI (v + 1))) r snd1 := o2.congr (by rw [gU_ok (by decide), g12M (by decide)])
      obtain ⟨M2, A2, ord2, q1, q2, q3, q4⟩ := pX0_reach (N := N) (M := gS (rg 0 12) (gU (gMg (rg 0 12) M M1) 0 2 (nI (v + 1)))) W h20 (hN1.congr (fun q h3 h6 => g12S (by omega))) (hD1.congr (g12S (by decide))) hs
      have hl2 : ∀ q, q ≠ 2 → gMg (rg 0 12) (gU (gMg (rg 0 12) M M1) 0 2 (nI (v + 1))) M2 q = gU (gMg (rg 0 12) M M1) 0 2 (nI (v + 1)) q := g12l (t := fun q => q = 2) q3
      rw [if_neg (fun z => by have := (cge (a := v) (b := 70) (by omega) (by decide)).mp z; omega), hb, if_neg (by decide), o1, hV_mk, hl 0 (by decide), h2, ea, q1, hI_mk, nI_s]
      obtain ⟨M3, v3, A3, k1, k2, k3, k4, k5⟩ := ih (v + 1) (by omega) (gU (gMg (rg 0 12) (gU (gMg (rg 0 12) M M1) 0 2 (nI (v + 1))) M2) 0 3 (nI A2)) A2 snd1 ord2 (hN1.congr (fun q h3 h6 => by rw [gU_ok (by omega), hl2 q (by omega)])) (hD1.congr (by rw [gU_ok (by decide), hl2 1 (by decide)])) (q2.congr (by rw [gU_ok (by decide), g12M (by decide)])) q4 (by rw [gU_un (Or.inr (by decide)), hl2 0 (by decide), gU_us]) gU_us (fun S s1 s2 => by
        have e1 := o4 S
        have e2 := hS S s1 s2
        rw [s1, s2] at e1
        have e3 : mfY r snd1 S + 1 = mfY r snd S + 0 := e1
        omega)
      exact ⟨M3, v3, A3, k1, k2, k3, k4, fun q hq => by rw [k5 q hq, gU_ok (by omega), hl2 q (by omega), gU_ok (by omega), hl q (by omega)]⟩
    · have hb := hX.2.1.f.mpr htm
      refine ⟨M, v, A, ?_, ?_, h2, h3, fun _ _ => rfl⟩
      · rw [hb, if_pos (c := gc_ne (b2 false) 1 = true) (by decide)]
        by_cases e : gc_ge (nI v) (nI 70) = true
        · rw [if_pos e]
        · rw [if_neg e]
      · refine mfO.of (Y := mfY r snd) hX.2.1 (fun x hx => by have := hX.2.2 x hx; omega) hX.1 htm hS ?_ (fun S h0 w x ⟨l, _, hE⟩ hw => mfY_zero h0 hE hw)
        unfold mfY
        refine mfS_zero (fun k hk => ?_)
        have hsc := hD.2 k hk
        show cond (A.testBit (lkp r k 0) && !A.testBit (lkp r k 1)) (lkp r k 2 - snd k) (cond (A.testBit (lkp r k 1) && !A.testBit (lkp r k 0)) (snd k) 0) = 0
        cases ha : A.testBit (lkp r k 0) <;> cases hb2 : A.testBit (lkp r k 1)
        · rfl
        · show snd k = 0
          rcases Nat.eq_zero_or_pos (snd k) with h0 | h0
          · exact h0
          · have h5 := hK k hk _ _ ⟨hk, Or.inr ⟨rfl, rfl, h0⟩⟩ (hX.2.1.t.mp hb2)
            rw [hX.2.1.t.mpr h5] at ha; cases ha
        · show lkp r k 2 - snd k = 0
          rcases Nat.lt_or_ge (snd k) (lkp r k 2) with h0 | h0
          · have h5 := hK k hk _ _ ⟨hk, Or.inl ⟨rfl, rfl, h0⟩⟩ (hX.2.1.t.mp ha)
            rw [hX.2.1.t.mpr h5] at hb2; cases hb2
          · omega
        · rfl
theorem mfY_none {r : Nat → Nat} (S : Nat → Bool) : mfY r (fun _ => 0) S = mfC r S := by
  refine mfS_congr (fun k hk => ?_)
  show cond (S (lkp r k 0) && !S (lkp r k 1)) (lkp r k 2 - 0) (cond (S (lkp r k 1) && !S (lkp r k 0)) 0 0) = cond (S (lkp r k 0) && !S (lkp r k 1)) (lkp r k 2) 0
  cases (S (lkp r k 0) && !S (lkp r k 1)) <;> cases (S (lkp r k 1) && !S (lkp r k 0)) <;> rfl
theorem pX0_find {N s t : Nat} {r : Nat → Nat} {M : gM} (W : mfW r) (h20 : 1000 ≤ N) (hN : mfN M r) (hs : s < r 0) (ht : t < r 0) (hst : s ≠ t) : ∃ M' v A, fX0_find N [.ref 0, .ref 3, .int (nI s), .int (nI t)] M = some (.inl none, M') ∧ mfO r s t v A ∧ M' 0 2 = nI v ∧ M' 0 3 = nI A ∧ ∀ q, 3 ≤ q → M' q = M q := by
  obtain ⟨F, f0, f1, f2, f3⟩ := pJF_fill (N := N) (n := 14) (x := nI 0) (I := gS [1] M) (by decide) (by omega)
  have mo : ∀ k, k ≠ 1 → gMg [1] M F k = M k := fun k hk => by
    unfold gMg
    have : gIx [1] k = none := if_neg (fun z => hk z.symm)
    rw [this]
  have m1 : gMg [1] M F 1 = F 0 := rfl
  have hN1 : mfN (gU (gMg [1] M F) 0 2 (nI 0)) r := hN.congr (fun q h3 h6 => by rw [gU_ok (by omega), mo q (by omega)])
  have hD1 : mfD (gU (gMg [1] M F) 0 2 (nI 0)) r (fun _ => 0) := ⟨fun k hk => by rw [gU_ok (by decide), m1, f1 k hk], fun k hk => Nat.zero_le _⟩
  obtain ⟨M2, A2, ord2, q1, q2, q3, q4⟩ := pX0_reach (N := N) (M := gS (rg 0 12) (gU (gMg [1] M F) 0 2 (nI 0))) W (by omega) (hN1.congr (fun q h3 h6 => g12S (by omega))) (hD1.congr (g12S (by decide))) hs
  have hl2 : ∀ q, q ≠ 2 → gMg (rg 0 12) (gU (gMg [1] M F) 0 2 (nI 0)) M2 q = gU (gMg [1] M F) 0 2 (nI 0) q := g12l (t := fun q => q = 2) q3
  have l0 : (0 : Int32) = nI 0 := rfl
  rw [eX0_find, eX0_find_0, l0, f0, hV_mk, q1, hI_mk]
  obtain ⟨M3, v3, A3, k1, k2, k3, k4, k5⟩ := find_lap (N := N) W (by omega) hs ht hst N 0 (by omega) (gU (gMg (rg 0 12) (gU (gMg [1] M F) 0 2 (nI 0)) M2) 0 3 (nI A2)) A2 (fun _ => 0) ord2 (hN1.congr (fun q h3 h6 => by rw [gU_ok (by omega), hl2 q (by omega)])) (hD1.congr (by rw [gU_ok (by decide), hl2 1 (by decide)])) (q2.congr (by rw [gU_ok (by decide), g12M (by decide)])) q4 (by rw [gU_un (Or.inr (by decide)), hl2 0 (by decide), gU_us]) gU_us (fun S s1 s2 => by rw [mfY_none, Nat.add_zero])
  exact ⟨M3, v3, A3, k1, k2, k3, k4, fun q hq => by rw [k5 q hq, gU_ok (by omega), hl2 q (by omega), gU_ok (by omega), mo q (by omega)]⟩
