/-! ===== a link is added ===== -/
/-- the numbers with one link more -/
def layL (r : Nat → Nat) (a b c : Nat) : Nat → Nat := up1 (up1 (up1 (up1 (up1 (up1 r (9 + 4 * r 1 + 0) a) (9 + 4 * r 1 + 1) b) (9 + 4 * r 1 + 2) c) (9 + 4 * r 1 + 3) 0) (131 + r 1) 0) 1 (r 1 + 1)
theorem layL_1 {r : Nat → Nat} {a b c : Nat} : layL r a b c 1 = r 1 + 1 := up1_s
theorem layL_n {r : Nat → Nat} {a b c x : Nat} (h1 : x ≠ 1) (h2 : x < 9 + 4 * r 1 ∨ 9 + 4 * r 1 + 4 ≤ x) (h3 : x ≠ 131 + r 1) : layL r a b c x = r x := by
  unfold layL
  rw [up1_n h1, up1_n h3, up1_n (by omega), up1_n (by omega), up1_n (by omega), up1_n (by omega)]
theorem layL_0 {r : Nat → Nat} {a b c : Nat} (h : r 1 < 14) : lkp (layL r a b c) (r 1) 0 = a := by
  show layL r a b c (9 + 4 * r 1 + 0) = a
  unfold layL
  rw [up1_n (by omega), up1_n (by omega), up1_n (by omega), up1_n (by omega), up1_n (by omega), up1_s]
theorem layL_b {r : Nat → Nat} {a b c : Nat} (h : r 1 < 14) : lkp (layL r a b c) (r 1) 1 = b := by
  show layL r a b c (9 + 4 * r 1 + 1) = b
  unfold layL
  rw [up1_n (by omega), up1_n (by omega), up1_n (by omega), up1_n (by omega), up1_s]
theorem layL_c {r : Nat → Nat} {a b c : Nat} (h : r 1 < 14) : lkp (layL r a b c) (r 1) 2 = c := by
  show layL r a b c (9 + 4 * r 1 + 2) = c
  unfold layL
  rw [up1_n (by omega), up1_n (by omega), up1_n (by omega), up1_s]
theorem layL_d {r : Nat → Nat} {a b c : Nat} (h : r 1 < 14) : lkp (layL r a b c) (r 1) 3 = 0 := by
  show layL r a b c (9 + 4 * r 1 + 3) = 0
  unfold layL
  rw [up1_n (by omega), up1_n (by omega), up1_s]
theorem layL_k {r : Nat → Nat} {a b c : Nat} (h : r 1 < 14) : cfp (layL r a b c) (r 1) = 0 := by
  show layL r a b c (131 + r 1) = 0
  unfold layL
  rw [up1_n (by omega), up1_s]
theorem layL_lk {r : Nat → Nat} {a b c k w : Nat} (h : k < r 1) (hw : w < 4) (h14 : r 1 < 14) : lkp (layL r a b c) k w = lkp r k w := layL_n (by omega) (by omega) (by omega)
/-- distances with the new link -/
def dNew (d : Nat → Nat → Nat) (s e a g : Nat) : Nat := min (d a g) (d a s + 1 + d e g)
theorem wk_old {r r' : Nat → Nat} (h1 : ∀ j, j < r 1 → j < r' 1 ∧ lkp r' j 0 = lkp r j 0 ∧ lkp r' j 1 = lkp r j 1) : ∀ k a b, wk r k a b → wk r' k a b
  | 0, _, _, h => h
  | k + 1, a, b, ⟨j, j1, j2, j3⟩ => ⟨j, (h1 j j1).1, (h1 j j1).2.1.trans j2, by rw [(h1 j j1).2.2]; exact wk_old h1 k _ _ j3⟩
theorem wk_app {r : Nat → Nat} : ∀ k m a b c, wk r k a b → wk r m b c → wk r (k + m) a c
  | 0, m, a, b, c, h, h2 => by
    have e : a = b := h
    rw [Nat.zero_add, e]; exact h2
  | k + 1, m, a, b, c, ⟨j, j1, j2, j3⟩, h2 => by
    rw [show k + 1 + m = (k + m) + 1 by omega]
    exact ⟨j, j1, j2, wk_app k m _ _ _ j3 h2⟩
theorem isD_min {r : Nat → Nat} {a b d k : Nat} (h : isD r a b d) (hw : wk r k a b) : d ≤ k := by
  rcases Nat.lt_or_ge k d with z | z
  · exact absurd hw (h.2.2 k z)
  · exact z
theorem isD_new {r r' : Nat → Nat} {d : Nat → Nat → Nat} {s e : Nat} (h0 : r' 0 = r 0) (h1 : r' 1 = r 1 + 1) (hl : ∀ j, j < r 1 → lkp r' j 0 = lkp r j 0 ∧ lkp r' j 1 = lkp r j 1) (hs : lkp r' (r 1) 0 = s) (he : lkp r' (r 1) 1 = e) (hsn : s < r 0) (hen : e < r 0)
    (hk : ∀ j, j < r 1 → lkp r j 0 < r 0 ∧ lkp r j 1 < r 0) (hd : ∀ a b, a < r 0 → b < r 0 → isD r a b (d a b)) {a g : Nat} (ha : a < r 0) (hg : g < r 0) : isD r' a g (dNew d s e a g) := by
  have old : ∀ k a b, wk r k a b → wk r' k a b := wk_old (fun j hj => ⟨by omega, hl j hj⟩)
  have tri : ∀ j, j < r 1 → ∀ x, x < r 0 → d (lkp r j 0) x ≤ d (lkp r j 1) x + 1 := fun j hj x hx => by
    obtain ⟨k1, k2⟩ := hk j hj
    have z1 := hd _ x k1 hx
    have z2 := hd _ x k2 hx
    by_cases h : d (lkp r j 1) x < r 0
    · exact isD_min z1 ⟨j, hj, rfl, z2.2.1 h⟩
    · have := z1.1; omega
  have zero : ∀ x, x < r 0 → d x x = 0 := fun x hx => isD_self (hd x x hx hx) (by omega)
  have low : ∀ k a, a < r 0 → wk r' k a g → dNew d s e a g ≤ k := by
    intro k
    induction k with
    | zero =>
      intro a ha hw
      have e1 : a = g := hw
      rw [e1]
      unfold dNew
      rw [zero g hg]; omega
    | succ k ih =>
      intro a ha ⟨j, j1, j2, j3⟩
      by_cases hj : j < r 1
      · obtain ⟨l1, l2⟩ := hl j hj
        obtain ⟨k1, k2⟩ := hk j hj
        rw [l1] at j2
        rw [l2] at j3
        have h1 := ih _ k2 j3
        have t1 := tri j hj g hg
        have t2 := tri j hj s hsn
        rw [j2] at t1 t2
        unfold dNew at h1 ⊢
        omega
      · have ej : j = r 1 := by omega
        subst ej
        rw [hs] at j2
        rw [he] at j3
        have h1 := ih _ hen j3
        have z := zero s hsn
        subst j2
        unfold dNew at h1 ⊢
        omega
  have z1 := hd a g ha hg
  have z2 := hd a s ha hsn
  have z3 := hd e g hen hg
  refine ⟨?_, fun hlt => ?_, fun k hk hw => ?_⟩
  · rw [h0]; unfold dNew; have := z1.1; omega
  · rw [h0] at hlt
    unfold dNew at hlt ⊢
    by_cases h : d a g ≤ d a s + 1 + d e g
    · rw [Nat.min_eq_left h] at hlt ⊢
      exact old _ _ _ (z1.2.1 hlt)
    · rw [Nat.min_eq_right (by omega)] at hlt ⊢
      have w1 := old _ _ _ (z2.2.1 (by omega))
      have w2 := old _ _ _ (z3.2.1 (by omega))
      have w3 : wk r' (d e g + 1) s g := ⟨r 1, by omega, hs, by rw [he]; exact w2⟩
      have := wk_app _ _ _ _ _ w1 w3
      rwa [show d a s + (d e g + 1) = d a s + 1 + d e g by omega] at this
  · have := low k a ha hw
    omega
theorem pX2_shorten {N n s e : Nat} {I : gM} {d : Nat → Nat → Nat} (hn : I 0 0 = nI n) (h10 : n ≤ 10) (hs : s < n) (he : e < n) (hd : ∀ a g, a < n → g < n → I 8 (a * 10 + g) = nI (d a g) ∧ d a g ≤ n) (hN : 1000 ≤ N) :
    ∃ J, fX2_shortenDistances N [.ref 0, .int (nI s), .int (nI e)] I = some (.inl none, J) ∧ (∀ a g, a < n → g < n → J 8 (a * 10 + g) = nI (dNew d s e a g)) ∧ ∀ k, k ≠ 8 → J k = I k := by
  have l0 : (0 : Int32) = nI 0 := rfl
  have l1 : (1 : Int32) = nI 1 := rfl
  have row : ∀ (n2 i : Nat), i < n → ∀ m j : Nat, j ≤ n → n - j < m → ∀ K : gM, (∀ a g, a < n → g < n → K 8 (a * 10 + g) = nI (if a < i ∨ (a = i ∧ g < j) then dNew d s e a g else d a g)) → (∀ k, k ≠ 8 → K k = I k) →
      ∃ J, hX2_shortenDistances_25 N n2 m (nI s) (nI e) (nI i) (nI (d i s)) (nI j) K = hX2_shortenDistances_2 N n2 (nI s) (nI e) (nI (i + 1)) J ∧ (∀ a g, a < n → g < n → J 8 (a * 10 + g) = nI (if a < i + 1 then dNew d s e a g else d a g)) ∧ ∀ k, k ≠ 8 → J k = I k := by
    intro n2 i hi m
    induction m with
    | zero => intro j _ h; omega
    | succ m ih =>
      intro j hj hm K hK ho
      rw [eX2_shortenDistances_25, ho 0 (by decide), hn]
      by_cases hin : j = n
      · subst hin
        rw [if_pos ((cge (by omega) (by omega)).mpr (Nat.le_refl _)), l1, nI_add]
        refine ⟨K, rfl, fun a g ha hg => ?_, ho⟩
        rw [hK a g ha hg]
        by_cases h : a < i + 1
        · rw [if_pos h, if_pos (by omega)]
        · rw [if_neg h, if_neg (by omega)]
      · have hjn : j < n := by omega
        have d1 := (hd i s hi hs).2
        have d2 := (hd e j he hjn).2
        have d3 := (hd i j hi hjn).2
        -- the row of e is as it was
        have ee : K 8 (e * 10 + j) = nI (d e j) := by
          rw [hK e j he hjn]
          by_cases h : e < i ∨ (e = i ∧ j < j)
          · rw [if_pos h]
            congr 1
            unfold dNew; omega
          · rw [if_neg h]
        have ei : K 8 (i * 10 + j) = nI (d i j) := by
          rw [hK i j hi hjn, if_neg (by omega)]
        have ea : gb_add (gb_add (nI (d i s)) (nI 1)) (nI (d e j)) = nI (d i s + 1 + d e j) := by
          show nI _ + nI 1 + nI _ = _
          rw [nI_add, nI_add]
        rw [if_neg (fun z => hin (by have := (cge (by omega) (by omega)).mp z; omega)), s_pair, ckI (by omega) (by decide), s_pair, ckI (by omega) (by decide), nI_clamp (by omega), nI_clamp (by omega), ee, ei, l1, ea]
        have nx : ∀ K' : gM, (∀ a g, a < n → g < n → K' 8 (a * 10 + g) = nI (if a < i ∨ (a = i ∧ g < j + 1) then dNew d s e a g else d a g)) → (∀ k, k ≠ 8 → K' k = I k) → ∃ J, hX2_shortenDistances_81 N n2 m (nI s) (nI e) (nI i) (nI (d i s)) (nI j) K' = hX2_shortenDistances_2 N n2 (nI s) (nI e) (nI (i + 1)) J ∧ (∀ a g, a < n → g < n → J 8 (a * 10 + g) = nI (if a < i + 1 then dNew d s e a g else d a g)) ∧ ∀ k, k ≠ 8 → J k = I k := fun K' hK' ho' => by
          rw [eX2_shortenDistances_81, l1, nI_add]
          exact ih (j + 1) (by omega) (by omega) K' hK' ho'
        by_cases hc : d i j ≤ d i s + 1 + d e j
        · rw [if_pos ((cge (by omega) (by omega)).mpr hc)]
          refine nx K (fun a g ha hg => ?_) ho
          rw [hK a g ha hg]
          by_cases h : a < i ∨ (a = i ∧ g < j)
          · rw [if_pos h, if_pos (by omega)]
          · rw [if_neg h]
            by_cases h2 : a = i ∧ g = j
            · rw [if_pos (by omega), h2.1, h2.2]
              congr 1
              unfold dNew; omega
            · rw [if_neg (by omega)]
        · rw [if_neg (fun z => hc ((cge (by omega) (by omega)).mp z)), s_pair, eX2_shortenDistances_78, ckI (by omega) (by decide), nI_clamp (by omega)]
          refine nx _ (fun a g ha hg => ?_) (fun k hk => by rw [gU_ok hk]; exact ho k hk)
          by_cases h2 : a = i ∧ g = j
          · rw [h2.1, h2.2, gU_us, if_pos (by omega)]
            congr 1
            unfold dNew; omega
          · rw [gU_un (Or.inr (by omega)), hK a g ha hg]
            by_cases h : a < i ∨ (a = i ∧ g < j)
            · rw [if_pos h, if_pos (by omega)]
            · rw [if_neg h, if_neg (by omega)]
  have rows : ∀ m i : Nat, i ≤ n → n - i < m → ∀ K : gM, (∀ a g, a < n → g < n → K 8 (a * 10 + g) = nI (if a < i then dNew d s e a g else d a g)) → (∀ k, k ≠ 8 → K k = I k) →
      ∃ J, hX2_shortenDistances_2 N m (nI s) (nI e) (nI i) K = some (.inl none, J) ∧ (∀ a g, a < n → g < n → J 8 (a * 10 + g) = nI (dNew d s e a g)) ∧ ∀ k, k ≠ 8 → J k = I k := by
    intro m
    induction m with
    | zero => intro j _ h; omega
    | succ m ih =>
      intro i hi hm K hK ho
      rw [eX2_shortenDistances_2, ho 0 (by decide), hn]
      by_cases hin : i = n
      · subst hin
        rw [if_pos ((cge (by omega) (by omega)).mpr (Nat.le_refl _))]
        exact ⟨K, rfl, fun a g ha hg => by rw [hK a g ha hg, if_pos ha], ho⟩
      · have hi2 : i < n := by omega
        have e1 : K 8 (i * 10 + s) = nI (d i s) := by rw [hK i s hi2 hs, if_neg (by omega)]
        rw [if_neg (fun z => hin (by have := (cge (by omega) (by omega)).mp z; omega)), s_pair, ckI (by omega) (by decide), nI_clamp (by omega), e1, l0]
        obtain ⟨J, j0, j1, j2⟩ := row m i hi2 N 0 (Nat.zero_le _) (by omega) K (fun a g ha hg => by
          rw [hK a g ha hg]
          by_cases h : a < i
          · rw [if_pos h, if_pos (Or.inl h)]
          · rw [if_neg h, if_neg (by omega)]) ho
        rw [j0]
        exact ih (i + 1) (by omega) (by omega) J j1 j2
  rw [eX2_shortenDistances, eX2_shortenDistances_0, l0]
  exact rows N 0 (Nat.zero_le _) (by omega) I (fun a g ha hg => by rw [(hd a g ha hg).1, if_neg (by omega)]) (fun _ _ => rfl)
/-- places 0.. seen as 1.. -/
def sh1 (I : gM) : gM := fun k => I (k - 1)
theorem pX2_putLink {N a b c : Nat} {r : Nat → Nat} {I : gM} (h : CN (sh1 I) r) (h10 : r 0 ≤ 10) (h14 : r 1 < 14) (h6 : r 2 ≤ 6) (ha : a < r 0) (hb : b < r 0) (hk : ∀ j, j < r 1 → lkp r j 0 < r 0 ∧ lkp r j 1 < r 0) (hN : 1000 ≤ N) :
    ∃ J, fX2_putLink N [.ref 0, .int (nI a), .int (nI b), .int (nI c)] I = some (.inl none, J) ∧ CN (sh1 J) (layL r a b c) ∧ ∀ k, 9 ≤ k → J k = I k := by
  obtain ⟨d, hd⟩ := CN.ds h
  obtain ⟨⟨a0, a1, a2⟩, bb, cc, dd, -⟩ := h
  have a0' : I 0 0 = nI (r 0) := a0
  have a1' : I 0 1 = nI (r 1) := a1
  have a2' : I 0 2 = nI (r 2) := a2
  have l14 : (14 : Int32) = nI 14 := rfl
  have l1 : (1 : Int32) = nI 1 := rfl
  have ea : gb_add (nI (r 1)) (nI 1) = nI (r 1 + 1) := nI_add _ _
  rw [eX2_putLink, eX2_putLink_0, a1', l14, if_pos ((clt (by omega) (by decide)).mpr h14), ckI h14 (by decide), ckI h14 (by decide), ckI h14 (by decide), ckI h14 (by decide), ckI h14 (by decide), nI_clamp (by omega), l1, ea]
  generalize hX : gU (gU (gU (gU (gU (gU I 1 (r 1) (nI a)) 2 (r 1) (nI b)) 3 (r 1) (nI c)) 4 (r 1) 0) 5 (r 1) 0) 0 1 (nI (r 1 + 1)) = X
  have x8 : X 8 = I 8 := by rw [← hX, gU_ok (by decide), gU_ok (by decide), gU_ok (by decide), gU_ok (by decide), gU_ok (by decide), gU_ok (by decide)]
  have x00 : X 0 0 = nI (r 0) := by rw [← hX, gU_un (Or.inr (by decide)), gU_ok (by decide), gU_ok (by decide), gU_ok (by decide), gU_ok (by decide), gU_ok (by decide)]; exact a0'
  have s9 : ∀ k, k < 9 → gS (rg 0 9) X k = X k := fun k hk => by rw [gS_b hk (by decide), Nat.zero_add]
  have m9 : ∀ (J : gM) k, k < 9 → gMg (rg 0 9) X J k = J k := fun J k hk => by
    have := gMg_rgi (b := 0) (I := X) (J := J) hk
    rwa [Nat.zero_add] at this
  obtain ⟨J, j0, j1, j2⟩ := pX2_shorten (N := N) (n := r 0) (s := a) (e := b) (I := gS (rg 0 9) X) (d := d) (by rw [s9 0 (by decide)]; exact x00) h10 ha hb (fun x g hx hg => ⟨by rw [s9 8 (by decide), x8]; exact (hd x g hx hg).2, (hd x g hx hg).1.1⟩) hN
  have jX : ∀ k, k < 8 → gMg (rg 0 9) X J k = X k := fun k hk => by rw [m9 J k (by omega), j2 k (by omega), s9 k (by omega)]
  rw [j0, hV_mk]
  refine ⟨_, rfl, ⟨⟨?_, ?_, ?_⟩, fun k hk2 => ?_, fun i hi => ?_, fun f w hf hw => ?_, fun x g hx hg => ?_⟩, fun k hk2 => ?_⟩
  · show gMg (rg 0 9) X J 0 0 = _
    rw [jX 0 (by decide), layL_n (by decide) (by omega) (by omega)]; exact x00
  · show gMg (rg 0 9) X J 0 1 = _
    rw [jX 0 (by decide), layL_1, ← hX, gU_us]
  · show gMg (rg 0 9) X J 0 2 = _
    rw [jX 0 (by decide), layL_n (by decide) (by omega) (by omega), ← hX, gU_un (Or.inr (by decide)), gU_ok (by decide), gU_ok (by decide), gU_ok (by decide), gU_ok (by decide), gU_ok (by decide)]; exact a2'
  · rw [layL_1] at hk2
    show gMg (rg 0 9) X J 1 k = _ ∧ gMg (rg 0 9) X J 2 k = _ ∧ gMg (rg 0 9) X J 3 k = _ ∧ gMg (rg 0 9) X J 4 k = _ ∧ gMg (rg 0 9) X J 5 k = _
    rw [jX 1 (by decide), jX 2 (by decide), jX 3 (by decide), jX 4 (by decide), jX 5 (by decide), ← hX]
    by_cases e : k = r 1
    · subst e
      rw [layL_0 h14, layL_b h14, layL_c h14, layL_d h14, layL_k h14]
      refine ⟨?_, ?_, ?_, ?_, ?_⟩
      · rw [gU_ok (by decide), gU_ok (by decide), gU_ok (by decide), gU_ok (by decide), gU_ok (by decide), gU_us]
      · rw [gU_ok (by decide), gU_ok (by decide), gU_ok (by decide), gU_ok (by decide), gU_us]
      · rw [gU_ok (by decide), gU_ok (by decide), gU_ok (by decide), gU_us]
      · rw [gU_ok (by decide), gU_ok (by decide), gU_us]; rfl
      · rw [gU_ok (by decide), gU_us]; rfl
    · obtain ⟨b0, b1, b2, b3, b4⟩ := bb k (by omega)
      have lc : cfp (layL r a b c) k = cfp r k := layL_n (by omega) (by omega) (by omega)
      rw [layL_lk (by omega) (by decide) h14, layL_lk (by omega) (by decide) h14, layL_lk (by omega) (by decide) h14, layL_lk (by omega) (by decide) h14, lc]
      refine ⟨?_, ?_, ?_, ?_, ?_⟩
      · rw [gU_ok (by decide), gU_ok (by decide), gU_ok (by decide), gU_ok (by decide), gU_ok (by decide), gU_un (Or.inr e)]; exact b0
      · rw [gU_ok (by decide), gU_ok (by decide), gU_ok (by decide), gU_ok (by decide), gU_un (Or.inr e), gU_ok (by decide)]; exact b1
      · rw [gU_ok (by decide), gU_ok (by decide), gU_ok (by decide), gU_un (Or.inr e), gU_ok (by decide), gU_ok (by decide)]; exact b2
      · rw [gU_ok (by decide), gU_ok (by decide), gU_un (Or.inr e), gU_ok (by decide), gU_ok (by decide), gU_ok (by decide)]; exact b3
      · rw [gU_ok (by decide), gU_un (Or.inr e), gU_ok (by decide), gU_ok (by decide), gU_ok (by decide), gU_ok (by decide)]; exact b4
  · show gMg (rg 0 9) X J 6 i = _
    rw [jX 6 (by decide), ← hX, gU_ok (by decide), gU_ok (by decide), gU_ok (by decide), gU_ok (by decide), gU_ok (by decide), gU_ok (by decide), layL_n (by omega) (by omega) (by omega)]
    exact cc i hi
  · rw [layL_n (by decide) (by omega) (by omega)] at hf
    show gMg (rg 0 9) X J 7 (f * 11 + w) = _
    have lf : flp (layL r a b c) f w = flp r f w := layL_n (by omega) (by omega) (by omega)
    rw [jX 7 (by decide), ← hX, gU_ok (by decide), gU_ok (by decide), gU_ok (by decide), gU_ok (by decide), gU_ok (by decide), gU_ok (by decide), lf]
    exact dd f w hf hw
  · rw [layL_n (by decide) (by omega) (by omega)] at hx hg
    refine ⟨dNew d a b x g, isD_new (layL_n (by decide) (by omega) (by omega)) layL_1 (fun j hj => ⟨layL_lk hj (by decide) h14, layL_lk hj (by decide) h14⟩) (layL_0 h14) (layL_b h14) ha hb hk (fun x g hx hg => (hd x g hx hg).1) hx hg, ?_⟩
    show gMg (rg 0 9) X J 8 (x * 10 + g) = _
    rw [m9 J 8 (by decide)]; exact j1 x g hx hg
  · have : gMg (rg 0 9) X J k = X k := gMg_rgo (Or.inr (by omega))
    rw [this, ← hX, gU_ok (by omega), gU_ok (by omega), gU_ok (by omega), gU_ok (by omega), gU_ok (by omega), gU_ok (by omega)]
theorem pX9_layLink {N a b c : Nat} {σ : St} {I : gM} (hr : RowIs (I 0) σ) (h14 : σ.1 1 < 14) : ∃ J, fX9_layLink N [.ref 0, .int (nI a), .int (nI b), .int (nI c)] I = some (.inl none, J) ∧ RowIs (J 0) (layL σ.1 a b c, σ.2) ∧ ∀ k, k ≠ 0 → J k = I k := by
  have l0 : (0 : Int32) = nI 0 := rfl
  have l1 : (1 : Int32) = nI 1 := rfl
  have l2 : (2 : Int32) = nI 2 := rfl
  have l3 : (3 : Int32) = nI 3 := rfl
  have l4 : (4 : Int32) = nI 4 := rfl
  have l9 : (9 : Int32) = nI 9 := rfl
  have l131 : (131 : Int32) = nI 131 := rfl
  have e1 : I 0 1 = nI (σ.1 1) := hr.1 1 (by decide)
  have n1 : (nI 1).toNatClampNeg = 1 := nI_clamp (by decide)
  have e9 : ∀ w, gb_add (gb_add (nI 9) (gb_mul (nI 4) (nI (σ.1 1)))) (nI w) = nI (9 + 4 * σ.1 1 + w) := fun w => by
    simp only [gb_add, gb_mul, pk_mul, nI_add]
  have e131 : gb_add (nI 131) (nI (σ.1 1)) = nI (131 + σ.1 1) := nI_add _ _
  have ea : gb_add (nI (σ.1 1)) (nI 1) = nI (σ.1 1 + 1) := nI_add _ _
  rw [eX9_layLink, eX9_layLink_0, l0, l1, l2, l3, l4, l9, l131, n1, e1, e9, e9, e9, e9, nI_clamp (n := 9 + 4 * σ.1 1 + 0) (by omega), nI_clamp (n := 9 + 4 * σ.1 1 + 1) (by omega), nI_clamp (n := 9 + 4 * σ.1 1 + 2) (by omega), nI_clamp (n := 9 + 4 * σ.1 1 + 3) (by omega)]
  have v1 : gU (gU (gU (gU I 0 (9 + 4 * σ.1 1 + 0) (nI a)) 0 (9 + 4 * σ.1 1 + 1) (nI b)) 0 (9 + 4 * σ.1 1 + 2) (nI c)) 0 (9 + 4 * σ.1 1 + 3) (nI 0) 0 1 = nI (σ.1 1) := by
    rw [gU_un (Or.inr (by omega)), gU_un (Or.inr (by omega)), gU_un (Or.inr (by omega)), gU_un (Or.inr (by omega))]; exact e1
  have v2 : gU (gU (gU (gU (gU I 0 (9 + 4 * σ.1 1 + 0) (nI a)) 0 (9 + 4 * σ.1 1 + 1) (nI b)) 0 (9 + 4 * σ.1 1 + 2) (nI c)) 0 (9 + 4 * σ.1 1 + 3) (nI 0)) 0 (131 + σ.1 1) (nI 0) 0 1 = nI (σ.1 1) := by
    rw [gU_un (Or.inr (by omega))]; exact v1
  rw [v1, e131, nI_clamp (n := 131 + σ.1 1) (by omega), v2, ea, ckI (by decide) (by decide), ckI (by omega) (by decide), ckI (by omega) (by decide), ckI (by omega) (by decide), ckI (by omega) (by decide), ckI (by decide) (by decide), ckI (by omega) (by decide), ckI (by decide) (by decide), ckI (by decide) (by decide)]
  refine ⟨_, rfl, ?_, fun k hk => by rw [gU_ok hk, gU_ok hk, gU_ok hk, gU_ok hk, gU_ok hk, gU_ok hk]⟩
  rw [gU_u3, gU_u3, gU_u3, gU_u3, gU_u3, gU_u3]
  exact (((((hr.put (k := 9 + 4 * σ.1 1 + 0) (by omega)).put (k := 9 + 4 * σ.1 1 + 1) (by omega)).put (k := 9 + 4 * σ.1 1 + 2) (by omega)).put (k := 9 + 4 * σ.1 1 + 3) (by omega)).put (k := 131 + σ.1 1) (by omega)).put (k := 1) (by decide)
