/-! ===== the reference: distances ===== -/
/-- hops that are lengths of walks -/
def hSnd (r h : Nat → Nat) : Prop := ∀ a g, a < 10 → g < 10 → h (10 * a + g) ≤ r 0 ∧ (h (10 * a + g) < r 0 → wk r (h (10 * a + g)) a g)
def hCmp (r h : Nat → Nat) (t : Nat) : Prop := ∀ L a g, L ≤ t → a < r 0 → g < r 0 → wk r L a g → h (10 * a + g) ≤ L
def hMid (r h : Nat → Nat) (t k i : Nat) : Prop := hSnd r h ∧ hCmp r h t ∧ ∀ j g, j < r 1 → g < r 0 → (j < k ∨ (j = k ∧ g < i)) → wk r t (lkp r j 1) g → h (10 * lkp r j 0 + g) ≤ t + 1
theorem hCmp_0 {r h : Nat → Nat} (hz : ∀ a, a < 10 → h (10 * a + a) = 0) (h10 : r 0 ≤ 10) : hCmp r h 0 := fun L a g hL ha hg hw => by
  have e : L = 0 := by omega
  subst e
  have e2 : a = g := hw
  subst e2
  rw [hz a (by omega)]; omega
theorem hMid_s {r h : Nat → Nat} {t k i : Nat} (H : hMid r h t k i) (h10 : r 0 ≤ 10) (hk : k < r 1) (hi : i < r 0) (ha : lkp r k 0 < r 0) (hb : lkp r k 1 < r 0) : hMid r (up1 h (10 * lkp r k 0 + i) (min (h (10 * lkp r k 0 + i)) (h (10 * lkp r k 1 + i) + 1))) t k (i + 1) := by
  obtain ⟨h1, h2, h3⟩ := H
  have le : ∀ q, up1 h (10 * lkp r k 0 + i) (min (h (10 * lkp r k 0 + i)) (h (10 * lkp r k 1 + i) + 1)) q ≤ h q := fun q => by
    by_cases e : q = 10 * lkp r k 0 + i
    · rw [e, up1_s]; omega
    · rw [up1_n e]; omega
  refine ⟨fun a g ha' hg' => ?_, fun L a g hL ha' hg' hw => Nat.le_trans (le _) (h2 L a g hL ha' hg' hw), fun j g hj hg hjk hw => ?_⟩
  · obtain ⟨s1, s2⟩ := h1 a g ha' hg'
    by_cases e : 10 * a + g = 10 * lkp r k 0 + i
    · have ea : a = lkp r k 0 := by omega
      have eg : g = i := by omega
      subst ea; subst eg
      rw [up1_s]
      refine ⟨by omega, fun hl => ?_⟩
      by_cases hm : h (10 * lkp r k 0 + g) ≤ h (10 * lkp r k 1 + g) + 1
      · rw [Nat.min_eq_left hm] at hl ⊢
        exact s2 hl
      · rw [Nat.min_eq_right (by omega)] at hl ⊢
        obtain ⟨t1, t2⟩ := h1 (lkp r k 1) g (by omega) hg'
        exact ⟨k, hk, rfl, t2 (by omega)⟩
    · rw [up1_n e]; exact ⟨s1, s2⟩
  · by_cases e : j = k ∧ g = i
    · obtain ⟨e1, e2⟩ := e
      subst e1; subst e2
      rw [up1_s]
      have := h2 t (lkp r j 1) g (Nat.le_refl _) hb hg hw
      omega
    · exact Nat.le_trans (le _) (h3 j g hj hg (by omega) hw)
theorem hMid_k {r h : Nat → Nat} {t k : Nat} (H : hMid r h t k (r 0)) : hMid r h t (k + 1) 0 := ⟨H.1, H.2.1, fun j g hj hg hjk hw => H.2.2 j g hj hg (by omega) hw⟩
theorem hMid_e {r h : Nat → Nat} {t : Nat} (H : hMid r h t (r 1) 0) (hlk : ∀ k, k < r 1 → lkp r k 0 < r 0 ∧ lkp r k 1 < r 0) : hCmp r h (t + 1) := fun L a g hL ha hg hw => by
  rcases Nat.lt_or_ge L (t + 1) with h1 | h1
  · exact H.2.1 L a g (by omega) ha hg hw
  · have e : L = t + 1 := by omega
    subst e
    obtain ⟨j, hj, hja, hw2⟩ := hw
    have := H.2.2 j g hj hg (Or.inl hj) hw2
    rw [hja] at this; exact this
theorem hopD {r h : Nat → Nat} (h1 : hSnd r h) (h2 : hCmp r h (r 0)) (h10 : r 0 ≤ 10) {a g : Nat} (ha : a < r 0) (hg : g < r 0) : isD r a g (h (10 * a + g)) := by
  obtain ⟨s1, s2⟩ := h1 a g (by omega) (by omega)
  refine ⟨s1, s2, fun k hk hw => ?_⟩
  have := h2 k a g (by omega) ha hg hw
  omega
theorem idx10 (a b : Nat) : gb_add (gb_mul 10 (nI a)) (nI b) = nI (10 * a + b) := by
  simp only [gb_add, gb_mul, fa_lit, pk_mul, nI_add]
theorem pX9_layHops {N B : Nat} {σ : St} {M : gM} (hr : RowIs (M 3) σ) (hw : Wf B σ) (hN : 1000 ≤ N) :
    ∃ J, fX9_layHops N [.ref 0] M = some (.inl none, J) ∧ (∀ a g, a < σ.1 0 → g < σ.1 0 → ∃ d, isD σ.1 a g d ∧ J 8 (10 * a + g) = nI d) ∧ ∀ k, k ≠ 8 → J k = M k := by
  obtain ⟨r, ps⟩ := σ
  obtain ⟨c0, c1, c2, -⟩ := wfC hw
  have hlk : ∀ k, k < r 1 → lkp r k 0 < r 0 ∧ lkp r k 1 < r 0 := fun k hk => ⟨(wfL hw k hk).1, (wfL hw k hk).2.1⟩
  have h10 : r 0 ≤ 10 := c0.2
  have h14 : r 1 ≤ 14 := c1
  have l0 : (0 : Int32) = nI 0 := rfl
  have l1 : (1 : Int32) = nI 1 := rfl
  have l10 : (10 : Int32) = nI 10 := rfl
  have l100 : (100 : Int32) = nI 100 := rfl
  have ne10 : ¬ (10 : Int32) = 0 := by decide
  have cc0 : ∀ X : gO, ck 2746 0 X = X := fun X => by rw [l0, ckI (by decide) (by decide)]
  have cc1 : ∀ X : gO, ck 2746 1 X = X := fun X => by rw [l1, ckI (by decide) (by decide)]
  have n0 : (0 : Int32).toNatClampNeg = 0 := by decide
  have n1 : (1 : Int32).toNatClampNeg = 1 := by decide
  have e0 : M 3 0 = nI (r 0) := hr.1 0 (by decide)
  have e1 : M 3 1 = nI (r 1) := hr.1 1 (by decide)
  have hL : ∀ (k w : Nat), k < r 1 → w < 4 → M 3 (9 + 4 * k + w) = nI (lkp r k w) := fun k w hk hw4 => hr.1 _ (by omega)
  -- the links of a round
  have goals : ∀ (n45 n52 t k : Nat), k < r 1 → ∀ m i : Nat, i ≤ r 0 → r 0 - i < m → ∀ (I : gM) (h : Nat → Nat), (∀ q, q < 100 → I 8 q = nI (h q)) → hMid r h t k i → (∀ k, k ≠ 8 → I k = M k) →
      ∃ (J : gM) (h' : Nat → Nat), hX9_layHops_65 N n45 n52 m (nI (r 0)) (nI t) (nI k) (nI i) I = hX9_layHops_52 N n45 n52 (nI (r 0)) (nI t) (nI (k + 1)) J ∧ (∀ q, q < 100 → J 8 q = nI (h' q)) ∧ hMid r h' t (k + 1) 0 ∧ ∀ k, k ≠ 8 → J k = M k := by
    intro n45 n52 t k hk m
    induction m with
    | zero => intro i _ h; omega
    | succ m ih =>
      intro i hi hm I h hI hM hk8
      rw [eX9_layHops_65]
      by_cases hin : i = r 0
      · rw [hin, if_pos ((cge (by omega) (by omega)).mpr (Nat.le_refl _)), l1, nI_add]
        rw [hin] at hM
        exact ⟨I, h, rfl, hI, hMid_k hM, hk8⟩
      · obtain ⟨a1, a2⟩ := hlk k hk
        have hi2 : i < r 0 := by omega
        have s1 := (hM.1 (lkp r k 1) i (by omega) (by omega)).1
        have s0 := (hM.1 (lkp r k 0) i (by omega) (by omega)).1
        rw [if_neg (fun z => hin (by have := (cge (by omega) (by omega)).mp z; omega)), l0, l1, r_link (N := N) (k := k) (w := 1) (by omega), hk8 3 (by decide), hL k 1 hk (by decide), idx10, ckI (by omega) (by decide), r_link (N := N) (k := k) (w := 0) (by omega), hk8 3 (by decide), hL k 0 hk (by decide), idx10, ckI (by omega) (by decide), ckI (by omega) (by decide), nI_clamp (by omega), nI_clamp (by omega), hI _ (by omega), hI _ (by omega)]
        have em : gj_min (nI (h (10 * lkp r k 0 + i))) (gb_add (nI (h (10 * lkp r k 1 + i))) (nI 1)) = nI (min (h (10 * lkp r k 0 + i)) (h (10 * lkp r k 1 + i) + 1)) := by
          have : gb_add (nI (h (10 * lkp r k 1 + i))) (nI 1) = nI (h (10 * lkp r k 1 + i) + 1) := nI_add _ _
          rw [this, jmin (by omega) (by omega)]
        rw [em, nI_add]
        refine ih (i + 1) (by omega) (by omega) _ (up1 h (10 * lkp r k 0 + i) (min (h (10 * lkp r k 0 + i)) (h (10 * lkp r k 1 + i) + 1))) (fun q hq => ?_) (hMid_s hM h10 hk hi2 a1 a2) (fun j hj => by rw [gU_ok hj]; exact hk8 j hj)
        by_cases e : q = 10 * lkp r k 0 + i
        · rw [e, gU_us, up1_s]
        · rw [gU_un (Or.inr e), up1_n e]; exact hI q hq
  have links : ∀ (n45 t : Nat), ∀ m i : Nat, i ≤ r 1 → r 1 - i < m → ∀ (I : gM) (h : Nat → Nat), (∀ q, q < 100 → I 8 q = nI (h q)) → hMid r h t i 0 → (∀ k, k ≠ 8 → I k = M k) →
      ∃ (J : gM) (h' : Nat → Nat), hX9_layHops_52 N n45 m (nI (r 0)) (nI t) (nI i) I = hX9_layHops_45 N n45 (nI (r 0)) (nI (t + 1)) J ∧ (∀ q, q < 100 → J 8 q = nI (h' q)) ∧ hSnd r h' ∧ hCmp r h' (t + 1) ∧ ∀ k, k ≠ 8 → J k = M k := by
    intro n45 t m
    induction m with
    | zero => intro i _ h; omega
    | succ m ih =>
      intro i hi hm I h hI hM hk8
      rw [eX9_layHops_52, cc1, n1, hk8 3 (by decide), e1]
      by_cases hin : i = r 1
      · rw [hin, if_pos ((cge (by omega) (by omega)).mpr (Nat.le_refl _)), l1, nI_add]
        rw [hin] at hM
        exact ⟨I, h, rfl, hI, hM.1, hMid_e hM hlk, hk8⟩
      · rw [if_neg (fun z => hin (by have := (cge (by omega) (by omega)).mp z; omega)), l0]
        obtain ⟨J, h', j0, j1, j2, j3⟩ := goals n45 m t i (by omega) N 0 (Nat.zero_le _) (by omega) I h hI hM hk8
        rw [j0]
        exact ih (i + 1) (by omega) (by omega) J h' j1 j2 j3
  have rounds : ∀ m t : Nat, t ≤ r 0 → r 0 - t < m → ∀ (I : gM) (h : Nat → Nat), (∀ q, q < 100 → I 8 q = nI (h q)) → hSnd r h → hCmp r h t → (∀ k, k ≠ 8 → I k = M k) →
      ∃ (J : gM) (h' : Nat → Nat), hX9_layHops_45 N m (nI (r 0)) (nI t) I = some (.inl none, J) ∧ (∀ q, q < 100 → J 8 q = nI (h' q)) ∧ hSnd r h' ∧ hCmp r h' (r 0) ∧ ∀ k, k ≠ 8 → J k = M k := by
    intro m
    induction m with
    | zero => intro i _ h; omega
    | succ m ih =>
      intro t ht hm I h hI hS hC hk8
      rw [eX9_layHops_45]
      by_cases hin : t = r 0
      · rw [hin, if_pos ((cge (by omega) (by omega)).mpr (Nat.le_refl _))]
        rw [hin] at hC
        exact ⟨I, h, rfl, hI, hS, hC, hk8⟩
      · rw [if_neg (fun z => hin (by have := (cge (by omega) (by omega)).mp z; omega)), l0]
        obtain ⟨J, h', j0, j1, j2, j3, j4⟩ := links m t N 0 (Nat.zero_le _) (by omega) I h hI ⟨hS, hC, fun j g _ _ hjk _ => by omega⟩ hk8
        rw [j0]
        exact ih (t + 1) (by omega) (by omega) J h' j1 j2 j3 j4
  have init : ∀ m i : Nat, i ≤ 100 → 100 - i < m → ∀ (I : gM), (∀ q, q < i → I 8 q = nI (if q / 10 = q % 10 then 0 else r 0)) → (∀ k, k ≠ 8 → I k = M k) →
      ∃ (J : gM), hX9_layHops_9 N m (nI (r 0)) (nI i) I = hX9_layHops_45 N N (nI (r 0)) 0 J ∧ (∀ q, q < 100 → J 8 q = nI (if q / 10 = q % 10 then 0 else r 0)) ∧ ∀ k, k ≠ 8 → J k = M k := by
    intro m
    induction m with
    | zero => intro i _ h; omega
    | succ m ih =>
      intro i hi hm I hI hk8
      rw [eX9_layHops_9, l100]
      by_cases hin : i = 100
      · subst hin
        rw [if_pos ((cge (by omega) (by omega)).mpr (Nat.le_refl _))]
        exact ⟨I, rfl, hI, hk8⟩
      · have ed : gb_div (nI i) 10 = nI (i / 10) := pk_div (by omega) (by decide) (by decide)
        have er : gb_rem (nI i) 10 = nI (i % 10) := pk_rem (by omega) (by decide) (by decide)
        have nx : ∀ x : Nat, x = (if i / 10 = i % 10 then 0 else r 0) → ∃ (J : gM), hX9_layHops_36 N m (nI (r 0)) (nI i) (nI i) (nI x) I = hX9_layHops_45 N N (nI (r 0)) 0 J ∧ (∀ q, q < 100 → J 8 q = nI (if q / 10 = q % 10 then 0 else r 0)) ∧ ∀ k, k ≠ 8 → J k = M k := fun x hx => by
          rw [eX9_layHops_36, ckI (by omega) (by decide), nI_clamp (by omega), l1, nI_add]
          refine ih (i + 1) (by omega) (by omega) _ (fun q hq => ?_) (fun k hk => by rw [gU_ok hk]; exact hk8 k hk)
          by_cases e : q = i
          · rw [e, gU_us, hx]
          · rw [gU_un (Or.inr e)]; exact hI q (by omega)
        rw [if_neg (fun z => hin (by have := (cge (by omega) (by omega)).mp z; omega)), if_neg ne10, if_neg ne10, ed, er]
        by_cases hc : i / 10 = i % 10
        · rw [if_neg (fun z => ((cne (by omega) (by omega)).mp z) hc), l0]
          exact nx 0 (by rw [if_pos hc])
        · rw [if_pos ((cne (by omega) (by omega)).mpr hc)]
          exact nx (r 0) (by rw [if_neg hc])
  rw [eX9_layHops, eX9_layHops_0, cc0, n0, e0, l0]
  obtain ⟨J1, a0, a1, a2⟩ := init N 0 (by omega) (by omega) M (fun q hq => absurd hq (Nat.not_lt_zero _)) (fun _ _ => rfl)
  rw [a0]
  obtain ⟨J2, h', b0, b1, b2, b3, b4⟩ := rounds N 0 (Nat.zero_le _) (by omega) J1 (fun q => if q / 10 = q % 10 then 0 else r 0) a1 (fun a g ha hg => by
    by_cases e : a = g
    · subst e
      have : (10 * a + a) / 10 = (10 * a + a) % 10 := by omega
      simp only [if_pos this]
      exact ⟨Nat.zero_le _, fun _ => rfl⟩
    · have : ¬ (10 * a + g) / 10 = (10 * a + g) % 10 := by omega
      simp only [if_neg this]
      exact ⟨Nat.le_refl _, fun h => absurd h (Nat.lt_irrefl _)⟩) (hCmp_0 (fun a ha => if_pos (by omega)) h10) a2
  rw [show (0 : Int32) = nI 0 from rfl, b0]
  exact ⟨J2, rfl, fun a g ha hg => ⟨h' (10 * a + g), hopD b2 b3 h10 ha hg, b1 _ (by have : a < r 0 := ha; have : g < r 0 := hg; omega)⟩, b4⟩
