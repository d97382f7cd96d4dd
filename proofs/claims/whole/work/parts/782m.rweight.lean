/-! ===== the reference: pressures and weights ===== -/
/-- the queues of a state, by their numbers -/
def qsq (σ : St) : Nat → List Pk := fun q => qls σ (q / 10) (q % 10)
theorem qsq_at (σ : St) {a g : Nat} (hg : g < 10) : qsq σ (a * 10 + g) = qls σ a g := by
  show qls σ ((a * 10 + g) / 10) ((a * 10 + g) % 10) = _
  rw [show (a * 10 + g) / 10 = a by omega, show (a * 10 + g) % 10 = g by omega]
theorem r_goal {N B k : Nat} {σ : St} {I : gM} {p : Pk} {K : Int32 → gM → gO} (hr : RowIs (I 3) σ) (hw : Wf B σ) (hp : σ.2[k]? = some p) : hI (fX9_goalOf N [.ref 0, .int (nI k)] (gS (rg 0 18) I)) (rg 0 18) I K = K (nI (gol σ.1 p)) I := by
  have hk := (List.getElem?_eq_some_iff.mp hp).1
  obtain ⟨hl, hP⟩ := wfP hw
  obtain ⟨p1, -⟩ := hP p (List.mem_of_getElem? hp)
  have h6 := (wfC hw).2.2.1
  rw [pX9_goalOf N (f := p.1) _ (by omega) (by rw [gSm18 (by decide)]; exact hr.2.2 k p hp 0 (by decide)) (by omega), hI_mk, gMm18, gSm18 (by decide), hr.1 _ (by omega)]
  rfl
theorem filt_s {i : Nat} {l : List Pk} {f : Pk → Bool} {p : Pk} (hp : l[i]? = some p) : ((l.take (i + 1)).filter f).length = ((l.take i).filter f).length + (if f p = true then 1 else 0) := by
  rw [take_s hp, List.filter_append, List.length_append]
  cases h : f p with
  | false => rw [List.filter_cons_of_neg (by simp [h])]; rfl
  | true => rw [List.filter_cons_of_pos h]; rfl
theorem pX9_layPressures {N B : Nat} {σ : St} {M : gM} {ds : Nat → Nat → Nat} (hr : RowIs (M 3) σ) (hw : Wf B σ) (hB : B < 2 ^ 31) (hds : ∀ a b, a < σ.1 0 → b < σ.1 0 → isD σ.1 a b (ds a b)) (hN : 1000 ≤ N) :
    ∃ J, fX9_layPressures N [.ref 0] M = some (.inl none, J) ∧ (∀ q, q < 100 → J 10 q = nI (qln σ (q / 10) (q % 10))) ∧ (∀ a g, a < σ.1 0 → g < σ.1 0 → J 9 (10 * a + g) = nI (if a = g then 0 else lvl σ.1 (qsq σ) a g + σ.1 5 * ds a g)) ∧ ∀ k, k ≠ 8 → k ≠ 9 → k ≠ 10 → J k = M k := by
  obtain ⟨r, ps⟩ := σ
  obtain ⟨c0, c1, c2, c3, c4, c5, -⟩ := wfC hw
  obtain ⟨hl, hP⟩ := wfP hw
  have h10 : r 0 ≤ 10 := c0.2
  have hl0 : ps.length ≤ 500 := hl
  have h3 : r 3 ≤ 1 := c3
  have h5 : r 5 ≤ 20 := c5
  have l0 : (0 : Int32) = nI 0 := rfl
  have l1 : (1 : Int32) = nI 1 := rfl
  have l3 : (3 : Int32) = nI 3 := rfl
  have l4 : (4 : Int32) = nI 4 := rfl
  have l5 : (5 : Int32) = nI 5 := rfl
  have l100 : (100 : Int32) = nI 100 := rfl
  have l145 : (145 : Int32) = nI 145 := rfl
  have l245 : (245 : Int32) = nI 245 := rfl
  have ne10 : ¬ (10 : Int32) = 0 := by decide
  have cc3 : ∀ X : gO, ck 2746 3 X = X := fun X => by rw [l3, ckI (by decide) (by decide)]
  have cc5 : ∀ X : gO, ck 2746 5 X = X := fun X => by rw [l5, ckI (by decide) (by decide)]
  have cc245 : ∀ X : gO, ck 2746 245 X = X := fun X => by rw [l245, ckI (by decide) (by decide)]
  have n3 : (3 : Int32).toNatClampNeg = 3 := by decide
  have n5 : (5 : Int32).toNatClampNeg = 5 := by decide
  have n245 : (245 : Int32).toNatClampNeg = 245 := by decide
  have hS : RowIs (gS (rg 0 18) M 3) (r, ps) := by rw [gSm18 (by decide)]; exact hr
  obtain ⟨J0, b0, b1, b2'⟩ := pX9_layHops (N := N) hS hw hN
  have hop : ∀ a g, a < r 0 → g < r 0 → gMg (rg 0 18) M J0 8 (10 * a + g) = nI (ds a g) := fun a g ha hg => by
    obtain ⟨d, d1, d2⟩ := b1 a g ha hg
    rw [gM18 (by decide), d2, isD.one d1 (hds a g ha hg)]
  have hoth : ∀ k, k ≠ 8 → gMg (rg 0 18) M J0 k = M k := rlift b2'
  have fill0 : ∀ m i : Nat, i ≤ 100 → 100 - i < m → ∀ (I : gM), (∀ q, q < i → I 10 q = nI 0) → (∀ k, k ≠ 10 → I k = gMg (rg 0 18) M J0 k) →
      ∃ (J : gM), hX9_layPressures_6 N m (nI i) I = hX9_layPressures_27 N N (nI 0) J ∧ (∀ q, q < 100 → J 10 q = nI 0) ∧ ∀ k, k ≠ 10 → J k = gMg (rg 0 18) M J0 k := by
    intro m
    induction m with
    | zero => intro i _ h; omega
    | succ m ih =>
      intro i hi hm I hI hk
      rw [eX9_layPressures_6, l100]
      by_cases hin : i = 100
      · subst hin
        rw [if_pos ((cge (by omega) (by omega)).mpr (Nat.le_refl _))]
        exact ⟨I, rfl, hI, hk⟩
      · rw [if_neg (fun z => hin (by have := (cge (by omega) (by omega)).mp z; omega)), ckI (by omega) (by decide), nI_clamp (by omega), l1, nI_add]
        refine ih (i + 1) (by omega) (by omega) _ (fun q hq => ?_) (fun k hk2 => by rw [gU_ok hk2]; exact hk k hk2)
        by_cases e : q = i
        · rw [e, gU_us]; rfl
        · rw [gU_un (Or.inr e)]; exact hI q (by omega)
  have fill : ∀ m i : Nat, i ≤ ps.length → ps.length - i < m → ∀ (I : gM), (∀ q, q < 100 → I 10 q = nI ((ps.take i).filter (inq r (q / 10) (q % 10))).length) → (∀ k, k ≠ 10 → I k = gMg (rg 0 18) M J0 k) →
      ∃ (J : gM), hX9_layPressures_27 N m (nI i) I = hX9_layPressures_71 N N (nI 0) J ∧ (∀ q, q < 100 → J 10 q = nI (qln (r, ps) (q / 10) (q % 10))) ∧ ∀ k, k ≠ 10 → J k = gMg (rg 0 18) M J0 k := by
    intro m
    induction m with
    | zero => intro i _ h; omega
    | succ m ih =>
      intro i hi hm I hI hk
      have hrI : RowIs (I 3) (r, ps) := by rw [hk 3 (by decide), hoth 3 (by decide)]; exact hr
      have hl' : ps.length ≤ 500 := hl
      have hlen : I 3 245 = nI ps.length := hrI.2.1
      rw [eX9_layPressures_27, cc245, n245, hlen]
      by_cases hin : i = ps.length
      · subst hin
        rw [if_pos ((cge (by omega) (by omega)).mpr (Nat.le_refl _))]
        refine ⟨I, rfl, fun q hq => ?_, hk⟩
        rw [hI q hq, List.take_length]; rfl
      · obtain ⟨p, hp⟩ := get_s (show i < ps.length by omega)
        obtain ⟨p1, p2, p3, p4, p5⟩ := hP p (List.mem_of_getElem? hp)
        have p4' : pkn p < r 0 := p4
        have pg : gol r p < r 0 := (wfF hw p.1 p1).2.1
        have e4 : I 3 (246 + 5 * i + 4) = nI (pkn p) := hrI.2.2 i p hp 4 (by decide)
        have hfl : ((ps.take i).filter (inq r (pkn p) (gol r p))).length ≤ 500 := by
          have h1 := List.length_filter_le (inq r (pkn p) (gol r p)) (ps.take i)
          have h2 := List.length_take_le i ps
          omega
        rw [if_neg (fun z => hin (by have := (cge (by omega) (by omega)).mp z; omega)), l4, r_packet (N := N) (k := i) (w := 4) (by omega), e4, r_goal (σ := (r, ps)) hrI hw hp]
        show ∃ J, (ck 100 (gb_add (gb_mul 10 (nI (pkn p))) (nI (gol r p))) _) = _ ∧ _
        rw [idx10, ckI (by omega) (by decide), ckI (by omega) (by decide), nI_clamp (by omega), hI _ (by omega), show (10 * pkn p + gol r p) / 10 = pkn p by omega, show (10 * pkn p + gol r p) % 10 = gol r p by omega, l1, nI_add]
        refine ih (i + 1) (by omega) (by omega) _ (fun q hq => ?_) (fun k hk2 => by rw [gU_ok hk2]; exact hk k hk2)
        rw [filt_s hp]
        by_cases e : q = 10 * pkn p + gol r p
        · rw [e, gU_us, show (10 * pkn p + gol r p) / 10 = pkn p by omega, show (10 * pkn p + gol r p) % 10 = gol r p by omega]
          rw [if_pos (show inq r (pkn p) (gol r p) p = true by unfold inq; rw [decide_eq_true rfl, decide_eq_true rfl]; rfl)]
          exact nI_add _ _
        · rw [gU_un (Or.inr e), hI q hq, if_neg (fun z => ?_), Nat.add_zero]
          unfold inq at z
          rw [Bool.and_eq_true, decide_eq_true_eq, decide_eq_true_eq] at z
          omega
  obtain ⟨J2, d0, d1, d2⟩ := fill0 N 0 (by omega) (by omega) (gMg (rg 0 18) M J0) (fun q hq => absurd hq (Nat.not_lt_zero _)) (fun _ _ => rfl)
  obtain ⟨J3, f0, f1, f2⟩ := fill N 0 (by omega) (by omega) J2 (fun q hq => by rw [d1 q hq]; rfl) d2
  have hr3 : J3 3 = M 3 := (f2 3 (by decide)).trans (hoth 3 (by decide))
  have h8 : ∀ a g, a < r 0 → g < r 0 → J3 8 (10 * a + g) = nI (ds a g) := fun a g ha hg => by rw [f2 8 (by decide)]; exact hop a g ha hg
  have last : ∀ m i : Nat, i ≤ 100 → 100 - i < m → ∀ (I : gM), (∀ a g, a < r 0 → g < r 0 → 10 * a + g < i → I 9 (10 * a + g) = nI (if a = g then 0 else lvl r (qsq (r, ps)) a g + r 5 * ds a g)) → (∀ k, k ≠ 9 → I k = J3 k) →
      ∃ (J : gM), hX9_layPressures_71 N m (nI i) I = some (.inl none, J) ∧ (∀ a g, a < r 0 → g < r 0 → J 9 (10 * a + g) = nI (if a = g then 0 else lvl r (qsq (r, ps)) a g + r 5 * ds a g)) ∧ ∀ k, k ≠ 9 → J k = J3 k := by
    intro m
    induction m with
    | zero => intro i _ h; omega
    | succ m ih =>
      intro i hi hm I hI hk
      rw [eX9_layPressures_71, l100]
      by_cases hin : i = 100
      · subst hin
        rw [if_pos ((cge (by omega) (by omega)).mpr (Nat.le_refl _))]
        exact ⟨I, rfl, fun a g ha hg => hI a g ha hg (by omega), hk⟩
      · have hrI : RowIs (I 3) (r, ps) := by rw [hk 3 (by decide), hr3]; exact hr
        have e3 : I 3 3 = nI (r 3) := hrI.1 3 (by decide)
        have e5 : I 3 5 = nI (r 5) := hrI.1 5 (by decide)
        have ed : gb_div (nI i) 10 = nI (i / 10) := pk_div (by omega) (by decide) (by decide)
        have er : gb_rem (nI i) 10 = nI (i % 10) := pk_rem (by omega) (by decide) (by decide)
        have nx : ∀ x : Nat, (∀ a g, a < r 0 → g < r 0 → i = 10 * a + g → a ≠ g → x = lvl r (qsq (r, ps)) a g) → ∃ (J : gM), hX9_layPressures_105 N m (nI i) (nI x) I = some (.inl none, J) ∧ (∀ a g, a < r 0 → g < r 0 → J 9 (10 * a + g) = nI (if a = g then 0 else lvl r (qsq (r, ps)) a g + r 5 * ds a g)) ∧ ∀ k, k ≠ 9 → J k = J3 k := fun x hx => by
          rw [eX9_layPressures_105, if_neg ne10, if_neg ne10, ed, er]
          by_cases hc : i / 10 = i % 10
          · rw [if_neg (fun z => ((cne (by omega) (by omega)).mp z) hc), eX9_layPressures_141, ckI (by omega) (by decide), nI_clamp (by omega), l1, nI_add]
            refine ih (i + 1) (by omega) (by omega) _ (fun a g ha hg hlt => ?_) (fun k hk2 => by rw [gU_ok hk2]; exact hk k hk2)
            by_cases e : 10 * a + g = i
            · rw [e, gU_us, if_pos (by omega)]; rfl
            · rw [gU_un (Or.inr e)]; exact hI a g ha hg (by omega)
          · rw [if_pos ((cne (by omega) (by omega)).mpr hc), cc5, ckI (by omega) (by decide), eX9_layPressures_141, ckI (by omega) (by decide), nI_clamp (by omega), l1, nI_add, n5, e5]
            refine ih (i + 1) (by omega) (by omega) _ (fun a g ha hg hlt => ?_) (fun k hk2 => by rw [gU_ok hk2]; exact hk k hk2)
            by_cases e : 10 * a + g = i
            · have hag : a ≠ g := by omega
              rw [e, gU_us, if_neg hag, hk 8 (by decide), ← e, h8 a g ha hg, hx a g ha hg e.symm hag]
              show nI _ + nI (r 5) * nI (ds a g) = _
              rw [pk_mul, nI_add]
            · rw [gU_un (Or.inr e)]; exact hI a g ha hg (by omega)
        rw [if_neg (fun z => hin (by have := (cge (by omega) (by omega)).mp z; omega)), cc3, n3, e3]
        by_cases hm0 : r 3 = 0
        · rw [if_neg (fun z => ((zne (by omega)).mp z) hm0), ckI (by omega) (by decide), nI_clamp (by omega), hk 10 (by decide), f1 i (by omega)]
          refine nx _ (fun a g ha hg e hag => ?_)
          unfold lvl
          rw [if_pos hm0, qsq_at _ (show g < 10 by omega), e, show (10 * a + g) / 10 = a by omega, show (10 * a + g) % 10 = g by omega]
          rfl
        · rw [if_pos ((zne (by omega)).mpr hm0), l145]
          show ∃ J, (ck 2746 (nI 145 + nI i) (hX9_layPressures_105 N m (nI i) (I 3 (nI 145 + nI i).toNatClampNeg) I)) = _ ∧ _
          rw [nI_add, ckI (by omega) (by decide), nI_clamp (by omega), hrI.1 (145 + i) (by omega)]
          refine nx _ (fun a g ha hg e hag => ?_)
          unfold lvl
          rw [if_neg hm0, e, Nat.mul_comm a 10]
  obtain ⟨J4, g0, g1, g2⟩ := last N 0 (by omega) (by omega) J3 (fun a g _ _ h => absurd h (Nat.not_lt_zero _)) (fun _ _ => rfl)
  rw [eX9_layPressures, eX9_layPressures_0, b0, hV_mk, l0, d0, f0, g0]
  refine ⟨J4, rfl, fun q hq => by rw [g2 10 (by decide)]; exact f1 q hq, g1, fun k h8' h9 h10' => ?_⟩
  rw [g2 k h9, f2 k h10', hoth k h8']
