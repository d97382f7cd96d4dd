/-! ===== the reference: weights ===== -/
/-- the fields that layPressures leaves -/
def PR (M : gM) (σ : St) (ds : Nat → Nat → Nat) : Prop := (∀ q, q < 100 → M 10 q = nI (qln σ (q / 10) (q % 10))) ∧ ∀ a g, a < σ.1 0 → g < σ.1 0 → M 9 (10 * a + g) = nI (if a = g then 0 else lvl σ.1 (qsq σ) a g + σ.1 5 * ds a g)
theorem lvl_self {B : Nat} {σ : St} (hw : Wf B σ) {a : Nat} (ha : a < 10) : lvl σ.1 (qsq σ) a a = 0 := by
  unfold lvl
  by_cases h : σ.1 3 = 0
  · rw [if_pos h, qsq_at σ ha]
    unfold qls
    rw [List.length_eq_zero_iff, List.filter_eq_nil_iff]
    intro p hp hq
    unfold inq at hq
    rw [Bool.and_eq_true, decide_eq_true_eq, decide_eq_true_eq] at hq
    have := ((wfP hw).2 p hp).2.2.2.2
    omega
  · rw [if_neg h, Nat.mul_comm a 10]
    have := ((wfS hw) a a ha ha).2 rfl
    unfold shp at this
    rw [Nat.add_assoc] at this; exact this
theorem pX9_isPossible {N B a g : Nat} {σ : St} {I : gM} {ds : Nat → Nat → Nat} (hr : RowIs (I 3) σ) (hw : Wf B σ) (hB : B < 2 ^ 31) (hp : PR I σ ds) (ha : a < 10) (hg : g < 10) :
    fX9_isPossible N [.ref 0, .int (nI a), .int (nI g)] I = some (.inl (some (.int (b2 (decide (g ≠ a ∧ 0 < lvl σ.1 (qsq σ) a g))))), I) := by
  obtain ⟨c0, c1, c2, c3, c4, c5, -⟩ := wfC hw
  have l0 : (0 : Int32) = nI 0 := rfl
  have l3 : (3 : Int32) = nI 3 := rfl
  have l145 : (145 : Int32) = nI 145 := rfl
  have cc3 : ∀ X : gO, ck 2746 3 X = X := fun X => by rw [l3, ckI (by decide) (by decide)]
  have n3 : (3 : Int32).toNatClampNeg = 3 := by decide
  have e3 : I 3 3 = nI (σ.1 3) := hr.1 3 (by decide)
  have hsh := ((wfS hw) a g ha hg).1
  have hln : qln σ a g ≤ 500 := Nat.le_trans (List.length_filter_le _ _) (wfP hw).1
  rw [eX9_isPossible, eX9_isPossible_0]
  by_cases hga : g = a
  · rw [if_pos ((ceq (by omega) (by omega)).mpr hga), decide_eq_false (fun z => z.1 hga)]; rfl
  · rw [if_neg (fun z => hga ((ceq (by omega) (by omega)).mp z)), cc3, n3, e3]
    by_cases hm0 : σ.1 3 = 0
    · have hlv : lvl σ.1 (qsq σ) a g = qln σ a g := by
        unfold lvl; rw [if_pos hm0, qsq_at σ hg]; rfl
      rw [if_neg (fun z => ((zne (by omega)).mp z) hm0), idx10, ckI (by omega) (by decide), nI_clamp (by omega), hp.1 _ (by omega), show (10 * a + g) / 10 = a by omega, show (10 * a + g) % 10 = g by omega, hlv]
      by_cases h0 : qln σ a g = 0
      · rw [if_pos ((zle (by omega)).mpr h0), decide_eq_false (fun z => by have := z.2; omega)]; rfl
      · rw [if_neg (fun z => h0 ((zle (by omega)).mp z)), eX9_isPossible_46, decide_eq_true ⟨hga, by omega⟩]; rfl
    · have hlv : lvl σ.1 (qsq σ) a g = shp σ.1 a g := by
        unfold lvl shp; rw [if_neg hm0, Nat.mul_comm a 10, Nat.add_assoc]
      have ea : gb_add 145 (nI (10 * a + g)) = nI (145 + 10 * a + g) := by rw [l145, Nat.add_assoc]; exact nI_add _ _
      rw [if_pos ((zne (by omega)).mpr hm0), idx10, ea, ckI (by omega) (by decide), nI_clamp (by omega), hr.1 _ (by omega), hlv]
      have hs2 : shp σ.1 a g = σ.1 (145 + 10 * a + g) := rfl
      rw [← hs2]
      by_cases h0 : shp σ.1 a g = 0
      · rw [if_pos ((zle (by omega)).mpr h0), decide_eq_false (fun z => by have := z.2; omega)]; rfl
      · rw [if_neg (fun z => h0 ((zle (by omega)).mp z)), eX9_isPossible_46, decide_eq_true ⟨hga, by omega⟩]; rfl
theorem PR.congr {I J : gM} {σ : St} {ds : Nat → Nat → Nat} (h : PR I σ ds) (h9 : J 9 = I 9) (h10 : J 10 = I 10) : PR J σ ds := ⟨fun q hq => by rw [h10]; exact h.1 q hq, fun a g ha hg => by rw [h9]; exact h.2 a g ha hg⟩
theorem isD_self {r : Nat → Nat} {a d : Nat} (h : isD r a a d) (h0 : 0 < r 0) : d = 0 := h.one ⟨Nat.zero_le _, fun _ => rfl, fun k hk => absurd hk (Nat.not_lt_zero _)⟩
theorem r_poss {N B a g : Nat} {σ : St} {I : gM} {ds : Nat → Nat → Nat} {K : Int32 → gM → gO} (hr : RowIs (I 3) σ) (hw : Wf B σ) (hB : B < 2 ^ 31) (hp : PR I σ ds) (ha : a < 10) (hg : g < 10) :
    hI (fX9_isPossible N [.ref 0, .int (nI a), .int (nI g)] (gS (rg 0 18) I)) (rg 0 18) I K = K (b2 (decide (g ≠ a ∧ 0 < lvl σ.1 (qsq σ) a g))) I := by
  rw [pX9_isPossible (σ := σ) (ds := ds) (by rw [gSm18 (by decide)]; exact hr) hw hB (hp.congr (gSm18 (by decide)) (gSm18 (by decide))) ha hg, hI_mk, gMm18]
theorem wfo_m {lv ds : Nat → Nat → Nat} {bias a b : Nat} : ∀ n, n ≤ 10 → ((wfo lv ds bias a b n).1 = mI ∧ (wfo lv ds bias a b n).2 = 0) ∨ ∃ g, g < n ∧ (wfo lv ds bias a b n).1 = nI g
  | 0, _ => Or.inl ⟨rfl, rfl⟩
  | n + 1, h => by
    rw [wfo_s]
    have ih := wfo_m (lv := lv) (ds := ds) (bias := bias) (a := a) (b := b) n (by omega)
    generalize wfo lv ds bias a b n = z at ih
    unfold wst
    by_cases h1 : 0 < lv a n
    · rw [if_pos h1]
      by_cases h2 : z.1 = mI ∨ z.2 < nI (lv a n + bias * ds a n) - nI (lv b n + bias * ds b n)
      · rw [if_pos h2]; exact Or.inr ⟨n, Nat.lt_succ_self _, rfl⟩
      · rw [if_neg h2]
        rcases ih with ih | ⟨g, hg, e⟩
        · exact Or.inl ih
        · exact Or.inr ⟨g, by omega, e⟩
    · rw [if_neg h1]
      rcases ih with ih | ⟨g, hg, e⟩
      · exact Or.inl ih
      · exact Or.inr ⟨g, by omega, e⟩
theorem pX9_layWeight {N B k : Nat} {σ : St} {I : gM} {ds : Nat → Nat → Nat} (hr : RowIs (I 3) σ) (hw : Wf B σ) (hB : B < 2 ^ 31) (hp : PR I σ ds) (hds : ∀ a b, a < σ.1 0 → b < σ.1 0 → isD σ.1 a b (ds a b)) (hk : k < σ.1 1) (hN : 1000 ≤ N) :
    fX9_layWeight N [.ref 0, .int (nI k)] I = some (.inl none, gU (gU I 11 k (cmI σ.1 (lvl σ.1 (qsq σ)) ds k)) 12 k (nI (wgN σ.1 (lvl σ.1 (qsq σ)) ds k))) := by
  obtain ⟨c0, c1, c2, c3, c4, c5, -⟩ := wfC hw
  obtain ⟨k1, k2, k3, k4, k5⟩ := wfL hw k hk
  have l0 : (0 : Int32) = nI 0 := rfl
  have l1 : (1 : Int32) = nI 1 := rfl
  have l2 : (2 : Int32) = nI 2 := rfl
  have lm : (-1 : Int32) = mI := rfl
  have cc0 : ∀ X : gO, ck 2746 0 X = X := fun X => by rw [l0, ckI (by decide) (by decide)]
  have n0 : (0 : Int32).toNatClampNeg = 0 := by decide
  have e0 : I 3 0 = nI (σ.1 0) := hr.1 0 (by decide)
  have hL : ∀ w, w < 4 → I 3 (9 + 4 * k + w) = nI (lkp σ.1 k w) := fun w hw4 => hr.1 _ (by omega)
  have by_eq : ∀ g, g < σ.1 0 → lkp σ.1 k 0 ≠ g → gb_sub (I 9 (10 * lkp σ.1 k 0 + g)) (I 9 (10 * lkp σ.1 k 1 + g)) = nI (lvl σ.1 (qsq σ) (lkp σ.1 k 0) g + σ.1 5 * ds (lkp σ.1 k 0) g) - nI (lvl σ.1 (qsq σ) (lkp σ.1 k 1) g + σ.1 5 * ds (lkp σ.1 k 1) g) := fun g hg hne => by
    rw [hp.2 _ g k1 hg, hp.2 _ g k2 hg, if_neg hne]
    by_cases e : lkp σ.1 k 1 = g
    · rw [if_pos e, e, lvl_self hw (by omega), isD_self (hds g g hg hg) (by omega), Nat.mul_zero]
    · rw [if_neg e]
  have key : ∀ m i : Nat, i ≤ σ.1 0 → σ.1 0 - i < m → hX9_layWeight_23 N m (nI k) (nI (lkp σ.1 k 0)) (nI (lkp σ.1 k 1)) (wfo (lvl σ.1 (qsq σ)) ds (σ.1 5) (lkp σ.1 k 0) (lkp σ.1 k 1) i).1 (wfo (lvl σ.1 (qsq σ)) ds (σ.1 5) (lkp σ.1 k 0) (lkp σ.1 k 1) i).2 (nI i) I = some (.inl none, gU (gU I 11 k (cmI σ.1 (lvl σ.1 (qsq σ)) ds k)) 12 k (nI (wgN σ.1 (lvl σ.1 (qsq σ)) ds k))) := by
    intro m
    induction m with
    | zero => intro i _ h; omega
    | succ m ih =>
      intro i hi hm
      rw [eX9_layWeight_23, cc0, n0, e0, lm]
      by_cases hin : i = σ.1 0
      · rw [hin, if_pos ((cge (by omega) (by omega)).mpr (Nat.le_refl _)), ckI (by omega) (by decide), nI_clamp (by omega)]
        have hcm : (wfo (lvl σ.1 (qsq σ)) ds (σ.1 5) (lkp σ.1 k 0) (lkp σ.1 k 1) (σ.1 0)).1 = cmI σ.1 (lvl σ.1 (qsq σ)) ds k := rfl
        have hwg := (wgN_eq σ.1 (lvl σ.1 (qsq σ)) ds k).2
        rcases wfo_m (lv := lvl σ.1 (qsq σ)) (ds := ds) (bias := σ.1 5) (a := lkp σ.1 k 0) (b := lkp σ.1 k 1) (σ.1 0) c0.2 with ⟨z1, z2⟩ | ⟨g, hg, z1⟩
        · have hcm2 := hcm
          rw [z1] at hcm2
          rw [z1, if_neg (fun z => cnemm.mp z)]
          rw [z2] at hwg
          have h00 : gj_max (nI 0) (nI (lkp σ.1 k 2) * 0) = nI 0 := by
            have : nI (lkp σ.1 k 2) * 0 = nI 0 := by
              show nI (lkp σ.1 k 2) * nI 0 = _
              rw [pk_mul, Nat.mul_zero]
            rw [this]; rfl
          rw [ckI (by omega) (by decide), ← hcm2, ← hwg, h00]; rfl
        · have hcm2 := hcm
          rw [z1] at hcm2
          rw [z1, if_pos ((cnem (by omega)).mpr True.intro), l2, r_link (N := N) (k := k) (w := 2) (by omega), gU_ok (by decide), hL 2 (by decide), ckI (by omega) (by decide), l0, ← hcm2, ← hwg]
      · have hi2 : i < σ.1 0 := by omega
        have nx : ∀ z : Int32 × Int32, wst (lvl σ.1 (qsq σ)) ds (σ.1 5) (lkp σ.1 k 0) (lkp σ.1 k 1) (wfo (lvl σ.1 (qsq σ)) ds (σ.1 5) (lkp σ.1 k 0) (lkp σ.1 k 1) i) i = z → hX9_layWeight_92 N m (nI k) (nI (lkp σ.1 k 0)) (nI (lkp σ.1 k 1)) z.1 z.2 (nI i) I = some (.inl none, gU (gU I 11 k (cmI σ.1 (lvl σ.1 (qsq σ)) ds k)) 12 k (nI (wgN σ.1 (lvl σ.1 (qsq σ)) ds k))) := fun z hz => by
          have := ih (i + 1) (by omega) (by omega)
          rw [wfo_s, hz] at this
          rw [eX9_layWeight_92, l1, nI_add]; exact this
        have hwm := wfo_m (lv := lvl σ.1 (qsq σ)) (ds := ds) (bias := σ.1 5) (a := lkp σ.1 k 0) (b := lkp σ.1 k 1) i (by omega)
        generalize wfo (lvl σ.1 (qsq σ)) ds (σ.1 5) (lkp σ.1 k 0) (lkp σ.1 k 1) i = z at nx hwm ⊢
        rw [if_neg (fun z => hin (by have := (cge (by omega) (by omega)).mp z; omega)), idx10, idx10, ckI (by omega) (by decide), ckI (by omega) (by decide), r_poss hr hw hB hp (by omega) (by omega)]
        by_cases hpos : i ≠ lkp σ.1 k 0 ∧ 0 < lvl σ.1 (qsq σ) (lkp σ.1 k 0) i
        · rw [decide_eq_true hpos, if_neg (by decide), nI_clamp (n := 10 * lkp σ.1 k 0 + i) (by omega), nI_clamp (n := 10 * lkp σ.1 k 1 + i) (by omega), by_eq i hi2 (fun e => hpos.1 e.symm)]
          unfold wst at nx
          rw [if_pos hpos.2] at nx
          by_cases hz1 : z.1 = mI
          · rw [if_pos (by rw [hz1]; exact ceqmm.mpr True.intro), eX9_layWeight_84]
            exact nx (_, _) (if_pos (Or.inl hz1))
          · have hzg : ∃ g, g < i ∧ z.1 = nI g := by
              rcases hwm with h | h
              · exact absurd h.1 hz1
              · exact h
            obtain ⟨g, hg, hzg⟩ := hzg
            rw [if_neg (fun y => by rw [hzg] at y; exact (ceqm (by omega)).mp y)]
            by_cases hc : z.2 < nI (lvl σ.1 (qsq σ) (lkp σ.1 k 0) i + σ.1 5 * ds (lkp σ.1 k 0) i) - nI (lvl σ.1 (qsq σ) (lkp σ.1 k 1) i + σ.1 5 * ds (lkp σ.1 k 1) i)
            · rw [if_neg (fun y => Int32.not_le.mpr hc (of_decide_eq_true y)), eX9_layWeight_84]
              exact nx (_, _) (if_pos (Or.inr hc))
            · rw [if_pos (decide_eq_true (Int32.not_lt.mp hc))]
              exact nx z (if_neg (fun y => y.elim hz1 hc))
        · have hl0 : ¬ 0 < lvl σ.1 (qsq σ) (lkp σ.1 k 0) i := fun h => by
            by_cases e : i = lkp σ.1 k 0
            · rw [e, lvl_self hw (by omega)] at h; omega
            · exact hpos ⟨e, h⟩
          rw [decide_eq_false hpos, if_pos (by decide)]
          unfold wst at nx
          rw [if_neg hl0] at nx
          exact nx z rfl
  rw [eX9_layWeight, eX9_layWeight_0, l0, l1, r_link (N := N) (k := k) (w := 0) (by omega), hL 0 (by decide), r_link (N := N) (k := k) (w := 1) (by omega), hL 1 (by decide)]
  exact key N 0 (Nat.zero_le _) (by omega)
theorem pX9_layWeights {N B : Nat} {σ : St} {M : gM} {ds : Nat → Nat → Nat} (hr : RowIs (M 3) σ) (hw : Wf B σ) (hB : B < 2 ^ 31) (hds : ∀ a b, a < σ.1 0 → b < σ.1 0 → isD σ.1 a b (ds a b)) (hN : 1000 ≤ N) :
    ∃ J, fX9_layWeights N [.ref 0] M = some (.inl none, J) ∧ (∀ k, k < σ.1 1 → J 11 k = cmI σ.1 (lvl σ.1 (qsq σ)) ds k ∧ J 12 k = nI (wgN σ.1 (lvl σ.1 (qsq σ)) ds k)) ∧ (∀ q, q < 100 → J 10 q = nI (qln σ (q / 10) (q % 10))) ∧ ∀ k, (k < 8 ∨ 13 ≤ k) → J k = M k := by
  obtain ⟨c0, c1, c2, c3, c4, c5, -⟩ := wfC hw
  have l0 : (0 : Int32) = nI 0 := rfl
  have l1 : (1 : Int32) = nI 1 := rfl
  have cc1 : ∀ X : gO, ck 2746 1 X = X := fun X => by rw [l1, ckI (by decide) (by decide)]
  have n1 : (1 : Int32).toNatClampNeg = 1 := by decide
  obtain ⟨J0, b0, b1, b2', b3⟩ := pX9_layPressures (N := N) (σ := σ) (M := gS (rg 0 18) M) (by rw [gSm18 (by decide)]; exact hr) hw hB hds hN
  have key : ∀ m i : Nat, i ≤ σ.1 1 → σ.1 1 - i < m → ∀ I : gM, PR I σ ds → RowIs (I 3) σ → (∀ k, k < i → I 11 k = cmI σ.1 (lvl σ.1 (qsq σ)) ds k ∧ I 12 k = nI (wgN σ.1 (lvl σ.1 (qsq σ)) ds k)) → (∀ k, (k < 8 ∨ 13 ≤ k) → I k = M k) →
      ∃ J, hX9_layWeights_6 N m (nI i) I = some (.inl none, J) ∧ (∀ k, k < σ.1 1 → J 11 k = cmI σ.1 (lvl σ.1 (qsq σ)) ds k ∧ J 12 k = nI (wgN σ.1 (lvl σ.1 (qsq σ)) ds k)) ∧ (∀ q, q < 100 → J 10 q = nI (qln σ (q / 10) (q % 10))) ∧ ∀ k, (k < 8 ∨ 13 ≤ k) → J k = M k := by
    intro m
    induction m with
    | zero => intro i _ h; omega
    | succ m ih =>
      intro i hi hm I hP hrI hd ho
      have e1 : I 3 1 = nI (σ.1 1) := hrI.1 1 (by decide)
      rw [eX9_layWeights_6, cc1, n1, e1]
      by_cases hin : i = σ.1 1
      · rw [hin, if_pos ((cge (by omega) (by omega)).mpr (Nat.le_refl _))]
        rw [hin] at hd
        exact ⟨I, rfl, hd, hP.1, ho⟩
      · rw [if_neg (fun z => hin (by have := (cge (by omega) (by omega)).mp z; omega)), pX9_layWeight (σ := σ) (ds := ds) (by rw [gSm18 (by decide)]; exact hrI) hw hB (hP.congr (gSm18 (by decide)) (gSm18 (by decide))) hds (by omega) hN, hV_mk, gMu18 (by decide), gMu18 (by decide), gMm18, l1, nI_add]
        refine ih (i + 1) (by omega) (by omega) _ (hP.congr (by rw [gU_ok (by decide), gU_ok (by decide)]) (by rw [gU_ok (by decide), gU_ok (by decide)])) (by rw [gU_ok (by decide), gU_ok (by decide)]; exact hrI) (fun k hk => ?_) (fun k hk => by rw [gU_ok (by omega), gU_ok (by omega)]; exact ho k hk)
        by_cases e : k = i
        · rw [e, gU_ok (by decide), gU_us, gU_us]; exact ⟨rfl, rfl⟩
        · rw [gU_ok (by decide), gU_un (Or.inr e), gU_un (Or.inr e), gU_ok (by decide)]; exact hd k (by omega)
  rw [eX9_layWeights, eX9_layWeights_0, b0, hV_mk, l0]
  refine key N 0 (Nat.zero_le _) (by omega) _ ⟨fun q hq => by rw [gM18 (by decide)]; exact b1 q hq, fun a g ha hg => by rw [gM18 (by decide)]; exact b2' a g ha hg⟩ (by rw [gM18 (by decide), b3 3 (by decide) (by decide) (by decide), gSm18 (by decide)]; exact hr) (fun k hk => absurd hk (Nat.not_lt_zero _)) (fun k hk => rlift (t := fun k => ¬ (k < 8 ∨ 13 ≤ k)) (fun k hk => ?_) k (fun z => z hk))
  have hk' : k < 8 ∨ 13 ≤ k := Classical.not_not.mp hk
  exact b3 k (by omega) (by omega) (by omega)
