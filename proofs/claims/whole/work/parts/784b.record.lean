/-! ===== remembering: both sides ===== -/
theorem rem6_len {past : List St} {σ : St} (h : past.length ≤ 6) : (rem6 past σ).length ≤ 6 := by
  unfold rem6
  by_cases hl : past.length < 6
  · rw [if_pos hl, List.length_append]; show past.length + 1 ≤ 6; omega
  · rw [if_neg hl, List.length_append, List.length_drop]; show past.length - 1 + 1 ≤ 6; omega
theorem rem6_mem {past : List St} {σ τ : St} (h : τ ∈ rem6 past σ) : τ ∈ past ∨ τ = σ := by
  unfold rem6 at h
  by_cases hl : past.length < 6
  · rw [if_pos hl] at h
    rcases List.mem_append.mp h with z | z
    · exact Or.inl z
    · exact Or.inr (List.mem_singleton.mp z)
  · rw [if_neg hl] at h
    rcases List.mem_append.mp h with z | z
    · exact Or.inl (List.mem_of_mem_drop z)
    · exact Or.inr (List.mem_singleton.mp z)
theorem c_rem {N : Nat} {a : AB} {I : gM} {K : gM → gO} (h : INc I a) (hw : INw a) (hN : 1000 ≤ N) : ∃ J, hV (fX1_remember N [.ref 0, .ref 122] (gS (rg 61 122 ++ rg 1 20) I)) (rg 61 122 ++ rg 1 20) I K = K J ∧ HI (gS (rg 61 122) J) (rem6 a.2.1 a.1) ∧ ∀ k, (k < 61 ∨ 183 ≤ k) → J k = I k := by
  obtain ⟨J, j0, j1, j2⟩ := pX1_remember (N := N) (I := gS (rg 61 122 ++ rg 1 20) I) (h.2.1.congr (fun k hk => by rw [gS_b hk (by decide), gS_aq1 hk (by decide)])) (h.1.congr (fun k hk => by rw [gS_b hk (by decide), gS_b hk (by decide), gS_aq2 hk (by decide)])) hw.1.1.1 hN
  refine ⟨gMg (rg 61 122 ++ rg 1 20) I J, by rw [j0, hV_mk], j1.congr (fun k hk => by rw [gS_b hk (by decide), gM_aq1 hk]), fun k hk => ?_⟩
  by_cases h2 : 1 ≤ k ∧ k < 21
  · have e : k = 1 + (k - 1) := by omega
    rw [e, gM_aq2 (by omega) (by omega), j2 _ (by omega), gS_aq2 (by omega) (by decide)]
  · exact gM_aqo (by omega) (by omega)
/-- the reference's rows of the past -/
def PS (J : gM) (past : List St) : Prop := J 0 13 = nI past.length ∧ ∀ (i : Nat) (τ : St), past[i]? = some τ → RowIs (fun k => J 6 (2746 * i + k)) τ
theorem RowIs.len2 {row row' : Nat → Int32} {σ : St} (h : RowIs row σ) (hl : σ.2.length ≤ 500) (he : ∀ k, k < 2746 → row' k = row k) : RowIs row' σ := h.congr hl he
theorem rec_52 {N : Nat} {σ : St} {J : gM} {past : List St} (h : PS J past) (hp : ∀ τ ∈ past, τ.2.length ≤ 500) (hl : past.length < 6) (hr : RowIs (J 3) σ) (h500 : σ.2.length ≤ 500) (hN : 3000 ≤ N) : ∃ J', hX9_record_52 N J = some (.inl none, J') ∧ PS J' (past ++ [σ]) ∧ (∀ j, j ≠ 13 → J' 0 j = J 0 j) ∧ ∀ k, k ≠ 0 → k ≠ 6 → J' k = J k := by
  have l0 : (0 : Int32) = nI 0 := rfl
  have l1 : (1 : Int32) = nI 1 := rfl
  have l2746 : (2746 : Int32) = nI 2746 := rfl
  have em : gb_mul (nI 2746) (nI past.length) = nI (2746 * past.length) := pk_mul _ _
  have ea : gb_add (nI past.length) (nI 1) = nI (past.length + 1) := nI_add _ _
  obtain ⟨C, c0, c1, c2, c3⟩ := pX9_copy (N := N) (n1 := 2746) (n2 := 16476) (a := 0) (b := 2746 * past.length) (I := gS [3, 6] J) (by omega) (by omega) (by decide) (by decide) hN
  have m6 : gMg [3, 6] J C 6 = C 1 := rfl
  have mo : ∀ k, k ≠ 3 → k ≠ 6 → gMg [3, 6] J C k = J k := fun k h3 h6 => by
    unfold gMg
    have e : gIx [3, 6] k = none := by
      show (if 3 = k then some 0 else match (if 6 = k then some 0 else match (none : Option Nat) with
          | some j => some (j + 1)
          | none => none) with
          | some j => some (j + 1)
          | none => none) = none
      rw [if_neg (fun z => h3 z.symm), if_neg (fun z => h6 z.symm)]
    rw [e]
  have m3 : gMg [3, 6] J C 3 = J 3 := by
    have : gMg [3, 6] J C 3 = C 0 := rfl
    rw [this, c3 0 (by decide)]; rfl
  rw [eX9_record_52, h.1, l2746, l0, em, c0, hV_mk, mo 0 (by decide) (by decide), h.1, l1, ea]
  refine ⟨_, rfl, ⟨by rw [gU_us, List.length_append]; rfl, fun i τ hτ => ?_⟩, fun j hj => by rw [gU_un (Or.inr hj), mo 0 (by decide) (by decide)], fun k h0 h6 => ?_⟩
  · have e6 : gU (gMg [3, 6] J C) 0 13 (nI (past.length + 1)) 6 = C 1 := by rw [gU_ok (by decide)]; exact m6
    rcases get_app hτ with ⟨e1, e2⟩ | ⟨e1, e2⟩
    · refine (h.2 i τ e2).len2 (hp τ (List.mem_of_getElem? e2)) (fun k hk => ?_)
      show gU (gMg [3, 6] J C) 0 13 (nI (past.length + 1)) 6 (2746 * i + k) = J 6 (2746 * i + k)
      rw [e6, c2 _ (by omega)]; rfl
    · rw [e1, e2]
      refine hr.len2 h500 (fun k hk => ?_)
      show gU (gMg [3, 6] J C) 0 13 (nI (past.length + 1)) 6 (2746 * past.length + k) = J 3 k
      rw [e6, c1 k hk, Nat.zero_add]; rfl
  · rw [gU_ok h0]
    by_cases h3 : k = 3
    · rw [h3]; exact m3
    · exact mo k h3 h6
theorem pX9_record {N : Nat} {σ : St} {J : gM} {past : List St} (h : PS J past) (hp : ∀ τ ∈ past, τ.2.length ≤ 500) (hl : past.length ≤ 6) (hr : RowIs (J 3) σ) (h500 : σ.2.length ≤ 500) (hN : 20000 ≤ N) : ∃ J', fX9_record N [.ref 0] J = some (.inl none, J') ∧ PS J' (rem6 past σ) ∧ (∀ j, j ≠ 13 → J' 0 j = J 0 j) ∧ ∀ k, k ≠ 0 → k ≠ 6 → J' k = J k := by
  have l1 : (1 : Int32) = nI 1 := rfl
  have l6 : (6 : Int32) = nI 6 := rfl
  have l2746 : (2746 : Int32) = nI 2746 := rfl
  have l16476 : (16476 : Int32) = nI 16476 := rfl
  by_cases h6 : past.length < 6
  · obtain ⟨J', j0, j1, j2, j3⟩ := rec_52 (N := N) h hp h6 hr h500 (by omega)
    refine ⟨J', ?_, by unfold rem6; rw [if_pos h6]; exact j1, j2, j3⟩
    rw [eX9_record, eX9_record_0, h.1, l6, if_pos ((cne (by omega) (by decide)).mpr (by omega)), j0]
  · have hl6 : past.length = 6 := by omega
    have key : ∀ m i : Nat, 2746 ≤ i → i ≤ 16476 → 16476 - i < m → ∀ K : gM, (∀ q, q + 2746 < i → K 6 q = J 6 (q + 2746)) → (∀ q, i ≤ q + 2746 → K 6 q = J 6 q) → (∀ k, k ≠ 6 → K k = J k) → ∃ K', hX9_record_13 N m (nI i) K = hX9_record_52 N (gU K' 0 13 (nI 5)) ∧ (∀ q, q < 13730 → K' 6 q = J 6 (q + 2746)) ∧ ∀ k, k ≠ 6 → K' k = J k := by
      intro m
      induction m with
      | zero => intro i _ _ h; omega
      | succ m ih =>
        intro i hi1 hi hm K k1 k2 k3
        rw [eX9_record_13, l16476]
        by_cases hin : i = 16476
        · subst hin
          have es : gb_sub (nI 6) (nI 1) = nI 5 := pk_sub (by decide)
          rw [if_pos ((cge (by omega) (by omega)).mpr (Nat.le_refl _)), k3 0 (by decide), h.1, hl6, l1, es]
          exact ⟨K, rfl, fun q hq => k1 q (by omega), k3⟩
        · have es : gb_sub (nI i) (nI 2746) = nI (i - 2746) := pk_sub hi1
          rw [if_neg (fun z => hin (by have := (cge (by omega) (by omega)).mp z; omega)), ckI (by omega) (by decide), l2746, es, ckI (by omega) (by decide), nI_clamp (by omega), nI_clamp (by omega), l1, nI_add]
          refine ih (i + 1) (by omega) (by omega) (by omega) _ (fun q hq => ?_) (fun q hq => by rw [gU_un (Or.inr (by omega))]; exact k2 q (by omega)) (fun k hk => by rw [gU_ok hk]; exact k3 k hk)
          by_cases e : q = i - 2746
          · rw [e, gU_us, k2 i (by omega), show i - 2746 + 2746 = i by omega]
          · rw [gU_un (Or.inr e)]; exact k1 q (by omega)
    obtain ⟨K', q0, q1, q2⟩ := key N 2746 (Nat.le_refl _) (by decide) (by omega) J (fun q hq => by omega) (fun _ _ => rfl) (fun _ _ => rfl)
    have h2 : PS (gU K' 0 13 (nI 5)) (past.drop 1) := by
      refine ⟨by rw [gU_us, List.length_drop, hl6], fun i τ hτ => ?_⟩
      rw [List.getElem?_drop] at hτ
      have hi := (List.getElem?_eq_some_iff.mp hτ).1
      refine (h.2 _ τ hτ).len2 (hp τ (List.mem_of_getElem? hτ)) (fun k hk => ?_)
      show gU K' 0 13 (nI 5) 6 (2746 * i + k) = J 6 (2746 * (1 + i) + k)
      rw [gU_ok (by decide), q1 _ (by omega)]
      congr 1; omega
    obtain ⟨J', j0, j1, j2, j3⟩ := rec_52 (N := N) (J := gU K' 0 13 (nI 5)) h2 (fun τ hτ => hp τ (List.mem_of_mem_drop hτ)) (by rw [List.length_drop]; omega) (σ := σ) (by rw [gU_ok (by decide), q2 3 (by decide)]; exact hr) h500 (by omega)
    refine ⟨J', ?_, by unfold rem6; rw [if_neg h6]; exact j1, fun j hj => by rw [j2 j hj, gU_un (Or.inr hj), q2 0 (by decide)], fun k k0 k6 => by rw [j3 k k0 k6, gU_ok k0, q2 k k6]⟩
    rw [eX9_record, eX9_record_0, h.1, l6, hl6, if_neg (fun z => (cne (by decide) (by decide)).mp z rfl), l2746, q0, j0]
theorem m_rec {N : Nat} {a : AB} {J : gM} {K : gM → gO} (h : INm J a) (hw : INw a) (hN : 20000 ≤ N) : ∃ J', hV (fX9_record N [.ref 0] (gS (rg 0 18) J)) (rg 0 18) J K = K J' ∧ PS J' (rem6 a.2.1 a.1) ∧ (∀ j, j ≠ 13 → J' 0 j = J 0 j) ∧ ∀ k, k ≠ 0 → k ≠ 6 → J' k = J k := by
  obtain ⟨h1, h2, h3, h4⟩ := h
  obtain ⟨w1, w2, w3, w4, w5, w6⟩ := hw
  obtain ⟨J', j0, j1, j2, j3⟩ := pX9_record (N := N) (σ := a.1) (J := gS (rg 0 18) J) (past := a.2.1) ⟨by rw [gSm18 (by decide)]; exact h2.1, fun i τ hτ => by rw [gSm18 (by decide)]; exact h2.2 i τ hτ⟩ (fun τ hτ => (wfP (w2 τ hτ).1.1).1) w5 (by rw [gSm18 (by decide)]; exact h1) (wfP w1.1.1).1 hN
  refine ⟨gMg (rg 0 18) J J', by rw [j0, hV_mk], ⟨by rw [gM18 (by decide)]; exact j1.1, fun i τ hτ => by rw [gM18 (by decide)]; exact j1.2 i τ hτ⟩, fun j hj => by rw [gM18 (by decide), j2 j hj, gSm18 (by decide)], fun k k0 k6 => rlift (t := fun k => k = 0 ∨ k = 6) (fun k hk => j3 k (fun e => hk (Or.inl e)) (fun e => hk (Or.inr e))) k (fun z => z.elim k0 k6)⟩
