/-! ===== the reference: greedy ===== -/
theorem greedy_in {N n6 n S : Nat} {W : Nat → Nat} {I : gM} {v1 v3 : Int32} (hn : I 3 1 = nI n) (hn14 : n ≤ 14) (hS : S < 2 ^ 31) (hW : ∀ k, k < n → I 12 k = nI (W k) ∧ W k < 2 ^ 31) : ∀ m i : Nat, i ≤ n → n - i < m →
    hX9_greedy_22 N n6 m v1 (nI S) v3 (lsI (gbst W (fun k => !S.testBit k) i)) (nI i) I = hX9_greedy_22 N n6 1 v1 (nI S) v3 (lsI (gbst W (fun k => !S.testBit k) n)) (nI n) I := by
  have l1 : (1 : Int32) = nI 1 := rfl
  have lm : (-1 : Int32) = mI := rfl
  have hlt : ∀ i, i ≤ n → ∀ y, gbst W (fun k => !S.testBit k) i = some y → y < 14 := fun i hi y hy => by
    have h1 := (gbst_some i y hy).1
    omega
  have c1 : ∀ X : gO, ck 2746 1 X = X := fun X => by rw [l1, ckI (by decide) (by decide)]
  have n1 : (1 : Int32).toNatClampNeg = 1 := by decide
  intro m
  induction m with
  | zero => intro i _ h; omega
  | succ m ih =>
    intro i hi hm
    by_cases hin : i = n
    · subst hin
      rw [eX9_greedy_22, eX9_greedy_22, c1, c1, n1, hn, if_pos ((cge (by omega) (by omega)).mpr (Nat.le_refl _)), if_pos ((cge (by omega) (by omega)).mpr (Nat.le_refl _))]
    · have hin2 : i < n := by omega
      have nx : ∀ z, gbst W (fun k => !S.testBit k) (i + 1) = z → hX9_greedy_22 N n6 m v1 (nI S) v3 (lsI z) (nI i + 1) I = hX9_greedy_22 N n6 1 v1 (nI S) v3 (lsI (gbst W (fun k => !S.testBit k) n)) (nI n) I := fun z hz => by
        have := ih (i + 1) (by omega) (by omega)
        rw [hz] at this
        rw [l1, nI_add]; exact this
      have un : gbst W (fun k => !S.testBit k) (i + 1) = (if (!S.testBit i) = true then (match gbst W (fun k => !S.testBit k) i with
    | none => some i
    | some b => if W b < W i then some i else some b) else gbst W (fun k => !S.testBit k) i) := rfl
      rw [eX9_greedy_22, c1, n1, hn, if_neg (fun z => hin (by have := (cge (by omega) (by omega)).mp z; omega)), r_has hS (by omega), lm]
      cases hb : S.testBit i with
      | true =>
        rw [hb, if_neg (by decide)] at un
        rw [if_pos (by decide), eX9_greedy_70, eX9_greedy_72]
        exact nx _ un
      | false =>
        rw [hb, if_pos (by decide)] at un
        rw [if_neg (by decide)]
        cases hg : gbst W (fun k => !S.testBit k) i with
        | none =>
          rw [hg] at un
          rw [show lsI none = mI from rfl, if_pos (ceqmm.mpr True.intro), eX9_greedy_65, eX9_greedy_72]
          exact nx (some i) un
        | some b =>
          have b1 := hlt i hi b hg
          have b3 := (gbst_some i b hg).1
          rw [hg] at un
          obtain ⟨w1, w2⟩ := hW i hin2
          obtain ⟨w3, w4⟩ := hW b (by omega)
          rw [show lsI (some b) = nI b from rfl, if_neg (ceqm (a := b) (by omega)).mp, ckI (by omega) (by decide), ckI b1 (by decide), nI_clamp (n := i) (by omega), nI_clamp (n := b) (by omega), w1, w3]
          have un2 : gbst W (fun k => !S.testBit k) (i + 1) = (if W b < W i then some i else some b) := un
          by_cases hw : W i ≤ W b
          · rw [if_pos ((cle w2 w4).mpr hw), eX9_greedy_70, eX9_greedy_72]
            rw [if_neg (by omega)] at un2
            exact nx (some b) un2
          · rw [if_neg (fun z => hw ((cle w2 w4).mp z)), eX9_greedy_65, eX9_greedy_72]
            rw [if_pos (by omega)] at un2
            exact nx (some i) un2
/-- what the reference's rounds keep: those seen are ahead of all others -/
def sInv (W C : Nat → Nat) (n S G : Nat) : Prop := (∀ k, S.testBit k = true → k < n) ∧ (∀ j k, S.testBit j = true → S.testBit k = false → k < n → ahd W j k) ∧ (∀ k, G.testBit k = true → S.testBit k = true) ∧
  ∀ k, S.testBit k = true → (G.testBit k = true ↔ (0 < W k ∧ ∀ j, G.testBit j = true → ahd W j k → (C k).testBit j = false))
theorem and_zero {a b : Nat} : (a &&& b = 0) ↔ ∀ j, b.testBit j = true → a.testBit j = false := by
  refine ⟨fun h j hj => ?_, fun h => ?_⟩
  · have : (a &&& b).testBit j = false := by rw [h]; exact Nat.zero_testBit j
    rw [Nat.testBit_and, hj, Bool.and_true] at this
    exact this
  · apply Nat.eq_of_testBit_eq
    intro j
    rw [Nat.testBit_and, Nat.zero_testBit]
    cases hb : b.testBit j with
    | false => rw [Bool.and_false]
    | true => rw [h j hb]; rfl
theorem sInv_s {W C : Nat → Nat} {n S G b : Nat} (h : sInv W C n S G) (hb : b < n) (hs : S.testBit b = false) (hbest : ∀ k, k < n → S.testBit k = false → k ≠ b → ahd W b k) : sInv W C n (S ||| 2 ^ b) (if 0 < W b ∧ C b &&& G = 0 then G ||| 2 ^ b else G) := by
  obtain ⟨h1, h2, h3, h4⟩ := h
  have hS : ∀ k, (S ||| 2 ^ b).testBit k = true → S.testBit k = true ∨ k = b := fun k hk => by
    rw [tb_or2, Bool.or_eq_true, decide_eq_true_eq] at hk
    rcases hk with hk | hk
    · exact Or.inl hk
    · exact Or.inr hk.symm
  have hS0 : ∀ k, (S ||| 2 ^ b).testBit k = false → S.testBit k = false ∧ k ≠ b := fun k hk => by
    rw [tb_or2] at hk
    cases hc : S.testBit k with
    | true => rw [hc] at hk; cases hk
    | false =>
      refine ⟨rfl, fun e => ?_⟩
      rw [e, decide_eq_true rfl, Bool.or_true] at hk; cases hk
  have hG : ∀ k, (if 0 < W b ∧ C b &&& G = 0 then G ||| 2 ^ b else G).testBit k = true ↔ (G.testBit k = true ∨ (k = b ∧ 0 < W b ∧ C b &&& G = 0)) := fun k => by
    by_cases hc : 0 < W b ∧ C b &&& G = 0
    · rw [if_pos hc, tb_or2, Bool.or_eq_true, decide_eq_true_eq]
      exact ⟨fun z => z.elim Or.inl (fun e => Or.inr ⟨e.symm, hc⟩), fun z => z.elim Or.inl (fun e => Or.inr e.1.symm)⟩
    · rw [if_neg hc]
      exact ⟨Or.inl, fun z => z.elim id (fun e => absurd e.2 hc)⟩
  refine ⟨fun k hk => ?_, fun j k hj hk hkn => ?_, fun k hk => ?_, fun k hk => ?_⟩
  · rcases hS k hk with h | h
    · exact h1 k h
    · rw [h]; exact hb
  · obtain ⟨k1, k2⟩ := hS0 k hk
    rcases hS j hj with h | h
    · exact h2 j k h k1 hkn
    · rw [h]; exact hbest k hkn k1 k2
  · rw [tb_or2]
    rcases (hG k).mp hk with h | h
    · rw [h3 k h]; rfl
    · rw [h.1, decide_eq_true rfl, Bool.or_true]
  · rw [hG]
    rcases hS k hk with h | h
    · have hkb : k ≠ b := fun e => by rw [e, hs] at h; cases h
      have hak := h2 k b h hs hb
      refine ⟨fun z => ?_, fun z => ?_⟩
      · rcases z with z | z
        · obtain ⟨z1, z2⟩ := (h4 k h).mp z
          refine ⟨z1, fun j hj ha => ?_⟩
          rcases (hG j).mp hj with hj | hj
          · exact z2 j hj ha
          · exact absurd (hj.1 ▸ ha) (ahd_asym hak)
        · exact absurd z.1 hkb
      · exact Or.inl ((h4 k h).mpr ⟨z.1, fun j hj ha => z.2 j ((hG j).mpr (Or.inl hj)) ha⟩)
    · subst h
      have hgb : G.testBit k = false := by
        cases hc : G.testBit k with
        | false => rfl
        | true => rw [h3 k hc] at hs; cases hs
      refine ⟨fun z => ?_, fun z => ?_⟩
      · rcases z with z | z
        · rw [hgb] at z; cases z
        · refine ⟨z.2.1, fun j hj ha => ?_⟩
          rcases (hG j).mp hj with hj | hj
          · exact and_zero.mp z.2.2 j hj
          · exact absurd (hj.1 ▸ ha) ahd_irr
      · refine Or.inr ⟨rfl, z.1, and_zero.mpr (fun j hj => z.2 j ((hG j).mpr (Or.inl hj)) (h2 j k (h3 j hj) hs hb))⟩
theorem pX9_greedy {N n : Nat} {W C : Nat → Nat} {I : gM} (hn : I 3 1 = nI n) (hn14 : n ≤ 14) (hW : ∀ k, k < n → I 12 k = nI (W k) ∧ W k < 2 ^ 31) (hC : ∀ k, k < n → I 3 (131 + k) = nI (C k) ∧ C k < 2 ^ 31) (hN : 1000 ≤ N) :
    ∃ G, fX9_greedy N [.ref 0] I = some (.inl (some (.int (nI G))), I) ∧ grd W C (cnd W n) G := by
  have l0 : (0 : Int32) = nI 0 := rfl
  have l1 : (1 : Int32) = nI 1 := rfl
  have l131 : (131 : Int32) = nI 131 := rfl
  have c1 : ∀ X : gO, ck 2746 1 X = X := fun X => by rw [l1, ckI (by decide) (by decide)]
  have n1 : (1 : Int32).toNatClampNeg = 1 := by decide
  have key : ∀ m i S G : Nat, i ≤ n → n - i < m → sInv W C n S G → wsum (fun _ => 1) S 14 = i → ∃ G', hX9_greedy_6 N m (nI G) (nI S) (nI i) I = some (.inl (some (.int (nI G'))), I) ∧ grd W C (cnd W n) G' := by
    intro m
    induction m with
    | zero => intro i _ _ _ h; omega
    | succ m ih =>
      intro i S G hi hm hI hc
      have hS14 : S < 2 ^ 14 := by
        apply Nat.lt_pow_two_of_testBit
        intro j hj
        cases hb : S.testBit j with
        | false => rfl
        | true => have := hI.1 j hb; omega
      have hG14 : G < 2 ^ 14 := lt_of_sub hS14 hI.2.2.1
      have hall : ∀ k, k ≤ n → (∀ j, j < k → S.testBit j = true) → k ≤ wsum (fun _ => 1) S k := by
        intro k
        induction k with
        | zero => intro _ _; exact Nat.zero_le _
        | succ k ihk =>
          intro hk h
          show k + 1 ≤ wsum (fun _ => 1) S k + (if S.testBit k = true then 1 else 0)
          rw [if_pos (h k (Nat.lt_succ_self _))]
          have := ihk (by omega) (fun j hj => h j (by omega))
          omega
      have hmon : ∀ a b, a ≤ b → wsum (fun _ => 1) S a ≤ wsum (fun _ => 1) S b := by
        intro a b hab
        induction hab with
        | refl => exact Nat.le_refl _
        | step h ih' =>
          rename_i b'
          show _ ≤ wsum (fun _ => 1) S b' + _
          omega
      rw [eX9_greedy_6, c1, n1, hn]
      by_cases hin : i = n
      · subst hin
        rw [if_pos ((cge (by omega) (by omega)).mpr (Nat.le_refl _))]
        refine ⟨G, rfl, fun k => ?_⟩
        -- all are seen
        have hseen : ∀ k, k < i → S.testBit k = true := fun k hk => by
          cases hb : S.testBit k with
          | true => rfl
          | false =>
            have h1 : wsum (fun _ => 1) (2 ^ k ||| S) 14 = wsum (fun _ => 1) S 14 + (if k < 14 then 1 else 0) := wsum_or _ hb 14
            rw [if_pos (by omega)] at h1
            have h2 : ∀ n', i ≤ n' → wsum (fun _ => 1) (2 ^ k ||| S) n' ≤ i := by
              intro n' hn'
              induction hn' with
              | refl =>
                have : ∀ q, wsum (fun _ => 1) (2 ^ k ||| S) q ≤ q := by
                  intro q
                  induction q with
                  | zero => exact Nat.le_refl _
                  | succ q ihq =>
                    show wsum (fun _ => 1) (2 ^ k ||| S) q + (if (2 ^ k ||| S).testBit q = true then 1 else 0) ≤ q + 1
                    by_cases h : (2 ^ k ||| S).testBit q = true
                    · rw [if_pos h]; omega
                    · rw [if_neg h]; omega
                exact this i
              | step h3 ih' =>
                rename_i b'
                have h3' : i ≤ b' := h3
                show wsum (fun _ => 1) (2 ^ k ||| S) b' + (if (2 ^ k ||| S).testBit b' = true then 1 else 0) ≤ i
                rw [if_neg (fun z => ?_)]
                · exact ih'
                · rw [Nat.testBit_or, Nat.testBit_two_pow, decide_eq_false (by omega), Bool.false_or] at z
                  have := hI.1 b' z
                  omega
            have := h2 14 hn14
            omega
        rw [cnd_tb, decide_eq_true_eq]
        by_cases hk : k < i
        · rw [hI.2.2.2 k (hseen k hk)]
          exact ⟨fun z => ⟨⟨hk, z.1⟩, z.2⟩, fun z => ⟨z.1.2, z.2⟩⟩
        · exact ⟨fun z => absurd (hI.1 k (hI.2.2.1 k z)) hk, fun z => absurd z.1.1 hk⟩
      · have hin2 : i < n := by omega
        rw [if_neg (fun z => hin (by have := (cge (by omega) (by omega)).mp z; omega))]
        have hg0 := greedy_in (N := N) (n6 := m) (v1 := nI G) (v3 := nI i) hn hn14 (show S < 2 ^ 31 by omega) hW N 0 (Nat.zero_le _) (by omega)
        have e0 : lsI (gbst W (fun k => !S.testBit k) 0) = -1 := rfl
        rw [e0] at hg0
        rw [l0, hg0]
        cases hg : gbst W (fun k => !S.testBit k) n with
        | none =>
          have := hall n (Nat.le_refl _) (fun j hj => by
            have := gbst_none n hg j hj
            simpa using this)
          have h2 := hmon n 14 hn14
          omega
        | some b =>
          obtain ⟨b1, b2', b3⟩ := gbst_some n b hg
          have b2 : S.testBit b = false := by simpa using b2'
          obtain ⟨w1, w2⟩ := hW b b1
          obtain ⟨k1, k2⟩ := hC b b1
          have hI2 := sInv_s hI b1 b2 (fun k hk hs hkb => b3 k hk (by rw [hs]; rfl) hkb)
          have hc2 : wsum (fun _ => 1) (S ||| 2 ^ b) 14 = i + 1 := by
            rw [Nat.or_comm, wsum_or _ b2 14, if_pos (by omega), hc]
          have eS : gb_or (nI S) (gb_shl 1 (nI b)) = nI (S ||| 2 ^ b) := by rw [shl1' (by omega)]; exact nI_or _ _
          have eG : gb_or (nI G) (gb_shl 1 (nI b)) = nI (G ||| 2 ^ b) := by rw [shl1' (by omega)]; exact nI_or _ _
          have nx : ∀ G', (if 0 < W b ∧ C b &&& G = 0 then G ||| 2 ^ b else G) = G' → ∃ G'', hX9_greedy_120 N m (nI G') (nI (S ||| 2 ^ b)) (nI i) I = some (.inl (some (.int (nI G''))), I) ∧ grd W C (cnd W n) G'' := fun G' hG' => by
            rw [hG'] at hI2
            rw [eX9_greedy_120, l1, nI_add]
            exact ih (i + 1) _ G' (by omega) (by omega) hI2 hc2
          show ∃ G', hX9_greedy_22 N m 1 (nI G) (nI S) (nI i) (nI b) (nI n) I = _ ∧ _
          have ea : gb_add 131 (nI b) = nI (131 + b) := by rw [l131]; exact nI_add _ _
          rw [eX9_greedy_22, c1, n1, hn, if_pos ((cge (by omega) (by omega)).mpr (Nat.le_refl _)), ckI (by omega) (by decide), nI_clamp (n := b) (by omega), w1, eS, eG, ea, ckI (by omega) (by decide), nI_clamp (n := 131 + b) (by omega), k1]
          have eand : gb_and (nI (C b)) (nI G) = nI (C b &&& G) := nI_and _ _
          rw [eand]
          have hzn := zne (Nat.lt_of_le_of_lt (Nat.and_le_left : C b &&& G ≤ C b) k2)
          have hzl := zle w2
          by_cases hw : W b = 0
          · rw [if_pos (hzl.mpr hw)]
            exact nx G (if_neg (fun z => by omega))
          · rw [if_neg (fun z => hw (hzl.mp z))]
            by_cases hcg : C b &&& G = 0
            · rw [if_neg (fun z => (hzn.mp z) hcg)]
              exact nx _ (if_pos ⟨by omega, hcg⟩)
            · rw [if_pos (hzn.mpr hcg)]
              exact nx G (if_neg (fun z => hcg z.2))
  rw [eX9_greedy, eX9_greedy_0, l0]
  have z : ∀ k, (0 : Nat).testBit k = true → False := fun k h => by rw [Nat.zero_testBit] at h; cases h
  have w0 : ∀ q, wsum (fun _ => 1) 0 q = 0 := by
    intro q
    induction q with
    | zero => rfl
    | succ q ihq =>
      show wsum (fun _ => 1) 0 q + (if (0 : Nat).testBit q = true then 1 else 0) = 0
      rw [ihq, if_neg (fun h => z q h)]
  exact key N 0 0 0 (Nat.zero_le _) (by omega) ⟨fun k h => (z k h).elim, fun j k h => (z j h).elim, fun k h => (z k h).elim, fun k h => (z k h).elim⟩ (w0 14)
