/-! ===== the class: greediest ===== -/
theorem greediest_in {N n8 n G L : Nat} {W C : Nat → Nat} {I : gM} {v5 : Int32} (hn : I 3 1 = nI n) (hn14 : n ≤ 14) (hL : L < 2 ^ 31) (hW : ∀ k, k < n → L.testBit k = true → I 2 k = nI (W k) ∧ W k < 2 ^ 31 ∧ I 8 k = nI (C k)) : ∀ m i : Nat, i ≤ n → n - i < m →
    hX3_greediest_26 N n8 m (nI G) (nI L) v5 (lsI (gbst W L.testBit i)) (nI i) I = (match gbst W L.testBit n with
      | none => hX3_greediest_111 N n8 (nI G) (nI L) v5 I
      | some b => hX3_greediest_111 N n8 (nI (G ||| 2 ^ b)) (nI (andn L (2 ^ b ||| C b))) v5 I) := by
  have l1 : (1 : Int32) = nI 1 := rfl
  have lm : (-1 : Int32) = mI := rfl
  have hlt : ∀ i, i ≤ n → ∀ y, gbst W L.testBit i = some y → y < 14 ∧ L.testBit y = true := fun i hi y hy => by
    obtain ⟨h1, h2, -⟩ := gbst_some i y hy
    exact ⟨by omega, h2⟩
  intro m
  induction m with
  | zero => intro i _ h; omega
  | succ m ih =>
    intro i hi hm
    rw [eX3_greediest_26, hn, lm]
    by_cases hin : i = n
    · subst hin
      rw [if_pos ((cge (by omega) (by omega)).mpr (Nat.le_refl _))]
      cases hg : gbst W L.testBit i with
      | none => rw [show lsI none = mI from rfl, if_pos (ceqmm.mpr True.intro)]
      | some b =>
        obtain ⟨b1, b2⟩ := hlt i hi b hg
        have b3 := (gbst_some i b hg).1
        rw [show lsI (some b) = nI b from rfl, if_neg (ceqm (a := b) (by omega)).mp, ckI b1 (by decide)]
        show hX3_greediest_111 N n8 (gb_or (nI G) (gb_shl 1 (nI b))) (gb_and (nI L) (gb_xor (gb_or (gb_shl 1 (nI b)) (I 8 (nI b).toNatClampNeg)) mI)) v5 I = _
        have e8 : I 8 (nI b).toNatClampNeg = nI (C b) := by rw [nI_clamp (by omega)]; exact (hW b b3 b2).2.2
        have e1 : gb_or (nI G) (gb_shl 1 (nI b)) = nI (G ||| 2 ^ b) := by rw [shl1' (by omega)]; exact nI_or _ _
        have e2 : gb_and (nI L) (gb_xor (gb_or (gb_shl 1 (nI b)) (nI (C b))) mI) = nI (andn L (2 ^ b ||| C b)) := by
          rw [shl1' (by omega)]
          show nI L &&& ((nI (2 ^ b) ||| nI (C b)) ^^^ mI) = _
          rw [nI_or, andnI]
        rw [e8, e1, e2]
    · have hin2 : i < n := by omega
      have eb : gb_and (gb_shr (nI L) (nI i)) 1 = nI (bt L i) := btI (by omega) hL
      have nx : ∀ z, gbst W L.testBit (i + 1) = z → hX3_greediest_26 N n8 m (nI G) (nI L) v5 (lsI z) (nI i + 1) I = (match gbst W L.testBit n with
      | none => hX3_greediest_111 N n8 (nI G) (nI L) v5 I
      | some b => hX3_greediest_111 N n8 (nI (G ||| 2 ^ b)) (nI (andn L (2 ^ b ||| C b))) v5 I) := fun z hz => by
        have := ih (i + 1) (by omega) (by omega)
        rw [hz] at this
        rw [l1, nI_add]; exact this
      have un : gbst W L.testBit (i + 1) = (if L.testBit i = true then (match gbst W L.testBit i with
    | none => some i
    | some b => if W b < W i then some i else some b) else gbst W L.testBit i) := rfl
      rw [if_neg (fun z => hin (by have := (cge (by omega) (by omega)).mp z; omega)), eb, l1]
      cases hb : L.testBit i with
      | false =>
        have hb0 : bt L i ≠ 1 := fun e => by rw [bt_one, hb] at e; cases e
        rw [hb, if_neg (by decide)] at un
        rw [if_pos ((cne (by have := bt_lt L i; omega) (by decide)).mpr hb0), eX3_greediest_73]
        exact nx _ un
      | true =>
        have hb0 : ¬ bt L i ≠ 1 := fun e => e ((bt_one L i).mpr hb)
        rw [hb, if_pos rfl] at un
        rw [if_neg (fun z => hb0 ((cne (by have := bt_lt L i; omega) (by decide)).mp z))]
        cases hg : gbst W L.testBit i with
        | none =>
          rw [hg] at un
          rw [show lsI none = mI from rfl, if_pos (ceqmm.mpr True.intro), eX3_greediest_69, eX3_greediest_73]
          exact nx (some i) un
        | some b =>
          obtain ⟨b1, b2⟩ := hlt i hi b hg
          have b3 := (gbst_some i b hg).1
          rw [hg] at un
          obtain ⟨w1, w2, -⟩ := hW i hin2 hb
          obtain ⟨w3, w4, -⟩ := hW b (by omega) b2
          rw [show lsI (some b) = nI b from rfl, if_neg (ceqm (a := b) (by omega)).mp, ckI (by omega) (by decide), ckI b1 (by decide), nI_clamp (n := i) (by omega), nI_clamp (n := b) (by omega), w1, w3]
          have un2 : gbst W L.testBit (i + 1) = (if W b < W i then some i else some b) := un
          by_cases hw : W i ≤ W b
          · rw [if_pos ((cle w2 w4).mpr hw), eX3_greediest_73]
            rw [if_neg (by omega)] at un2
            exact nx (some b) un2
          · rw [if_neg (fun z => hw ((cle w2 w4).mp z)), eX3_greediest_69, eX3_greediest_73]
            rw [if_pos (by omega)] at un2
            exact nx (some i) un2
theorem pX3_greediest {N s n : Nat} {W C : Nat → Nat} {I : gM} (hn : I 3 1 = nI n) (hn14 : n ≤ 14) (hs : s < 2 ^ n) (hW : ∀ k, k < n → s.testBit k = true → I 2 k = nI (W k) ∧ W k < 2 ^ 31 ∧ I 8 k = nI (C k)) (hC : ∀ i j, s.testBit i = true → s.testBit j = true → (C i).testBit j = (C j).testBit i) (hN : 1000 ≤ N) :
    ∃ G, fX3_greediest N [.ref 0, .int (nI s), .ref 3] I = some (.inl (some (.int (nI G))), I) ∧ grd W C s G := by
  have l0 : (0 : Int32) = nI 0 := rfl
  have l1 : (1 : Int32) = nI 1 := rfl
  have l14 : (14 : Int32) = nI 14 := rfl
  have lm : (-1 : Int32) = mI := rfl
  have hs14 : s < 2 ^ 14 := Nat.lt_of_lt_of_le hs (Nat.pow_le_pow_right (by decide) hn14)
  have hsn : ∀ k, s.testBit k = true → k < n := fun k hk => by
    rcases Nat.lt_or_ge k n with h | h
    · exact h
    · rw [Nat.testBit_lt_two_pow (Nat.lt_of_lt_of_le hs (Nat.pow_le_pow_right (by decide) h))] at hk; cases hk
  have key : ∀ m i G L : Nat, i ≤ 14 → 14 - i < m → gInv W C s G L → wsum (fun _ => 1) L 14 ≤ 14 - i → ∃ G', hX3_greediest_8 N m (nI G) (nI L) (nI i) I = some (.inl (some (.int (nI G'))), I) ∧ grd W C s G' := by
    intro m
    induction m with
    | zero => intro i _ _ _ h; omega
    | succ m ih =>
      intro i G L hi hm hI hc
      have hLs : ∀ k, L.testBit k = true → s.testBit k = true := fun k hk => (hI.2.1 k hk).1
      have hL14 : L < 2 ^ 14 := lt_of_sub hs14 hLs
      have hz : (∀ j, j < 14 → L.testBit j = false) → L = 0 := fun h => by
        apply Nat.eq_of_testBit_eq
        intro j
        rw [Nat.zero_testBit]
        rcases Nat.lt_or_ge j 14 with h2 | h2
        · exact h j h2
        · exact Nat.testBit_lt_two_pow (Nat.lt_of_lt_of_le hL14 (Nat.pow_le_pow_right (by decide) h2))
      rw [eX3_greediest_8, l14]
      by_cases hi14 : i = 14
      · subst hi14
        rw [if_pos ((cge (by omega) (by omega)).mpr (Nat.le_refl _))]
        refine ⟨G, rfl, gInv_grd hI (hz (fun j hj => ?_))⟩
        cases hb : L.testBit j with
        | false => rfl
        | true =>
          have := wsum_bit (W := fun _ => 1) hb 14 hj
          omega
      · rw [if_neg (fun z => hi14 (by have := (cge (by omega) (by omega)).mp z; omega))]
        by_cases hL0 : L = 0
        · rw [if_pos ((zeq (by omega)).mpr hL0)]
          exact ⟨G, rfl, gInv_grd hI hL0⟩
        · rw [if_neg (fun z => hL0 ((zeq (by omega)).mp z))]
          have hin := greediest_in (N := N) (n8 := m) (G := G) (v5 := nI i) (C := C) hn hn14 (show L < 2 ^ 31 by omega) (W := W) (fun k hk hb => hW k hk (hLs k hb)) N 0 (Nat.zero_le _) (by omega)
          have e0 : lsI (gbst W L.testBit 0) = -1 := rfl
          rw [e0] at hin
          rw [l0, hin]
          cases hg : gbst W L.testBit n with
          | none =>
            refine absurd (hz (fun j hj => ?_)) hL0
            cases hb : L.testBit j with
            | false => rfl
            | true => rw [gbst_none n hg j (hsn j (hLs j hb))] at hb; cases hb
          | some b =>
            obtain ⟨b1, b2, b3⟩ := gbst_some n b hg
            show ∃ G', hX3_greediest_111 N m (nI (G ||| 2 ^ b)) (nI (andn L (2 ^ b ||| C b))) (nI i) I = _ ∧ _
            rw [eX3_greediest_111, l1, nI_add]
            refine ih (i + 1) _ _ (by omega) (by omega) (gInv_s hI hC b2 (fun k hk hkb => b3 k (hsn k (hLs k hk)) hk hkb)) ?_
            have h1 : wsum (fun _ => 1) (andn L (2 ^ b ||| C b)) 14 ≤ wsum (fun _ => 1) (andn L (2 ^ b)) 14 := wsum_mono _ (fun j hj => by
              rw [andn_tb, Nat.testBit_or] at hj
              rw [andn_tb]
              cases h1 : L.testBit j <;> cases h2 : (2 ^ b).testBit j <;> rw [h1, h2] at hj <;> first | rfl | (simp at hj)) 14
            have h2 : wsum (fun _ => 1) L 14 = wsum (fun _ => 1) (andn L (2 ^ b)) 14 + (if b < 14 then 1 else 0) := by
              conv => lhs; rw [split_t b2]
              exact wsum_or _ (andn_not L b) 14
            rw [if_pos (by omega)] at h2
            omega
  have hp : wsum (fun _ => 1) s 14 ≤ 14 - 0 := by
    have : ∀ n, wsum (fun _ => 1) s n ≤ n := by
      intro n
      induction n with
      | zero => exact Nat.le_refl _
      | succ n ih =>
        show wsum (fun _ => 1) s n + (if s.testBit n = true then 1 else 0) ≤ n + 1
        by_cases h : s.testBit n = true
        · rw [if_pos h]; omega
        · rw [if_neg h]; omega
    exact this 14
  rw [eX3_greediest, eX3_greediest_0]
  exact key N 0 0 s (by omega) (by omega) (gInv_0 W C s) hp
