/-! ===== total, resetShadows, flush on both sides ===== -/
def AGJ (exs : List String) (oc om : gO) : Prop := (∃ v I J, oc = some (.inl (some (.long v)), I) ∧ om = some (.inl (some (.long v)), J) ∧ J 0 0 = nI 0 ∧ QN I J) ∨ ∃ i En w I J, exs[i]? = some En ∧ oc = some (.inr En, I) ∧ om = some (.inl (some (.long w)), J) ∧ J 0 0 = nI (i + 1) ∧ QN I J
theorem AGJ.ok {exs : List String} {oc om : gO} {v : Int64} {I J : gM} {a : AB} (h1 : oc = some (.inl (some (.long v)), I)) (h2 : om = some (.inl (some (.long v)), J)) (h0 : J 0 0 = nI 0) (h : IN I J a) : AGJ exs oc om := Or.inl ⟨v, I, J, h1, h2, h0, a, h⟩
theorem AGJ.ex {exs : List String} {oc om : gO} {En : String} {w : Int64} {I J : gM} {a : AB} (i : Nat) (hi : exs[i]? = some En) (h1 : oc = some (.inr En, I)) (h2 : om = some (.inl (some (.long w)), J)) (h0 : J 0 0 = nI (i + 1)) (h : IN I J a) : AGJ exs oc om := Or.inr ⟨i, En, w, I, J, hi, h1, h2, h0, a, h⟩
theorem j_total {N : Nat} {v : Int32} {I J : gM} {a : AB} (h : IN I J a) (hN : 20000 ≤ N) : AGJ [eIA] (fX8_total N [.ref 0, .int v] I) (fX9_total N [.ref 0, .int v] J) := by
  obtain ⟨hc, hm, hw⟩ := h
  have hm' := hm.thr (x := nI 0)
  have l0 : (0 : Int32) = nI 0 := rfl
  have l5 : (5 : Int32) = nI 5 := rfl
  have d0 : (0 : Int64) = (nI 0).toInt64 := by decide
  have d5 : (5 : Int64) = (nI 5).toInt64 := by decide
  rw [eX8_total, eX8_total_0, l0, l5, x_range, eX9_total, eX9_total_0, d0, d5, l0, m_in]
  cases hv : rgb v (nI 0) (nI 5) with
  | false =>
    rw [m_ff, i_f, i_e1]
    exact AGJ.ex 0 rfl rfl rfl gU_us ⟨hc, hm'.thr, hw⟩
  | true =>
    obtain ⟨k, -, k1, k2⟩ := rgb_t (by decide) (by decide) hv
    subst k2
    rw [m_ft, i_t, i_e0, pX8_totalOf (σ := a.1) hc.1 hw.1.1 k1 (by omega), hJ_mk, gMg_same _ (by decide), pX9_totalOf (σ := a.1) (by rw [gSm18 (by decide)]; exact hm'.1) hw.1.1 k1 (by omega), hJ_mk, gMm18]
    exact AGJ.ok rfl rfl gU_us ⟨hc, hm', hw⟩
theorem pJF_fill {N n : Nat} {x : Int32} {I : gM} (hn : n < 2 ^ 31) (hN : n < N) : ∃ J, fJF_fill N n [.ref 0, .int x] I = some (.inl none, J) ∧ (∀ j, j < n → J 0 j = x) ∧ (∀ j, n ≤ j → J 0 j = I 0 j) ∧ ∀ k, k ≠ 0 → J k = I k := by
  have l0 : (0 : Int32) = nI 0 := rfl
  have l1 : (1 : Int32) = nI 1 := rfl
  have ln : Int32.ofNat n = nI n := rfl
  have key : ∀ m i : Nat, i ≤ n → n - i < m → ∀ K : gM, (∀ j, j < i → K 0 j = x) → (∀ j, i ≤ j → K 0 j = I 0 j) → (∀ k, k ≠ 0 → K k = I k) → ∃ J, hJF_fill_5 N n m x (nI i) (nI n) K = some (.inl none, J) ∧ (∀ j, j < n → J 0 j = x) ∧ (∀ j, n ≤ j → J 0 j = I 0 j) ∧ ∀ k, k ≠ 0 → J k = I k := by
    intro m
    induction m with
    | zero => intro i _ h; omega
    | succ m ih =>
      intro i hi hm K k1 k2 k3
      rw [eJF_fill_5]
      by_cases hin : i = n
      · subst hin
        rw [if_pos ((cge (by omega) (by omega)).mpr (Nat.le_refl _))]
        exact ⟨K, rfl, k1, k2, k3⟩
      · rw [if_neg (fun z => hin (by have := (cge (by omega) (by omega)).mp z; omega)), ckI (by omega) (by omega), nI_clamp (by omega), l1, nI_add]
        refine ih (i + 1) (by omega) (by omega) _ (fun j hj => ?_) (fun j hj => by rw [gU_un (Or.inr (by omega))]; exact k2 j (by omega)) (fun k hk => by rw [gU_ok hk]; exact k3 k hk)
        by_cases e : j = i
        · rw [e, gU_us]
        · rw [gU_un (Or.inr e)]; exact k1 j (by omega)
  rw [eJF_fill, eJF_fill_0, l0, ln]
  exact key N 0 (Nat.zero_le _) (by omega) I (fun j hj => absurd hj (Nat.not_lt_zero _)) (fun _ _ => rfl) (fun _ _ => rfl)
def rstN (r : Nat → Nat) : Nat → Nat := fun x => if 145 ≤ x ∧ x < 245 then 0 else r x
theorem rstN_lo {r : Nat → Nat} {x : Nat} (h : x < 145) : rstN r x = r x := if_neg (by omega)
theorem Wt.rst {σ : St} (h : Wt σ) : Wt (rstN σ.1, σ.2) := by
  obtain ⟨⟨hw, hg⟩, h7⟩ := h
  have hk : keepN σ.1 (rstN σ.1) := fun x x1 _ _ _ _ => rstN_lo x1
  have e7 : rstN σ.1 7 = σ.1 7 := rstN_lo (by decide)
  have h1 : Wf (110 * σ.1 7) (rstN σ.1, σ.2) := Wf.of (s := rstN σ.1) hw hk (by rw [e7]; exact (wfC hw).2.2.2.2.2.2.2.1) (by rw [rstN_lo (by decide)]; exact (wfC hw).2.2.2.2.2.2.2.2) (fun f hf => by
    have c2 := (wfC hw).2.2.1
    have e : flp (rstN σ.1) f 6 = flp σ.1 f 6 := rstN_lo (by omega)
    rw [e]; exact (wfF hw f hf).2.2.2.2.2.1) (fun f hf => by
    have c2 := (wfC hw).2.2.1
    have e : flp (rstN σ.1) f 10 = flp σ.1 f 10 := rstN_lo (by omega)
    rw [e]; exact (wfF hw f hf).2.2.2.2.2.2) (fun a d ha hd => by
    have e : shp (rstN σ.1) a d = 0 := if_pos (by omega)
    rw [e]; exact ⟨Nat.zero_le _, fun _ => rfl⟩) (wfP hw).1 (fun p hp => by rw [e7]; exact (wfP hw).2 p hp)
  refine ⟨⟨?_, fun f hf => ?_⟩, ?_⟩
  · show Wf (110 * rstN σ.1 7) _
    rw [e7]; exact h1
  · have e : flp (rstN σ.1) f 10 = flp σ.1 f 10 := rstN_lo (by omega)
    show flp (rstN σ.1) f 10 ≤ _
    rw [e]; exact hg f hf
  · show rstN σ.1 7 ≤ 9999
    rw [e7]; exact h7
theorem j_resetShadows {N : Nat} {I J : gM} {a : AB} (h : IN I J a) (hN : 20000 ≤ N) : AG [] (fX8_resetShadows N [.ref 0] I) (fX9_resetShadows N [.ref 0] J) := by
  obtain ⟨hc, hm, hw⟩ := h
  have hm' := hm.thr (x := nI 0)
  have l0 : (0 : Int32) = nI 0 := rfl
  have l1 : (1 : Int32) = nI 1 := rfl
  have l100 : (100 : Int32) = nI 100 := rfl
  have l145 : (145 : Int32) = nI 145 := rfl
  obtain ⟨I1, i0, i1, i2⟩ := c_rem (N := N) (K := fun I1 => hJ (fX8_sum N [.ref 0] (gS [15] I1)) [15] I1 fun x2 I2 => hV (fJF_fill N 100 [.ref 0, .int (nI 0)] (gS [15] I2)) [15] I2 fun I3 => some (.inl (some (.int x2.toInt32)), I3)) hc hw (by omega)
  obtain ⟨J1, j0, j1, j2, j3⟩ := m_rec (N := N) (K := fun I1 => hJ (fX9_shadows N [.ref 0, .int (nI 0)] (gS (rg 0 18) I1)) (rg 0 18) I1 fun x2 I2 => hX9_resetShadows_18 N N x2.toInt32 (nI 0) I2) hm' hw hN
  have h1 : STc (gS (rg 1 20) I1) a.1 := hc.1.congr (fun q hq => by rw [gS_b hq (by decide), gS_b hq (by decide), i2 _ (by omega)])
  have hr1 : RowIs (J1 3) a.1 := by rw [j3 3 (by decide) (by decide)]; exact hm'.1
  have g15 : ∀ X : gM, gMg [15] X (gS [15] X) = X := fun X => gMg_gS _ _ (by decide)
  obtain ⟨F, f0, f1, f2, f3⟩ := pJF_fill (N := N) (n := 100) (x := nI 0) (I := gS [15] I1) (by decide) (by omega)
  have m15 : gMg [15] I1 F 15 = F 0 := rfl
  have mo : ∀ k, k ≠ 15 → gMg [15] I1 F k = I1 k := fun k hk => by
    unfold gMg
    have : gIx [15] k = none := if_neg (fun z => hk z.symm)
    rw [this]
  have hsum := pX8_sum (N := N) (f := shq a.1) (I := gS [15] I1) (fun q hq => ⟨by
    have := h1.2.1.2.2 q hq
    rw [gS_b (by decide) (by decide)] at this; exact this, shq_lt hw.1.1 hq⟩) (by omega)
  have hsh := pX9_shadows (N := N) (b := false) (σ := a.1) (I := gS (rg 0 18) J1) (by rw [gSm18 (by decide)]; exact hr1) hw.1.1 (by omega)
  rw [show b2 false = nI 0 from rfl] at hsh
  have hst : STc (gS (rg 1 20) (gMg [15] I1 F)) (rstN a.1.1, a.1.2) := by
    obtain ⟨w0, w1, w2⟩ := hw.lt
    obtain ⟨hn, hs, hq⟩ := h1
    refine ⟨(hn.to w1 w2 (fun x hx => rstN_lo hx)).congr (fun k k1 k9 => by rw [gS_b (by omega) (by decide), gS_b (by omega) (by decide), mo _ (by omega)]), ⟨?_, ?_, fun q hq2 => ?_⟩, ?_⟩
    · rw [gS_b (by decide) (by decide), mo _ (by decide)]
      show _ = nI (rstN a.1.1 7)
      rw [rstN_lo (by decide)]
      have := hs.1
      rw [gS_b (by decide) (by decide)] at this; exact this
    · rw [gS_b (by decide) (by decide), mo _ (by decide)]
      show _ = nI (rstN a.1.1 8)
      rw [rstN_lo (by decide)]
      have := hs.2.1
      rw [gS_b (by decide) (by decide)] at this; exact this
    · rw [gS_b (by decide) (by decide)]
      show gMg [15] I1 F 15 q = nI (rstN a.1.1 (145 + q))
      have e : rstN a.1.1 (145 + q) = 0 := if_pos (by omega)
      rw [m15, f1 q hq2, e]
    · rw [qsq_to (s := rstN a.1.1) hw.1.1.1 (fun f hf => rstN_lo (by have hf' : f < a.1.1 2 := hf; omega))]
      exact CQ.congr hq (fun k k1 k2 k14 => by rw [gS_b (by omega) (by decide), gS_b (by omega) (by decide), mo _ (by omega)])
  have key : ∀ (x : Int32) (m i : Nat), i ≤ 100 → 100 - i < m → ∀ K : gM, (∀ q, q < i → K 3 (145 + q) = nI 0) → (∀ q, (q < 145 ∨ 145 + i ≤ q) → K 3 q = J1 3 q) → (∀ k, k ≠ 3 → K k = J1 k) → ∃ L, hX9_resetShadows_18 N m x (nI i) K = some (.inl (some (.int x)), L) ∧ RowIs (L 3) (rstN a.1.1, a.1.2) ∧ ∀ k, k ≠ 3 → L k = J1 k := by
    intro x m
    induction m with
    | zero => intro i _ h; omega
    | succ m ih =>
      intro i hi hm K k1 k2 k3
      rw [eX9_resetShadows_18, l100]
      by_cases hin : i = 100
      · subst hin
        rw [if_pos ((cge (by omega) (by omega)).mpr (Nat.le_refl _))]
        refine ⟨K, rfl, ⟨fun k hk => ?_, ?_, fun j p hp w hw5 => ?_⟩, k3⟩
        · by_cases h : 145 ≤ k
          · have e : rstN a.1.1 k = 0 := if_pos (by omega)
            have := k1 (k - 145) (by omega)
            rw [show 145 + (k - 145) = k by omega] at this
            show _ = nI (rstN a.1.1 k)
            rw [this, e]
          · show _ = nI (rstN a.1.1 k)
            rw [k2 k (by omega), rstN_lo (by omega)]; exact hr1.1 k hk
        · rw [k2 _ (by omega)]; exact hr1.2.1
        · rw [k2 _ (by omega)]; exact hr1.2.2 j p hp w hw5
      · have e145 : gb_add 145 (nI i) = nI (145 + i) := by rw [l145]; exact nI_add _ _
        rw [if_neg (fun z => hin (by have := (cge (by omega) (by omega)).mp z; omega)), e145, ckI (by omega) (by decide), nI_clamp (by omega), l1, nI_add]
        refine ih (i + 1) (by omega) (by omega) _ (fun q hq => ?_) (fun q hq => by rw [gU_un (Or.inr (by omega))]; exact k2 q (by omega)) (fun k hk => by rw [gU_ok hk]; exact k3 k hk)
        by_cases e : q = i
        · rw [e, gU_us]; rfl
        · rw [gU_un (Or.inr (by omega))]; exact k1 q (by omega)
  obtain ⟨L, q0, q1, q2⟩ := key (lI (sq (fun q => if false = true then shq a.1 q * shq a.1 q else shq a.1 q) 100)).toInt32 N 0 (Nat.zero_le _) (by omega) J1 (fun q hq => absurd hq (Nat.not_lt_zero _)) (fun _ _ => rfl) (fun _ _ => rfl)
  rw [eX8_resetShadows, eX8_resetShadows_0, l0, i0, hsum, hJ_mk, g15, f0, hV_mk, eX9_resetShadows, eX9_resetShadows_0, l0, j0, hsh, hJ_mk, gMm18, q0]
  exact AG.ok rfl rfl (by rw [q2 0 (by decide), j2 0 (by decide)]; exact gU_us) (IN.step (σ' := (rstN a.1.1, a.1.2)) hc hm' hw i1 i2 j1 j2 j3 hst (fun q hq => mo q (by omega)) q1 (fun j hj => by rw [q2 0 (by decide)]) (fun q hq => q2 q (by omega)) hw.1.rst)
