/-! ===== the setters of both sides ===== -/
theorem m_become {N p x : Nat} {a : AB} {J : gM} {K : Int32 → gM → gO} (h : INm J a) (hw : INw a) (hp : p < 245) (hN : 20000 ≤ N) : ∃ J1, hI (fX9_become N [.ref 0, .int (nI p), .int (nI x)] (gS (rg 0 18) J)) (rg 0 18) J K = K (nI (a.1.1 p)) (gU J1 3 p (nI x)) ∧ PS J1 (rem6 a.2.1 a.1) ∧ (∀ j, j ≠ 13 → J1 0 j = J 0 j) ∧ ∀ k, k ≠ 0 → k ≠ 6 → J1 k = J k := by
  have h' : INm (gS (rg 0 18) J) a := h.congr (fun j _ => by rw [gSm18 (by decide)]) (fun k hk => by rw [gSm18 (by omega)])
  obtain ⟨J1, j0, j1, j2, j3⟩ := m_rec (N := N) (K := fun I1 => ck 2746 (nI p) <| ck 2746 (nI p) <| some (.inl (some (.int (I1 3 (nI p).toNatClampNeg))), gU I1 3 (nI p).toNatClampNeg (nI x))) h' hw hN
  have m3 : gMg (rg 0 18) J J1 3 = J 3 := by rw [gM18 (by decide), j3 3 (by decide) (by decide), gSm18 (by decide)]
  refine ⟨gMg (rg 0 18) J J1, ?_, ⟨by rw [gM18 (by decide)]; exact j1.1, fun i τ hτ => by rw [gM18 (by decide)]; exact j1.2 i τ hτ⟩, fun j hj => by rw [gM18 (by decide), j2 j hj, gSm18 (by decide)], fun k k0 k6 => rlift (t := fun k => k = 0 ∨ k = 6) (fun k hk => j3 k (fun e => hk (Or.inl e)) (fun e => hk (Or.inr e))) k (fun z => z.elim k0 k6)⟩
  rw [eX9_become, eX9_become_0, j0, ckI (by omega) (by decide), ckI (by omega) (by decide), hI_mk, nI_clamp (by omega), gMu18 (by decide)]
  have e : J1 3 p = nI (a.1.1 p) := by rw [j3 3 (by decide) (by decide), gSm18 (by decide)]; exact h.1.1 p hp
  rw [e]
theorem Wt.cap {σ : St} {k x : Nat} (h : Wt σ) (hk : k < 14) (h1 : 1 ≤ x) (h5 : x ≤ 5) : Wt (up1 σ.1 (9 + 4 * k + 2) x, σ.2) := h.up (by omega) (fun j hj e => by omega) (fun j e _ => ⟨h1, h5⟩) (fun j w hw h2 _ e => by omega) (fun f w hw e => by omega)
theorem Wt.rate {σ : St} {f x : Nat} (h : Wt σ) (hf : f < 6) (h3 : x ≤ 300) : Wt (up1 σ.1 (65 + 11 * f + 2) x, σ.2) := h.up (by omega) (fun j hj e => by omega) (fun j e _ => by omega) (fun j w hw h2 h65 e => by omega) (fun g w hw e => Or.inl ⟨by omega, h3⟩)
theorem Wt.budget {σ : St} {f x : Nat} (h : Wt σ) (hf : f < 6) (h3 : x ≤ 200) : Wt (up1 σ.1 (65 + 11 * f + 3) x, σ.2) := h.up (by omega) (fun j hj e => by omega) (fun j e _ => by omega) (fun j w hw h2 h65 e => by omega) (fun g w hw e => Or.inr ⟨by omega, h3⟩)
theorem Wt.set {σ : St} {k x : Nat} (h : Wt σ) (hk : k < 4) (hx : x ≤ msz k) : Wt (up1 σ.1 (3 + k) x, σ.2) := h.up (by omega) (fun j hj e => (show k = j by omega) ▸ hx) (fun j e _ => by omega) (fun j w hw h2 h65 e => by omega) (fun g w hw e => by omega)
theorem j_setCapacity {N : Nat} {v u : Int32} {I J : gM} {a : AB} (h : IN I J a) (hN : 20000 ≤ N) : AG [eIO, eIA] (fX8_setCapacity N [.ref 0, .int v, .int u] I) (fX9_setCapacity N [.ref 0, .int v, .int u] J) := by
  obtain ⟨hc, hm, hw⟩ := h
  have hm' := hm.thr (x := nI 0)
  have l0 : (0 : Int32) = nI 0 := rfl
  have l1 : (1 : Int32) = nI 1 := rfl
  have l2 : (2 : Int32) = nI 2 := rfl
  have l4 : (4 : Int32) = nI 4 := rfl
  have l5 : (5 : Int32) = nI 5 := rfl
  have l9 : (9 : Int32) = nI 9 := rfl
  have d1 : (1 : Int64) = (nI 1).toInt64 := by decide
  have d5 : (5 : Int64) = (nI 5).toInt64 := by decide
  obtain ⟨w0, w1, w2⟩ := hw.lt
  rw [eX8_setCapacity, eX8_setCapacity_0, x_link hc hw, eX9_setCapacity, eX9_setCapacity_0, l0, m_link hm'.1]
  cases hv : ndb v (a.1.1 1) with
  | false =>
    rw [m_ff, i_f, i_n1]
    exact AG.ex 0 rfl rfl rfl gU_us ⟨hc, hm'.thr, hw⟩
  | true =>
    obtain ⟨k, k1, k2⟩ := ndb_t (by omega) hv
    subst k2
    rw [m_ft, i_t, i_n0, l1, l5, x_range, d1, d5, m_in, eX9_setCapacity_28]
    cases hu : rgb u (nI 1) (nI 5) with
    | false =>
      rw [m_ff, i_f, i_e1]
      exact AG.ex 1 rfl rfl rfl gU_us ⟨hc, hm'.thr, hw⟩
    | true =>
      obtain ⟨x, u0, u1, u2⟩ := rgb_t (by decide) (by decide) hu
      subst u2
      have ep : gb_add (gb_add (nI 9) (gb_mul (nI 4) (nI k))) (nI 2) = nI (9 + 4 * k + 2) := by
        simp only [gb_add, gb_mul, pk_mul, nI_add]
      obtain ⟨I1, i0, i1, i2⟩ := c_rem (N := N) (K := fun I3 => hX8_setCapacity_22 N (nI k) (nI x) I3) hc hw (by omega)
      obtain ⟨J1, j0, j1, j2, j3⟩ := m_become (N := N) (p := 9 + 4 * k + 2) (x := x) (K := fun x5 I5 => some (.inl (some (.int x5)), I5)) hm' hw (by omega) hN
      have h1 : STc (gS (rg 1 20) I1) a.1 := hc.1.congr (fun q hq => by rw [gS_b hq (by decide), gS_b hq (by decide), i2 _ (by omega)])
      have e5 : I1 5 k = nI (lkp a.1.1 k 2) := by rw [i2 5 (by omega)]; exact (hc.lk k1).2.2.1
      rw [m_ft, i_t, i_e0, l2, l4, l9, ep, j0, i0, eX8_setCapacity_22, ckI (by omega) (by decide), ckI (by omega) (by decide), nI_clamp (by omega), e5]
      exact AG.ok rfl rfl (by rw [gU_ok (by decide), j2 0 (by decide)]; exact gU_us) (IN.step (σ' := (up1 a.1.1 (9 + 4 * k + 2) x, a.1.2)) hc hm' hw i1 i2 j1 j2 j3 ((h1.cap (by omega) k1).congr (fun q hq => gSU (p := 4) q hq)) (fun q hq => gU_ok (by omega)) (by rw [gU_u3, j3 3 (by decide) (by decide)]; exact hm'.1.put (by omega)) (fun j hj => by rw [gU_ok (by decide)]) (fun q hq => gU_ok (by omega)) (hw.1.cap (by omega) u0 u1))
theorem c_repl {N f w x : Nat} {a : AB} {I : gM} {K : Int32 → gM → gO} (hc : INc I a) (hw : INw a) (hf : f < a.1.1 2) (hw11 : w < 11) (hN : 20000 ≤ N) : ∃ I1, hI (fX8_replaceNumber N [.ref 0, .int (nI f), .int (nI w), .int (nI x)] (gS (rg 0 204) I)) (rg 0 204) I K = K (nI (flp a.1.1 f w)) (gU I1 9 (f * 11 + w) (nI x)) ∧ HI (gS (rg 61 122) I1) (rem6 a.2.1 a.1) ∧ ∀ k, (k < 61 ∨ 183 ≤ k) → I1 k = I k := by
  have w2 := hw.lt.2.2
  have h' : INc (gS (rg 0 204) I) a := hc.congr (by rw [gS204 (by decide)]) (fun k _ hk => by rw [gS204 (by omega)]) (by rw [gS204 (by decide)])
  obtain ⟨I1, i0, i1, i2⟩ := c_rem (N := N) (K := fun I1 => hI (fX2_getNumber N [.ref 0, .int (nI f), .int (nI w)] (gS (rg 2 9) I1)) (rg 2 9) I1 fun x2 I2 => hV (fX2_putNumber N [.ref 0, .int (nI f), .int (nI w), .int (nI x)] (gS (rg 2 9) I2)) (rg 2 9) I2 fun I3 => some (.inl (some (.int x2)), I3)) h' hw (by omega)
  have e9 : I1 9 (f * 11 + w) = nI (flp a.1.1 f w) := by rw [i2 9 (by omega), gS204 (by decide)]; exact hc.fl hf hw11
  have eU : gMg (rg 2 9) I1 (gU (gS (rg 2 9) I1) 7 (f * 11 + w) (nI x)) = gU I1 9 (f * 11 + w) (nI x) := by
    rw [gMg_U (by decide), gMg_same _ (by decide)]
  have eV : gMg (rg 0 204) I (gU I1 9 (f * 11 + w) (nI x)) = gU (gMg (rg 0 204) I I1) 9 (f * 11 + w) (nI x) := by
    rw [gMg_U (by decide), Nat.zero_add]
  have m204 : ∀ k, k < 204 → gMg (rg 0 204) I I1 k = I1 k := fun k hk => by
    have := gMg_rgi (b := 0) (I := I) (J := I1) hk
    rwa [Nat.zero_add] at this
  refine ⟨gMg (rg 0 204) I I1, ?_, i1.congr (fun k hk => by rw [gS_b hk (by decide), gS_b hk (by decide), m204 _ (by omega)]), fun k hk => ?_⟩
  · rw [eX8_replaceNumber, eX8_replaceNumber_0, i0, pX2_getNumber N _ (by omega), hI_mk, gMg_same _ (by decide), gS_b (by decide) (by decide), e9, pX2_putNumber N _ _ (by omega), hV_mk, eU, hI_mk, eV]
  · by_cases h : k < 204
    · rw [m204 k h, i2 k (by omega), gS204 h]
    · exact gMg_rgo (by omega)
theorem j_setRate {N : Nat} {v u : Int32} {I J : gM} {a : AB} (h : IN I J a) (hN : 20000 ≤ N) : AG [eIO, eIA] (fX8_setRate N [.ref 0, .int v, .int u] I) (fX9_setRate N [.ref 0, .int v, .int u] J) := by
  obtain ⟨hc, hm, hw⟩ := h
  have hm' := hm.thr (x := nI 0)
  have l0 : (0 : Int32) = nI 0 := rfl
  have l2 : (2 : Int32) = nI 2 := rfl
  have l11 : (11 : Int32) = nI 11 := rfl
  have l65 : (65 : Int32) = nI 65 := rfl
  have l300 : (300 : Int32) = nI 300 := rfl
  have d0 : (0 : Int64) = (nI 0).toInt64 := by decide
  have d300 : (300 : Int64) = (nI 300).toInt64 := by decide
  obtain ⟨w0, w1, w2⟩ := hw.lt
  rw [eX8_setRate, eX8_setRate_0, x_flow hc hw, eX9_setRate, eX9_setRate_0, l0, m_flow hm'.1]
  cases hv : ndb v (a.1.1 2) with
  | false =>
    rw [m_ff, i_f, i_n1]
    exact AG.ex 0 rfl rfl rfl gU_us ⟨hc, hm'.thr, hw⟩
  | true =>
    obtain ⟨f, k1, k2⟩ := ndb_t (by omega) hv
    subst k2
    rw [m_ft, i_t, i_n0, l300, x_range, d0, d300, m_in, eX9_setRate_28]
    cases hu : rgb u (nI 0) (nI 300) with
    | false =>
      rw [m_ff, i_f, i_e1]
      exact AG.ex 1 rfl rfl rfl gU_us ⟨hc, hm'.thr, hw⟩
    | true =>
      obtain ⟨x, u0, u1, u2⟩ := rgb_t (by decide) (by decide) hu
      subst u2
      have ep : gb_add (gb_add (nI 65) (gb_mul (nI 11) (nI f))) (nI 2) = nI (65 + 11 * f + 2) := by
        simp only [gb_add, gb_mul, pk_mul, nI_add]
      obtain ⟨I1, i0, i1, i2⟩ := c_repl (N := N) (f := f) (w := 2) (x := x) (K := fun x3 I3 => some (.inl (some (.int x3)), I3)) hc hw k1 (by decide) hN
      obtain ⟨J1, j0, j1, j2, j3⟩ := m_become (N := N) (p := 65 + 11 * f + 2) (x := x) (K := fun x5 I5 => some (.inl (some (.int x5)), I5)) hm' hw (by omega) hN
      have h1 : STc (gS (rg 1 20) I1) a.1 := hc.1.congr (fun q hq => by rw [gS_b hq (by decide), gS_b hq (by decide), i2 _ (by omega)])
      rw [m_ft, i_t, i_e0, l2, l11, l65, ep, j0, i0]
      exact AG.ok rfl rfl (by rw [gU_ok (by decide), j2 0 (by decide)]; exact gU_us) (IN.step (σ' := (up1 a.1.1 (65 + 11 * f + 2) x, a.1.2)) hc hm' hw i1 i2 j1 j2 j3 ((h1.num (by omega) (by omega) k1 (by decide) (by decide)).congr (fun q hq => gSU (p := 8) q hq)) (fun q hq => gU_ok (by omega)) (by rw [gU_u3, j3 3 (by decide) (by decide)]; exact hm'.1.put (by omega)) (fun j hj => by rw [gU_ok (by decide)]) (fun q hq => gU_ok (by omega)) (hw.1.rate (by omega) u1))
theorem j_setBudget {N : Nat} {v u : Int32} {I J : gM} {a : AB} (h : IN I J a) (hN : 20000 ≤ N) : AG [eIO, eIA] (fX8_setBudget N [.ref 0, .int v, .int u] I) (fX9_setBudget N [.ref 0, .int v, .int u] J) := by
  obtain ⟨hc, hm, hw⟩ := h
  have hm' := hm.thr (x := nI 0)
  have l0 : (0 : Int32) = nI 0 := rfl
  have l2 : (3 : Int32) = nI 3 := rfl
  have l11 : (11 : Int32) = nI 11 := rfl
  have l65 : (65 : Int32) = nI 65 := rfl
  have l300 : (200 : Int32) = nI 200 := rfl
  have d0 : (0 : Int64) = (nI 0).toInt64 := by decide
  have d300 : (200 : Int64) = (nI 200).toInt64 := by decide
  obtain ⟨w0, w1, w2⟩ := hw.lt
  rw [eX8_setBudget, eX8_setBudget_0, x_flow hc hw, eX9_setBudget, eX9_setBudget_0, l0, m_flow hm'.1]
  cases hv : ndb v (a.1.1 2) with
  | false =>
    rw [m_ff, i_f, i_n1]
    exact AG.ex 0 rfl rfl rfl gU_us ⟨hc, hm'.thr, hw⟩
  | true =>
    obtain ⟨f, k1, k2⟩ := ndb_t (by omega) hv
    subst k2
    rw [m_ft, i_t, i_n0, l300, x_range, d0, d300, m_in, eX9_setBudget_28]
    cases hu : rgb u (nI 0) (nI 200) with
    | false =>
      rw [m_ff, i_f, i_e1]
      exact AG.ex 1 rfl rfl rfl gU_us ⟨hc, hm'.thr, hw⟩
    | true =>
      obtain ⟨x, u0, u1, u2⟩ := rgb_t (by decide) (by decide) hu
      subst u2
      have ep : gb_add (gb_add (nI 65) (gb_mul (nI 11) (nI f))) (nI 3) = nI (65 + 11 * f + 3) := by
        simp only [gb_add, gb_mul, pk_mul, nI_add]
      obtain ⟨I1, i0, i1, i2⟩ := c_repl (N := N) (f := f) (w := 3) (x := x) (K := fun x3 I3 => some (.inl (some (.int x3)), I3)) hc hw k1 (by decide) hN
      obtain ⟨J1, j0, j1, j2, j3⟩ := m_become (N := N) (p := 65 + 11 * f + 3) (x := x) (K := fun x5 I5 => some (.inl (some (.int x5)), I5)) hm' hw (by omega) hN
      have h1 : STc (gS (rg 1 20) I1) a.1 := hc.1.congr (fun q hq => by rw [gS_b hq (by decide), gS_b hq (by decide), i2 _ (by omega)])
      rw [m_ft, i_t, i_e0, l2, l11, l65, ep, j0, i0]
      exact AG.ok rfl rfl (by rw [gU_ok (by decide), j2 0 (by decide)]; exact gU_us) (IN.step (σ' := (up1 a.1.1 (65 + 11 * f + 3) x, a.1.2)) hc hm' hw i1 i2 j1 j2 j3 ((h1.num (by omega) (by omega) k1 (by decide) (by decide)).congr (fun q hq => gSU (p := 8) q hq)) (fun q hq => gU_ok (by omega)) (by rw [gU_u3, j3 3 (by decide) (by decide)]; exact hm'.1.put (by omega)) (fun j hj => by rw [gU_ok (by decide)]) (fun q hq => gU_ok (by omega)) (hw.1.budget (by omega) u1))
