/-! ===== slots pass ===== -/
def FRM (M' M : gM) : Prop := (∀ j, j ≠ 23 → j ≠ 24 → j ≠ 28 → M' 0 j = M 0 j) ∧ ∀ j, j ≠ 0 → j ≠ 3 → (j < 7 ∨ 16 ≤ j) → M' j = M j
theorem FRM.refl (M : gM) : FRM M M := ⟨fun _ _ _ _ => rfl, fun _ _ _ _ => rfl⟩
theorem FRM.tr {M M' M'' : gM} (h : FRM M' M) (h2 : FRM M'' M') : FRM M'' M := ⟨fun j a b c => (h2.1 j a b c).trans (h.1 j a b c), fun j a b c => (h2.2 j a b c).trans (h.2 j a b c)⟩
theorem FRM.lift {M M' : gM} (h : FRM M' (gS (rg 0 18) M)) : FRM (gMg (rg 0 18) M M') M := ⟨fun j a b c => by rw [gM18 (by decide), h.1 j a b c, gSm18 (by decide)], fun j a b c => by
  by_cases h18 : j < 18
  · rw [gM18 h18, h.2 j a b c, gSm18 h18]
  · exact gM18o (by omega)⟩
/-- a state and how many slots it may pass -/
def Wa (n : Nat) (σ : St) : Prop := Wg (110 * σ.1 7) σ ∧ σ.1 7 + n ≤ 10100
theorem s_slot1 {N n : Nat} {σ : St} {I M : gM} (hc : STc (gS (rg 7 20) I) σ) (hr : RowIs (M 3) σ) (hw : Wa (n + 1) σ) (hN : 1000 ≤ N) :
    ∃ (J M' : gM) (σ' : St), fX6_passSlot N [.ref 0, .ref 7] I = some (.inl none, J) ∧ fX9_slot N [.ref 0] M = some (.inl none, M') ∧ STc (gS (rg 7 20) J) σ' ∧ RowIs (M' 3) σ' ∧ Wa n σ' ∧ keepN σ.1 σ'.1 ∧ σ'.1 7 = σ.1 7 + 1 ∧ FRM M' M := by
  obtain ⟨w1, w2⟩ := hw
  obtain ⟨J, M', σ', h1, h2, h3, h4, h5, h6, h7, h8, h9⟩ := s_slot (N := N) hc hr w1 (by omega) (by omega) hN
  refine ⟨J, M', σ', h1, h2, h3, h4, ⟨?_, by omega⟩, h6, h7, h8, h9⟩
  rw [h7]
  exact h5.mono (by omega)
theorem p_slots {N : Nat} (hN : 1000 ≤ N) : ∀ (n : Nat) (σ : St) (I M : gM), STc (gS (rg 7 20) I) σ → RowIs (M 3) σ → Wa n σ → n ≤ 50 →
    ∃ (J M' : gM) (σ' : St), fX6_passSlots N [.ref 0, .ref 7, .int (nI n)] I = some (.inl none, J) ∧ fX9_slots N [.ref 0, .int (nI n)] M = some (.inl none, M') ∧ STc (gS (rg 7 20) J) σ' ∧ RowIs (M' 3) σ' ∧ Wa 0 σ' ∧ keepN σ.1 σ'.1 ∧ σ'.1 7 = σ.1 7 + n ∧ FRM M' M := by
  intro n σ I M hc hr hw hn
  have l0 : (0 : Int32) = nI 0 := rfl
  have l1 : (1 : Int32) = nI 1 := rfl
  have key : ∀ m i : Nat, i ≤ n → n - i < m → ∀ (m2 : Nat), n - i < m2 → ∀ (τ : St) (K L : gM), STc (gS (rg 7 20) K) τ → RowIs (L 3) τ → Wa (n - i) τ → ∃ (J M' : gM) (σ' : St), hX6_passSlots_2 N m (nI n) (nI i) K = some (.inl none, J) ∧ hX9_slots_2 N m2 (nI n) (nI i) L = some (.inl none, M') ∧ STc (gS (rg 7 20) J) σ' ∧ RowIs (M' 3) σ' ∧ Wa 0 σ' ∧ keepN τ.1 σ'.1 ∧ σ'.1 7 = τ.1 7 + (n - i) ∧ FRM M' L := by
    intro m
    induction m with
    | zero => intro i _ h; omega
    | succ m ih =>
      intro i hi hm m2 hm2 τ K L hK hL hwt
      cases m2 with
      | zero => omega
      | succ m2 =>
        rw [eX6_passSlots_2, eX9_slots_2]
        by_cases hin : i = n
        · subst hin
          rw [if_pos ((cge (by omega) (by omega)).mpr (Nat.le_refl _)), if_pos ((cge (by omega) (by omega)).mpr (Nat.le_refl _))]
          rw [Nat.sub_self] at hwt
          exact ⟨K, L, τ, rfl, rfl, hK, hL, hwt, keepN.refl _, by omega, FRM.refl L⟩
        · have e : n - i = (n - (i + 1)) + 1 := by omega
          rw [e] at hwt
          obtain ⟨J, M', σ', h1, h2, h3, h4, h5, h6, h7, h8⟩ := s_slot1 (N := N) (I := gS (rg 0 27) K) (M := gS (rg 0 18) L) (hK.congr (fun k hk => st27 k hk)) (by rw [gSm18 (by decide)]; exact hL) hwt hN
          rw [if_neg (fun z => hin (by have := (cge (by omega) (by omega)).mp z; omega)), if_neg (fun z => hin (by have := (cge (by omega) (by omega)).mp z; omega)), h1, h2, hV_mk, hV_mk, l1, nI_add]
          obtain ⟨J', M'', σ'', g1, g2, g3, g4, g5, g6, g7, g8⟩ := ih (i + 1) (by omega) (by omega) m2 (by omega) σ' (gMg (rg 0 27) K J) (gMg (rg 0 18) L M') (h3.congr (fun k hk => st27m k hk)) (by rw [gM18 (by decide)]; exact h4) h5
          exact ⟨J', M'', σ'', g1, g2, g3, g4, g5, h6.tr g6, by omega, h8.lift.tr g8⟩
  obtain ⟨J, M', σ', h1, h2, h3, h4, h5, h6, h7, h8⟩ := key N 0 (Nat.zero_le _) (by omega) N (by omega) σ I M hc hr (by rw [Nat.sub_zero]; exact hw)
  rw [eX6_passSlots, eX6_passSlots_0, eX9_slots, eX9_slots_0, l0]
  exact ⟨J, M', σ', h1, h2, h3, h4, h5, h6, by omega, h8⟩
theorem STc.into7 {I : gM} {σ : St} {b : Nat} (h : STc (gS (rg b 20) I) σ) : STc (gS (rg 7 20) (gS (rg 194 7 ++ rg b 20) I)) σ := h.congr (fun k hk => by
  rw [gS_b hk (by decide), gS_b hk (by decide), gS_aq2 hk (by decide)])
theorem STc.back7 {I J : gM} {σ : St} {b : Nat} (h : STc (gS (rg 7 20) J) σ) (hb : b + 20 ≤ 194) : STc (gS (rg b 20) (gMg (rg 194 7 ++ rg b 20) I J)) σ := h.congr (fun k hk => by
  rw [gS_b hk (by decide), gS_b hk (by decide), gM_aq2 hk (Or.inr hb)])
theorem l_slots {N n b : Nat} {σ : St} {I M : gM} (hc : STc (gS (rg b 20) I) σ) (hr : RowIs (M 3) σ) (hw : Wa n σ) (hn : n ≤ 50) (hb : b + 20 ≤ 194) (hN : 1000 ≤ N) :
    ∃ (J M' : gM) (σ' : St), (∀ K : gM → gO, hV (fX6_passSlots N [.ref 0, .ref 7, .int (nI n)] (gS (rg 194 7 ++ rg b 20) I)) (rg 194 7 ++ rg b 20) I K = K J) ∧ (∀ K : gM → gO, hV (fX9_slots N [.ref 0, .int (nI n)] (gS (rg 0 18) M)) (rg 0 18) M K = K M') ∧ STc (gS (rg b 20) J) σ' ∧ RowIs (M' 3) σ' ∧ Wa 0 σ' ∧ keepN σ.1 σ'.1 ∧ σ'.1 7 = σ.1 7 + n ∧ FRM M' M ∧ ∀ k, (k < 194 ∨ 201 ≤ k) → (k < b ∨ b + 20 ≤ k) → J k = I k := by
  obtain ⟨J, M', σ', h1, h2, h3, h4, h5, h6, h7, h8⟩ := p_slots (N := N) hN n σ (gS (rg 194 7 ++ rg b 20) I) (gS (rg 0 18) M) hc.into7 (by rw [gSm18 (by decide)]; exact hr) hw hn
  exact ⟨gMg (rg 194 7 ++ rg b 20) I J, gMg (rg 0 18) M M', σ', fun K => by rw [h1, hV_mk], fun K => by rw [h2, hV_mk], h3.back7 hb, by rw [gM18 (by decide)]; exact h4, h5, h6, h7, h8.lift, fun k k1 k2 => gM_aqo (by omega) (by omega)⟩
theorem l_slot {N n b : Nat} {σ : St} {I M : gM} (hc : STc (gS (rg b 20) I) σ) (hr : RowIs (M 3) σ) (hw : Wa (n + 1) σ) (hb : b + 20 ≤ 194) (hN : 1000 ≤ N) :
    ∃ (J M' : gM) (σ' : St), (∀ K : gM → gO, hV (fX6_passSlot N [.ref 0, .ref 7] (gS (rg 194 7 ++ rg b 20) I)) (rg 194 7 ++ rg b 20) I K = K J) ∧ (∀ K : gM → gO, hV (fX9_slot N [.ref 0] (gS (rg 0 18) M)) (rg 0 18) M K = K M') ∧ STc (gS (rg b 20) J) σ' ∧ RowIs (M' 3) σ' ∧ Wa n σ' ∧ keepN σ.1 σ'.1 ∧ σ'.1 7 = σ.1 7 + 1 ∧ FRM M' M ∧ ∀ k, (k < 194 ∨ 201 ≤ k) → (k < b ∨ b + 20 ≤ k) → J k = I k := by
  obtain ⟨J, M', σ', h1, h2, h3, h4, h5, h6, h7, h8⟩ := s_slot1 (N := N) (I := gS (rg 194 7 ++ rg b 20) I) (M := gS (rg 0 18) M) hc.into7 (by rw [gSm18 (by decide)]; exact hr) hw hN
  exact ⟨gMg (rg 194 7 ++ rg b 20) I J, gMg (rg 0 18) M M', σ', fun K => by rw [h1, hV_mk], fun K => by rw [h2, hV_mk], h3.back7 hb, by rw [gM18 (by decide)]; exact h4, h5, h6, h7, h8.lift, fun k k1 k2 => gM_aqo (by omega) (by omega)⟩
theorem m_areS {N : Nat} {v : Int32} {I : gM} {K : Int32 → gM → gO} : hI (fX9_areSlots N [.int v] (gS [] I)) [] I K = K (b2 (rgb v (nI 1) (nI 50))) I := by
  have d1 : (1 : Int64) = (nI 1).toInt64 := by decide
  have d50 : (50 : Int64) = (nI 50).toInt64 := by decide
  rw [eX9_areSlots, eX9_areSlots_0, d1, d50, m_in, if_pos (b2_01 _), hI_mk, gS_nil]
theorem j_run {N : Nat} {v : Int32} {I J : gM} {a : AB} (h : IN I J a) (hN : 20000 ≤ N) : AG [eIA] (fX8_run N [.ref 0, .int v] I) (fX9_run N [.ref 0, .int v] J) := by
  obtain ⟨hc, hm, hw⟩ := h
  have hm' := hm.thr (x := nI 0)
  have l0 : (0 : Int32) = nI 0 := rfl
  have l1 : (1 : Int32) = nI 1 := rfl
  have l7 : (7 : Int32) = nI 7 := rfl
  have l50 : (50 : Int32) = nI 50 := rfl
  have l245 : (245 : Int32) = nI 245 := rfl
  have l9999 : (9999 : Int32) = nI 9999 := rfl
  have n7 : (nI 7).toNatClampNeg = 7 := nI_clamp (by decide)
  have n245 : (nI 245).toNatClampNeg = 245 := nI_clamp (by decide)
  rw [eX8_run, eX8_run_0, l1, l50, x_range, eX9_run, eX9_run_0, l0, m_areS]
  cases hv : rgb v (nI 1) (nI 50) with
  | false =>
    rw [i_f, show gz_eq (b2 false) = gz_eq 0 from rfl, i_e0, eX9_run_32, eX9_run_33, m_f0, i_e1]
    exact AG.ex 0 rfl rfl rfl gU_us ⟨hc, hm'.thr, hw⟩
  | true =>
    obtain ⟨n, u0, u1, u2⟩ := rgb_t (by decide) (by decide) hv
    subst u2
    have h99 := hw.1.2
    have e7 : gU J 0 0 (nI 0) 3 7 = nI (a.1.1 7) := hm'.1.1 7 (by decide)
    have ea : gb_add (nI (a.1.1 7)) (nI n) = nI (a.1.1 7 + n) := nI_add _ _
    rw [i_t, show gz_eq (b2 true) = gz_eq 1 from rfl, i_e1, l7, l9999, n7, e7, hc.sl.1, ea, ckI (by decide) (by decide)]
    by_cases hs : a.1.1 7 + n ≤ 9999
    · obtain ⟨I1, i0, i1, i2⟩ := c_rem (N := N) (K := fun I2 => hV (fX6_passSlots N [.ref 0, .ref 7, .int (nI n)] (gS (rg 194 7 ++ rg 1 20) I2)) (rg 194 7 ++ rg 1 20) I2 fun I3 => hX8_run_55 N I3) hc hw (by omega)
      obtain ⟨J1, j0, j1, j2, j3⟩ := m_rec (N := N) (K := fun I3 => hV (fX9_slots N [.ref 0, .int (nI n)] (gS (rg 0 18) I3)) (rg 0 18) I3 fun I4 => hX9_run_51 N I4) hm' hw hN
      have h1 : STc (gS (rg 1 20) I1) a.1 := hc.1.congr (fun q hq => by rw [gS_b hq (by decide), gS_b hq (by decide), i2 _ (by omega)])
      obtain ⟨I2, J2, σ', s1, s2, s3, s4, s5, s6, s7, s8, s9⟩ := l_slots (N := N) (n := n) (b := 1) (I := I1) (M := J1) (σ := a.1) h1 (by rw [j3 3 (by decide) (by decide)]; exact hm'.1) ⟨hw.1.1, by omega⟩ (by omega) (by decide) (by omega)
      have e11 : I2 11 11 = nI σ'.2.length := by
        have := s3.2.2.toq.P.1
        rw [gS10 (by decide), gS_b (by decide) (by decide)] at this; exact this
      rw [if_pos ((cle (by omega) (by decide)).mpr hs), if_neg (fun z => by have := (cgt (by omega) (by decide)).mp z; omega), eX9_run_33, m_f1, i_e0, i0, j0, s1, s2, eX8_run_55, eX9_run_51, l245, ckI (by decide) (by decide), n245, s4.2.1, e11]
      refine AG.ok rfl rfl (by rw [s8.1 0 (by decide) (by decide) (by decide), j2 0 (by decide)]; exact gU_us) (a := (σ', rem6 a.2.1 a.1, a.2.2.1, a.2.2.2)) ?_
      -- the runner's own rows are free
      obtain ⟨g1, g2, g3, g4⟩ := hc
      obtain ⟨q1, q2, q3, q4⟩ := hm'
      obtain ⟨w1, w2, w3, w4, w5, w6⟩ := hw
      have eo : ∀ k, (k = 0 ∨ (21 ≤ k ∧ k < 61) ∨ k = 183 ∨ k = 184) → I2 k = I k := fun k hk => by rw [s9 k (by omega) (by omega), i2 k (by omega)]
      refine ⟨⟨s3, i1.congr (fun k hk => by rw [gS_b hk (by decide), gS_b hk (by decide), s9 _ (by omega) (by omega)]), ⟨by rw [eo 0 (by omega)]; exact g3.1, fun τ hτ => (g3.2 τ hτ).congr (fun k hk => by rw [gS_b hk (by decide), gS_b hk (by decide), eo _ (by omega)])⟩, by rw [BFc, eo 183 (by omega), eo 184 (by omega)]; exact g4⟩, ⟨s4, ⟨by rw [s8.1 13 (by decide) (by decide) (by decide)]; exact j1.1, fun i τ hτ => by rw [s8.2 6 (by decide) (by decide) (by decide)]; exact j1.2 i τ hτ⟩, ⟨by rw [s8.1 16 (by decide) (by decide) (by decide), j2 16 (by decide)]; exact q3.1, fun τ hτ => by rw [s8.2 5 (by decide) (by decide) (by decide), j3 5 (by decide) (by decide)]; exact q3.2 τ hτ⟩, by rw [BFm, s8.1 2 (by decide) (by decide) (by decide), j2 2 (by decide), s8.2 1 (by decide) (by decide) (by decide), j3 1 (by decide) (by decide)]; exact q4⟩, ⟨s5.1, by show σ'.1 7 ≤ 9999; omega⟩, fun τ hτ => ?_, w3, w4, rem6_len w5, w6⟩
      rcases rem6_mem hτ with z | z
      · exact w2 τ z
      · rw [z]; exact w1
    · rw [if_neg (fun z => hs ((cle (by omega) (by decide)).mp z)), if_pos ((cgt (by omega) (by decide)).mpr (by omega)), eX9_run_32, eX9_run_33, m_f0, i_e1]
      exact AG.ex 0 rfl rfl rfl gU_us ⟨hc, hm'.thr, hw⟩
