/-! ===== looking ahead: both sides ===== -/
def INm0 (J : gM) (a : AB) : Prop := (J 0 13 = nI a.2.1.length ∧ ∀ (i : Nat) (τ : St), a.2.1[i]? = some τ → RowIs (fun k => J 6 (2746 * i + k)) τ) ∧ (J 0 16 = b2 a.2.2.1.isSome ∧ ∀ τ, a.2.2.1 = some τ → RowIs (J 5) τ) ∧ BFm J a.2.2.2
theorem INm0.congr {I J : gM} {a : AB} (h : INm0 I a) (h0 : ∀ j, (j = 2 ∨ j = 13 ∨ j = 16) → J 0 j = I 0 j) (e : ∀ k, (k = 1 ∨ k = 5 ∨ k = 6) → J k = I k) : INm0 J a := by
  obtain ⟨h2, h3, h4⟩ := h
  exact ⟨⟨by rw [h0 13 (by omega)]; exact h2.1, fun i τ hτ => by rw [e 6 (by omega)]; exact h2.2 i τ hτ⟩, ⟨by rw [h0 16 (by omega)]; exact h3.1, fun τ hτ => by rw [e 5 (by omega)]; exact h3.2 τ hτ⟩, by rw [BFm, h0 2 (by omega), e 1 (by omega)]; exact h4⟩
theorem INm0.frm {I J : gM} {a : AB} (h : INm0 I a) (e : FRM J I) : INm0 J a := h.congr (fun j hj => e.1 j (by omega) (by omega) (by omega)) (fun k hk => e.2 k (by omega) (by omega) (by omega))
/-- the reference looks ahead from a: its now is another row, aside lies a.1 -/
def AHm (J : gM) (a : AB) (σ : St) : Prop := INm0 J a ∧ RowIs (J 4) a.1 ∧ RowIs (J 3) σ ∧ J 0 0 = nI 0
def AHc (I : gM) (a : AB) (σ : St) : Prop := INc I a ∧ STc (gS (rg 41 20) I) σ
theorem AHc.of {I J : gM} {a : AB} {σ : St} (h : INc I a) (hs : STc (gS (rg 41 20) J) σ) (e : ∀ k, (k < 41 ∨ (61 ≤ k ∧ k < 194)) → J k = I k) : AHc J a σ := ⟨h.congr (by rw [e 0 (by omega)]) (fun k _ hk => e k (by omega)) (by rw [e 183 (by omega)]), hs⟩
theorem ah_c {N : Nat} {a : AB} {I : gM} {K : gM → gO} (h : INc I a) (hw : INw a) (hN : 20000 ≤ N) : ∃ I', hV (fX7_copyFrom N [.ref 0, .ref 20] (gS (rg 41 20 ++ rg 1 20) I)) (rg 41 20 ++ rg 1 20) I K = K I' ∧ AHc I' a a.1 := by
  obtain ⟨C, c0, c1, c2⟩ := l_copy (N := N) (d := 41) (s := 1) (K := K) h.1 hw.1.1.1 (Or.inr (by decide)) (by omega)
  exact ⟨C, c0, AHc.of h c1 (fun k hk => c2 k (by omega))⟩
theorem ah_m {N : Nat} {a : AB} {J : gM} {K : gM → gO} (h : INm J a) (h0 : J 0 0 = nI 0) (hw : INw a) (hN : 20000 ≤ N) : ∃ J', hV (fX9_copy N 2746 2746 [.ref 0, .int 0, .ref 1, .int 0] (gS (rg 3 2) J)) (rg 3 2) J K = K J' ∧ AHm J' a a.1 := by
  obtain ⟨C, q0, q1, q2, q3⟩ := m_copy (N := N) (n1 := 2746) (n2 := 2746) (a := 3) (b := 4) (p := 0) (q := 0) (J := J) (K := K) (by decide) (by decide) (by decide) (by decide) (by decide) hN
  refine ⟨C, q0, INm0.congr (I := J) ⟨h.2.1, h.2.2.1, h.2.2.2⟩ (fun j _ => by rw [q3 0 (by decide)]) (fun k hk => q3 k (by omega)), ?_, by rw [q3 3 (by decide)]; exact h.1, by rw [q3 0 (by decide)]; exact h0⟩
  refine h.1.congr (wfP hw.1.1.1).1 (fun k hk => ?_)
  have := q1 k hk
  rwa [Nat.zero_add] at this
theorem ah_back {N : Nat} {a : AB} {σ : St} {J : gM} {K : gM → gO} (h : AHm J a σ) (hw : INw a) (hN : 20000 ≤ N) : ∃ J', hV (fX9_copy N 2746 2746 [.ref 0, .int 0, .ref 1, .int 0] (gS [4, 3] J)) [4, 3] J K = K J' ∧ AHm J' a a.1 ∧ INm J' a := by
  obtain ⟨h1, h2, h3, h4⟩ := h
  obtain ⟨C, q0, q1, q2, q3⟩ := m_copy (N := N) (n1 := 2746) (n2 := 2746) (a := 4) (b := 3) (p := 0) (q := 0) (J := J) (K := K) (by decide) (by decide) (by decide) (by decide) (by decide) hN
  have hr : RowIs (C 3) a.1 := h2.congr (wfP hw.1.1.1).1 (fun k hk => by
    have := q1 k hk
    rwa [Nat.zero_add] at this)
  have hi : INm0 C a := h1.congr (fun j _ => by rw [q3 0 (by decide)]) (fun k hk => q3 k (by omega))
  exact ⟨C, q0, ⟨hi, by rw [q3 4 (by decide)]; exact h2, hr, by rw [q3 0 (by decide)]; exact h4⟩, hr, hi⟩
theorem ah_slots {N n : Nat} {a : AB} {σ : St} {I M : gM} (hc : AHc I a σ) (hm : AHm M a σ) (hw : Wa n σ) (hn : n ≤ 50) (hN : 20000 ≤ N) :
    ∃ (J M' : gM) (σ' : St), (∀ K : gM → gO, hV (fX6_passSlots N [.ref 0, .ref 7, .int (nI n)] (gS (rg 194 7 ++ rg 41 20) I)) (rg 194 7 ++ rg 41 20) I K = K J) ∧ (∀ K : gM → gO, hV (fX9_slots N [.ref 0, .int (nI n)] (gS (rg 0 18) M)) (rg 0 18) M K = K M') ∧ AHc J a σ' ∧ AHm M' a σ' ∧ Wa 0 σ' ∧ keepN σ.1 σ'.1 ∧ σ'.1 7 = σ.1 7 + n := by
  obtain ⟨J, M', σ', s1, s2, s3, s4, s5, s6, s7, s8, s9⟩ := l_slots (N := N) (b := 41) hc.2 hm.2.2.1 hw hn (by decide) (by omega)
  exact ⟨J, M', σ', s1, s2, AHc.of hc.1 s3 (fun k hk => s9 k (by omega) (by omega)), ⟨hm.1.frm s8, by rw [s8.2 4 (by decide) (by decide) (by decide)]; exact hm.2.1, s4, by rw [s8.1 0 (by decide) (by decide) (by decide)]; exact hm.2.2.2⟩, s5, s6, s7⟩
theorem ah_slot {N n : Nat} {a : AB} {σ : St} {I M : gM} (hc : AHc I a σ) (hm : AHm M a σ) (hw : Wa (n + 1) σ) (hN : 20000 ≤ N) :
    ∃ (J M' : gM) (σ' : St), (∀ K : gM → gO, hV (fX6_passSlot N [.ref 0, .ref 7] (gS (rg 194 7 ++ rg 41 20) I)) (rg 194 7 ++ rg 41 20) I K = K J) ∧ (∀ K : gM → gO, hV (fX9_slot N [.ref 0] (gS (rg 0 18) M)) (rg 0 18) M K = K M') ∧ AHc J a σ' ∧ AHm M' a σ' ∧ Wa n σ' ∧ keepN σ.1 σ'.1 ∧ σ'.1 7 = σ.1 7 + 1 := by
  obtain ⟨J, M', σ', s1, s2, s3, s4, s5, s6, s7, s8, s9⟩ := l_slot (N := N) (b := 41) hc.2 hm.2.2.1 hw (by decide) (by omega)
  exact ⟨J, M', σ', s1, s2, AHc.of hc.1 s3 (fun k hk => s9 k (by omega) (by omega)), ⟨hm.1.frm s8, by rw [s8.2 4 (by decide) (by decide) (by decide)]; exact hm.2.1, s4, by rw [s8.1 0 (by decide) (by decide) (by decide)]; exact hm.2.2.2⟩, s5, s6, s7⟩
theorem INw.wa {a : AB} {n : Nat} (h : INw a) (hn : n ≤ 101) : Wa n a.1 := ⟨h.1.1, by have := h.1.2; omega⟩
theorem AHc.pk {I : gM} {a : AB} {σ : St} (h : AHc I a σ) : I 51 11 = nI σ.2.length := by
  have := h.2.2.2.toq.P.1
  rw [gS10 (by decide), gS_b (by decide) (by decide)] at this; exact this
theorem rg32 : rg 3 2 = [3, 4] := rfl
theorem j_forecast {N : Nat} {v u : Int32} {I J : gM} {a : AB} (h : IN I J a) (hN : 20000 ≤ N) : AGJ [eIA] (fX8_forecast N [.ref 0, .int v, .int u] I) (fX9_forecast N [.ref 0, .int v, .int u] J) := by
  obtain ⟨hc, hm, hw⟩ := h
  have hm' := hm.thr (x := 0)
  have l1 : (1 : Int32) = nI 1 := rfl
  have l50 : (50 : Int32) = nI 50 := rfl
  have l0 : (0 : Int32) = nI 0 := rfl
  have l5 : (5 : Int32) = nI 5 := rfl
  have d0 : (0 : Int64) = (nI 0).toInt64 := by decide
  have d5 : (5 : Int64) = (nI 5).toInt64 := by decide
  have z1 : (fX8_checkRange N [.int v, .int 1, .int 50]) = fX8_checkRange N [.int v, .int (nI 1), .int (nI 50)] := rfl
  have z2 : (fX8_checkRange N [.int u, .int 0, .int 5]) = fX8_checkRange N [.int u, .int (nI 0), .int (nI 5)] := rfl
  have fail : AGJ [eIA] (some (.inr "java/lang/IllegalArgumentException", I)) (hX9_forecast_29 N v u (gU J 0 0 0)) := by
    rw [eX9_forecast_29, eX9_forecast_30, m_f0, i_e1]
    exact AGJ.ex 0 rfl rfl rfl gU_us ⟨hc, hm'.thr, hw⟩
  rw [eX8_forecast, eX8_forecast_0, z1, x_range, z2, x_range, eX9_forecast, eX9_forecast_0, m_areS]
  cases hv : rgb v (nI 1) (nI 50) with
  | false =>
    rw [i_f, show gz_eq (b2 false) = gz_eq 0 from rfl, i_e0]
    exact fail
  | true =>
    obtain ⟨n, n0, n1, n2⟩ := rgb_t (by decide) (by decide) hv
    subst n2
    rw [i_t, show gz_eq (b2 true) = gz_eq 1 from rfl, i_e1, d0, d5, m_in]
    cases hu : rgb u (nI 0) (nI 5) with
    | false =>
      rw [i_f, show gz_eq (b2 false) = gz_eq 0 from rfl, i_e0]
      exact fail
    | true =>
      obtain ⟨w, -, w1, w2⟩ := rgb_t (by decide) (by decide) hu
      subst w2
      obtain ⟨C, c0, c1⟩ := ah_c (N := N) (K := fun I3 => hX8_forecast_24 N (nI n) (nI w) I3) hc hw hN
      obtain ⟨D, e0, e1⟩ := ah_m (N := N) (K := fun I4 => hV (fX9_slots N [.ref 0, .int (nI n)] (gS (rg 0 18) I4)) (rg 0 18) I4 fun I5 => hX9_forecast_57 N (nI w) I5) hm' gU_us hw hN
      obtain ⟨C2, D2, σ', s1, s2, s3, s4, s5, -, -⟩ := ah_slots (N := N) (n := n) c1 e1 (hw.wa (by omega)) (by omega) hN
      have t8 := pX8_totalOf (N := N) (w := w) (I := gS (rg 41 20) C2) s3.2 s5.1 w1 (by omega)
      have t9 := pX9_totalOf (N := N) (w := w) (σ := σ') (I := gS (rg 0 18) D2) (by rw [gSm18 (by decide)]; exact s4.2.2.1) s5.1 w1 (by omega)
      obtain ⟨D3, f0, ⟨-, -, -, hD3⟩, f2⟩ := ah_back (N := N) (K := fun I7 => some (.inl (some (.long (lI (totO σ' w)))), I7)) s4 hw hN
      rw [i_t, show gz_eq (b2 true) = gz_eq 1 from rfl, i_e1, eX9_forecast_30, m_f1, i_e0, c0, e0, s2, eX8_forecast_24, s1, t8, hJ_mk, gMg_same _ (by decide), eX9_forecast_57, t9, hJ_mk, gMm18, f0]
      exact AGJ.ok rfl rfl hD3 ⟨s3.1, f2, hw⟩
