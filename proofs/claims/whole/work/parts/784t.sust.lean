/-! ===== sustainable on both sides ===== -/
theorem AHc.num {I : gM} {a : AB} {σ : St} {f w x : Nat} (h : AHc I a σ) (h14 : σ.1 1 ≤ 14) (h6 : σ.1 2 ≤ 6) (hf : f < σ.1 2) (hw : w < 11) (hw1 : w ≠ 1) : AHc (gU I 49 (f * 11 + w) (nI x)) a (up1 σ.1 (65 + 11 * f + w) x, σ.2) := AHc.of h.1 ((STc.num (I := gS (rg 41 20) I) (r := σ.1) (ps := σ.2) (x := x) h.2 h14 h6 hf hw hw1).congr (fun q hq => gSUb (b := 41) (p := 8) q hq)) (fun q hq => gU_ok (by omega))
theorem AHm.putp {M : gM} {a : AB} {σ : St} {p x : Nat} (h : AHm M a σ) (hp : p < 245) : AHm (gU M 3 p (nI x)) a (up1 σ.1 p x, σ.2) := ⟨h.1.congr (fun j _ => by rw [gU_ok (by decide)]) (fun q hq => gU_ok (by omega)), by rw [gU_ok (by decide)]; exact h.2.1, by rw [gU_u3]; exact h.2.2.1.put (by omega), by rw [gU_ok (by decide)]; exact h.2.2.2⟩
theorem AHm.s18 {M : gM} {a : AB} {σ : St} (h : AHm M a σ) : AHm (gS (rg 0 18) M) a σ := ⟨h.1.congr (fun j _ => by rw [gSm18 (by decide)]) (fun k hk => by rw [gSm18 (by omega)]), by rw [gSm18 (by decide)]; exact h.2.1, by rw [gSm18 (by decide)]; exact h.2.2.1, by rw [gSm18 (by decide)]; exact h.2.2.2⟩
theorem AHm.g18 {M J : gM} {a : AB} {σ : St} (h : AHm M a σ) : AHm (gMg (rg 0 18) J M) a σ := ⟨h.1.congr (fun j _ => by rw [gM18 (by decide)]) (fun k hk => by rw [gM18 (by omega)]), by rw [gM18 (by decide)]; exact h.2.1, by rw [gM18 (by decide)]; exact h.2.2.1, by rw [gM18 (by decide)]; exact h.2.2.2⟩
theorem gM204 {I J : gM} {k : Nat} (hk : k < 204) : gMg (rg 0 204) I J k = J k := by
  have := gMg_rgi (b := 0) (I := I) (J := J) hk
  rwa [Nat.zero_add] at this
theorem nI_s (i : Nat) : nI i + 1 = nI (i + 1) := nI_add i 1
theorem small_loop {N n : Nat} {a : AB} (hn : n ≤ 50) (hN : 20000 ≤ N) : ∀ m i : Nat, i ≤ n → n - i < m → ∀ m2 : Nat, n - i < m2 → ∀ (σ : St) (K L : gM), AHc K a σ → AHm L a σ → Wa (n - i) σ → ∃ (K' L' : gM) (σ' : St) (b : Bool), hX8_staysSmall_27 N m (nI n) (nI i) K = some (.inl (some (.int (b2 b))), K') ∧ hX9_holds_21 N m2 (nI n) 1 (nI i) L = some (.inl (some (.int (b2 b))), L') ∧ AHc K' a σ' ∧ AHm L' a σ' := by
  have l100 : (100 : Int32) = nI 100 := rfl
  have l245 : (245 : Int32) = nI 245 := rfl
  have cc : ∀ X : gO, ck 2746 245 X = X := fun X => by rw [l245, ckI (by decide) (by decide)]
  have n245 : (245 : Int32).toNatClampNeg = 245 := by decide
  intro m
  induction m with
  | zero => intro i _ h; omega
  | succ m ih =>
    intro i hi hm1 m2 hm2 σ K L hK hL hwa
    cases m2 with
    | zero => omega
    | succ m2 =>
      by_cases hin : i = n
      · refine ⟨K, L, σ, true, ?_, ?_, hK, hL⟩
        · rw [eX8_staysSmall_27, hin, if_pos ((cge (by omega) (by omega)).mpr (Nat.le_refl _))]; rfl
        · rw [eX9_holds_21, hin, if_pos ((cge (by omega) (by omega)).mpr (Nat.le_refl _)), if_pos (Or.inr rfl)]; rfl
      · have e : n - i = (n - (i + 1)) + 1 := by omega
        rw [e] at hwa
        obtain ⟨K2, L2, σ', s1, s2, s3, s4, s5, s6, s7⟩ := ah_slot (N := N) hK hL hwa hN
        have hl : L2 3 245 = nI σ'.2.length := s4.2.2.1.2.1
        have hlen : σ'.2.length < 2 ^ 31 := by
          have := s3.2.2.2.toq.P.2
          omega
        have c1 : hX8_staysSmall_27 N (m + 1) (nI n) (nI i) K = if gc_le (nI σ'.2.length) 100 = true then hX8_staysSmall_27 N m (nI n) (nI (i + 1)) K2 else some (.inl (some (.int 0)), K2) := by
          rw [eX8_staysSmall_27, if_neg (fun z => hin (by have := (cge (by omega) (by omega)).mp z; omega)), s1, s3.pk, nI_s]
        have c2 : hX9_holds_21 N (m2 + 1) (nI n) 1 (nI i) L = if gc_gt (nI σ'.2.length) 100 = true then hX9_holds_21 N m2 (nI n) 0 (nI (i + 1)) L2 else hX9_holds_21 N m2 (nI n) 1 (nI (i + 1)) L2 := by
          rw [eX9_holds_21, if_neg (fun z => hin (by have := (cge (by omega) (by omega)).mp z; omega)), i_e1, s2, cc, n245, hl, eX9_holds_54, eX9_holds_54, nI_s]
        rw [c1, c2, l100]
        by_cases hlt : σ'.2.length ≤ 100
        · rw [if_pos ((cle hlen (by decide)).mpr hlt), if_neg (fun z => by have := (cgt hlen (by decide)).mp z; omega)]
          exact ih (i + 1) (by omega) (by omega) m2 (by omega) σ' K2 L2 s3 s4 s5
        · rw [if_neg (fun z => hlt ((cle hlen (by decide)).mp z)), if_pos ((cgt hlen (by decide)).mpr (by omega))]
          cases m2 with
          | zero => omega
          | succ m2 =>
            refine ⟨K2, L2, σ', false, rfl, ?_, s3, s4⟩
            rw [eX9_holds_21]
            by_cases hz : gc_ge (nI (i + 1)) (nI n) = true
            · rw [if_pos hz, if_pos (Or.inl rfl)]; rfl
            · rw [if_neg hz, i_e0, if_pos (Or.inl rfl)]; rfl
theorem p_small {N n f x : Nat} {a : AB} {I M : gM} (hc : INc I a) (hm : AHm M a a.1) (hw : INw a) (hf : f < a.1.1 2) (hx : x ≤ 300) (hn : n ≤ 50) (hN : 20000 ≤ N) :
    ∃ (I3 M3 M5 : gM) (b : Bool), (∀ C : Int32 → gM → gO, hI (fX8_staysSmall N [.ref 0, .int (nI f), .int (nI x), .int (nI n)] (gS (rg 0 204) I)) (rg 0 204) I C = C (b2 b) I3) ∧ (∀ C : Int32 → gM → gO, hI (fX9_holds N [.ref 0, .int (nI f), .int (nI x), .int (nI n)] (gS (rg 0 18) M)) (rg 0 18) M C = C (b2 b) M3) ∧ (∀ C : gM → gO, hV (fX9_copy N 2746 2746 [.ref 0, .int 0, .ref 1, .int 0] (gS [4, 3] M3)) [4, 3] M3 C = C M5) ∧ INc I3 a ∧ AHm M5 a a.1 ∧ INm M5 a := by
  have l0 : (0 : Int32) = nI 0 := rfl
  have l2 : (2 : Int32) = nI 2 := rfl
  have l11 : (11 : Int32) = nI 11 := rfl
  have l65 : (65 : Int32) = nI 65 := rfl
  obtain ⟨w0, w1, w2⟩ := hw.lt
  have h' : INc (gS (rg 0 204) I) a := hc.congr (by rw [gS204 (by decide)]) (fun k _ hk => by rw [gS204 (by omega)]) (by rw [gS204 (by decide)])
  obtain ⟨C, c0, c1, c2⟩ := l_copyA (N := N) (d := 41) (s := 1) h'.1 hw.1.1.1 (Or.inr (by decide)) (by omega)
  have hC : AHc C a a.1 := AHc.of h' c1 (fun k hk => c2 k (by omega))
  have hC2 := hC.num (x := x) (w := 2) w1 w2 hf (by decide) (by decide)
  have hM2 := hm.s18.putp (p := 65 + 11 * f + 2) (x := x) (by omega)
  have hwa : Wa (n - 0) (up1 a.1.1 (65 + 11 * f + 2) x, a.1.2) := (hw.1.rate (by omega) hx).wa (by omega)
  obtain ⟨K', L', σ', b, t1, t2, t3, t4⟩ := small_loop (N := N) (n := n) hn hN N 0 (Nat.zero_le _) (by omega) N (by omega) _ _ _ hC2 hM2 hwa
  obtain ⟨M5, b0, b1, b2'⟩ := ah_backA (N := N) (J := gMg (rg 0 18) M L') t4.g18 hw hN
  have ep : gb_add (gb_add (nI 65) (gb_mul (nI 11) (nI f))) (nI 2) = nI (65 + 11 * f + 2) := by
    simp only [gb_add, gb_mul, pk_mul, nI_add]
  have eU : gMg (rg 42 9) C (gU (gS (rg 42 9) C) 7 (f * 11 + 2) (nI x)) = gU C 49 (f * 11 + 2) (nI x) := by
    rw [gMg_U (by decide), gMg_same _ (by decide)]
  refine ⟨gMg (rg 0 204) I K', gMg (rg 0 18) M L', M5, b, fun K => ?_, fun K => ?_, b0, t3.1.congr (by rw [gM204 (by decide)]) (fun k _ hk => by rw [gM204 (by omega)]) (by rw [gM204 (by decide)]), b1, b2'⟩
  · rw [eX8_staysSmall, eX8_staysSmall_0, c0, l2, pX2_putNumber N _ _ (by omega), hV_mk, eU, l0, t1, hI_mk]
  · rw [eX9_holds, eX9_holds_0, l2, l11, l65, ep, ckI (by omega) (by decide), nI_clamp (by omega), l0, t2, hI_mk]
theorem j_sustainable {N : Nat} {t v : Int32} {I J : gM} {a : AB} (h : IN I J a) (hN : 20000 ≤ N) : AG [eIO, eIA] (fX8_sustainable N [.ref 0, .int t, .int v] I) (fX9_sustainable N [.ref 0, .int t, .int v] J) := by
  obtain ⟨hc, hm, hw⟩ := h
  have hm' := hm.thr (x := 0)
  have l300 : (300 : Int32) = nI 300 := rfl
  have d1 : (1 : Int64) = (nI 1).toInt64 := by decide
  have d20 : (20 : Int64) = (nI 20).toInt64 := by decide
  have z1 : (fX8_checkRange N [.int v, .int 1, .int 20]) = fX8_checkRange N [.int v, .int (nI 1), .int (nI 20)] := rfl
  obtain ⟨w0, w1, w2⟩ := hw.lt
  rw [eX8_sustainable, eX8_sustainable_0, x_flow hc hw, z1, x_range, eX9_sustainable, eX9_sustainable_0, m_flow hm'.1]
  cases hf : ndb t (a.1.1 2) with
  | false =>
    rw [m_ff, i_f, i_n1]
    exact AG.ex 0 rfl rfl rfl gU_us ⟨hc, hm'.thr, hw⟩
  | true =>
    obtain ⟨f, f1, f2⟩ := ndb_t (by omega) hf
    subst f2
    rw [m_ft, i_t, i_n0, d1, d20, m_in, eX9_sustainable_28]
    cases hv : rgb v (nI 1) (nI 20) with
    | false =>
      rw [m_ff, i_f, i_e1]
      exact AG.ex 1 rfl rfl rfl gU_us ⟨hc, hm'.thr, hw⟩
    | true =>
      obtain ⟨n, n0, n1, n2⟩ := rgb_t (by decide) (by decide) hv
      subst n2
      obtain ⟨D, e0, e1⟩ := ah_m (N := N) (K := fun I5 => hX9_sustainable_55 N N (nI f) (nI n) (-1) 1 I5) hm' gU_us hw hN
      rw [m_ft, i_t, i_e0, e0]
      have key : ∀ m i : Nat, i ≤ 301 → 302 - i < m → ∀ m2 : Nat, 302 - i < m2 → ∀ (K L : gM) (B : Int32), gb_add B 1 = nI i → (gc_ge B 300 = true ↔ 300 < i) → INc K a → AHm L a a.1 → (0 < i → INm L a) → AG [eIO, eIA] (hX8_sustainable_17 N m (nI f) (nI n) B (nI i) K) (hX9_sustainable_55 N m2 (nI f) (nI n) B 1 L) := by
        intro m
        induction m with
        | zero => intro i _ h; omega
        | succ m ih =>
          intro i hi hm1 m2 hm2 K L B hB hg hK hL hLi
          cases m2 with
          | zero => omega
          | succ m2 =>
            have hcg : gc_gt (nI i) 300 = true ↔ 300 < i := by rw [l300, cgt (a := i) (b := 300) (by omega) (by decide)]
            rw [eX8_sustainable_17, eX9_sustainable_55, i_e1]
            by_cases hin : 300 < i
            · rw [if_pos (hcg.mpr hin), if_pos (hg.mpr hin)]
              exact AG.ok rfl rfl hL.2.2.2 ⟨hK, hLi (by omega), hw⟩
            · obtain ⟨K3, M3, M5, b, t1, t2, t3, t4, t5, t6⟩ := p_small (N := N) (n := n) (f := f) (x := i) hK hL hw f1 (by omega) (by omega) hN
              rw [if_neg (fun z => hin (hcg.mp z)), if_neg (fun z => hin (hg.mp z)), hB, t1, t2]
              cases b with
              | true =>
                rw [show gz_ne (b2 true) = gz_ne 1 from rfl, i_n1, show gz_eq (b2 true) = gz_eq 1 from rfl, i_e1, eX9_sustainable_89, t3, hB, nI_s]
                exact ih (i + 1) (by omega) (by omega) m2 (by omega) K3 M5 (nI i) (nI_s i) (by rw [l300, cge (a := i) (b := 300) (by omega) (by decide)]; omega) t4 t5 (fun _ => t6)
              | false =>
                rw [show gz_ne (b2 false) = gz_ne 0 from rfl, i_n0, show gz_eq (b2 false) = gz_eq 0 from rfl, i_e0, eX9_sustainable_89, t3]
                cases m2 with
                | zero => omega
                | succ m2 =>
                  rw [eX9_sustainable_55, show gz_eq (b2 false) = gz_eq 0 from rfl, i_e0, show gb_add B 0 = B from Int32.add_zero B]
                  exact AG.ok rfl rfl t5.2.2.2 ⟨t4, t6, hw⟩
      exact key N 0 (by decide) (by omega) N (by omega) I D (-1) (by decide) (by decide) hc e1 (fun z => absurd z (by decide))
