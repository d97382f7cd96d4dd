/-! ===== truncate, set, count, run ===== -/
theorem j_truncate {N : Nat} {v : Int32} {I J : gM} {a : AB} (h : IN I J a) : AG [eIA] (fX8_truncate N [.ref 0, .int v] I) (fX9_truncate N [.ref 0, .int v] J) := by
  obtain ⟨hc, hm, hw⟩ := h
  have hm' := hm.thr (x := nI 0)
  have l0 : (0 : Int32) = nI 0 := rfl
  have d0 : (0 : Int64) = (nI 0).toInt64 := by decide
  obtain ⟨σ, past, sv, buf⟩ := a
  have e1 : I 183 2 = nI buf.length := hc.2.2.2.1
  have e2 : J 0 2 = nI buf.length := hm.2.2.2.1
  have hb : buf.length ≤ 700 := hw.2.2.2.1
  rw [eX8_truncate, eX8_truncate_0, e1, l0, x_range, eX9_truncate, eX9_truncate_0, e2, d0, l0, m_in]
  cases hv : rgb v (nI 0) (nI buf.length) with
  | false =>
    rw [m_ff, i_f, i_e1]
    exact AG.ex 0 rfl rfl rfl gU_us ⟨hc, hm'.thr, hw⟩
  | true =>
    obtain ⟨k, -, k1, k2⟩ := rgb_t (by omega) (Nat.zero_le _) hv
    subst k2
    rw [m_ft, i_t, i_e0]
    have hl : (buf.take k).length = k := by rw [List.length_take]; omega
    have hj : ∀ j, k ≤ j → (buf.take k)[j]? = none := fun j hj => List.getElem?_eq_none (by omega)
    refine AG.ok rfl rfl (by rw [gU_un (Or.inr (by decide)), gU_us]) (a := (σ, past, sv, buf.take k)) ⟨⟨hc.1.congr (fun q hq => ?_), hc.2.1.congr (fun q hq => ?_), ⟨?_, fun ρ hρ => (hc.2.2.1.2 ρ hρ).congr (fun q hq => ?_)⟩, ⟨?_, fun j x hx => ?_⟩⟩, ⟨?_, ⟨?_, fun i ρ hρ => ?_⟩, ⟨?_, fun ρ hρ => ?_⟩, ⟨?_, fun j x hx => ?_⟩⟩, hw.1, hw.2.1, hw.2.2.1, by show (buf.take k).length ≤ 700; omega, hw.2.2.2.2.1, fun x hx => hw.2.2.2.2.2 x (List.mem_of_mem_take hx)⟩
    · rw [gS_b hq (by decide), gS_b hq (by decide), gU_ok (by omega)]
    · rw [gS_b hq (by decide), gS_b hq (by decide), gU_ok (by omega)]
    · rw [gU_ok (by decide)]; exact hc.2.2.1.1
    · rw [gS_b hq (by decide), gS_b hq (by decide), gU_ok (by omega)]
    · show gU I 183 2 (nI k) 183 2 = nI (buf.take k).length
      rw [gU_us, hl]
    · have hx' : (buf.take k)[j]? = some x := hx
      have hjk : j < k := by
        rcases Nat.lt_or_ge j k with z | z
        · exact z
        · rw [hj j z] at hx'; cases hx'
      rw [List.getElem?_take_of_lt hjk] at hx'
      rw [gU_ok (by decide)]; exact hc.2.2.2.2 j x hx'
    · rw [gU_ok (by decide), gU_ok (by decide)]; exact hm.1
    · rw [gU_un (Or.inr (by decide)), gU_un (Or.inr (by decide))]; exact hm.2.1.1
    · rw [gU_ok (by decide), gU_ok (by decide)]; exact hm.2.1.2 i ρ hρ
    · rw [gU_un (Or.inr (by decide)), gU_un (Or.inr (by decide))]; exact hm.2.2.1.1
    · rw [gU_ok (by decide), gU_ok (by decide)]; exact hm.2.2.1.2 ρ hρ
    · show gU (gU J 0 0 (nI 0)) 0 2 (nI k) 0 2 = nI (buf.take k).length
      rw [gU_us, hl]
    · have hx' : (buf.take k)[j]? = some x := hx
      have hjk : j < k := by
        rcases Nat.lt_or_ge j k with z | z
        · exact z
        · rw [hj j z] at hx'; cases hx'
      rw [List.getElem?_take_of_lt hjk] at hx'
      rw [gU_ok (by decide), gU_ok (by decide)]; exact hm.2.2.2.2 j x hx'
theorem hT_at {k n : Nat} {d : gO} {bs : List gO} (hn : bs.length = n + 1) (hn2 : n < 100) (hk : k < 2 ^ 31) : hT (nI k) 0 (n : Int) d bs = if h : k ≤ n then bs[k]'(by omega) else d := by
  have hi : (nI k).toInt = (k : Int) := by
    show (BitVec.ofNat 32 k).toInt = _
    rw [BitVec.toInt_eq_toNat_cond, BitVec.toNat_ofNat]
    split <;> omega
  unfold hT
  rw [hi]
  by_cases h : k ≤ n
  · rw [dif_pos h, if_neg (by omega)]
    have e : ((k : Int) - 0).toNat = k := by omega
    rw [e, List.getElem?_eq_getElem (by omega)]
  · rw [dif_neg h, if_pos (by omega)]
theorem j_count {N : Nat} {v : Int32} {I J : gM} {a : AB} (h : IN I J a) : AG [eIA] (fX8_count N [.ref 0, .int v] I) (fX9_count_ N [.ref 0, .int v] J) := by
  obtain ⟨hc, hm, hw⟩ := h
  have hm' := hm.thr (x := nI 0)
  have l0 : (0 : Int32) = nI 0 := rfl
  have l3 : (3 : Int32) = nI 3 := rfl
  have l6 : (6 : Int32) = nI 6 := rfl
  have d0 : (0 : Int64) = (nI 0).toInt64 := by decide
  have d6 : (6 : Int64) = (nI 6).toInt64 := by decide
  rw [eX8_count, eX8_count_0, l0, l6, x_range, eX9_count_, eX9_count__0, d0, d6, l0, m_in]
  cases hv : rgb v (nI 0) (nI 6) with
  | false =>
    rw [m_ff, i_f, i_e1]
    exact AG.ex 0 rfl rfl rfl gU_us ⟨hc, hm'.thr, hw⟩
  | true =>
    obtain ⟨k, -, k1, k2⟩ := rgb_t (by omega) (Nat.zero_le _) hv
    subst k2
    have e0 := hm'.1.1 k (by omega)
    obtain ⟨n0, n1, n2⟩ := hc.nums
    have ht := hT_at (k := k) (n := 2) (d := (ck 4 (gb_sub (nI k) 3) <| some (.inl (some (.int (I 8 ((gb_sub (nI k) 3)).toNatClampNeg))), I))) (bs := [some (.inl (some (.int (I 2 0))), I), some (.inl (some (.int (I 2 1))), I), some (.inl (some (.int (I 2 2))), I)]) rfl (by decide) (by omega)
    rw [m_ft, i_t, i_e0, ckI (by omega) (by decide), nI_clamp (by omega), e0]
    have goal : hT (nI k) 0 2 (ck 4 (gb_sub (nI k) 3) <| some (.inl (some (.int (I 8 ((gb_sub (nI k) 3)).toNatClampNeg))), I)) [some (.inl (some (.int (I 2 0))), I), some (.inl (some (.int (I 2 1))), I), some (.inl (some (.int (I 2 2))), I)] = some (.inl (some (.int (nI (a.1.1 k)))), I) := by
      refine ht.trans ?_
      match k, k1 with
      | 0, _ => rw [dif_pos (by decide), ← n0]; rfl
      | 1, _ => rw [dif_pos (by decide), ← n1]; rfl
      | 2, _ => rw [dif_pos (by decide), ← n2]; rfl
      | k + 3, hk =>
        have es : gb_sub (nI (k + 3)) 3 = nI k := by
          rw [l3]
          show nI _ - nI 3 = _
          rw [pk_sub (by omega), Nat.add_sub_cancel]
        rw [dif_neg (by omega), es, ckI (by omega) (by decide), nI_clamp (by omega), hc.st (by omega), Nat.add_comm 3 k]
    exact AG.ok goal rfl gU_us ⟨hc, hm', hw⟩
theorem gGS_at {k : Nat} (hk : k < 4) : gGS.getD k (nI 0) = nI (msz k) := by
  match k, hk with
  | 0, _ => rfl
  | 1, _ => rfl
  | 2, _ => rfl
  | 3, _ => rfl
  | k + 4, h => omega
theorem s_most {N k : Nat} {I : gM} {K : Int32 → gM → gO} (hk : k < 4) : hI (fX9_mostOf N [.int (nI k)] (gS [] I)) [] I K = K (nI (msz k)) I := by
  have l1 : (1 : Int32) = nI 1 := rfl
  have l2 : (2 : Int32) = nI 2 := rfl
  rw [eX9_mostOf, eX9_mostOf_0, l1, l2]
  match k, hk with
  | 0, _ => rw [if_pos (by decide), if_pos (by decide), hI_mk, gS_nil]; rfl
  | 1, _ => rw [if_neg (by decide), hI_mk, gS_nil]; rfl
  | 2, _ => rw [if_pos (by decide), if_neg (by decide), hI_mk, gS_nil]; rfl
  | 3, _ => rw [if_pos (by decide), if_pos (by decide), hI_mk, gS_nil]; rfl
  | k + 4, h => omega
theorem msz_le (k : Nat) : msz k ≤ 50 := by
  unfold msz
  split <;> omega
theorem j_set {N : Nat} {v u : Int32} {I J : gM} {a : AB} (h : IN I J a) (hN : 20000 ≤ N) : AG [eIA] (fX8_set N [.ref 0, .int v, .int u] I) (fX9_set N [.ref 0, .int v, .int u] J) := by
  obtain ⟨hc, hm, hw⟩ := h
  have hm' := hm.thr (x := nI 0)
  have l0 : (0 : Int32) = nI 0 := rfl
  have l3 : (3 : Int32) = nI 3 := rfl
  have d0 : (0 : Int64) = (nI 0).toInt64 := by decide
  have d3 : (3 : Int64) = (nI 3).toInt64 := by decide
  rw [eX8_set, eX8_set_0, l0, l3, x_range, eX9_set, eX9_set_0, d0, d3, l0, m_in]
  cases hv : rgb v (nI 0) (nI 3) with
  | false =>
    rw [i_f, show gz_eq (b2 false) = gz_eq 0 from rfl, i_e0, eX9_set_36, eX9_set_37, m_f0, i_e1]
    exact AG.ex 0 rfl rfl rfl gU_us ⟨hc, hm'.thr, hw⟩
  | true =>
    obtain ⟨k, -, k1, k2⟩ := rgb_t (by omega) (Nat.zero_le _) hv
    subst k2
    have hms := msz_le k
    rw [i_t, show gz_eq (b2 true) = gz_eq 1 from rfl, i_e1, s_most (by omega), m_in, eX9_set_29]
    have hcond : ¬ (nI k < nI 0 ∨ 4 ≤ (nI k).toNatClampNeg) := fun z => by
      rw [nI_clamp (by omega)] at z
      rcases z with z | z
      · exact nI_pos (by omega) z
      · omega
    have hg : gRng 1200 1201 1200 := by unfold gRng; decide
    rw [if_pos ⟨hg, hcond⟩, nI_clamp (n := k) (by omega), gGS_at (by omega), x_range]
    cases hu : rgb u (nI 0) (nI (msz k)) with
    | false =>
      rw [i_f, show gz_eq (b2 false) = gz_eq 0 from rfl, i_e0, eX9_set_36, eX9_set_37, m_f0, i_e1]
      exact AG.ex 0 rfl rfl rfl gU_us ⟨hc, hm'.thr, hw⟩
    | true =>
      obtain ⟨x, -, u1, u2⟩ := rgb_t (by omega) (Nat.zero_le _) hu
      subst u2
      have ep : gb_add (nI 3) (nI k) = nI (3 + k) := nI_add _ _
      obtain ⟨I1, i0, i1, i2⟩ := c_rem (N := N) (K := fun I3 => hX8_set_27 N (nI k) (nI x) I3) hc hw (by omega)
      obtain ⟨J1, j0, j1, j2, j3⟩ := m_become (N := N) (p := 3 + k) (x := x) (K := fun x5 I5 => some (.inl (some (.int x5)), I5)) hm' hw (by omega) hN
      have h1 : STc (gS (rg 1 20) I1) a.1 := hc.1.congr (fun q hq => by rw [gS_b hq (by decide), gS_b hq (by decide), i2 _ (by omega)])
      have e8 : I1 8 k = nI (a.1.1 (3 + k)) := by rw [i2 8 (by omega)]; exact hc.st (by omega)
      rw [i_t, show gz_eq (b2 true) = gz_eq 1 from rfl, i_e1, eX9_set_37, m_f1, i_e0, l3, ep, j0, i0, eX8_set_27, ckI (by omega) (by decide), ckI (by omega) (by decide), nI_clamp (by omega), e8]
      exact AG.ok rfl rfl (by rw [gU_ok (by decide), j2 0 (by decide)]; exact gU_us) (IN.step (σ' := (up1 a.1.1 (3 + k) x, a.1.2)) hc hm' hw i1 i2 j1 j2 j3 ((STc.set h1 (show k < 4 by omega)).congr (fun q hq => gSU (p := 7) q hq)) (fun q hq => gU_ok (by omega)) (by rw [gU_u3, j3 3 (by decide) (by decide)]; exact hm'.1.put (by omega)) (fun j hj => by rw [gU_ok (by decide)]) (fun q hq => gU_ok (by omega)) (hw.1.set (by omega) u1))
