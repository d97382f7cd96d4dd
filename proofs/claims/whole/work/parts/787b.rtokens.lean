/-! ===== the reference reads a token ===== -/
def pkv (l : List Nat) (p : Nat) : Int32 := match l[p]? with
  | none => mI
  | some c => nI c
theorem pX9_peek {N p : Nat} {l : List Nat} {I : gM} (hT : TXT l) (hB : BFx I l) (hp : p ≤ l.length) : fX9_peek N [.ref 0, .int (nI p)] I = some (.inl (some (.int (pkv l p))), I) := by
  have hT1 := hT.1
  rw [eX9_peek, eX9_peek_0, hB.1]
  by_cases hin : p = l.length
  · have hn : l[p]? = none := List.getElem?_eq_none (by omega)
    have e : pkv l p = mI := by unfold pkv; rw [hn]
    rw [if_pos ((cge (by omega) (by omega)).mpr (by omega)), e]
    rfl
  · obtain ⟨c, hc⟩ := get_s (l := l) (i := p) (by omega)
    obtain ⟨p7, c2⟩ := hT.at hc
    have e : pkv l p = nI c := by unfold pkv; rw [hc]
    rw [if_neg (fun z => by have := (cge (a := p) (b := l.length) (by omega) (by omega)).mp z; omega), ckI p7 (by decide), nI_clamp (by omega), hB.2 p c hc, e]
theorem m_peek {N p : Nat} {l : List Nat} {I : gM} {K : Int32 → gM → gO} (hT : TXT l) (hB : BFx I l) (hp : p ≤ l.length) : hI (fX9_peek N [.ref 0, .int (nI p)] (gS (rg 0 18) I)) (rg 0 18) I K = K (pkv l p) I := by
  rw [pX9_peek hT (hB.pos (by rw [gSm18 (by decide)]) (gSm18 (by decide))) hp, hI_mk, gMm18]
theorem pX9_isLetter {N c : Nat} {I : gM} (hc : c < 256) : fX9_isLetter N [.int (nI c)] I = some (.inl (some (.int (b2 (tzL c)))), I) := by
  have l97 : (97 : Int32) = nI 97 := rfl
  have l122 : (122 : Int32) = nI 122 := rfl
  rw [eX9_isLetter, eX9_isLetter_0, l97, l122]
  by_cases h1 : c < 97
  · have e : tzL c = false := Bool.eq_false_iff.mpr (fun z => by have := tzL_t.mp z; omega)
    rw [if_pos ((clt (by omega) (by decide)).mpr h1), e]; rfl
  · rw [if_neg (fun z => h1 ((clt (by omega) (by decide)).mp z))]
    by_cases h2 : 122 < c
    · have e : tzL c = false := Bool.eq_false_iff.mpr (fun z => by have := tzL_t.mp z; omega)
      rw [if_pos ((cgt (by omega) (by decide)).mpr h2), e]; rfl
    · have e : tzL c = true := tzL_t.mpr ⟨by omega, by omega⟩
      rw [if_neg (fun z => h2 ((cgt (by omega) (by decide)).mp z)), e]; rfl
theorem pX9_isDigit {N c : Nat} {I : gM} (hc : c < 256) : fX9_isDigit N [.int (nI c)] I = some (.inl (some (.int (b2 (tzD c)))), I) := by
  have l48 : (48 : Int32) = nI 48 := rfl
  have l57 : (57 : Int32) = nI 57 := rfl
  rw [eX9_isDigit, eX9_isDigit_0, l48, l57]
  by_cases h1 : c < 48
  · have e : tzD c = false := Bool.eq_false_iff.mpr (fun z => by have := tzD_t.mp z; omega)
    rw [if_pos ((clt (by omega) (by decide)).mpr h1), e]; rfl
  · rw [if_neg (fun z => h1 ((clt (by omega) (by decide)).mp z))]
    by_cases h2 : 57 < c
    · have e : tzD c = false := Bool.eq_false_iff.mpr (fun z => by have := tzD_t.mp z; omega)
      rw [if_pos ((cgt (by omega) (by decide)).mpr h2), e]; rfl
    · have e : tzD c = true := tzD_t.mpr ⟨by omega, by omega⟩
      rw [if_neg (fun z => h2 ((cgt (by omega) (by decide)).mp z)), e]; rfl
theorem m_letter {N c : Nat} {I : gM} {K : Int32 → gM → gO} (hc : c < 256) : hI (fX9_isLetter N [.int (nI c)] (gS [] I)) [] I K = K (b2 (tzL c)) I := by
  rw [pX9_isLetter hc, hI_mk, gS_nil]
theorem m_digit {N c : Nat} {I : gM} {K : Int32 → gM → gO} (hc : c < 256) : hI (fX9_isDigit N [.int (nI c)] (gS [] I)) [] I K = K (b2 (tzD c)) I := by
  rw [pX9_isDigit hc, hI_mk, gS_nil]
theorem m_letter0 {N : Nat} {I : gM} {K : Int32 → gM → gO} : hI (fX9_isLetter N [.int mI] (gS [] I)) [] I K = K 0 I := by
  rw [eX9_isLetter, eX9_isLetter_0, if_pos (by decide), hI_mk, gS_nil]
theorem m_digit0 {N : Nat} {I : gM} {K : Int32 → gM → gO} : hI (fX9_isDigit N [.int mI] (gS [] I)) [] I K = K 0 I := by
  rw [eX9_isDigit, eX9_isDigit_0, if_pos (by decide), hI_mk, gS_nil]
theorem rt_skip {N : Nat} {l : List Nat} (hT : TXT l) : ∀ m p : Nat, p ≤ l.length → l.length - p < m → ∀ I : gM, BFx I l → I 0 3 = nI p → ∃ J, hX9_step_0 N m I = (if gz_ge (pkv l (tzS l p)) = true then hI (fX9_isLetter N [.int (pkv l (tzS l p))] (gS [] (gU J 0 4 (nI (tzS l p))))) [] (gU J 0 4 (nI (tzS l p))) (fun x3 I3 => hX9_step_56 N (pkv l (tzS l p)) x3 I3) else hX9_step_75 N 0 (gU J 0 4 (nI (tzS l p)))) ∧ J 0 3 = nI (tzS l p) ∧ (∀ j, j ≠ 3 → J 0 j = I 0 j) ∧ ∀ q, q ≠ 0 → J q = I q := by
  have l32 : (32 : Int32) = nI 32 := rfl
  have hT1 := hT.1
  intro m
  induction m with
  | zero => intro p _ h; omega
  | succ m ih =>
    intro p hp hm I hB h3
    have hB4 : BFx (gU I 0 4 (nI p)) l := hB.pos (gU_un (Or.inr (by decide))) (gU_ok (by decide))
    rw [eX9_step_0, h3, m_peek hT hB hp, l32, h3, m_peek hT hB4 hp]
    by_cases hin : p = l.length
    · have hn : l[p]? = none := List.getElem?_eq_none (by omega)
      have e : pkv l p = mI := by unfold pkv; rw [hn]
      have eS : tzS l p = p := tzR_end (by omega)
      rw [eS, if_pos (c := gc_ne (pkv l p) (nI 32) = true) (by rw [e]; decide)]
      exact ⟨I, rfl, h3, fun _ _ => rfl, fun _ _ => rfl⟩
    · obtain ⟨c, hc⟩ := get_s (l := l) (i := p) (by omega)
      obtain ⟨p7, c2⟩ := hT.at hc
      have e : pkv l p = nI c := by unfold pkv; rw [hc]
      by_cases h : c = 32
      · have ea : gb_add (nI p) 1 = nI (p + 1) := nI_add _ 1
        have eS : tzS l p = tzS l (p + 1) := tzR_go (f := tzB) hc (decide_eq_true h)
        rw [if_neg (c := gc_ne (pkv l p) (nI 32) = true) (by rw [e]; exact fun z => (cne (by omega) (by decide)).mp z h), ea, eS]
        obtain ⟨J, j0, j1, j2, j3⟩ := ih (p + 1) (by omega) (by omega) (gU I 0 3 (nI (p + 1))) (hB.pos (gU_un (Or.inr (by decide))) (gU_ok (by decide))) gU_us
        exact ⟨J, j0, j1, fun j hj => by rw [j2 j hj, gU_un (Or.inr hj)], fun q hq => by rw [j3 q hq, gU_ok hq]⟩
      · have eS : tzS l p = p := tzR_no (f := tzB) hc (decide_eq_false h)
        rw [eS, if_pos (c := gc_ne (pkv l p) (nI 32) = true) (by rw [e]; exact (cne (by omega) (by decide)).mpr h)]
        exact ⟨I, rfl, h3, fun _ _ => rfl, fun _ _ => rfl⟩
theorem rt_word {N : Nat} {l : List Nat} (hT : TXT l) : ∀ m p : Nat, p ≤ l.length → l.length - p < m → ∀ I : gM, BFx I l → I 0 3 = nI p → I 0 5 = nI 1 → ∃ J, hX9_step_101 N m I = hX9_step_136 N N J ∧ J 0 3 = nI (tzR tzL l p) ∧ (∀ j, j ≠ 3 → J 0 j = I 0 j) ∧ ∀ q, q ≠ 0 → J q = I q := by
  have l1 : (1 : Int32) = nI 1 := rfl
  have hT1 := hT.1
  intro m
  induction m with
  | zero => intro p _ h; omega
  | succ m ih =>
    intro p hp hm I hB h3 h5
    rw [eX9_step_101, h5, if_neg (c := gc_ne (nI 1) 1 = true) (by decide), h3, m_peek hT hB hp]
    by_cases hin : p = l.length
    · have hn : l[p]? = none := List.getElem?_eq_none (by omega)
      have e : pkv l p = mI := by unfold pkv; rw [hn]
      rw [e, m_letter0, i_e0]
      exact ⟨I, rfl, by rw [h3, tzR_end (by omega)], fun _ _ => rfl, fun _ _ => rfl⟩
    · obtain ⟨c, hc⟩ := get_s (l := l) (i := p) (by omega)
      obtain ⟨p7, c2⟩ := hT.at hc
      have e : pkv l p = nI c := by unfold pkv; rw [hc]
      rw [e, m_letter c2]
      cases hL : tzL c with
      | false =>
        rw [b2_f, i_e0]
        exact ⟨I, rfl, by rw [h3, tzR_no hc hL], fun _ _ => rfl, fun _ _ => rfl⟩
      | true =>
        have ea : gb_add (nI p) 1 = nI (p + 1) := nI_add _ 1
        rw [b2_t, i_e1, h3, ea]
        obtain ⟨J, j0, j1, j2, j3⟩ := ih (p + 1) (by omega) (by omega) (gU I 0 3 (nI (p + 1))) (hB.pos (gU_un (Or.inr (by decide))) (gU_ok (by decide))) gU_us (by rw [gU_un (Or.inr (by decide))]; exact h5)
        exact ⟨J, j0, by rw [j1, tzR_go hc hL], fun j hj => by rw [j2 j hj, gU_un (Or.inr hj)], fun q hq => by rw [j3 q hq, gU_ok hq]⟩
theorem jmin2 {a b : Nat} (ha : a < 2 ^ 31) (hb : b < 2 ^ 31) : gj_min (nI a) (nI b) = nI (min a b) := jmin ha hb
theorem rt_num {N s : Nat} {l : List Nat} (hT : TXT l) : ∀ m p z : Nat, s ≤ p → p ≤ l.length → l.length - p < m → ∀ I : gM, BFx I l → I 0 3 = nI p → I 0 5 = nI 2 → I 0 6 = nI z → z ≤ 10000 → (p - s ≤ 3 → z = tzV l s (p - s) ∧ z < 10 ^ (p - s)) → ∃ J z', hX9_step_136 N m I = some (.inl none, J) ∧ J 0 3 = nI (tzR tzD l p) ∧ J 0 6 = nI z' ∧ z' ≤ 10000 ∧ (tzR tzD l p - s ≤ 3 → z' = tzV l s (tzR tzD l p - s) ∧ z' < 10 ^ (tzR tzD l p - s)) ∧ (∀ j, j ≠ 3 → j ≠ 6 → J 0 j = I 0 j) ∧ ∀ q, q ≠ 0 → J q = I q := by
  have l2 : (2 : Int32) = nI 2 := rfl
  have l10k : (10000 : Int32) = nI 10000 := rfl
  have hT1 := hT.1
  intro m
  induction m with
  | zero => intro p z _ _ h; omega
  | succ m ih =>
    intro p z hs hp hm I hB h3 h5 h6 hz hv
    rw [eX9_step_136, h5, if_neg (c := gc_ne (nI 2) 2 = true) (by decide), h3, m_peek hT hB hp]
    by_cases hin : p = l.length
    · have hn : l[p]? = none := List.getElem?_eq_none (by omega)
      have e : pkv l p = mI := by unfold pkv; rw [hn]
      rw [e, m_digit0, i_e0]
      exact ⟨I, z, rfl, by rw [h3, tzR_end (by omega)], h6, hz, by rw [tzR_end (by omega)]; exact hv, fun _ _ _ => rfl, fun _ _ => rfl⟩
    · obtain ⟨c, hc⟩ := get_s (l := l) (i := p) (by omega)
      obtain ⟨p7, c2⟩ := hT.at hc
      have e : pkv l p = nI c := by unfold pkv; rw [hc]
      rw [e, m_digit c2]
      cases hL : tzD c with
      | false =>
        rw [b2_f, i_e0]
        exact ⟨I, z, rfl, by rw [h3, tzR_no hc hL], h6, hz, by rw [tzR_no hc hL]; exact hv, fun _ _ _ => rfl, fun _ _ => rfl⟩
      | true =>
        have hd := tzD_t.mp hL
        have ea : gb_add (nI p) 1 = nI (p + 1) := nI_add _ 1
        have e1 : gb_mul 10 (nI z) = nI (10 * z) := pk_mul 10 _
        have e2 : gb_add (nI (10 * z)) (nI c) = nI (10 * z + c) := nI_add _ _
        have e3 : gb_sub (nI (10 * z + c)) 48 = nI (10 * z + c - 48) := pk_sub (a := 10 * z + c) (b := 48) (by omega)
        have r3 : ∀ v : Int32, gU I 0 6 v 0 3 = nI p := fun v => by rw [gU_un (Or.inr (by decide))]; exact h3
        rw [b2_t, i_e1, h3, m_peek hT hB hp, e, h6, eX9_step_177, e1, e2, e3, l10k, jmin2 (by decide) (by omega), h3, ea]
        obtain ⟨J, z', j0, j1, j2, j3, j4, j5, j6⟩ := ih (p + 1) (min 10000 (10 * z + c - 48)) (by omega) (by omega) (by omega) (gU (gU I 0 6 (nI (min 10000 (10 * z + c - 48)))) 0 3 (nI (p + 1))) (hB.pos (by rw [gU_un (Or.inr (by decide)), gU_un (Or.inr (by decide))]) (by rw [gU_ok (by decide), gU_ok (by decide)])) gU_us (by rw [gU_un (Or.inr (by decide)), gU_un (Or.inr (by decide))]; exact h5) (by rw [gU_un (Or.inr (by decide)), gU_us]) (Nat.min_le_left _ _) (fun h33 => by
          obtain ⟨hz2, hz3⟩ := hv (by omega)
          have h2 : 10 ^ (p - s) ≤ 10 ^ 2 := Nat.pow_le_pow_right (by decide) (by omega)
          have h4 : 10 ^ (p - s + 1) = 10 ^ (p - s) * 10 := Nat.pow_succ _ _
          have h7 : min 10000 (10 * z + c - 48) = 10 * z + (c - 48) := by omega
          rw [show p + 1 - s = (p - s) + 1 by omega, h7]
          refine ⟨?_, by omega⟩
          show _ = 10 * tzV l s (p - s) + (l.getD (s + (p - s)) 0 - 48)
          rw [List.getD_eq_getElem?_getD, show s + (p - s) = p by omega, hc]
          show _ = 10 * tzV l s (p - s) + (c - 48)
          omega)
        exact ⟨J, z', j0, by rw [j1, tzR_go hc hL], j2, j3, by rw [tzR_go hc hL]; exact j4, fun j a b => by rw [j5 j a b, gU_un (Or.inr a), gU_un (Or.inr b)], fun q hq => by rw [j6 q hq, gU_ok hq, gU_ok hq]⟩
theorem pX9_step {N p : Nat} {l : List Nat} {I : gM} (hT : TXT l) (hN : 1000 ≤ N) (hB : BFx I l) (h3 : I 0 3 = nI p) (hp : p ≤ l.length) : ∃ J z, fX9_step N [.ref 0] I = some (.inl none, J) ∧ J 0 3 = nI (tzE l (tzS l p)) ∧ J 0 4 = nI (tzS l p) ∧ J 0 5 = nI (tzC l (tzS l p)) ∧ J 0 6 = nI z ∧ z ≤ 10000 ∧ (tzC l (tzS l p) = 2 → tzE l (tzS l p) - tzS l p ≤ 3 → z = tzN l (tzS l p)) ∧ (∀ j, j ≠ 3 → j ≠ 4 → j ≠ 5 → j ≠ 6 → J 0 j = I 0 j) ∧ ∀ q, q ≠ 0 → J q = I q := by
  have hT1 := hT.1
  have l0 : (0 : Int32) = nI 0 := rfl
  obtain ⟨A, a0, a1, a2, a3⟩ := rt_skip (N := N) hT N p hp (by omega) I hB h3
  have hBA : BFx A l := hB.pos (a2 2 (by decide)) (a3 1 (by decide))
  have hs := tzS_le hp
  rw [eX9_step, a0]
  generalize tzS l p = s at a1 hs ⊢
  have hB3 : ∀ v : Int32, BFx (gU (gU (gU A 0 4 (nI s)) 0 5 v) 0 6 0) l := fun v => hBA.pos (by rw [gU_un (Or.inr (by decide)), gU_un (Or.inr (by decide)), gU_un (Or.inr (by decide))]) (by rw [gU_ok (by decide), gU_ok (by decide), gU_ok (by decide)])
  have r3 : ∀ v : Int32, gU (gU (gU A 0 4 (nI s)) 0 5 v) 0 6 0 0 3 = nI s := fun v => by rw [gU_un (Or.inr (by decide)), gU_un (Or.inr (by decide)), gU_un (Or.inr (by decide)), a1]
  have r4 : ∀ v : Int32, gU (gU (gU A 0 4 (nI s)) 0 5 v) 0 6 0 0 4 = nI s := fun v => by rw [gU_un (Or.inr (by decide)), gU_un (Or.inr (by decide)), gU_us]
  have r5 : ∀ v : Int32, gU (gU (gU A 0 4 (nI s)) 0 5 v) 0 6 0 0 5 = v := fun v => by rw [gU_un (Or.inr (by decide)), gU_us]
  have r6 : ∀ v : Int32, gU (gU (gU A 0 4 (nI s)) 0 5 v) 0 6 0 0 6 = 0 := fun v => gU_us
  have rj : ∀ (v : Int32) (j : Nat), j ≠ 3 → j ≠ 4 → j ≠ 5 → j ≠ 6 → gU (gU (gU A 0 4 (nI s)) 0 5 v) 0 6 0 0 j = I 0 j := fun v j j3 j4 j5 j6 => by rw [gU_un (Or.inr j6), gU_un (Or.inr j5), gU_un (Or.inr j4), a2 j j3]
  have rq : ∀ (v : Int32) (q : Nat), q ≠ 0 → gU (gU (gU A 0 4 (nI s)) 0 5 v) 0 6 0 q = I q := fun v q hq => by rw [gU_ok hq, gU_ok hq, gU_ok hq, a3 q hq]
  have y3 : gU A 0 4 (nI s) 0 3 = nI s := by rw [gU_un (Or.inr (by decide)), a1]
  /- at the end a number's loop is left at once -/
  have leave : ∀ (v : Int32) (X : gM), X 0 5 = v → gc_ne v 2 = true → hX9_step_136 N N X = some (.inl none, X) := fun v X hX hv => by
    obtain ⟨k, hk⟩ : ∃ k, N = k + 1 := ⟨N - 1, by omega⟩
    have h1 := eX9_step_136 N k X
    rw [← hk, hX, if_pos hv] at h1
    exact h1
  have pass : ∀ (v : Int32) (X : gM), X 0 5 = v → gc_ne v 1 = true → hX9_step_101 N N X = hX9_step_136 N N X := fun v X hX hv => by
    obtain ⟨k, hk⟩ : ∃ k, N = k + 1 := ⟨N - 1, by omega⟩
    have h1 := eX9_step_101 N k X
    rw [← hk, hX, if_pos hv] at h1
    exact h1
  by_cases hin : s = l.length
  · have hn : l[s]? = none := List.getElem?_eq_none (by omega)
    have e : pkv l s = mI := by unfold pkv; rw [hn]
    have hC : tzC l s = 0 := by unfold tzC; rw [hn]
    have hE : tzE l s = s := by unfold tzE; rw [hn]
    rw [if_neg (c := gz_ge (pkv l s) = true) (by rw [e]; decide), eX9_step_75, if_pos (c := gc_ne 0 3 = true) (by decide), pass 0 _ (r5 0) (by decide), leave 0 _ (r5 0) (by decide), hC, hE]
    exact ⟨_, 0, rfl, r3 0, r4 0, r5 0, r6 0, by decide, fun z => by omega, fun j j3 j4 j5 j6 => rj 0 j j3 j4 j5 j6, fun q hq => rq 0 q hq⟩
  · obtain ⟨c, hc⟩ := get_s (l := l) (i := s) (by omega)
    obtain ⟨p7, c2⟩ := hT.at hc
    have e : pkv l s = nI c := by unfold pkv; rw [hc]
    have hC : tzC l s = tzK c := by unfold tzC; rw [hc]
    rw [e, if_pos ((zge (by omega)).mpr True.intro), m_letter c2, eX9_step_56, hC]
    cases hL : tzL c with
    | true =>
      have k1 := tzK_1.mpr hL
      have hE : tzE l s = tzR tzL l s := by unfold tzE; rw [hc]; exact if_pos hL
      obtain ⟨J, j0, j1, j2, j3⟩ := rt_word (N := N) hT N s hs (by omega) _ (hB3 (nI 1)) (r3 _) (r5 _)
      rw [b2_t, i_e1, k1, eX9_step_75, if_pos (c := gc_ne 1 3 = true) (by decide), hE]
      have j0' : hX9_step_101 N N (gU (gU (gU A 0 4 (nI s)) 0 5 1) 0 6 0) = hX9_step_136 N N J := j0
      have j5 : J 0 5 = nI 1 := by rw [j2 5 (by decide), r5]
      rw [j0', leave (nI 1) J j5 (by decide)]
      exact ⟨J, 0, rfl, j1, by rw [j2 4 (by decide), r4], j5, by rw [j2 6 (by decide), r6]; rfl, by decide, fun z => by omega, fun j a b c d => by rw [j2 j a, rj _ j a b c d], fun q hq => by rw [j3 q hq, rq _ q hq]⟩
    | false =>
      rw [b2_f, i_e0, m_digit c2]
      have nl : ¬ tzL c = true := by rw [hL]; decide
      cases hD : tzD c with
      | true =>
        have k2 := tzK_2.mpr hD
        have hE : tzE l s = tzR tzD l s := by unfold tzE; rw [hc]; exact (if_neg nl).trans (if_pos hD)
        have hV : tzN l s = tzW l s (tzE l s - s) := by unfold tzN; rw [hc]; exact (if_neg nl).trans (if_pos hD)
        obtain ⟨J, z, j0, j1, j2, j3, j4, j5, j6⟩ := rt_num (N := N) (s := s) hT N s 0 (Nat.le_refl _) hs (by omega) _ (hB3 (nI 2)) (r3 _) (r5 _) (r6 _) (Nat.zero_le _) (fun _ => by rw [Nat.sub_self]; exact ⟨rfl, by decide⟩)
        have j0' : hX9_step_136 N N (gU (gU (gU A 0 4 (nI s)) 0 5 2) 0 6 0) = some (.inl none, J) := j0
        rw [b2_t, i_e1, k2, eX9_step_75, if_pos (c := gc_ne 2 3 = true) (by decide), pass 2 _ (r5 2) (by decide), j0', hV, hE]
        refine ⟨J, z, rfl, j1, by rw [j5 4 (by decide) (by decide), r4], by rw [j5 5 (by decide) (by decide), r5], j2, j3, fun _ h33 => ?_, fun j a b c d => by rw [j5 j a d, rj _ j a b c d], fun q hq => by rw [j6 q hq, rq _ q hq]⟩
        unfold tzW
        rw [if_pos h33]
        exact (j4 h33).1
      | false =>
        have nd : ¬ tzD c = true := by rw [hD]; decide
        have k3 : tzK c = 3 := by unfold tzK; rw [if_neg nl, if_neg nd]
        have hE : tzE l s = s + 1 := by unfold tzE; rw [hc]; exact (if_neg nl).trans (if_neg nd)
        have ea : gb_add (nI s) 1 = nI (s + 1) := nI_add _ 1
        have x5 : gU (gU (gU (gU A 0 4 (nI s)) 0 5 3) 0 6 0) 0 3 (nI (s + 1)) 0 5 = 3 := by rw [gU_un (Or.inr (by decide)), r5]
        rw [b2_f, i_e0, k3, eX9_step_75, if_neg (c := gc_ne 3 3 = true) (by decide), y3, ea, pass 3 _ x5 (by decide), leave 3 _ x5 (by decide), hE]
        exact ⟨_, 0, rfl, gU_us, by rw [gU_un (Or.inr (by decide)), r4], x5, by rw [gU_un (Or.inr (by decide)), r6]; rfl, by decide, fun z => by omega, fun j j3 j4 j5 j6 => by rw [gU_un (Or.inr j3), rj _ j j3 j4 j5 j6], fun q hq => by rw [gU_ok hq, rq _ q hq]⟩
