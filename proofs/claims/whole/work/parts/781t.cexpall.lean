theorem pX7_expireIn {N : Nat} {I : gM} {r : Nat → Nat} {qs : Nat → List Pk} {P q : Nat} (h : CT I r qs [] P) (h14 : r 1 ≤ 14) (h6 : r 2 ≤ 6) (h7 : r 7 ≤ 10100) (hb : ∀ f, f < r 2 → flp r f 3 ≤ 200) (hq : q < 100) (hne : qs q ≠ []) (hp : ∀ p ∈ qs q, p.1 < r 2 ∧ p.2.1 ≤ r 7) (hN : 1000 ≤ N) :
    ∃ J, fX7_expireIn N [.ref 0, .int (nI q)] I = some (.inl none, J) ∧ CT J (expF r ((qs q).filter (isE r))) (upq qs q ((qs q).filter (fun p => !isE r p))) [] (P - ((qs q).filter (isE r)).length) := by
  obtain ⟨hn, hs, c, own, u, h1, h2, -, -⟩ := h
  have hmap := h2 q hq
  have hl : (c q).length = (qs q).length := by
    have := congrArg List.length hmap
    rwa [List.length_map, List.length_map] at this
  have h500 := h1.len (q := q) (by omega)
  have hcne : c q ≠ [] := fun e => hne (List.length_eq_zero_iff.mp (by rw [← hl, e]; rfl))
  have e13 : I 13 q = nI (qs q).length := by
    have := (h1.2.2.1 q hq).1
    rw [gS10 (by decide), hl] at this
    exact this
  have e11 : I 11 q = hde (c q) mI := by
    have := (h1.2.2.1 q hq).2.1
    rw [gS10 (by decide)] at this
    cases hc : c q with
    | nil => exact absurd hc hcne
    | cons x t => exact this x (by rw [hc]; rfl)
  have lm : (-1 : Int32) = mI := rfl
  have l0 : (0 : Int32) = nI 0 := rfl
  rw [eX7_expireIn, eX7_expireIn_0, ckI hq (by decide), ckI hq (by decide), nI_clamp (by omega), e13, e11, lm, l0]
  have := expireIn_loop (N := N) (q := q) (n := (qs q).length) (r0 := r) (qs := qs) hq (by omega) h14 h6 h7 hb (qs q) (c q) N [] [] I r P c own u (by omega) (Nat.le_refl _) rfl hmap rfl (fun k hk _ => h2 k hk) h1 hn hs (fun _ _ => rfl) hp
  rw [Nat.sub_self] at this
  exact this
/-- whether some flow has a budget -/
def hasB (r : Nat → Nat) : Bool := (List.range (r 2)).any (fun f => decide (0 < flp r f 3))
theorem gS09s {I : gM} : ∀ (K : Int32 → gM → gO) (x : Int32), hI (some (.inl (some (.int x)), gS (rg 0 9) I)) (rg 0 9) I K = K x I := fun K x => by
  rw [hI_mk, gMg_same I (by decide)]
theorem pX2_hasBudget {N : Nat} {I : gM} {r : Nat → Nat} (hn : CN I r) (h6 : r 2 ≤ 6) (hb : ∀ f, f < r 2 → flp r f 3 ≤ 200) (hN : 1000 ≤ N) : fX2_hasBudget N [.ref 0] (gS (rg 1 9) I) = some (.inl (some (.int (b2 (hasB r)))), gS (rg 1 9) I) := by
  have l0 : (0 : Int32) = nI 0 := rfl
  have l1 : (1 : Int32) = nI 1 := rfl
  have l3 : (3 : Int32) = nI 3 := rfl
  have key : ∀ m i : Nat, i ≤ r 2 → r 2 - i < m → (∀ f, f < i → ¬ 0 < flp r f 3) → hX2_hasBudget_2 N m (nI i) (gS (rg 1 9) I) = some (.inl (some (.int (b2 (hasB r)))), gS (rg 1 9) I) := by
    intro m
    induction m with
    | zero => intro i _ h; omega
    | succ m ih =>
      intro i hi hm hz
      have h2 : gS (rg 1 9) I 0 2 = nI (r 2) := by rw [gS19 (by decide)]; exact hn.1.2.2
      rw [eX2_hasBudget_2, h2]
      by_cases hin : i = r 2
      · subst hin
        have e : hasB r = false := by
          unfold hasB
          rw [List.any_eq_false]
          intro f hf
          have := hz f (List.mem_range.mp hf)
          rw [decide_eq_true_eq]; exact this
        rw [if_pos ((cge (by omega) (by omega)).mpr (Nat.le_refl _)), e]; rfl
      · have hir : i < r 2 := by omega
        have hbi := hb i hir
        have eg : gS (rg 0 9) (gS (rg 1 9) I) 7 (i * 11 + 3) = nI (flp r i 3) := by
          rw [gS_rg (by decide) (by decide), Nat.zero_add, gS19 (by decide)]
          exact hn.2.2.2.1 i 3 hir (by decide)
        rw [if_neg (fun z => hin (by have := (cge (by omega) (by omega)).mp z; omega)), l3, pX2_getNumber N _ (by omega), gS09s, eg]
        by_cases h0 : flp r i 3 = 0
        · rw [if_pos (by rw [zle (by omega)]; exact h0), l1, nI_add]
          refine ih (i + 1) (by omega) (by omega) (fun f hf => ?_)
          by_cases e : f = i
          · rw [e]; omega
          · exact hz f (by omega)
        · have e : hasB r = true := by
            unfold hasB
            rw [List.any_eq_true]
            exact ⟨i, List.mem_range.mpr hir, by rw [decide_eq_true_eq]; omega⟩
          rw [if_neg (by rw [zle (by omega)]; exact h0), e]; rfl
  rw [eX2_hasBudget, eX2_hasBudget_0]
  exact key N 0 (Nat.zero_le _) (by omega) (fun f hf => absurd hf (Nat.not_lt_zero _))
def exA (r : Nat → Nat) (qs : Nat → List Pk) (P : Nat) : Nat → (Nat → Nat) × (Nat → List Pk) × Nat
  | 0 => (r, qs, P)
  | q + 1 => (expF (exA r qs P q).1 ((qs q).filter (isE r)), upq (exA r qs P q).2.1 q ((qs q).filter (fun p => !isE r p)), (exA r qs P q).2.2 - ((qs q).filter (isE r)).length)
theorem exA_like (r : Nat → Nat) (qs : Nat → List Pk) (P : Nat) (hp : ∀ q, q < 100 → ∀ p ∈ qs q, p.1 < 6) : ∀ q, q ≤ 100 → likeE (exA r qs P q).1 r
  | 0, _ => fun _ _ => rfl
  | q + 1, hq => by
    have ih := exA_like r qs P hp q (by omega)
    have : ∀ (ps : List Pk) (s : Nat → Nat), (∀ p ∈ ps, p.1 < 6) → likeE s r → likeE (expF s ps) r := by
      intro ps
      induction ps with
      | nil => intro s _ h; exact h
      | cons p t iht =>
        intro s h hs
        exact iht (expN s p.1) (fun q hq => h q (List.mem_cons_of_mem _ hq)) (hs.exp (h p List.mem_cons_self))
    exact this _ _ (fun p hpm => hp q (by omega) p (List.mem_filter.mp hpm).1) ih
theorem exA_q (r : Nat → Nat) (qs : Nat → List Pk) (P : Nat) : ∀ q k, q ≤ k → (exA r qs P q).2.1 k = qs k
  | 0, _, _ => rfl
  | q + 1, k, h => by
    show upq (exA r qs P q).2.1 q _ k = _
    rw [upq_n (by omega), exA_q r qs P q k (by omega)]
/-- where nothing expires -/
theorem exA_none (r : Nat → Nat) (qs : Nat → List Pk) (P : Nat) (h : ∀ q, q < 100 → ∀ p ∈ qs q, isE r p = false) : ∀ q, q ≤ 100 → exA r qs P q = (r, qs, P)
  | 0, _ => rfl
  | q + 1, hq => by
    have ih := exA_none r qs P h q (by omega)
    have e1 : (qs q).filter (isE r) = [] := List.filter_eq_nil_iff.mpr (fun p hp => by rw [h q (by omega) p hp]; decide)
    have e2 : (qs q).filter (fun p => !isE r p) = qs q := List.filter_eq_self.mpr (fun p hp => by rw [h q (by omega) p hp]; rfl)
    show (expF (exA r qs P q).1 ((qs q).filter (isE r)), upq (exA r qs P q).2.1 q ((qs q).filter (fun p => !isE r p)), (exA r qs P q).2.2 - ((qs q).filter (isE r)).length) = _
    rw [ih, e1, e2]
    have e3 : upq qs q (qs q) = qs := by
      funext k
      by_cases e : k = q
      · rw [e, upq_s]
      · rw [upq_n e]
    show (r, upq qs q (qs q), P - 0) = _
    rw [e3]; rfl
theorem CQ.zero {I : gM} {qs : Nat → List Pk} {tr : List (Nat × Pk)} (h : CQ I qs tr 0) {q : Nat} (hq : q < 100) : qs q = [] := by
  obtain ⟨c, own, u, h1, h2, -, -⟩ := h
  have hm := h2 q hq
  cases hc : c q with
  | nil =>
    rw [hc] at hm
    exact List.map_eq_nil_iff.mp hm.symm
  | cons x t =>
    exfalso
    have hx := (h1.2.2.2.1 q (by omega)).2 x (by rw [hc]; exact List.mem_cons_self)
    have hn := (h1.2.2.2.1 100 (Nat.le_refl _)).1
    have h3 : (x :: c 100).length ≤ u := nodup_len u (x :: c 100) (List.nodup_cons.mpr ⟨h1.notin (Nat.le_refl _) hx.2 (by omega), hn⟩) (fun j hj => by
      rcases List.mem_cons.mp hj with e | e
      · rw [e]; exact hx.1
      · exact ((h1.2.2.2.1 100 (Nat.le_refl _)).2 j e).1)
    rw [List.length_cons] at h3
    have := h1.1.2.2.2
    omega
theorem pX7_expireAll {N : Nat} {I : gM} {r : Nat → Nat} {qs : Nat → List Pk} {P : Nat} (h : CT I r qs [] P) (h14 : r 1 ≤ 14) (h6 : r 2 ≤ 6) (h7 : r 7 ≤ 10100) (hb : ∀ f, f < r 2 → flp r f 3 ≤ 200) (hp : ∀ q, q < 100 → ∀ p ∈ qs q, p.1 < r 2 ∧ p.2.1 ≤ r 7) (hN : 1000 ≤ N) :
    ∃ J, fX7_expireAll N [.ref 0] I = some (.inl none, J) ∧ CT J (exA r qs P 100).1 (exA r qs P 100).2.1 [] (exA r qs P 100).2.2 := by
  have l0 : (0 : Int32) = nI 0 := rfl
  have l1 : (1 : Int32) = nI 1 := rfl
  have l100 : (100 : Int32) = nI 100 := rfl
  have hP := h.2.2.toq.P
  have eP : I 10 11 = nI P := by
    have := hP.1
    rwa [gS10 (by decide)] at this
  rw [eX7_expireAll, eX7_expireAll_0, eP]
  by_cases hP0 : P = 0
  · subst hP0
    rw [if_pos (by decide)]
    rw [exA_none r qs 0 (fun q hq p hpm => by rw [h.2.2.zero hq] at hpm; cases hpm) 100 (Nat.le_refl _)]
    exact ⟨I, rfl, h⟩
  · rw [if_neg (by rw [zeq (by omega)]; exact hP0), pX2_hasBudget h.1 h6 hb hN, hI_mk, gM19s]
    cases hB : hasB r with
    | false =>
      rw [if_neg (by decide)]
      rw [exA_none r qs P (fun q hq p hpm => ?_) 100 (Nat.le_refl _)]
      · exact ⟨I, rfl, h⟩
      · unfold hasB at hB
        rw [List.any_eq_false] at hB
        have := hB p.1 (List.mem_range.mpr (hp q hq p hpm).1)
        rw [decide_eq_true_eq] at this
        unfold isE
        rw [decide_eq_false (show ¬ flp r p.1 3 ≠ 0 by omega)]; rfl
    | true =>
      rw [if_pos (by decide), l0]
      have hp6 : ∀ q, q < 100 → ∀ p ∈ qs q, p.1 < 6 := fun q hq p hpm => by
        have := (hp q hq p hpm).1
        omega
      have key : ∀ m i : Nat, i ≤ 100 → 100 - i < m → ∀ K : gM, CT K (exA r qs P i).1 (exA r qs P i).2.1 [] (exA r qs P i).2.2 → ∃ J, hX7_expireAll_23 N m (nI i) K = some (.inl none, J) ∧ CT J (exA r qs P 100).1 (exA r qs P 100).2.1 [] (exA r qs P 100).2.2 := by
        intro m
        induction m with
        | zero => intro i _ h; omega
        | succ m ih =>
          intro i hi hm K hK
          rw [eX7_expireAll_23, l100]
          by_cases hin : i = 100
          · subst hin
            rw [if_pos ((cge (by omega) (by omega)).mpr (Nat.le_refl _))]
            exact ⟨K, rfl, hK⟩
          · have hi1 : i < 100 := by omega
            have hlk := exA_like r qs P hp6 i (by omega)
            have hqi : (exA r qs P i).2.1 i = qs i := exA_q r qs P i i (Nat.le_refl _)
            have hlen := hK.2.2.toq.len hi1
            rw [gS10 (by decide), hqi] at hlen
            have e13 : K 13 i = nI (qs i).length := hlen.1
            have e46 : ∀ K', hX7_expireAll_46 N m (nI i) K' = hX7_expireAll_23 N m (nI (i + 1)) K' := fun K' => by
              rw [eX7_expireAll_46, l1, nI_add]
            rw [if_neg (fun z => hin (by have := (cge (by omega) (by omega)).mp z; omega)), ckI hi1 (by decide), nI_clamp (by omega), e13]
            have hE : ∀ l : List Pk, l.filter (isE (exA r qs P i).1) = l.filter (isE r) ∧ l.filter (fun p => !isE (exA r qs P i).1 p) = l.filter (fun p => !isE r p) := fun l => by
              have e : isE (exA r qs P i).1 = isE r := funext (isE_like hlk)
              rw [e]; exact ⟨rfl, rfl⟩
            by_cases hnil : qs i = []
            · rw [if_pos (by rw [zle (by omega), hnil]; rfl), e46]
              refine ih (i + 1) (by omega) (by omega) K ?_
              have es : exA r qs P (i + 1) = exA r qs P i := by
                show (expF (exA r qs P i).1 ((qs i).filter (isE r)), upq (exA r qs P i).2.1 i ((qs i).filter (fun p => !isE r p)), (exA r qs P i).2.2 - ((qs i).filter (isE r)).length) = _
                have e3 : upq (exA r qs P i).2.1 i [] = (exA r qs P i).2.1 := by
                  funext k
                  by_cases e : k = i
                  · rw [e, upq_s, hqi, hnil]
                  · rw [upq_n e]
                rw [hnil]
                show ((exA r qs P i).1, upq (exA r qs P i).2.1 i [], (exA r qs P i).2.2 - 0) = _
                rw [e3]; rfl
              rw [es]; exact hK
            · rw [if_neg (by rw [zle (by omega)]; exact fun e => hnil (List.length_eq_zero_iff.mp e))]
              obtain ⟨J, j0, j1⟩ := pX7_expireIn (N := N) hK.into (by rw [hlk 1 (fun f _ => by omega)]; exact h14) (by rw [hlk 2 (fun f _ => by omega)]; exact h6) (by rw [hlk 7 (fun f _ => by omega)]; exact h7) (fun f hf => by
                rw [hlk 2 (fun f _ => by omega)] at hf
                rw [show flp (exA r qs P i).1 f 3 = flp r f 3 from hlk _ (fun g _ => by omega)]; exact hb f hf) hi1 (by rw [hqi]; exact hnil) (fun p hpm => by
                rw [hqi] at hpm
                rw [hlk 2 (fun f _ => by omega), hlk 7 (fun f _ => by omega)]; exact hp i hi1 p hpm) hN
              rw [hqi, (hE (qs i)).1, (hE (qs i)).2] at j1
              rw [j0, hV_mk, e46]
              exact ih (i + 1) (by omega) (by omega) _ j1.back
      exact key N 0 (by decide) (by omega) I h
