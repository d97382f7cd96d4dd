/-! ===== the class: a queue is lost; a packet is found ===== -/
def losN (r : Nat → Nat) (f : Nat) : Nat → Nat := up1 r (65 + 11 * f + 5) (flp r f 5 + 1)
def losF (r : Nat → Nat) (ps : List Pk) : Nat → Nat := ps.foldl (fun r p => losN r p.1) r
theorem losF_s (r : Nat → Nat) (ps : List Pk) (p : Pk) : losF r (ps ++ [p]) = losN (losF r ps) p.1 := by
  unfold losF; rw [List.foldl_append]; rfl
theorem losF_n (ps : List Pk) : ∀ (r : Nat → Nat) (i : Nat), (∀ f, i ≠ 65 + 11 * f + 5) → losF r ps i = r i := by
  induction ps with
  | nil => intro r i _; rfl
  | cons p t ih =>
    intro r i hi
    show losF (losN r p.1) t i = _
    rw [ih _ i hi]
    exact up1_n (hi p.1)
theorem pX7_loseAll {N : Nat} {I : gM} {r : Nat → Nat} {qs : Nat → List Pk} {P q : Nat} (h : CT I r qs [] P) (h14 : r 1 ≤ 14) (h6 : r 2 ≤ 6) (hq : q < 100) (hp : ∀ p ∈ qs q, p.1 < r 2) (hN : 1000 ≤ N) :
    ∃ J, fX7_loseAll N [.ref 0, .int (nI q)] I = some (.inl (some (.int (nI (qs q).length))), J) ∧ CT J (losF r (qs q)) (upq qs q []) [] (P - (qs q).length) := by
  have l0 : (0 : Int32) = nI 0 := rfl
  have l1 : (1 : Int32) = nI 1 := rfl
  have l5 : (5 : Int32) = nI 5 := rfl
  have lm : (-1 : Int32) = mI := rfl
  have hlen := h.2.2.toq.len hq
  rw [gS10 (by decide)] at hlen
  have e13 : I 13 q = nI (qs q).length := hlen.1
  have key : ∀ m i : Nat, i ≤ (qs q).length → (qs q).length - i < m → ∀ K : gM, CT K (losF r ((qs q).take i)) (upq qs q ((qs q).drop i)) [] (P - i) → ∃ J, hX7_loseAll_12 N m (nI q) (nI (qs q).length) (nI i) K = some (.inl (some (.int (nI (qs q).length))), J) ∧ CT J (losF r (qs q)) (upq qs q []) [] (P - (qs q).length) := by
    intro m
    induction m with
    | zero => intro i _ h; omega
    | succ m ih =>
      intro i hi hm K hK
      rw [eX7_loseAll_12, lm, l1, l5]
      by_cases hin : i = (qs q).length
      · subst hin
        rw [if_pos ((cge (by omega) (by omega)).mpr (Nat.le_refl _))]
        rw [List.take_length, List.drop_length] at hK
        exact ⟨K, rfl, hK⟩
      · have hil : i < (qs q).length := by omega
        have hdrop : (qs q).drop i = (qs q)[i] :: (qs q).drop (i + 1) := List.drop_eq_getElem_cons hil
        have hget : (qs q)[i]? = some (qs q)[i] := List.getElem?_eq_getElem hil
        have hpi := hp _ (List.mem_of_getElem? hget)
        generalize (qs q)[i] = p at hdrop hget hpi
        have n0 : ∀ x, (∀ f, x ≠ 65 + 11 * f + 5) → losF r ((qs q).take i) x = r x := fun x hx => losF_n _ r x hx
        rw [if_neg (fun z => hin (by have := (cge (by omega) (by omega)).mp z; omega))]
        obtain ⟨x, J, j0, j1, j2, j3⟩ := CQq.take (N := N) (p := p) (t := (qs q).drop (i + 1)) hK.2.2.toq hq (by rw [upq_s]; exact hdrop)
        have hT := hK.qlift j1 (j2 4 (by decide) (by decide) (by decide) (by decide))
        obtain ⟨-, d16, -, -, -⟩ := hT.tr (i := x) (p := p) List.mem_cons_self
        have t2 : losF r ((qs q).take i) 2 = r 2 := n0 2 (fun f => by omega)
        have t1 : losF r ((qs q).take i) 1 = r 1 := n0 1 (fun f => by omega)
        rw [j0, hI_mk, if_neg (by rw [ceqm (by omega)]; exact id), ckI j3 (by decide), nI_clamp (n := x) (by omega), d16, sT_add hT.1 (by rw [t2]; exact h6) (by rw [t2]; exact hpi) (by decide)]
        have hT2 := hT.num (x := flp (losF r ((qs q).take i)) p.1 5 + 1) (by rw [t1]; exact h14) (by rw [t2]; exact h6) (f := p.1) (by rw [t2]; exact hpi) (show 5 < 11 by decide)
        obtain ⟨J2, r0', r1', r2', r3'⟩ := CQq.release (N := N) (a := []) (b := []) (i := x) (p := p) hT2.2.2.toq (hT2.2.2.toq.pos (x := (x, p)) List.mem_cons_self)
        have hT3 := hT2.qlift r1' (r3' 4 (by decide) (by decide))
        rw [r0', hV_mk, eX7_loseAll_62, l1, nI_add]
        refine ih (i + 1) (by omega) (by omega) _ ?_
        have eq1 : upq (upq qs q ((qs q).drop i)) q ((qs q).drop (i + 1)) = upq qs q ((qs q).drop (i + 1)) := by
          funext z
          by_cases ez : z = q
          · rw [ez, upq_s, upq_s]
          · rw [upq_n ez, upq_n ez, upq_n ez]
        rw [eq1] at hT3
        rw [take_s hget, losF_s, show P - (i + 1) = P - i - 1 by omega]
        exact hT3
  rw [eX7_loseAll, eX7_loseAll_0, ckI hq (by decide), nI_clamp (by omega), e13, l0]
  refine key N 0 (Nat.zero_le _) (by omega) I ?_
  have e : upq qs q ((qs q).drop 0) = qs := by
    funext z
    by_cases ez : z = q
    · rw [ez, upq_s, List.drop_zero]
    · rw [upq_n ez]
  rw [e]
  exact h
/-- the packet of that index, or NONE -/
theorem pX4_find {N : Nat} {I : gM} {qs : Nat → List Pk} {P q : Nat} {v : Int32} (h : CQq I qs [] P) (hq : q < 100) (hN : 1000 ≤ N) :
    (∃ (i k : Nat) (p : Pk), v = nI k ∧ k < 2 ^ 31 ∧ (qs q)[k]? = some p ∧ i < 500 ∧ dq I i = pd p ∧ fX4_find N [.ref 0, .int (nI q), .int v] I = some (.inl (some (.int (nI i))), I)) ∨
    ((v < 0 ∨ ∃ k, v = nI k ∧ k < 2 ^ 31 ∧ (qs q).length ≤ k) ∧ fX4_find N [.ref 0, .int (nI q), .int v] I = some (.inl (some (.int mI)), I)) := by
  have l0 : (0 : Int32) = nI 0 := rfl
  have l1 : (1 : Int32) = nI 1 := rfl
  have lm : (-1 : Int32) = mI := rfl
  obtain ⟨c, own, u, h1, h2, -, -⟩ := h
  have hmap := h2 q hq
  have hl : (c q).length = (qs q).length := by
    have := congrArg List.length hmap
    rwa [List.length_map, List.length_map] at this
  have h500 := h1.len (q := q) (by omega)
  obtain ⟨q1, q2, -, q4⟩ := h1.2.2.1 q hq
  rw [eX4_find, eX4_find_0, lm]
  by_cases hv : v < 0
  · refine Or.inr ⟨Or.inl hv, ?_⟩
    rw [if_pos (by rw [decide_eq_true_eq]; exact hv)]
  · obtain ⟨k, hk, rfl⟩ := i_pos hv
    rw [if_neg (by rw [decide_eq_true_eq]; exact hv), ckI hq (by decide), nI_clamp (n := q) (by omega), q1]
    by_cases hkl : k < (c q).length
    · refine Or.inl ?_
      rw [if_pos ((clt (by omega) (by omega)).mpr hkl), ckI hq (by decide)]
      obtain ⟨i, hi⟩ := get_s hkl
      obtain ⟨p, hp⟩ := get_s (show k < (qs q).length by omega)
      have hiu := ((h1.2.2.2.1 q (by omega)).2 i (List.mem_of_getElem? hi)).1
      have hu := h1.1.2.1
      have hdp : dq I i = pd p := by
        have e1 : ((c q).map (dq I))[k]? = some (dq I i) := by rw [List.getElem?_map, hi]; rfl
        have e2 : ((qs q).map pd)[k]? = some (pd p) := by rw [List.getElem?_map, hp]; rfl
        rw [hmap, e2] at e1
        exact (Option.some.inj e1).symm
      refine ⟨i, k, p, rfl, hk, hp, by omega, hdp, ?_⟩
      have hne : c q ≠ [] := fun e => by rw [e] at hkl; exact absurd hkl (Nat.not_lt_zero _)
      have e1 : I 1 q = hde (c q) mI := by
        cases hc : c q with
        | nil => exact absurd hc hne
        | cons x t => exact q2 x (by rw [hc]; rfl)
      have key : ∀ m j : Nat, j ≤ k → k - j < m → hX4_find_26 N m (nI k) (hde ((c q).drop j) mI) (nI j) I = some (.inl (some (.int (nI i))), I) := by
        intro m
        induction m with
        | zero => intro j _ h; omega
        | succ m ih =>
          intro j hj hm
          have hjl : j < (c q).length := by omega
          have hdrop : (c q).drop j = (c q)[j] :: (c q).drop (j + 1) := List.drop_eq_getElem_cons hjl
          have hget : (c q)[j]? = some (c q)[j] := List.getElem?_eq_getElem hjl
          generalize (c q)[j] = x at hdrop hget
          have hxu := ((h1.2.2.2.1 q (by omega)).2 x (List.mem_of_getElem? hget)).1
          have hnx : I 5 x = hde ((c q).drop (j + 1)) mI := by
            have e : c q = (c q).take j ++ x :: (c q).drop (j + 1) := by rw [← hdrop, List.take_append_drop]
            rw [e, nxe_app] at q4
            exact q4.2.1
          rw [hdrop]
          show hX4_find_26 N (m + 1) (nI k) (nI x) (nI j) I = _
          rw [eX4_find_26, lm, l1]
          by_cases hjk : j = k
          · subst hjk
            rw [if_pos ((cge (by omega) (by omega)).mpr (Nat.le_refl _))]
            rw [hget] at hi
            rw [Option.some.inj hi]
          · rw [if_neg (fun z => hjk (by have := (cge (by omega) (by omega)).mp z; omega)), if_neg (by rw [ceqm (by omega)]; exact id), ckI (by omega) (by decide), nI_clamp (n := x) (by omega), hnx, nI_add]
            exact ih (j + 1) (by omega) (by omega)
      rw [e1, l0]
      have := key N 0 (Nat.zero_le _) (by omega)
      rwa [List.drop_zero] at this
    · refine Or.inr ⟨Or.inr ⟨k, rfl, hk, by omega⟩, ?_⟩
      rw [if_neg (fun z => hkl ((clt (by omega) (by omega)).mp z))]
