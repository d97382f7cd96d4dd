theorem pX7_leastDeadline {N : Nat} {I : gM} {r : Nat → Nat} {qs : Nat → List Pk} {P : Nat} (h : CT I r qs [] P) (h6 : r 2 ≤ 6) (h7 : r 7 ≤ 10100) (hb : ∀ f, f < r 2 → flp r f 3 ≤ 200) (hp : ∀ q, q < 100 → ∀ p ∈ qs q, p.1 < r 2 ∧ p.2.1 ≤ r 7) (hN : 1000 ≤ N) :
    fX7_leastDeadline N [.ref 0] I = some (.inl (some (.int (lsI (lsA r qs 100)))), I) ∧ ∀ y, lsA r qs 100 = some y → y < 2 ^ 31 := by
  have l0 : (0 : Int32) = nI 0 := rfl
  have l1 : (1 : Int32) = nI 1 := rfl
  have l100 : (100 : Int32) = nI 100 := rfl
  obtain ⟨hn, -, c, own, u, h1, h2, -, -⟩ := h
  have key : ∀ m i : Nat, i ≤ 100 → 100 - i < m → (∀ y, lsA r qs i = some y → y < 2 ^ 31) → hX7_leastDeadline_4 N m (lsI (lsA r qs i)) (nI i) I = some (.inl (some (.int (lsI (lsA r qs 100)))), I) ∧ ∀ y, lsA r qs 100 = some y → y < 2 ^ 31 := by
    intro m
    induction m with
    | zero => intro i _ h; omega
    | succ m ih =>
      intro i hi hm hz
      rw [eX7_leastDeadline_4, l100, l0]
      by_cases hin : i = 100
      · subst hin
        rw [if_pos ((cge (by omega) (by omega)).mpr (Nat.le_refl _))]
        exact ⟨rfl, hz⟩
      · have hi1 : i < 100 := by omega
        have hmap := h2 i hi1
        have hl : (c i).length = (qs i).length := by
          have := congrArg List.length hmap
          rwa [List.length_map, List.length_map] at this
        have h500 := h1.len (q := i) (by omega)
        have hu := h1.1.2.1
        obtain ⟨q1, q2, -, q4⟩ := h1.2.2.1 i hi1
        rw [gS10 (by decide)] at q1 q4
        have e13 : I 13 i = nI (qs i).length := by rw [← hl]; exact q1
        have e92 : ∀ v, hX7_leastDeadline_92 N m v (nI i) I = hX7_leastDeadline_4 N m v (nI (i + 1)) I := fun v => by
          rw [eX7_leastDeadline_92, l1, nI_add]
        rw [if_neg (fun z => hin (by have := (cge (by omega) (by omega)).mp z; omega)), ckI hi1 (by decide), ckI hi1 (by decide), nI_clamp (n := i) (by omega), e13]
        by_cases hne : qs i = []
        · have e : lsA r qs (i + 1) = lsA r qs i := by
            show (qs i).foldl (lsd r) (lsA r qs i) = _
            rw [hne]; rfl
          obtain ⟨k, rfl⟩ : ∃ k, N = k + 1 := ⟨N - 1, by omega⟩
          rw [hne, eX7_leastDeadline_34, if_pos (by decide), e92]
          have := ih (i + 1) (by omega) (by omega) (by rw [e]; exact hz)
          rw [e] at this
          exact this
        · have e11 : I 11 i = hde (c i) mI := by
            rw [gS10 (by decide)] at q2
            cases hc : c i with
            | nil =>
              rw [hc] at hl
              exact absurd (List.length_eq_zero_iff.mp hl.symm) hne
            | cons x t => exact q2 x (by rw [hc]; rfl)
          obtain ⟨a1, a2⟩ := leastIn_loop (N := N) (n4 := m) (q := i) (n := (qs i).length) hn h6 hb h7 (by omega) (qs i) (c i) N (lsA r qs i) (by omega) (Nat.le_refl _) hmap q4 (fun j hj => by
            have := ((h1.2.2.2.1 i (by omega)).2 j hj).1
            omega) hz (hp i hi1)
          rw [Nat.sub_self] at a1
          rw [e11, a1, e92]
          exact ih (i + 1) (by omega) (by omega) a2
  rw [eX7_leastDeadline, eX7_leastDeadline_0, l0]
  exact key N 0 (by decide) (by omega) (fun y hy => by cases hy)
