/-! ===== the empty net, on both sides ===== -/
def rz (n : Nat) : Nat → Nat := fun x => if x = 0 then n else if x = 4 then 10 else 0
theorem rz_wk {n : Nat} : ∀ k a b, k ≠ 0 → ¬ wk (rz n) k a b := fun k a b hk h => by
  cases k with
  | zero => exact hk rfl
  | succ k =>
    obtain ⟨j, hj, -⟩ := h
    exact absurd hj (Nat.not_lt_zero _)
theorem rz_isD {n a b : Nat} (h2 : 1 ≤ n) : isD (rz n) a b (if a = b then 0 else n) := by
  by_cases e : a = b
  · rw [if_pos e]
    exact ⟨Nat.zero_le _, fun _ => e, fun k hk => absurd hk (Nat.not_lt_zero _)⟩
  · rw [if_neg e]
    refine ⟨Nat.le_refl _, fun h => absurd h (Nat.lt_irrefl _), fun k _ hw => ?_⟩
    cases k with
    | zero => exact e hw
    | succ k => exact rz_wk (k + 1) a b (Nat.succ_ne_zero _) hw
theorem pX2_clear {N n : Nat} {I : gM} (h1 : 1 ≤ n) (h10 : n ≤ 10) (hN : 1000 ≤ N) : ∃ J, fX2_clear N [.ref 0, .int (nI n)] I = some (.inl none, J) ∧ CN (sh1 J) (rz n) ∧ ∀ k, 9 ≤ k → J k = I k := by
  have l0 : (0 : Int32) = nI 0 := rfl
  have n1 : (1 : Int32).toNatClampNeg = 1 := by decide
  have l1 : (1 : Int32) = nI 1 := rfl
  have c41 : ∀ X : gO, ck 4 1 X = X := fun X => by rw [l1, ckI (by decide) (by decide)]
  obtain ⟨F, f0, f1, f2, f3⟩ := pJF_fill (N := N) (n := 4) (x := 0) (I := gS [6] (gU (gU (gU I 0 0 (nI n)) 0 1 0) 0 2 0)) (by decide) (by omega)
  obtain ⟨G, g0, g1, g2, g3⟩ := pJF_fill (N := N) (n := 100) (x := nI n) (I := gS [8] (gU (gMg [6] (gU (gU (gU I 0 0 (nI n)) 0 1 0) 0 2 0) F) 6 1 10)) (by decide) (by omega)
  have key : ∀ m i : Nat, i ≤ n → n - i < m → ∀ K : gM, (∀ a b, a < n → b < n → K 8 (a * 10 + b) = nI (if a = b ∧ a < i then 0 else n)) → ∃ J, hX2_clear_41 N m (nI n) (nI i) K = some (.inl none, J) ∧ (∀ a b, a < n → b < n → J 8 (a * 10 + b) = nI (if a = b then 0 else n)) ∧ ∀ k, k ≠ 8 → J k = K k := by
    intro m
    induction m with
    | zero => intro i _ h; omega
    | succ m ih =>
      intro i hi hm K hK
      rw [eX2_clear_41]
      by_cases hin : i = n
      · rw [if_pos ((cge (by omega) (by omega)).mpr (by omega))]
        refine ⟨K, rfl, fun a b ha hb => ?_, fun _ _ => rfl⟩
        rw [hK a b ha hb]
        by_cases e : a = b
        · rw [if_pos e, if_pos ⟨e, by omega⟩]
        · rw [if_neg e, if_neg (fun z => e z.1)]
      · rw [if_neg (fun z => hin (by have := (cge (by omega) (by omega)).mp z; omega)), s_pair, ckI (by omega) (by decide), nI_clamp (by omega), nI_s]
        obtain ⟨J, j0, j1, j2⟩ := ih (i + 1) (by omega) (by omega) (gU K 8 (i * 10 + i) 0) (fun a b ha hb => by
          by_cases e : a = i ∧ b = i
          · obtain ⟨rfl, rfl⟩ := e
            rw [gU_us, if_pos ⟨rfl, Nat.lt_succ_self _⟩]; rfl
          · rw [gU_un (Or.inr (by omega)), hK a b ha hb]
            by_cases e2 : a = b ∧ a < i
            · rw [if_pos e2, if_pos ⟨e2.1, by omega⟩]
            · rw [if_neg e2, if_neg (fun z => e2 ⟨z.1, by omega⟩)])
        exact ⟨J, j0, j1, fun k hk => by rw [j2 k hk, gU_ok hk]⟩
  have o1 : ∀ (A B : gM) (q k : Nat), k ≠ q → gMg [q] A B k = A k := fun A B q k hk => (gMg_rgo (b := q) (n := 1) (p := k) (I := A) (J := B) (by omega) : gMg (rg q 1) A B k = A k)
  have o2 : ∀ (A B : gM) (q : Nat), gMg [q] A B q = B 0 := fun A B q => (gMg_rgi (b := q) (n := 1) (j := 0) (I := A) (J := B) (by decide) : gMg (rg q 1) A B (q + 0) = B 0)
  obtain ⟨J, j0, j1, j2⟩ := key N 0 (Nat.zero_le _) (by omega) (gMg [8] (gU (gMg [6] (gU (gU (gU I 0 0 (nI n)) 0 1 0) 0 2 0) F) 6 1 10) G) (fun a b ha hb => by
    rw [o2, g1 _ (by omega), if_neg (fun z => absurd z.2 (Nat.not_lt_zero _))])
  rw [eX2_clear, eX2_clear_0, f0, hV_mk, c41, n1, g0, hV_mk, l0]
  refine ⟨J, j0, ⟨⟨?_, ?_, ?_⟩, fun k hk => absurd hk (Nat.not_lt_zero _), fun i hi => ?_, fun f w hf => absurd hf (Nat.not_lt_zero _), fun a b ha hb => ⟨_, rz_isD h1, j1 a b ha hb⟩⟩, fun k hk => ?_⟩
  · show J 0 0 = nI n
    rw [j2 0 (by decide), o1 _ _ 8 0 (by decide), gU_ok (by decide), o1 _ _ 6 0 (by decide), gU_un (Or.inr (by decide)), gU_un (Or.inr (by decide)), gU_us]
  · show J 0 1 = nI 0
    rw [j2 0 (by decide), o1 _ _ 8 0 (by decide), gU_ok (by decide), o1 _ _ 6 0 (by decide), gU_un (Or.inr (by decide)), gU_us]; rfl
  · show J 0 2 = nI 0
    rw [j2 0 (by decide), o1 _ _ 8 0 (by decide), gU_ok (by decide), o1 _ _ 6 0 (by decide), gU_us]; rfl
  · show J 6 i = nI (rz n (3 + i))
    rw [j2 6 (by decide), o1 _ _ 8 6 (by decide)]
    by_cases e : i = 1
    · subst e; rw [gU_us]; rfl
    · rw [gU_un (Or.inr e), o2, f1 i hi]
      have : rz n (3 + i) = 0 := by unfold rz; rw [if_neg (by omega), if_neg (by omega)]
      rw [this]; rfl
  · rw [j2 k (by omega), o1 _ _ 8 k (by omega), gU_ok (by omega), o1 _ _ 6 k (by omega), gU_ok (by omega), gU_ok (by omega), gU_ok (by omega)]
