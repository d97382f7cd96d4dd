/-! ===== the reference: a row is copied ===== -/
theorem pX9_copy {N n1 n2 a b : Nat} {I : gM} (h1 : a + 2746 ≤ n1) (h2 : b + 2746 ≤ n2) (hn1 : n1 < 2 ^ 31) (hn2 : n2 < 2 ^ 31) (hN : 3000 ≤ N) :
    ∃ J, fX9_copy N n1 n2 [.ref 0, .int (nI a), .ref 1, .int (nI b)] I = some (.inl none, J) ∧ (∀ k, k < 2746 → J 1 (b + k) = I 0 (a + k)) ∧ (∀ x, (x < b ∨ b + 2746 ≤ x) → J 1 x = I 1 x) ∧ ∀ k, k ≠ 1 → J k = I k := by
  have l0 : (0 : Int32) = nI 0 := rfl
  have l1 : (1 : Int32) = nI 1 := rfl
  have l2746 : (2746 : Int32) = nI 2746 := rfl
  have key : ∀ m i : Nat, i ≤ 2746 → 2746 - i < m → ∀ K : gM, (∀ k, k < i → K 1 (b + k) = I 0 (a + k)) → (∀ x, (x < b ∨ b + 2746 ≤ x) → K 1 x = I 1 x) → (∀ k, k ≠ 1 → K k = I k) →
      ∃ J, hX9_copy_3 N n1 n2 m (nI a) (nI b) (nI i) K = some (.inl none, J) ∧ (∀ k, k < 2746 → J 1 (b + k) = I 0 (a + k)) ∧ (∀ x, (x < b ∨ b + 2746 ≤ x) → J 1 x = I 1 x) ∧ ∀ k, k ≠ 1 → J k = I k := by
    intro m
    induction m with
    | zero => intro i _ h; omega
    | succ m ih =>
      intro i hi hm K hk ho hr
      rw [eX9_copy_3, l2746, l1]
      by_cases hin : i = 2746
      · subst hin
        rw [if_pos ((cge (by omega) (by omega)).mpr (Nat.le_refl _))]
        exact ⟨K, rfl, hk, ho, hr⟩
      · have e1 : gb_add (nI a) (nI i) = nI (a + i) := nI_add _ _
        have e2 : gb_add (nI b) (nI i) = nI (b + i) := nI_add _ _
        rw [if_neg (fun z => hin (by have := (cge (by omega) (by omega)).mp z; omega)), e1, e2, ckI (by omega) hn1, ckI (by omega) hn2, nI_clamp (n := a + i) (by omega), nI_clamp (n := b + i) (by omega), nI_add]
        refine ih (i + 1) (by omega) (by omega) _ (fun k hk1 => ?_) (fun x hx => ?_) (fun k hk1 => (gU_ok hk1).trans (hr k hk1))
        · by_cases e : k = i
          · rw [e, gU_us, hr 0 (by decide)]
          · rw [gU_un (Or.inr (by omega))]; exact hk k (by omega)
        · rw [gU_un (Or.inr (by omega))]; exact ho x hx
  rw [eX9_copy, eX9_copy_0, l0]
  exact key N 0 (Nat.zero_le _) (by omega) I (fun k h => absurd h (Nat.not_lt_zero _)) (fun _ _ => rfl) (fun _ _ => rfl)
/-! ===== the class: the least deadline ===== -/
/-- of two deadlines the lesser, NONE being none -/
def lsd (r : Nat → Nat) (z : Option Nat) (p : Pk) : Option Nat := if flp r p.1 3 = 0 then z else match z with
  | none => some (p.2.1 + flp r p.1 3)
  | some y => if p.2.1 + flp r p.1 3 < y then some (p.2.1 + flp r p.1 3) else some y
def lsI (z : Option Nat) : Int32 := match z with
  | none => mI
  | some y => nI y
def lsA (r : Nat → Nat) (qs : Nat → List Pk) : Nat → Option Nat
  | 0 => none
  | q + 1 => (qs q).foldl (lsd r) (lsA r qs q)
theorem lsd_lt {r : Nat → Nat} {z : Option Nat} {p : Pk} (hz : ∀ y, z = some y → y < 2 ^ 31) (hp : p.2.1 + flp r p.1 3 < 2 ^ 31) : ∀ y, lsd r z p = some y → y < 2 ^ 31 := by
  intro y hy
  unfold lsd at hy
  split at hy
  · exact hz y hy
  · cases z with
    | none => have := Option.some.inj hy; omega
    | some w =>
      have hw := hz w rfl
      have hy' : (if p.2.1 + flp r p.1 3 < w then some (p.2.1 + flp r p.1 3) else some w) = some y := hy
      split at hy'
      · have := Option.some.inj hy'; omega
      · have := Option.some.inj hy'; omega
theorem leastIn_loop {N n4 q n : Nat} {I : gM} {r : Nat → Nat} (hn : CN I r) (h6 : r 2 ≤ 6) (hb : ∀ f, f < r 2 → flp r f 3 ≤ 200) (h7 : r 7 ≤ 10100) (hn5 : n ≤ 500) :
    ∀ (lt : List Pk) (ct : List Nat) (m : Nat) (z : Option Nat), lt.length < m → lt.length ≤ n → ct.map (dt I) = lt.map pd → nxe (I 15) ct mI → (∀ i ∈ ct, i < 500) → (∀ y, z = some y → y < 2 ^ 31) → (∀ p ∈ lt, p.1 < r 2 ∧ p.2.1 ≤ r 7) →
      hX7_leastDeadline_34 N n4 m (lsI z) (nI q) (nI n) (hde ct mI) (nI (n - lt.length)) I = hX7_leastDeadline_92 N n4 (lsI (lt.foldl (lsd r) z)) (nI q) I ∧ ∀ y, lt.foldl (lsd r) z = some y → y < 2 ^ 31 := by
  intro lt
  induction lt with
  | nil =>
    intro ct m z hm _ hct _ _ hz _
    obtain ⟨m, rfl⟩ : ∃ k, m = k + 1 := ⟨m - 1, by have : ([] : List Pk).length = 0 := rfl; omega⟩
    have e0 : ([] : List Pk).length = 0 := rfl
    rw [eX7_leastDeadline_34, if_pos ((cge (a := n - ([] : List Pk).length) (by omega) (by omega)).mpr (by omega))]
    exact ⟨rfl, hz⟩
  | cons p lt ih =>
    intro ct m z hm hln hct hnx hlt hz hpl
    obtain ⟨m, rfl⟩ : ∃ k, m = k + 1 := ⟨m - 1, by have : (p :: lt).length = lt.length + 1 := rfl; omega⟩
    have hll : (p :: lt).length = lt.length + 1 := rfl
    rw [List.map_cons] at hct
    obtain ⟨i, ct, rfl, hdi, hct⟩ := map_cons_inv hct
    have lm : (-1 : Int32) = mI := rfl
    have l1 : (1 : Int32) = nI 1 := rfl
    have hi5 := hlt i List.mem_cons_self
    obtain ⟨p1, p2⟩ := hpl p List.mem_cons_self
    have hb3 := hb p.1 p1
    have hd4 : (I 16 i, I 17 i, I 18 i, I 19 i) = (nI p.1, nI p.2.1, nI p.2.2.1, nI p.2.2.2.1) := hdi
    have d16 : I 16 i = nI p.1 := (Prod.mk.inj hd4).1
    have d17 : I 17 i = nI p.2.1 := (Prod.mk.inj (Prod.mk.inj hd4).2).1
    have hnx1 : I 15 i = hde ct mI := hnx.1
    have go := ih ct m (lsd r z p) (by omega) (by omega) hct hnx.2 (fun j hj => hlt j (List.mem_cons_of_mem _ hj)) (lsd_lt hz (by omega)) (fun q hq => hpl q (List.mem_cons_of_mem _ hq))
    have e74 : ∀ v, hX7_leastDeadline_74 N n4 m v (nI q) (nI n) (nI i) (nI (n - (p :: lt).length)) I = hX7_leastDeadline_34 N n4 m v (nI q) (nI n) (hde ct mI) (nI (n - lt.length)) I := fun v => by
      rw [eX7_leastDeadline_74, ckI (by omega) (by decide), nI_clamp (by omega), hnx1, l1, nI_add, show n - (p :: lt).length + 1 = n - lt.length by omega]
    refine ⟨?_, go.2⟩
    show hX7_leastDeadline_34 N n4 (m + 1) (lsI z) (nI q) (nI n) (nI i) (nI (n - (p :: lt).length)) I = hX7_leastDeadline_92 N n4 (lsI (lt.foldl (lsd r) (lsd r z p))) (nI q) I
    rw [← go.1, eX7_leastDeadline_34, lm, if_neg (by rw [cge (by omega) (by omega)]; omega), if_neg (by rw [ceqm (by omega)]; exact id), s_deadline hn h6 p1 hb3 hi5 d16 d17]
    unfold dln lsd
    by_cases h0 : flp r p.1 3 = 0
    · rw [if_pos h0, if_pos h0, if_pos (by decide), e74]
    · rw [if_neg h0, if_neg h0, if_neg (by rw [ceqm (by omega)]; exact id)]
      cases z with
      | none =>
        show (if gc_eq mI mI = true then _ else _) = _
        rw [if_pos (by decide), eX7_leastDeadline_71, e74]
        rfl
      | some y =>
        have hy := hz y rfl
        show (if gc_eq (nI y) mI = true then _ else (if gc_ge (nI (p.2.1 + flp r p.1 3)) (nI y) = true then _ else _)) = _
        rw [if_neg (by rw [ceqm hy]; exact id)]
        by_cases hlt : p.2.1 + flp r p.1 3 < y
        · rw [if_neg (by rw [cge (by omega) hy]; omega), eX7_leastDeadline_71, e74]
          show _ = hX7_leastDeadline_34 N n4 m (lsI (if p.2.1 + flp r p.1 3 < y then some (p.2.1 + flp r p.1 3) else some y)) (nI q) (nI n) (hde ct mI) (nI (n - lt.length)) I
          rw [if_pos hlt]; rfl
        · rw [if_pos (by rw [cge (by omega) hy]; omega)]
          show hX7_leastDeadline_74 N n4 m (nI y) (nI q) (nI n) (nI i) (nI (n - (p :: lt).length)) I = hX7_leastDeadline_34 N n4 m (lsI (if p.2.1 + flp r p.1 3 < y then some (p.2.1 + flp r p.1 3) else some y)) (nI q) (nI n) (hde ct mI) (nI (n - lt.length)) I
          rw [if_neg hlt, e74]; rfl
