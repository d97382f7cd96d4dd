/-- a flow's packets of a slot, and its shadow -/
def arvS (σ : St) (f : Nat) : St := (arvN σ.1 f (min (gA σ.1 f) (500 - σ.2.length)), σ.2 ++ List.replicate (min (gA σ.1 f) (500 - σ.2.length)) (newP σ.1 f))
def arvAll (σ : St) : Nat → St
  | 0 => σ
  | f + 1 => arvS (arvAll σ f) f
theorem arvN_n {r : Nat → Nat} {f k i : Nat} (h : i < 145 ∧ i ≠ 65 + 11 * f + 4 ∧ i ≠ 65 + 11 * f + 5) : arvN r f k i = r i := by
  show up1 (arrN r f _ k) _ _ i = r i
  rw [up1_n (by omega), arrN_n (by omega) (by omega)]
theorem arvS_len (σ : St) (f : Nat) (h : σ.2.length ≤ 500) : (arvS σ f).2.length ≤ 500 := by
  show (σ.2 ++ List.replicate _ _).length ≤ 500
  rw [List.length_append, List.length_replicate]; omega
/-- what arrivals leave as it is -/
theorem arvAll_n (σ : St) : ∀ (m i : Nat), (i < 69 ∨ (131 ≤ i ∧ i < 145) ∨ ∃ f w, i = 65 + 11 * f + w ∧ w < 11 ∧ w ≠ 4 ∧ w ≠ 5) → i < 145 → m ≤ 6 → (arvAll σ m).1 i = σ.1 i
  | 0, _, _, _, _ => rfl
  | m + 1, i, h, hi, hm => by
    show arvN (arvAll σ m).1 m _ i = _
    rw [arvN_n, arvAll_n σ m i h hi (by omega)]
    rcases h with h | h | ⟨f, w, e, h1, h2, h3⟩
    · omega
    · omega
    · omega
theorem arvAll_len (σ : St) (h : σ.2.length ≤ 500) : ∀ m, (arvAll σ m).2.length ≤ 500
  | 0 => h
  | m + 1 => arvS_len _ _ (arvAll_len σ h m)
theorem pX9_arrivals {N : Nat} {σ : St} {M : gM} (hr : RowIs (M 3) σ) (hl : σ.2.length ≤ 500) (h6 : σ.1 2 ≤ 6) (h4 : σ.1 4 ≤ 50) (h7 : σ.1 7 ≤ 10100) (hf : ∀ f, f < σ.1 2 → flp σ.1 f 0 < 10 ∧ flp σ.1 f 1 < 10 ∧ flp σ.1 f 2 ≤ 300) (hN : 1000 ≤ N) :
    ∃ J, fX9_arrivals N [.ref 0] M = some (.inl none, J) ∧ RowIs (J 3) (arvAll σ (σ.1 2)) ∧ ∀ k, k ≠ 3 → J k = M k := by
  have l0 : (0 : Int32) = nI 0 := rfl
  have l1 : (1 : Int32) = nI 1 := rfl
  have l2 : (2 : Int32) = nI 2 := rfl
  have l4 : (4 : Int32) = nI 4 := rfl
  have l7 : (7 : Int32) = nI 7 := rfl
  have l10 : (10 : Int32) = nI 10 := rfl
  have l145 : (145 : Int32) = nI 145 := rfl
  have l100 : (100 : Int32) = nI 100 := rfl
  have l10000 : (10000 : Int32) = nI 10000 := rfl
  have key : ∀ m i : Nat, i ≤ σ.1 2 → σ.1 2 - i < m → ∀ K : gM, RowIs (K 3) (arvAll σ i) → (∀ k, k ≠ 3 → K k = M k) → ∃ J, hX9_arrivals_2 N m (nI i) K = some (.inl none, J) ∧ RowIs (J 3) (arvAll σ (σ.1 2)) ∧ ∀ k, k ≠ 3 → J k = M k := by
    intro m
    induction m with
    | zero => intro i _ h; omega
    | succ m ih =>
      intro i hi hm K hk ho
      have hlen := arvAll_len σ hl i
      have a2 := arvAll_n σ i 2 (Or.inl (by decide)) (by decide) (by omega)
      have a4 := arvAll_n σ i 4 (Or.inl (by decide)) (by decide) (by omega)
      have a7 := arvAll_n σ i 7 (Or.inl (by decide)) (by decide) (by omega)
      rw [eX9_arrivals_2, l2, l7, l100, ckI (by decide) (by decide), nI_clamp (n := 2) (by decide), hk.1 2 (by decide), a2]
      by_cases hin : i = σ.1 2
      · subst hin
        rw [if_pos ((cge (by omega) (by omega)).mpr (Nat.le_refl _))]
        exact ⟨K, rfl, hk, ho⟩
      · rw [if_neg (fun z => hin (by have := (cge (by omega) (by omega)).mp z; omega))]
        have hi2 : i < σ.1 2 := by omega
        obtain ⟨s0, s1, s2⟩ := hf i hi2
        have af : ∀ w, w < 11 → w ≠ 4 → w ≠ 5 → flp (arvAll σ i).1 i w = flp σ.1 i w := fun w h1 h2 h3 => arvAll_n σ i _ (Or.inr (Or.inr ⟨i, w, rfl, h1, h2, h3⟩)) (by omega) (by omega)
        generalize hτ : arvAll σ i = τ at hk hlen a2 a4 a7 af
        have t0 : flp τ.1 i 0 < 10 := by rw [af 0 (by decide) (by decide) (by decide)]; exact s0
        have t1 : flp τ.1 i 1 < 10 := by rw [af 1 (by decide) (by decide) (by decide)]; exact s1
        have t2 : flp τ.1 i 2 ≤ 300 := by rw [af 2 (by decide) (by decide) (by decide)]; exact s2
        have hA := gA_le t2
        have b1 := mul_le2 (show τ.1 7 + 1 ≤ 10101 by omega) t2
        have b2 := mul_le2 t2 (show 100 + τ.1 4 ≤ 150 by omega)
        have b3 := mul_le2 (show τ.1 7 + 1 ≤ 10101 by omega) b2
        rw [ckI (by decide) (by decide), nI_clamp (n := 7) (by decide), r_flow (by omega), hk.1 (65 + 11 * i + 2) (by omega), hk.1 7 (by decide)]
        show ∃ J, (hI (fX9_grown N [.int (nI (τ.1 7)), .int (nI (flp τ.1 i 2)), .int (nI 100)] (gS [] K)) [] K _) = _ ∧ _
        rw [r_grown (by decide) (by decide) (by omega)]
        show ∃ J, (hI (fX9_arrive N [.ref 0, .int (nI i), .int (nI (gA τ.1 i))] (gS (rg 0 18) K)) (rg 0 18) K _) = _ ∧ _
        obtain ⟨J, j0, j1, j2⟩ := pX9_arrive (N := N) (M := gS (rg 0 18) K) (n := gA τ.1 i) (f := i) (by rw [gSm18 (by decide)]; exact hk) hlen (by omega) t0 (by omega) hN
        have j1' : RowIs ((gMg (rg 0 18) K J) 3) (arrN τ.1 i (gA τ.1 i) (min (gA τ.1 i) (500 - τ.2.length)), τ.2 ++ List.replicate (min (gA τ.1 i) (500 - τ.2.length)) (newP τ.1 i)) := by rw [gM18 (by decide)]; exact j1
        have j2' := rlift (t := fun k => k = 3) j2
        rw [j0, hI_mk]
        generalize gMg (rg 0 18) K J = L at j1' j2'
        have e : ∀ x, x ≠ 65 + 11 * i + 4 → x ≠ 65 + 11 * i + 5 → arrN τ.1 i (gA τ.1 i) (min (gA τ.1 i) (500 - τ.2.length)) x = τ.1 x := fun x a b => arrN_n a b
        have rL : ∀ x, x < 245 → x ≠ 65 + 11 * i + 4 → x ≠ 65 + 11 * i + 5 → L 3 x = nI (τ.1 x) := fun x h1 h2 h3 => by rw [j1'.1 x h1]; exact congrArg nI (e x h2 h3)
        have hfq : fq τ.1 i < 100 := by unfold fq; omega
        rw [eX9_arrivals_35, l0, l1, l2, l7, l10, l145, r_flow (by omega), r_flow (by omega), rL (65 + 11 * i + 0) (by omega) (by omega) (by omega), rL (65 + 11 * i + 1) (by omega) (by omega) (by omega)]
        simp only [gb_mul, gb_add, nI_add, pk_mul]
        have ei : 145 + 10 * τ.1 (65 + 11 * i + 0) + τ.1 (65 + 11 * i + 1) = 145 + fq τ.1 i := by
          show 145 + 10 * flp τ.1 i 0 + flp τ.1 i 1 = 145 + (flp τ.1 i 0 * 10 + flp τ.1 i 1)
          omega
        rw [ei, ckI (by omega) (by decide), ckI (by decide) (by decide), nI_clamp (n := 145 + fq τ.1 i) (by omega), nI_clamp (n := 7) (by decide), r_flow (by omega), rL (145 + fq τ.1 i) (by omega) (by omega) (by omega), rL (65 + 11 * i + 2) (by omega) (by omega) (by omega), rL 7 (by decide) (by omega) (by omega), eX9_arrivals_77, l4, l100, l10000, ckI (by decide) (by decide), nI_clamp (n := 4) (by decide), rL 4 (by decide) (by omega) (by omega)]
        simp only [gb_mul, gb_add, nI_add, pk_mul]
        show ∃ J, (hI (fX9_grown N [.int (nI (τ.1 7)), .int (nI (flp τ.1 i 2 * (100 + τ.1 4))), .int (nI 10000)] (gS [] L)) [] L _) = _ ∧ _
        rw [r_grown (by decide) (by decide) (by omega), ckI (by omega) (by decide), nI_clamp (by omega), l1, nI_add, nI_add]
        refine ih (i + 1) (by omega) (by omega) _ ?_ (fun k hk3 => (gU_ok hk3).trans ((j2' k hk3).trans (ho k hk3)))
        show RowIs _ (arvS (arvAll σ i) i)
        rw [hτ, gU_u3]
        exact j1'.put (show 145 + fq τ.1 i < 245 by omega)
  rw [eX9_arrivals, eX9_arrivals_0]
  exact key N 0 (Nat.zero_le _) (by omega) M hr (fun _ _ => rfl)
