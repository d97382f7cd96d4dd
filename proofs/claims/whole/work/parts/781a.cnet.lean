/-! ===== the class's Net (places 0..8): what its methods do, in its own numbers ===== -/
theorem fa_lit (n : Nat) : (OfNat.ofNat n : Int32) = nI n := rfl
theorem pX8_pair (N a b : Nat) (I : gM) : fX8_pair N [.int (nI a), .int (nI b)] I = some (.inl (some (.int (nI (a * 10 + b)))), I) := by
  rw [eX8_pair, eX8_pair_0]
  simp only [gb_add, gb_mul, fa_lit, pk_mul, nI_add]
theorem pX2_getNumber (N : Nat) {f w : Nat} (I : gM) (h : f * 11 + w < 66) : fX2_getNumber N [.ref 0, .int (nI f), .int (nI w)] I = some (.inl (some (.int (I 7 (f * 11 + w)))), I) := by
  rw [eX2_getNumber, eX2_getNumber_0]
  simp only [gb_add, gb_mul, fa_lit, pk_mul, nI_add]
  rw [ckI h (by decide), nI_clamp (by omega)]
theorem pX2_putNumber (N : Nat) {f w : Nat} (x : Int32) (I : gM) (h : f * 11 + w < 66) : fX2_putNumber N [.ref 0, .int (nI f), .int (nI w), .int x] I = some (.inl none, gU I 7 (f * 11 + w) x) := by
  rw [eX2_putNumber, eX2_putNumber_0]
  simp only [gb_add, gb_mul, fa_lit, pk_mul, nI_add]
  rw [ckI h (by decide), nI_clamp (by omega)]
theorem pX2_addNumber (N : Nat) {f w : Nat} (x : Int32) (I : gM) (h : f * 11 + w < 66) : fX2_addNumber N [.ref 0, .int (nI f), .int (nI w), .int x] I = some (.inl none, gU I 7 (f * 11 + w) (I 7 (f * 11 + w) + x)) := by
  rw [eX2_addNumber, eX2_addNumber_0]
  simp only [gb_add, gb_mul, fa_lit, pk_mul, nI_add]
  rw [ckI h (by decide), ckI h (by decide), nI_clamp (by omega)]
/-- a loop by what is left -/
theorem lp_ind {P : Nat → Nat → Prop} (e : Nat) (h0 : ∀ n, P (n + 1) e) (hs : ∀ n i, i < e → P n (i + 1) → P (n + 1) i) : ∀ k n i, i + k = e → k < n → P n i
  | 0, n + 1, i, h, _ => by
    have : i = e := by omega
    rw [this]; exact h0 n
  | k + 1, n + 1, i, h, hk => hs n i (by omega) (lp_ind e h0 hs k n (i + 1) (by omega) (by omega))
theorem lp_ind0 {P : Nat → Nat → Prop} (e : Nat) {n i : Nat} (hi : i ≤ e) (hn : e - i < n) (h0 : ∀ n, P (n + 1) e) (hs : ∀ n i, i < e → P n (i + 1) → P (n + 1) i) : P n i :=
  lp_ind e h0 hs (e - i) n i (by omega) hn
/-- the first link from a to b, or NONE -/
def cfind (I : gM) (a b : Int32) (n : Nat) : Nat → Int32
  | 0 => mI
  | k + 1 => if I 1 (n - (k + 1)) = a ∧ I 2 (n - (k + 1)) = b then nI (n - (k + 1)) else cfind I a b n k
theorem pX2_findLink (N : Nat) {n : Nat} (a b : Int32) (I : gM) (hn : I 0 1 = nI n) (hn14 : n ≤ 14) (hN : 20 ≤ N) : fX2_findLink N [.ref 0, .int a, .int b] I = some (.inl (some (.int (cfind I a b n n))), I) := by
  rw [eX2_findLink, eX2_findLink_0]
  have key : ∀ m i : Nat, (i ≤ n → n - i < m → hX2_findLink_2 N m a b (nI i) I = some (.inl (some (.int (cfind I a b n (n - i)))), I)) := by
    intro m
    induction m with
    | zero => intro i _ h; omega
    | succ m ih =>
      intro i hi hm
      rw [eX2_findLink_2, hn]
      by_cases hin : i = n
      · subst hin
        rw [if_pos ((cge (by omega) (by omega)).mpr (Nat.le_refl _)), Nat.sub_self]
        rfl
      · rw [if_neg (fun z => hin (by have := (cge (by omega) (by omega)).mp z; omega)), ckI (by omega) (by decide), nI_clamp (by omega)]
        have e1 : n - i = (n - (i + 1)) + 1 := by omega
        have e2 : n - (n - (i + 1) + 1) = i := by omega
        rw [e1]
        unfold cfind
        rw [e2]
        have hstep : hX2_findLink_32 N m a b (nI i) I = some (.inl (some (.int (cfind I a b n (n - (i + 1))))), I) := by
          rw [eX2_findLink_32, nI_1]
          exact ih (i + 1) (by omega) (by omega)
        by_cases h1 : I 1 i = a
        · rw [if_neg (by simp [h1]), ckI (by omega) (by decide)]
          by_cases h2 : I 2 i = b
          · rw [if_neg (by simp [h2]), if_pos ⟨h1, h2⟩]
          · rw [if_pos (by simp [h2]), if_neg (fun z => h2 z.2)]
            exact hstep
        · rw [if_pos (by simp [h1]), if_neg (fun z => h1 z.1)]
          exact hstep
  have := key N 0 (Nat.zero_le _) (by omega)
  rwa [Nat.sub_zero] at this
theorem pX2_sumNumber (N : Nat) {n w : Nat} (I : gM) (hn : I 0 2 = nI n) (hn6 : n ≤ 6) (hw : w < 11) (hN : 20 ≤ N) : fX2_sumNumber N [.ref 0, .int (nI w)] I = some (.inl (some (.int ((List.range n).foldl (fun z f => z + I 7 (f * 11 + w)) 0))), I) := by
  rw [eX2_sumNumber, eX2_sumNumber_0]
  have key : ∀ m i : Nat, (i ≤ n → n - i < m → hX2_sumNumber_4 N m (nI w) ((List.range i).foldl (fun z f => z + I 7 (f * 11 + w)) 0) (nI i) I = some (.inl (some (.int ((List.range n).foldl (fun z f => z + I 7 (f * 11 + w)) 0))), I)) := by
    intro m
    induction m with
    | zero => intro i _ h; omega
    | succ m ih =>
      intro i hi hm
      rw [eX2_sumNumber_4, hn]
      by_cases hin : i = n
      · subst hin
        rw [if_pos ((cge (by omega) (by omega)).mpr (Nat.le_refl _))]
      · rw [if_neg (fun z => hin (by have := (cge (by omega) (by omega)).mp z; omega)), pX2_getNumber N _ (by omega), hI_mk, gMg_same _ (by decide), gS_rg (by decide) (by decide), nI_1]
        have := ih (i + 1) (by omega) (by omega)
        rw [List.range_succ, List.foldl_append] at this
        exact this
  exact key N 0 (Nat.zero_le _) (by omega)
