/-! ===== the reference: the link from a to b ===== -/
/-- the first of the links from i on, k of them left -/
def lkF (r : Nat → Nat) (a b : Nat) (i : Nat) : Nat → Option Nat
  | 0 => none
  | k + 1 => if lkp r i 0 = a ∧ lkp r i 1 = b then some i else lkF r a b (i + 1) k
theorem pX9_linkIn {N a b : Nat} {r : Nat → Nat} {I : gM} (hr : ∀ k, k < 65 → I 0 k = nI (r k)) (h14 : r 1 ≤ 14) (hlk : ∀ k, k < r 1 → lkp r k 0 < 10 ∧ lkp r k 1 < 10) (ha : a < 2 ^ 31) (hb : b < 2 ^ 31) (hN : 1000 ≤ N) :
    fX9_linkIn N [.ref 0, .int (nI a), .int (nI b)] I = some (.inl (some (.int (lsI (lkF r a b 0 (r 1))))), I) := by
  have l0 : (0 : Int32) = nI 0 := rfl
  have l1 : (1 : Int32) = nI 1 := rfl
  have l4 : (4 : Int32) = nI 4 := rfl
  have l9 : (9 : Int32) = nI 9 := rfl
  have lm : (-1 : Int32) = mI := rfl
  have key : ∀ m i : Nat, i ≤ r 1 → r 1 - i < m → hX9_linkIn_2 N m (nI a) (nI b) (nI i) I = some (.inl (some (.int (lsI (lkF r a b i (r 1 - i))))), I) := by
    intro m
    induction m with
    | zero => intro i _ h; omega
    | succ m ih =>
      intro i hi hm
      rw [eX9_linkIn_2, lm, l0, l1, l4, l9, ckI (by decide) (by decide), nI_clamp (n := 1) (by decide), hr 1 (by decide)]
      by_cases hin : i = r 1
      · subst hin
        rw [if_pos ((cge (by omega) (by omega)).mpr (Nat.le_refl _)), Nat.sub_self]
        rfl
      · have hir : i < r 1 := by omega
        obtain ⟨f1, f2⟩ := hlk i hir
        have e0 : gb_add (gb_add (nI 9) (gb_mul (nI 4) (nI i))) (nI 0) = nI (9 + 4 * i + 0) := by
          simp only [gb_add, gb_mul, pk_mul, nI_add]
        have e1 : gb_add (gb_add (nI 9) (gb_mul (nI 4) (nI i))) (nI 1) = nI (9 + 4 * i + 1) := by
          simp only [gb_add, gb_mul, pk_mul, nI_add]
        have h0 : I 0 (9 + 4 * i + 0) = nI (lkp r i 0) := hr _ (by omega)
        have h1 : I 0 (9 + 4 * i + 1) = nI (lkp r i 1) := hr _ (by omega)
        have e39 : hX9_linkIn_39 N m (nI a) (nI b) (nI i) I = some (.inl (some (.int (lsI (lkF r a b (i + 1) (r 1 - (i + 1)))))), I) := by
          rw [eX9_linkIn_39, l1, nI_add]
          exact ih (i + 1) (by omega) (by omega)
        have ek : lkF r a b i (r 1 - i) = if lkp r i 0 = a ∧ lkp r i 1 = b then some i else lkF r a b (i + 1) (r 1 - (i + 1)) := by
          rw [show r 1 - i = (r 1 - (i + 1)) + 1 by omega]; rfl
        rw [if_neg (fun z => hin (by have := (cge (by omega) (by omega)).mp z; omega)), e0, e1, ckI (by omega) (by decide), ckI (by omega) (by decide), nI_clamp (n := 9 + 4 * i + 0) (by omega), nI_clamp (n := 9 + 4 * i + 1) (by omega), h0, h1, ek, e39]
        by_cases c0 : lkp r i 0 = a
        · rw [if_neg (by rw [cne (by omega) ha]; exact fun z => z c0)]
          by_cases c1 : lkp r i 1 = b
          · rw [if_neg (by rw [cne (by omega) hb]; exact fun z => z c1), if_pos ⟨c0, c1⟩]; rfl
          · rw [if_pos (by rw [cne (by omega) hb]; exact c1), if_neg (fun z => c1 z.2)]
        · rw [if_pos (by rw [cne (by omega) ha]; exact c0), if_neg (fun z => c0 z.1)]
  rw [eX9_linkIn, eX9_linkIn_0, l0]
  have := key N 0 (Nat.zero_le _) (by omega)
  rwa [Nat.sub_zero] at this
