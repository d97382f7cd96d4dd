/-! ===== the reference: small methods ===== -/
theorem gSm18 {I : gM} {j : Nat} (h : j < 18) : gS (rg 0 18) I j = I j := by
  rw [gS_rg h (by decide), Nat.zero_add]
theorem gMm18 (I : gM) : gMg (rg 0 18) I (gS (rg 0 18) I) = I := gMg_same I (by decide)
theorem gMu18 {I J : gM} {k j : Nat} {x : Int32} (h : k < 18) : gMg (rg 0 18) I (gU J k j x) = gU (gMg (rg 0 18) I J) k j x := by
  rw [gMg_U h, Nat.zero_add]
theorem gS_nil (I : gM) : gMg [] I (gS [] I) = I := rfl
/-- a boolean as a number -/
def b2 (b : Bool) : Int32 := if b then 1 else 0
theorem b2_t : b2 true = 1 := rfl
theorem b2_f : b2 false = 0 := rfl
theorem b2_z (b : Bool) : (gz_eq (b2 b) = true) = (b = false) := by cases b <;> simp [b2]
theorem b2_nz (b : Bool) : (gz_ne (b2 b) = true) = (b = true) := by cases b <;> simp [b2]
theorem b2_01 (b : Bool) : b2 b = 0 ∨ b2 b = 1 := by cases b <;> simp [b2]
theorem b2_one (b : Bool) : (gc_ne (b2 b) 1 = true) = (b = false) := by cases b <;> simp [b2]
theorem b2_if {P : Prop} (b : Bool) (h : (b = true) = P) [Decidable P] {X Y : gO} (hX : b = true → X = Y) (hY : b = false → X = Y) : X = Y := by
  cases b
  · exact hY rfl
  · exact hX rfl
theorem pX9_thrown (N : Nat) (I : gM) : fX9_thrown N [.ref 0] I = some (.inl (some (.int (I 0 0))), I) := by
  rw [eX9_thrown, eX9_thrown_0]
theorem pX9_in (N : Nat) (x lo hi : Int64) (I : gM) : fX9_in N [.long x, .long lo, .long hi] I = some (.inl (some (.int (b2 (decide (lo ≤ x ∧ x ≤ hi))))), I) := by
  rw [eX9_in, eX9_in_0]
  simp only [decide_eq_true_eq, lg_cmp_lt, lg_cmp_gt]
  by_cases h1 : x < lo
  · rw [if_pos h1, decide_eq_false (fun z => absurd z.1 (Int64.not_le.mpr h1))]; rfl
  · rw [if_neg h1]
    by_cases h2 : hi < x
    · rw [if_pos h2, decide_eq_false (fun z => absurd z.2 (Int64.not_le.mpr h2))]; rfl
    · rw [if_neg h2, decide_eq_true ⟨Int64.not_lt.mp h1, Int64.not_lt.mp h2⟩]; rfl
theorem pX9_fails (N : Nat) (g : Bool) (w : Int32) (I : gM) : fX9_fails N [.ref 0, .int (b2 g), .int w] I = some (.inl (some (.int (b2 (!g)))), if g then I else gU I 0 0 w) := by
  rw [eX9_fails, eX9_fails_0]
  cases g
  · rw [if_neg (by simp [b2]), eX9_fails_9, if_neg (by simp [b2])]; rfl
  · rw [if_pos (by simp [b2]), eX9_fails_9, if_pos (by simp [b2])]; rfl
theorem pX9_has (N : Nat) {s k : Nat} (I : gM) (hs : s < 2 ^ 31) (hk : k < 32) : fX9_has N [.int (nI s), .int (nI k)] I = some (.inl (some (.int (b2 (s.testBit k)))), I) := by
  rw [eX9_has, eX9_has_0]
  have e1 : gb_and (gb_shr (nI s) (nI k)) 1 = nI (bt s k) := btI hk hs
  rw [e1, bt_tb]
  cases s.testBit k <;> rfl
theorem pX9_linkPart (N : Nat) {k w : Nat} (I : gM) (h : 9 + 4 * k + w < 2746) : fX9_linkPart N [.ref 0, .int (nI k), .int (nI w)] I = some (.inl (some (.int (I 3 (9 + 4 * k + w)))), I) := by
  rw [eX9_linkPart, eX9_linkPart_0]
  simp only [gb_add, gb_mul, fa_lit, pk_mul, nI_add]
  rw [ckI h (by decide), nI_clamp (by omega)]
theorem pX9_flowPart (N : Nat) {k w : Nat} (I : gM) (h : 65 + 11 * k + w < 2746) : fX9_flowPart N [.ref 0, .int (nI k), .int (nI w)] I = some (.inl (some (.int (I 3 (65 + 11 * k + w)))), I) := by
  rw [eX9_flowPart, eX9_flowPart_0]
  simp only [gb_add, gb_mul, fa_lit, pk_mul, nI_add]
  rw [ckI h (by decide), nI_clamp (by omega)]
theorem pX9_packetPart (N : Nat) {k w : Nat} (I : gM) (h : 246 + 5 * k + w < 2746) : fX9_packetPart N [.ref 0, .int (nI k), .int (nI w)] I = some (.inl (some (.int (I 3 (246 + 5 * k + w)))), I) := by
  rw [eX9_packetPart, eX9_packetPart_0]
  simp only [gb_add, gb_mul, fa_lit, pk_mul, nI_add]
  rw [ckI h (by decide), nI_clamp (by omega)]
theorem pX9_shadowOf (N : Nat) {k w : Nat} (I : gM) (h : 145 + 10 * k + w < 2746) : fX9_shadowOf N [.ref 0, .int (nI k), .int (nI w)] I = some (.inl (some (.int (I 3 (145 + 10 * k + w)))), I) := by
  rw [eX9_shadowOf, eX9_shadowOf_0]
  simp only [gb_add, gb_mul, fa_lit, pk_mul, nI_add]
  rw [ckI h (by decide), nI_clamp (by omega)]
theorem pX9_count (N : Nat) {k w : Nat} (x : Int32) (I : gM) (h : 65 + 11 * k + w < 2746) : fX9_count N [.ref 0, .int (nI k), .int (nI w), .int x] I = some (.inl none, gU I 3 (65 + 11 * k + w) (I 3 (65 + 11 * k + w) + x)) := by
  rw [eX9_count, eX9_count_0]
  simp only [gb_add, gb_mul, fa_lit, pk_mul, nI_add]
  rw [ckI h (by decide), ckI h (by decide), nI_clamp (by omega)]
theorem pX9_goalOf (N : Nat) {k f : Nat} (I : gM) (h : 246 + 5 * k < 2746) (hf : I 3 (246 + 5 * k) = nI f) (hf6 : f < 6) : fX9_goalOf N [.ref 0, .int (nI k)] I = some (.inl (some (.int (I 3 (65 + 11 * f + 1)))), I) := by
  rw [eX9_goalOf, eX9_goalOf_0, fa_lit, pX9_packetPart N _ (by omega), hI_mk, gMm18, Nat.add_zero, gSm18 (by decide), hf, fa_lit, pX9_flowPart N (k := f) (w := 1) _ (by omega), hI_mk, gMm18, gSm18 (by decide)]
theorem pX9_isQueued (N : Nat) {k f : Nat} (a d : Int32) (I : gM) (h : 246 + 5 * k + 4 < 2746) (hf : I 3 (246 + 5 * k) = nI f) (hf6 : f < 6) : fX9_isQueued N [.ref 0, .int (nI k), .int a, .int d] I = some (.inl (some (.int (b2 (decide (I 3 (246 + 5 * k + 4) = a ∧ I 3 (65 + 11 * f + 1) = d))))), I) := by
  rw [eX9_isQueued, eX9_isQueued_0, fa_lit, pX9_packetPart N _ h, hI_mk, gMm18, gSm18 (by decide)]
  by_cases h1 : I 3 (246 + 5 * k + 4) = a
  · rw [if_neg (by simp [h1]), pX9_goalOf N _ (by omega) (by rw [gSm18 (by decide)]; exact hf) hf6, hI_mk, gMm18, gSm18 (by decide)]
    by_cases h2 : I 3 (65 + 11 * f + 1) = d
    · rw [if_neg (by simp [h2]), decide_eq_true ⟨h1, h2⟩]; rfl
    · rw [if_pos (by simp [h2]), decide_eq_false (fun z => h2 z.2)]; rfl
  · rw [if_pos (by simp [h1]), decide_eq_false (fun z => h1 z.1)]; rfl
theorem pX9_grown (N : Nat) {s b w : Nat} (I : gM) (hw : 0 < w) (hw2 : w < 2 ^ 31) (h : (s + 1) * b < 2 ^ 31) : fX9_grown N [.int (nI s), .int (nI b), .int (nI w)] I = some (.inl (some (.int (nI ((s + 1) * b / w - s * b / w)))), I) := by
  have h2 : s * b ≤ (s + 1) * b := Nat.mul_le_mul_right b (by omega)
  have hw0 : ¬ nI w = 0 := nI_ne0 hw hw2
  rw [eX9_grown, eX9_grown_0, if_neg hw0, if_neg hw0]
  simp only [gb_add, gb_mul, gb_div, gb_sub, fa_lit, pk_mul, nI_add]
  rw [pk_div h hw hw2, pk_div (by omega) hw hw2, pk_sub (Nat.div_le_div_right h2)]
theorem pX6_growth (N : Nat) {s b : Nat} (I : gM) (h : (s + 1) * b < 2 ^ 31) : fX6_growth N [.int (nI s), .int (nI b)] I = some (.inl (some (.int (nI ((s + 1) * b / 10000 - s * b / 10000)))), I) := by
  have h2 : s * b ≤ (s + 1) * b := Nat.mul_le_mul_right b (by omega)
  have hw0 : ¬ (10000 : Int32) = 0 := by decide
  rw [eX6_growth, eX6_growth_0, if_neg hw0, if_neg hw0]
  simp only [gb_add, gb_mul, gb_div, gb_sub, fa_lit, pk_mul, nI_add]
  rw [pk_div h (by decide) (by decide), pk_div (by omega) (by decide) (by decide), pk_sub (Nat.div_le_div_right h2)]
