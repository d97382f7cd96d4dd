/-! ===== PURE PART. Numbers: every number is nI of a Nat; NONE is mI ===== -/
def mI : Int32 := -1
theorem mI_lit : -nI 1 = mI := rfl
theorem nI_ne_m {a : Nat} (h : a < 2 ^ 31) : ¬ nI a = mI := by
  intro e
  have h1 := nI_pos' h
  rw [e] at h1
  exact absurd h1 (by decide)
theorem m_ne_nI {a : Nat} (h : a < 2 ^ 31) : ¬ mI = nI a := fun e => nI_ne_m h e.symm
theorem ckI {n c : Nat} {X : gO} (h : c < n) (hn : n < 2 ^ 31) : ck n (nI c) X = X := if_neg (nI_in h hn)
theorem clt {a b : Nat} (ha : a < 2 ^ 31) (hb : b < 2 ^ 31) : (gc_lt (nI a) (nI b) = true) = (a < b) := by
  rw [decide_eq_true_eq, nI_ltI ha hb]
theorem cge {a b : Nat} (ha : a < 2 ^ 31) (hb : b < 2 ^ 31) : (gc_ge (nI a) (nI b) = true) = (b ≤ a) := by
  rw [decide_eq_true_eq, nI_leI hb ha]
theorem cgt {a b : Nat} (ha : a < 2 ^ 31) (hb : b < 2 ^ 31) : (gc_gt (nI a) (nI b) = true) = (b < a) := by
  rw [decide_eq_true_eq, nI_ltI hb ha]
theorem cle {a b : Nat} (ha : a < 2 ^ 31) (hb : b < 2 ^ 31) : (gc_le (nI a) (nI b) = true) = (a ≤ b) := by
  rw [decide_eq_true_eq, nI_leI ha hb]
theorem ceq {a b : Nat} (ha : a < 2 ^ 31) (hb : b < 2 ^ 31) : (gc_eq (nI a) (nI b) = true) = (a = b) := by
  rw [decide_eq_true_eq, nI_eq ha hb]
theorem cne {a b : Nat} (ha : a < 2 ^ 31) (hb : b < 2 ^ 31) : (gc_ne (nI a) (nI b) = true) = (a ≠ b) := by
  rw [decide_eq_true_eq, ne_eq, nI_eq ha hb]
theorem ceqm {a : Nat} (ha : a < 2 ^ 31) : (gc_eq (nI a) mI = true) = False := by
  rw [decide_eq_true_eq]; exact eq_false (nI_ne_m ha)
theorem cnem {a : Nat} (ha : a < 2 ^ 31) : (gc_ne (nI a) mI = true) = True := by
  rw [decide_eq_true_eq]; exact eq_true (nI_ne_m ha)
theorem ceqmm : (gc_eq mI mI = true) = True := by
  rw [decide_eq_true_eq]; exact eq_true rfl
theorem cnemm : (gc_ne mI mI = true) = False := by
  rw [decide_eq_true_eq]; exact eq_false (fun h => h rfl)
theorem zeq {a : Nat} (ha : a < 2 ^ 31) : (gz_eq (nI a) = true) = (a = 0) := by
  rw [decide_eq_true_eq, ← nI_0, nI_eq ha (by decide)]
theorem zne {a : Nat} (ha : a < 2 ^ 31) : (gz_ne (nI a) = true) = (a ≠ 0) := by
  rw [decide_eq_true_eq, ne_eq, ← nI_0, nI_eq ha (by decide)]
theorem zlt {a : Nat} (ha : a < 2 ^ 31) : (gz_lt (nI a) = true) = False := by
  rw [decide_eq_true_eq]; exact eq_false (nI_pos ha)
theorem zge {a : Nat} (ha : a < 2 ^ 31) : (gz_ge (nI a) = true) = True := by
  rw [decide_eq_true_eq]; exact eq_true (nI_pos' ha)
theorem zgt {a : Nat} (ha : a < 2 ^ 31) : (gz_gt (nI a) = true) = (0 < a) := by
  rw [decide_eq_true_eq, ← nI_0, nI_ltI (by decide) ha]
theorem zle {a : Nat} (ha : a < 2 ^ 31) : (gz_le (nI a) = true) = (a = 0) := by
  rw [decide_eq_true_eq, ← nI_0, nI_leI ha (by decide)]
  exact propext ⟨fun h => by omega, fun h => by omega⟩
theorem zltm : (gz_lt mI = true) = True := by rw [decide_eq_true_eq]; exact eq_true (by decide)
theorem jmax {a b : Nat} (ha : a < 2 ^ 31) (hb : b < 2 ^ 31) : gj_max (nI a) (nI b) = nI (max a b) := by
  show (if nI a < nI b then nI b else nI a) = _
  by_cases h : a < b
  · rw [if_pos ((nI_ltI ha hb).mpr h), Nat.max_eq_right (by omega)]
  · rw [if_neg (fun z => h ((nI_ltI ha hb).mp z)), Nat.max_eq_left (by omega)]
theorem jmin {a b : Nat} (ha : a < 2 ^ 31) (hb : b < 2 ^ 31) : gj_min (nI a) (nI b) = nI (min a b) := by
  show (if nI b < nI a then nI b else nI a) = _
  by_cases h : b < a
  · rw [if_pos ((nI_ltI hb ha).mpr h), Nat.min_eq_right (by omega)]
  · rw [if_neg (fun z => h ((nI_ltI hb ha).mp z)), Nat.min_eq_left (by omega)]
theorem nI_and (a b : Nat) : nI a &&& nI b = nI (a &&& b) := by
  apply Int32.toBitVec_inj.mp
  show BitVec.ofNat 32 a &&& BitVec.ofNat 32 b = BitVec.ofNat 32 (a &&& b)
  exact BitVec.ofNat_and.symm
theorem nI_or (a b : Nat) : nI a ||| nI b = nI (a ||| b) := by
  apply Int32.toBitVec_inj.mp
  show BitVec.ofNat 32 a ||| BitVec.ofNat 32 b = BitVec.ofNat 32 (a ||| b)
  exact BitVec.ofNat_or.symm
theorem nI_xor (a b : Nat) : nI a ^^^ nI b = nI (a ^^^ b) := by
  apply Int32.toBitVec_inj.mp
  show BitVec.ofNat 32 a ^^^ BitVec.ofNat 32 b = BitVec.ofNat 32 (a ^^^ b)
  exact BitVec.ofNat_xor.symm
theorem sh_k : ∀ k, k < 32 → ((nI k &&& 31).toBitVec.smod 32).toNat = k := by decide +kernel
theorem shlI {a k : Nat} (hk : k < 32) (h : a * 2 ^ k < 2 ^ 32) : gb_shl (nI a) (nI k) = nI (a * 2 ^ k) := pk_shlN _ k (sh_k k hk) h
theorem shrI {a k : Nat} (hk : k < 32) (h : a < 2 ^ 31) : gb_shr (nI a) (nI k) = nI (a / 2 ^ k) := pk_shrN h _ k (sh_k k hk)
/-- bit k of a set -/
def bt (a k : Nat) : Nat := a / 2 ^ k % 2
theorem bt_lt (a k : Nat) : bt a k < 2 := Nat.mod_lt _ (by decide)
theorem bt_tb (a k : Nat) : bt a k = (a.testBit k).toNat := by
  unfold bt
  rw [Nat.testBit_eq_decide_div_mod_eq]
  have := Nat.mod_lt (a / 2 ^ k) (show 2 > 0 by decide)
  by_cases h : a / 2 ^ k % 2 = 1
  · rw [h]; rfl
  · rw [decide_eq_false h]; show _ = 0; omega
theorem bt_one (a k : Nat) : bt a k = 1 ↔ a.testBit k = true := by
  rw [bt_tb]; cases a.testBit k <;> decide
theorem btI {a k : Nat} (hk : k < 32) (h : a < 2 ^ 31) : gb_shr (nI a) (nI k) &&& nI 1 = nI (bt a k) := by
  rw [shrI hk h, nI_and, Nat.and_one_is_mod]; rfl
theorem shl1 {k : Nat} (hk : k < 31) : gb_shl (nI 1) (nI k) = nI (2 ^ k) := by
  have h : 2 ^ k < 2 ^ 31 := Nat.pow_lt_pow_right (by decide) hk
  rw [shlI (by omega) (by omega), Nat.one_mul]
theorem pow_lt {k m : Nat} (hk : k < m) : 2 ^ k < 2 ^ m := Nat.pow_lt_pow_right (by decide) hk
/-- without the bits of b -/
def andn (a b : Nat) : Nat := a ^^^ (a &&& b)
theorem andnI (a b : Nat) : nI a &&& (nI b ^^^ mI) = nI (andn a b) := by
  unfold andn
  rw [← nI_xor, ← nI_and]
  apply Int32.toBitVec_inj.mp
  show (nI a).toBitVec &&& ((nI b).toBitVec ^^^ mI.toBitVec) = (nI a).toBitVec ^^^ ((nI a).toBitVec &&& (nI b).toBitVec)
  have h : mI.toBitVec = BitVec.allOnes 32 := by decide
  rw [h]
  generalize (nI a).toBitVec = x
  generalize (nI b).toBitVec = y
  apply BitVec.eq_of_getLsbD_eq
  intro i hi
  simp only [BitVec.getLsbD_and, BitVec.getLsbD_xor, BitVec.getLsbD_allOnes, hi, decide_true]
  cases x.getLsbD i <;> cases y.getLsbD i <;> rfl
theorem andn_tb (a b k : Nat) : (andn a b).testBit k = (a.testBit k && !b.testBit k) := by
  unfold andn
  rw [Nat.testBit_xor, Nat.testBit_and]
  cases a.testBit k <;> cases b.testBit k <;> rfl
theorem andn_lt {a b n : Nat} (h : a < 2 ^ n) : andn a b < 2 ^ n := Nat.xor_lt_two_pow h (Nat.lt_of_le_of_lt Nat.and_le_left h)
/-! memory -/
theorem gUg (I : gM) (k j : Nat) (x : Int32) (k' j' : Nat) : gU I k j x k' j' = if k' = k then (if j' = j then x else I k j') else I k' j' := by
  unfold gU upd
  split
  · rfl
  · rfl
theorem gUr (I : gM) (k j : Nat) (x : Int32) (k' : Nat) : gU I k j x k' = if k' = k then upd (I k) j x else I k' := rfl
theorem gMg_nil (I J : gM) : gMg [] I J = I := rfl
theorem rg_get : ∀ (n b j : Nat), j < n → (rg b n)[j]? = some (b + j)
  | 0, _, _, h => absurd h (Nat.not_lt_zero _)
  | n + 1, b, 0, _ => rfl
  | n + 1, b, j + 1, h => by
    show (rg (b + 1) n)[j]? = _
    rw [rg_get n (b + 1) j (by omega)]
    congr 1; omega
theorem rg_len : ∀ n b : Nat, (rg b n).length = n
  | 0, _ => rfl
  | n + 1, b => congrArg (· + 1) (rg_len n (b + 1))
theorem gr_rg {b n j : Nat} (h : j < n) (hn : n ≤ 1000) : gr (rg b n) j = b + j := by
  unfold gr
  rw [if_pos (by omega), List.getD_eq_getElem?_getD, rg_get n b j h]
  rfl
theorem gIx_rg : ∀ (n b p : Nat), gIx (rg b n) p = if b ≤ p ∧ p < b + n then some (p - b) else none
  | 0, b, p => by
    show none = _
    rw [if_neg (by omega)]
  | n + 1, b, p => by
    show (if b = p then some 0 else match gIx (rg (b + 1) n) p with
      | some j => some (j + 1)
      | none => none) = _
    by_cases e : b = p
    · rw [if_pos e, if_pos (by omega), e, Nat.sub_self]
    · rw [if_neg e, gIx_rg n (b + 1) p]
      by_cases h : b ≤ p ∧ p < b + (n + 1)
      · rw [if_pos h, if_pos (by omega)]
        show some (p - (b + 1) + 1) = _
        congr 1; omega
      · rw [if_neg h, if_neg (by omega)]
theorem gMg_rgi {b n j : Nat} {I J : gM} (h : j < n) : gMg (rg b n) I J (b + j) = J j := by
  unfold gMg
  rw [gIx_rg, if_pos (by omega)]
  show J (b + j - b) = _
  rw [Nat.add_sub_cancel_left]
theorem gMg_rgo {b n p : Nat} {I J : gM} (h : p < b ∨ b + n ≤ p) : gMg (rg b n) I J p = I p := by
  unfold gMg
  rw [gIx_rg, if_neg (by omega)]
theorem gMg_rg {b n p : Nat} {I J : gM} : gMg (rg b n) I J p = if b ≤ p ∧ p < b + n then J (p - b) else I p := by
  by_cases h : b ≤ p ∧ p < b + n
  · rw [if_pos h]
    have := gMg_rgi (b := b) (n := n) (I := I) (J := J) (j := p - b) (by omega)
    rwa [show b + (p - b) = p by omega] at this
  · rw [if_neg h, gMg_rgo (by omega)]
theorem gS_rg {b n j : Nat} {I : gM} (h : j < n) (hn : n ≤ 1000) : gS (rg b n) I j = I (b + j) := by
  unfold gS; rw [gr_rg h hn]
/-- what was not touched comes back as it was -/
theorem gMg_same {b n : Nat} (I : gM) (hn : n ≤ 1000) : gMg (rg b n) I (gS (rg b n) I) = I := by
  funext p
  rw [gMg_rg]
  split
  · rename_i h
    rw [gS_rg (by omega) hn, show b + (p - b) = p by omega]
  · rfl
theorem gMg_U {b n k j : Nat} {x : Int32} {I J : gM} (h : k < n) : gMg (rg b n) I (gU J k j x) = gU (gMg (rg b n) I J) (b + k) j x := by
  funext p
  by_cases hp : b ≤ p ∧ p < b + n
  · rw [gMg_rg, if_pos hp, gUr, gUr, gMg_rgi h]
    by_cases e : p = b + k
    · rw [if_pos e, if_pos (by omega)]
    · rw [if_neg e, if_neg (by omega), gMg_rg, if_pos hp]
  · rw [gMg_rg, if_neg hp, gUr, if_neg (by omega), gMg_rg, if_neg hp]
theorem hI_mk {x : Int32} {J I : gM} {ρ : List Nat} {k : Int32 → gM → gO} : hI (some (.inl (some (.int x)), J)) ρ I k = k x (gMg ρ I J) := rfl
theorem hV_mk {J I : gM} {ρ : List Nat} {k : gM → gO} : hV (some (.inl none, J)) ρ I k = k (gMg ρ I J) := rfl
theorem hJ_mk {x : Int64} {J I : gM} {ρ : List Nat} {k : Int64 → gM → gO} : hJ (some (.inl (some (.long x)), J)) ρ I k = k x (gMg ρ I J) := rfl
theorem hXI_mk {x : Int32} {J I : gM} {ρ : List Nat} {k : Int32 → gM → gO} : hXI (some (.inl (some (.int x)), J)) ρ I k = k x (gMg ρ I J) := rfl
theorem hXV_mk {J I : gM} {ρ : List Nat} {k : gM → gO} : hXV (some (.inl none, J)) ρ I k = k (gMg ρ I J) := rfl
theorem hXJ_mk {x : Int64} {J I : gM} {ρ : List Nat} {k : Int64 → gM → gO} : hXJ (some (.inl (some (.long x)), J)) ρ I k = k x (gMg ρ I J) := rfl
theorem hXI_ex {En : String} {J I : gM} {ρ : List Nat} {k : Int32 → gM → gO} : hXI (some (.inr En, J)) ρ I k = some (.inr En, gMg ρ I J) := rfl
theorem hXV_ex {En : String} {J I : gM} {ρ : List Nat} {k : gM → gO} : hXV (some (.inr En, J)) ρ I k = some (.inr En, gMg ρ I J) := rfl
theorem hXJ_ex {En : String} {J I : gM} {ρ : List Nat} {k : Int64 → gM → gO} : hXJ (some (.inr En, J)) ρ I k = some (.inr En, gMg ρ I J) := rfl
