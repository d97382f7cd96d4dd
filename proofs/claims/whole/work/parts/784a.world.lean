/-! ===== the world of a run: what class and reference hold ===== -/
theorem gS_aq1 {d s n m k : Nat} {I : gM} (hk : k < n) (hn : n ≤ 1000) : gS (rg d n ++ rg s m) I k = I (d + k) := by
  refine gS_at ?_ (by omega)
  rw [List.getElem?_append_left (by rw [rg_len]; exact hk)]
  exact rg_get n d k hk
theorem gS_aq2 {d s n m k : Nat} {I : gM} (hk : k < m) (hn : n + m ≤ 1000) : gS (rg d n ++ rg s m) I (n + k) = I (s + k) := by
  refine gS_at ?_ (by omega)
  rw [List.getElem?_append_right (by rw [rg_len]; omega), rg_len, Nat.add_sub_cancel_left]
  exact rg_get m s k hk
theorem gM_aq1 {d s n m k : Nat} {I J : gM} (hk : k < n) : gMg (rg d n ++ rg s m) I J (d + k) = J k := by
  unfold gMg
  rw [gIx_app, gIx_rg, if_pos (by omega), Nat.add_sub_cancel_left]
theorem gM_aq2 {d s n m k : Nat} {I J : gM} (hk : k < m) (hds : d + n ≤ s ∨ s + m ≤ d) : gMg (rg d n ++ rg s m) I J (s + k) = J (n + k) := by
  unfold gMg
  rw [gIx_app, gIx_rg, if_neg (by omega), gIx_rg, if_pos (by omega), Nat.add_sub_cancel_left, rg_len]
theorem gM_aqo {d s n m p : Nat} {I J : gM} (h1 : p < d ∨ d + n ≤ p) (h2 : p < s ∨ s + m ≤ p) : gMg (rg d n ++ rg s m) I J p = I p := by
  unfold gMg
  rw [gIx_app, gIx_rg, if_neg (by omega), gIx_rg, if_neg (by omega)]
/-- now, the past, the saved one, the input -/
abbrev AB : Type := St × List St × Option St × List Nat
def BFc (I : gM) (l : List Nat) : Prop := I 183 2 = nI l.length ∧ ∀ (j x : Nat), l[j]? = some x → I 184 j = nI x
def BFm (J : gM) (l : List Nat) : Prop := J 0 2 = nI l.length ∧ ∀ (j x : Nat), l[j]? = some x → J 1 j = nI x
def INc (I : gM) (a : AB) : Prop := STc (gS (rg 1 20) I) a.1 ∧ HI (gS (rg 61 122) I) a.2.1 ∧ (I 0 7 = b2 a.2.2.1.isSome ∧ ∀ τ, a.2.2.1 = some τ → STc (gS (rg 21 20) I) τ) ∧ BFc I a.2.2.2
def INm (J : gM) (a : AB) : Prop := RowIs (J 3) a.1 ∧ (J 0 13 = nI a.2.1.length ∧ ∀ (i : Nat) (τ : St), a.2.1[i]? = some τ → RowIs (fun k => J 6 (2746 * i + k)) τ) ∧ (J 0 16 = b2 a.2.2.1.isSome ∧ ∀ τ, a.2.2.1 = some τ → RowIs (J 5) τ) ∧ BFm J a.2.2.2
def Wt (σ : St) : Prop := Wg (110 * σ.1 7) σ ∧ σ.1 7 ≤ 9999
def INw (a : AB) : Prop := Wt a.1 ∧ (∀ τ ∈ a.2.1, Wt τ) ∧ (∀ τ, a.2.2.1 = some τ → Wt τ) ∧ a.2.2.2.length ≤ 700 ∧ a.2.1.length ≤ 6 ∧ ∀ x ∈ a.2.2.2, 1 ≤ x ∧ x < 256
def IN (I J : gM) (a : AB) : Prop := INc I a ∧ INm J a ∧ INw a
theorem INc.congr {I J : gM} {a : AB} (h : INc I a) (h0 : J 0 7 = I 0 7) (e : ∀ k, 1 ≤ k → (k < 41 ∨ (61 ≤ k ∧ k < 183) ∨ k = 184) → J k = I k) (h183 : J 183 2 = I 183 2) : INc J a := by
  obtain ⟨h1, h2, h3, h4⟩ := h
  refine ⟨h1.congr (fun k hk => ?_), h2.congr (fun k hk => ?_), ⟨by rw [h0]; exact h3.1, fun τ hτ => (h3.2 τ hτ).congr (fun k hk => ?_)⟩, by rw [BFc, h183, e 184 (by decide) (by omega)]; exact h4⟩
  · rw [gS_b hk (by decide), gS_b hk (by decide), e _ (by omega) (by omega)]
  · rw [gS_b hk (by decide), gS_b hk (by decide), e _ (by omega) (by omega)]
  · rw [gS_b hk (by decide), gS_b hk (by decide), e _ (by omega) (by omega)]
theorem INm.congr {I J : gM} {a : AB} (h : INm I a) (h0 : ∀ j, (j = 2 ∨ j = 13 ∨ j = 16) → J 0 j = I 0 j) (e : ∀ k, (k = 1 ∨ k = 3 ∨ k = 5 ∨ k = 6) → J k = I k) : INm J a := by
  obtain ⟨h1, h2, h3, h4⟩ := h
  refine ⟨by rw [e 3 (by omega)]; exact h1, ⟨by rw [h0 13 (by omega)]; exact h2.1, fun i τ hτ => by rw [e 6 (by omega)]; exact h2.2 i τ hτ⟩, ⟨by rw [h0 16 (by omega)]; exact h3.1, fun τ hτ => by rw [e 5 (by omega)]; exact h3.2 τ hτ⟩, by rw [BFm, h0 2 (by omega), e 1 (by omega)]; exact h4⟩
/-! ===== arguments ===== -/
def rgb (v lo hi : Int32) : Bool := decide (lo ≤ v) && decide (v ≤ hi)
theorem rgb_t {v : Int32} {lo hi : Nat} (hh : hi < 2 ^ 31) (hl : lo ≤ hi) (h : rgb v (nI lo) (nI hi) = true) : ∃ k, lo ≤ k ∧ k ≤ hi ∧ v = nI k := by
  unfold rgb at h
  rw [Bool.and_eq_true, decide_eq_true_eq, decide_eq_true_eq] at h
  have h0 : ¬ v < 0 := fun z => by
    have z1 : nI 0 ≤ nI lo := (nI_leI (by decide) (by omega)).mpr (Nat.zero_le _)
    have z2 := Int32.le_trans z1 h.1
    exact absurd z (Int32.not_lt.mpr z2)
  obtain ⟨k, k1, k2⟩ := i_pos h0
  subst k2
  exact ⟨k, (nI_leI (by omega) k1).mp h.1, (nI_leI k1 hh).mp h.2, rfl⟩
theorem rgb_k {k lo hi : Nat} (hk : k < 2 ^ 31) (hl : lo < 2 ^ 31) (hh : hi < 2 ^ 31) : rgb (nI k) (nI lo) (nI hi) = decide (lo ≤ k ∧ k ≤ hi) := by
  unfold rgb
  rw [Bool.eq_iff_iff, Bool.and_eq_true, decide_eq_true_eq, decide_eq_true_eq, decide_eq_true_eq, nI_leI hl hk, nI_leI hk hh]
theorem in64 (a b : Int32) : (a.toInt64 ≤ b.toInt64) ↔ a ≤ b := by
  rw [Int64.le_iff_toInt_le, Int32.le_iff_toInt_le, Int32.toInt_toInt64, Int32.toInt_toInt64]
theorem x_range {N : Nat} {v lo hi : Int32} {I : gM} {K : gM → gO} : hXV (fX8_checkRange N [.int v, .int lo, .int hi] (gS [] I)) [] I K = if rgb v lo hi = true then K I else some (.inr "java/lang/IllegalArgumentException", I) := by
  rw [eX8_checkRange, eX8_checkRange_0]
  unfold rgb
  by_cases h1 : lo ≤ v
  · rw [if_neg (fun z => absurd (of_decide_eq_true z) (Int32.not_lt.mpr h1)), decide_eq_true h1]
    by_cases h2 : v ≤ hi
    · rw [if_pos (decide_eq_true h2), decide_eq_true h2, hXV_mk, gS_nil, if_pos (show (true && true) = true from rfl)]
    · rw [if_neg (fun z => h2 (of_decide_eq_true z)), decide_eq_false h2, hXV_ex, gS_nil, if_neg (by decide)]
  · rw [if_pos (decide_eq_true (Int32.not_le.mp h1)), decide_eq_false h1, hXV_ex, gS_nil, if_neg (by rw [Bool.false_and]; decide)]
theorem m_in {N : Nat} {v lo hi : Int32} {I : gM} {K : Int32 → gM → gO} : hI (fX9_in N [.long v.toInt64, .long lo.toInt64, .long hi.toInt64] (gS [] I)) [] I K = K (b2 (rgb v lo hi)) I := by
  rw [pX9_in, hI_mk, gS_nil]
  unfold rgb
  congr 2
  rw [Bool.eq_iff_iff, Bool.and_eq_true, decide_eq_true_eq, decide_eq_true_eq, decide_eq_true_eq, in64, in64]
/-- v is a number below n -/
def ndb (v : Int32) (n : Nat) : Bool := rgb v (nI 0) (nI n - nI 1)
theorem ndb_t {v : Int32} {n : Nat} (hn : n < 2 ^ 31) (h : ndb v n = true) : ∃ k, k < n ∧ v = nI k := by
  unfold ndb at h
  by_cases h0 : n = 0
  · subst h0
    unfold rgb at h
    rw [Bool.and_eq_true, decide_eq_true_eq, decide_eq_true_eq] at h
    have := Int32.le_trans h.1 h.2
    exact absurd this (by decide)
  · rw [pk_sub (by omega)] at h
    obtain ⟨k, k1, k2, k3⟩ := rgb_t (by omega) (by omega) h
    exact ⟨k, by omega, k3⟩
theorem ndb_c {v : Int32} {n : Nat} (hn : n < 2 ^ 31) : (¬ gz_lt v = true ∧ gc_lt v (nI n) = true) ↔ ndb v n = true := by
  refine ⟨fun h => ?_, fun h => ?_⟩
  · obtain ⟨k, k1, k2⟩ := i_pos (fun z => h.1 (decide_eq_true z))
    subst k2
    have h3 : k < n := (clt k1 hn).mp h.2
    unfold ndb
    rw [pk_sub (by omega), rgb_k k1 (by decide) (by omega), decide_eq_true_eq]
    omega
  · obtain ⟨k, k1, k2⟩ := ndb_t hn h
    subst k2
    exact ⟨fun z => (zlt (by omega)).mp z, (clt (by omega) hn).mpr k1⟩
theorem x_nd {n : Nat} {v : Int32} {I J : gM} {ρ : List Nat} {K : gM → gO} (hn : n < 2 ^ 31) (hJ : gMg ρ I J = I) : hXV (if gz_lt v = true then (some (.inr "java/lang/IndexOutOfBoundsException", J)) else (if gc_lt v (nI n) = true then (some (.inl none, J)) else (some (.inr "java/lang/IndexOutOfBoundsException", J)))) ρ I K = if ndb v n = true then K I else some (.inr "java/lang/IndexOutOfBoundsException", I) := by
  by_cases h : ndb v n = true
  · obtain ⟨h1, h2⟩ := (ndb_c hn).mpr h
    rw [if_neg h1, if_pos h2, if_pos h, hXV_mk, hJ]
  · rw [if_neg h]
    by_cases h1 : gz_lt v = true
    · rw [if_pos h1, hXV_ex, hJ]
    · rw [if_neg h1, if_neg (fun z => h ((ndb_c hn).mp ⟨h1, z⟩)), hXV_ex, hJ]
theorem gS204 {I : gM} {k : Nat} (h : k < 204) : gS (rg 0 204) I k = I k := by rw [gS_b h (by decide), Nat.zero_add]
theorem gM204s (I : gM) : gMg (rg 0 204) I (gS (rg 0 204) I) = I := gMg_same I (by decide)
theorem INc.nums {I : gM} {a : AB} (h : INc I a) : I 2 0 = nI (a.1.1 0) ∧ I 2 1 = nI (a.1.1 1) ∧ I 2 2 = nI (a.1.1 2) := by
  have := h.1.1.1
  rw [gS_b (by decide) (by decide)] at this
  exact this
theorem INw.lt {a : AB} (h : INw a) : a.1.1 0 ≤ 10 ∧ a.1.1 1 ≤ 14 ∧ a.1.1 2 ≤ 6 := by
  have := wfC h.1.1.1
  exact ⟨this.1.2, this.2.1, this.2.2.1⟩
theorem x_node {N : Nat} {v : Int32} {I : gM} {a : AB} {K : gM → gO} (h : INc I a) (hw : INw a) : hXV (fX8_checkNode N [.ref 0, .int v] (gS (rg 0 204) I)) (rg 0 204) I K = if ndb v (a.1.1 0) = true then K I else some (.inr "java/lang/IndexOutOfBoundsException", I) := by
  have := hw.lt
  rw [eX8_checkNode, eX8_checkNode_0, gS204 (by decide), h.nums.1, x_nd (by omega) (gM204s I)]
theorem x_link {N : Nat} {v : Int32} {I : gM} {a : AB} {K : gM → gO} (h : INc I a) (hw : INw a) : hXV (fX8_checkLink N [.ref 0, .int v] (gS (rg 0 204) I)) (rg 0 204) I K = if ndb v (a.1.1 1) = true then K I else some (.inr "java/lang/IndexOutOfBoundsException", I) := by
  have := hw.lt
  rw [eX8_checkLink, eX8_checkLink_0, gS204 (by decide), h.nums.2.1, x_nd (by omega) (gM204s I)]
theorem x_flow {N : Nat} {v : Int32} {I : gM} {a : AB} {K : gM → gO} (h : INc I a) (hw : INw a) : hXV (fX8_checkFlow N [.ref 0, .int v] (gS (rg 0 204) I)) (rg 0 204) I K = if ndb v (a.1.1 2) = true then K I else some (.inr "java/lang/IndexOutOfBoundsException", I) := by
  have := hw.lt
  rw [eX8_checkFlow, eX8_checkFlow_0, gS204 (by decide), h.nums.2.2, x_nd (by omega) (gM204s I)]
theorem m_is {N n q : Nat} {v : Int32} {I J : gM} {K : Int32 → gM → gO} (hJ : gMg (rg 0 18) I J = I) : hI (hI (fX9_in N [.long v.toInt64, .long 0, .long (gb_sub (nI n) 1).toInt64] (gS [] J)) [] J fun x1 I1 => if x1 = 0 ∨ x1 = 1 then some (.inl (some (.int x1)), I1) else none) (rg 0 18) I K = K (b2 (ndb v n)) I := by
  have l1 : (1 : Int32) = nI 1 := rfl
  have l0 : (0 : Int64) = (nI 0).toInt64 := by decide
  rw [l0, m_in, if_pos (b2_01 _), hI_mk, hJ]
  rfl
theorem m_node {N : Nat} {v : Int32} {I : gM} {σ : St} {K : Int32 → gM → gO} (h : RowIs (I 3) σ) : hI (fX9_isNode N [.ref 0, .int v] (gS (rg 0 18) I)) (rg 0 18) I K = K (b2 (ndb v (σ.1 0))) I := by
  have l0 : (0 : Int32) = nI 0 := rfl
  have cc : ∀ X : gO, ck 2746 0 X = X := fun X => by rw [l0, ckI (by decide) (by decide)]
  have n0 : (0 : Int32).toNatClampNeg = 0 := by decide
  rw [eX9_isNode, eX9_isNode_0, cc, n0, gSm18 (by decide), h.1 0 (by decide), m_is (q := 0) (gMm18 I)]
theorem m_link {N : Nat} {v : Int32} {I : gM} {σ : St} {K : Int32 → gM → gO} (h : RowIs (I 3) σ) : hI (fX9_isLink N [.ref 0, .int v] (gS (rg 0 18) I)) (rg 0 18) I K = K (b2 (ndb v (σ.1 1))) I := by
  have l0 : (1 : Int32) = nI 1 := rfl
  have cc : ∀ X : gO, ck 2746 1 X = X := fun X => by rw [l0, ckI (by decide) (by decide)]
  have n0 : (1 : Int32).toNatClampNeg = 1 := by decide
  rw [eX9_isLink, eX9_isLink_0, cc, n0, gSm18 (by decide), h.1 1 (by decide), m_is (q := 0) (gMm18 I)]
theorem m_flow {N : Nat} {v : Int32} {I : gM} {σ : St} {K : Int32 → gM → gO} (h : RowIs (I 3) σ) : hI (fX9_isFlow N [.ref 0, .int v] (gS (rg 0 18) I)) (rg 0 18) I K = K (b2 (ndb v (σ.1 2))) I := by
  have l0 : (2 : Int32) = nI 2 := rfl
  have cc : ∀ X : gO, ck 2746 2 X = X := fun X => by rw [l0, ckI (by decide) (by decide)]
  have n0 : (2 : Int32).toNatClampNeg = 2 := by decide
  rw [eX9_isFlow, eX9_isFlow_0, cc, n0, gSm18 (by decide), h.1 2 (by decide), m_is (q := 0) (gMm18 I)]
theorem m_nodes {N : Nat} {v u : Int32} {I : gM} {σ : St} {K : Int32 → gM → gO} (h : RowIs (I 3) σ) : hI (fX9_areNodes N [.ref 0, .int v, .int u] (gS (rg 0 18) I)) (rg 0 18) I K = K (b2 (ndb v (σ.1 0) && ndb u (σ.1 0))) I := by
  have h' : RowIs (gS (rg 0 18) I 3) σ := by rw [gSm18 (by decide)]; exact h
  rw [eX9_areNodes, eX9_areNodes_0, m_node h']
  cases hv : ndb v (σ.1 0) with
  | false => rw [if_pos (by decide), hI_mk, gMm18]; rfl
  | true =>
    rw [if_neg (by decide), m_node h']
    cases hu : ndb u (σ.1 0) with
    | false => rw [if_pos (by decide), hI_mk, gMm18]; rfl
    | true => rw [if_neg (by decide), hI_mk, gMm18]; rfl
theorem m_fails {N : Nat} {g : Bool} {w : Int32} {I : gM} {K : Int32 → gM → gO} : hI (fX9_fails N [.ref 0, .int (b2 g), .int w] (gS (rg 0 18) I)) (rg 0 18) I K = K (b2 (!g)) (if g = true then I else gU I 0 0 w) := by
  rw [pX9_fails, hI_mk]
  cases g
  · rw [if_neg (by decide), if_neg (by decide), gMu18 (by decide), gMm18]
  · rw [if_pos rfl, if_pos rfl, gMm18]
