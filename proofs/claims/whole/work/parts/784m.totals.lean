/-! ===== sums as longs ===== -/
def lI (n : Nat) : Int64 := Int64.ofNat n
theorem lI_add (a b : Nat) : lI a + lI b = lI (a + b) := by
  apply Int64.toBitVec_inj.mp
  show BitVec.ofNat 64 a + BitVec.ofNat 64 b = BitVec.ofNat 64 (a + b)
  exact (BitVec.ofNat_add a b).symm
theorem lI_mul (a b : Nat) : lI a * lI b = lI (a * b) := by
  apply Int64.toBitVec_inj.mp
  show BitVec.ofNat 64 a * BitVec.ofNat 64 b = BitVec.ofNat 64 (a * b)
  exact (BitVec.ofNat_mul a b).symm
theorem nI_long {n : Nat} (h : n < 2 ^ 31) : (nI n).toInt64 = lI n := by
  apply Int64.toBitVec_inj.mp
  show (BitVec.ofNat 32 n).signExtend 64 = BitVec.ofNat 64 n
  rw [BitVec.signExtend_eq_setWidth_of_msb_false]
  · apply BitVec.eq_of_toNat_eq
    rw [BitVec.toNat_setWidth, BitVec.toNat_ofNat, BitVec.toNat_ofNat]
    omega
  · rw [BitVec.msb_eq_decide, BitVec.toNat_ofNat]
    apply decide_eq_false
    omega
theorem pX8_sum {N : Nat} {f : Nat → Nat} {I : gM} (h : ∀ q, q < 100 → I 0 q = nI (f q) ∧ f q < 2 ^ 31) (hN : 1000 ≤ N) : fX8_sum N [.ref 0] I = some (.inl (some (.long (lI (sq f 100)))), I) := by
  have l1 : (1 : Int32) = nI 1 := rfl
  have l0 : (0 : Int32) = nI 0 := rfl
  have l100 : Int32.ofNat 100 = nI 100 := rfl
  have key : ∀ m i : Nat, i ≤ 100 → 100 - i < m → hX8_sum_11 N m (lI (sq f i)) (nI 100) (nI i) I = some (.inl (some (.long (lI (sq f 100)))), I) := by
    intro m
    induction m with
    | zero => intro i _ h; omega
    | succ m ih =>
      intro i hi hm
      rw [eX8_sum_11]
      by_cases hin : i = 100
      · rw [hin, if_pos ((cge (by omega) (by omega)).mpr (Nat.le_refl _))]
      · obtain ⟨h1, h2⟩ := h i (by omega)
        have ea : gb_ladd (lI (sq f i)) (lI (f i)) = lI (sq f (i + 1)) := lI_add _ _
        rw [if_neg (fun z => hin (by have := (cge (by omega) (by omega)).mp z; omega)), ckI (by omega) (by decide), nI_clamp (by omega), h1, nI_long h2, ea, l1, nI_add]
        exact ih (i + 1) (by omega) (by omega)
  rw [eX8_sum, eX8_sum_0, l100, l0]
  exact key N 0 (Nat.zero_le _) (by omega)
theorem pX8_sumSq {N : Nat} {f : Nat → Nat} {I : gM} (h : ∀ q, q < 100 → I 0 q = nI (f q) ∧ f q < 2 ^ 31) (hN : 1000 ≤ N) : fX8_sumOfSquares N [.ref 0] I = some (.inl (some (.long (lI (sq (fun q => f q * f q) 100)))), I) := by
  have l1 : (1 : Int32) = nI 1 := rfl
  have l0 : (0 : Int32) = nI 0 := rfl
  have l100 : Int32.ofNat 100 = nI 100 := rfl
  have key : ∀ m i : Nat, i ≤ 100 → 100 - i < m → hX8_sumOfSquares_11 N m (lI (sq (fun q => f q * f q) i)) (nI 100) (nI i) I = some (.inl (some (.long (lI (sq (fun q => f q * f q) 100)))), I) := by
    intro m
    induction m with
    | zero => intro i _ h; omega
    | succ m ih =>
      intro i hi hm
      rw [eX8_sumOfSquares_11]
      by_cases hin : i = 100
      · rw [hin, if_pos ((cge (by omega) (by omega)).mpr (Nat.le_refl _))]
      · obtain ⟨h1, h2⟩ := h i (by omega)
        have em : gb_lmul (lI (f i)) (lI (f i)) = lI (f i * f i) := lI_mul _ _
        have ea : gb_ladd (lI (sq (fun q => f q * f q) i)) (lI (f i * f i)) = lI (sq (fun q => f q * f q) (i + 1)) := lI_add _ _
        rw [if_neg (fun z => hin (by have := (cge (by omega) (by omega)).mp z; omega)), ckI (by omega) (by decide), nI_clamp (by omega), h1, nI_long h2, em, ea, l1, nI_add]
        exact ih (i + 1) (by omega) (by omega)
  rw [eX8_sumOfSquares, eX8_sumOfSquares_0, l100, l0]
  exact key N 0 (Nat.zero_le _) (by omega)
def shq (σ : St) (q : Nat) : Nat := σ.1 (145 + q)
theorem shq_lt {σ : St} (h : Wg (110 * σ.1 7) σ) {q : Nat} (hq : q < 100) : shq σ q < 2 ^ 31 := by
  have h1 := ((wfS h.1) (q / 10) (q % 10) (by omega) (by omega)).1
  have h7 := (wfC h.1).2.2.2.2.2.2.2.1
  unfold shp at h1
  unfold shq
  rw [show 145 + 10 * (q / 10) + q % 10 = 145 + q by omega] at h1
  omega
theorem pX9_shadows {N : Nat} {b : Bool} {σ : St} {I : gM} (hr : RowIs (I 3) σ) (hw : Wg (110 * σ.1 7) σ) (hN : 1000 ≤ N) : fX9_shadows N [.ref 0, .int (b2 b)] I = some (.inl (some (.long (lI (sq (fun q => if b = true then shq σ q * shq σ q else shq σ q) 100)))), I) := by
  have l1 : (1 : Int32) = nI 1 := rfl
  have l0 : (0 : Int32) = nI 0 := rfl
  have l100 : (100 : Int32) = nI 100 := rfl
  have l145 : (145 : Int32) = nI 145 := rfl
  have key : ∀ m i : Nat, i ≤ 100 → 100 - i < m → hX9_shadows_5 N m (b2 b) (lI (sq (fun q => if b = true then shq σ q * shq σ q else shq σ q) i)) (nI i) I = some (.inl (some (.long (lI (sq (fun q => if b = true then shq σ q * shq σ q else shq σ q) 100)))), I) := by
    intro m
    induction m with
    | zero => intro i _ h; omega
    | succ m ih =>
      intro i hi hm
      rw [eX9_shadows_5, l100]
      by_cases hin : i = 100
      · rw [hin, if_pos ((cge (by omega) (by omega)).mpr (Nat.le_refl _))]
      · have e145 : gb_add 145 (nI i) = nI (145 + i) := by rw [l145]; exact nI_add _ _
        have h2 := shq_lt hw (q := i) (by omega)
        have hsh : I 3 (145 + i) = nI (shq σ i) := hr.1 _ (by omega)
        have em : gb_lmul (lI (shq σ i)) (lI (shq σ i)) = lI (shq σ i * shq σ i) := lI_mul _ _
        rw [if_neg (fun z => hin (by have := (cge (by omega) (by omega)).mp z; omega)), e145, ckI (by omega) (by decide), nI_clamp (by omega), hsh, nI_long h2, em]
        have nx : ∀ x, x = (if b = true then shq σ i * shq σ i else shq σ i) → hX9_shadows_41 N m (b2 b) (nI i) (lI (sq (fun q => if b = true then shq σ q * shq σ q else shq σ q) i)) (lI x) I = some (.inl (some (.long (lI (sq (fun q => if b = true then shq σ q * shq σ q else shq σ q) 100)))), I) := fun x hx => by
          have ea : gb_ladd (lI (sq (fun q => if b = true then shq σ q * shq σ q else shq σ q) i)) (lI x) = lI (sq (fun q => if b = true then shq σ q * shq σ q else shq σ q) (i + 1)) := by
            rw [hx]; exact lI_add _ _
          rw [eX9_shadows_41, ea, l1, nI_add]
          exact ih (i + 1) (by omega) (by omega)
        by_cases hb : b = true
        · rw [if_neg (by rw [hb]; decide)]
          exact nx _ (by rw [if_pos hb])
        · rw [if_pos (by cases b; decide; exact absurd rfl hb)]
          exact nx _ (by rw [if_neg hb])
  rw [eX9_shadows, eX9_shadows_0, l0]
  exact key N 0 (Nat.zero_le _) (by omega)
/-- squares of the queues, node by node -/
def sqr (σ : St) (n : Nat) (x : Nat) : Nat := sq (fun y => qln σ x y * qln σ x y) n
theorem sq_mono0 {f : Nat → Nat} {n : Nat} (h : ∀ q, n ≤ q → f q = 0) : ∀ m, n ≤ m → sq f m = sq f n
  | 0, hm => by
    have : n = 0 := by omega
    rw [this]
  | m + 1, hm => by
    by_cases e : n = m + 1
    · rw [e]
    · show sq f m + f m = _
      rw [h m (by omega), Nat.add_zero]
      exact sq_mono0 h m (by omega)
theorem sq_rows (f : Nat → Nat) : ∀ x, sq f (10 * x) = sq (fun a => sq (fun b => f (a * 10 + b)) 10) x
  | 0 => rfl
  | x + 1 => by
    have h : ∀ b, b ≤ 10 → sq f (10 * x + b) = sq f (10 * x) + sq (fun b => f (x * 10 + b)) b := by
      intro b
      induction b with
      | zero => intro _; rfl
      | succ b ih =>
        intro hb
        show sq f (10 * x + b) + f (10 * x + b) = _ + (sq (fun b => f (x * 10 + b)) b + f (x * 10 + b))
        rw [ih (by omega), Nat.mul_comm 10 x]; omega
    rw [show 10 * (x + 1) = 10 * x + 10 by omega, h 10 (Nat.le_refl _), sq_rows f x]
    rfl
theorem qln_out {B : Nat} {σ : St} (hw : Wf B σ) {x y : Nat} (h : σ.1 0 ≤ x ∨ σ.1 0 ≤ y) : qln σ x y = 0 := by
  show (σ.2.filter (inq σ.1 x y)).length = 0
  rw [List.length_eq_zero_iff, List.filter_eq_nil_iff]
  intro p hp hq
  unfold inq at hq
  rw [Bool.and_eq_true, decide_eq_true_eq, decide_eq_true_eq] at hq
  obtain ⟨p1, -, -, p4, -⟩ := (wfP hw).2 p hp
  have h2 : gol σ.1 p < σ.1 0 := (wfF hw p.1 p1).2.1
  omega
theorem sqr_eq {B : Nat} {σ : St} (hw : Wf B σ) : sq (sqr σ (σ.1 0)) (σ.1 0) = sq (fun q => (qsq σ q).length * (qsq σ q).length) 100 := by
  have h10 := (wfC hw).1.2
  have h1 := sq_rows (fun q => (qsq σ q).length * (qsq σ q).length) 10
  rw [show 10 * 10 = 100 from rfl] at h1
  rw [h1]
  have h2 : ∀ x, x < 10 → sq (fun b => (qsq σ (x * 10 + b)).length * (qsq σ (x * 10 + b)).length) 10 = sqr σ (σ.1 0) x := fun x hx => by
    have e : sq (fun b => (qsq σ (x * 10 + b)).length * (qsq σ (x * 10 + b)).length) 10 = sq (fun y => qln σ x y * qln σ x y) 10 := sq_congr 10 (fun b hb => by rw [qsq_at σ hb]; rfl)
    rw [e]
    exact sq_mono0 (fun q hq => by rw [qln_out hw (Or.inr hq)]) 10 h10
  rw [sq_congr 10 h2]
  exact (sq_mono0 (fun q hq => by
    unfold sqr
    have : sq (fun y => qln σ q y * qln σ q y) (σ.1 0) = sq (fun _ => 0) (σ.1 0) := sq_congr _ (fun y _ => by rw [qln_out hw (Or.inl hq)])
    rw [this, sq_zero]) 10 h10).symm
theorem pX9_squares {N : Nat} {B : Nat} {σ : St} {I : gM} (hr : RowIs (I 3) σ) (hw : Wf B σ) (hN : 1000 ≤ N) : fX9_squares N [.ref 0] I = some (.inl (some (.long (lI (sq (fun q => (qsq σ q).length * (qsq σ q).length) 100)))), I) := by
  have l1 : (1 : Int32) = nI 1 := rfl
  have l0 : (0 : Int32) = nI 0 := rfl
  have z0 : (0 : Int64) = lI 0 := by decide
  have cc0 : ∀ X : gO, ck 2746 0 X = X := fun X => by rw [l0, ckI (by decide) (by decide)]
  have n0 : (0 : Int32).toNatClampNeg = 0 := by decide
  have h10 := (wfC hw).1.2
  have e0 : I 3 0 = nI (σ.1 0) := hr.1 0 (by decide)
  have hq : ∀ x y, qln σ x y < 2 ^ 31 := fun x y => by
    have h1 : qln σ x y ≤ σ.2.length := List.length_filter_le _ _
    have h2 := (wfP hw).1
    omega
  have inner : ∀ (n4 x : Nat), x < σ.1 0 → ∀ m i : Nat, i ≤ σ.1 0 → σ.1 0 - i < m → hX9_squares_17 N n4 m (lI (sq (sqr σ (σ.1 0)) x + sq (fun y => qln σ x y * qln σ x y) i)) (nI x) (nI i) I = hX9_squares_4 N n4 (lI (sq (sqr σ (σ.1 0)) (x + 1))) (nI (x + 1)) I := by
    intro n4 x hx m
    induction m with
    | zero => intro i _ h; omega
    | succ m ih =>
      intro i hi hm
      rw [eX9_squares_17, cc0, n0, e0]
      by_cases hin : i = σ.1 0
      · rw [hin, if_pos ((cge (by omega) (by omega)).mpr (Nat.le_refl _)), l1, nI_add]
        rfl
      · have em : gb_lmul (lI (qln σ x i)) (lI (qln σ x i)) = lI (qln σ x i * qln σ x i) := lI_mul _ _
        have ea : gb_ladd (lI (sq (sqr σ (σ.1 0)) x + sq (fun y => qln σ x y * qln σ x y) i)) (lI (qln σ x i * qln σ x i)) = lI (sq (sqr σ (σ.1 0)) x + sq (fun y => qln σ x y * qln σ x y) (i + 1)) := by
          refine (lI_add _ _).trans ?_
          rw [Nat.add_assoc]; rfl
        rw [if_neg (fun z => hin (by have := (cge (by omega) (by omega)).mp z; omega)), pX9_queued (N := N) (σ := σ) (by rw [gSm18 (by decide)]; exact hr) hw (by omega) (by omega) (by omega), hI_mk, gMm18, nI_long (hq x i), em, ea, l1, nI_add]
        exact ih (i + 1) (by omega) (by omega)
  have key : ∀ m i : Nat, i ≤ σ.1 0 → σ.1 0 - i < m → hX9_squares_4 N m (lI (sq (sqr σ (σ.1 0)) i)) (nI i) I = some (.inl (some (.long (lI (sq (sqr σ (σ.1 0)) (σ.1 0))))), I) := by
    intro m
    induction m with
    | zero => intro i _ h; omega
    | succ m ih =>
      intro i hi hm
      rw [eX9_squares_4, cc0, n0, e0]
      by_cases hin : i = σ.1 0
      · rw [hin, if_pos ((cge (by omega) (by omega)).mpr (Nat.le_refl _))]
      · rw [if_neg (fun z => hin (by have := (cge (by omega) (by omega)).mp z; omega)), l0]
        have := inner m i (by omega) N 0 (Nat.zero_le _) (by omega)
        rw [show sq (sqr σ (σ.1 0)) i + sq (fun y => qln σ i y * qln σ i y) 0 = sq (sqr σ (σ.1 0)) i from rfl] at this
        rw [this]
        exact ih (i + 1) (by omega) (by omega)
  rw [eX9_squares, eX9_squares_0, z0, l0]
  have := key N 0 (Nat.zero_le _) (by omega)
  rw [sqr_eq hw] at this
  exact this
/-- the totals of a state -/
def totO (σ : St) (w : Nat) : Nat := match w with
  | 0 => σ.1 7
  | 1 => σ.2.length
  | 2 => σ.1 8
  | 3 => sq (shq σ) 100
  | 4 => sq (fun q => (qsq σ q).length * (qsq σ q).length) 100
  | _ => sq (fun q => shq σ q * shq σ q) 100
theorem pX9_totalOf {N w : Nat} {σ : St} {I : gM} (hr : RowIs (I 3) σ) (hw : Wg (110 * σ.1 7) σ) (hw5 : w ≤ 5) (hN : 1000 ≤ N) : fX9_totalOf N [.ref 0, .int (nI w)] I = some (.inl (some (.long (lI (totO σ w)))), I) := by
  have l7 : (7 : Int32) = nI 7 := rfl
  have l8 : (8 : Int32) = nI 8 := rfl
  have l245 : (245 : Int32) = nI 245 := rfl
  have n7 : (7 : Int32).toNatClampNeg = 7 := by decide
  have n8 : (8 : Int32).toNatClampNeg = 8 := by decide
  have n245 : (245 : Int32).toNatClampNeg = 245 := by decide
  have c7 : ∀ X : gO, ck 2746 7 X = X := fun X => by rw [l7, ckI (by decide) (by decide)]
  have c8 : ∀ X : gO, ck 2746 8 X = X := fun X => by rw [l8, ckI (by decide) (by decide)]
  have c245 : ∀ X : gO, ck 2746 245 X = X := fun X => by rw [l245, ckI (by decide) (by decide)]
  have k7 := (wfC hw.1).2.2.2.2.2.2.2.1
  have k8 := (wfC hw.1).2.2.2.2.2.2.2.2
  have kl := (wfP hw.1).1
  have hS : RowIs (gS (rg 0 18) I 3) σ := by rw [gSm18 (by decide)]; exact hr
  have sh : ∀ b : Bool, hJ (fX9_shadows N [.ref 0, .int (b2 b)] (gS (rg 0 18) I)) (rg 0 18) I (fun x1 I1 => some (.inl (some (.long x1)), I1)) = some (.inl (some (.long (lI (sq (fun q => if b = true then shq σ q * shq σ q else shq σ q) 100)))), I) := fun b => by
    rw [pX9_shadows hS hw hN, hJ_mk, gMm18]
  have s1 := sh true
  have s0 := sh false
  rw [show b2 true = (1 : Int32) from rfl] at s1
  rw [show b2 false = (0 : Int32) from rfl] at s0
  rw [eX9_totalOf, eX9_totalOf_0, s1, s0, pX9_squares hS hw.1 hN, hJ_mk, gMm18, c7, c8, c245, n7, n8, n245, hr.1 7 (by decide), hr.1 8 (by decide), hr.2.1, nI_long (by omega), nI_long (by omega), nI_long (by omega)]
  refine (hT_at (k := w) (n := 4) rfl (by decide) (by omega)).trans ?_
  match w, hw5 with
  | 0, _ => rw [dif_pos (by decide)]; rfl
  | 1, _ => rw [dif_pos (by decide)]; rfl
  | 2, _ => rw [dif_pos (by decide)]; rfl
  | 3, _ => rw [dif_pos (by decide)]; rfl
  | 4, _ => rw [dif_pos (by decide)]; rfl
  | 5, _ => rw [dif_neg (by decide)]; rfl
  | w + 6, h => omega
theorem pX8_totalOf {N w : Nat} {σ : St} {I : gM} (hc : STc I σ) (hw : Wg (110 * σ.1 7) σ) (hw5 : w ≤ 5) (hN : 1000 ≤ N) : fX8_totalOf N [.ref 0, .int (nI w)] I = some (.inl (some (.long (lI (totO σ w)))), I) := by
  have k7 := (wfC hw.1).2.2.2.2.2.2.2.1
  have k8 := (wfC hw.1).2.2.2.2.2.2.2.2
  have kl := (wfP hw.1).1
  have ln : ∀ q, q < 100 → I 13 q = nI (qsq σ q).length ∧ (qsq σ q).length < 2 ^ 31 := fun q hq => by
    have := hc.2.2.toq.len hq
    rw [gS10 (by decide)] at this
    exact ⟨this.1, by omega⟩
  have sh : ∀ q, q < 100 → I 14 q = nI (shq σ q) ∧ shq σ q < 2 ^ 31 := fun q hq => ⟨hc.2.1.2.2 q hq, shq_lt hw hq⟩
  have pk : I 10 11 = nI σ.2.length := by
    have := hc.2.2.toq.P.1
    rw [gS10 (by decide)] at this; exact this
  have g1 : ∀ a, gMg [a] I (gS [a] I) = I := fun a => gMg_gS _ _ (by show 1 ≤ 1000; decide)
  rw [eX8_totalOf, eX8_totalOf_0, pX8_sumSq (f := shq σ) (I := gS [14] I) (fun q hq => sh q hq) hN, pX8_sum (f := shq σ) (I := gS [14] I) (fun q hq => sh q hq) hN, pX8_sumSq (f := fun q => (qsq σ q).length) (I := gS [13] I) (fun q hq => ln q hq) hN, hJ_mk, hJ_mk, hJ_mk, g1, g1, hc.2.1.1, hc.2.1.2.1, pk, nI_long (by omega), nI_long (by omega), nI_long (by omega)]
  refine (hT_at (k := w) (n := 4) rfl (by decide) (by omega)).trans ?_
  match w, hw5 with
  | 0, _ => rw [dif_pos (by decide)]; rfl
  | 1, _ => rw [dif_pos (by decide)]; rfl
  | 2, _ => rw [dif_pos (by decide)]; rfl
  | 3, _ => rw [dif_pos (by decide)]; rfl
  | 4, _ => rw [dif_pos (by decide)]; rfl
  | 5, _ => rw [dif_neg (by decide)]; rfl
  | w + 6, h => omega
