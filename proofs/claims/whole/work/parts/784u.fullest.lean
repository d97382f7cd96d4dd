/-! ===== fullest on both sides ===== -/
/-- the first greatest place before k -/
def bq (f : Nat → Nat) : Nat → Nat
  | 0 => 0
  | k + 1 => if f k ≤ f (bq f k) then bq f k else k
theorem bq_lt (f : Nat → Nat) : ∀ k, bq f k = 0 ∨ bq f k < k
  | 0 => Or.inl rfl
  | k + 1 => by
    show (if f k ≤ f (bq f k) then bq f k else k) = 0 ∨ (if f k ≤ f (bq f k) then bq f k else k) < k + 1
    split
    · rcases bq_lt f k with h | h
      · exact Or.inl h
      · exact Or.inr (by omega)
    · exact Or.inr (Nat.lt_succ_self _)
theorem bq_le {f : Nat → Nat} {k : Nat} (h : f k ≤ f (bq f k)) : bq f (k + 1) = bq f k := if_pos h
theorem bq_gt {f : Nat → Nat} {k : Nat} (h : ¬ f k ≤ f (bq f k)) : bq f (k + 1) = k := if_neg h
theorem bq_skip {f : Nat → Nat} {k : Nat} : ∀ d, (∀ j, j < d → f (k + j) = 0) → bq f (k + d) = bq f k
  | 0, _ => rfl
  | d + 1, h => by
    have e := bq_skip d (fun j hj => h j (by omega))
    have h0 := h d (Nat.lt_succ_self _)
    rw [← Nat.add_assoc, bq_le (by omega), e]
theorem qln_diag {B : Nat} {σ : St} (hw : Wf B σ) {x : Nat} : qln σ x x = 0 := by
  show (σ.2.filter (inq σ.1 x x)).length = 0
  rw [List.length_eq_zero_iff, List.filter_eq_nil_iff]
  intro p hp hq
  unfold inq at hq
  rw [Bool.and_eq_true, decide_eq_true_eq, decide_eq_true_eq] at hq
  obtain ⟨-, -, -, -, p5⟩ := (wfP hw).2 p hp
  omega
def fuq (σ : St) (q : Nat) : Nat := qln σ (q / 10) (q % 10)
theorem fuq_at (σ : St) {x j : Nat} (hj : j < 10) : fuq σ (10 * x + j) = qln σ x j := by
  show qln σ ((10 * x + j) / 10) ((10 * x + j) % 10) = _
  rw [show (10 * x + j) / 10 = x by omega, show (10 * x + j) % 10 = j by omega]
def fuv (σ : St) (k : Nat) : Int32 := if fuq σ (bq (fuq σ) k) = 0 then mI else nI (100 * (bq (fuq σ) k / 10) + bq (fuq σ) k % 10)
theorem pX9_fullest {N : Nat} {B : Nat} {σ : St} {I : gM} (hr : RowIs (I 3) σ) (hw : Wf B σ) (hN : 1000 ≤ N) : hX9_fullest_11 N N (-1) 0 0 I = (if gc_eq (fuv σ 100) (-1) = true then hX9_fullest_92 N (fuv σ 100) 0 I else hX9_fullest_92 N (fuv σ 100) 1 I) := by
  have l0 : (0 : Int32) = nI 0 := rfl
  have l100 : (100 : Int32) = nI 100 := rfl
  have cc0 : ∀ X : gO, ck 2746 0 X = X := fun X => by rw [l0, ckI (by decide) (by decide)]
  have n0 : (0 : Int32).toNatClampNeg = 0 := by decide
  have h10 := (wfC hw).1.2
  have e0 : I 3 0 = nI (σ.1 0) := hr.1 0 (by decide)
  have hq : ∀ x y, qln σ x y < 2 ^ 31 := fun x y => by
    have h1 : qln σ x y ≤ σ.2.length := List.length_filter_le _ _
    have h2 := (wfP hw).1
    omega
  have fz : fuq σ 0 = 0 := qln_diag hw
  have inner : ∀ (n11 x : Nat), x < σ.1 0 → ∀ m i : Nat, i ≤ σ.1 0 → σ.1 0 - i < m → hX9_fullest_24 N n11 m (fuv σ (10 * x + i)) (nI (fuq σ (bq (fuq σ) (10 * x + i)))) (nI x) (nI i) I = hX9_fullest_11 N n11 (fuv σ (10 * (x + 1))) (nI (fuq σ (bq (fuq σ) (10 * (x + 1))))) (nI (x + 1)) I := by
    intro n11 x hx m
    induction m with
    | zero => intro i _ h; omega
    | succ m ih =>
      intro i hi hm
      rw [eX9_fullest_24, cc0, n0, e0]
      by_cases hin : i = σ.1 0
      · have e : bq (fuq σ) (10 * (x + 1)) = bq (fuq σ) (10 * x + i) := by
          rw [show 10 * (x + 1) = 10 * x + i + (10 - i) by omega]
          exact bq_skip _ (fun j hj => by rw [Nat.add_assoc, fuq_at σ (by omega)]; exact qln_out hw (Or.inr (by omega)))
        have ev : fuv σ (10 * (x + 1)) = fuv σ (10 * x + i) := by unfold fuv; rw [e]
        rw [if_pos ((cge (by omega) (by omega)).mpr (by omega)), e, ev, nI_s]
      · have ha : fuq σ (10 * x + i) = qln σ x i := fuq_at σ (by omega)
        have hb : fuq σ (bq (fuq σ) (10 * x + i)) < 2 ^ 31 := hq _ _
        have ha2 : fuq σ (10 * x + i) < 2 ^ 31 := hq _ _
        have em : gb_add (gb_mul 100 (nI x)) (nI i) = nI (100 * x + i) := by
          rw [l100]; simp only [gb_add, gb_mul, pk_mul, nI_add]
        rw [if_neg (fun z => hin (by have := (cge (by omega) (by omega)).mp z; omega)), pX9_queued (N := N) (σ := σ) (by rw [gSm18 (by decide)]; exact hr) hw (by omega) (by omega) (by omega), hI_mk, gMm18, ← ha]
        have hnx := ih (i + 1) (by omega) (by omega)
        rw [← Nat.add_assoc] at hnx
        by_cases hle : fuq σ (10 * x + i) ≤ fuq σ (bq (fuq σ) (10 * x + i))
        · have e := bq_le (f := fuq σ) hle
          have ev : fuv σ (10 * x + i + 1) = fuv σ (10 * x + i) := by unfold fuv; rw [e]
          rw [if_pos ((cle (by omega) hb).mpr hle), eX9_fullest_61, jmax hb (by omega), Nat.max_eq_left hle, nI_s]
          rw [e, ev] at hnx
          exact hnx
        · have e := bq_gt (f := fuq σ) hle
          have ev : fuv σ (10 * x + i + 1) = nI (100 * x + i) := by
            unfold fuv
            rw [e, if_neg (by omega), show (10 * x + i) / 10 = x by omega, show (10 * x + i) % 10 = i by omega]
          rw [if_neg (fun z => hle ((cle ha2 hb).mp z)), eX9_fullest_61, jmax hb ha2, Nat.max_eq_right (by omega), nI_s, em]
          rw [e, ev] at hnx
          exact hnx
  have key : ∀ m i : Nat, i ≤ σ.1 0 → σ.1 0 - i < m → hX9_fullest_11 N m (fuv σ (10 * i)) (nI (fuq σ (bq (fuq σ) (10 * i)))) (nI i) I = (if gc_eq (fuv σ 100) (-1) = true then hX9_fullest_92 N (fuv σ 100) 0 I else hX9_fullest_92 N (fuv σ 100) 1 I) := by
    intro m
    induction m with
    | zero => intro i _ h; omega
    | succ m ih =>
      intro i hi hm
      rw [eX9_fullest_11, cc0, n0, e0]
      by_cases hin : i = σ.1 0
      · have e : bq (fuq σ) 100 = bq (fuq σ) (10 * i) := by
          have h1 := bq_skip (f := fuq σ) (k := 10 * i) (100 - 10 * i) (fun j hj => by
            show qln σ ((10 * i + j) / 10) ((10 * i + j) % 10) = 0
            exact qln_out hw (Or.inl (by omega)))
          rwa [show 10 * i + (100 - 10 * i) = 100 by omega] at h1
        have ev : fuv σ (10 * i) = fuv σ 100 := by unfold fuv; rw [e]
        rw [if_pos ((cge (by omega) (by omega)).mpr (by omega)), ev]
      · have h1 := inner m i (by omega) N 0 (Nat.zero_le _) (by omega)
        rw [Nat.add_zero] at h1
        rw [if_neg (fun z => hin (by have := (cge (by omega) (by omega)).mp z; omega)), l0, h1]
        exact ih (i + 1) (by omega) (by omega)
  have h1 := key N 0 (Nat.zero_le _) (by omega)
  have f0 : fuq σ (bq (fuq σ) (10 * 0)) = 0 := fz
  have v0 : fuv σ (10 * 0) = mI := by unfold fuv; exact if_pos f0
  rw [f0, v0] at h1
  exact h1
theorem j_fullest {N : Nat} {I J : gM} {a : AB} (h : IN I J a) (hN : 20000 ≤ N) : AG [eNS] (fX8_fullest N [.ref 0] I) (fX9_fullest N [.ref 0] J) := by
  obtain ⟨hc, hm, hw⟩ := h
  have hm' := hm.thr (x := 0)
  have l0 : (0 : Int32) = nI 0 := rfl
  have l10 : (10 : Int32) = nI 10 := rfl
  have l100 : (100 : Int32) = nI 100 := rfl
  have ne10 : ¬ (10 : Int32) = 0 := by decide
  have ln : ∀ q, q < 100 → I 14 q = nI (fuq a.1 q) ∧ fuq a.1 q < 2 ^ 31 := fun q hq => by
    have h1 := hc.ln (q := q) hq
    exact ⟨h1.1, Nat.lt_of_le_of_lt h1.2 (by decide)⟩
  have b100 : ∀ k, k ≤ 100 → bq (fuq a.1) k < 100 := fun k hk => by
    rcases bq_lt (fuq a.1) k with h | h <;> omega
  have key : ∀ m k : Nat, 1 ≤ k → k ≤ 100 → 100 - k < m → hX8_fullest_15 N m (nI (bq (fuq a.1) k)) (nI k) I = (if fuq a.1 (bq (fuq a.1) 100) = 0 then some (.inr "java/util/NoSuchElementException", I) else some (.inl (some (.int (fuv a.1 100))), I)) := by
    intro m
    induction m with
    | zero => intro k _ _ h; omega
    | succ m ih =>
      intro k hk hk1 hm
      have hb := b100 k hk1
      obtain ⟨lb, lb2⟩ := ln _ hb
      by_cases hin : k = 100
      · rw [eX8_fullest_15, hin, if_pos (by decide), if_neg ne10, if_neg ne10]
        rw [hin] at hb lb lb2
        rw [ckI hb (by decide), nI_clamp (by omega), lb]
        by_cases hz : fuq a.1 (bq (fuq a.1) 100) = 0
        · rw [if_neg (fun z => (zne lb2).mp z hz), if_pos hz]
        · have ed : gb_div (nI (bq (fuq a.1) 100)) (nI 10) = nI (bq (fuq a.1) 100 / 10) := pk_div (by omega) (by decide) (by decide)
          have er : gb_rem (nI (bq (fuq a.1) 100)) (nI 10) = nI (bq (fuq a.1) 100 % 10) := pk_rem (by omega) (by decide) (by decide)
          have em : gb_add (gb_mul (nI 100) (nI (bq (fuq a.1) 100 / 10))) (nI (bq (fuq a.1) 100 % 10)) = nI (100 * (bq (fuq a.1) 100 / 10) + bq (fuq a.1) 100 % 10) := by
            simp only [gb_add, gb_mul, pk_mul, nI_add]
          rw [if_pos ((zne lb2).mpr hz), if_neg hz, l10, l100, ed, er, em]
          unfold fuv
          rw [if_neg hz]
      · obtain ⟨lk, lk2⟩ := ln k (by omega)
        rw [eX8_fullest_15, if_neg (fun z => by have := (cge (a := k) (b := 100) (by omega) (by decide)).mp z; omega), ckI (by omega) (by decide), ckI hb (by decide), nI_clamp (by omega), nI_clamp (by omega), lb, lk]
        have hnx := ih (k + 1) (by omega) (by omega) (by omega)
        by_cases hle : fuq a.1 k ≤ fuq a.1 (bq (fuq a.1) k)
        · rw [if_pos ((cle lk2 lb2).mpr hle), eX8_fullest_32, nI_s]
          rwa [bq_le (f := fuq a.1) hle] at hnx
        · rw [if_neg (fun z => hle ((cle lk2 lb2).mp z)), eX8_fullest_32, nI_s]
          rwa [bq_gt (f := fuq a.1) hle] at hnx
  have k1 := key N 1 (Nat.le_refl _) (by decide) (by omega)
  have e1 : bq (fuq a.1) 1 = 0 := bq_le (f := fuq a.1) (k := 0) (Nat.le_refl _)
  rw [e1] at k1
  rw [eX8_fullest, eX8_fullest_0, eX9_fullest, eX9_fullest_0, pX9_fullest (N := N) (σ := a.1) (by exact hm'.1) hw.1.1.1 (by omega)]
  have k1' : hX8_fullest_15 N N 0 1 I = _ := k1
  rw [k1']
  by_cases hz : fuq a.1 (bq (fuq a.1) 100) = 0
  · have ev : fuv a.1 100 = mI := if_pos hz
    rw [if_pos hz, ev, if_pos (by decide), eX9_fullest_92, m_f0, i_e1]
    exact AG.ex 0 rfl rfl rfl gU_us ⟨hc, hm'.thr, hw⟩
  · have ev : fuv a.1 100 = nI (100 * (bq (fuq a.1) 100 / 10) + bq (fuq a.1) 100 % 10) := if_neg hz
    have hb := b100 100 (Nat.le_refl _)
    rw [if_neg hz, if_neg (show ¬ gc_eq (fuv a.1 100) (-1) = true from fun z => by
      rw [ev] at z
      exact (ceqm (a := 100 * (bq (fuq a.1) 100 / 10) + bq (fuq a.1) 100 % 10) (by omega)).mp z), eX9_fullest_92, m_f1, i_e0]
    exact AG.ok rfl rfl gU_us ⟨hc, hm', hw⟩
