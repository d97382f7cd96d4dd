/-! ===== meanDelay on both sides ===== -/
theorem remA (x y : Int32) : (gb_rem x y).toInt.natAbs = x.toInt.natAbs % y.toInt.natAbs := by
  have h0 : x.toInt - x.toInt.tdiv y.toInt * y.toInt = (x % y).toInt := by
    rw [Int32.toInt_mod, Int.tmod_def, Int.mul_comm]
  have e : (gb_rem x y).toInt = x.toInt.tmod y.toInt := by
    show (x - x / y * y).toInt = _
    rw [Int32.toInt_sub, Int32.toInt_mul, Int32.toInt_div, Int.sub_bmod_bmod]
    have h1 : (x.toInt - (x.toInt.tdiv y.toInt).bmod (2 ^ 32) * y.toInt).bmod (2 ^ 32) = (x.toInt - x.toInt.tdiv y.toInt * y.toInt).bmod (2 ^ 32) := by
      rw [← Int.sub_bmod_bmod, Int.bmod_mul_bmod, Int.sub_bmod_bmod]
    rw [h1, h0, ← Int32.toInt_mod]
    exact Int.bmod_eq_of_le (by have := Int32.le_toInt (x % y); omega) (by have := Int32.toInt_lt (x % y); omega)
  rw [e, Int.natAbs_tmod]
theorem abs0 {x : Int32} : x.toInt.natAbs = 0 ↔ x = 0 := by
  rw [Int.natAbs_eq_zero]
  exact ⟨fun h => Int32.toInt_inj.mp h, fun h => by rw [h]; rfl⟩
/-- where both sides end: within t laps, at g -/
def GC (N : Nat) (x y : Int32) (t : Nat) (g : Int32) : Prop := (∀ (m c : Nat) (I : gM), t < m → c + t < 100 → hX8_commonDivisor_7 N m x y (nI c) I = some (.inl (some (.int g)), I)) ∧ ∀ (d : Nat) (I : gM), t < d → fX9_common N d [.int x, .int y] I = some (.inl (some (.int g)), I)
theorem GC.zero {N : Nat} (x : Int32) : GC N x 0 0 x := by
  refine ⟨fun m c I hm hc => ?_, fun d I hd => ?_⟩
  · cases m with
    | zero => omega
    | succ m =>
      have l100 : (100 : Int32) = nI 100 := rfl
      rw [eX8_commonDivisor_7, l100, if_neg (fun z => by have := (cge (a := c) (b := 100) (by omega) (by decide)).mp z; omega), if_pos (by decide)]
  · cases d with
    | zero => omega
    | succ d => rw [eX9_common, eX9_common_0, if_neg (by decide)]
theorem GC.step {N t : Nat} {x y g : Int32} (hy : y ≠ 0) (h : GC N y (gb_rem x y) t g) : GC N x y (t + 1) g := by
  have h1 : ¬ gz_eq y = true := fun z => hy (of_decide_eq_true z)
  have h2 : gz_ne y = true := by rw [decide_eq_true_eq]; exact hy
  refine ⟨fun m c I hm hc => ?_, fun d I hd => ?_⟩
  · cases m with
    | zero => omega
    | succ m =>
      have l100 : (100 : Int32) = nI 100 := rfl
      rw [eX8_commonDivisor_7, l100, if_neg (fun z => by have := (cge (a := c) (b := 100) (by omega) (by decide)).mp z; omega), if_neg h1, if_neg hy, nI_s]
      exact h.1 m (c + 1) I (by omega) (by omega)
  · cases d with
    | zero => omega
    | succ d =>
      rw [eX9_common, eX9_common_0, if_pos h2, if_neg hy, h.2 d _ (by omega), hI_mk]
      rfl
theorem GC.all (N : Nat) : ∀ (k : Nat) (x y : Int32), y.toInt.natAbs < 2 ^ k → (x ≠ 0 ∨ y ≠ 0) → ∃ t g, t ≤ 2 * k ∧ g ≠ 0 ∧ GC N x y t g := by
  intro k
  induction k with
  | zero =>
    intro x y hy hxy
    have e : y = 0 := abs0.mp (by have : (2 : Nat) ^ 0 = 1 := rfl; omega)
    subst e
    exact ⟨0, x, by omega, hxy.elim id (fun h => absurd rfl h), GC.zero x⟩
  | succ k ih =>
    intro x y hy hxy
    by_cases e : y = 0
    · subst e
      exact ⟨0, x, by omega, hxy.elim id (fun h => absurd rfl h), GC.zero x⟩
    · by_cases e2 : gb_rem x y = 0
      · have h0 := GC.zero (N := N) y
        rw [← e2] at h0
        exact ⟨1, y, by omega, e, GC.step e h0⟩
      · have a1 := remA x y
        have a2 := remA y (gb_rem x y)
        have py : 0 < y.toInt.natAbs := Nat.pos_of_ne_zero (fun z => e (abs0.mp z))
        have pr : 0 < (gb_rem x y).toInt.natAbs := Nat.pos_of_ne_zero (fun z => e2 (abs0.mp z))
        have lt1 : (gb_rem x y).toInt.natAbs < y.toInt.natAbs := by rw [a1]; exact Nat.mod_lt _ py
        have half : (gb_rem y (gb_rem x y)).toInt.natAbs < 2 ^ k := by
          rw [a2]
          generalize (gb_rem x y).toInt.natAbs = r at pr lt1
          generalize y.toInt.natAbs = b at py lt1 hy
          have hp : 2 ^ (k + 1) = 2 * 2 ^ k := by rw [Nat.pow_succ, Nat.mul_comm]
          have m1 := Nat.mod_lt b pr
          by_cases h : 2 * r ≤ b
          · omega
          · have m2 : b % r = b - r := by
              rw [Nat.mod_eq_sub_mod (by omega), Nat.mod_eq_of_lt (by omega)]
            omega
        obtain ⟨t, g, h1, h2, h3⟩ := ih (gb_rem x y) (gb_rem y (gb_rem x y)) half (Or.inl e2)
        exact ⟨t + 1 + 1, g, by omega, h2, GC.step e (GC.step e2 h3)⟩
theorem j_meanDelay {N : Nat} {v u : Int32} {I J : gM} {a : AB} (h : IN I J a) (hN : 20000 ≤ N) : AG [eIO, eNS] (fX8_meanDelay N [.ref 0, .int v, .int u] I) (fX9_meanDelay N [.ref 0, .int v, .int u] J) := by
  obtain ⟨hc, hm, hw⟩ := h
  have hm' := hm.thr (x := 0)
  have l6 : (6 : Int32) = nI 6 := rfl
  have l9 : (9 : Int32) = nI 9 := rfl
  obtain ⟨w0, w1, w2⟩ := hw.lt
  rw [eX8_meanDelay, eX8_meanDelay_0, x_flow hc hw, eX9_meanDelay, eX9_meanDelay_0, m_flow hm'.1]
  cases hv : ndb v (a.1.1 2) with
  | false =>
    rw [m_ff, i_f, i_n1]
    exact AG.ex 0 rfl rfl rfl gU_us ⟨hc, hm'.thr, hw⟩
  | true =>
    obtain ⟨f, k1, k2⟩ := ndb_t (by omega) hv
    subst k2
    have hb : flp a.1.1 f 6 ≤ 110 * a.1.1 7 := (wfF hw.1.1.1 f k1).2.2.2.2.2.1
    have h7 := hw.1.2
    have hb2 : flp a.1.1 f 6 < 2 ^ 21 := by omega
    have e9 := hc.fl k1 (show 9 < 11 by decide)
    have e6 := hc.fl k1 (show 6 < 11 by decide)
    have r9 : gU J 0 0 0 3 (65 + 11 * f + 9) = nI (flp a.1.1 f 9) := hm'.1.1 _ (by omega)
    have r6 : gU J 0 0 0 3 (65 + 11 * f + 6) = nI (flp a.1.1 f 6) := hm'.1.1 _ (by omega)
    rw [m_ft, i_t, i_n0, l6, l9, r_flow (by omega), r6, eX9_meanDelay_26, pX2_getNumber N _ (by omega), hI_mk, gMg_same _ (by decide), gS_b (by decide) (by decide), e9, pX2_getNumber N _ (by omega), hI_mk, gMg_same _ (by decide), gS_b (by decide) (by decide), e6, eX8_meanDelay_32]
    have ha : (nI (flp a.1.1 f 6)).toInt.natAbs < 2 ^ 21 := by
      have e : (nI (flp a.1.1 f 6)).toInt = (flp a.1.1 f 6 : Int) := by
        show (BitVec.ofNat 32 (flp a.1.1 f 6)).toInt = _
        rw [BitVec.toInt_eq_toNat_cond, BitVec.toNat_ofNat, Nat.mod_eq_of_lt (by omega), if_pos (by omega)]
      rw [e]; exact hb2
    by_cases hz : flp a.1.1 f 6 = 0
    · obtain ⟨t, g, g1, g2⟩ : ∃ t g, t ≤ 42 ∧ GC N (nI (flp a.1.1 f 9)) (nI (flp a.1.1 f 6)) t g := ⟨0, _, by omega, by rw [hz]; exact GC.zero _⟩
      have hcd := g2.1 N 0 (gS [] I) (by omega) (by omega)
      rw [eX8_commonDivisor, eX8_commonDivisor_0, show hX8_commonDivisor_7 N N (nI (flp a.1.1 f 9)) (nI (flp a.1.1 f 6)) 0 (gS [] I) = _ from hcd, hI_mk, if_pos ((zeq (by omega)).mpr hz), if_pos ((zle (by omega)).mpr hz), eX9_meanDelay_34, m_f0, i_e1]
      exact AG.ex 1 rfl rfl rfl gU_us ⟨hc, hm'.thr, hw⟩
    · obtain ⟨t, g, g1, g0, g2⟩ := GC.all N 21 (nI (flp a.1.1 f 9)) (nI (flp a.1.1 f 6)) ha (Or.inr (fun z => hz (by
        have : nI (flp a.1.1 f 6) = nI 0 := z
        exact (nI_eq (by omega) (by decide)).mp this)))
      have hcd := g2.1 N 0 (gS [] I) (by omega) (by omega)
      have hcm := g2.2 70 (gS [] (gU J 0 0 0)) (by omega)
      have gne : gz_ne g = true := by rw [decide_eq_true_eq]; exact g0
      rw [eX8_commonDivisor, eX8_commonDivisor_0, show hX8_commonDivisor_7 N N (nI (flp a.1.1 f 9)) (nI (flp a.1.1 f 6)) 0 (gS [] I) = _ from hcd, hI_mk, if_neg (fun z => hz ((zeq (by omega)).mp z)), if_pos gne, if_neg g0, if_neg g0, if_neg (fun z => hz ((zle (by omega)).mp z)), eX9_meanDelay_34, m_f1, i_e0, l9, l6, r_flow (by omega), r9, r_flow (by omega), r6, eX9_meanDelay_57, hcm, hI_mk]
      have e9' : ∀ w, w < 11 → hX9_meanDelay_74 N g (nI f) (nI w) (gU J 0 0 0) = some (.inl (some (.int (gb_div (nI (flp a.1.1 f w)) g))), gU J 0 0 0) := fun w hw2 => by
        have rw' : gU J 0 0 0 3 (65 + 11 * f + w) = nI (flp a.1.1 f w) := hm'.1.1 _ (by omega)
        rw [eX9_meanDelay_74, r_flow (by omega), rw', if_neg g0]
      by_cases hu : gz_eq u = true
      · rw [if_pos hu, if_pos hu]
        exact AG.ok rfl (e9' 9 (by decide)) gU_us ⟨hc, hm', hw⟩
      · rw [if_neg hu, if_neg hu]
        exact AG.ok rfl (e9' 6 (by decide)) gU_us ⟨hc, hm', hw⟩
