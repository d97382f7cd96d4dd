theorem sN_get {N : Nat} {I : gM} {r : Nat → Nat} {f w : Nat} {K : Int32 → gM → gO} (hn : CN I r) (h6 : r 2 ≤ 6) (hf : f < r 2) (hw : w < 11) : hI (fX2_getNumber N [.ref 0, .int (nI f), .int (nI w)] (gS (rg 1 9) I)) (rg 1 9) I K = K (nI (flp r f w)) I := by
  rw [pX2_getNumber N _ (by omega), hI_mk, gM19s, gS19 (by decide), hn.2.2.2.1 f w hf hw]
theorem sN_add {N : Nat} {I : gM} {f w : Nat} {x : Int32} {K : gM → gO} (hf : f < 6) (hw : w < 11) : hV (fX2_addNumber N [.ref 0, .int (nI f), .int (nI w), .int x] (gS (rg 1 9) I)) (rg 1 9) I K = K (gU I 8 (f * 11 + w) (I 8 (f * 11 + w) + x)) := by
  rw [pX2_addNumber N x _ (by omega), hV_mk, gM19U (by decide), gM19s, gS19 (by decide)]
theorem sN_put {N : Nat} {I : gM} {f w : Nat} {x : Int32} {K : gM → gO} (hf : f < 6) (hw : w < 11) : hV (fX2_putNumber N [.ref 0, .int (nI f), .int (nI w), .int x] (gS (rg 1 9) I)) (rg 1 9) I K = K (gU I 8 (f * 11 + w) x) := by
  rw [pX2_putNumber N x _ (by omega), hV_mk, gM19U (by decide), gM19s]
theorem s_pair {N a b : Nat} {I : gM} {K : Int32 → gM → gO} : hI (fX8_pair N [.int (nI a), .int (nI b)] (gS [] I)) [] I K = K (nI (a * 10 + b)) I := by
  rw [pX8_pair, hI_mk]; rfl
def newP (r : Nat → Nat) (f : Nat) : Pk := (f, r 7, 0, 2 ^ flp r f 0, flp r f 0)
def arrN (r : Nat → Nat) (f n k : Nat) : Nat → Nat := up1 (up1 r (65 + 11 * f + 4) (flp r f 4 + n)) (65 + 11 * f + 5) (flp r f 5 + (n - k))
/-- the queue of a flow's source -/
def fq (r : Nat → Nat) (f : Nat) : Nat := flp r f 0 * 10 + flp r f 1
theorem CS.up {I : gM} {r : Nat → Nat} {i x : Nat} (h : CS I r) (hi : i ≠ 7 ∧ i ≠ 8 ∧ (i < 145 ∨ 245 ≤ i)) : CS I (up1 r i x) := by
  refine ⟨h.1.trans (congrArg nI (up1_n (by omega)).symm), h.2.1.trans (congrArg nI (up1_n (by omega)).symm), fun q hq => (h.2.2 q hq).trans (congrArg nI (up1_n (by omega)).symm)⟩
theorem CS.mem {I J : gM} {r : Nat → Nat} (h : CS I r) (h0 : J 0 = I 0) (h14 : J 14 = I 14) : CS J r := by
  unfold CS at h ⊢; rw [h0, h14]; exact h
theorem pX7_arrive {N : Nat} {I : gM} {r : Nat → Nat} {qs : Nat → List Pk} {tr : List (Nat × Pk)} {P f n : Nat} (hn : CN I r) (hs : CS I r) (hq : CQ I qs tr P) (h14 : r 1 ≤ 14) (h6 : r 2 ≤ 6) (hf : f < r 2) (h0 : flp r f 0 < 10) (h1 : flp r f 1 < 10) (hP : P ≤ 500) (hnn : n ≤ 300) (hN : 1000 ≤ N) :
    ∃ J, fX7_arrive N [.ref 0, .int (nI f), .int (nI n)] I = some (.inl (some (.int (nI (min n (500 - P))))), J) ∧ CN J (arrN r f n (min n (500 - P))) ∧ CS J (arrN r f n (min n (500 - P))) ∧ CQ J (upq qs (fq r f) (qs (fq r f) ++ List.replicate (min n (500 - P)) (newP r f))) tr (P + min n (500 - P)) := by
  have l0 : (0 : Int32) = nI 0 := rfl
  have l1 : (1 : Int32) = nI 1 := rfl
  have hfq : fq r f < 100 := by unfold fq; omega
  have key : ∀ m i : Nat, i ≤ n → n - i < m → ∀ K : gM, CN K r → CS K r → CQ K (upq qs (fq r f) (qs (fq r f) ++ List.replicate (min i (500 - P)) (newP r f))) tr (P + min i (500 - P)) →
      ∃ J, hX7_arrive_31 N m (nI f) (nI n) (nI (flp r f 0)) (nI (fq r f)) (nI (min i (500 - P))) (nI i) K = some (.inl (some (.int (nI (min n (500 - P))))), J) ∧ CN J (arrN r f n (min n (500 - P))) ∧ CS J (arrN r f n (min n (500 - P))) ∧ CQ J (upq qs (fq r f) (qs (fq r f) ++ List.replicate (min n (500 - P)) (newP r f))) tr (P + min n (500 - P)) := by
    intro m
    induction m with
    | zero => intro i _ h; omega
    | succ m ih =>
      intro i hi hm K kn ks kq
      have l4 : (4 : Int32) = nI 4 := rfl
      have l5 : (5 : Int32) = nI 5 := rfl
      rw [eX7_arrive_31, l4, l5]
      by_cases hin : i = n
      · subst hin
        rw [if_pos ((cge (by omega) (by omega)).mpr (Nat.le_refl _)), sN_add (by omega) (by decide), sN_add (by omega) (by decide)]
        have e1 : gb_sub (nI i) (nI (min i (500 - P))) = nI (i - min i (500 - P)) := pk_sub (by omega)
        have e2 := kn.2.2.2.1 f 4 hf (by decide)
        have e3 := kn.2.2.2.1 f 5 hf (by decide)
        rw [e1, gU_un (Or.inr (by omega)), e2, e3, nI_add, nI_add]
        have hc1 := kn.num (x := flp r f 4 + i) h14 h6 hf (show 4 < 11 by decide)
        have a2 : ∀ k, k ≤ 2 → up1 r (65 + 11 * f + 4) (flp r f 4 + i) k = r k := fun k hk => up1_n (by omega)
        have hc2 := hc1.num (x := flp r f 5 + (i - min i (500 - P))) (by rw [a2 1 (by decide)]; exact h14) (by rw [a2 2 (by decide)]; exact h6) (f := f) (by rw [a2 2 (by decide)]; exact hf) (show 5 < 11 by decide)
        refine ⟨_, rfl, hc2, ?_, ?_⟩
        · refine CS.up (CS.up (ks.mem ?_ ?_) (by omega)) (by omega)
          · rw [gU_ok (by decide), gU_ok (by decide)]
          · rw [gU_ok (by decide), gU_ok (by decide)]
        · exact kq.congr (fun k h1 _ _ => by rw [gU_ok (by omega), gU_ok (by omega)])
      · rw [if_neg (fun z => hin (by have := (cge (by omega) (by omega)).mp z; omega)), ks.1]
        have e58 : ∀ x K', hX7_arrive_58 N m (nI f) (nI n) (nI (flp r f 0)) (nI (fq r f)) x (nI i) K' = hX7_arrive_31 N m (nI f) (nI n) (nI (flp r f 0)) (nI (fq r f)) x (nI (i + 1)) K' := by
          intro x K'
          rw [eX7_arrive_58, l1, nI_add]
        by_cases hr : i < 500 - P
        · obtain ⟨J, j0, j1, j2⟩ := kq.enter (N := N) (q := fq r f) (f := f) (s := r 7) (a := flp r f 0) (by omega) hfq (by omega)
          rw [j0, hI_mk, if_neg (by decide), l1, nI_add, e58]
          have em : min (i + 1) (500 - P) = min i (500 - P) + 1 := by omega
          rw [← em]
          refine ih (i + 1) (by omega) (by omega) _ (kn.congr (fun k h1 h2 => gM10o (by omega))) (ks.mem (gM10o (by decide)) j2) ?_
          have eq1 : upq (upq qs (fq r f) (qs (fq r f) ++ List.replicate (min i (500 - P)) (newP r f))) (fq r f) (upq qs (fq r f) (qs (fq r f) ++ List.replicate (min i (500 - P)) (newP r f)) (fq r f) ++ [(f, r 7, 0, 2 ^ flp r f 0, flp r f 0)]) = upq qs (fq r f) (qs (fq r f) ++ List.replicate (min (i + 1) (500 - P)) (newP r f)) := by
            funext k
            by_cases e : k = fq r f
            · rw [e, upq_s, upq_s, upq_s, em, List.replicate_succ', List.append_assoc]; rfl
            · rw [upq_n e, upq_n e, upq_n e]
          rw [eq1] at j1
          rw [em] at j1 ⊢
          exact j1
        · have hfull : P + min i (500 - P) = 500 := by omega
          have kq2 := kq
          obtain ⟨c, own, u, k1, -⟩ := kq
          rw [pX4_enter_full _ _ _ _ k1 hfull, hI_mk, if_pos (by decide), gM10s, e58]
          have em : min (i + 1) (500 - P) = min i (500 - P) := by omega
          have := ih (i + 1) (by omega) (by omega) K kn ks (by rw [em]; exact kq2)
          rw [em] at this
          exact this
  rw [eX7_arrive, eX7_arrive_0, l0, l1, sN_get hn h6 hf (by decide), sN_get hn h6 hf (by decide), s_pair, eX7_arrive_23]
  have := key N 0 (Nat.zero_le _) (by omega) I hn hs (by
    rw [Nat.zero_min, Nat.add_zero]
    have : upq qs (fq r f) (qs (fq r f) ++ List.replicate 0 (newP r f)) = qs := by
      funext k
      by_cases e : k = fq r f
      · rw [e, upq_s]; exact List.append_nil _
      · rw [upq_n e]
    rw [this]; exact hq)
  rw [Nat.zero_min] at this
  exact this
