/-! ===== arrivals of a slot ===== -/
def CT (J : gM) (r : Nat → Nat) (qs : Nat → List Pk) (tr : List (Nat × Pk)) (P : Nat) : Prop := CN J r ∧ CS J r ∧ CQ J qs tr P
theorem CT.congr {I J : gM} {r : Nat → Nat} {qs : Nat → List Pk} {tr : List (Nat × Pk)} {P : Nat} (h : CT I r qs tr P) (he : ∀ k, k < 20 → J k = I k) : CT J r qs tr P :=
  ⟨h.1.congr (fun k _ h2 => he k (by omega)), h.2.1.mem (he 0 (by decide)) (he 14 (by decide)), h.2.2.congr (fun k _ h2 _ => he k h2)⟩
theorem gS20 {I : gM} {k : Nat} (h : k < 20) : gS (rg 0 20) I k = I k := by rw [gS_rg h (by decide), Nat.zero_add]
theorem gM20 {I J : gM} {k : Nat} (h : k < 20) : gMg (rg 0 20) I J k = J k := by
  have := gMg_rgi (b := 0) (n := 20) (I := I) (J := J) (j := k) h
  rwa [Nat.zero_add] at this
theorem CT.into {I : gM} {r : Nat → Nat} {qs : Nat → List Pk} {tr : List (Nat × Pk)} {P : Nat} (h : CT I r qs tr P) : CT (gS (rg 0 20) I) r qs tr P := h.congr (fun _ hk => gS20 hk)
theorem CT.back {I J : gM} {r : Nat → Nat} {qs : Nat → List Pk} {tr : List (Nat × Pk)} {P : Nat} (h : CT J r qs tr P) : CT (gMg (rg 0 20) I J) r qs tr P := h.congr (fun _ hk => gM20 hk)
/-- the shadow of a queue is written -/
theorem CN.far {I : gM} {r : Nat → Nat} {i x : Nat} (h : CN I r) (h14 : r 1 ≤ 14) (h6 : r 2 ≤ 6) (hi : i = 7 ∨ i = 8 ∨ 145 ≤ i) : CN I (up1 r i x) := by
  obtain ⟨h1, h2, h3, h4, h5⟩ := h
  have e : ∀ k, k < 145 → k ≠ 7 → k ≠ 8 → up1 r i x k = r k := fun k hk h7 h8 => up1_n (by omega)
  refine ⟨by rw [e 0 (by decide) (by decide) (by decide), e 1 (by decide) (by decide) (by decide), e 2 (by decide) (by decide) (by decide)]; exact h1, fun k hk => ?_, fun j hj => ?_, fun f w hf hw => ?_, fun a b ha hb => ?_⟩
  · rw [e 1 (by decide) (by decide) (by decide)] at hk
    obtain ⟨a1, a2, a3, a4, a5⟩ := h2 k hk
    exact ⟨a1.trans (congrArg nI (e _ (by omega) (by omega) (by omega)).symm), a2.trans (congrArg nI (e _ (by omega) (by omega) (by omega)).symm), a3.trans (congrArg nI (e _ (by omega) (by omega) (by omega)).symm), a4.trans (congrArg nI (e _ (by omega) (by omega) (by omega)).symm), a5.trans (congrArg nI (e _ (by omega) (by omega) (by omega)).symm)⟩
  · exact (h3 j hj).trans (congrArg nI (e _ (by omega) (by omega) (by omega)).symm)
  · rw [e 2 (by decide) (by decide) (by decide)] at hf
    exact (h4 f w hf hw).trans (congrArg nI (e _ (by omega) (by omega) (by omega)).symm)
  · rw [e 0 (by decide) (by decide) (by decide)] at ha hb
    obtain ⟨d, d1, d2⟩ := h5 a b ha hb
    exact ⟨d, isD_congr ⟨e 0 (by decide) (by decide) (by decide), e 1 (by decide) (by decide) (by decide), fun j hj => ⟨e _ (by omega) (by omega) (by omega), e _ (by omega) (by omega) (by omega)⟩⟩ d1, d2⟩
theorem CT.shadow {I : gM} {r : Nat → Nat} {qs : Nat → List Pk} {tr : List (Nat × Pk)} {P q x : Nat} (h : CT I r qs tr P) (h14 : r 1 ≤ 14) (h6 : r 2 ≤ 6) (hq : q < 100) : CT (gU I 14 q (nI x)) (up1 r (145 + q) x) qs tr P := by
  refine ⟨(h.1.congr (fun k _ h2 => gU_ok (by omega))).far h14 h6 (by omega), ⟨?_, ?_, fun k hk => ?_⟩, h.2.2.congr (fun k _ _ h3 => gU_ok h3)⟩
  · rw [gU_ok (by decide), up1_n (by omega)]; exact h.2.1.1
  · rw [gU_ok (by decide), up1_n (by omega)]; exact h.2.1.2.1
  · by_cases e : k = q
    · rw [e, gU_us, up1_s]
    · rw [gU_un (Or.inr e), up1_n (by omega)]; exact h.2.1.2.2 k hk
def gA (r : Nat → Nat) (f : Nat) : Nat := (r 7 + 1) * flp r f 2 / 100 - r 7 * flp r f 2 / 100
def gB (r : Nat → Nat) (f : Nat) : Nat := (r 7 + 1) * (flp r f 2 * (100 + r 4)) / 10000 - r 7 * (flp r f 2 * (100 + r 4)) / 10000
def arvN (r : Nat → Nat) (f k : Nat) : Nat → Nat := up1 (arrN r f (gA r f) k) (145 + fq r f) (r (145 + fq r f) + gB r f)
theorem grow_le {s b w e : Nat} (hw : 0 < w) (hb : b ≤ e * w) : (s + 1) * b / w - s * b / w ≤ e + 1 := by
  have h1 : (s + 1) * b = s * b + b := by rw [Nat.add_mul, Nat.one_mul]
  have h2 : (s * b + b) / w ≤ (s * b + e * w) / w := Nat.div_le_div_right (by omega)
  rw [Nat.add_mul_div_right _ _ hw] at h2
  rw [h1]; omega
theorem gA_le {r : Nat → Nat} {f : Nat} (h : flp r f 2 ≤ 300) : gA r f ≤ 4 := grow_le (e := 3) (by decide) (by omega)
theorem mul_le2 {a b c d : Nat} (h1 : a ≤ c) (h2 : b ≤ d) : a * b ≤ c * d := Nat.mul_le_mul h1 h2
theorem gB_le {r : Nat → Nat} {f : Nat} (h : flp r f 2 ≤ 300) (h4 : r 4 ≤ 50) : gB r f ≤ 6 := by
  have := mul_le2 (c := 300) (d := 150) h (show 100 + r 4 ≤ 150 by omega)
  exact grow_le (e := 5) (by decide) (by omega)
theorem gA_100 (r : Nat → Nat) (f : Nat) : (r 7 + 1) * (flp r f 2 * 100) / 10000 - r 7 * (flp r f 2 * 100) / 10000 = gA r f := by
  unfold gA
  have h : ∀ x : Nat, x * (flp r f 2 * 100) / 10000 = x * flp r f 2 / 100 := fun x => by
    rw [← Nat.mul_assoc]
    exact Nat.mul_div_mul_right (x * flp r f 2) 100 (show 0 < 100 by decide)
  rw [h, h]
theorem s_growth {N s b : Nat} {I : gM} {K : Int32 → gM → gO} (h : (s + 1) * b < 2 ^ 31) : hI (fX6_growth N [.int (nI s), .int (nI b)] (gS [] I)) [] I K = K (nI ((s + 1) * b / 10000 - s * b / 10000)) I := by
  rw [pX6_growth N _ h, hI_mk]; rfl
theorem r_grown {N s b w : Nat} {I : gM} {K : Int32 → gM → gO} (hw : 0 < w) (hw2 : w < 2 ^ 31) (h : (s + 1) * b < 2 ^ 31) : hI (fX9_grown N [.int (nI s), .int (nI b), .int (nI w)] (gS [] I)) [] I K = K (nI ((s + 1) * b / w - s * b / w)) I := by
  rw [pX9_grown N _ hw hw2 h, hI_mk]; rfl
theorem arrN_n {r : Nat → Nat} {f n k i : Nat} (h : i ≠ 65 + 11 * f + 4) (h2 : i ≠ 65 + 11 * f + 5) : arrN r f n k i = r i := by
  show up1 (up1 r _ _) _ _ i = r i
  rw [up1_n h2, up1_n h]
theorem pX6_letArrive {N : Nat} {I : gM} {r : Nat → Nat} {qs : Nat → List Pk} {tr : List (Nat × Pk)} {P f : Nat} (h : CT I r qs tr P) (h14 : r 1 ≤ 14) (h6 : r 2 ≤ 6) (hf : f < r 2) (h0 : flp r f 0 < 10) (h1 : flp r f 1 < 10) (h2 : flp r f 2 ≤ 300) (h4 : r 4 ≤ 50) (h7 : r 7 ≤ 10100) (hP : P ≤ 500) (hN : 1000 ≤ N) :
    ∃ J, fX6_letArrive N [.ref 0, .int (nI f)] I = some (.inl none, J) ∧ CT J (arvN r f (min (gA r f) (500 - P))) (upq qs (fq r f) (qs (fq r f) ++ List.replicate (min (gA r f) (500 - P)) (newP r f))) tr (P + min (gA r f) (500 - P)) := by
  have l0 : (0 : Int32) = nI 0 := rfl
  have l1 : (1 : Int32) = nI 1 := rfl
  have l2 : (2 : Int32) = nI 2 := rfl
  have l100 : (100 : Int32) = nI 100 := rfl
  have hA := gA_le h2
  have hB := gB_le h2 h4
  have hfq : fq r f < 100 := by unfold fq; omega
  have b1 := mul_le2 (show r 7 + 1 ≤ 10101 by omega) (show flp r f 2 * 100 ≤ 30000 by omega)
  have b2 := mul_le2 h2 (show 100 + r 4 ≤ 150 by omega)
  have b3 := mul_le2 (show r 7 + 1 ≤ 10101 by omega) b2
  rw [eX6_letArrive, eX6_letArrive_0, l2, l100, sN_get h.1 h6 hf (by decide), h.2.1.1]
  simp only [gb_mul, pk_mul]
  rw [s_growth (by omega), gA_100]
  obtain ⟨J, j0, j1, j2, j3⟩ := pX7_arrive (N := N) (n := gA r f) h.into.1 h.into.2.1 h.into.2.2 h14 h6 hf h0 h1 hP (by omega) hN
  rw [j0, hI_mk]
  have hT : CT (gMg (rg 0 20) I J) (arrN r f (gA r f) (min (gA r f) (500 - P))) (upq qs (fq r f) (qs (fq r f) ++ List.replicate (min (gA r f) (500 - P)) (newP r f))) tr (P + min (gA r f) (500 - P)) := CT.back ⟨j1, j2, j3⟩
  generalize gMg (rg 0 20) I J = K at hT ⊢
  have e : ∀ i, i ≠ 65 + 11 * f + 4 → i ≠ 65 + 11 * f + 5 → arrN r f (gA r f) (min (gA r f) (500 - P)) i = r i := fun i a b => arrN_n a b
  have t6 : arrN r f (gA r f) (min (gA r f) (500 - P)) 2 ≤ 6 := by rw [e 2 (by omega) (by omega)]; exact h6
  have t14 : arrN r f (gA r f) (min (gA r f) (500 - P)) 1 ≤ 14 := by rw [e 1 (by omega) (by omega)]; exact h14
  have tf : f < arrN r f (gA r f) (min (gA r f) (500 - P)) 2 := by rw [e 2 (by omega) (by omega)]; exact hf
  have f0 : flp (arrN r f (gA r f) (min (gA r f) (500 - P))) f 0 = flp r f 0 := e _ (by omega) (by omega)
  have f1 : flp (arrN r f (gA r f) (min (gA r f) (500 - P))) f 1 = flp r f 1 := e _ (by omega) (by omega)
  rw [eX6_letArrive_28, l0, l1, sN_get hT.1 t6 tf (by decide), sN_get hT.1 t6 tf (by decide), s_pair, f0, f1]
  show ∃ J, hX6_letArrive_44 N (nI (flp r f 2)) (nI (fq r f)) K = _ ∧ _
  have hs4 : K 7 1 = nI (r 4) := by
    have := hT.1.2.2.1 1 (by decide)
    rw [this, e _ (by omega) (by omega)]
  have hs7 : K 0 2 = nI (r 7) := by rw [hT.2.1.1, e _ (by omega) (by omega)]
  have hsh : K 14 (fq r f) = nI (r (145 + fq r f)) := by rw [hT.2.1.2.2 _ hfq, e _ (by unfold fq; omega) (by unfold fq; omega)]
  rw [eX6_letArrive_44, l1, l100, ckI hfq (by decide), ckI (by decide) (by decide), nI_clamp (n := 1) (by decide), hs4, hs7]
  simp only [gb_mul, gb_add, nI_add, pk_mul]
  rw [s_growth (by omega), ckI hfq (by decide), nI_clamp (by omega), hsh, nI_add]
  refine ⟨_, rfl, ?_⟩
  exact hT.shadow t14 t6 hfq
