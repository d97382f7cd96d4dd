/-! ===== a change of both sides ===== -/
theorem IN.step {I J I1 J1 I2 J2 : gM} {a : AB} {σ' : St} (hc : INc I a) (hm : INm J a) (hw : INw a) (c1 : HI (gS (rg 61 122) I1) (rem6 a.2.1 a.1)) (c2 : ∀ k, (k < 61 ∨ 183 ≤ k) → I1 k = I k) (m1 : PS J1 (rem6 a.2.1 a.1)) (m2 : ∀ j, j ≠ 13 → J1 0 j = J 0 j) (m3 : ∀ k, k ≠ 0 → k ≠ 6 → J1 k = J k)
    (d1 : STc (gS (rg 1 20) I2) σ') (d2 : ∀ k, (k = 0 ∨ 21 ≤ k) → I2 k = I1 k) (r1 : RowIs (J2 3) σ') (r2 : ∀ j, (j = 2 ∨ j = 13 ∨ j = 16) → J2 0 j = J1 0 j) (r3 : ∀ k, (k = 1 ∨ k = 5 ∨ k = 6) → J2 k = J1 k) (w : Wt σ') : IN I2 J2 (σ', rem6 a.2.1 a.1, a.2.2.1, a.2.2.2) := by
  obtain ⟨hc1, hc2, hc3, hc4⟩ := hc
  obtain ⟨hm1, hm2, hm3, hm4⟩ := hm
  obtain ⟨w1, w2, w3, w4, w5, w6⟩ := hw
  have e : ∀ k, (k = 0 ∨ (21 ≤ k ∧ k < 61) ∨ 183 ≤ k) → I2 k = I k := fun k hk => by rw [d2 k (by omega), c2 k (by omega)]
  refine ⟨⟨d1, c1.congr (fun k hk => ?_), ⟨by rw [e 0 (by omega)]; exact hc3.1, fun τ hτ => (hc3.2 τ hτ).congr (fun k hk => ?_)⟩, by rw [BFc, e 183 (by omega), e 184 (by omega)]; exact hc4⟩, ⟨r1, ⟨by rw [r2 13 (by omega)]; exact m1.1, fun i τ hτ => by rw [r3 6 (by omega)]; exact m1.2 i τ hτ⟩, ⟨by rw [r2 16 (by omega), m2 16 (by decide)]; exact hm3.1, fun τ hτ => by rw [r3 5 (by omega), m3 5 (by decide) (by decide)]; exact hm3.2 τ hτ⟩, by rw [BFm, r2 2 (by omega), m2 2 (by decide), r3 1 (by omega), m3 1 (by decide) (by decide)]; exact hm4⟩, w, fun τ hτ => ?_, w3, w4, rem6_len w5, w6⟩
  · rw [gS_b hk (by decide), gS_b hk (by decide), d2 _ (by omega)]
  · rw [gS_b hk (by decide), gS_b hk (by decide), e _ (by omega)]
  · rcases rem6_mem hτ with z | z
    · exact w2 τ z
    · rw [z]; exact w1
theorem CN.gen {I J : gM} {r s : Nat → Nat} (h : CN I r) (e0 : s 0 = r 0) (e1 : s 1 = r 1) (e2 : s 2 = r 2) (hj1 : J 1 = I 1) (hl : ∀ k, k < r 1 → J 2 k = nI (lkp s k 0) ∧ J 3 k = nI (lkp s k 1) ∧ J 4 k = nI (lkp s k 2) ∧ J 5 k = nI (lkp s k 3) ∧ J 6 k = nI (cfp s k)) (hs : ∀ i, i < 4 → J 7 i = nI (s (3 + i))) (hf : ∀ f w, f < r 2 → w < 11 → J 8 (f * 11 + w) = nI (flp s f w)) (hk : ∀ k, k < r 1 → lkp s k 0 = lkp r k 0 ∧ lkp s k 1 = lkp r k 1) (hj9 : J 9 = I 9) : CN J s := by
  obtain ⟨⟨a0, a1, a2⟩, b, c, d, f⟩ := h
  have hsl : sameL r s := ⟨e0, e1, hk⟩
  refine ⟨⟨by rw [hj1, e0]; exact a0, by rw [hj1, e1]; exact a1, by rw [hj1, e2]; exact a2⟩, fun k hk2 => hl k (by rw [← e1]; exact hk2), hs, fun g w hg hw => hf g w (by rw [← e2]; exact hg) hw, fun x g hx hg => ?_⟩
  rw [e0] at hx hg
  obtain ⟨d', d1, d2⟩ := f x g hx hg
  exact ⟨d', isD_congr hsl d1, by rw [hj9]; exact d2⟩
theorem Wf.gen {B : Nat} {r s : Nat → Nat} {ps : List Pk} (h : Wf B (r, ps)) (e0 : s 0 = r 0) (e1 : s 1 = r 1) (e2 : s 2 = r 2) (hset : s 3 ≤ 1 ∧ s 4 ≤ 50 ∧ s 5 ≤ 20 ∧ s 6 ≤ 1) (e7 : s 7 = r 7) (e8 : s 8 = r 8) (hl : ∀ k, k < r 1 → lkp s k 0 = lkp r k 0 ∧ lkp s k 1 = lkp r k 1 ∧ 1 ≤ lkp s k 2 ∧ lkp s k 2 ≤ 5)
    (hcf : ∀ k, k < r 1 → ∀ j, (cfp s k).testBit j = true → j < r 1 ∧ j ≠ k ∧ (cfp s j).testBit k = true) (hf : ∀ f, f < r 2 → flp s f 0 = flp r f 0 ∧ flp s f 1 = flp r f 1 ∧ flp s f 2 ≤ 300 ∧ flp s f 3 ≤ 200 ∧ flp s f 6 = flp r f 6 ∧ flp s f 10 = flp r f 10) (hs : ∀ x, 145 ≤ x → s x = r x) : Wf B (s, ps) := by
  obtain ⟨c0, c1, c2, c3, c4, c5, c6, c7, c8⟩ := wfC h
  refine ⟨⟨by show 2 ≤ s 0 ∧ s 0 ≤ 10; rw [e0]; exact c0, by show s 1 ≤ 14; rw [e1]; exact c1, by show s 2 ≤ 6; rw [e2]; exact c2, hset.1, hset.2.1, hset.2.2.1, hset.2.2.2, by show s 7 ≤ 10100; rw [e7]; exact c7, by show s 8 ≤ 500; rw [e8]; exact c8⟩, fun k hk => ?_, fun j k hj hk => ?_, fun k hk j hj => ?_, fun f hf2 => ?_, fun x d hx hd => ?_, (wfP h).1, fun p hp => ?_⟩
  · have hk' : k < r 1 := by rw [← e1]; exact hk
    obtain ⟨z0, z1, z2, z3⟩ := hl k hk'
    obtain ⟨y0, y1, y2, -, -⟩ := wfL h k hk'
    show lkp s k 0 < s 0 ∧ lkp s k 1 < s 0 ∧ lkp s k 0 ≠ lkp s k 1 ∧ 1 ≤ lkp s k 2 ∧ lkp s k 2 ≤ 5
    rw [z0, z1, e0]
    exact ⟨y0, y1, y2, z2, z3⟩
  · have hj' : j < r 1 := by rw [← e1]; exact hj
    have hk' : k < r 1 := by rw [← e1]; exact hk
    show lkp s j 0 = lkp s k 0 → lkp s j 1 = lkp s k 1 → j = k
    rw [(hl j hj').1, (hl j hj').2.1, (hl k hk').1, (hl k hk').2.1]
    exact wfU h j k hj' hk'
  · have := hcf k (by rw [← e1]; exact hk) j hj
    show j < s 1 ∧ _
    rw [e1]; exact this
  · have hf' : f < r 2 := by rw [← e2]; exact hf2
    obtain ⟨z0, z1, z2, z3, z4, z5⟩ := hf f hf'
    obtain ⟨y0, y1, y2, -, -, y5, y6⟩ := wfF h f hf'
    show flp s f 0 < s 0 ∧ flp s f 1 < s 0 ∧ flp s f 0 ≠ flp s f 1 ∧ flp s f 2 ≤ 300 ∧ flp s f 3 ≤ 200 ∧ flp s f 6 ≤ B ∧ flp s f 10 ≤ 10101
    rw [z0, z1, e0, z4, z5]
    exact ⟨y0, y1, y2, z2, z3, y5, y6⟩
  · show shp s x d ≤ B ∧ (x = d → shp s x d = 0)
    have e : shp s x d = shp r x d := hs _ (by omega)
    rw [e]; exact wfS h x d hx hd
  · obtain ⟨p1, p2, p3, p4, p5⟩ := (wfP h).2 p hp
    have g : gol s p = gol r p := (hf p.1 p1).2.1
    show p.1 < s 2 ∧ p.2.1 ≤ s 7 ∧ p.2.2.2.1 < 1024 ∧ pkn p < s 0 ∧ pkn p ≠ gol s p
    rw [e2, e7, e0, g]; exact ⟨p1, p2, p3, p4, p5⟩
/-- the queues stay where destinations do -/
theorem qsq_up {r : Nat → Nat} {ps : List Pk} {i x : Nat} (hi : ∀ f, i ≠ 65 + 11 * f + 1) : qsq (up1 r i x, ps) = qsq (r, ps) := by
  funext q
  exact inq_congr (fun p _ => up1_n (x := x) (fun e => hi p.1 e.symm))
theorem gSU {I : gM} {p j : Nat} {x : Int32} : ∀ k, k < 20 → gS (rg 1 20) (gU I (1 + p) j x) k = gU (gS (rg 1 20) I) p j x k := fun k hk => by
  rw [gS_b hk (by decide)]
  by_cases h : k = p
  · rw [h, gU_u3, gU_u3, gS_b (by omega) (by decide)]
  · rw [gU_ok (by omega), gU_ok h, gS_b hk (by decide)]
/-- one number of the net is another one, in class and row -/
theorem STc.up {I : gM} {r : Nat → Nat} {ps : List Pk} {p j i x : Nat} (h : STc I (r, ps)) (hp : 2 ≤ p ∧ p ≤ 8) (hi7 : i ≠ 7 ∧ i ≠ 8 ∧ i < 145) (hi1 : ∀ f, i ≠ 65 + 11 * f + 1) (hn : CN (gU I p j (nI x)) (up1 r i x)) : STc (gU I p j (nI x)) (up1 r i x, ps) := by
  refine ⟨hn, ⟨?_, ?_, fun q hq => ?_⟩, ?_⟩
  · rw [gU_ok (by omega)]
    show _ = nI (up1 r i x 7)
    rw [up1_n (by omega)]; exact h.2.1.1
  · rw [gU_ok (by omega)]
    show _ = nI (up1 r i x 8)
    rw [up1_n (by omega)]; exact h.2.1.2.1
  · rw [gU_ok (by omega)]
    show _ = nI (up1 r i x (145 + q))
    rw [up1_n (by omega)]; exact h.2.1.2.2 q hq
  · rw [qsq_up hi1]
    exact CQ.congr h.2.2 (fun k k1 _ _ => gU_ok (by omega))
theorem STc.num {I : gM} {r : Nat → Nat} {ps : List Pk} {f w x : Nat} (h : STc I (r, ps)) (h14 : r 1 ≤ 14) (h6 : r 2 ≤ 6) (hf : f < r 2) (hw : w < 11) (hw1 : w ≠ 1) : STc (gU I 8 (f * 11 + w) (nI x)) (up1 r (65 + 11 * f + w) x, ps) :=
  h.up (by decide) (by omega) (fun g => by omega) (h.1.num h14 h6 hf hw)
theorem STc.cap {I : gM} {r : Nat → Nat} {ps : List Pk} {k x : Nat} (h : STc I (r, ps)) (h14 : r 1 ≤ 14) (hk : k < r 1) : STc (gU I 4 k (nI x)) (up1 r (9 + 4 * k + 2) x, ps) := by
  have hn : CN I r := h.1
  have h6 : ∀ f w, flp (up1 r (9 + 4 * k + 2) x) f w = flp r f w := fun f w => up1_n (by omega)
  refine h.up (by decide) (by omega) (fun g => by omega) (hn.gen (up1_n (by omega)) (up1_n (by omega)) (up1_n (by omega)) (gU_ok (by decide)) (fun j hj => ?_) (fun i hi => ?_) (fun f w hf hw => ?_) (fun j hj => ⟨up1_n (by omega), up1_n (by omega)⟩) (gU_ok (by decide)))
  · obtain ⟨b0, b1, b2, b3, b4⟩ := hn.2.1 j hj
    have l0 : lkp (up1 r (9 + 4 * k + 2) x) j 0 = lkp r j 0 := up1_n (by omega)
    have l1 : lkp (up1 r (9 + 4 * k + 2) x) j 1 = lkp r j 1 := up1_n (by omega)
    have l3 : lkp (up1 r (9 + 4 * k + 2) x) j 3 = lkp r j 3 := up1_n (by omega)
    have lc : cfp (up1 r (9 + 4 * k + 2) x) j = cfp r j := up1_n (by omega)
    rw [l0, l1, l3, lc, gU_ok (k' := 2) (by decide), gU_ok (k' := 3) (by decide), gU_ok (k' := 5) (by decide), gU_ok (k' := 6) (by decide)]
    refine ⟨b0, b1, ?_, b3, b4⟩
    by_cases e : j = k
    · have l2 : lkp (up1 r (9 + 4 * k + 2) x) j 2 = x := by rw [e]; exact up1_s
      rw [l2, e, gU_us]
    · have l2 : lkp (up1 r (9 + 4 * k + 2) x) j 2 = lkp r j 2 := up1_n (by omega)
      rw [l2, gU_un (Or.inr e)]; exact b2
  · rw [gU_ok (by decide), up1_n (by omega)]; exact hn.2.2.1 i hi
  · rw [gU_ok (by decide), h6]; exact hn.2.2.2.1 f w hf hw
theorem STc.set {I : gM} {r : Nat → Nat} {ps : List Pk} {k x : Nat} (h : STc I (r, ps)) (hk : k < 4) : STc (gU I 7 k (nI x)) (up1 r (3 + k) x, ps) := by
  have hn : CN I r := h.1
  refine h.up (by decide) (by omega) (fun g => by omega) (hn.gen (up1_n (by omega)) (up1_n (by omega)) (up1_n (by omega)) (gU_ok (by decide)) (fun j hj => ?_) (fun i hi => ?_) (fun f w hf hw => ?_) (fun j hj => ⟨up1_n (by omega), up1_n (by omega)⟩) (gU_ok (by decide)))
  · have l : ∀ w, lkp (up1 r (3 + k) x) j w = lkp r j w := fun w => up1_n (by omega)
    have lc : cfp (up1 r (3 + k) x) j = cfp r j := up1_n (by omega)
    rw [l, l, l, l, lc, gU_ok (by decide), gU_ok (by decide), gU_ok (by decide), gU_ok (by decide), gU_ok (by decide)]
    exact hn.2.1 j hj
  · by_cases e : i = k
    · rw [e, gU_us, up1_s]
    · rw [gU_un (Or.inr e), up1_n (by omega)]; exact hn.2.2.1 i hi
  · have l : flp (up1 r (3 + k) x) f w = flp r f w := up1_n (by omega)
    rw [gU_ok (by decide), l]; exact hn.2.2.2.1 f w hf hw
def msz (k : Nat) : Nat := match k with
  | 0 => 1
  | 1 => 50
  | 2 => 20
  | _ => 1
theorem Wt.up {σ : St} {i x : Nat} (h : Wt σ) (hi7 : i ≠ 7 ∧ i ≠ 8 ∧ i ≠ 0 ∧ i ≠ 1 ∧ i ≠ 2 ∧ i < 131) (hset : ∀ k, k < 4 → i = 3 + k → x ≤ msz k) (hcap : ∀ k, i = 9 + 4 * k + 2 → i < 65 → 1 ≤ x ∧ x ≤ 5) (hno : ∀ k w, w < 4 → w ≠ 2 → i < 65 → i ≠ 9 + 4 * k + w) (hfl : ∀ f w, w < 11 → i = 65 + 11 * f + w → (w = 2 ∧ x ≤ 300) ∨ (w = 3 ∧ x ≤ 200)) : Wt (up1 σ.1 i x, σ.2) := by
  obtain ⟨⟨hw, hg⟩, h7⟩ := h
  obtain ⟨r, ps⟩ := σ
  obtain ⟨c0, c1, c2, c3, c4, c5, c6, c7, c8⟩ := wfC hw
  have c1' : r 1 ≤ 14 := c1
  have c2' : r 2 ≤ 6 := c2
  have e7 : up1 r i x 7 = r 7 := up1_n (by omega)
  have fl : ∀ f w, w < 11 → w ≠ 2 → w ≠ 3 → flp (up1 r i x) f w = flp r f w := fun f w hw2 h2 h3 => up1_n (fun e => by
    have := hfl f w hw2 e.symm
    omega)
  have st : ∀ k, k < 4 → up1 r i x (3 + k) ≤ msz k := fun k hk => by
    by_cases e : i = 3 + k
    · rw [e, up1_s]; exact hset k hk e
    · rw [up1_n (fun z => e z.symm)]
      match k, hk with
      | 0, _ => exact c3
      | 1, _ => exact c4
      | 2, _ => exact c5
      | 3, _ => exact c6
      | k + 4, h => omega
  refine ⟨⟨?_, fun f hf => ?_⟩, ?_⟩
  · show Wf (110 * up1 r i x 7) (up1 r i x, ps)
    rw [e7]
    refine Wf.gen hw (up1_n (by omega)) (up1_n (by omega)) (up1_n (by omega)) ⟨st 0 (by decide), st 1 (by decide), st 2 (by decide), st 3 (by decide)⟩ e7 (up1_n (by omega)) (fun k hk => ?_) (fun k hk j hj => ?_) (fun f hf => ?_) (fun y hy => up1_n (by omega))
    · obtain ⟨z0, z1, z2, z3, z4⟩ := wfL hw k hk
      have n0 : lkp (up1 r i x) k 0 = lkp r k 0 := up1_n (fun e => hno k 0 (by decide) (by decide) (by omega) e.symm)
      have n1 : lkp (up1 r i x) k 1 = lkp r k 1 := up1_n (fun e => hno k 1 (by decide) (by decide) (by omega) e.symm)
      refine ⟨n0, n1, ?_⟩
      by_cases e : i = 9 + 4 * k + 2
      · have n2 : lkp (up1 r i x) k 2 = x := by rw [e]; exact up1_s
        rw [n2]; exact hcap k e (by omega)
      · have n2 : lkp (up1 r i x) k 2 = lkp r k 2 := up1_n (fun z => e z.symm)
        rw [n2]; exact ⟨z3, z4⟩
    · have n : ∀ k, cfp (up1 r i x) k = cfp r k := fun k => up1_n (by omega)
      rw [n] at hj
      rw [n]; exact wfK hw k hk j hj
    · obtain ⟨y0, y1, y2, y3, y4, y5, y6⟩ := wfF hw f hf
      refine ⟨fl f 0 (by decide) (by decide) (by decide), fl f 1 (by decide) (by decide) (by decide), ?_, ?_, fl f 6 (by decide) (by decide) (by decide), fl f 10 (by decide) (by decide) (by decide)⟩
      · by_cases e : i = 65 + 11 * f + 2
        · have n2 : flp (up1 r i x) f 2 = x := by rw [e]; exact up1_s
          rw [n2]
          have := hfl f 2 (by decide) e
          omega
        · have n2 : flp (up1 r i x) f 2 = flp r f 2 := up1_n (fun z => e z.symm)
          rw [n2]; exact y3
      · by_cases e : i = 65 + 11 * f + 3
        · have n2 : flp (up1 r i x) f 3 = x := by rw [e]; exact up1_s
          rw [n2]
          have := hfl f 3 (by decide) e
          omega
        · have n2 : flp (up1 r i x) f 3 = flp r f 3 := up1_n (fun z => e z.symm)
          rw [n2]; exact y4
  · have e : flp (up1 r i x) f 10 = flp r f 10 := fl f 10 (by decide) (by decide) (by decide)
    show flp (up1 r i x) f 10 ≤ 10101
    rw [e]; exact hg f hf
  · show up1 r i x 7 ≤ 9999
    rw [e7]; exact h7
