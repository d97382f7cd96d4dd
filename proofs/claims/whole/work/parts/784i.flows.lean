/-! ===== addLink, addFlow, inject ===== -/
theorem Wt.link {σ : St} {x y c : Nat} (h : Wt σ) (h14 : σ.1 1 < 14) (hx : x < σ.1 0) (hy : y < σ.1 0) (hxy : x ≠ y) (h1 : 1 ≤ c) (h5 : c ≤ 5) (hno : ∀ k, k < σ.1 1 → ¬ (lkp σ.1 k 0 = x ∧ lkp σ.1 k 1 = y)) : Wt (layL σ.1 x y c, σ.2) := by
  obtain ⟨⟨hw, hg⟩, h7⟩ := h
  obtain ⟨r, ps⟩ := σ
  have h14' : r 1 < 14 := h14
  obtain ⟨c0, c1, c2, c3, c4, c5, c6, c7, c8⟩ := wfC hw
  have c2' : r 2 ≤ 6 := c2
  have e : ∀ z, z ≠ 1 → (z < 9 ∨ (65 ≤ z ∧ z < 131) ∨ 145 ≤ z) → layL r x y c z = r z := fun z h1 hz => layL_n h1 (by omega) (by omega)
  have hx' : x < r 0 := hx
  have hy' : y < r 0 := hy
  have lk0 : ∀ k, k < r 1 → lkp (layL r x y c) k 0 = lkp r k 0 ∧ lkp (layL r x y c) k 1 = lkp r k 1 ∧ lkp (layL r x y c) k 2 = lkp r k 2 := fun k hk => ⟨layL_lk hk (by decide) h14', layL_lk hk (by decide) h14', layL_lk hk (by decide) h14'⟩
  have fl : ∀ f w, f < 6 → w < 11 → flp (layL r x y c) f w = flp r f w := fun f w hf hw => e _ (by omega) (by omega)
  have e7 : layL r x y c 7 = r 7 := e 7 (by decide) (by omega)
  have cfo : ∀ k, k < r 1 → cfp (layL r x y c) k = cfp r k := fun k hk => layL_n (by omega) (by omega) (by omega)
  refine ⟨⟨?_, fun f hf => ?_⟩, ?_⟩
  · show Wf (110 * layL r x y c 7) (layL r x y c, ps)
    rw [e7]
    refine ⟨⟨by show 2 ≤ layL r x y c 0 ∧ layL r x y c 0 ≤ 10; rw [e 0 (by decide) (by omega)]; exact c0, by show layL r x y c 1 ≤ 14; rw [layL_1]; omega, by show layL r x y c 2 ≤ 6; rw [e 2 (by decide) (by omega)]; exact c2, by show layL r x y c 3 ≤ 1; rw [e 3 (by decide) (by omega)]; exact c3, by show layL r x y c 4 ≤ 50; rw [e 4 (by decide) (by omega)]; exact c4, by show layL r x y c 5 ≤ 20; rw [e 5 (by decide) (by omega)]; exact c5, by show layL r x y c 6 ≤ 1; rw [e 6 (by decide) (by omega)]; exact c6, by show layL r x y c 7 ≤ 10100; rw [e7]; exact c7, by show layL r x y c 8 ≤ 500; rw [e 8 (by decide) (by omega)]; exact c8⟩, fun k hk => ?_, fun j k hj hk => ?_, fun k hk j hj => ?_, fun f hf => ?_, fun u d hu hd => ?_, (wfP hw).1, fun p hp => ?_⟩
    · have hk' : k < r 1 + 1 := by rw [← layL_1 (r := r) (a := x) (b := y) (c := c)]; exact hk
      show lkp (layL r x y c) k 0 < layL r x y c 0 ∧ lkp (layL r x y c) k 1 < layL r x y c 0 ∧ lkp (layL r x y c) k 0 ≠ lkp (layL r x y c) k 1 ∧ 1 ≤ lkp (layL r x y c) k 2 ∧ lkp (layL r x y c) k 2 ≤ 5
      rw [e 0 (by decide) (by omega)]
      by_cases hkr : k = r 1
      · rw [hkr, layL_0 h14', layL_b h14', layL_c h14']
        exact ⟨hx', hy', hxy, h1, h5⟩
      · obtain ⟨z0, z1, z2⟩ := lk0 k (by omega)
        rw [z0, z1, z2]
        exact wfL hw k (by show k < r 1; omega)
    · have hj' : j < r 1 + 1 := by rw [← layL_1 (r := r) (a := x) (b := y) (c := c)]; exact hj
      have hk' : k < r 1 + 1 := by rw [← layL_1 (r := r) (a := x) (b := y) (c := c)]; exact hk
      show lkp (layL r x y c) j 0 = lkp (layL r x y c) k 0 → lkp (layL r x y c) j 1 = lkp (layL r x y c) k 1 → j = k
      by_cases hjr : j = r 1 <;> by_cases hkr : k = r 1
      · intro _ _; omega
      · obtain ⟨z0, z1, -⟩ := lk0 k (by omega)
        rw [hjr, layL_0 h14', layL_b h14', z0, z1]
        intro a b
        exact absurd ⟨a.symm, b.symm⟩ (hno k (by show k < r 1; omega))
      · obtain ⟨z0, z1, -⟩ := lk0 j (by omega)
        rw [hkr, layL_0 h14', layL_b h14', z0, z1]
        intro a b
        exact absurd ⟨a, b⟩ (hno j (by show j < r 1; omega))
      · obtain ⟨z0, z1, -⟩ := lk0 j (by omega)
        obtain ⟨y0, y1, -⟩ := lk0 k (by omega)
        rw [z0, z1, y0, y1]
        exact wfU hw j k (by show j < r 1; omega) (by show k < r 1; omega)
    · have hk' : k < r 1 + 1 := by rw [← layL_1 (r := r) (a := x) (b := y) (c := c)]; exact hk
      have hj2 : (cfp (layL r x y c) k).testBit j = true := hj
      by_cases hkr : k = r 1
      · rw [hkr, layL_k h14', Nat.zero_testBit] at hj2; cases hj2
      · rw [cfo k (by omega)] at hj2
        obtain ⟨z0, z1, z2⟩ := wfK hw k (by show k < r 1; omega) j hj2
        have z0' : j < r 1 := z0
        refine ⟨by show j < layL r x y c 1; rw [layL_1]; omega, z1, ?_⟩
        show (cfp (layL r x y c) j).testBit k = true
        rw [cfo j z0']; exact z2
    · have hf' : f < r 2 := by rw [← e 2 (by decide) (by omega)]; exact hf
      have := wfF hw f hf'
      show flp (layL r x y c) f 0 < layL r x y c 0 ∧ flp (layL r x y c) f 1 < layL r x y c 0 ∧ flp (layL r x y c) f 0 ≠ flp (layL r x y c) f 1 ∧ flp (layL r x y c) f 2 ≤ 300 ∧ flp (layL r x y c) f 3 ≤ 200 ∧ flp (layL r x y c) f 6 ≤ 110 * r 7 ∧ flp (layL r x y c) f 10 ≤ 10101
      rw [fl f 0 (by omega) (by decide), fl f 1 (by omega) (by decide), fl f 2 (by omega) (by decide), fl f 3 (by omega) (by decide), fl f 6 (by omega) (by decide), fl f 10 (by omega) (by decide), e 0 (by decide) (by omega)]
      exact this
    · have es : shp (layL r x y c) u d = shp r u d := e _ (by omega) (by omega)
      show shp (layL r x y c) u d ≤ 110 * r 7 ∧ (u = d → shp (layL r x y c) u d = 0)
      rw [es]; exact wfS hw u d hu hd
    · obtain ⟨p1, p2, p3, p4, p5⟩ := (wfP hw).2 p hp
      have p1' : p.1 < r 2 := p1
      have g : gol (layL r x y c) p = gol r p := fl p.1 1 (by omega) (by decide)
      show p.1 < layL r x y c 2 ∧ p.2.1 ≤ layL r x y c 7 ∧ p.2.2.2.1 < 1024 ∧ pkn p < layL r x y c 0 ∧ pkn p ≠ gol (layL r x y c) p
      rw [e 2 (by decide) (by omega), e7, e 0 (by decide) (by omega), g]
      exact ⟨p1, p2, p3, p4, p5⟩
  · show flp (layL r x y c) f 10 ≤ 10101
    rw [fl f 10 hf (by decide)]; exact hg f hf
  · show layL r x y c 7 ≤ 9999
    rw [e7]; exact h7
theorem Wt.flow {σ : St} {x y c d : Nat} (h : Wt σ) (h6 : σ.1 2 < 6) (hx : x < σ.1 0) (hy : y < σ.1 0) (hxy : x ≠ y) (h3 : c ≤ 300) (h2 : d ≤ 200) : Wt (layF σ.1 x y c d, σ.2) := by
  obtain ⟨⟨hw, hg⟩, h7⟩ := h
  obtain ⟨r, ps⟩ := σ
  have h6' : r 2 < 6 := h6
  obtain ⟨c0, c1, c2, c3, c4, c5, c6, c7, c8⟩ := wfC hw
  have c1' : r 1 ≤ 14 := c1
  have e : ∀ z, z ≠ 2 → (z < 65 ∨ 131 ≤ z) → layF r x y c d z = r z := fun z h1 hz => layF_n h1 (by omega)
  have hx' : x < r 0 := hx
  have hy' : y < r 0 := hy
  have fl : ∀ f w, f ≠ r 2 → w < 11 → flp (layF r x y c d) f w = flp r f w := fun f w hf hw => layF_n (by omega) (by omega)
  have lk : ∀ k w, k < 14 → w < 4 → lkp (layF r x y c d) k w = lkp r k w := fun k w hk hw => e _ (by omega) (by omega)
  have cf : ∀ k, cfp (layF r x y c d) k = cfp r k := fun k => e _ (by omega) (by omega)
  have e7 : layF r x y c d 7 = r 7 := e 7 (by decide) (by omega)
  have e1 : layF r x y c d 1 = r 1 := e 1 (by decide) (by omega)
  refine ⟨⟨?_, fun f hf => ?_⟩, ?_⟩
  · show Wf (110 * layF r x y c d 7) (layF r x y c d, ps)
    rw [e7]
    refine ⟨⟨by show 2 ≤ layF r x y c d 0 ∧ layF r x y c d 0 ≤ 10; rw [e 0 (by decide) (by omega)]; exact c0, by show layF r x y c d 1 ≤ 14; rw [e1]; exact c1, by show layF r x y c d 2 ≤ 6; rw [layF_2]; omega, by show layF r x y c d 3 ≤ 1; rw [e 3 (by decide) (by omega)]; exact c3, by show layF r x y c d 4 ≤ 50; rw [e 4 (by decide) (by omega)]; exact c4, by show layF r x y c d 5 ≤ 20; rw [e 5 (by decide) (by omega)]; exact c5, by show layF r x y c d 6 ≤ 1; rw [e 6 (by decide) (by omega)]; exact c6, by show layF r x y c d 7 ≤ 10100; rw [e7]; exact c7, by show layF r x y c d 8 ≤ 500; rw [e 8 (by decide) (by omega)]; exact c8⟩, fun k hk => ?_, fun j k hj hk => ?_, fun k hk j hj => ?_, fun f hf => ?_, fun u z hu hz => ?_, (wfP hw).1, fun p hp => ?_⟩
    · have hk' : k < r 1 := by rw [← e1]; exact hk
      show lkp (layF r x y c d) k 0 < layF r x y c d 0 ∧ lkp (layF r x y c d) k 1 < layF r x y c d 0 ∧ lkp (layF r x y c d) k 0 ≠ lkp (layF r x y c d) k 1 ∧ 1 ≤ lkp (layF r x y c d) k 2 ∧ lkp (layF r x y c d) k 2 ≤ 5
      rw [lk k 0 (by omega) (by decide), lk k 1 (by omega) (by decide), lk k 2 (by omega) (by decide), e 0 (by decide) (by omega)]
      exact wfL hw k hk'
    · have hj' : j < r 1 := by rw [← e1]; exact hj
      have hk' : k < r 1 := by rw [← e1]; exact hk
      show lkp (layF r x y c d) j 0 = lkp (layF r x y c d) k 0 → lkp (layF r x y c d) j 1 = lkp (layF r x y c d) k 1 → j = k
      rw [lk k 0 (by omega) (by decide), lk k 1 (by omega) (by decide), lk j 0 (by omega) (by decide), lk j 1 (by omega) (by decide)]
      exact wfU hw j k hj' hk'
    · have hk' : k < r 1 := by rw [← e1]; exact hk
      have hj2 : (cfp (layF r x y c d) k).testBit j = true := hj
      rw [cf] at hj2
      have := wfK hw k hk' j hj2
      show j < layF r x y c d 1 ∧ j ≠ k ∧ (cfp (layF r x y c d) j).testBit k = true
      rw [e1, cf]; exact this
    · have hf' : f < r 2 + 1 := by rw [← layF_2 (r := r) (a := x) (b := y) (c := c) (d := d)]; exact hf
      show flp (layF r x y c d) f 0 < layF r x y c d 0 ∧ flp (layF r x y c d) f 1 < layF r x y c d 0 ∧ flp (layF r x y c d) f 0 ≠ flp (layF r x y c d) f 1 ∧ flp (layF r x y c d) f 2 ≤ 300 ∧ flp (layF r x y c d) f 3 ≤ 200 ∧ flp (layF r x y c d) f 6 ≤ 110 * r 7 ∧ flp (layF r x y c d) f 10 ≤ 10101
      rw [e 0 (by decide) (by omega)]
      by_cases hfr : f = r 2
      · rw [hfr, layF_w (by decide), layF_w (by decide), layF_w (by decide), layF_w (by decide), layF_w (by decide), layF_w (by decide)]
        exact ⟨hx', hy', hxy, h3, h2, Nat.zero_le _, Nat.zero_le _⟩
      · rw [fl f 0 hfr (by decide), fl f 1 hfr (by decide), fl f 2 hfr (by decide), fl f 3 hfr (by decide), fl f 6 hfr (by decide), fl f 10 hfr (by decide)]
        exact wfF hw f (by show f < r 2; omega)
    · have es : shp (layF r x y c d) u z = shp r u z := e _ (by omega) (by omega)
      show shp (layF r x y c d) u z ≤ 110 * r 7 ∧ (u = z → shp (layF r x y c d) u z = 0)
      rw [es]; exact wfS hw u z hu hz
    · obtain ⟨p1, p2, p3, p4, p5⟩ := (wfP hw).2 p hp
      have p1' : p.1 < r 2 := p1
      have g : gol (layF r x y c d) p = gol r p := fl p.1 1 (by omega) (by decide)
      show p.1 < layF r x y c d 2 ∧ p.2.1 ≤ layF r x y c d 7 ∧ p.2.2.2.1 < 1024 ∧ pkn p < layF r x y c d 0 ∧ pkn p ≠ gol (layF r x y c d) p
      rw [layF_2, e7, e 0 (by decide) (by omega), g]
      exact ⟨by omega, p2, p3, p4, p5⟩
  · show flp (layF r x y c d) f 10 ≤ 10101
    by_cases hfr : f = r 2
    · rw [hfr, layF_w (by decide)]; exact Nat.zero_le _
    · rw [fl f 10 hfr (by decide)]; exact hg f hf
  · show layF r x y c d 7 ≤ 9999
    rw [e7]; exact h7
