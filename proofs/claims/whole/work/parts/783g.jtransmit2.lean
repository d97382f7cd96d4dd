/-! ===== transmit: one state for both sides ===== -/
theorem CN.to {J : gM} {r s : Nat → Nat} (h : CN J r) (h14 : r 1 ≤ 14) (h6 : r 2 ≤ 6) (e : ∀ x, x < 145 → s x = r x) : CN J s := by
  obtain ⟨⟨a0, a1, a2⟩, b, c, d, f⟩ := h
  have hs : sameL r s := ⟨e 0 (by decide), e 1 (by decide), fun j hj => ⟨e _ (by omega), e _ (by omega)⟩⟩
  refine ⟨⟨by rw [e 0 (by decide)]; exact a0, by rw [e 1 (by decide)]; exact a1, by rw [e 2 (by decide)]; exact a2⟩, fun k hk => ?_, fun i hi => by rw [e _ (by omega)]; exact c i hi, fun f' w hf hw => ?_, fun a g ha hg => ?_⟩
  · rw [e 1 (by decide)] at hk
    obtain ⟨b0, b1, b2, b3, b4⟩ := b k hk
    have l : ∀ w, w < 4 → lkp s k w = lkp r k w := fun w hw => e _ (by omega)
    have lc : cfp s k = cfp r k := e _ (by omega)
    rw [l 0 (by decide), l 1 (by decide), l 2 (by decide), l 3 (by decide), lc]
    exact ⟨b0, b1, b2, b3, b4⟩
  · rw [e 2 (by decide)] at hf
    have l : flp s f' w = flp r f' w := e _ (by omega)
    rw [l]; exact d f' w hf hw
  · rw [e 0 (by decide)] at ha hg
    obtain ⟨d', d1, d2⟩ := f a g ha hg
    exact ⟨d', isD_congr hs d1, d2⟩
theorem CT.to {J : gM} {r s : Nat → Nat} {qs qs' : Nat → List Pk} {P : Nat} (h : CT J r qs [] P) (h14 : r 1 ≤ 14) (h6 : r 2 ≤ 6) (e : ∀ x, x < 245 → s x = r x) (eq : ∀ q, q < 100 → qs' q = qs q) : CT J s qs' [] P := by
  obtain ⟨h1, h2, c, own, u, q1, q2, q3, q4⟩ := h
  refine ⟨h1.to h14 h6 (fun x hx => e x (by omega)), ⟨by rw [e 7 (by decide)]; exact h2.1, by rw [e 8 (by decide)]; exact h2.2.1, fun q hq => by rw [e _ (by omega)]; exact h2.2.2 q hq⟩, c, own, u, q1, fun q hq => by rw [eq q hq]; exact q2 q hq, q3, q4⟩
theorem lanF_6 : ∀ (l : List (Nat × Pk)) (σ : St) (f : Nat), (∀ x ∈ l, x.1 < 14 ∧ x.2.1 < 6) → f < 6 → flp (lanF σ l).1 f 6 ≤ flp σ.1 f 6 + l.length
  | [], _, _, _, _ => Nat.le_refl _
  | x :: t, σ, f, h, hf => by
    obtain ⟨x1, x2⟩ := h x List.mem_cons_self
    have ih := lanF_6 t (lanS σ x.1 x.2) f (fun y hy => h y (List.mem_cons_of_mem _ hy)) hf
    have e : lanF σ (x :: t) = lanF (lanS σ x.1 x.2) t := rfl
    rw [e, List.length_cons]
    have hR : flp (lanR σ.1 x.1) f 6 = flp σ.1 f 6 := up1_n (by omega)
    have h1 : flp (lanS σ x.1 x.2).1 f 6 ≤ flp σ.1 f 6 + 1 := by
      unfold lanS
      by_cases hg : lkp σ.1 x.1 1 = gol σ.1 x.2
      · rw [if_pos hg]
        show flp (delN (lanR σ.1 x.1) x.2.1 _) f 6 ≤ _
        by_cases e : f = x.2.1
        · subst e
          have : flp (delN (lanR σ.1 x.1) x.2.1 (σ.1 7 + 1 - x.2.2.1)) x.2.1 6 = flp (lanR σ.1 x.1) x.2.1 6 + 1 := by
            show up1 (up1 (up1 _ _ _) _ _) _ _ (65 + 11 * x.2.1 + 6) = _
            rw [up1_n (by omega), up1_n (by omega), up1_s]
          rw [this, hR]; exact Nat.le_refl _
        · have : flp (delN (lanR σ.1 x.1) x.2.1 (σ.1 7 + 1 - x.2.2.1)) f 6 = flp (lanR σ.1 x.1) f 6 := delN_n (by omega)
          rw [this, hR]; omega
      · rw [if_neg hg]
        have : flp (passN (lanR σ.1 x.1) x.2.1 (bt x.2.2.2.2.1 (lkp σ.1 x.1 1))) f 6 = flp (lanR σ.1 x.1) f 6 := passN_n (by omega)
        show flp (passN (lanR σ.1 x.1) x.2.1 _) f 6 ≤ _
        rw [this, hR]; omega
    omega
theorem lanF_mem {G : Pk → Prop} {r : Nat → Nat} : ∀ (l : List (Nat × Pk)) (σ : St), keepN r σ.1 → (∀ x ∈ l, x.1 < 14 ∧ x.2.1 < 6) → (∀ p ∈ σ.2, G p) → (∀ x ∈ l, lkp r x.1 1 ≠ gol r x.2 → G (passP x.2 (lkp r x.1 1))) → (∀ p ∈ (lanF σ l).2, G p) ∧ keepN r (lanF σ l).1
  | [], _, hk, _, h, _ => ⟨h, hk⟩
  | x :: t, σ, hk, h, hG, hx => by
    obtain ⟨x1, x2⟩ := h x List.mem_cons_self
    have e : lanF σ (x :: t) = lanF (lanS σ x.1 x.2) t := rfl
    have k1 : lkp σ.1 x.1 1 = lkp r x.1 1 := hk.lk x1 (by decide)
    have k2 : gol σ.1 x.2 = gol r x.2 := hk.fl x2 (by decide)
    rw [e]
    refine lanF_mem t _ (hk.tr (fun y y1 y2 y3 y4 y5 => lanS_n (y4 x.1 x1) (fun w w1 w2 => y5 x.2.1 w x2 (by omega) w2))) (fun y hy => h y (List.mem_cons_of_mem _ hy)) (fun p hp => ?_) (fun y hy => hx y (List.mem_cons_of_mem _ hy))
    unfold lanS at hp
    by_cases hg : lkp σ.1 x.1 1 = gol σ.1 x.2
    · rw [if_pos hg] at hp; exact hG p hp
    · rw [if_neg hg] at hp
      have hp' : p ∈ σ.2 ++ [passP x.2 (lkp σ.1 x.1 1)] := hp
      rcases List.mem_append.mp hp' with z | z
      · exact hG p z
      · rw [List.mem_singleton] at z
        rw [z, k1]
        exact hx x List.mem_cons_self (by rw [← k1, ← k2]; exact hg)
theorem addS_le {S : Nat} {bb cm ta r : Nat → Nat} (hta : ∀ k, ta k ≤ 5) : ∀ k x, addS S bb cm ta r k x ≤ r x + 5 * k
  | 0, _ => Nat.le_refl _
  | k + 1, x => by
    have ih := addS_le (S := S) (bb := bb) (cm := cm) (r := r) hta k
    show (if S.testBit k = true ∧ bb k ≠ cm k then up1 (addS S bb cm ta r k) (145 + (bb k * 10 + cm k)) (addS S bb cm ta r k (145 + (bb k * 10 + cm k)) + ta k) else addS S bb cm ta r k) x ≤ _
    by_cases h : S.testBit k = true ∧ bb k ≠ cm k
    · rw [if_pos h]
      by_cases e : x = 145 + (bb k * 10 + cm k)
      · rw [e, up1_s]
        have h1 := ih (145 + (bb k * 10 + cm k))
        have h2 := hta k
        omega
      · rw [up1_n e]
        have := ih x
        omega
    · rw [if_neg h]
      have := ih x
      omega
theorem addS_dg {S n : Nat} {bb cm ta r : Nat → Nat} (hc : ∀ k, k < n → bb k < 10 ∧ (S.testBit k = true → cm k < 10)) : ∀ k, k ≤ n → ∀ a, a < 10 → addS S bb cm ta r k (145 + (10 * a + a)) = r (145 + (10 * a + a))
  | 0, _, _, _ => rfl
  | k + 1, hk, a, ha => by
    have ih := addS_dg (ta := ta) (r := r) hc k (by omega) a ha
    obtain ⟨h1, h2⟩ := hc k (by omega)
    show (if S.testBit k = true ∧ bb k ≠ cm k then up1 (addS S bb cm ta r k) (145 + (bb k * 10 + cm k)) (addS S bb cm ta r k (145 + (bb k * 10 + cm k)) + ta k) else addS S bb cm ta r k) _ = _
    by_cases h : S.testBit k = true ∧ bb k ≠ cm k
    · have := h2 h.1
      rw [if_pos h, up1_n (by omega)]; exact ih
    · rw [if_neg h]; exact ih
