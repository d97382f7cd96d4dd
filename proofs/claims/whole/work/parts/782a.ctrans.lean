/-! ===== the class: transmit as a whole ===== -/
theorem tkS_n2 (S : Nat) (cm r : Nat → Nat) (qs : Nat → List Pk) : ∀ k x, k ≤ 14 → x < 145 → (∀ j, j < 14 → x ≠ 9 + 4 * j + 3) → (tkS S cm r qs k).1 x = r x
  | 0, _, _, _, _ => rfl
  | k + 1, x, hk, h1, h2 => by
    unfold tkS
    by_cases hS : S.testBit k = true
    · rw [if_pos hS]
      show takN _ _ _ _ _ x = r x
      rw [takN_n (h2 k (by omega)) (by omega), tkS_n2 S cm r qs k x (by omega) h1 h2]
    · rw [if_neg hS, tkS_n2 S cm r qs k x (by omega) h1 h2]
theorem pX6_transmit {N : Nat} {I : gM} {r cm : Nat → Nat} {qs : Nat → List Pk} {P S : Nat} (h : CT (gS (rg 7 20) I) r qs [] P) (h14 : r 1 ≤ 14) (h6 : r 2 ≤ 6) (h7 : r 7 ≤ 10100) (hS : S < 2 ^ 14) (hg : ∀ f, f < 6 → flp r f 10 ≤ 10101)
    (hl : ∀ k, k < r 1 → lkp r k 0 < 10 ∧ lkp r k 1 < 10 ∧ lkp r k 2 ≤ 5) (hc : ∀ k, k < r 1 → S.testBit k = true → cm k < 10 ∧ I 2 k = nI (cm k)) (hsh : ∀ q, q < 100 → r (145 + q) < 2 ^ 31) (hp : ∀ q, q < 100 → ∀ p ∈ qs q, p.1 < r 2 ∧ p.2.1 ≤ r 7 ∧ p.2.2.2.1 < 1024) (hN : 1000 ≤ N) :
    ∃ J, fX6_transmit N [.ref 0, .ref 7, .int (nI S)] I = some (.inl none, J) ∧ CT (gS (rg 7 20) J) (brS S (fun k => lkp r k 1) cm (tkP S cm r qs) (tkA S cm r qs) (tkS S cm r qs (r 1)).1 (tkS S cm r qs (r 1)).2 P (r 1)).1 (brS S (fun k => lkp r k 1) cm (tkP S cm r qs) (tkA S cm r qs) (tkS S cm r qs (r 1)).1 (tkS S cm r qs (r 1)).2 P (r 1)).2.1 [] (brS S (fun k => lkp r k 1) cm (tkP S cm r qs) (tkA S cm r qs) (tkS S cm r qs (r 1)).1 (tkS S cm r qs (r 1)).2 P (r 1)).2.2 ∧ ∀ j, j < 4 → J j = I j := by
  have n0 : ∀ x, x < 145 → (∀ j, x ≠ 9 + 4 * j + 3) → (tkS S cm r qs (r 1)).1 x = r x := tkS_n S cm r qs (r 1)
  have e1 : (tkS S cm r qs (r 1)).1 1 = r 1 := n0 1 (by decide) (fun j => by omega)
  have e2 : (tkS S cm r qs (r 1)).1 2 = r 2 := n0 2 (by decide) (fun j => by omega)
  have e7 : (tkS S cm r qs (r 1)).1 7 = r 7 := n0 7 (by decide) (fun j => by omega)
  obtain ⟨J, ids, j0, j1, j2, j3⟩ := transmit_take (N := N) (cm := cm) h h14 h6 hS (fun k hk => ⟨(hl k hk).1, (hl k hk).2.2⟩) hc hsh hN
  obtain ⟨J2, b0, b1, b2⟩ := transmit_bring (N := N) (I := J) (r := (tkS S cm r qs (r 1)).1) (bb := fun k => lkp r k 1) (cm := cm) (qs := (tkS S cm r qs (r 1)).2) (tp := tkP S cm r qs) (ta := tkA S cm r qs) (ids := ids) (P := P) (S := S) (by rw [e1]; exact j1) (by rw [e1]; exact j2) (by rw [e1]; exact h14) (by rw [e2]; exact h6) (by rw [e7]; exact h7) hS (fun f hf => by
    rw [show flp (tkS S cm r qs (r 1)).1 f 10 = flp r f 10 from tkS_n2 S cm r qs (r 1) _ h14 (by omega) (fun j _ => by omega)]; exact hg f hf) (fun k hk => by
    rw [e1] at hk
    exact ⟨n0 _ (by omega) (fun j => by omega), (hl k hk).2.1⟩) (fun k hk hb => by
    rw [e1] at hk
    rw [j3 2 (by decide)]; exact hc k hk hb) (fun k hk hb => by
    rw [e1] at hk
    refine ⟨by rw [tkP_len]; have := (hl k hk).2.2; omega, fun p hpm => ?_⟩
    have hq : tkQ r cm k < 100 := by
      have := (hl k hk).1
      have := (hc k hk hb).1
      unfold tkQ; omega
    rw [e2, e7]; exact hp _ hq p (tkP_mem hpm)) hN
  rw [e1] at b1
  rw [eX6_transmit, eX6_transmit_0, j0, b0]
  exact ⟨J2, rfl, b1, fun j hj => (b2 j (by omega)).trans (j3 j hj)⟩
