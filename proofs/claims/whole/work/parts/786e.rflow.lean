/-! ===== the reference's greatest flow ===== -/
def mrY (rs : Nat → Nat) (S : Nat → Bool) : Nat := mfS (fun p => cond (S (p / 10) && !S (p % 10)) (rs p) 0) 100
theorem mrD.mono {M : gM} {rs : Nat → Nat} {b c : Nat} (h : mrD M rs b) (hbc : b ≤ c) : mrD M rs c := fun p hp => ⟨(h p hp).1, Nat.le_trans (h p hp).2 hbc⟩
theorem mrY_push {rs : Nat → Nat} {w x : Nat} (hw : w < 10) (hx : x < 10) (hwx : w ≠ x) (h0 : 0 < rs (10 * w + x)) (S : Nat → Bool) : mrY (up1 (up1 rs (10 * w + x) (rs (10 * w + x) - 1)) (10 * x + w) (rs (10 * x + w) + 1)) S + mfI (S w) = mrY rs S + mfI (S x) := by
  have d1 : (10 * w + x) / 10 = w := by omega
  have d2 : (10 * w + x) % 10 = x := by omega
  have d3 : (10 * x + w) / 10 = x := by omega
  have d4 : (10 * x + w) % 10 = w := by omega
  have hne : 10 * x + w ≠ 10 * w + x := by omega
  have e1 : mrY (up1 rs (10 * w + x) (rs (10 * w + x) - 1)) S + mfI (S w && !S x) = mrY rs S + 0 := by
    unfold mrY
    refine mfS_upd (l := 10 * w + x) ?_ (by omega) (fun k _ hk => by simp only [up1_n hk])
    simp only [up1_s, d1, d2]
    cases S w <;> cases S x <;> simp only [mfI, cond_true, cond_false, Bool.not_true, Bool.not_false, Bool.and_true, Bool.and_false, Bool.and_self] <;> omega
  have e2 : mrY (up1 (up1 rs (10 * w + x) (rs (10 * w + x) - 1)) (10 * x + w) (rs (10 * x + w) + 1)) S + 0 = mrY (up1 rs (10 * w + x) (rs (10 * w + x) - 1)) S + mfI (S x && !S w) := by
    unfold mrY
    refine mfS_upd (l := 10 * x + w) ?_ (by omega) (fun k _ hk => by simp only [up1_n hk])
    simp only [up1_s, up1_n hne, d3, d4]
    cases S w <;> cases S x <;> simp only [mfI, cond_true, cond_false, Bool.not_true, Bool.not_false, Bool.and_true, Bool.and_false, Bool.and_self] <;> omega
  have e3 : mfI (S x && !S w) + mfI (S w) = mfI (S w && !S x) + mfI (S x) := by cases S w <;> cases S x <;> rfl
  omega
theorem mrY_zero {rs : Nat → Nat} {w x : Nat} {S : Nat → Bool} (h : mrY rs S = 0) (hE : mrE rs w x) (hw : S w = true) : S x = true := by
  obtain ⟨h1, h2, h3⟩ := hE
  cases hx : S x with
  | true => rfl
  | false =>
    have hp : 0 < mrY rs S := by
      unfold mrY
      refine mfS_pos (l := 10 * w + x) ?_ (by omega)
      show 0 < cond (S ((10 * w + x) / 10) && !S ((10 * w + x) % 10)) (rs (10 * w + x)) 0
      rw [show (10 * w + x) / 10 = w by omega, show (10 * w + x) % 10 = x by omega, hw, hx]
      exact h3
    omega
theorem raug_lap {N n73 s : Nat} {v2 v3 : Int32} (hs : s < 10) : ∀ (ord : List Nat) (m x b : Nat) (M : gM) (rs : Nat → Nat), mrD M rs b → mfT (mrV M rs) s ord → (∀ y, y ∈ ord → y < 10) → x ∈ ord → ord.length ≤ m → ∃ M' rs', hX9_greatestFlow_87 N n73 m (nI s) v2 v3 (nI x) M = hV (fX9_reach N [.ref 0, .int (nI s)] (gS (rg 0 18) M')) (rg 0 18) M' (fun I6 => hX9_greatestFlow_73 N n73 (nI s) v2 (v3 + 1) I6) ∧ mrD M' rs' (b + ord.length) ∧ (∀ q, q ≠ 16 → M' q = M q) ∧ ∀ S : Nat → Bool, mrY rs' S + mfI (S s) = mrY rs S + mfI (S x) := by
  intro ord
  induction ord with
  | nil => intro m x b M rs _ h; exact h.elim
  | cons y t ih =>
    intro m x b M rs hD hT hb hx hm
    rw [List.length_cons] at hm ⊢
    obtain ⟨m, rfl⟩ : ∃ k, m = k + 1 := ⟨m - 1, by omega⟩
    have hx10 := hb x hx
    have hexit : x = s → ∃ M' rs', hX9_greatestFlow_87 N n73 (m + 1) (nI s) v2 v3 (nI x) M = hV (fX9_reach N [.ref 0, .int (nI s)] (gS (rg 0 18) M')) (rg 0 18) M' (fun I6 => hX9_greatestFlow_73 N n73 (nI s) v2 (v3 + 1) I6) ∧ mrD M' rs' (b + (t.length + 1)) ∧ (∀ q, q ≠ 16 → M' q = M q) ∧ ∀ S : Nat → Bool, mrY rs' S + mfI (S s) = mrY rs S + mfI (S x) := fun hxs => by
      rw [eX9_greatestFlow_87, if_pos ((ceq (by omega) (by omega)).mpr hxs)]
      exact ⟨M, rs, rfl, hD.mono (by omega), fun _ _ => rfl, fun S => by rw [hxs]⟩
    rcases hT with ⟨h1, h2⟩ | ⟨h1, h2, ⟨w, w1, l1, l2, l3, l4⟩, h4⟩
    · subst h2
      exact hexit ((List.mem_singleton.mp hx).trans h1)
    · by_cases hxy : x = y
      · subst hxy
        have hwx : w ≠ x := fun e => h1 (by rw [← e]; exact w1)
        have hne : 10 * x + w ≠ 10 * w + x := by omega
        have p1 : 10 * w + x < 100 := by omega
        have p2 : 10 * x + w < 100 := by omega
        have ea : gb_sub (nI (rs (10 * w + x))) 1 = nI (rs (10 * w + x) - 1) := pk_sub (a := rs (10 * w + x)) (b := 1) l4
        have eb : gb_add (nI (rs (10 * x + w))) 1 = nI (rs (10 * x + w) + 1) := nI_add _ 1
        have hD1 : mrD (gU (gU M 16 (10 * w + x) (nI (rs (10 * w + x) - 1))) 16 (10 * x + w) (nI (rs (10 * x + w) + 1))) (up1 (up1 rs (10 * w + x) (rs (10 * w + x) - 1)) (10 * x + w) (rs (10 * x + w) + 1)) (b + 1) := fun p hp => by
          by_cases e : p = 10 * x + w
          · rw [e, gU_us, up1_s]
            have := (hD _ p2).2
            exact ⟨rfl, by omega⟩
          · rw [gU_un (Or.inr e), up1_n e]
            by_cases e2 : p = 10 * w + x
            · rw [e2, gU_us, up1_s]
              have := (hD _ p1).2
              exact ⟨rfl, by omega⟩
            · rw [gU_un (Or.inr e2), up1_n e2]
              have := (hD p hp).2
              exact ⟨(hD p hp).1, by omega⟩
        have hT1 : mfT (mrV (gU (gU M 16 (10 * w + x) (nI (rs (10 * w + x) - 1))) 16 (10 * x + w) (nI (rs (10 * x + w) + 1))) (up1 (up1 rs (10 * w + x) (rs (10 * w + x) - 1)) (10 * x + w) (rs (10 * x + w) + 1))) s t := h4.mono (fun w' x' hw' hx' ⟨k1, k2, k3, k4⟩ => by
          have n1 : w' ≠ x := fun e => h1 (by rw [← e]; exact hw')
          have n2 : x' ≠ x := fun e => h1 (by rw [← e]; exact hx')
          exact ⟨by rw [gU_ok (by decide), gU_ok (by decide)]; exact k1, k2, k3, by rw [up1_n (by omega), up1_n (by omega)]; exact k4⟩)
        obtain ⟨M', rs', o1, o2, o3, o4⟩ := ih m w (b + 1) _ _ hD1 hT1 (fun y hy => hb y (List.mem_cons_of_mem _ hy)) w1 (by omega)
        rw [eX9_greatestFlow_87, if_neg (fun z => h2 ((ceq (by omega) (by omega)).mp z)), ckI hx10 (by decide), nI_clamp (by omega), l1, idx10, idx10, ckI p1 (by decide), ckI p1 (by decide), ckI hx10 (by decide), ckI p2 (by decide), ckI p2 (by decide), ckI hx10 (by decide), nI_clamp (by omega), nI_clamp (by omega), gU_un (Or.inr hne), (hD _ p1).1, (hD _ p2).1, ea, eb]
        exact ⟨M', rs', o1, o2.mono (by omega), fun q hq => by rw [o3 q hq, gU_ok hq, gU_ok hq], fun S => (o4 S).trans (mrY_push (by omega) hx10 hwx l4 S)⟩
      · have hxt : x ∈ t := by
          rcases List.mem_cons.mp hx with e | e
          · exact absurd e hxy
          · exact e
        obtain ⟨M', rs', o1, o2, o3, o4⟩ := ih (m + 1) x b M rs hD h4 (fun y hy => hb y (List.mem_cons_of_mem _ hy)) hxt (by omega)
        exact ⟨M', rs', o1, o2.mono (by omega), o3, o4⟩
theorem rflow_lap {N s t : Nat} {r : Nat → Nat} (W : mfW r) (hN : 200 ≤ N) (hs : s < 10) (ht : t < 10) (hst : s ≠ t) : ∀ m v : Nat, 71 ≤ m + v → ∀ (M : gM) (A : Nat) (rs : Nat → Nat) (ord : List Nat), mrD M rs (5 + 10 * v) → mrX M rs s A ord → (∀ j, j < 100 → mrK rs ord j) → (∀ S : Nat → Bool, S s = true → S t = false → mrY rs S + v = mfC r S) → ∃ M' v' A', hX9_greatestFlow_73 N m (nI s) (nI t) (nI v) M = some (.inl (some (.int (nI v'))), M') ∧ mfO r s t v' A' ∧ v' ≤ 70 ∧ M' 0 30 = nI A' ∧ (∀ j, j ≠ 30 → M' 0 j = M 0 j) ∧ ∀ q, q ≠ 0 → q ≠ 16 → q ≠ 17 → M' q = M q := by
  have h1s : (fun j : Nat => decide (j = s)) s = true := decide_eq_true rfl
  have h1t : (fun j : Nat => decide (j = s)) t = false := decide_eq_false (fun e => hst e.symm)
  have hC := mfC_le W.2.1 (fun k hk => (W.2.2.1 k hk).2.2.2.2) (fun j : Nat => decide (j = s))
  intro m
  induction m with
  | zero =>
    intro v hv M A rs ord hD hX hK hS
    have := hS (fun j => decide (j = s)) h1s h1t
    omega
  | succ m ih =>
    intro v hv M A rs ord hD hX hK hS
    have hv70 := hS (fun j => decide (j = s)) h1s h1t
    have hA : A < 1024 := hX.2.2.1.lt hX.2.2.2
    have hlen := mf_pig 10 ord hX.2.1.nodup hX.2.2.2
    rw [eX9_greatestFlow_73, hX.1, pX9_has N _ (by omega) (by omega), hI_mk, gS_nil]
    by_cases htm : t ∈ ord
    · have hmore := mf_more (Y := mrY rs) (S := fun j => decide (j = s)) hX.2.1 htm h1s h1t (fun h0 w x hE hw => mrY_zero h0 hE.2 hw)
      have hb := hX.2.2.1.t.mpr htm
      obtain ⟨M1, rs1, o1, o2, o3, o4⟩ := raug_lap (N := N) (n73 := m) (v2 := nI t) (v3 := nI v) hs ord N t (5 + 10 * v) M rs hD hX.2.1 hX.2.2.2 htm (by omega)
      have hD1 : mrD M1 rs1 (5 + 10 * (v + 1)) := o2.mono (by omega)
      obtain ⟨M2, A2, ord2, q1, q2, q3, q4, q5⟩ := pX9_reach (N := N) (M := gS (rg 0 18) M1) (b := 5 + 10 * (v + 1)) (by omega) hN (hD1.congr (gSm18 (by decide))) hs
      have hl : ∀ q, q ≠ 0 → q ≠ 17 → gMg (rg 0 18) M1 M2 q = M1 q := fun q h0 h17 => rlift (I := M1) (J := M2) (t := fun k => k = 0 ∨ k = 17) (fun k hk => q4 k (fun e => hk (Or.inl e)) (fun e => hk (Or.inr e))) q (fun hk => by
        rcases hk with e | e
        · exact h0 e
        · exact h17 e)
      have hl0 : ∀ j, j ≠ 30 → gMg (rg 0 18) M1 M2 0 j = M1 0 j := fun j hj => by rw [gM18 (by decide), q3 j hj, gSm18 (by decide)]
      rw [hb, b2_t, i_e1, o1, q1, hV_mk, nI_s]
      obtain ⟨M3, v3, A3, k1, k2, k3, k4, k5, k6⟩ := ih (v + 1) (by omega) (gMg (rg 0 18) M1 M2) A2 rs1 ord2 (hD1.congr (hl 16 (by decide) (by decide))) (q2.congr (gM18 (by decide)) (by rw [gM18 (by decide)])) q5 (fun S s1 s2 => by
        have e1 := o4 S
        have e2 := hS S s1 s2
        rw [s1, s2] at e1
        have e3 : mrY rs1 S + 1 = mrY rs S + 0 := e1
        omega)
      exact ⟨M3, v3, A3, k1, k2, k3, k4, fun j hj => by rw [k5 j hj, hl0 j hj, o3 0 (by decide)], fun q h0 h16 h17 => by rw [k6 q h0 h16 h17, hl q h0 h17, o3 q h16]⟩
    · have hb := hX.2.2.1.f.mpr htm
      rw [hb, b2_f, i_e0]
      refine ⟨M, v, A, rfl, ?_, by omega, hX.1, fun _ _ => rfl, fun _ _ _ _ => rfl⟩
      refine mfO.of (Y := mrY rs) hX.2.2.1 hX.2.2.2 hX.2.1 htm hS ?_ (fun S h0 w x hE hw => mrY_zero h0 hE.2 hw)
      unfold mrY
      refine mfS_zero (fun p hp => ?_)
      show cond (A.testBit (p / 10) && !A.testBit (p % 10)) (rs p) 0 = 0
      cases ha : A.testBit (p / 10) <;> cases hb2 : A.testBit (p % 10)
      · rfl
      · rfl
      · show rs p = 0
        rcases Nat.eq_zero_or_pos (rs p) with h0 | h0
        · exact h0
        · have h5 := hK p hp h0 (hX.2.2.1.t.mp ha)
          rw [hX.2.2.1.t.mpr h5] at hb2; cases hb2
      · rfl
theorem rflow_links {N s t : Nat} {σ : St} (W : mfW σ.1) (hN : 200 ≤ N) (hs : s < 10) (ht : t < 10) (hst : s ≠ t) : ∀ m k : Nat, k ≤ σ.1 1 → σ.1 1 - k < m → ∀ (M : gM) (rs : Nat → Nat), RowIs (M 3) σ → mrD M rs 5 → (∀ p, (∀ j, j < k → 10 * lkp σ.1 j 0 + lkp σ.1 j 1 ≠ p) → rs p = 0) → (∀ S : Nat → Bool, mrY rs S = mfS (fun k => cond (S (lkp σ.1 k 0) && !S (lkp σ.1 k 1)) (lkp σ.1 k 2) 0) k) → ∃ M' v' A', hX9_greatestFlow_23 N m (nI s) (nI t) (nI k) M = some (.inl (some (.int (nI v'))), M') ∧ mfO σ.1 s t v' A' ∧ v' ≤ 70 ∧ M' 0 30 = nI A' ∧ (∀ j, j ≠ 30 → M' 0 j = M 0 j) ∧ ∀ q, q ≠ 0 → q ≠ 16 → q ≠ 17 → M' q = M q := by
  have l1 : (1 : Int32) = nI 1 := rfl
  have c1 : ∀ X : gO, ck 2746 1 X = X := fun X => by rw [l1, ckI (by decide) (by decide)]
  have n1 : (1 : Int32).toNatClampNeg = 1 := by decide
  intro m
  induction m with
  | zero => intro k _ h; omega
  | succ m ih =>
    intro k hk hm M rs hR hD hZ hY
    have h14 := W.2.1
    have w10 := W.1.2
    rw [eX9_greatestFlow_23, c1, n1, hR.1 1 (by decide)]
    by_cases hin : k = σ.1 1
    · rw [if_pos ((cge (by omega) (by omega)).mpr (by omega))]
      obtain ⟨M2, A2, ord2, q1, q2, q3, q4, q5⟩ := pX9_reach (N := N) (M := gS (rg 0 18) M) (b := 5) (by decide) hN (hD.congr (gSm18 (by decide))) hs
      have hl : ∀ q, q ≠ 0 → q ≠ 17 → gMg (rg 0 18) M M2 q = M q := fun q h0 h17 => rlift (I := M) (J := M2) (t := fun k => k = 0 ∨ k = 17) (fun k hk => q4 k (fun e => hk (Or.inl e)) (fun e => hk (Or.inr e))) q (fun hk => by
        rcases hk with e | e
        · exact h0 e
        · exact h17 e)
      have hl0 : ∀ j, j ≠ 30 → gMg (rg 0 18) M M2 0 j = M 0 j := fun j hj => by rw [gM18 (by decide), q3 j hj, gSm18 (by decide)]
      rw [q1, hV_mk]
      obtain ⟨M3, v3, A3, k1, k2, k3, k4, k5, k6⟩ := rflow_lap (N := N) W hN hs ht hst N 0 (by omega) (gMg (rg 0 18) M M2) A2 rs ord2 (hD.congr (hl 16 (by decide) (by decide))) (q2.congr (gM18 (by decide)) (by rw [gM18 (by decide)])) q5 (fun S s1 s2 => by
        rw [hY S, hin]; rfl)
      exact ⟨M3, v3, A3, k1, k2, k3, k4, fun j hj => by rw [k5 j hj, hl0 j hj], fun q h0 h16 h17 => by rw [k6 q h0 h16 h17, hl q h0 h17]⟩
    · have hkl : k < σ.1 1 := by omega
      obtain ⟨x1, x2, x3, x4, x5⟩ := W.2.2.1 k hkl
      have l0 : (0 : Int32) = nI 0 := rfl
      have l2 : (2 : Int32) = nI 2 := rfl
      have m0 : M 3 (9 + 4 * k + 0) = nI (lkp σ.1 k 0) := hR.1 _ (by omega)
      have m1 : M 3 (9 + 4 * k + 1) = nI (lkp σ.1 k 1) := hR.1 _ (by omega)
      have m2 : M 3 (9 + 4 * k + 2) = nI (lkp σ.1 k 2) := hR.1 _ (by omega)
      have hp : 10 * lkp σ.1 k 0 + lkp σ.1 k 1 < 100 := by omega
      have d1 : (10 * lkp σ.1 k 0 + lkp σ.1 k 1) / 10 = lkp σ.1 k 0 := by omega
      have d2 : (10 * lkp σ.1 k 0 + lkp σ.1 k 1) % 10 = lkp σ.1 k 1 := by omega
      have hz : rs (10 * lkp σ.1 k 0 + lkp σ.1 k 1) = 0 := hZ _ (fun j hj e => by
        obtain ⟨y1, y2, _⟩ := W.2.2.1 j (by omega)
        have := W.2.2.2 j k (by omega) hkl (by omega) (by omega)
        omega)
      rw [if_neg (fun z => by have := (cge (a := k) (b := σ.1 1) (by omega) (by omega)).mp z; omega), l0, l1, l2, r_link (by omega), r_link (by omega), r_link (by omega), m0, m1, m2, idx10, eX9_greatestFlow_59, ckI hp (by decide), nI_clamp (by omega), nI_s]
      obtain ⟨M', v', A', k1, k2, k3, k4, k5, k6⟩ := ih (k + 1) (by omega) (by omega) (gU M 16 (10 * lkp σ.1 k 0 + lkp σ.1 k 1) (nI (lkp σ.1 k 2))) (up1 rs (10 * lkp σ.1 k 0 + lkp σ.1 k 1) (lkp σ.1 k 2)) (by rw [gU_ok (by decide)]; exact hR) (fun p hp => by
        by_cases e : p = 10 * lkp σ.1 k 0 + lkp σ.1 k 1
        · rw [e, gU_us, up1_s]; exact ⟨rfl, x5⟩
        · rw [gU_un (Or.inr e), up1_n e]; exact hD p hp) (fun p hp => by
        rw [up1_n (fun e => hp k (by omega) e.symm)]
        exact hZ p (fun j hj => hp j (by omega))) (fun S => by
        have e1 : mrY (up1 rs (10 * lkp σ.1 k 0 + lkp σ.1 k 1) (lkp σ.1 k 2)) S + 0 = mrY rs S + cond (S (lkp σ.1 k 0) && !S (lkp σ.1 k 1)) (lkp σ.1 k 2) 0 := by
          unfold mrY
          refine mfS_upd (l := 10 * lkp σ.1 k 0 + lkp σ.1 k 1) ?_ hp (fun k _ hk => by simp only [up1_n hk])
          simp only [up1_s, d1, d2, hz]
          cases (S (lkp σ.1 k 0) && !S (lkp σ.1 k 1)) <;> simp only [cond_true, cond_false] <;> omega
        rw [hY S, Nat.add_zero] at e1
        rw [e1]; rfl)
      exact ⟨M', v', A', k1, k2, k3, k4, fun j hj => by rw [k5 j hj, gU_ok (by decide)], fun q h0 h16 h17 => by rw [k6 q h0 h16 h17, gU_ok h16]⟩
theorem rflow_fill {N : Nat} {v1 v2 : Int32} : ∀ m i : Nat, i ≤ 100 → 100 - i < m → ∀ M : gM, (∀ p, p < i → M 16 p = nI 0) → ∃ M', hX9_greatestFlow_2 N m v1 v2 (nI i) M = hX9_greatestFlow_23 N N v1 v2 0 M' ∧ (∀ p, p < 100 → M' 16 p = nI 0) ∧ ∀ q, q ≠ 16 → M' q = M q := by
  have l100 : (100 : Int32) = nI 100 := rfl
  intro m
  induction m with
  | zero => intro i _ h; omega
  | succ m ih =>
    intro i hi hm M hM
    rw [eX9_greatestFlow_2, l100]
    by_cases hin : i = 100
    · rw [if_pos ((cge (by omega) (by omega)).mpr (by omega))]
      exact ⟨M, rfl, fun p hp => hM p (by omega), fun _ _ => rfl⟩
    · rw [if_neg (fun z => by have := (cge (a := i) (b := 100) (by omega) (by omega)).mp z; omega), ckI (by omega) (by decide), nI_clamp (by omega), nI_s]
      obtain ⟨M', k1, k2, k3⟩ := ih (i + 1) (by omega) (by omega) (gU M 16 i 0) (fun p hp => by
        by_cases e : p = i
        · rw [e, gU_us]; rfl
        · rw [gU_un (Or.inr e)]; exact hM p (by omega))
      exact ⟨M', k1, k2, fun q hq => by rw [k3 q hq, gU_ok hq]⟩
theorem pX9_greatestFlow {N s t : Nat} {σ : St} {M : gM} (W : mfW σ.1) (hN : 200 ≤ N) (hs : s < 10) (ht : t < 10) (hst : s ≠ t) (hR : RowIs (M 3) σ) : ∃ M' v A, fX9_greatestFlow N [.ref 0, .int (nI s), .int (nI t)] M = some (.inl (some (.int (nI v))), M') ∧ mfO σ.1 s t v A ∧ v ≤ 70 ∧ M' 0 30 = nI A ∧ (∀ j, j ≠ 30 → M' 0 j = M 0 j) ∧ ∀ q, q ≠ 0 → q ≠ 16 → q ≠ 17 → M' q = M q := by
  obtain ⟨M1, o1, o2, o3⟩ := rflow_fill (N := N) (v1 := nI s) (v2 := nI t) N 0 (Nat.zero_le _) (by omega) M (fun p hp => absurd hp (Nat.not_lt_zero _))
  have o1' : hX9_greatestFlow_2 N N (nI s) (nI t) 0 M = hX9_greatestFlow_23 N N (nI s) (nI t) 0 M1 := o1
  have h14 := W.2.1
  obtain ⟨M', v', A', k1, k2, k3, k4, k5, k6⟩ := rflow_links (N := N) W hN hs ht hst N 0 (Nat.zero_le _) (by omega) M1 (fun _ => 0) (by rw [o3 3 (by decide)]; exact hR) (fun p hp => ⟨o2 p hp, Nat.zero_le _⟩) (fun _ _ => rfl) (fun S => by
    show mfS (fun p => cond (S (p / 10) && !S (p % 10)) 0 0) 100 = 0
    refine mfS_zero (fun p hp => ?_)
    show cond (S (p / 10) && !S (p % 10)) 0 0 = 0
    cases (S (p / 10) && !S (p % 10)) <;> rfl)
  have k1' : hX9_greatestFlow_23 N N (nI s) (nI t) 0 M1 = some (.inl (some (.int (nI v'))), M') := k1
  rw [eX9_greatestFlow, eX9_greatestFlow_0, o1', k1']
  exact ⟨M', v', A', rfl, k2, k3, k4, fun j hj => by rw [k5 j hj, o3 0 (by decide)], fun q h0 h16 h17 => by rw [k6 q h0 h16 h17, o3 q h16]⟩
