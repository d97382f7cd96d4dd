/-! ===== the reference: search and exact ===== -/
def FRs (J I : gM) : Prop := (∀ k, k ≠ 0 → J k = I k) ∧ ∀ j, j ≠ 23 → j ≠ 24 → J 0 j = I 0 j
theorem FRs.lift {I J : gM} (h : FRs J (gS (rg 0 18) I)) : FRs (gMg (rg 0 18) I J) I := by
  refine ⟨rlift (t := fun k => k = 0) (fun k hk => h.1 k hk), fun j h1 h2 => ?_⟩
  rw [gM18 (by decide), h.2 j h1 h2, gSm18 (by decide)]
theorem FRs.tr {I J K : gM} (h : FRs J I) (h2 : FRs K J) : FRs K I := ⟨fun k hk => (h2.1 k hk).trans (h.1 k hk), fun j h3 h4 => (h2.2 j h3 h4).trans (h.2 j h3 h4)⟩
def SE (I : gM) (W C : Nat → Nat) (n : Nat) : Prop := I 3 1 = nI n ∧ (∀ k, k < n → I 12 k = nI (W k)) ∧ ∀ k, k < n → I 3 (131 + k) = nI (C k)
theorem SE.mem {I J : gM} {W C : Nat → Nat} {n : Nat} (h : SE I W C n) (h3 : J 3 = I 3) (h12 : J 12 = I 12) : SE J W C n := ⟨by rw [h3]; exact h.1, fun k hk => by rw [h12]; exact h.2.1 k hk, fun k hk => by rw [h3]; exact h.2.2 k hk⟩
theorem m_lt_nI {a : Nat} (h : a < 2 ^ 31) : gc_gt (nI a) mI = true := by
  apply decide_eq_true
  show mI < nI a
  by_cases h1 : mI < nI a
  · exact h1
  · exfalso
    have h1 := Int32.not_lt.mp h1
    have h2 : nI 0 ≤ nI a := (nI_leI (by decide) h).mpr (Nat.zero_le _)
    exact absurd (Int32.le_trans h2 h1) (by decide)
theorem pX9_search {N n T : Nat} {W C : Nat → Nat} (hn14 : n ≤ 14) (hT : T < 2 ^ 31) (hWT : ∀ k, k < n → W k < 2 ^ 31) (hCT : ∀ k, k < n → C k < 2 ^ 31) (hC : ∀ i j, i < n → j < n → (C i).testBit j = (C j).testBit i) (hN : 1000 ≤ N) :
    ∀ (t d c sm b : Nat) (v : Option Nat) (I : gM), t ≤ n → t < d → 2 ^ t * c < 2 ^ 14 → sm + tot W t ≤ T → (∀ y, v = some y → y ≤ T) → I 0 23 = nI b → I 0 24 = lsI v → SE I W C n →
      ∃ (J : gM) (b' : Nat) (v' : Option Nat), fX9_search N d [.ref 0, .int (topI t), .int (nI (2 ^ t * c)), .int (nI sm), .int (nI (tot W t))] I = some (.inl none, J) ∧ J 0 23 = nI b' ∧ J 0 24 = lsI v' ∧ (∀ y, v' = some y → y ≤ T) ∧ sQ W C t (2 ^ t * c) sm b v b' v' ∧ FRs J I := by
  intro t
  induction t with
  | zero =>
    intro d c sm b v I ht hd hc hs hv h23 h24 hse
    cases d with
    | zero => omega
    | succ d =>
      have etop : topI 0 = mI := rfl
      have hleaf : (∀ y, v = some y → y < sm) → hX9_search_19 N (fX9_search N d) mI (nI (2 ^ 0 * c)) (nI sm) (nI (tot W 0)) I = some (.inl none, gU (gU I 0 23 (nI (2 ^ 0 * c))) 0 24 (nI sm)) ∧ sQ W C 0 (2 ^ 0 * c) sm b v (2 ^ 0 * c) (some sm) := fun hy => by
        have e0 : ext W C 0 (2 ^ 0 * c) 0 := ⟨by decide, fun j hj => by rw [Nat.zero_testBit] at hj; cases hj⟩
        refine ⟨by rw [eX9_search_19, if_neg (by decide)], Or.inr ⟨0, e0, by rw [Nat.or_zero], by rw [wsum_zero, Nat.add_zero], fun y h => by rw [wsum_zero]; exact hy y h⟩, fun x hx => ⟨sm, rfl, ?_, fun _ => Or.inr ?_⟩⟩
        · have e : x = 0 := by have := hx.1; omega
          rw [e, wsum_zero]; omega
        · have e : x = 0 := by have := hx.1; omega
          rw [e, Nat.or_zero]; omega
      have hfr : FRs (gU (gU I 0 23 (nI (2 ^ 0 * c))) 0 24 (nI sm)) I := ⟨fun k hk => by rw [gU_ok hk, gU_ok hk], fun j h1 h2 => by rw [gU_un (Or.inr h2), gU_un (Or.inr h1)]⟩
      have hend : (∀ y, v = some y → y < sm) → ∃ (J : gM) (b' : Nat) (v' : Option Nat), hX9_search_19 N (fX9_search N d) mI (nI (2 ^ 0 * c)) (nI sm) (nI (tot W 0)) I = some (.inl none, J) ∧ J 0 23 = nI b' ∧ J 0 24 = lsI v' ∧ (∀ y, v' = some y → y ≤ T) ∧ sQ W C 0 (2 ^ 0 * c) sm b v b' v' ∧ FRs J I := fun hy => by
        obtain ⟨h1, h2⟩ := hleaf hy
        refine ⟨_, _, _, h1, by rw [gU_un (Or.inr (by decide)), gU_us], by rw [gU_us]; rfl, fun y hy2 => ?_, h2, hfr⟩
        cases hy2; omega
      have t0 : tot W 0 = 0 := rfl
      rw [eX9_search, eX9_search_0, etop, h24]
      have ea : gb_add (nI sm) (nI (tot W 0)) = nI sm := by
        rw [t0]; show nI sm + nI 0 = _
        rw [nI_add, Nat.add_zero]
      rw [ea]
      cases v with
      | none =>
        rw [show lsI none = mI from rfl, if_pos (m_lt_nI (by omega))]
        exact hend (fun y hy => by cases hy)
      | some y =>
        have hy := hv y rfl
        rw [show lsI (some y) = nI y from rfl]
        by_cases hlt : y < sm
        · rw [if_pos ((cgt (by omega) (by omega)).mpr hlt)]
          exact hend (fun z hz => by cases hz; exact hlt)
        · rw [if_neg (fun z => hlt ((cgt (by omega) (by omega)).mp z)), if_neg (fun z => (zlt (by omega)).mp z)]
          refine ⟨I, b, some y, rfl, h23, h24, hv, ⟨Or.inl ⟨rfl, rfl⟩, fun x hx => ⟨y, rfl, ?_, fun _ => Or.inl ⟨rfl, rfl⟩⟩⟩, ⟨fun _ _ => rfl, fun _ _ _ => rfl⟩⟩
          have e : x = 0 := by have := hx.1; omega
          rw [e, wsum_zero]; omega
  | succ t ih =>
    intro d c sm b v I ht hd hc hs hv h23 h24 hse
    cases d with
    | zero => omega
    | succ d =>
      have etop : topI (t + 1) = nI t := rfl
      have ht14 : t < 14 := by omega
      have htn : t < n := by omega
      have tt : tot W (t + 1) = tot W t + W t := rfl
      have p2 : 2 ^ (t + 1) = 2 * 2 ^ t := by rw [Nat.pow_succ]; omega
      have l0 : (0 : Int32) = nI 0 := rfl
      have l1 : (1 : Int32) = nI 1 := rfl
      have l131 : (131 : Int32) = nI 131 := rfl
      have hW := hWT t htn
      have hCt := hCT t htn
      have e2c : 2 ^ (t + 1) * c = 2 ^ t * (2 * c) := by rw [Nat.pow_succ, Nat.mul_assoc]
      have eadd : gb_add 131 (nI t) = nI (131 + t) := by rw [l131]; exact nI_add _ _
      have esub : gb_sub (nI (tot W (t + 1))) (nI (W t)) = nI (tot W t) := by
        rw [tt]
        show nI _ - nI _ = _
        rw [pk_sub (by omega), Nat.add_sub_cancel]
      have etop2 : gb_sub (nI t) 1 = topI t := topI_sub t
      -- the second half: take the link, if it is free
      have take : ∀ (K : gM) (b1 : Nat) (v1 : Option Nat), K 0 23 = nI b1 → K 0 24 = lsI v1 → (∀ y, v1 = some y → y ≤ T) → SE K W C n → 
          ∃ (J : gM) (b' : Nat) (v' : Option Nat), hX9_search_112 N (fX9_search N d) (nI t) (nI (2 ^ (t + 1) * c)) (nI sm) (b2 true) (nI (tot W t)) K = some (.inl none, J) ∧ J 0 23 = nI b' ∧ J 0 24 = lsI v' ∧ (∀ y, v' = some y → y ≤ T) ∧ sQ W C t (2 ^ (t + 1) * c ||| 2 ^ t) (sm + W t) b1 v1 b' v' ∧ FRs J K := fun K b1 v1 k23 k24 hv1 kse => by
        have hlt : 2 ^ t * (2 * c + 1) < 2 ^ 14 := by
          rw [← or_top]
          exact Nat.or_lt_two_pow hc (pow_lt ht14)
        obtain ⟨J, b', v', j0, j1, j2, j3, j4, j5⟩ := ih d (2 * c + 1) (sm + W t) b1 v1 (gS (rg 0 18) K) (by omega) (by omega) hlt (by omega) hv1 (by rw [gSm18 (by decide)]; exact k23) (by rw [gSm18 (by decide)]; exact k24) (kse.mem (gSm18 (by decide)) (gSm18 (by decide)))
        have eor : gb_or (nI (2 ^ (t + 1) * c)) (gb_shl 1 (nI t)) = nI (2 ^ t * (2 * c + 1)) := by
          rw [shl1' (by omega), ← or_top]; exact nI_or _ _
        have esm : gb_add (nI sm) (nI (W t)) = nI (sm + W t) := nI_add _ _
        rw [eX9_search_112, if_neg (by decide), ckI (by omega) (by decide), nI_clamp (by omega), kse.2.1 t htn, eor, esm, etop2, j0, hV_mk]
        refine ⟨_, b', v', rfl, by rw [gM18 (by decide)]; exact j1, by rw [gM18 (by decide)]; exact j2, j3, ?_, j5.lift⟩
        rw [or_top]; exact j4
      -- the first half: leave it out
      have leave : ∀ (f : Bool), ∃ (J : gM) (b1 : Nat) (v1 : Option Nat), hX9_search_93 N (fX9_search N d) (nI t) (nI (2 ^ (t + 1) * c)) (nI sm) (b2 f) (nI (tot W t)) I = hX9_search_112 N (fX9_search N d) (nI t) (nI (2 ^ (t + 1) * c)) (nI sm) (b2 f) (nI (tot W t)) J ∧ J 0 23 = nI b1 ∧ J 0 24 = lsI v1 ∧ (∀ y, v1 = some y → y ≤ T) ∧ sQ W C t (2 ^ (t + 1) * c) sm b v b1 v1 ∧ FRs J I := fun f => by
        obtain ⟨J, b', v', j0, j1, j2, j3, j4, j5⟩ := ih d (2 * c) sm b v (gS (rg 0 18) I) (by omega) (by omega) (by rw [← e2c]; exact hc) (by omega) hv (by rw [gSm18 (by decide)]; exact h23) (by rw [gSm18 (by decide)]; exact h24) (hse.mem (gSm18 (by decide)) (gSm18 (by decide)))
        rw [← e2c] at j0 j4
        rw [eX9_search_93, eX9_search_94, if_neg (by decide), etop2, j0, hV_mk]
        exact ⟨_, b', v', rfl, by rw [gM18 (by decide)]; exact j1, by rw [gM18 (by decide)]; exact j2, j3, j4, j5.lift⟩
      have go : ∃ (J : gM) (b' : Nat) (v' : Option Nat), hX9_search_19 N (fX9_search N d) (nI t) (nI (2 ^ (t + 1) * c)) (nI sm) (nI (tot W (t + 1))) I = some (.inl none, J) ∧ J 0 23 = nI b' ∧ J 0 24 = lsI v' ∧ (∀ y, v' = some y → y ≤ T) ∧ sQ W C (t + 1) (2 ^ (t + 1) * c) sm b v b' v' ∧ FRs J I := by
        have notfree : ¬ (0 < W t ∧ C t &&& (2 ^ (t + 1) * c) = 0) → ∃ (J : gM) (b' : Nat) (v' : Option Nat), hX9_search_62 N (fX9_search N d) (nI t) (nI (2 ^ (t + 1) * c)) (nI sm) (nI (tot W (t + 1))) I = some (.inl none, J) ∧ J 0 23 = nI b' ∧ J 0 24 = lsI v' ∧ (∀ y, v' = some y → y ≤ T) ∧ sQ W C (t + 1) (2 ^ (t + 1) * c) sm b v b' v' ∧ FRs J I := fun hf => by
          obtain ⟨J, b1, v1, j0, j1, j2, j3, j4, j5⟩ := leave false
          rw [eX9_search_62, eX9_search_63, ckI (by omega) (by decide), if_pos (by decide), nI_clamp (by omega), hse.2.1 t htn, esub]
          have e0 : (0 : Int32) = b2 false := rfl
          rw [e0, j0, eX9_search_112, if_pos (by decide)]
          exact ⟨J, b1, v1, rfl, j1, j2, j3, sQ_not j4 hf, j5⟩
        have eand : gb_and (nI (C t)) (nI (2 ^ (t + 1) * c)) = nI (C t &&& (2 ^ (t + 1) * c)) := nI_and _ _
        have hzn := zne (Nat.lt_of_le_of_lt (Nat.and_le_left : C t &&& (2 ^ (t + 1) * c) ≤ C t) hCt)
        rw [eX9_search_19, if_pos ((zge (by omega)).mpr True.intro), ckI (by omega) (by decide), nI_clamp (by omega), hse.2.1 t htn]
        by_cases hw : W t = 0
        · rw [if_pos ((zle hW).mpr hw)]
          exact notfree (fun z => by omega)
        · rw [if_neg (fun z => hw ((zle hW).mp z)), eadd, ckI (by omega) (by decide), nI_clamp (by omega), hse.2.2 t htn, eand]
          by_cases hcz : C t &&& (2 ^ (t + 1) * c) = 0
          · rw [if_neg (fun z => (hzn.mp z) hcz), eX9_search_63, ckI (by omega) (by decide), if_neg (by decide), pX9_hasRival (n := n) (c := C t) (W := W) (I := gS (rg 0 18) I) (by rw [gSm18 (by decide)]; exact hse.1) hn14 ht14 (by rw [gSm18 (by decide)]; exact hse.2.2 t htn) hCt (fun j hj => by rw [gSm18 (by decide)]; exact ⟨hse.2.1 j hj, hWT j hj⟩) hN, hI_mk, gMm18, nI_clamp (by omega), hse.2.1 t htn, esub]
            have e1 : (1 : Int32) = b2 true := rfl
            cases hr : rvl (C t) W n with
            | false =>
              rw [if_neg (by decide), eX9_search_94, if_pos (by decide), e1]
              obtain ⟨J, b', v', k0, k1, k2, k3, k4, k5⟩ := take I b v h23 h24 hv hse
              exact ⟨J, b', v', k0, k1, k2, k3, sQ_alone hC htn hn14 (by omega) hcz hr k4, k5⟩
            | true =>
              rw [if_pos (by decide), e1]
              obtain ⟨J1, b1, v1, j0, j1, j2, j3, j4, j5⟩ := leave true
              rw [j0]
              obtain ⟨J, b', v', k0, k1, k2, k3, k4, k5⟩ := take J1 b1 v1 j1 j2 j3 (hse.mem (j5.1 3 (by decide)) (j5.1 12 (by decide)))
              exact ⟨J, b', v', k0, k1, k2, k3, sQ_both hC htn hn14 (by omega) hcz j4 k4, j5.tr k5⟩
          · rw [if_pos (hzn.mpr hcz)]
            exact notfree (fun z => hcz z.2)
      have ea : gb_add (nI sm) (nI (tot W (t + 1))) = nI (sm + tot W (t + 1)) := nI_add _ _
      rw [eX9_search, eX9_search_0, etop, h24, ea]
      cases v with
      | none =>
        rw [show lsI none = mI from rfl, if_pos (m_lt_nI (by omega))]
        exact go
      | some y =>
        have hy := hv y rfl
        rw [show lsI (some y) = nI y from rfl]
        by_cases hlt : y < sm + tot W (t + 1)
        · rw [if_pos ((cgt (by omega) (by omega)).mpr hlt)]
          exact go
        · rw [if_neg (fun z => hlt ((cgt (by omega) (by omega)).mp z)), if_neg (fun z => (zlt (by omega)).mp z)]
          refine ⟨I, b, some y, rfl, h23, h24, hv, ⟨Or.inl ⟨rfl, rfl⟩, fun x hx => ⟨y, rfl, ?_, fun _ => Or.inl ⟨rfl, rfl⟩⟩⟩, ⟨fun _ _ => rfl, fun _ _ _ => rfl⟩⟩
          have := ext_w hx (by omega)
          omega
theorem pX9_exact {N n : Nat} {W C : Nat → Nat} {I : gM} (hn14 : n ≤ 14) (hT : tot W n < 2 ^ 31) (hCT : ∀ k, k < n → C k < 2 ^ 31) (hC : ∀ i j, i < n → j < n → (C i).testBit j = (C j).testBit i) (hse : SE I W C n) (hN : 1000 ≤ N) :
    ∃ (J : gM) (b : Nat), fX9_exact N [.ref 0] I = some (.inl (some (.int (nI b))), J) ∧ bst W C (cnd W n) b ∧ FRs J I := by
  have l0 : (0 : Int32) = nI 0 := rfl
  have l1 : (1 : Int32) = nI 1 := rfl
  have cc1 : ∀ X : gO, ck 2746 1 X = X := fun X => by rw [l1, ckI (by decide) (by decide)]
  have n1 : (1 : Int32).toNatClampNeg = 1 := by decide
  have hle : ∀ t, t ≤ n → tot W t ≤ tot W n := by
    have : ∀ k t, t + k = n → tot W t ≤ tot W n := by
      intro k
      induction k with
      | zero => intro t h; rw [← h]; exact Nat.le_refl _
      | succ k ih =>
        intro t h
        have h1 := ih (t + 1) (by omega)
        have h2 : tot W (t + 1) = tot W t + W t := rfl
        omega
    intro t ht
    exact this (n - t) t (by omega)
  have hWT : ∀ k, k < n → W k < 2 ^ 31 := fun k hk => by
    have h1 := hle (k + 1) (by omega)
    have h2 : tot W (k + 1) = tot W k + W k := rfl
    omega
  obtain ⟨J, b, v, j0, j1, j2, j3, j4, j5⟩ := pX9_search (N := N) (n := n) (T := tot W n) hn14 hT hWT hCT hC hN n 16 0 0 0 none (gS (rg 0 18) (gU (gU I 0 23 (nI 0)) 0 24 mI)) (Nat.le_refl _) (by omega) (by rw [Nat.mul_zero]; decide) (by omega) (fun y h => by cases h) (by rw [gSm18 (by decide), gU_un (Or.inr (by decide)), gU_us]) (by rw [gSm18 (by decide), gU_us]; rfl) (hse.mem (by rw [gSm18 (by decide), gU_ok (by decide), gU_ok (by decide)]) (by rw [gSm18 (by decide), gU_ok (by decide), gU_ok (by decide)]))
  have key : ∀ m i : Nat, i ≤ n → n - i < m → ∃ J b, hX9_exact_4 N m (nI (tot W i)) (nI i) I = some (.inl (some (.int (nI b))), J) ∧ bst W C (cnd W n) b ∧ FRs J I := by
    intro m
    induction m with
    | zero => intro i _ h; omega
    | succ m ih =>
      intro i hi hm
      rw [eX9_exact_4, cc1, n1, hse.1]
      by_cases hin : i = n
      · rw [hin, if_pos ((cge (by omega) (by omega)).mpr (Nat.le_refl _)), cc1]
        have e1 : gb_sub (nI n) 1 = topI n := topI_sub n
        have e0 : (0 : Int32) = nI (2 ^ n * 0) := by rw [Nat.mul_zero]; rfl
        have lm : (-1 : Int32) = mI := rfl
        have j0' := j0
        rw [Nat.mul_zero] at j0'
        rw [e1, l0, lm, j0', hV_mk, gM18 (by decide), j1]
        refine ⟨_, b, rfl, ?_, ?_⟩
        · rw [Nat.mul_zero] at j4
          obtain ⟨q1, q2⟩ := j4
          have e00 : ext W C n 0 0 := ⟨Nat.two_pow_pos n, fun j hj => by rw [Nat.zero_testBit] at hj; cases hj⟩
          have hx : ∃ x, ext W C n 0 x ∧ b = 0 ||| x ∧ v = some (0 + wsum W x 14) := by
            rcases q1 with ⟨-, h⟩ | ⟨x, h1, h2, h3, -⟩
            · obtain ⟨y', f, -⟩ := q2 0 e00
              rw [h] at f; cases f
            · exact ⟨x, h1, h2, h3⟩
          obtain ⟨x, x1, x2, x3⟩ := hx
          rw [Nat.zero_or] at x2
          subst x2
          refine ⟨fun j hj => ?_, fun i' j' hi' hj' hne => (x1.2 i' hi').2.2 j' hj' (fun e => hne e.symm), fun h' hs hi' => ?_⟩
          · rw [cnd_tb, decide_eq_true_eq]
            refine ⟨?_, (x1.2 j hj).1⟩
            rcases Nat.lt_or_ge j n with h | h
            · exact h
            · rw [Nat.testBit_lt_two_pow (Nat.lt_of_lt_of_le x1.1 (Nat.pow_le_pow_right (by decide) h))] at hj; cases hj
          · have hex : ext W C n 0 h' := ⟨sub2_le hs (cnd_lt W n), fun j hj => by
              have := hs j hj
              rw [cnd_tb, decide_eq_true_eq] at this
              exact ⟨this.2, (fun i hi => by rw [Nat.zero_testBit] at hi; cases hi), fun i hi hne => hi' j i hj hi (fun e => hne e.symm)⟩⟩
            obtain ⟨y', f1, f2, f3⟩ := q2 h' hex
            rw [x3] at f1
            cases f1
            rw [Nat.zero_add, Nat.zero_add] at f2 f3
            rcases Nat.lt_or_ge (wsum W h' 14) (wsum W b 14) with g | g
            · exact Or.inl g
            · have e : wsum W h' 14 = wsum W b 14 := by omega
              refine Or.inr ⟨e, ?_⟩
              rcases f3 e with ⟨-, z⟩ | z
              · rw [x3] at z; cases z
              · rw [Nat.zero_or] at z; exact z
        · refine FRs.tr ?_ j5.lift
          exact ⟨fun k hk => by rw [gU_ok hk, gU_ok hk], fun j h1 h2 => by rw [gU_un (Or.inr h2), gU_un (Or.inr h1)]⟩
      · have e1 : gb_add (nI (tot W i)) (nI (W i)) = nI (tot W (i + 1)) := nI_add _ _
        rw [if_neg (fun z => hin (by have := (cge (by omega) (by omega)).mp z; omega)), ckI (by omega) (by decide), nI_clamp (by omega), hse.2.1 i (by omega), e1, l1, nI_add]
        exact ih (i + 1) (by omega) (by omega)
  rw [eX9_exact, eX9_exact_0, l0]
  exact key N 0 (Nat.zero_le _) (by omega)
