/-! ===== the reference: packets expire ===== -/
theorem b2_nar (b : Bool) : vp_nar .boolean (b2 b) = b2 b := by cases b <;> rfl
theorem expF_s (r : Nat → Nat) (ps : List Pk) (p : Pk) : expF r (ps ++ [p]) = expN (expF r ps) p.1 := by
  unfold expF; rw [List.foldl_append]; rfl
theorem expF_like (ps : List Pk) : ∀ (r r0 : Nat → Nat), (∀ p ∈ ps, p.1 < 6) → likeE r r0 → likeE (expF r ps) r0 := by
  induction ps with
  | nil => intro r r0 _ h; exact h
  | cons p t ih =>
    intro r r0 hp h
    exact ih (expN r p.1) r0 (fun q hq => hp q (List.mem_cons_of_mem _ hq)) (h.exp (hp p List.mem_cons_self))
theorem r_stayAll {N : Nat} {I : gM} {K : gM → gO} (hN : 1000 ≤ N) : ∃ J, hV (fX9_stayAll N [.ref 0] (gS (rg 0 18) I)) (rg 0 18) I K = K J ∧ (∀ i, i < 500 → J 7 i = 0) ∧ ∀ k, k ≠ 7 → J k = I k := by
  obtain ⟨J, j0, j1, j2⟩ := pX9_stayAll (N := N) (gS (rg 0 18) I) hN
  exact ⟨_, by rw [j0, hV_mk], fun i hi => by rw [gM18 (by decide)]; exact j1 i hi, rlift (t := fun k => k = 7) j2⟩
theorem r_closeUp {N : Nat} {σ : St} {I : gM} {g : Nat → Bool} {K : Int32 → gM → gO} (hr : RowIs (I 3) σ) (hl : σ.2.length ≤ 500) (hg : ∀ i, i < σ.2.length → I 7 i = b2 (g i)) (hN : 1000 ≤ N) : ∃ J, hI (fX9_closeUp N [.ref 0] (gS (rg 0 18) I)) (rg 0 18) I K = K (nI (σ.2.length - (kls g 0 σ.2).length)) J ∧ RowIs (J 3) (σ.1, kls g 0 σ.2) ∧ ∀ k, k ≠ 3 → J k = I k := by
  obtain ⟨J, j0, j1, j2⟩ := pX9_closeUp (N := N) (M := gS (rg 0 18) I) (g := g) (by rw [gSm18 (by decide)]; exact hr) hl (fun i hi => by rw [gSm18 (by decide)]; exact hg i hi) hN
  exact ⟨_, by rw [j0, hI_mk], by rw [gM18 (by decide)]; exact j1, rlift (t := fun k => k = 3) j2⟩
theorem pX9_expire {N : Nat} {σ : St} {M : gM} (hr : RowIs (M 3) σ) (hl : σ.2.length ≤ 500) (h6 : σ.1 2 ≤ 6) (h7 : σ.1 7 ≤ 10100) (hb : ∀ f, f < σ.1 2 → flp σ.1 f 3 ≤ 200) (hp : ∀ p ∈ σ.2, p.1 < σ.1 2 ∧ p.2.1 ≤ σ.1 7) (hN : 1000 ≤ N) :
    ∃ J, fX9_expire N [.ref 0] M = some (.inl none, J) ∧ RowIs (J 3) (expF σ.1 (σ.2.filter (isE σ.1)), σ.2.filter (fun p => !isE σ.1 p)) ∧ ∀ k, k ≠ 3 → k ≠ 7 → J k = M k := by
  have l245 : (245 : Int32) = nI 245 := rfl
  have l1 : (1 : Int32) = nI 1 := rfl
  have l3 : (3 : Int32) = nI 3 := rfl
  have l7 : (7 : Int32) = nI 7 := rfl
  have l0 : (0 : Int32) = nI 0 := rfl
  have key : ∀ m i : Nat, i ≤ σ.2.length → σ.2.length - i < m → ∀ K : gM, RowIs (K 3) (expF σ.1 ((σ.2.take i).filter (isE σ.1)), σ.2) → (∀ (j : Nat) (p : Pk), j < i → σ.2[j]? = some p → K 7 j = b2 (isE σ.1 p)) → (∀ k, k ≠ 3 → k ≠ 7 → K k = M k) →
      ∃ J, hX9_expire_6 N m (nI i) K = some (.inl none, J) ∧ RowIs (J 3) (expF σ.1 (σ.2.filter (isE σ.1)), σ.2.filter (fun p => !isE σ.1 p)) ∧ ∀ k, k ≠ 3 → k ≠ 7 → J k = M k := by
    intro m
    induction m with
    | zero => intro i _ h; omega
    | succ m ih =>
      intro i hi hm K hk hg ho
      have hlen : K 3 245 = nI σ.2.length := hk.2.1
      rw [eX9_expire_6, l245, ckI (by decide) (by decide), nI_clamp (n := 245) (by decide), hlen]
      by_cases hin : i = σ.2.length
      · subst hin
        rw [if_pos ((cge (by omega) (by omega)).mpr (Nat.le_refl _))]
        rw [List.take_length] at hk
        let g : Nat → Bool := fun j => match σ.2[j]? with
          | some p => isE σ.1 p
          | none => false
        have hgj : ∀ (j : Nat) (p : Pk), σ.2[j]? = some p → g j = isE σ.1 p := fun j p hj => by
          show (match σ.2[j]? with | some p => isE σ.1 p | none => false) = _
          rw [hj]
        obtain ⟨J, j0, j1, j2⟩ := r_closeUp (N := N) (g := g) (K := fun _ I2 => some (.inl none, I2)) hk hl (fun j hj => by
          obtain ⟨p, hpj⟩ := get_s hj
          rw [hgj j p hpj]; exact hg j p hj hpj) hN
        rw [j0]
        refine ⟨J, rfl, ?_, fun k h3 h7 => (j2 k h3).trans (ho k h3 h7)⟩
        have e := kls_filter (g := g) (q := isE σ.1) σ.2 0 (fun j p hj => by rw [Nat.zero_add]; exact hgj j p hj)
        have j1' : RowIs (J 3) (expF σ.1 (σ.2.filter (isE σ.1)), kls g 0 σ.2) := j1
        rw [e] at j1'
        exact j1'
      · have hil : i < σ.2.length := by omega
        obtain ⟨p, hpi⟩ := get_s hil
        obtain ⟨p1, p2⟩ := hp p (List.mem_of_getElem? hpi)
        have hb3 := hb p.1 p1
        have hlk : likeE (expF σ.1 ((σ.2.take i).filter (isE σ.1))) σ.1 := expF_like _ _ _ (fun q hq => by
          have := (hp q (List.mem_of_mem_take (List.mem_filter.mp hq).1)).1
          omega) (fun _ _ => rfl)
        have k0 : K 3 (246 + 5 * i + 0) = nI p.1 := hk.2.2 i p hpi 0 (by decide)
        have k1 : K 3 (246 + 5 * i + 1) = nI p.2.1 := hk.2.2 i p hpi 1 (by decide)
        have kb : K 3 (65 + 11 * p.1 + 3) = nI (flp σ.1 p.1 3) := by
          rw [hk.1 _ (by omega)]
          exact congrArg nI (hlk _ (fun f _ => by omega))
        have ks : K 3 7 = nI (σ.1 7) := by
          rw [hk.1 _ (by decide)]
          exact congrArg nI (hlk 7 (fun f _ => by omega))
        -- the end of a lap
        have lap : ∀ b : Bool, isE σ.1 p = b → ∃ J, hX9_expire_66 N m (nI i) (nI p.1) (nI i) (b2 b) K = some (.inl none, J) ∧ RowIs (J 3) (expF σ.1 (σ.2.filter (isE σ.1)), σ.2.filter (fun p => !isE σ.1 p)) ∧ ∀ k, k ≠ 3 → k ≠ 7 → J k = M k := by
          intro b hE
          have e85 : hX9_expire_66 N m (nI i) (nI p.1) (nI i) (b2 b) K = hX9_expire_85 N m (nI i) (nI p.1) 7 (b2 b) (gU K 7 i (b2 b)) := by
            rw [eX9_expire_66, b2_nar, ckI (by omega) (by decide), ckI (by omega) (by decide), nI_clamp (n := i) (by omega), gU_us]
            cases b
            · rw [if_pos (by decide)]; rfl
            · rw [if_neg (by decide)]; rfl
          have hx : (gU K 7 i (b2 b)) 3 (65 + 11 * p.1 + 7) = nI (flp (expF σ.1 ((σ.2.take i).filter (isE σ.1))) p.1 7) := by
            rw [gU_ok (by decide)]; exact hk.1 _ (by omega)
          have hbn : b2 b = nI (if b = true then 1 else 0) := by cases b <;> rfl
          rw [e85, eX9_expire_85, l7, r_count (by omega), l1, nI_add, hx]
          conv => enter [1, J, 1, 1]; rw [hbn]
          rw [nI_add]
          refine ih (i + 1) (by omega) (by omega) _ ?_ (fun j q hj hq => ?_) (fun k h3 h7 => ?_)
          · rw [gU_u3, gU_ok (by decide), take_s hpi, List.filter_append]
            have hput := hk.put (k := 65 + 11 * p.1 + 7) (x := flp (expF σ.1 ((σ.2.take i).filter (isE σ.1))) p.1 7 + (if b = true then 1 else 0)) (by omega)
            cases b with
            | true =>
              rw [List.filter_cons_of_pos hE]
              show RowIs _ (expF σ.1 (_ ++ [p]), σ.2)
              rw [expF_s]
              exact hput
            | false =>
              rw [List.filter_cons_of_neg (by rw [hE]; decide)]
              show RowIs _ (expF σ.1 (_ ++ []), σ.2)
              rw [List.append_nil]
              refine hput.fn (fun k _ => ?_)
              by_cases e : k = 65 + 11 * p.1 + 7
              · rw [e, up1_s]; rfl
              · rw [up1_n e]
          · rw [gU_ok (by decide)]
            by_cases e : j = i
            · subst e
              rw [hpi] at hq
              rw [gU_us, ← Option.some.inj hq, hE]
              exact hbn.symm
            · rw [gU_un (Or.inr e)]; exact hg j q (by omega) hq
          · rw [gU_ok h3, gU_ok h7]; exact ho k h3 h7
        rw [if_neg (fun z => hin (by have := (cge (by omega) (by omega)).mp z; omega)), l0, l1, l3, r_packet (by omega), k0, r_flow (by omega), kb]
        by_cases hz : flp σ.1 p.1 3 = 0
        · rw [if_pos (by rw [zle (by omega)]; exact hz), eX9_expire_65]
          exact lap false (by unfold isE; rw [hz]; rfl)
        · rw [if_neg (by rw [zle (by omega)]; exact hz), l7, ckI (by decide) (by decide), nI_clamp (n := 7) (by decide), r_packet (by omega), k1, ks, eX9_expire_56]
          have ed : gb_sub (gb_add (nI (σ.1 7)) (nI 1)) (nI p.2.1) = nI (σ.1 7 + 1 - p.2.1) := by
            show nI (σ.1 7) + nI 1 - nI p.2.1 = _
            rw [nI_add, pk_sub (by omega)]
          rw [ed]
          by_cases hlt : σ.1 7 + 1 - p.2.1 < flp σ.1 p.1 3
          · rw [if_pos ((clt (by omega) (by omega)).mpr hlt), eX9_expire_65]
            exact lap false (by unfold isE; rw [decide_eq_false (show ¬ p.2.1 + flp σ.1 p.1 3 ≤ σ.1 7 + 1 by omega), Bool.and_false])
          · rw [if_neg (fun z => hlt ((clt (by omega) (by omega)).mp z))]
            exact lap true (by unfold isE; rw [decide_eq_true hz, decide_eq_true (show p.2.1 + flp σ.1 p.1 3 ≤ σ.1 7 + 1 by omega)]; rfl)
  obtain ⟨J, j0, -, j2⟩ := r_stayAll (N := N) (I := M) (K := fun I1 => hX9_expire_6 N N 0 I1) hN
  rw [eX9_expire, eX9_expire_0, j0, l0]
  obtain ⟨J2, a0, a1, a2⟩ := key N 0 (Nat.zero_le _) (by omega) J (by rw [j2 3 (by decide)]; exact hr) (fun j p hj => absurd hj (Nat.not_lt_zero _)) (fun k _ h7 => j2 k h7)
  exact ⟨J2, a0, a1, a2⟩
