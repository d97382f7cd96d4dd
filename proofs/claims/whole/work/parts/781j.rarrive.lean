/-! ===== the reference: calls on the object itself; arrivals ===== -/
theorem gM18 {I J : gM} {k : Nat} (h : k < 18) : gMg (rg 0 18) I J k = J k := by
  have := gMg_rgi (b := 0) (n := 18) (I := I) (J := J) (j := k) h
  rwa [Nat.zero_add] at this
theorem gM18o {I J : gM} {k : Nat} (h : 18 ≤ k) : gMg (rg 0 18) I J k = I k := gMg_rgo (Or.inr (by omega))
/-- a call that touches the places of ρ alone -/
theorem rlift {I J : gM} {t : Nat → Prop} (h : ∀ k, ¬ t k → J k = gS (rg 0 18) I k) : ∀ k, ¬ t k → gMg (rg 0 18) I J k = I k := fun k hk => by
  by_cases e : k < 18
  · rw [gM18 e, h k hk, gSm18 e]
  · rw [gM18o (by omega)]
theorem RowIs.fn {row : Nat → Int32} {r s : Nat → Nat} {ps : List Pk} (h : RowIs row (r, ps)) (he : ∀ k, k < 245 → s k = r k) : RowIs row (s, ps) := ⟨fun k hk => (h.1 k hk).trans (congrArg nI (he k hk).symm), h.2.1, h.2.2⟩
theorem r_come {N : Nat} {σ : St} {I : gM} {p : Pk} {K : gM → gO} (hr : RowIs (I 3) σ) (hl : σ.2.length < 500) : ∃ J, hV (fX9_come N [.ref 0, .int (nI p.1), .int (nI p.2.1), .int (nI p.2.2.1), .int (nI p.2.2.2.1), .int (nI (pkn p))] (gS (rg 0 18) I)) (rg 0 18) I K = K J ∧ RowIs (J 3) (σ.1, σ.2 ++ [p]) ∧ ∀ k, k ≠ 3 → J k = I k := by
  obtain ⟨J, j0, j1, j2⟩ := pX9_come (N := N) (M := gS (rg 0 18) I) (p := p) (by rw [gSm18 (by decide)]; exact hr) hl
  exact ⟨_, by rw [j0, hV_mk], by rw [gM18 (by decide)]; exact j1, rlift (t := fun k => k = 3) j2⟩
theorem r_count {N k w : Nat} {x : Int32} {I : gM} {K : gM → gO} (h : 65 + 11 * k + w < 2746) : hV (fX9_count N [.ref 0, .int (nI k), .int (nI w), .int x] (gS (rg 0 18) I)) (rg 0 18) I K = K (gU I 3 (65 + 11 * k + w) (I 3 (65 + 11 * k + w) + x)) := by
  rw [pX9_count N x _ h, hV_mk, gMu18 (by decide), gMm18, gSm18 (by decide)]
theorem r_flow {N k w : Nat} {I : gM} {K : Int32 → gM → gO} (h : 65 + 11 * k + w < 2746) : hI (fX9_flowPart N [.ref 0, .int (nI k), .int (nI w)] (gS (rg 0 18) I)) (rg 0 18) I K = K (I 3 (65 + 11 * k + w)) I := by
  rw [pX9_flowPart N _ h, hI_mk, gMm18, gSm18 (by decide)]
theorem r_link {N k w : Nat} {I : gM} {K : Int32 → gM → gO} (h : 9 + 4 * k + w < 2746) : hI (fX9_linkPart N [.ref 0, .int (nI k), .int (nI w)] (gS (rg 0 18) I)) (rg 0 18) I K = K (I 3 (9 + 4 * k + w)) I := by
  rw [pX9_linkPart N _ h, hI_mk, gMm18, gSm18 (by decide)]
theorem r_packet {N k w : Nat} {I : gM} {K : Int32 → gM → gO} (h : 246 + 5 * k + w < 2746) : hI (fX9_packetPart N [.ref 0, .int (nI k), .int (nI w)] (gS (rg 0 18) I)) (rg 0 18) I K = K (I 3 (246 + 5 * k + w)) I := by
  rw [pX9_packetPart N _ h, hI_mk, gMm18, gSm18 (by decide)]
theorem pX9_arrive {N : Nat} {σ : St} {M : gM} {f n : Nat} (hr : RowIs (M 3) σ) (hl : σ.2.length ≤ 500) (hf : f < 6) (h0 : flp σ.1 f 0 < 10) (hn : n ≤ 300) (hN : 1000 ≤ N) :
    ∃ J, fX9_arrive N [.ref 0, .int (nI f), .int (nI n)] M = some (.inl (some (.int (nI (min n (500 - σ.2.length))))), J) ∧ RowIs (J 3) (arrN σ.1 f n (min n (500 - σ.2.length)), σ.2 ++ List.replicate (min n (500 - σ.2.length)) (newP σ.1 f)) ∧ ∀ k, k ≠ 3 → J k = M k := by
  have l0 : (0 : Int32) = nI 0 := rfl
  have l1 : (1 : Int32) = nI 1 := rfl
  obtain ⟨r, ps⟩ := σ
  have key : ∀ m i : Nat, i ≤ n → n - i < m → ∀ K : gM, RowIs (K 3) (arrN r f i (min i (500 - ps.length)), ps ++ List.replicate (min i (500 - ps.length)) (newP r f)) → (∀ k, k ≠ 3 → K k = M k) →
      ∃ J, hX9_arrive_5 N m (nI f) (nI n) (nI (min i (500 - ps.length))) (nI i) K = some (.inl (some (.int (nI (min n (500 - ps.length))))), J) ∧ RowIs (J 3) (arrN r f n (min n (500 - ps.length)), ps ++ List.replicate (min n (500 - ps.length)) (newP r f)) ∧ ∀ k, k ≠ 3 → J k = M k := by
    intro m
    induction m with
    | zero => intro i _ h; omega
    | succ m ih =>
      intro i hi hm K hk ho
      have l4 : (4 : Int32) = nI 4 := rfl
      have l5 : (5 : Int32) = nI 5 := rfl
      have l7 : (7 : Int32) = nI 7 := rfl
      have l245 : (245 : Int32) = nI 245 := rfl
      have l500 : (500 : Int32) = nI 500 := rfl
      rw [eX9_arrive_5, l0, l1, l4, l5, l7, l245, l500]
      by_cases hin : i = n
      · subst hin
        rw [if_pos ((cge (by omega) (by omega)).mpr (Nat.le_refl _))]
        exact ⟨K, rfl, hk, ho⟩
      · rw [if_neg (fun z => hin (by have := (cge (by omega) (by omega)).mp z; omega)), r_count (by omega), ckI (by decide) (by decide), nI_clamp (n := 245) (by decide), gU_un (Or.inr (by omega)), hk.2.1]
        have e72 : ∀ x K', hX9_arrive_72 N m (nI f) (nI n) x (nI i) K' = hX9_arrive_5 N m (nI f) (nI n) x (nI (i + 1)) K' := by
          intro x K'
          rw [eX9_arrive_72, l1, nI_add]
        have e4 : K 3 (65 + 11 * f + 4) = nI (flp r f 4 + i) := by
          rw [hk.1 _ (by omega)]
          show nI (up1 (up1 r (65 + 11 * f + 4) (flp r f 4 + i)) (65 + 11 * f + 5) _ (65 + 11 * f + 4)) = _
          rw [up1_n (by omega), up1_s]
        have hk1 : RowIs ((gU K 3 (65 + 11 * f + 4) (K 3 (65 + 11 * f + 4) + nI 1)) 3) (arrN r f (i + 1) (min i (500 - ps.length) + 1), ps ++ List.replicate (min i (500 - ps.length)) (newP r f)) := by
          rw [gU_u3, e4, nI_add]
          refine (hk.put (x := flp r f 4 + i + 1) (show 65 + 11 * f + 4 < 245 by omega)).fn (fun k _ => ?_)
          show up1 (up1 r _ _) _ _ k = up1 (up1 (up1 r _ _) _ _) _ _ k
          by_cases ea : k = 65 + 11 * f + 4
          · rw [ea, up1_n (by omega), up1_s, up1_s]; omega
          · rw [up1_n (i := 65 + 11 * f + 4) ea]
            by_cases eb : k = 65 + 11 * f + 5
            · rw [eb, up1_s, up1_s]; omega
            · rw [up1_n eb, up1_n eb, up1_n ea, up1_n ea]
        have hlen : (ps ++ List.replicate (min i (500 - ps.length)) (newP r f)).length = ps.length + min i (500 - ps.length) := by rw [List.length_append, List.length_replicate]
        have hle : ps.length ≤ 500 := hl
        show ∃ J, (if gc_ne (nI (ps ++ List.replicate (min i (500 - ps.length)) (newP r f)).length) (nI 500) = true then _ else _) = _ ∧ _
        rw [hlen]
        by_cases hroom : i < 500 - ps.length
        · have em : min (i + 1) (500 - ps.length) = min i (500 - ps.length) + 1 := by omega
          rw [if_pos (by rw [cne (by omega) (by decide)]; omega), ckI (by decide) (by decide), nI_clamp (n := 7) (by decide), r_flow (by omega), eX9_arrive_59, l0, r_flow (by omega)]
          have hsrc : (gU K 3 (65 + 11 * f + 4) (K 3 (65 + 11 * f + 4) + nI 1)) 3 (65 + 11 * f + 0) = nI (flp r f 0) := by
            rw [hk1.1 _ (by omega)]
            show nI (up1 (up1 r _ _) _ _ (65 + 11 * f + 0)) = _
            rw [up1_n (by omega), up1_n (by omega)]; rfl
          have hslot : (gU K 3 (65 + 11 * f + 4) (K 3 (65 + 11 * f + 4) + nI 1)) 3 7 = nI (r 7) := by
            rw [hk1.1 _ (by decide)]
            show nI (up1 (up1 r _ _) _ _ 7) = _
            rw [up1_n (by omega), up1_n (by omega)]
          rw [hsrc, hslot, shl1 (by have : flp r f 0 < 10 := h0; omega)]
          obtain ⟨J, j0, j1, j2⟩ := r_come (N := N) (p := newP r f) (K := fun I5 => hX9_arrive_72 N m (nI f) (nI n) (nI (min i (500 - ps.length)) + 1) (nI i) I5) hk1 (by show (ps ++ _).length < 500; rw [hlen]; omega)
          have j0' : hV (fX9_come N [.ref 0, .int (nI f), .int (nI (r 7)), .int (nI 0), .int (nI (2 ^ flp r f 0)), .int (nI (flp r f 0))] (gS (rg 0 18) (gU K 3 (65 + 11 * f + 4) (K 3 (65 + 11 * f + 4) + nI 1)))) (rg 0 18) (gU K 3 (65 + 11 * f + 4) (K 3 (65 + 11 * f + 4) + nI 1)) (fun I5 => hX9_arrive_72 N m (nI f) (nI n) (nI (min i (500 - ps.length)) + 1) (nI i) I5) = hX9_arrive_72 N m (nI f) (nI n) (nI (min i (500 - ps.length)) + 1) (nI i) J := j0
          rw [j0', e72, l1, nI_add, ← em]
          refine ih (i + 1) (by omega) (by omega) J ?_ (fun k hk3 => (j2 k hk3).trans ((gU_ok hk3).trans (ho k hk3)))
          rw [em, List.replicate_succ', ← List.append_assoc]
          exact j1
        · have em : min (i + 1) (500 - ps.length) = min i (500 - ps.length) := by omega
          rw [if_neg (by rw [cne (by omega) (by decide)]; omega), r_count (by omega), e72]
          have := ih (i + 1) (by omega) (by omega) (gU (gU K 3 (65 + 11 * f + 4) (K 3 (65 + 11 * f + 4) + nI 1)) 3 (65 + 11 * f + 5) ((gU K 3 (65 + 11 * f + 4) (K 3 (65 + 11 * f + 4) + nI 1)) 3 (65 + 11 * f + 5) + nI 1)) (by
            rw [em, gU_u3, hk1.1 _ (by omega)]
            have e5 : arrN r f (i + 1) (min i (500 - ps.length) + 1) (65 + 11 * f + 5) = flp r f 5 + (i + 1 - (min i (500 - ps.length) + 1)) := up1_s
            show RowIs (upd _ _ (nI (arrN r f (i + 1) (min i (500 - ps.length) + 1) (65 + 11 * f + 5)) + nI 1)) _
            rw [e5, nI_add]
            refine (hk1.put (show 65 + 11 * f + 5 < 245 by omega)).fn (fun k _ => ?_)
            show up1 (up1 r _ _) _ _ k = up1 (up1 (up1 r _ _) _ _) _ _ k
            by_cases eb : k = 65 + 11 * f + 5
            · rw [eb, up1_s, up1_s]; omega
            · rw [up1_n eb, up1_n eb, up1_n eb]) (fun k hk3 => (gU_ok hk3).trans ((gU_ok hk3).trans (ho k hk3)))
          rw [em] at this
          exact this
  rw [eX9_arrive, eX9_arrive_0]
  have := key N 0 (Nat.zero_le _) (by omega) M (by
    rw [Nat.zero_min]
    show RowIs (M 3) (_, ps ++ [])
    rw [List.append_nil]
    refine hr.fn (fun k _ => ?_)
    show up1 (up1 r _ _) _ _ k = r k
    by_cases eb : k = 65 + 11 * f + 5
    · rw [eb, up1_s]; rfl
    · rw [up1_n eb]
      by_cases ea : k = 65 + 11 * f + 4
      · rw [ea, up1_s]; rfl
      · rw [up1_n ea]) (fun _ _ => rfl)
  rw [Nat.zero_min] at this
  exact this
