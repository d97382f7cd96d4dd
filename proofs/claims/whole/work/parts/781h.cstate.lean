/-! ===== the class's State (places 0..19) and what it stands for ===== -/
/-- a walk of k links from a to b -/
def wk (r : Nat → Nat) : Nat → Nat → Nat → Prop
  | 0, a, b => a = b
  | k + 1, a, b => ∃ j, j < r 1 ∧ lkp r j 0 = a ∧ wk r k (lkp r j 1) b
/-- d is the least number of links from a to b, or the number of nodes -/
def isD (r : Nat → Nat) (a b d : Nat) : Prop := d ≤ r 0 ∧ (d < r 0 → wk r d a b) ∧ ∀ k, k < d → ¬ wk r k a b
theorem isD.one {r : Nat → Nat} {a b d e : Nat} (h1 : isD r a b d) (h2 : isD r a b e) : d = e := by
  rcases Nat.lt_trichotomy d e with h | h | h
  · exact absurd (h1.2.1 (by have := h2.1; omega)) (h2.2.2 d h)
  · exact h
  · exact absurd (h2.2.1 (by have := h1.1; omega)) (h1.2.2 e h)
/-- the same links -/
def sameL (r s : Nat → Nat) : Prop := s 0 = r 0 ∧ s 1 = r 1 ∧ ∀ j, j < r 1 → lkp s j 0 = lkp r j 0 ∧ lkp s j 1 = lkp r j 1
theorem wk_congr {r s : Nat → Nat} (h : sameL r s) : ∀ k a b, wk r k a b ↔ wk s k a b
  | 0, _, _ => Iff.rfl
  | k + 1, a, b => by
    show (∃ j, j < r 1 ∧ lkp r j 0 = a ∧ wk r k (lkp r j 1) b) ↔ (∃ j, j < s 1 ∧ lkp s j 0 = a ∧ wk s k (lkp s j 1) b)
    refine ⟨fun ⟨j, h1, h2, h3⟩ => ⟨j, by rw [h.2.1]; exact h1, by rw [(h.2.2 j h1).1]; exact h2, by rw [(h.2.2 j h1).2]; exact (wk_congr h k _ _).mp h3⟩, fun ⟨j, h1, h2, h3⟩ => ?_⟩
    rw [h.2.1] at h1
    refine ⟨j, h1, by rw [← (h.2.2 j h1).1]; exact h2, ?_⟩
    rw [(h.2.2 j h1).2] at h3
    exact (wk_congr h k _ _).mpr h3
theorem isD_congr {r s : Nat → Nat} (h : sameL r s) {a b d : Nat} (hd : isD r a b d) : isD s a b d := ⟨by rw [h.1]; exact hd.1, fun hl => (wk_congr h _ _ _).mp (hd.2.1 (by rw [h.1] at hl; exact hl)), fun k hk hw => hd.2.2 k hk ((wk_congr h _ _ _).mpr hw)⟩
/-- places 1..9 -/
def CN (J : gM) (r : Nat → Nat) : Prop :=
  (J 1 0 = nI (r 0) ∧ J 1 1 = nI (r 1) ∧ J 1 2 = nI (r 2)) ∧
  (∀ k, k < r 1 → J 2 k = nI (lkp r k 0) ∧ J 3 k = nI (lkp r k 1) ∧ J 4 k = nI (lkp r k 2) ∧ J 5 k = nI (lkp r k 3) ∧ J 6 k = nI (cfp r k)) ∧
  (∀ i, i < 4 → J 7 i = nI (r (3 + i))) ∧
  (∀ f w, f < r 2 → w < 11 → J 8 (f * 11 + w) = nI (flp r f w)) ∧
  ∀ a b, a < r 0 → b < r 0 → ∃ d, isD r a b d ∧ J 9 (a * 10 + b) = nI d
theorem CN.congr {I J : gM} {r : Nat → Nat} (h : CN I r) (he : ∀ k, 1 ≤ k → k ≤ 9 → J k = I k) : CN J r := by
  unfold CN at h ⊢
  rw [he 1 (by decide) (by decide), he 2 (by decide) (by decide), he 3 (by decide) (by decide), he 4 (by decide) (by decide), he 5 (by decide) (by decide), he 6 (by decide) (by decide), he 7 (by decide) (by decide), he 8 (by decide) (by decide), he 9 (by decide) (by decide)]
  exact h
/-- a number of a flow is written -/
theorem CN.num {I : gM} {r : Nat → Nat} {f w x : Nat} (h : CN I r) (h14 : r 1 ≤ 14) (h6 : r 2 ≤ 6) (hf : f < r 2) (hw : w < 11) : CN (gU I 8 (f * 11 + w) (nI x)) (up1 r (65 + 11 * f + w) x) := by
  obtain ⟨h1, h2, h3, h4, h5⟩ := h
  have e : ∀ k, k < 65 → up1 r (65 + 11 * f + w) x k = r k := fun k hk => up1_n (by omega)
  have ec : ∀ k, k < 14 → cfp (up1 r (65 + 11 * f + w) x) k = cfp r k := fun k hk => up1_n (show 131 + k ≠ 65 + 11 * f + w by omega)
  have el : ∀ k v, k < r 1 → v < 4 → lkp (up1 r (65 + 11 * f + w) x) k v = lkp r k v := fun k v hk hv => e _ (by omega)
  refine ⟨?_, fun k hk => ?_, fun i hi => ?_, fun g v hg hv => ?_, fun a b ha hb => ?_⟩
  · rw [gU_ok (by decide), e 0 (by decide), e 1 (by decide), e 2 (by decide)]; exact h1
  · rw [e 1 (by decide)] at hk
    rw [gU_ok (by decide), gU_ok (by decide), gU_ok (by decide), gU_ok (by decide), gU_ok (by decide), el k 0 hk (by decide), el k 1 hk (by decide), el k 2 hk (by decide), el k 3 hk (by decide), ec k (by omega)]
    exact h2 k hk
  · rw [gU_ok (by decide), e (3 + i) (by omega)]; exact h3 i hi
  · rw [e 2 (by decide)] at hg
    by_cases hgf : g * 11 + v = f * 11 + w
    · have : g = f ∧ v = w := by omega
      rw [this.1, this.2, gU_us]
      show _ = nI (up1 r (65 + 11 * f + w) x (65 + 11 * f + w))
      rw [up1_s]
    · rw [gU_un (Or.inr hgf), h4 g v hg hv]
      show _ = nI (up1 r (65 + 11 * f + w) x (65 + 11 * g + v))
      rw [up1_n (by omega)]; rfl
  · rw [e 0 (by decide)] at ha hb
    obtain ⟨d, d1, d2⟩ := h5 a b ha hb
    exact ⟨d, isD_congr ⟨e 0 (by decide), e 1 (by decide), fun j hj => ⟨el j 0 hj (by decide), el j 1 hj (by decide)⟩⟩ d1, by rw [gU_ok (by decide)]; exact d2⟩
def pd (p : Pk) : Int32 × Int32 × Int32 × Int32 := (nI p.1, nI p.2.1, nI p.2.2.1, nI p.2.2.2.1)
def dt (J : gM) (i : Nat) : Int32 × Int32 × Int32 × Int32 := (J 16 i, J 17 i, J 18 i, J 19 i)
def upq (qs : Nat → List Pk) (q : Nat) (l : List Pk) : Nat → List Pk := fun k => if k = q then l else qs k
theorem upq_s {qs : Nat → List Pk} {q : Nat} {l : List Pk} : upq qs q l q = l := if_pos rfl
theorem upq_n {qs : Nat → List Pk} {q k : Nat} {l : List Pk} (h : k ≠ q) : upq qs q l k = qs k := if_neg h
/-- what the queues hold (qs), what is under way (tr), how many there are -/
def CQ (J : gM) (qs : Nat → List Pk) (tr : List (Nat × Pk)) (P : Nat) : Prop := ∃ (c : Nat → List Nat) (own : Nat → Nat) (u : Nat), QI (gS (rg 10 10) J) c own u P ∧ (∀ q, q < 100 → (c q).map (dt J) = (qs q).map pd) ∧ (∀ x ∈ tr, x.1 < u ∧ own x.1 = 101 ∧ dt J x.1 = pd x.2) ∧ (tr.map Prod.fst).Nodup
def CS (J : gM) (r : Nat → Nat) : Prop := J 0 2 = nI (r 7) ∧ J 0 3 = nI (r 8) ∧ ∀ q, q < 100 → J 14 q = nI (r (145 + q))
theorem gS10 {I : gM} {k : Nat} (h : k < 10) : gS (rg 10 10) I k = I (10 + k) := gS_rg h (by decide)
theorem gM10 {I J : gM} {k : Nat} (h : k < 10) : gMg (rg 10 10) I J (10 + k) = J k := gMg_rgi h
theorem gM10o {I J : gM} {k : Nat} (h : k < 10) : gMg (rg 10 10) I J k = I k := gMg_rgo (Or.inl h)
theorem gS19 {I : gM} {k : Nat} (h : k < 9) : gS (rg 1 9) I k = I (1 + k) := gS_rg h (by decide)
theorem gM19 {I J : gM} {k : Nat} (h : k < 9) : gMg (rg 1 9) I J (1 + k) = J k := gMg_rgi h
theorem gM19o {I J : gM} {k : Nat} (h : k = 0 ∨ 10 ≤ k) : gMg (rg 1 9) I J k = I k := gMg_rgo (by omega)
theorem gM19U {I J : gM} {k j : Nat} {x : Int32} (h : k < 9) : gMg (rg 1 9) I (gU J k j x) = gU (gMg (rg 1 9) I J) (1 + k) j x := gMg_U h
theorem gM19s (I : gM) : gMg (rg 1 9) I (gS (rg 1 9) I) = I := gMg_same I (by decide)
theorem gM10s (I : gM) : gMg (rg 10 10) I (gS (rg 10 10) I) = I := gMg_same I (by decide)
/-- the queues live in the places 10..19 -/
theorem CQ.congr {I J : gM} {qs : Nat → List Pk} {tr : List (Nat × Pk)} {P : Nat} (h : CQ I qs tr P) (he : ∀ k, 10 ≤ k → k < 20 → k ≠ 14 → J k = I k) : CQ J qs tr P := by
  obtain ⟨c, own, u, h1, h2, h3, h4⟩ := h
  have hd : ∀ i, dt J i = dt I i := fun i => by
    unfold dt
    rw [he 16 (by decide) (by decide) (by decide), he 17 (by decide) (by decide) (by decide), he 18 (by decide) (by decide) (by decide), he 19 (by decide) (by decide) (by decide)]
  refine ⟨c, own, u, h1.mem (fun j _ _ => ?_) ?_ ?_ ?_ ?_, fun q hq => ?_, fun x hx => ?_, h4⟩
  · rw [gS10 (by decide), gS10 (by decide), he 10 (by decide) (by decide) (by decide)]
  · rw [gS10 (by decide), gS10 (by decide), he 11 (by decide) (by decide) (by decide)]
  · rw [gS10 (by decide), gS10 (by decide), he 12 (by decide) (by decide) (by decide)]
  · rw [gS10 (by decide), gS10 (by decide), he 13 (by decide) (by decide) (by decide)]
  · rw [gS10 (by decide), gS10 (by decide), he 15 (by decide) (by decide) (by decide)]
  · rw [← h2 q hq]; exact List.map_congr_left (fun i _ => hd i)
  · rw [hd]; exact h3 x hx
theorem shl1' {k : Nat} (hk : k < 31) : gb_shl 1 (nI k) = nI (2 ^ k) := shl1 hk
/-- a packet comes in -/
theorem CQ.enter {N : Nat} {I : gM} {qs : Nat → List Pk} {tr : List (Nat × Pk)} {P q f s a : Nat} (h : CQ I qs tr P) (hP : P < 500) (hq : q < 100) (ha : a < 31) :
    ∃ J, fX4_enter N [.ref 0, .int (nI q), .int (nI f), .int (nI s), .int (nI a)] (gS (rg 10 10) I) = some (.inl (some (.int 1)), J) ∧ CQ (gMg (rg 10 10) I J) (upq qs q (qs q ++ [(f, s, 0, 2 ^ a, a)])) tr (P + 1) ∧ gMg (rg 10 10) I J 14 = I 14 := by
  obtain ⟨c, own, u, h1, h2, h3, h4⟩ := h
  obtain ⟨J, i, c1, own1, u1, e0, e1, e2, e3, e4, e5, e6, e7, e8, e9⟩ := pX4_enter (N := N) (nI f) (nI s) (nI a) h1 hP hq
  refine ⟨J, e0, ⟨c1, own1, u1, e1.mem (fun j _ _ => ?_) ?_ ?_ ?_ ?_, fun k hk => ?_, fun x hx => ?_, h4⟩, ?_⟩
  · rw [gS10 (by decide), gM10 (by decide)]
  · rw [gS10 (by decide), gM10 (by decide)]
  · rw [gS10 (by decide), gM10 (by decide)]
  · rw [gS10 (by decide), gM10 (by decide)]
  · rw [gS10 (by decide), gM10 (by decide)]
  all_goals
    have hdt : ∀ j, dt (gMg (rg 10 10) I J) j = (J 6 j, J 7 j, J 8 j, J 9 j) := fun j => by
      unfold dt
      rw [show (16 : Nat) = 10 + 6 from rfl, show (17 : Nat) = 10 + 7 from rfl, show (18 : Nat) = 10 + 8 from rfl, show (19 : Nat) = 10 + 9 from rfl, gM10 (by decide), gM10 (by decide), gM10 (by decide), gM10 (by decide)]
    have hdo : ∀ j, j ≠ i → dt (gMg (rg 10 10) I J) j = dt I j := fun j hj => by
      obtain ⟨z1, z2, z3, z4⟩ := e7 j hj
      rw [hdt, z1, z2, z3, z4, gS10 (by decide), gS10 (by decide), gS10 (by decide), gS10 (by decide)]
      rfl
  · by_cases e : k = q
    · subst e
      rw [e2, upq_s, List.map_append, List.map_append, ← h2 k hk]
      congr 1
      · exact List.map_congr_left (fun j hj => hdo j (nmm (e4 k hk) hj))
      · show [dt (gMg (rg 10 10) I J) i] = [pd (f, s, 0, 2 ^ a, a)]
        rw [hdt, e6.1, e6.2.1, e6.2.2.1, e6.2.2.2, shl1' ha]
        rfl
    · rw [e3 k hk e, upq_n e, ← h2 k hk]
      exact List.map_congr_left (fun j hj => hdo j (nmm (e4 k hk) hj))
  · obtain ⟨x1, x2, x3⟩ := h3 x hx
    have hx1 := e5.2 x.1 x2 x1
    have hi : own1 i = q := ((e1.2.2.2.1 q (by omega)).2 i (by rw [e2]; exact List.mem_append_right _ (List.mem_singleton.mpr rfl))).2
    refine ⟨by have := e5.1; omega, hx1, ?_⟩
    rw [hdo x.1 (fun e => by rw [e, hi] at hx1; omega)]
    exact x3
  · rw [show (14 : Nat) = 10 + 4 from rfl, gM10 (by decide), e8, gS10 (by decide)]
