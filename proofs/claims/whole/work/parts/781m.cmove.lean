/-! ===== the queues in their own memory: packets go under way and come back ===== -/
def dq (J : gM) (i : Nat) : Int32 × Int32 × Int32 × Int32 := (J 6 i, J 7 i, J 8 i, J 9 i)
def CQq (J : gM) (qs : Nat → List Pk) (tr : List (Nat × Pk)) (P : Nat) : Prop := ∃ (c : Nat → List Nat) (own : Nat → Nat) (u : Nat), QI J c own u P ∧ (∀ q, q < 100 → (c q).map (dq J) = (qs q).map pd) ∧ (∀ x ∈ tr, x.1 < u ∧ own x.1 = 101 ∧ dq J x.1 = pd x.2) ∧ (tr.map Prod.fst).Nodup
theorem dq_10 (J : gM) (i : Nat) : dq (gS (rg 10 10) J) i = dt J i := by
  unfold dq dt
  rw [gS10 (by decide), gS10 (by decide), gS10 (by decide), gS10 (by decide)]
theorem CQ.toq {J : gM} {qs : Nat → List Pk} {tr : List (Nat × Pk)} {P : Nat} (h : CQ J qs tr P) : CQq (gS (rg 10 10) J) qs tr P := by
  obtain ⟨c, own, u, h1, h2, h3, h4⟩ := h
  refine ⟨c, own, u, h1, fun q hq => ?_, fun x hx => ?_, h4⟩
  · rw [← h2 q hq]; exact List.map_congr_left (fun i _ => dq_10 J i)
  · rw [dq_10]; exact h3 x hx
theorem CQq.toCQ {J : gM} {qs : Nat → List Pk} {tr : List (Nat × Pk)} {P : Nat} (h : CQq (gS (rg 10 10) J) qs tr P) : CQ J qs tr P := by
  obtain ⟨c, own, u, h1, h2, h3, h4⟩ := h
  refine ⟨c, own, u, h1, fun q hq => ?_, fun x hx => ?_, h4⟩
  · rw [← h2 q hq]; exact List.map_congr_left (fun i _ => (dq_10 J i).symm)
  · rw [← dq_10]; exact h3 x hx
theorem CQq.congr {I J : gM} {qs : Nat → List Pk} {tr : List (Nat × Pk)} {P : Nat} (h : CQq I qs tr P) (h0 : ∀ j, 9 ≤ j → j ≤ 11 → J 0 j = I 0 j) (he : ∀ k, 1 ≤ k → k < 10 → k ≠ 4 → J k = I k) : CQq J qs tr P := by
  obtain ⟨c, own, u, h1, h2, h3, h4⟩ := h
  have hd : ∀ i, dq J i = dq I i := fun i => by
    unfold dq
    rw [he 6 (by decide) (by decide) (by decide), he 7 (by decide) (by decide) (by decide), he 8 (by decide) (by decide) (by decide), he 9 (by decide) (by decide) (by decide)]
  refine ⟨c, own, u, h1.mem h0 (he 1 (by decide) (by decide) (by decide)) (he 2 (by decide) (by decide) (by decide)) (he 3 (by decide) (by decide) (by decide)) (he 5 (by decide) (by decide) (by decide)), fun q hq => ?_, fun x hx => ?_, h4⟩
  · rw [← h2 q hq]; exact List.map_congr_left (fun i _ => hd i)
  · rw [hd]; exact h3 x hx
theorem map_cons_inv {α β : Type} {f : α → β} {l : List α} {b : β} {m : List β} (h : l.map f = b :: m) : ∃ a t, l = a :: t ∧ f a = b ∧ t.map f = m := by
  cases l with
  | nil => cases h
  | cons a t =>
    rw [List.map_cons] at h
    have h1 := List.cons.inj h
    exact ⟨a, t, rfl, h1.1, h1.2⟩
theorem CQq.len {I : gM} {qs : Nat → List Pk} {tr : List (Nat × Pk)} {P q : Nat} (h : CQq I qs tr P) (hq : q < 100) : I 3 q = nI (qs q).length ∧ (qs q).length ≤ 500 := by
  obtain ⟨c, own, u, h1, h2, -, -⟩ := h
  have e : (c q).length = (qs q).length := by
    have := congrArg List.length (h2 q hq)
    rwa [List.length_map, List.length_map] at this
  have h3 := h1.len (q := q) (by omega)
  rw [← e]
  exact ⟨(h1.2.2.1 q hq).1, h3⟩
theorem CQq.P {I : gM} {qs : Nat → List Pk} {tr : List (Nat × Pk)} {P : Nat} (h : CQq I qs tr P) : I 0 11 = nI P ∧ P ≤ 500 := by
  obtain ⟨c, own, u, h1, -, -, -⟩ := h
  exact ⟨h1.1.2.2.1, by have := h1.1.2.2.2; have := h1.1.2.1; omega⟩
theorem CQq.tr_lt {I : gM} {qs : Nat → List Pk} {tr : List (Nat × Pk)} {P : Nat} (h : CQq I qs tr P) : ∀ x ∈ tr, x.1 < 500 ∧ dq I x.1 = pd x.2 := by
  obtain ⟨c, own, u, h1, -, h3, -⟩ := h
  intro x hx
  have := h1.1.2.1
  have h4 := h3 x hx
  exact ⟨by omega, h4.2.2⟩
/-- the first of a queue goes under way -/
theorem CQq.take {N : Nat} {I : gM} {qs : Nat → List Pk} {tr : List (Nat × Pk)} {P q : Nat} {p : Pk} {t : List Pk} (h : CQq I qs tr P) (hq : q < 100) (hp : qs q = p :: t) : ∃ (i : Nat) (J : gM), fX4_takeBehind N [.ref 0, .int (nI q), .int mI] I = some (.inl (some (.int (nI i))), J) ∧ CQq J (upq qs q t) ((i, p) :: tr) P ∧ (∀ k, k ≠ 1 → k ≠ 2 → k ≠ 3 → k ≠ 5 → J k = I k) ∧ i < 500 := by
  obtain ⟨c, own, u, h1, h2, h3, h4⟩ := h
  have hm := h2 q hq
  rw [hp, List.map_cons] at hm
  obtain ⟨i, ct, e1, e2, e3⟩ := map_cons_inv hm
  obtain ⟨J, j0, j1, j2, -⟩ := pX4_takeBehind (N := N) (l0 := []) (t := ct) h1 hq e1
  have hu := h1.1.2.1
  have hi : i < u ∧ own i = q := (h1.2.2.2.1 q (by omega)).2 i (by rw [e1]; exact List.mem_cons_self)
  have hd : ∀ j, dq J j = dq I j := fun j => by
    unfold dq
    rw [j2 6 (by decide) (by decide) (by decide) (by decide), j2 7 (by decide) (by decide) (by decide) (by decide), j2 8 (by decide) (by decide) (by decide) (by decide), j2 9 (by decide) (by decide) (by decide) (by decide)]
  refine ⟨i, J, j0, ⟨_, _, u, j1, fun k hk => ?_, fun x hx => ?_, ?_⟩, j2, by omega⟩
  · by_cases e : k = q
    · subst e
      rw [upl_s, upq_s, List.nil_append, ← e3]
      exact List.map_congr_left (fun j _ => hd j)
    · rw [upl_n e, upq_n e, ← h2 k hk]
      exact List.map_congr_left (fun j _ => hd j)
  · rcases List.mem_cons.mp hx with e | e
    · subst e
      exact ⟨hi.1, upn_s, (hd i).trans e2⟩
    · obtain ⟨a1, a2, a3⟩ := h3 x e
      exact ⟨a1, (upn_n (fun e' => by rw [e', hi.2] at a2; omega)).trans a2, (hd _).trans a3⟩
  · rw [List.map_cons]
    refine List.nodup_cons.mpr ⟨fun hm => ?_, h4⟩
    obtain ⟨x, x1, x2⟩ := List.mem_map.mp hm
    have := (h3 x x1).2.1
    rw [x2, hi.2] at this
    omega
theorem tr_mid {a b : List (Nat × Pk)} {i : Nat} {p : Pk} (h : ((a ++ (i, p) :: b).map Prod.fst).Nodup) : ((a ++ b).map Prod.fst).Nodup ∧ ∀ x ∈ a ++ b, x.1 ≠ i := by
  rw [List.map_append, List.map_cons] at h
  have h1 := List.nodup_append.mp h
  have h2 := List.nodup_cons.mp h1.2.1
  refine ⟨?_, fun x hx e => ?_⟩
  · rw [List.map_append]
    exact List.nodup_append.mpr ⟨h1.1, h2.2, fun z hz y hy => h1.2.2 z hz y (List.mem_cons_of_mem _ hy)⟩
  · rcases List.mem_append.mp hx with e1 | e1
    · exact h1.2.2 x.1 (List.mem_map.mpr ⟨x, e1, rfl⟩) i List.mem_cons_self e
    · exact h2.1 (List.mem_map.mpr ⟨x, e1, e⟩)
theorem mem_mid {a b : List (Nat × Pk)} {y x : Nat × Pk} (h : x ∈ a ++ b) : x ∈ a ++ y :: b := by
  rcases List.mem_append.mp h with e | e
  · exact List.mem_append_left _ e
  · exact List.mem_append_right _ (List.mem_cons_of_mem _ e)
/-- one under way is set free -/
theorem CQq.release {N : Nat} {I : gM} {qs : Nat → List Pk} {a b : List (Nat × Pk)} {P i : Nat} {p : Pk} (h : CQq I qs (a ++ (i, p) :: b) P) (hP : 0 < P) : ∃ J, fX4_release N [.ref 0, .int (nI i)] I = some (.inl none, J) ∧ CQq J qs (a ++ b) (P - 1) ∧ (∀ j, j ≠ 10 → j ≠ 11 → J 0 j = I 0 j) ∧ ∀ k, k ≠ 0 → k ≠ 5 → J k = I k := by
  obtain ⟨c, own, u, h1, h2, h3, h4⟩ := h
  obtain ⟨x1, x2, -⟩ := h3 (i, p) (List.mem_append_right _ List.mem_cons_self)
  obtain ⟨J, j0, j1, j2, j3⟩ := pX4_release (N := N) h1 x1 x2 hP
  have hd : ∀ j, dq J j = dq I j := fun j => by
    unfold dq
    rw [j3 6 (by decide) (by decide), j3 7 (by decide) (by decide), j3 8 (by decide) (by decide), j3 9 (by decide) (by decide)]
  obtain ⟨t1, t2⟩ := tr_mid h4
  refine ⟨J, j0, ⟨_, _, u, j1, fun k hk => ?_, fun x hx => ?_, t1⟩, j2, j3⟩
  · rw [upl_n (by omega), ← h2 k hk]
    exact List.map_congr_left (fun j _ => hd j)
  · obtain ⟨a1, a2, a3⟩ := h3 x (mem_mid hx)
    exact ⟨a1, (upn_n (t2 x hx)).trans a2, (hd _).trans a3⟩
/-- one under way comes to the end of a queue -/
theorem CQq.put {N : Nat} {I : gM} {qs : Nat → List Pk} {a b : List (Nat × Pk)} {P i q : Nat} {p : Pk} (h : CQq I qs (a ++ (i, p) :: b) P) (hq : q < 100) : ∃ J, fX4_putLast N [.ref 0, .int (nI q), .int (nI i)] I = some (.inl none, J) ∧ CQq J (upq qs q (qs q ++ [p])) (a ++ b) P ∧ ∀ k, k ≠ 1 → k ≠ 2 → k ≠ 3 → k ≠ 5 → J k = I k := by
  obtain ⟨c, own, u, h1, h2, h3, h4⟩ := h
  obtain ⟨x1, x2, x3⟩ := h3 (i, p) (List.mem_append_right _ List.mem_cons_self)
  obtain ⟨J, j0, j1, j2⟩ := pX4_putLast (N := N) h1 x1 x2 hq
  have hd : ∀ j, dq J j = dq I j := fun j => by
    unfold dq
    rw [j2 6 (by decide) (by decide) (by decide) (by decide), j2 7 (by decide) (by decide) (by decide) (by decide), j2 8 (by decide) (by decide) (by decide) (by decide), j2 9 (by decide) (by decide) (by decide) (by decide)]
  obtain ⟨t1, t2⟩ := tr_mid h4
  refine ⟨J, j0, ⟨_, _, u, j1, fun k hk => ?_, fun x hx => ?_, t1⟩, j2⟩
  · by_cases e : k = q
    · subst e
      rw [upl_s, upq_s, List.map_append, List.map_append, ← h2 k hk]
      congr 1
      · exact List.map_congr_left (fun j _ => hd j)
      · show [dq J i] = [pd p]
        rw [hd]; exact congrArg (fun z => [z]) x3
    · rw [upl_n e, upq_n e, ← h2 k hk]
      exact List.map_congr_left (fun j _ => hd j)
  · obtain ⟨a1, a2, a3⟩ := h3 x (mem_mid hx)
    exact ⟨a1, (upn_n (t2 x hx)).trans a2, (hd _).trans a3⟩
/-- what is written of one under way -/
theorem CQq.data {I J : gM} {qs : Nat → List Pk} {a b : List (Nat × Pk)} {P i : Nat} {p p' : Pk} (h : CQq I qs (a ++ (i, p) :: b) P) (hk : ∀ k, k < 6 → J k = I k) (ho : ∀ j, j ≠ i → dq J j = dq I j) (hi : dq J i = pd p') : CQq J qs (a ++ (i, p') :: b) P := by
  obtain ⟨c, own, u, h1, h2, h3, h4⟩ := h
  obtain ⟨x1, x2, x3⟩ := h3 (i, p) (List.mem_append_right _ List.mem_cons_self)
  obtain ⟨t1, t2⟩ := tr_mid h4
  refine ⟨c, own, u, h1.mem (fun j _ _ => by rw [hk 0 (by decide)]) (hk 1 (by decide)) (hk 2 (by decide)) (hk 3 (by decide)) (hk 5 (by decide)), fun q hq => ?_, fun x hx => ?_, ?_⟩
  · rw [← h2 q hq]
    exact List.map_congr_left (fun j hj => ho j (nmm (h1.none x1 x2 (by omega)) hj))
  · rcases List.mem_append.mp hx with e | e
    · obtain ⟨a1, a2, a3⟩ := h3 x (List.mem_append_left _ e)
      exact ⟨a1, a2, (ho _ (t2 x (List.mem_append_left _ e))).trans a3⟩
    · rcases List.mem_cons.mp e with e2 | e2
      · subst e2; exact ⟨x1, x2, hi⟩
      · obtain ⟨a1, a2, a3⟩ := h3 x (List.mem_append_right _ (List.mem_cons_of_mem _ e2))
        exact ⟨a1, a2, (ho _ (t2 x (List.mem_append_right _ e2))).trans a3⟩
  · rw [List.map_append, List.map_cons] at h4 ⊢
    exact h4
