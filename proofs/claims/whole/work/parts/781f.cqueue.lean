/-! ===== the class's Queues (places 0..9): chains ===== -/
def hde (l : List Nat) (e : Int32) : Int32 := match l with
  | [] => e
  | x :: _ => nI x
def nxe (f : Nat → Int32) : List Nat → Int32 → Prop
  | [], _ => True
  | x :: t, e => f x = hde t e ∧ nxe f t e
theorem hde_app (l m : List Nat) (e : Int32) : hde (l ++ m) e = hde l (hde m e) := by
  cases l <;> rfl
theorem nxe_app (f : Nat → Int32) : ∀ (l m : List Nat) (e : Int32), nxe f (l ++ m) e ↔ nxe f l (hde m e) ∧ nxe f m e
  | [], m, e => ⟨fun h => ⟨True.intro, h⟩, fun h => h.2⟩
  | x :: t, m, e => by
    show (f x = hde (t ++ m) e ∧ nxe f (t ++ m) e) ↔ (f x = hde t (hde m e) ∧ nxe f t (hde m e)) ∧ nxe f m e
    rw [hde_app, nxe_app f t m e, and_assoc]
theorem nxe_congr {f g : Nat → Int32} : ∀ (l : List Nat) (e : Int32), (∀ i ∈ l, g i = f i) → nxe f l e → nxe g l e
  | [], _, _, _ => True.intro
  | x :: t, e, h, hn => ⟨(h x List.mem_cons_self).trans hn.1, nxe_congr t e (fun i hi => h i (List.mem_cons_of_mem _ hi)) hn.2⟩
theorem nodup_len : ∀ (u : Nat) (l : List Nat), l.Nodup → (∀ i ∈ l, i < u) → l.length ≤ u
  | 0, [], _, _ => Nat.le_refl _
  | 0, x :: t, _, h => absurd (h x List.mem_cons_self) (Nat.not_lt_zero _)
  | u + 1, l, hn, h => by
    by_cases hu : u ∈ l
    · have h1 := nodup_len u (l.erase u) (hn.erase u) (fun i hi => by
        have := (hn.mem_erase_iff).mp hi
        have := h i this.2
        omega)
      rw [List.length_erase_of_mem hu] at h1
      omega
    · have h1 := nodup_len u l hn (fun i hi => by
        have h2 := h i hi
        have h3 : i ≠ u := fun e => hu (e ▸ hi)
        omega)
      omega
def upl (c : Nat → List Nat) (q : Nat) (l : List Nat) : Nat → List Nat := fun k => if k = q then l else c k
theorem upl_s {c : Nat → List Nat} {q : Nat} {l : List Nat} : upl c q l q = l := if_pos rfl
theorem upl_n {c : Nat → List Nat} {q k : Nat} {l : List Nat} (h : k ≠ q) : upl c q l k = c k := if_neg h
/-- c: the chains of the queues 0..99 and, at 100, of the free ones; own: where a packet is, 101 for under way; u used ones; P packets -/
def QI (I : gM) (c : Nat → List Nat) (own : Nat → Nat) (u P : Nat) : Prop :=
  (I 0 9 = nI u ∧ u ≤ 500 ∧ I 0 11 = nI P ∧ P + (c 100).length = u) ∧
  (I 0 10 = hde (c 100) mI ∧ nxe (I 5) (c 100) mI) ∧
  (∀ q, q < 100 → I 3 q = nI (c q).length ∧ (∀ x, (c q).head? = some x → I 1 q = nI x) ∧ (∀ x, (c q).getLast? = some x → I 2 q = nI x) ∧ nxe (I 5) (c q) mI) ∧
  (∀ q, q ≤ 100 → (c q).Nodup ∧ ∀ i ∈ c q, i < u ∧ own i = q) ∧
  (∀ i, i < u → own i ≤ 100 → i ∈ c (own i))
theorem QI.len {I : gM} {c : Nat → List Nat} {own : Nat → Nat} {u P : Nat} (h : QI I c own u P) {q : Nat} (hq : q ≤ 100) : (c q).length ≤ 500 := by
  have h1 := h.2.2.2.1 q hq
  have h2 := nodup_len u (c q) h1.1 (fun i hi => (h1.2 i hi).1)
  have := h.1.2.1
  omega
theorem QI.notin {I : gM} {c : Nat → List Nat} {own : Nat → Nat} {u P : Nat} (h : QI I c own u P) {q k i : Nat} (hq : q ≤ 100) (ho : own i = k) (hk : k ≠ q) : ¬ i ∈ c q := fun hi => hk (ho.symm.trans ((h.2.2.2.1 q hq).2 i hi).2)
/-- the same chains, another memory -/
theorem QI.mem {I J : gM} {c : Nat → List Nat} {own : Nat → Nat} {u P : Nat} (h : QI I c own u P) (h0 : ∀ j, 9 ≤ j → j ≤ 11 → J 0 j = I 0 j) (h1 : J 1 = I 1) (h2 : J 2 = I 2) (h3 : J 3 = I 3) (h5 : J 5 = I 5) : QI J c own u P := by
  unfold QI at h ⊢
  rw [h0 9 (by decide) (by decide), h0 10 (by decide) (by decide), h0 11 (by decide) (by decide), h1, h2, h3, h5]
  exact h
def upn (own : Nat → Nat) (i q : Nat) : Nat → Nat := fun k => if k = i then q else own k
theorem nmm {l : List Nat} {i j : Nat} (hi : ¬ i ∈ l) (hj : j ∈ l) : j ≠ i := fun e => hi (e ▸ hj)
theorem nmn {l : List Nat} {i j : Nat} (hi : ¬ i ∈ l) (hj : j ∈ l) : i ≠ j := fun e => hi (e ▸ hj)
theorem upn_s {own : Nat → Nat} {i q : Nat} : upn own i q i = q := if_pos rfl
theorem upn_n {own : Nat → Nat} {i q k : Nat} (h : k ≠ i) : upn own i q k = own k := if_neg h
theorem pX4_release {N : Nat} {I : gM} {c : Nat → List Nat} {own : Nat → Nat} {u P i : Nat} (h : QI I c own u P) (hi : i < u) (ho : own i = 101) (hP : 0 < P) : ∃ J, fX4_release N [.ref 0, .int (nI i)] I = some (.inl none, J) ∧ QI J (upl c 100 (i :: c 100)) (upn own i 100) u (P - 1) ∧ (∀ j, j ≠ 10 → j ≠ 11 → J 0 j = I 0 j) ∧ ∀ k, k ≠ 0 → k ≠ 5 → J k = I k := by
  have hu := h.1.2.1
  obtain ⟨⟨a1, a2, a3, a4⟩, ⟨b1, b2⟩, hq, hn, hown⟩ := h
  have hni : ∀ q, q ≤ 100 → ¬ i ∈ c q := fun q hq hi' => by
    have := ((hn q hq).2 i hi').2
    omega
  rw [eX4_release, eX4_release_0, ckI (by omega) (by decide), nI_clamp (by omega)]
  refine ⟨_, rfl, ⟨⟨?_, a2, ?_, ?_⟩, ⟨?_, ?_, ?_⟩, fun q hq1 => ?_, fun q hq1 => ?_, fun k hk hok => ?_⟩, fun j h1 h2 => ?_, fun k h1 h2 => ?_⟩
  · rw [gU_un (Or.inr (by decide)), gU_un (Or.inr (by decide)), gU_un (Or.inl (by decide))]; exact a1
  · rw [gU_us, a3]
    simp only [gb_sub, fa_lit]
    rw [pk_sub (by omega)]
  · rw [upl_s, List.length_cons]; omega
  · rw [gU_un (Or.inr (by decide)), gU_us, upl_s]; rfl
  · rw [gU_ok (by decide), gU_ok (by decide), gU_us, b1]
  · rw [gU_ok (by decide), gU_ok (by decide)]
    refine nxe_congr _ _ (fun j hj => ?_) b2
    rw [gU_un (Or.inr (nmm (hni 100 (Nat.le_refl _)) hj))]
  · obtain ⟨c1, c2, c3, c4⟩ := hq q hq1
    rw [upl_n (by omega), gU_ok (by decide), gU_ok (by decide), gU_ok (by decide), gU_ok (by decide), gU_ok (by decide), gU_ok (by decide), gU_ok (by decide), gU_ok (by decide), gU_ok (by decide), gU_ok (by decide), gU_ok (by decide)]
    refine ⟨c1, c2, c3, nxe_congr _ _ (fun j hj => ?_) c4⟩
    rw [gU_un (Or.inr (nmm (hni q (by omega)) hj))]
  · by_cases e : q = 100
    · subst e
      rw [upl_s]
      refine ⟨List.nodup_cons.mpr ⟨hni 100 (Nat.le_refl _), (hn 100 (Nat.le_refl _)).1⟩, fun j hj => ?_⟩
      rcases List.mem_cons.mp hj with e | e
      · rw [e]; exact ⟨hi, upn_s⟩
      · have := (hn 100 (Nat.le_refl _)).2 j e
        exact ⟨this.1, (upn_n (nmm (hni 100 (Nat.le_refl _)) e)).trans this.2⟩
    · rw [upl_n e]
      refine ⟨(hn q hq1).1, fun j hj => ?_⟩
      have := (hn q hq1).2 j hj
      exact ⟨this.1, (upn_n (nmm (hni q hq1) hj)).trans this.2⟩
  · by_cases e : k = i
    · subst e
      rw [upn_s, upl_s]; exact List.mem_cons_self
    · rw [upn_n e] at hok ⊢
      have := hown k hk hok
      by_cases e2 : own k = 100
      · rw [e2, upl_s]; rw [e2] at this; exact List.mem_cons_of_mem _ this
      · rw [upl_n e2]; exact this
  · rw [gU_un (Or.inr h2), gU_un (Or.inr h1), gU_un (Or.inl (by decide))]
  · rw [gU_ok h1, gU_ok h1, gU_ok h2]
theorem nxe_snoc {f g : Nat → Int32} {z i : Nat} (l0 : List Nat) (hz : g z = nI i) (hi : g i = mI) (h0 : ∀ j ∈ l0, g j = f j) (h : nxe f (l0 ++ [z]) mI) : nxe g (l0 ++ [z] ++ [i]) mI := by
  rw [nxe_app] at h
  rw [List.append_assoc, nxe_app]
  exact ⟨nxe_congr l0 _ h0 h.1, hz, hi, True.intro⟩
theorem last_split {l : List Nat} (h : l ≠ []) : ∃ l0 z, l = l0 ++ [z] := ⟨l.dropLast, l.getLast h, (List.dropLast_concat_getLast h).symm⟩
theorem pX4_putLast {N : Nat} {I : gM} {c : Nat → List Nat} {own : Nat → Nat} {u P i q : Nat} (h : QI I c own u P) (hi : i < u) (ho : own i = 101) (hq : q < 100) : ∃ J, fX4_putLast N [.ref 0, .int (nI q), .int (nI i)] I = some (.inl none, J) ∧ QI J (upl c q (c q ++ [i])) (upn own i q) u P ∧ (∀ k, k ≠ 1 → k ≠ 2 → k ≠ 3 → k ≠ 5 → J k = I k) := by
  have hu := h.1.2.1
  have hlen := h.len (q := q) (by omega)
  obtain ⟨⟨a1, a2, a3, a4⟩, ⟨b1, b2⟩, hqs, hn, hown⟩ := h
  have hni : ∀ q, q ≤ 100 → ¬ i ∈ c q := fun q hq hi' => by
    have := ((hn q hq).2 i hi').2
    omega
  obtain ⟨c1, c2, c3, c4⟩ := hqs q hq
  have lm : (-1 : Int32) = mI := rfl
  -- one argument for both branches
  have fin : ∀ (f1 f2 f5 : Nat → Int32) (J : gM), J 1 = f1 → J 2 = upd f2 q (nI i) → J 3 = upd (I 3) q (nI ((c q).length + 1)) → J 5 = f5 → (∀ k, k ≠ 1 → k ≠ 2 → k ≠ 3 → k ≠ 5 → J k = I k) → (∀ k, k ≠ q → f1 k = I 1 k) → (∀ k, k ≠ q → f2 k = I 2 k) → (∀ x, (c q ++ [i]).head? = some x → f1 q = nI x) → nxe f5 (c q ++ [i]) mI → (∀ j, ¬ j ∈ c q → j ≠ i → f5 j = I 5 j) → QI J (upl c q (c q ++ [i])) (upn own i q) u P := by
    intro f1 f2 f5 J j1 j2 j3 j5 jk e1 e2 e3 e4 e5
    have hoth : ∀ k, k ≤ 100 → k ≠ q → nxe (I 5) (c k) mI → nxe f5 (c k) mI := fun k hk hkq hnx => nxe_congr _ _ (fun j hj => e5 j (fun hj2 => by
      have h1 := ((hn k hk).2 j hj).2
      have h2 := ((hn q (by omega)).2 j hj2).2
      omega) (nmm (hni k hk) hj)) hnx
    refine ⟨⟨?_, a2, ?_, ?_⟩, ⟨?_, ?_⟩, fun k hk => ?_, fun k hk => ?_, fun k hk hok => ?_⟩
    · rw [jk 0 (by decide) (by decide) (by decide) (by decide)]; exact a1
    · rw [jk 0 (by decide) (by decide) (by decide) (by decide)]; exact a3
    · rw [upl_n (by omega)]; exact a4
    · rw [jk 0 (by decide) (by decide) (by decide) (by decide), upl_n (by omega)]; exact b1
    · rw [j5, upl_n (by omega)]; exact hoth 100 (Nat.le_refl _) (by omega) b2
    · rw [j1, j2, j3, j5]
      by_cases e : k = q
      · subst e
        rw [upl_s, pk_us, pk_us, List.length_append]
        refine ⟨rfl, e3, fun x hx => ?_, e4⟩
        rw [List.getLast?_append] at hx
        cases hx; rfl
      · rw [upl_n e, pk_un e, pk_un e]
        obtain ⟨d1, d2, d3, d4⟩ := hqs k hk
        exact ⟨d1, fun x hx => (e1 k e).trans (d2 x hx), fun x hx => (e2 k e).trans (d3 x hx), hoth k (by omega) e d4⟩
    · by_cases e : k = q
      · subst e
        rw [upl_s]
        refine ⟨List.nodup_append.mpr ⟨(hn k hk).1, List.nodup_cons.mpr ⟨List.not_mem_nil, List.nodup_nil⟩, fun a ha b hb e => ?_⟩, fun j hj => ?_⟩
        · rw [List.mem_singleton] at hb
          exact hni k hk (hb ▸ e ▸ ha)
        · rcases List.mem_append.mp hj with e | e
          · have := (hn k hk).2 j e
            exact ⟨this.1, (upn_n (nmm (hni k hk) e)).trans this.2⟩
          · rw [List.mem_singleton] at e
            rw [e]; exact ⟨hi, upn_s⟩
      · rw [upl_n e]
        refine ⟨(hn k hk).1, fun j hj => ?_⟩
        have := (hn k hk).2 j hj
        exact ⟨this.1, (upn_n (nmm (hni k hk) hj)).trans this.2⟩
    · by_cases e : k = i
      · subst e
        rw [upn_s, upl_s]; exact List.mem_append_right _ (List.mem_singleton.mpr rfl)
      · rw [upn_n e] at hok ⊢
        have := hown k hk hok
        by_cases e2 : own k = q
        · rw [e2, upl_s]; rw [e2] at this; exact List.mem_append_left _ this
        · rw [upl_n e2]; exact this
  have end38 : ∀ (K : gM), K 3 = I 3 → (∀ k, k ≠ 1 → k ≠ 2 → k ≠ 3 → k ≠ 5 → K k = I k) → ∃ J, hX4_putLast_38 N (nI q) (nI i) K = some (.inl none, J) ∧ J 1 = K 1 ∧ J 2 = upd (K 2) q (nI i) ∧ J 3 = upd (I 3) q (nI ((c q).length + 1)) ∧ J 5 = K 5 ∧ (∀ k, k ≠ 1 → k ≠ 2 → k ≠ 3 → k ≠ 5 → J k = I k) := by
    intro K k3 kk
    rw [eX4_putLast_38, ckI hq (by decide), ckI hq (by decide), ckI hq (by decide), nI_clamp (by omega)]
    refine ⟨_, rfl, ?_, ?_, ?_, ?_, fun k h1 h2 h3 h5 => ?_⟩
    · rw [gU_ok (by decide), gU_ok (by decide)]
    · rw [gU_ok (by decide), gU_u3]
    · rw [gU_u3, gU_ok (by decide), k3, c1]
      simp only [gb_add, fa_lit, nI_add]
    · rw [gU_ok (by decide), gU_ok (by decide)]
    · rw [gU_ok h3, gU_ok h2]; exact kk k h1 h2 h3 h5
  rw [eX4_putLast, eX4_putLast_0, ckI (by omega) (by decide), ckI hq (by decide), nI_clamp (n := q) (by omega), nI_clamp (n := i) (by omega), lm, c1]
  by_cases hnil : c q = []
  · rw [if_neg (by rw [zne (by omega), hnil]; exact fun z => z rfl), ckI hq (by decide)]
    obtain ⟨J, j0, j1, j2, j3, j5, jk⟩ := end38 (gU (gU I 5 i mI) 1 q (nI i)) (by rw [gU_ok (by decide), gU_ok (by decide)]) (fun k h1 h2 h3 h5 => by rw [gU_ok h1, gU_ok h5])
    rw [gU_u3, gU_ok (by decide)] at j1
    rw [gU_ok (by decide), gU_ok (by decide)] at j2
    rw [gU_ok (by decide), gU_u3] at j5
    refine ⟨J, j0, fin _ _ _ J j1 j2 j3 j5 jk (fun k hk => pk_un hk) (fun _ _ => rfl) (fun x hx => ?_) ?_ (fun j _ hj => pk_un hj), jk⟩
    · rw [hnil] at hx
      cases hx; exact pk_us
    · rw [hnil]
      exact ⟨pk_us, True.intro⟩
  · obtain ⟨l0, z, hz⟩ := last_split hnil
    have hlz : I 2 q = nI z := c3 z (by rw [hz, List.getLast?_append]; rfl)
    have hzm : z ∈ c q := by rw [hz]; exact List.mem_append_right _ (List.mem_singleton.mpr rfl)
    have hzu := ((hn q (by omega)).2 z hzm).1
    rw [if_pos (by rw [zne (by omega)]; exact fun e => hnil (List.length_eq_zero_iff.mp e)), ckI hq (by decide), hlz, ckI (by omega) (by decide), nI_clamp (by omega)]
    obtain ⟨J, j0, j1, j2, j3, j5, jk⟩ := end38 (gU (gU I 5 i mI) 5 z (nI i)) (by rw [gU_ok (by decide), gU_ok (by decide)]) (fun k h1 h2 h3 h5 => by rw [gU_ok h5, gU_ok h5])
    rw [gU_ok (by decide), gU_ok (by decide)] at j1 j2
    rw [gU_u3, gU_u3] at j5
    have hiz : i ≠ z := nmn (hni q (by omega)) hzm
    have hnd := (hn q (by omega)).1
    rw [hz] at hnd
    have hz0 : ¬ z ∈ l0 := fun hz1 => ((List.nodup_append.mp hnd).2.2 z hz1 z (List.mem_singleton.mpr rfl)) rfl
    refine ⟨J, j0, fin _ _ _ J j1 j2 j3 j5 jk (fun _ _ => rfl) (fun _ _ => rfl) (fun x hx => ?_) ?_ (fun j hj hj2 => ?_), jk⟩
    · refine c2 x ?_
      rw [List.head?_append] at hx
      cases hh : (c q).head? with
      | none => rw [List.head?_eq_none_iff] at hh; exact absurd hh hnil
      | some y => rw [hh] at hx; exact hx
    · rw [hz] at c4 ⊢
      refine nxe_snoc (f := I 5) l0 pk_us (by rw [pk_un hiz, pk_us]) (fun j hj => ?_) c4
      rw [pk_un (nmm (hz0) hj), pk_un (nmm (hni q (by omega)) (by rw [hz]; exact List.mem_append_left _ hj))]
    · rw [pk_un (nmn hj hzm), pk_un hj2]
/-- the packet i behind 'before' (b? its number or none) goes out of its queue -/
theorem pX4_takeBehind {N : Nat} {I : gM} {c : Nat → List Nat} {own : Nat → Nat} {u P i q : Nat} {l0 t : List Nat} (h : QI I c own u P) (hq : q < 100) (hc : c q = l0 ++ i :: t) : ∃ J, fX4_takeBehind N [.ref 0, .int (nI q), .int (match l0.getLast? with | none => mI | some b => nI b)] I = some (.inl (some (.int (nI i))), J) ∧ QI J (upl c q (l0 ++ t)) (upn own i 101) u P ∧ (∀ k, k ≠ 1 → k ≠ 2 → k ≠ 3 → k ≠ 5 → J k = I k) ∧ ∀ j, (∀ b, l0.getLast? = some b → j ≠ b) → J 5 j = I 5 j := by
  have hu := h.1.2.1
  have hlen := h.len (q := q) (by omega)
  obtain ⟨⟨a1, a2, a3, a4⟩, ⟨b1, b2⟩, hqs, hn, hown⟩ := h
  have him : i ∈ c q := by rw [hc]; exact List.mem_append_right _ List.mem_cons_self
  obtain ⟨hiu, hio⟩ := (hn q (by omega)).2 i him
  obtain ⟨c1, c2, c3, c4⟩ := hqs q hq
  have hnd := (hn q (by omega)).1
  rw [hc] at hnd c4
  have hnd2 := List.nodup_append.mp hnd
  have hit : ¬ i ∈ t := (List.nodup_cons.mp hnd2.2.1).1
  have hi0 : ¬ i ∈ l0 := fun hm => hnd2.2.2 i hm i List.mem_cons_self rfl
  have h0t : ∀ j, j ∈ l0 → ¬ j ∈ t := fun j h1 h2 => hnd2.2.2 j h1 j (List.mem_cons_of_mem _ h2) rfl
  rw [nxe_app] at c4
  obtain ⟨n1, n2, n3⟩ := c4
  have lm : (-1 : Int32) = mI := rfl
  have hl : (c q).length = (l0 ++ t).length + 1 := by rw [hc, List.length_append, List.length_append, List.length_cons]; omega
  have hm5 : gc_ne (hde t mI) mI = true ↔ t ≠ [] := by
    cases ht : t with
    | nil => exact ⟨fun h => absurd h (by decide), fun h => absurd rfl h⟩
    | cons y s =>
      have hy : y < u := ((hn q (by omega)).2 y (by rw [hc, ht]; exact List.mem_append_right _ (List.mem_cons_of_mem _ List.mem_cons_self))).1
      exact ⟨fun _ h => (by cases h), fun _ => of_eq_true (cnem (a := y) (by omega))⟩
  -- the end, in both cases
  have fin : ∀ (J : gM) (bb : Int32), (∀ b, l0.getLast? = some b → bb = nI b) → (J 2 = if t = [] then upd (I 2) q bb else I 2) → J 3 = upd (I 3) q (nI (l0 ++ t).length) → (∀ k, k ≠ 1 → k ≠ 2 → k ≠ 3 → k ≠ 5 → J k = I k) → (∀ k, k ≠ q → J 1 k = I 1 k) → (∀ x, (l0 ++ t).head? = some x → J 1 q = nI x) → nxe (J 5) (l0 ++ t) mI → (∀ j, ¬ j ∈ c q → J 5 j = I 5 j) → QI J (upl c q (l0 ++ t)) (upn own i 101) u P := by
    intro J bb hbb j2 j3 jk e1 e3 e4 e5
    have hoth : ∀ k, k ≤ 100 → k ≠ q → nxe (I 5) (c k) mI → nxe (J 5) (c k) mI := fun k hk hkq hnx => nxe_congr _ _ (fun j hj => e5 j (fun hj2 => by
      have h1 := ((hn k hk).2 j hj).2
      have h2 := ((hn q (by omega)).2 j hj2).2
      omega)) hnx
    have hsub : ∀ j, j ∈ l0 ++ t → j ∈ c q ∧ j ≠ i := fun j hj => by
      rw [hc]
      rcases List.mem_append.mp hj with e | e
      · exact ⟨List.mem_append_left _ e, fun e2 => hi0 (e2 ▸ e)⟩
      · exact ⟨List.mem_append_right _ (List.mem_cons_of_mem _ e), fun e2 => hit (e2 ▸ e)⟩
    refine ⟨⟨?_, a2, ?_, ?_⟩, ⟨?_, ?_⟩, fun k hk => ?_, fun k hk => ?_, fun k hk hok => ?_⟩
    · rw [jk 0 (by decide) (by decide) (by decide) (by decide)]; exact a1
    · rw [jk 0 (by decide) (by decide) (by decide) (by decide)]; exact a3
    · rw [upl_n (by omega)]; exact a4
    · rw [jk 0 (by decide) (by decide) (by decide) (by decide), upl_n (by omega)]; exact b1
    · rw [upl_n (by omega)]; exact hoth 100 (Nat.le_refl _) (by omega) b2
    · rw [j2, j3]
      by_cases e : k = q
      · subst e
        rw [upl_s, pk_us]
        refine ⟨rfl, e3, fun x hx => ?_, e4⟩
        by_cases ht : t = []
        · rw [if_pos ht, pk_us]
          rw [ht, List.append_nil] at hx
          exact hbb x hx
        · rw [if_neg ht]
          refine c3 x ?_
          rw [hc]
          cases t with
          | nil => exact absurd rfl ht
          | cons y s =>
            rw [List.getLast?_append] at hx ⊢
            rw [List.getLast?_cons_cons]
            exact hx
      · rw [upl_n e, pk_un e]
        obtain ⟨d1, d2, d3, d4⟩ := hqs k hk
        refine ⟨d1, fun x hx => (e1 k e).trans (d2 x hx), fun x hx => ?_, hoth k (by omega) e d4⟩
        by_cases ht : t = []
        · rw [if_pos ht, pk_un e]; exact d3 x hx
        · rw [if_neg ht]; exact d3 x hx
    · by_cases e : k = q
      · subst e
        rw [upl_s]
        refine ⟨List.nodup_append.mpr ⟨hnd2.1, (List.nodup_cons.mp hnd2.2.1).2, fun a ha b hb => hnd2.2.2 a ha b (List.mem_cons_of_mem _ hb)⟩, fun j hj => ?_⟩
        obtain ⟨z1, z2⟩ := hsub j hj
        have := (hn k hk).2 j z1
        exact ⟨this.1, (upn_n z2).trans this.2⟩
      · rw [upl_n e]
        refine ⟨(hn k hk).1, fun j hj => ?_⟩
        have := (hn k hk).2 j hj
        exact ⟨this.1, (upn_n (fun e2 => e (this.2.symm.trans (by rw [e2]; exact hio)))).trans this.2⟩
    · by_cases e : k = i
      · subst e
        rw [upn_s] at hok
        omega
      · rw [upn_n e] at hok ⊢
        have := hown k hk hok
        by_cases e2 : own k = q
        · rw [e2, upl_s]
          rw [e2, hc] at this
          rcases List.mem_append.mp this with e3 | e3
          · exact List.mem_append_left _ e3
          · rcases List.mem_cons.mp e3 with e4 | e4
            · exact absurd e4 e
            · exact List.mem_append_right _ e4
        · rw [upl_n e2]; exact this
  have tail : ∀ (K : gM) (bb : Int32), K 5 i = hde t mI → K 3 = I 3 → ∃ J, hX4_takeBehind_71 N (nI q) bb (nI i) K = some (.inl (some (.int (nI i))), J) ∧ (J 2 = if t = [] then upd (K 2) q bb else K 2) ∧ J 3 = upd (I 3) q (nI (l0 ++ t).length) ∧ ∀ k, k ≠ 2 → k ≠ 3 → J k = K k := by
    intro K bb k5 k3
    have e88 : ∀ K' : gM, K' 3 = I 3 → hX4_takeBehind_88 N (nI q) (nI i) K' = some (.inl (some (.int (nI i))), gU K' 3 q (nI (l0 ++ t).length)) := by
      intro K' hk'
      rw [eX4_takeBehind_88, ckI hq (by decide), ckI hq (by decide), nI_clamp (by omega), hk', c1, hl]
      simp only [gb_sub, fa_lit]
      rw [pk_sub (by omega), Nat.add_sub_cancel]
    rw [eX4_takeBehind_71, ckI (by omega) (by decide), nI_clamp (by omega), k5, lm]
    by_cases ht : t = []
    · rw [if_neg (fun z => (hm5.mp z) ht), ckI hq (by decide), nI_clamp (by omega), e88 _ (by rw [gU_ok (by decide)]; exact k3)]
      refine ⟨_, rfl, ?_, ?_, fun k h2 h3 => ?_⟩
      · rw [if_pos ht, gU_ok (by decide), gU_u3]
      · rw [gU_u3, gU_ok (by decide), k3]
      · rw [gU_ok h3, gU_ok h2]
    · rw [if_pos (hm5.mpr ht), e88 _ k3]
      refine ⟨_, rfl, ?_, ?_, fun k h2 h3 => ?_⟩
      · rw [if_neg ht, gU_ok (by decide)]
      · rw [gU_u3, k3]
      · rw [gU_ok h3]
  rw [eX4_takeBehind, eX4_takeBehind_0, ckI hq (by decide), nI_clamp (n := q) (by omega), c1, if_pos (by rw [zne (by omega), hl]; omega), lm]
  cases hlast : l0.getLast? with
  | none =>
    have h00 : l0 = [] := List.getLast?_eq_none_iff.mp hlast
    subst h00
    have hf : I 1 q = nI i := c2 i (by rw [hc]; rfl)
    show ∃ J, (if gc_ne mI mI = true then _ else _) = _ ∧ _
    rw [if_neg (by decide), ckI hq (by decide), hf, eX4_takeBehind_31, lm, if_pos (by rw [cnem (by omega)]; exact True.intro), if_neg (by decide), ckI (by omega) (by decide), ckI hq (by decide), nI_clamp (n := i) (by omega), nI_clamp (n := q) (by omega), n2]
    obtain ⟨J, j0, j2, j3, jk⟩ := tail (gU I 1 q (hde t mI)) mI (by rw [gU_ok (by decide)]; exact n2) (by rw [gU_ok (by decide)])
    rw [gU_ok (by decide)] at j2
    refine ⟨J, j0, fin J mI (fun b hb => by cases hb) j2 j3 (fun k h1 h2 h3 h5 => by rw [jk k h2 h3, gU_ok h1]) (fun k hk => by rw [jk 1 (by decide) (by decide), gU_un (Or.inr hk)]) (fun x hx => ?_) ?_ (fun j _ => by rw [jk 5 (by decide) (by decide), gU_ok (by decide)]), fun k h1 h2 h3 h5 => by rw [jk k h2 h3, gU_ok h1], fun j _ => by rw [jk 5 (by decide) (by decide), gU_ok (by decide)]⟩
    · rw [jk 1 (by decide) (by decide), gU_us]
      rw [List.nil_append] at hx
      cases t with
      | nil => cases hx
      | cons y s => cases hx; rfl
    · rw [jk 5 (by decide) (by decide), gU_ok (by decide)]
      exact n3
  | some b =>
    obtain ⟨l1, hl1⟩ : ∃ l1, l0 = l1 ++ [b] := by
      have hne : l0 ≠ [] := fun e => by rw [e] at hlast; cases hlast
      obtain ⟨l1, z, hz⟩ := last_split hne
      rw [hz, List.getLast?_append] at hlast
      cases hlast
      exact ⟨l1, hz⟩
    have hbm : b ∈ l0 := by rw [hl1]; exact List.mem_append_right _ (List.mem_singleton.mpr rfl)
    have hbu : b < u := ((hn q (by omega)).2 b (by rw [hc]; exact List.mem_append_left _ hbm)).1
    have hbi : i ≠ b := nmn hi0 hbm
    have n1' := n1
    rw [hl1, nxe_app] at n1'
    obtain ⟨m1, m2, -⟩ := n1'
    have hb5 : I 5 b = nI i := m2
    show ∃ J, (if gc_ne (nI b) mI = true then _ else _) = _ ∧ _
    rw [if_pos (by rw [cnem (by omega)]; exact True.intro), ckI (by omega) (by decide), nI_clamp (n := b) (by omega), hb5, eX4_takeBehind_31, lm, if_pos (by rw [cnem (by omega)]; exact True.intro), if_pos (by rw [cnem (by omega)]; exact True.intro), ckI (by omega) (by decide), ckI (by omega) (by decide), nI_clamp (n := i) (by omega), nI_clamp (n := b) (by omega), n2]
    obtain ⟨J, j0, j2, j3, jk⟩ := tail (gU I 5 b (hde t mI)) (nI b) (by rw [gU_un (Or.inr hbi)]; exact n2) (by rw [gU_ok (by decide)])
    rw [gU_ok (by decide)] at j2
    refine ⟨J, j0, fin J (nI b) (fun b' hb' => by rw [hlast] at hb'; cases hb'; rfl) j2 j3 (fun k h1 h2 h3 h5 => by rw [jk k h2 h3, gU_ok h5]) (fun k hk => by rw [jk 1 (by decide) (by decide), gU_ok (by decide)]) (fun x hx => ?_) ?_ (fun j hj => ?_), fun k h1 h2 h3 h5 => by rw [jk k h2 h3, gU_ok h5], fun j hj => ?_⟩
    · rw [jk 1 (by decide) (by decide), gU_ok (by decide)]
      refine c2 x ?_
      rw [hc]
      rw [List.head?_append] at hx ⊢
      cases hh : l0.head? with
      | none => rw [List.head?_eq_none_iff] at hh; rw [hh] at hbm; cases hbm
      | some y => rw [hh] at hx; exact hx
    · rw [jk 5 (by decide) (by decide), gU_u3]
      rw [hl1, List.append_assoc, nxe_app]
      have hnd1 := hnd2.1
      rw [hl1] at hnd1
      have hb1 : ¬ b ∈ l1 := fun hm => ((List.nodup_append.mp hnd1).2.2 b hm b (List.mem_singleton.mpr rfl)) rfl
      refine ⟨nxe_congr _ _ (fun j hj => pk_un (nmm (hb1) hj)) m1, pk_us, nxe_congr _ _ (fun j hj => pk_un (nmm (h0t b hbm) hj)) n3⟩
    · rw [jk 5 (by decide) (by decide), gU_un (Or.inr (fun e => hj (by rw [hc, e]; exact List.mem_append_left _ hbm)))]
    · rw [jk 5 (by decide) (by decide), gU_un (Or.inr (hj b rfl))]
