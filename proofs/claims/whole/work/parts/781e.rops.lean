/-! ===== the reference: packets come and go ===== -/
theorem pX9_come {N : Nat} {σ : St} {M : gM} {p : Pk} (hr : RowIs (M 3) σ) (hl : σ.2.length < 500) : ∃ J, fX9_come N [.ref 0, .int (nI p.1), .int (nI p.2.1), .int (nI p.2.2.1), .int (nI p.2.2.2.1), .int (nI (pkn p))] M = some (.inl none, J) ∧ RowIs (J 3) (σ.1, σ.2 ++ [p]) ∧ ∀ k, k ≠ 3 → J k = M k := by
  rw [eX9_come, eX9_come_0]
  have h2 := hr.2.1
  generalize hL : σ.2.length = L at h2 hl
  have e245 : (245 : Int32).toNatClampNeg = 245 := by decide
  have e1 : ∀ w : Nat, w < 5 → (gb_add (gb_add 246 (gb_mul 5 (nI L))) (nI w) : Int32) = nI (246 + 5 * L + w) := by
    intro w _
    simp only [gb_add, gb_mul, fa_lit, pk_mul, nI_add]
  have c1 : ∀ w : Nat, w < 5 → ∀ X : gO, ck 2746 (nI (246 + 5 * L + w)) X = X := fun w hw X => ckI (by omega) (by decide)
  have n1 : ∀ w : Nat, w < 5 → (nI (246 + 5 * L + w)).toNatClampNeg = 246 + 5 * L + w := fun w hw => nI_clamp (by omega)
  have l0 : (0 : Int32) = nI 0 := rfl
  have l1 : (1 : Int32) = nI 1 := rfl
  have l2 : (2 : Int32) = nI 2 := rfl
  have l3 : (3 : Int32) = nI 3 := rfl
  have l4 : (4 : Int32) = nI 4 := rfl
  rw [e245, h2, l0, l1, l2, l3, l4, e1 0 (by decide), e1 1 (by decide), e1 2 (by decide), e1 3 (by decide), e1 4 (by decide), c1 0 (by decide), c1 1 (by decide), c1 2 (by decide), c1 3 (by decide), c1 4 (by decide), n1 0 (by decide), n1 1 (by decide), n1 2 (by decide), n1 3 (by decide), n1 4 (by decide)]
  have cc : ∀ X : gO, ck 2746 245 X = X := fun X => by
    have : (245 : Int32) = nI 245 := rfl
    rw [this, ckI (by decide) (by decide)]
  rw [cc, cc, cc]
  refine ⟨_, rfl, RowIs.come hr (by omega) ?_ ?_ ?_ ?_, ?_⟩
  · intro k hk
    rw [gU_un (Or.inr (by omega)), gU_un (Or.inr (by omega)), gU_un (Or.inr (by omega)), gU_un (Or.inr (by omega)), gU_un (Or.inr (by omega)), gU_un (Or.inr (by omega))]
  · rw [gU_us, gU_un (Or.inr (by omega)), gU_un (Or.inr (by omega)), gU_un (Or.inr (by omega)), gU_un (Or.inr (by omega)), gU_un (Or.inr (by omega)), h2, hL]
    simp only [gb_add, nI_add]
  · intro k h1 h3
    rw [gU_un (Or.inr (by omega)), gU_un (Or.inr (by omega)), gU_un (Or.inr (by omega)), gU_un (Or.inr (by omega)), gU_un (Or.inr (by omega)), gU_un (Or.inr (by omega))]
  · rw [hL]
    intro w hw
    match w, hw with
    | 0, _ => rw [gU_un (Or.inr (by omega)), gU_un (Or.inr (by omega)), gU_un (Or.inr (by omega)), gU_un (Or.inr (by omega)), gU_un (Or.inr (by omega)), gU_us]; rfl
    | 1, _ => rw [gU_un (Or.inr (by omega)), gU_un (Or.inr (by omega)), gU_un (Or.inr (by omega)), gU_un (Or.inr (by omega)), gU_us]; rfl
    | 2, _ => rw [gU_un (Or.inr (by omega)), gU_un (Or.inr (by omega)), gU_un (Or.inr (by omega)), gU_us]; rfl
    | 3, _ => rw [gU_un (Or.inr (by omega)), gU_un (Or.inr (by omega)), gU_us]; rfl
    | 4, _ => rw [gU_un (Or.inr (by omega)), gU_us]; rfl
    | w + 5, h => omega
  · intro k hk
    rw [gU_ok hk, gU_ok hk, gU_ok hk, gU_ok hk, gU_ok hk, gU_ok hk]
theorem pX9_stayAll {N : Nat} (M : gM) (hN : 1000 ≤ N) : ∃ J, fX9_stayAll N [.ref 0] M = some (.inl none, J) ∧ (∀ i, i < 500 → J 7 i = 0) ∧ ∀ k, k ≠ 7 → J k = M k := by
  rw [eX9_stayAll, eX9_stayAll_0]
  have key : ∀ m i : Nat, i ≤ 500 → 500 - i < m → ∀ I : gM, (∀ j, j < i → I 7 j = 0) → (∀ k, k ≠ 7 → I k = M k) → ∃ J, hX9_stayAll_2 N m (nI i) I = some (.inl none, J) ∧ (∀ i, i < 500 → J 7 i = 0) ∧ ∀ k, k ≠ 7 → J k = M k := by
    intro m
    induction m with
    | zero => intro i _ h; omega
    | succ m ih =>
      intro i hi hm I h0 hk
      rw [eX9_stayAll_2]
      have l5 : (500 : Int32) = nI 500 := rfl
      have l1 : (1 : Int32) = nI 1 := rfl
      rw [l5, l1]
      by_cases hin : i = 500
      · subst hin
        rw [if_pos ((cge (by omega) (by omega)).mpr (Nat.le_refl _))]
        exact ⟨I, rfl, h0, hk⟩
      · rw [if_neg (fun z => hin (by have := (cge (by omega) (by omega)).mp z; omega)), ckI (by omega) (by decide), nI_clamp (by omega), nI_add]
        refine ih (i + 1) (by omega) (by omega) _ (fun j hj => ?_) (fun k hk2 => ?_)
        · rw [gUg, if_pos rfl]
          by_cases e : j = i
          · rw [if_pos e]; rfl
          · rw [if_neg e]; exact h0 j (by omega)
        · rw [gU_ok hk2]; exact hk k hk2
  exact key N 0 (by omega) (by omega) M (fun j h => absurd h (Nat.not_lt_zero _)) (fun _ _ => rfl)
/-- those that stay -/
def kls (g : Nat → Bool) : Nat → List Pk → List Pk
  | _, [] => []
  | i, p :: t => if g i then kls g (i + 1) t else p :: kls g (i + 1) t
theorem kls_app (g : Nat → Bool) : ∀ (l m : List Pk) (i : Nat), kls g i (l ++ m) = kls g i l ++ kls g (i + l.length) m
  | [], m, i => rfl
  | p :: t, m, i => by
    show (if g i then kls g (i + 1) (t ++ m) else p :: kls g (i + 1) (t ++ m)) = (if g i then kls g (i + 1) t else p :: kls g (i + 1) t) ++ _
    rw [kls_app g t m (i + 1), show i + (p :: t).length = i + 1 + t.length by rw [List.length_cons]; omega]
    cases g i <;> rfl
theorem kls_len (g : Nat → Bool) : ∀ (l : List Pk) (i : Nat), (kls g i l).length ≤ l.length
  | [], i => Nat.le_refl _
  | p :: t, i => by
    show (if g i then kls g (i + 1) t else p :: kls g (i + 1) t).length ≤ _
    have := kls_len g t (i + 1)
    cases g i
    · show (kls g (i + 1) t).length + 1 ≤ t.length + 1; omega
    · show (kls g (i + 1) t).length ≤ t.length + 1; omega
theorem kls_mem (g : Nat → Bool) : ∀ (l : List Pk) (i : Nat) (p : Pk), p ∈ kls g i l → p ∈ l
  | [], i, p, h => h
  | q :: t, i, p, h => by
    have h' : p ∈ (if g i then kls g (i + 1) t else q :: kls g (i + 1) t) := h
    cases hg : g i
    · rw [hg] at h'
      rcases List.mem_cons.mp h' with e | e
      · exact e ▸ List.mem_cons_self
      · exact List.mem_cons_of_mem _ (kls_mem g t (i + 1) p e)
    · rw [hg] at h'
      exact List.mem_cons_of_mem _ (kls_mem g t (i + 1) p h')
/-- where the mark is a property of the packet -/
theorem kls_filter {g : Nat → Bool} {q : Pk → Bool} : ∀ (l : List Pk) (i : Nat), (∀ (j : Nat) (p : Pk), l[j]? = some p → g (i + j) = q p) → kls g i l = l.filter (fun p => !q p)
  | [], _, _ => rfl
  | p :: t, i, h => by
    have h0 := h 0 p rfl
    have ht := kls_filter (g := g) (q := q) t (i + 1) (fun j r hr => by
      have := h (j + 1) r hr
      rwa [show i + 1 + j = i + (j + 1) by omega])
    show (if g i then kls g (i + 1) t else p :: kls g (i + 1) t) = _
    rw [Nat.add_zero] at h0
    rw [h0, ht, List.filter_cons]
    cases q p <;> rfl
theorem closeUp_in (N n4 : Nat) {left i : Nat} (hli : left ≤ i) (hi : i < 500) : ∀ (m w : Nat) (I : gM), I 7 i = 0 → w ≤ 5 → 5 - w < m → ∃ J, hX9_closeUp_18 N n4 m (nI left) (nI i) (nI w) I = hX9_closeUp_58 N n4 (nI left) (nI i) J ∧ (∀ k, k ≠ 3 → J k = I k) ∧ (∀ x, (x < 246 + 5 * left + w ∨ 246 + 5 * left + 5 ≤ x) → J 3 x = I 3 x) ∧ ∀ u, w ≤ u → u < 5 → J 3 (246 + 5 * left + u) = I 3 (246 + 5 * i + u) := by
  intro m
  induction m with
  | zero => intro w I _ _ h; omega
  | succ m ih =>
    intro w I hg hw hm
    have l5 : (5 : Int32) = nI 5 := rfl
    have l1 : (1 : Int32) = nI 1 := rfl
    have l246 : (246 : Int32) = nI 246 := rfl
    rw [eX9_closeUp_18, l5, l1, l246]
    by_cases hw5 : w = 5
    · subst hw5
      rw [if_pos ((cge (by omega) (by omega)).mpr (Nat.le_refl _))]
      exact ⟨I, rfl, fun _ _ => rfl, fun _ _ => rfl, fun u h1 h2 => by omega⟩
    · rw [if_neg (fun z => hw5 (by have := (cge (by omega) (by omega)).mp z; omega)), ckI (by omega) (by decide), nI_clamp (by omega), hg]
      rw [if_neg (by decide), pX9_packetPart N _ (by omega), hI_mk, gMm18, gSm18 (by decide)]
      simp only [gb_add, gb_mul, pk_mul, nI_add]
      rw [ckI (by omega) (by decide), nI_clamp (by omega)]
      obtain ⟨J, h1, h2, h3, h4⟩ := ih (w + 1) (gU I 3 (246 + 5 * left + w) (I 3 (246 + 5 * i + w))) (by rw [gU_ok (by decide)]; exact hg) (by omega) (by omega)
      refine ⟨J, h1, fun k hk => (h2 k hk).trans (gU_ok hk), fun x hx => ?_, fun u hu hu5 => ?_⟩
      · rw [h3 x (by omega), gU_un (Or.inr (by omega))]
      · by_cases e : u = w
        · subst e
          rw [h3 _ (by omega), gU_us]
        · rw [h4 u (by omega) hu5, gU_un (Or.inr (by omega))]
theorem pX9_closeUp {N : Nat} {σ : St} {M : gM} {g : Nat → Bool} (hr : RowIs (M 3) σ) (hl : σ.2.length ≤ 500) (hg : ∀ i, i < σ.2.length → M 7 i = b2 (g i)) (hN : 1000 ≤ N) : ∃ J, fX9_closeUp N [.ref 0] M = some (.inl (some (.int (nI (σ.2.length - (kls g 0 σ.2).length)))), J) ∧ RowIs (J 3) (σ.1, kls g 0 σ.2) ∧ ∀ k, k ≠ 3 → J k = M k := by
  rw [eX9_closeUp, eX9_closeUp_0]
  have l245 : (245 : Int32) = nI 245 := rfl
  have key : ∀ m i : Nat, i ≤ σ.2.length → σ.2.length - i < m → ∀ I : gM, (∀ k, k ≠ 3 → I k = M k) → (∀ k, k < 246 → I 3 k = M 3 k) → (∀ x, 246 + 5 * i ≤ x → I 3 x = M 3 x) → (∀ (j : Nat) (p : Pk), (kls g 0 (σ.2.take i))[j]? = some p → ∀ w, w < 5 → I 3 (246 + 5 * j + w) = nI (pkp p w)) →
      ∃ J, hX9_closeUp_4 N m (nI (kls g 0 (σ.2.take i)).length) (nI i) I = some (.inl (some (.int (nI (σ.2.length - (kls g 0 σ.2).length)))), J) ∧ RowIs (J 3) (σ.1, kls g 0 σ.2) ∧ ∀ k, k ≠ 3 → J k = M k := by
    intro m
    induction m with
    | zero => intro i _ h; omega
    | succ m ih =>
      intro i hi hm I hk h0 h1 h2
      have hlen := kls_len g (σ.2.take i) 0
      rw [List.length_take] at hlen
      rw [eX9_closeUp_4, l245, ckI (by decide) (by decide), nI_clamp (by decide), h0 245 (by decide), hr.2.1]
      by_cases hin : i = σ.2.length
      · subst hin
        rw [if_pos ((cge (by omega) (by omega)).mpr (Nat.le_refl _)), ckI (by decide) (by decide), ckI (by decide) (by decide)]
        rw [List.take_length] at h2 hlen ⊢
        simp only [gb_sub]
        rw [pk_sub (by omega)]
        refine ⟨_, rfl, ⟨fun k hk3 => ?_, gU_us, fun j p hp w hw => ?_⟩, fun k hk3 => (gU_ok hk3).trans (hk k hk3)⟩
        · rw [gU_un (Or.inr (by omega)), h0 k (by omega)]; exact hr.1 k hk3
        · rw [gU_un (Or.inr (by omega))]; exact h2 j p hp w hw
      · obtain ⟨p, hp⟩ := get_s (show i < σ.2.length by omega)
        rw [if_neg (fun z => hin (by have := (cge (by omega) (by omega)).mp z; omega))]
        have hgi : I 7 i = b2 (g i) := by rw [hk 7 (by decide)]; exact hg i (by omega)
        have htk := take_s hp
        have hlt : (σ.2.take i).length = i := by rw [List.length_take]; omega
        have l5 : (5 : Int32) = nI 5 := rfl
        have l0 : (0 : Int32) = nI 0 := rfl
        have l1 : (1 : Int32) = nI 1 := rfl
        cases hgb : g i with
        | true =>
          obtain ⟨n, rfl⟩ : ∃ n, N = n + 1 := ⟨N - 1, by omega⟩
          have hz : I 7 i = 1 := by rw [hgi, hgb]; rfl
          rw [eX9_closeUp_18, if_neg (by decide), ckI (by omega) (by decide), nI_clamp (by omega), hz, if_pos (by decide), eX9_closeUp_58, ckI (by omega) (by decide), nI_clamp (by omega), hz, if_neg (by decide), eX9_closeUp_73]
          have hkl : kls g 0 (σ.2.take (i + 1)) = kls g 0 (σ.2.take i) := by
            rw [htk, kls_app, hlt, Nat.zero_add]
            show _ ++ (if g i then kls g (i + 1) [] else p :: kls g (i + 1) []) = _
            rw [hgb, if_pos rfl]
            exact List.append_nil _
          have := ih (i + 1) (by omega) (by omega) I hk h0 (fun x hx => h1 x (by omega)) (by rw [hkl]; exact h2)
          rw [hkl] at this
          simp only [gb_add]
          rw [l0, l1, nI_add, nI_add, Nat.add_zero]
          exact this
        | false =>
          have hz : I 7 i = 0 := by rw [hgi, hgb]; rfl
          have hpar : ∀ w, w < 5 → I 3 (246 + 5 * i + w) = nI (pkp p w) := fun w hw => by rw [h1 _ (by omega)]; exact hr.2.2 i p hp w hw
          obtain ⟨J, j1, j2, j3, j4⟩ := closeUp_in N m (left := (kls g 0 (σ.2.take i)).length) (i := i) (by omega) (by omega) N 0 I hz (by omega) (by omega)
          rw [l0, j1, eX9_closeUp_58, ckI (by omega) (by decide), nI_clamp (by omega), j2 7 (by decide), hz, if_pos (by decide), eX9_closeUp_73]
          have hkl : kls g 0 (σ.2.take (i + 1)) = kls g 0 (σ.2.take i) ++ [p] := by
            rw [htk, kls_app, hlt, Nat.zero_add]
            show _ ++ (if g i then kls g (i + 1) [] else p :: kls g (i + 1) []) = _
            rw [hgb]; rfl
          have := ih (i + 1) (by omega) (by omega) J (fun k hk3 => (j2 k hk3).trans (hk k hk3)) (fun k hk3 => (j3 k (by omega)).trans (h0 k hk3)) (fun x hx => (j3 x (by omega)).trans (h1 x (by omega))) (by
            rw [hkl]
            intro j q hq w hw
            by_cases e : j < (kls g 0 (σ.2.take i)).length
            · rw [List.getElem?_append_left e] at hq
              rw [j3 _ (by omega)]
              exact h2 j q hq w hw
            · have hj := (List.getElem?_eq_some_iff.mp hq).1
              rw [List.length_append] at hj
              have hj2 : j = (kls g 0 (σ.2.take i)).length := by have : ([p] : List Pk).length = 1 := rfl; omega
              subst hj2
              rw [List.getElem?_append_right (Nat.le_refl _), Nat.sub_self] at hq
              cases hq
              rw [j4 w (by omega) hw]
              exact hpar w hw)
          rw [hkl, List.length_append] at this
          simp only [gb_add]
          rw [l1, nI_add, nI_add]
          exact this
  have := key N 0 (Nat.zero_le _) (by omega) M (fun _ _ => rfl) (fun _ _ => rfl) (fun _ _ => rfl) (fun j p hp => by cases hp)
  exact this
