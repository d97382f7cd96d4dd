/-! ===== the reference: a link takes packets ===== -/
theorem kls_congr {g h : Nat → Bool} : ∀ (l : List Pk) (i : Nat), (∀ j, i ≤ j → j < i + l.length → h j = g j) → kls h i l = kls g i l
  | [], _, _ => rfl
  | p :: t, i, e => by
    show (if h i then kls h (i + 1) t else p :: kls h (i + 1) t) = (if g i then kls g (i + 1) t else p :: kls g (i + 1) t)
    rw [e i (Nat.le_refl _) (by rw [List.length_cons]; omega), kls_congr t (i + 1) (fun j h1 h2 => e j (by omega) (by rw [List.length_cons]; omega))]
theorem kls_none {g : Nat → Bool} {f : Pk → Bool} : ∀ (l : List Pk) (i : Nat), (∀ (j : Nat) (p : Pk), l[j]? = some p → f p = true → g (i + j) = true) → (kls g i l).filter f = []
  | [], _, _ => rfl
  | p :: t, i, h => by
    show (if g i then kls g (i + 1) t else p :: kls g (i + 1) t).filter f = []
    have ih := kls_none (g := g) (f := f) t (i + 1) (fun j q hq hf => by
      have := h (j + 1) q hq hf
      rwa [show i + (j + 1) = i + 1 + j by omega] at this)
    cases hg : g i with
    | true => exact ih
    | false =>
      show (p :: kls g (i + 1) t).filter f = []
      rw [List.filter_cons_of_neg, ih]
      intro hf
      have := h 0 p rfl hf
      rw [Nat.add_zero, hg] at this; cases this
theorem split_at {l : List Pk} {i : Nat} {p : Pk} (h : l[i]? = some p) : l = l.take i ++ p :: l.drop (i + 1) := by
  have hi := (List.getElem?_eq_some_iff.mp h)
  obtain ⟨h1, h2⟩ := hi
  rw [← h2]
  conv => lhs; rw [← List.take_append_drop i l]
  rw [List.drop_eq_getElem_cons h1]
theorem kls_at {g : Nat → Bool} {l : List Pk} {i : Nat} {p : Pk} (h : l[i]? = some p) : kls g 0 l = kls g 0 (l.take i) ++ ((if g i then [] else [p]) ++ kls g (i + 1) (l.drop (i + 1))) := by
  have hi := (List.getElem?_eq_some_iff.mp h).1
  conv => lhs; rw [split_at h]
  rw [kls_app, List.length_take, Nat.min_eq_left (by omega), Nat.zero_add]
  congr 1
  show (if g i then kls g (i + 1) (l.drop (i + 1)) else p :: kls g (i + 1) (l.drop (i + 1))) = _
  cases g i <;> rfl
def mrk (g : Nat → Bool) (i : Nat) : Nat → Bool := fun j => if j = i then true else g j
theorem mrk_s {g : Nat → Bool} {i : Nat} : mrk g i i = true := if_pos rfl
theorem mrk_n {g : Nat → Bool} {i j : Nat} (h : j ≠ i) : mrk g i j = g j := if_neg h
/-- what a taking link keeps: f its packets, G0 the marks before, T what it took -/
def tIn (f : Pk → Bool) (ps : List Pk) (G0 g : Nat → Bool) (i : Nat) (T : List Pk) : Prop := (∀ f' : Pk → Bool, (∀ p, f' p = true → f p = true → False) → (kls g 0 ps).filter f' = (kls G0 0 ps).filter f') ∧ T ++ (kls g 0 ps).filter f = (kls G0 0 ps).filter f ∧ ∀ (j : Nat) (p : Pk), j < i → ps[j]? = some p → f p = true → g j = true
theorem tIn_skip {f : Pk → Bool} {ps : List Pk} {G0 g : Nat → Bool} {i : Nat} {T : List Pk} {p : Pk} (h : tIn f ps G0 g i T) (hp : ps[i]? = some p) (hs : f p = true → g i = true) : tIn f ps G0 g (i + 1) T := by
  refine ⟨h.1, h.2.1, fun j q hj hq hf => ?_⟩
  by_cases e : j = i
  · subst e
    rw [hp] at hq; cases hq
    exact hs hf
  · exact h.2.2 j q (by omega) hq hf
theorem tIn_take {f : Pk → Bool} {ps : List Pk} {G0 g : Nat → Bool} {i : Nat} {T : List Pk} {p : Pk} (h : tIn f ps G0 g i T) (hp : ps[i]? = some p) (hf : f p = true) (hg : g i = false) : tIn f ps G0 (mrk g i) (i + 1) (T ++ [p]) := by
  have hi := (List.getElem?_eq_some_iff.mp hp).1
  have e1 : kls (mrk g i) 0 ps = kls g 0 (ps.take i) ++ kls g (i + 1) (ps.drop (i + 1)) := by
    rw [kls_at hp, mrk_s, kls_congr (g := g) (h := mrk g i) (ps.take i) 0 (fun j _ hj => mrk_n (by rw [List.length_take] at hj; omega)), kls_congr (g := g) (h := mrk g i) (ps.drop (i + 1)) (i + 1) (fun j hj _ => mrk_n (by omega))]
    rfl
  have e2 : kls g 0 ps = kls g 0 (ps.take i) ++ (p :: kls g (i + 1) (ps.drop (i + 1))) := by
    rw [kls_at hp, hg]; rfl
  have e3 : (kls g 0 (ps.take i)).filter f = [] := kls_none _ 0 (fun j q hq hfq => by
    rw [Nat.zero_add]
    have hj : j < i := by
      have := (List.getElem?_eq_some_iff.mp hq).1
      rw [List.length_take] at this; omega
    rw [List.getElem?_take_of_lt hj] at hq
    exact h.2.2 j q hj hq hfq)
  refine ⟨fun f' hd => ?_, ?_, fun j q hj hq hfq => ?_⟩
  · rw [← h.1 f' hd, e1, e2, List.filter_append, List.filter_append, List.filter_cons_of_neg (fun z => hd p z hf)]
  · rw [← h.2.1, e1, e2, List.filter_append, List.filter_append, List.filter_cons_of_pos hf, e3, List.nil_append, List.nil_append, List.append_assoc]
    rfl
  · by_cases e : j = i
    · rw [e]; exact mrk_s
    · rw [mrk_n e]; exact h.2.2 j q (by omega) hq hfq
/-- the list of what is carried -/
def CL (I : gM) (l : List (Nat × Pk)) : Prop := I 0 28 = nI l.length ∧ ∀ (j : Nat) (x : Nat × Pk), l[j]? = some x → I 14 j = nI x.1 ∧ ∀ w, w < 5 → I 13 (5 * j + w) = nI (pkp x.2 w)
theorem get_app {α : Type} {l : List α} {x y : α} {j : Nat} (h : (l ++ [x])[j]? = some y) : (j < l.length ∧ l[j]? = some y) ∨ (j = l.length ∧ y = x) := by
  rcases Nat.lt_or_ge j l.length with h1 | h1
  · rw [List.getElem?_append_left h1] at h; exact Or.inl ⟨h1, h⟩
  · rw [List.getElem?_append_right h1] at h
    have := (List.getElem?_eq_some_iff.mp h).1
    have h2 : ([x] : List α).length = 1 := rfl
    have e : j = l.length := by omega
    rw [e, Nat.sub_self] at h
    cases h
    exact Or.inr ⟨e, rfl⟩
theorem take_end {T R L : List Pk} {m : Nat} (h : T ++ R = L) (hm : T.length = m ∨ (R = [] ∧ T.length ≤ m)) : T = L.take (min m L.length) ∧ R = L.drop (min m L.length) := by
  have hl : L.length = T.length + R.length := by rw [← h, List.length_append]
  have e : min m L.length = T.length := by
    rcases hm with h1 | ⟨h1, h2⟩
    · omega
    · rw [h1] at hl
      have : ([] : List Pk).length = 0 := rfl
      omega
  rw [e, ← h]
  exact ⟨List.take_left.symm, List.drop_left.symm⟩
theorem pX9_take {N B k c : Nat} {r : Nat → Nat} {ps : List Pk} {I : gM} {g : Nat → Bool} {cl : List (Nat × Pk)} (hr : RowIs (I 3) (r, ps)) (hw : Wf B (r, ps)) (hB : B < 2 ^ 31) (hk : k < r 1) (hc : c < 10) (hcm : I 11 k = nI c) (hg : ∀ i, i < 500 → I 7 i = b2 (g i)) (hcl : CL I cl) (h65 : cl.length ≤ 65) (hN : 1000 ≤ N) :
    ∃ (J : gM) (g' : Nat → Bool), fX9_take N [.ref 0, .int (nI k)] I = some (.inl none, J) ∧ (∀ i, i < 500 → J 7 i = b2 (g' i)) ∧
      CL J (cl ++ (((kls g 0 ps).filter (inq r (lkp r k 0) c)).take (min (lkp r k 2) ((kls g 0 ps).filter (inq r (lkp r k 0) c)).length)).map (fun p => (k, p))) ∧
      (kls g' 0 ps).filter (inq r (lkp r k 0) c) = ((kls g 0 ps).filter (inq r (lkp r k 0) c)).drop (min (lkp r k 2) ((kls g 0 ps).filter (inq r (lkp r k 0) c)).length) ∧
      (∀ f' : Pk → Bool, (∀ p, f' p = true → inq r (lkp r k 0) c p = true → False) → (kls g' 0 ps).filter f' = (kls g 0 ps).filter f') ∧
      RowIs (J 3) (up1 r (145 + 10 * lkp r k 0 + c) (r (145 + 10 * lkp r k 0 + c) - min (lkp r k 2) (r (145 + 10 * lkp r k 0 + c))), ps) ∧ J 15 k = nI (min (lkp r k 2) (r (145 + 10 * lkp r k 0 + c))) ∧ (∀ j, j ≠ k → J 15 j = I 15 j) ∧ (∀ j, j ≠ 28 → J 0 j = I 0 j) ∧ ∀ j, j ≠ 0 → j ≠ 3 → j ≠ 7 → j ≠ 13 → j ≠ 14 → j ≠ 15 → J j = I j := by
  obtain ⟨c0, c1, c2, c3, c4, c5, -⟩ := wfC hw
  obtain ⟨k1, k2, k3, k4, k5⟩ := wfL hw k hk
  have c0' : r 0 ≤ 10 := c0.2
  have c1' : r 1 ≤ 14 := c1
  have hl : ps.length ≤ 500 := (wfP hw).1
  have k1' : lkp r k 0 < r 0 := k1
  have k5' : lkp r k 2 ≤ 5 := k5
  have hsh : r (145 + 10 * lkp r k 0 + c) < 2 ^ 31 := by
    have := ((wfS hw) (lkp r k 0) c (by show lkp r k 0 < 10; omega) hc).1
    have h2 : shp r (lkp r k 0) c = r (145 + 10 * lkp r k 0 + c) := rfl
    have h3 : shp (r, ps).1 (lkp r k 0) c = shp r (lkp r k 0) c := rfl
    omega
  have l0 : (0 : Int32) = nI 0 := rfl
  have l1 : (1 : Int32) = nI 1 := rfl
  have l2 : (2 : Int32) = nI 2 := rfl
  have l5 : (5 : Int32) = nI 5 := rfl
  have l145 : (145 : Int32) = nI 145 := rfl
  have l245 : (245 : Int32) = nI 245 := rfl
  have cc245 : ∀ X : gO, ck 2746 245 X = X := fun X => by rw [l245, ckI (by decide) (by decide)]
  have n245 : (245 : Int32).toNatClampNeg = 245 := by decide
  generalize hf : inq r (lkp r k 0) c = f
  generalize hcap : lkp r k 2 = cap at k5'
  generalize ha : lkp r k 0 = a at k1' hsh ⊢
  generalize hA : 145 + 10 * a + c = A at hsh ⊢
  have hA2 : A < 245 := by omega
  have hrI : ∀ K : gM, K 3 = I 3 → RowIs (K 3) (r, ps) := fun K e => by rw [e]; exact hr
  -- the end: the shadow
  have fin : ∀ K : gM, K 3 = I 3 → hX9_take_141 N (nI k) (nI a) (nI c) K = some (.inl none, gU (gU K 15 k (nI (min cap (r A)))) 3 A (nI (r A - min cap (r A)))) := by
    intro K e
    have hrK := hrI K e
    have eA : gb_add (gb_add 145 (gb_mul 10 (nI a))) (nI c) = nI A := by
      rw [← hA]; simp only [gb_add, gb_mul, fa_lit, pk_mul, nI_add]
    have e2 : K 3 (9 + 4 * k + 2) = nI cap := by rw [hrK.1 _ (by omega), ← hcap]; rfl
    have eK : K 3 A = nI (r A) := hrK.1 A (by omega)
    rw [eX9_take_141, l2, r_link (N := N) (k := k) (w := 2) (by omega), e2, eA, ckI (by omega) (by decide), ckI (by omega) (by decide), ckI (by omega) (by decide), ckI (by omega) (by decide), ckI (by omega) (by decide), nI_clamp (n := k) (by omega), nI_clamp (n := A) (by omega), eK, jmin (by omega) (by omega), gU_us]
    have es : gb_sub (nI (r A)) (nI (min cap (r A))) = nI (r A - min cap (r A)) := pk_sub (by omega)
    rw [es]
  -- the loop over the packets
  have key : ∀ m i : Nat, i ≤ ps.length → ps.length - i < m → ∀ (K : gM) (g1 : Nat → Bool) (T : List Pk) (left : Nat), tIn f ps g g1 i T → T.length + left = cap → (∀ i, i < 500 → K 7 i = b2 (g1 i)) → CL K (cl ++ T.map (fun p => (k, p))) → (∀ j, j ≠ 28 → K 0 j = I 0 j) → (∀ j, j ≠ 0 → j ≠ 7 → j ≠ 13 → j ≠ 14 → K j = I j) →
      ∃ (J : gM) (g' : Nat → Bool), hX9_take_25 N m (nI k) (nI a) (nI c) (nI left) (nI i) K = some (.inl none, J) ∧ (∀ i, i < 500 → J 7 i = b2 (g' i)) ∧
      CL J (cl ++ (((kls g 0 ps).filter f).take (min cap ((kls g 0 ps).filter f).length)).map (fun p => (k, p))) ∧
      (kls g' 0 ps).filter f = ((kls g 0 ps).filter f).drop (min cap ((kls g 0 ps).filter f).length) ∧
      (∀ f' : Pk → Bool, (∀ p, f' p = true → f p = true → False) → (kls g' 0 ps).filter f' = (kls g 0 ps).filter f') ∧
      RowIs (J 3) (up1 r A (r A - min cap (r A)), ps) ∧ J 15 k = nI (min cap (r A)) ∧ (∀ j, j ≠ k → J 15 j = I 15 j) ∧ (∀ j, j ≠ 28 → J 0 j = I 0 j) ∧ ∀ j, j ≠ 0 → j ≠ 3 → j ≠ 7 → j ≠ 13 → j ≠ 14 → j ≠ 15 → J j = I j := by
    intro m
    induction m with
    | zero => intro i _ h; omega
    | succ m ih =>
      intro i hi hm K g1 T left hT hTl h7 hCL h0 hK
      have hrK := hrI K (hK 3 (by decide) (by decide) (by decide) (by decide))
      have e245 : K 3 245 = nI ps.length := hrK.2.1
      have done : (T.length = cap ∨ ((kls g1 0 ps).filter f = [] ∧ T.length ≤ cap)) → ∃ (J : gM) (g' : Nat → Bool), hX9_take_141 N (nI k) (nI a) (nI c) K = some (.inl none, J) ∧ (∀ i, i < 500 → J 7 i = b2 (g' i)) ∧
      CL J (cl ++ (((kls g 0 ps).filter f).take (min cap ((kls g 0 ps).filter f).length)).map (fun p => (k, p))) ∧
      (kls g' 0 ps).filter f = ((kls g 0 ps).filter f).drop (min cap ((kls g 0 ps).filter f).length) ∧
      (∀ f' : Pk → Bool, (∀ p, f' p = true → f p = true → False) → (kls g' 0 ps).filter f' = (kls g 0 ps).filter f') ∧
      RowIs (J 3) (up1 r A (r A - min cap (r A)), ps) ∧ J 15 k = nI (min cap (r A)) ∧ (∀ j, j ≠ k → J 15 j = I 15 j) ∧ (∀ j, j ≠ 28 → J 0 j = I 0 j) ∧ ∀ j, j ≠ 0 → j ≠ 3 → j ≠ 7 → j ≠ 13 → j ≠ 14 → j ≠ 15 → J j = I j := by
        intro hd
        obtain ⟨t1, t2⟩ := take_end hT.2.1 hd
        refine ⟨_, g1, fin K (hK 3 (by decide) (by decide) (by decide) (by decide)), fun i hi => by rw [gU_ok (by decide), gU_ok (by decide)]; exact h7 i hi, ?_, t2, hT.1, ?_, by rw [gU_un (Or.inl (by decide)), gU_us], fun j hj => ?_, fun j hj => by rw [gU_ok (by decide), gU_ok (by decide)]; exact h0 j hj, fun j z0 z3 z7 z13 z14 z15 => by rw [gU_ok z3, gU_ok z15]; exact hK j z0 z7 z13 z14⟩
        · rw [← t1]
          refine ⟨by rw [gU_ok (by decide), gU_ok (by decide)]; exact hCL.1, fun j x hx => ?_⟩
          obtain ⟨u1, u2⟩ := hCL.2 j x hx
          exact ⟨by rw [gU_ok (by decide), gU_ok (by decide)]; exact u1, fun w hw5 => by rw [gU_ok (by decide), gU_ok (by decide)]; exact u2 w hw5⟩
        · rw [gU_u3, gU_ok (by decide)]
          exact hrK.put hA2
        · rw [gU_un (Or.inl (by decide)), gU_un (Or.inr hj), hK 15 (by decide) (by decide) (by decide) (by decide)]
      rw [eX9_take_25, cc245, n245, e245]
      by_cases hin : i = ps.length
      · rw [hin, if_pos ((cge (by omega) (by omega)).mpr (Nat.le_refl _))]
        refine done (Or.inr ⟨kls_none ps 0 (fun j p hp hfp => ?_), by omega⟩)
        rw [Nat.zero_add]
        exact hT.2.2 j p (by have := (List.getElem?_eq_some_iff.mp hp).1; omega) hp hfp
      · rw [if_neg (fun z => hin (by have := (cge (by omega) (by omega)).mp z; omega))]
        by_cases hle : left = 0
        · rw [if_pos ((zle (by omega)).mpr hle)]
          exact done (Or.inl (by omega))
        · obtain ⟨p, hp⟩ := get_s (show i < ps.length by omega)
          rw [if_neg (fun z => hle ((zle (by omega)).mp z)), ckI (by omega) (by decide), nI_clamp (n := i) (by omega), h7 i (by omega)]
          have skip : (f p = true → g1 i = true) → ∃ (J : gM) (g' : Nat → Bool), hX9_take_135 N m (nI k) (nI a) (nI c) (nI left) (nI i) K = some (.inl none, J) ∧ (∀ i, i < 500 → J 7 i = b2 (g' i)) ∧
                CL J (cl ++ (((kls g 0 ps).filter f).take (min cap ((kls g 0 ps).filter f).length)).map (fun p => (k, p))) ∧
                (kls g' 0 ps).filter f = ((kls g 0 ps).filter f).drop (min cap ((kls g 0 ps).filter f).length) ∧
                (∀ f' : Pk → Bool, (∀ p, f' p = true → f p = true → False) → (kls g' 0 ps).filter f' = (kls g 0 ps).filter f') ∧
                RowIs (J 3) (up1 r A (r A - min cap (r A)), ps) ∧ J 15 k = nI (min cap (r A)) ∧ (∀ j, j ≠ k → J 15 j = I 15 j) ∧ (∀ j, j ≠ 28 → J 0 j = I 0 j) ∧ ∀ j, j ≠ 0 → j ≠ 3 → j ≠ 7 → j ≠ 13 → j ≠ 14 → j ≠ 15 → J j = I j := fun hs => by
            rw [eX9_take_135, l1, nI_add]
            exact ih (i + 1) (by omega) (by omega) K g1 T left (tIn_skip hT hp hs) hTl h7 hCL h0 hK
          cases hgi : g1 i with
          | true =>
            rw [if_pos (by decide)]
            exact skip (fun _ => hgi)
          | false =>
            rw [if_neg (by decide), isq (N := N) (σ := (r, ps)) (by rw [gSm18 (by decide)]; exact hrK) hw hp (by omega) (by omega), hI_mk, gMm18]
            show ∃ J g', (if gz_ne (b2 (inq r a c p)) = true then _ else _) = _ ∧ _
            rw [← ha, hf, ha]
            cases hfp : f p with
            | false =>
              rw [if_neg (by decide)]
              exact skip (fun z => by rw [hfp] at z; cases z)
            | true =>
              rw [if_pos (by decide)]
              -- the packet is written down
              have hlen : (cl ++ T.map (fun p => (k, p))).length = cl.length + T.length := by rw [List.length_append, List.length_map]
              have h28 : K 0 28 = nI (cl.length + T.length) := by rw [hCL.1, hlen]
              have copy : ∀ m2 w : Nat, w ≤ 5 → 5 - w < m2 → ∀ Y : gM, (∀ w', w' < w → Y 13 (5 * (cl.length + T.length) + w') = nI (pkp p w')) → (∀ q, q < 5 * (cl.length + T.length) → Y 13 q = K 13 q) → (∀ j, j ≠ 13 → Y j = K j) →
                  ∃ Z : gM, hX9_take_70 N m m2 (nI k) (nI a) (nI c) (nI left) (nI i) (nI w) Y = hX9_take_135 N m (nI k) (nI a) (nI c) (nI (left - 1)) (nI i) (gU (gU (gU Z 14 (cl.length + T.length) (nI k)) 0 28 (nI (cl.length + T.length + 1))) 7 i 1) ∧ (∀ w', w' < 5 → Z 13 (5 * (cl.length + T.length) + w') = nI (pkp p w')) ∧ (∀ q, q < 5 * (cl.length + T.length) → Z 13 q = K 13 q) ∧ ∀ j, j ≠ 13 → Z j = K j := by
                intro m2
                induction m2 with
                | zero => intro w _ h; omega
                | succ m2 ih2 =>
                  intro w hw5 hm2 Y y1 y2 y3
                  have y28 : Y 0 28 = nI (cl.length + T.length) := by rw [y3 0 (by decide)]; exact h28
                  rw [eX9_take_70, l5, y28]
                  by_cases hw6 : w = 5
                  · subst hw6
                    have e1 : nI left + -1 = nI (left - 1) := by
                      have : nI left + -1 = nI left - nI 1 := by
                        apply Int32.toBitVec_inj.mp
                        show BitVec.ofNat 32 left + (-1 : Int32).toBitVec = BitVec.ofNat 32 left - BitVec.ofNat 32 1
                        rw [BitVec.sub_eq_add_neg]
                        congr 1
                      rw [this, pk_sub (by omega)]
                    have e2 : gb_add (nI (cl.length + T.length)) 1 = nI (cl.length + T.length + 1) := nI_add _ _
                    rw [if_pos ((cge (by omega) (by omega)).mpr (Nat.le_refl _)), ckI (by omega) (by decide), ckI (by omega) (by decide), nI_clamp (n := cl.length + T.length) (by omega), nI_clamp (n := i) (by omega), e1]
                    have e3 : (gU Y 14 (cl.length + T.length) (nI k)) 0 28 = nI (cl.length + T.length) := by rw [gU_ok (by decide)]; exact y28
                    refine ⟨Y, ?_, y1, y2, y3⟩
                    rw [e2]
                    rfl
                  · have e4 : K 3 (246 + 5 * i + w) = nI (pkp p w) := hrK.2.2 i p hp w (by omega)
                    have e5 : gb_add (gb_mul (nI 5) (nI (cl.length + T.length))) (nI w) = nI (5 * (cl.length + T.length) + w) := by
                      simp only [gb_add, gb_mul, pk_mul, nI_add]
                    rw [if_neg (fun z => hw6 (by have := (cge (by omega) (by omega)).mp z; omega)), r_packet (N := N) (k := i) (w := w) (by omega), y3 3 (by decide), e4, e5, ckI (by omega) (by decide), nI_clamp (by omega), l1, nI_add]
                    refine ih2 (w + 1) (by omega) (by omega) _ (fun w' hw' => ?_) (fun q hq => ?_) (fun j hj => by rw [gU_ok hj]; exact y3 j hj)
                    · by_cases e : w' = w
                      · rw [e, gU_us]
                      · rw [gU_un (Or.inr (by omega))]; exact y1 w' (by omega)
                    · rw [gU_un (Or.inr (by omega))]; exact y2 q hq
              obtain ⟨Z, z0, z1, z2, z3⟩ := copy N 0 (by omega) (by omega) K (fun w' h => absurd h (Nat.not_lt_zero _)) (fun _ _ => rfl) (fun _ _ => rfl)
              rw [l0, z0, eX9_take_135, l1, nI_add]
              refine ih (i + 1) (by omega) (by omega) _ (mrk g1 i) (T ++ [p]) (left - 1) (tIn_take hT hp hfp hgi) (by rw [List.length_append]; show T.length + 1 + (left - 1) = cap; omega) (fun j hj => ?_) ?_ (fun j hj => ?_) (fun j j0 j7 j13 j14 => ?_)
              · by_cases e : j = i
                · rw [e, gU_us, mrk_s]; rfl
                · rw [gU_un (Or.inr e), gU_ok (by decide), gU_ok (by decide), mrk_n e, z3 7 (by decide)]; exact h7 j hj
              · rw [List.map_append, ← List.append_assoc]
                refine ⟨?_, fun j x hx => ?_⟩
                · rw [gU_ok (by decide), gU_us, List.length_append, hlen]; rfl
                · rw [gU_ok (by decide), gU_ok (by decide)]
                  rcases get_app hx with ⟨e1, e2⟩ | ⟨e1, e2⟩
                  · rw [hlen] at e1
                    obtain ⟨u1, u2⟩ := hCL.2 j x e2
                    refine ⟨by rw [gU_un (Or.inr (by omega)), z3 14 (by decide)]; exact u1, fun w hw5 => ?_⟩
                    rw [gU_ok (by decide), gU_ok (by decide), gU_ok (by decide), z2 _ (by omega)]; exact u2 w hw5
                  · rw [hlen] at e1
                    subst e1; subst e2
                    refine ⟨gU_us, fun w hw5 => ?_⟩
                    rw [gU_ok (by decide), gU_ok (by decide), gU_ok (by decide)]; exact z1 w hw5
              · rw [gU_ok (by decide), gU_un (Or.inr hj), gU_ok (by decide), z3 0 (by decide)]; exact h0 j hj
              · rw [gU_ok j7, gU_ok j0, gU_ok j14, z3 j j13]; exact hK j j0 j7 j13 j14
  have e0 : I 3 (9 + 4 * k + 0) = nI a := by rw [hr.1 _ (by omega), ← ha]; rfl
  have e2 : I 3 (9 + 4 * k + 2) = nI cap := by rw [hr.1 _ (by omega), ← hcap]; rfl
  rw [eX9_take, eX9_take_0, l0, l2, r_link (N := N) (k := k) (w := 0) (by omega), e0, ckI (by omega) (by decide), r_link (N := N) (k := k) (w := 2) (by omega), e2, nI_clamp (by omega), hcm]
  exact key N 0 (Nat.zero_le _) (by omega) I g [] cap ⟨fun _ _ => rfl, rfl, fun j p h => absurd h (Nat.not_lt_zero _)⟩ (by show 0 + cap = cap; omega) hg (by rw [List.map_nil, List.append_nil]; exact hcl) (fun _ _ => rfl) (fun _ _ _ _ _ => rfl)
