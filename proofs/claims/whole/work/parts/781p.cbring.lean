/-! ===== the runner: a link brings over what it took ===== -/
theorem CQq.pos {I : gM} {qs : Nat → List Pk} {tr : List (Nat × Pk)} {P : Nat} {x : Nat × Pk} (h : CQq I qs tr P) (hx : x ∈ tr) : 0 < P := by
  obtain ⟨c, own, u, h1, -, h3, -⟩ := h
  obtain ⟨a1, a2, -⟩ := h3 x hx
  have hn := (h1.2.2.2.1 100 (Nat.le_refl _)).1
  have h2 : (x.1 :: c 100).length ≤ u := nodup_len u (x.1 :: c 100) (List.nodup_cons.mpr ⟨h1.none a1 a2 (Nat.le_refl _), hn⟩) (fun i hi => by
    rcases List.mem_cons.mp hi with e | e
    · rw [e]; exact a1
    · exact ((h1.2.2.2.1 100 (Nat.le_refl _)).2 i e).1)
  rw [List.length_cons] at h2
  have := h1.1.2.2.2
  omega
theorem gM7 {I J : gM} : ∀ k, k < 20 → gS (rg 7 20) (gMg (rg 7 20) I J) k = J k := fun k hk => by
  rw [gS7 hk, gMg_rgi hk]
theorem gM7o {I J : gM} {k : Nat} (h : k < 7) : gMg (rg 7 20) I J k = I k := gMg_rgo (Or.inl h)
/-- what a delivery or a passing leaves as it is -/
theorem delN_n {r : Nat → Nat} {f d i : Nat} (h : i ≠ 65 + 11 * f + 6 ∧ i ≠ 65 + 11 * f + 9 ∧ i ≠ 65 + 11 * f + 10) : delN r f d i = r i := by
  show up1 (up1 (up1 r _ _) _ _) _ _ i = r i
  rw [up1_n h.2.2, up1_n h.2.1, up1_n h.1]
theorem passN_n {r : Nat → Nat} {f l i : Nat} (h : i ≠ 65 + 11 * f + 8) : passN r f l i = r i := up1_n h
def delF (r : Nat → Nat) (ps : List Pk) : Nat → Nat := ps.foldl (fun r p => delN r p.1 (r 7 + 1 - p.2.1)) r
def passF (r : Nat → Nat) (a : Nat) (ps : List Pk) : Nat → Nat := ps.foldl (fun r p => passN r p.1 (bt p.2.2.2.1 a)) r
theorem delF_s (r : Nat → Nat) (ps : List Pk) (p : Pk) : delF r (ps ++ [p]) = delN (delF r ps) p.1 (delF r ps 7 + 1 - p.2.1) := by
  unfold delF; rw [List.foldl_append]; rfl
theorem passF_s (r : Nat → Nat) (a : Nat) (ps : List Pk) (p : Pk) : passF r a (ps ++ [p]) = passN (passF r a ps) p.1 (bt p.2.2.2.1 a) := by
  unfold passF; rw [List.foldl_append]; rfl
theorem delF_n (ps : List Pk) : ∀ (r : Nat → Nat) (i : Nat), (∀ p ∈ ps, p.1 < 6) → (i < 65 ∨ 131 ≤ i) → delF r ps i = r i := by
  induction ps with
  | nil => intro r i _ _; rfl
  | cons p t ih =>
    intro r i h hi
    have hp := h p List.mem_cons_self
    show delF (delN r p.1 (r 7 + 1 - p.2.1)) t i = _
    rw [ih _ i (fun q hq => h q (List.mem_cons_of_mem _ hq)) hi, delN_n (by omega)]
theorem passF_n (ps : List Pk) (a : Nat) : ∀ (r : Nat → Nat) (i : Nat), (∀ p ∈ ps, p.1 < 6) → (∀ f, f < 6 → i ≠ 65 + 11 * f + 8) → passF r a ps i = r i := by
  induction ps with
  | nil => intro r i _ _; rfl
  | cons p t ih =>
    intro r i h hi
    have hp := h p List.mem_cons_self
    show passF (passN r p.1 (bt p.2.2.2.1 a)) a t i = _
    rw [ih _ i (fun q hq => h q (List.mem_cons_of_mem _ hq)) hi, passN_n (hi p.1 hp)]
theorem delF_10 (ps : List Pk) : ∀ (r : Nat → Nat), (∀ p ∈ ps, p.1 < 6) → r 7 ≤ 10100 → (∀ f, f < 6 → flp r f 10 ≤ 10101) → ∀ f, f < 6 → flp (delF r ps) f 10 ≤ 10101 := by
  induction ps with
  | nil => intro r _ _ h; exact h
  | cons p t ih =>
    intro r h h7 hg
    have hp := h p List.mem_cons_self
    refine ih (delN r p.1 (r 7 + 1 - p.2.1)) (fun q hq => h q (List.mem_cons_of_mem _ hq)) (by rw [delN_n (by omega)]; exact h7) (fun f hf => ?_)
    by_cases e : f = p.1
    · subst e
      have e1 : flp (delN r p.1 (r 7 + 1 - p.2.1)) p.1 10 = max (r 7 + 1 - p.2.1) (flp r p.1 10) := up1_s
      have := hg p.1 hp
      rw [e1]; omega
    · have e1 : flp (delN r p.1 (r 7 + 1 - p.2.1)) f 10 = flp r f 10 := delN_n (by omega)
      rw [e1]; exact hg f hf
theorem zip_drop {l : List Nat} {m : List Pk} {i x : Nat} {p : Pk} (h1 : l[i]? = some x) (h2 : m[i]? = some p) : (l.drop i).zip (m.drop i) = (x, p) :: (l.drop (i + 1)).zip (m.drop (i + 1)) := by
  obtain ⟨a1, a2⟩ := List.getElem?_eq_some_iff.mp h1
  obtain ⟨b1, b2⟩ := List.getElem?_eq_some_iff.mp h2
  rw [List.drop_eq_getElem_cons a1, List.drop_eq_getElem_cons b1, a2, b2]
  rfl
/-- at the goal -/
theorem pX6_bringDel {N : Nat} {I : gM} {r : Nat → Nat} {qs : Nat → List Pk} {tr : List (Nat × Pk)} {P k : Nat} {ids : List Nat} {ps : List Pk} (hl : ids.length = ps.length) (h5 : ps.length ≤ 5) (h : CT (gS (rg 7 20) I) r qs (ids.zip ps ++ tr) P) (h14 : r 1 ≤ 14) (h6 : r 2 ≤ 6) (hk : k < r 1) (hb : lkp r k 1 < 10) (hcm : I 2 k = nI (lkp r k 1)) (h7 : r 7 ≤ 10100) (hg : ∀ f, f < 6 → flp r f 10 ≤ 10101) (hp : ∀ p ∈ ps, p.1 < r 2 ∧ p.2.1 ≤ r 7)
    (h4 : ∀ (i x : Nat), ids[i]? = some x → I 4 (k * 5 + i) = nI x) (hI5 : I 5 k = nI ps.length) (hN : 1000 ≤ N) :
    ∃ J, fX6_bringOver N [.ref 0, .ref 7, .int (nI k)] I = some (.inl none, J) ∧ CT (gS (rg 7 20) J) (delF r ps) qs tr (P - ps.length) ∧ ∀ j, j < 7 → J j = I j := by
  have lm : (-1 : Int32) = mI := rfl
  have l0 : (0 : Int32) = nI 0 := rfl
  have l1 : (1 : Int32) = nI 1 := rfl
  have l5 : (5 : Int32) = nI 5 := rfl
  obtain ⟨-, w2, -, -, -⟩ := h.1.2.1 k hk
  rw [gS7 (by decide)] at w2
  have w2' : I 10 k = nI (lkp r k 1) := w2
  rw [eX6_bringOver, eX6_bringOver_0, ckI (by omega) (by decide), ckI (by omega) (by decide), nI_clamp (n := k) (by omega), w2', hcm, if_neg (by rw [cne (by omega) (by omega)]; exact fun z => z rfl), eX6_bringOver_28, ckI (by omega) (by decide), nI_clamp (n := k) (by omega), hcm, s_pair, l0, l1]
  have key : ∀ m i : Nat, i ≤ ps.length → ps.length - i < m → ∀ K : gM, CT (gS (rg 7 20) K) (delF r (ps.take i)) qs ((ids.drop i).zip (ps.drop i) ++ tr) (P - i) → (∀ j, j < 7 → K j = I j) →
      ∃ J, hX6_bringOver_48 N m (nI k) (nI (lkp r k 1)) (nI 1) (nI (lkp r k 1 * 10 + lkp r k 1)) (nI i) K = some (.inl none, J) ∧ CT (gS (rg 7 20) J) (delF r ps) qs tr (P - ps.length) ∧ ∀ j, j < 7 → J j = I j := by
    intro m
    induction m with
    | zero => intro i _ h; omega
    | succ m ih =>
      intro i hi hm K hK hlo
      rw [eX6_bringOver_48, lm, l5, ckI (by omega) (by decide), nI_clamp (n := k) (by omega), hlo 5 (by decide), hI5]
      by_cases hin : i = ps.length
      · subst hin
        rw [if_pos ((cge (by omega) (by omega)).mpr (Nat.le_refl _)), if_pos (by decide)]
        refine ⟨K, rfl, ?_, hlo⟩
        rw [List.take_length, List.drop_length, List.zip_nil_right, List.nil_append] at hK
        exact hK
      · have hil : i < ps.length := by omega
        obtain ⟨x, hx⟩ := get_s (show i < ids.length by omega)
        obtain ⟨p, hpi⟩ := get_s hil
        rw [zip_drop hx hpi] at hK
        have hpm := List.mem_of_getElem? hpi
        obtain ⟨p1, p2⟩ := hp p hpm
        have hall : ∀ q ∈ ps.take i, q.1 < 6 := fun q hq => by
          have := (hp q (List.mem_of_mem_take hq)).1
          omega
        have hall2 := hK.tr (i := x) (p := p) List.mem_cons_self
        have e1 : gb_add (gb_mul (nI k) (nI 5)) (nI i) = nI (k * 5 + i) := by
          simp only [gb_add, gb_mul, pk_mul, nI_add]
        rw [if_neg (fun z => hin (by have := (cge (by omega) (by omega)).mp z; omega)), e1, ckI (by omega) (by decide), nI_clamp (n := k * 5 + i) (by omega), hlo 4 (by decide), h4 i x hx, if_neg (by rw [ceqm (by omega)]; exact id), if_neg (by decide)]
        have n0 : ∀ z, (z < 65 ∨ 131 ≤ z) → delF r (ps.take i) z = r z := fun z hz => delF_n _ r z hall hz
        have hpos := hK.2.2.toq.pos (x := (x, p)) List.mem_cons_self
        obtain ⟨J, j0, j1⟩ := pX6_deliver (N := N) (a := []) (i := x) (p := p) (b := (ids.drop (i + 1)).zip (ps.drop (i + 1)) ++ tr) hK (by rw [n0 1 (by omega)]; exact h14) (by rw [n0 2 (by omega)]; exact h6) (by rw [n0 2 (by omega)]; exact p1) (by rw [n0 7 (by omega)]; exact p2) (by rw [n0 7 (by omega)]; exact h7) (delF_10 _ r hall h7 hg p.1 (by omega)) hpos
        rw [j0, hV_mk, eX6_bringOver_107, l1, nI_add]
        refine ih (i + 1) (by omega) (by omega) _ ?_ (fun j hj => (gM7o hj).trans (hlo j hj))
        rw [take_s hpi, delF_s, show P - (i + 1) = P - i - 1 by omega]
        exact j1.congr gM7
  refine key N 0 (Nat.zero_le _) (by omega) I h (fun _ _ => rfl)
/-- on the way -/
theorem pX6_bringPass {N : Nat} {I : gM} {r : Nat → Nat} {qs : Nat → List Pk} {tr : List (Nat × Pk)} {P k c m0 : Nat} {ids : List Nat} {ps : List Pk} (hl : ids.length = ps.length) (h5 : ps.length ≤ 5) (h : CT (gS (rg 7 20) I) r qs (ids.zip ps ++ tr) P) (h14 : r 1 ≤ 14) (h6 : r 2 ≤ 6) (hk : k < r 1) (hb : lkp r k 1 < 10) (hc : c < 10) (hbc : lkp r k 1 ≠ c) (hcm : I 2 k = nI c) (hp : ∀ p ∈ ps, p.1 < r 2 ∧ p.2.2.2.1 < 1024)
    (h4 : ∀ (i x : Nat), ids[i]? = some x → I 4 (k * 5 + i) = nI x) (hI5 : I 5 k = nI ps.length) (hI6 : I 6 k = nI m0) (hN : 1000 ≤ N) :
    ∃ J, fX6_bringOver N [.ref 0, .ref 7, .int (nI k)] I = some (.inl none, J) ∧ CT (gS (rg 7 20) J) (up1 (passF r (lkp r k 1) ps) (145 + (lkp r k 1 * 10 + c)) (r (145 + (lkp r k 1 * 10 + c)) + m0)) (upq qs (lkp r k 1 * 10 + c) (qs (lkp r k 1 * 10 + c) ++ ps.map (fun p => passP p (lkp r k 1)))) tr P ∧ ∀ j, j < 7 → J j = I j := by
  have lm : (-1 : Int32) = mI := rfl
  have l0 : (0 : Int32) = nI 0 := rfl
  have l1 : (1 : Int32) = nI 1 := rfl
  have l5 : (5 : Int32) = nI 5 := rfl
  obtain ⟨-, w2, -, -, -⟩ := h.1.2.1 k hk
  rw [gS7 (by decide)] at w2
  have w2' : I 10 k = nI (lkp r k 1) := w2
  have hq : lkp r k 1 * 10 + c < 100 := by omega
  rw [eX6_bringOver, eX6_bringOver_0, ckI (by omega) (by decide), ckI (by omega) (by decide), nI_clamp (n := k) (by omega), w2', hcm, if_pos (by rw [cne (by omega) (by omega)]; exact hbc), eX6_bringOver_28, ckI (by omega) (by decide), nI_clamp (n := k) (by omega), hcm, s_pair, l0]
  generalize hA : lkp r k 1 = A at hb hbc w2' hq ⊢
  generalize hQ : A * 10 + c = q at hq ⊢
  have hallp : ∀ p ∈ ps, p.1 < 6 := fun p h => by have := (hp p h).1; omega
  have key : ∀ m i : Nat, i ≤ ps.length → ps.length - i < m → ∀ K : gM, CT (gS (rg 7 20) K) (passF r A (ps.take i)) (upq qs q (qs q ++ (ps.take i).map (fun p => passP p A))) ((ids.drop i).zip (ps.drop i) ++ tr) P → (∀ j, j < 7 → K j = I j) →
      ∃ J, hX6_bringOver_48 N m (nI k) (nI A) (nI 0) (nI q) (nI i) K = some (.inl none, J) ∧ CT (gS (rg 7 20) J) (up1 (passF r A ps) (145 + q) (r (145 + q) + m0)) (upq qs q (qs q ++ ps.map (fun p => passP p A))) tr P ∧ ∀ j, j < 7 → J j = I j := by
    intro m
    induction m with
    | zero => intro i _ h; omega
    | succ m ih =>
      intro i hi hm K hK hlo
      rw [eX6_bringOver_48, lm, l5, ckI (by omega) (by decide), nI_clamp (n := k) (by omega), hlo 5 (by decide), hI5]
      have hall : ∀ q ∈ ps.take i, q.1 < 6 := fun q hq => hallp q (List.mem_of_mem_take hq)
      have n0 : ∀ z, (∀ f, f < 6 → z ≠ 65 + 11 * f + 8) → passF r A (ps.take i) z = r z := fun z hz => passF_n _ A r z hall hz
      by_cases hin : i = ps.length
      · subst hin
        rw [List.take_length] at n0 hK
        rw [if_pos ((cge (by omega) (by omega)).mpr (Nat.le_refl _)), if_neg (by decide), ckI hq (by decide), ckI (by omega) (by decide), ckI hq (by decide), nI_clamp (n := q) (by omega), hlo 6 (by decide), hI6]
        have ws := hK.2.1.2.2 q hq
        rw [gS7 (by decide), n0 _ (fun f _ => by omega)] at ws
        have ws' : K 21 q = nI (r (145 + q)) := ws
        have e2 : gb_add (nI (r (145 + q))) (nI m0) = nI (r (145 + q) + m0) := nI_add _ _
        rw [ws', e2]
        refine ⟨_, rfl, ?_, fun j hj => (gU_ok (by omega)).trans (hlo j hj)⟩
        rw [List.drop_length, List.zip_nil_right, List.nil_append] at hK
        refine CT.congr (hK.shadow (q := q) (x := r (145 + q) + m0) (by rw [n0 1 (fun f _ => by omega)]; exact h14) (by rw [n0 2 (fun f _ => by omega)]; exact h6) hq) (fun z hz => ?_)
        rw [show (21 : Nat) = 7 + 14 from rfl, gS7U z hz]
      · have hil : i < ps.length := by omega
        obtain ⟨x, hx⟩ := get_s (show i < ids.length by omega)
        obtain ⟨p, hpi⟩ := get_s hil
        rw [zip_drop hx hpi] at hK
        have hpm := List.mem_of_getElem? hpi
        obtain ⟨p1, p2⟩ := hp p hpm
        have hall2 := hK.tr (i := x) (p := p) List.mem_cons_self
        have e1 : gb_add (gb_mul (nI k) (nI 5)) (nI i) = nI (k * 5 + i) := by
          simp only [gb_add, gb_mul, pk_mul, nI_add]
        rw [if_neg (fun z => hin (by have := (cge (by omega) (by omega)).mp z; omega)), e1, ckI (by omega) (by decide), nI_clamp (n := k * 5 + i) (by omega), hlo 4 (by decide), h4 i x hx, if_neg (by rw [ceqm (by omega)]; exact id), if_pos (by decide), eX6_bringOver_92, lm, if_neg (by rw [ceqm (by omega)]; exact id)]
        obtain ⟨J, j0, j1⟩ := pX6_pass (N := N) (a := []) (i := x) (p := p) (q := q) (x := A) (b := (ids.drop (i + 1)).zip (ps.drop (i + 1)) ++ tr) hK (by rw [n0 1 (fun f _ => by omega)]; exact h14) (by rw [n0 2 (fun f _ => by omega)]; exact h6) (by rw [n0 2 (fun f _ => by omega)]; exact p1) p2 hq hb
        rw [j0, hV_mk, eX6_bringOver_107, l1, nI_add]
        refine ih (i + 1) (by omega) (by omega) _ ?_ (fun j hj => (gM7o hj).trans (hlo j hj))
        rw [take_s hpi, passF_s, List.map_append]
        have e : upq (upq qs q (qs q ++ (ps.take i).map (fun p => passP p A))) q (upq qs q (qs q ++ (ps.take i).map (fun p => passP p A)) q ++ [passP p A]) = upq qs q (qs q ++ ((ps.take i).map (fun p => passP p A) ++ [p].map (fun p => passP p A))) := by
          funext z
          by_cases ez : z = q
          · rw [ez, upq_s, upq_s, upq_s, List.append_assoc]; rfl
          · rw [upq_n ez, upq_n ez, upq_n ez]
        rw [e] at j1
        exact j1.congr gM7
  refine key N 0 (Nat.zero_le _) (by omega) I ?_ (fun _ _ => rfl)
  have e : upq qs q (qs q ++ (ps.take 0).map (fun p => passP p A)) = qs := by
    funext z
    by_cases ez : z = q
    · rw [ez, upq_s]; exact List.append_nil _
    · rw [upq_n ez]
  rw [e]
  exact h
