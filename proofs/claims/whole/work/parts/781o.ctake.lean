/-! ===== the runner (places 0..26; its State at 7..26): a link takes ===== -/
theorem gS7 {I : gM} {k : Nat} (h : k < 20) : gS (rg 7 20) I k = I (7 + k) := gS_rg h (by decide)
theorem gS7U {I : gM} {p j : Nat} {x : Int32} : ∀ k, k < 20 → gS (rg 7 20) (gU I (7 + p) j x) k = gU (gS (rg 7 20) I) p j x k := fun k hk => by
  rw [gS7 hk, gUr, gUr]
  by_cases e : k = p
  · rw [if_pos e, if_pos (by omega), gS7 (by omega)]
  · rw [if_neg e, if_neg (by omega), gS7 hk]
theorem gS7o {I : gM} {p j : Nat} {x : Int32} (hp : p < 7) : ∀ k, k < 20 → gS (rg 7 20) (gU I p j x) k = gS (rg 7 20) I k := fun k hk => by
  rw [gS7 hk, gS7 hk, gU_ok (by omega)]
theorem CT.q17 {I : gM} {r : Nat → Nat} {qs : Nat → List Pk} {tr : List (Nat × Pk)} {P : Nat} (h : CT (gS (rg 7 20) I) r qs tr P) : CQq (gS (rg 17 10) I) qs tr P := by
  have e : ∀ k, k < 10 → gS (rg 17 10) I k = gS (rg 10 10) (gS (rg 7 20) I) k := fun k hk => by
    rw [gS_rg hk (by decide), gS10 hk, gS7 (by omega)]
    congr 1; omega
  exact h.2.2.toq.congr (fun j _ _ => by rw [e 0 (by decide)]) (fun k _ hk _ => e k hk)
theorem CT.q17lift {I J : gM} {r : Nat → Nat} {qs qs' : Nat → List Pk} {tr tr' : List (Nat × Pk)} {P P' : Nat} (h : CT (gS (rg 7 20) I) r qs tr P) (hq : CQq J qs' tr' P') (h4 : J 4 = gS (rg 17 10) I 4) : CT (gS (rg 7 20) (gMg (rg 17 10) I J)) r qs' tr' P' := by
  have h4' : J 4 = gS (rg 10 10) (gS (rg 7 20) I) 4 := by rw [h4, gS_rg (by decide) (by decide), gS10 (by decide), gS7 (by decide)]
  refine (h.qlift hq h4').congr (fun k hk => ?_)
  rw [gS7 hk, gMg_rg, gMg_rg]
  by_cases e : 10 ≤ k
  · rw [if_pos (by omega), if_pos (by omega)]
    congr 1; omega
  · rw [if_neg (by omega), if_neg (by omega), gS7 hk]
theorem CN.car {I : gM} {r : Nat → Nat} {k x : Nat} (h : CN I r) (h14 : r 1 ≤ 14) (hk : k < r 1) : CN (gU I 5 k (nI x)) (up1 r (9 + 4 * k + 3) x) := by
  obtain ⟨h1, h2, h3, h4, h5⟩ := h
  have e : ∀ i, i ≠ 9 + 4 * k + 3 → up1 r (9 + 4 * k + 3) x i = r i := fun i hi => up1_n hi
  refine ⟨?_, fun j hj => ?_, fun i hi => ?_, fun f w hf hw => ?_, fun a b ha hb => ?_⟩
  · rw [gU_ok (by decide), e 0 (by omega), e 1 (by omega), e 2 (by omega)]; exact h1
  · rw [e 1 (by omega)] at hj
    obtain ⟨a1, a2, a3, a4, a5⟩ := h2 j hj
    refine ⟨?_, ?_, ?_, ?_, ?_⟩
    · rw [gU_ok (by decide)]; exact a1.trans (congrArg nI (e _ (by omega)).symm)
    · rw [gU_ok (by decide)]; exact a2.trans (congrArg nI (e _ (by omega)).symm)
    · rw [gU_ok (by decide)]; exact a3.trans (congrArg nI (e _ (by omega)).symm)
    · by_cases ej : j = k
      · rw [ej, gU_us]; exact congrArg nI up1_s.symm
      · rw [gU_un (Or.inr ej)]; exact a4.trans (congrArg nI (e _ (by omega)).symm)
    · rw [gU_ok (by decide)]; exact a5.trans (congrArg nI (e _ (by omega)).symm)
  · rw [gU_ok (by decide)]; exact (h3 i hi).trans (congrArg nI (e _ (by omega)).symm)
  · rw [e 2 (by omega)] at hf
    rw [gU_ok (by decide)]; exact (h4 f w hf hw).trans (congrArg nI (e _ (by omega)).symm)
  · rw [e 0 (by omega)] at ha hb
    obtain ⟨d, d1, d2⟩ := h5 a b ha hb
    exact ⟨d, isD_congr ⟨e 0 (by omega), e 1 (by omega), fun j hj => ⟨e _ (by omega), e _ (by omega)⟩⟩ d1, by rw [gU_ok (by decide)]; exact d2⟩
theorem CT.car {I : gM} {r : Nat → Nat} {qs : Nat → List Pk} {tr : List (Nat × Pk)} {P k x : Nat} (h : CT I r qs tr P) (h14 : r 1 ≤ 14) (hk : k < r 1) : CT (gU I 5 k (nI x)) (up1 r (9 + 4 * k + 3) x) qs tr P :=
  ⟨h.1.car h14 hk, (h.2.1.mem (gU_ok (by decide)) (gU_ok (by decide))).up (by omega), h.2.2.congr (fun k h1 _ _ => gU_ok (by omega))⟩
theorem CQq.perm {I : gM} {qs : Nat → List Pk} {tr tr' : List (Nat × Pk)} {P : Nat} (h : CQq I qs tr P) (hp : tr'.Perm tr) : CQq I qs tr' P := by
  obtain ⟨c, own, u, h1, h2, h3, h4⟩ := h
  exact ⟨c, own, u, h1, h2, fun x hx => h3 x (hp.mem_iff.mp hx), (hp.map Prod.fst).nodup_iff.mpr h4⟩
theorem zip_s {α β : Type} {l : List α} {m : List β} {x : α} {y : β} (h : l.length = m.length) : (l ++ [x]).zip (m ++ [y]) = l.zip m ++ [(x, y)] := by
  rw [List.zip_append h]; rfl
def takN (r : Nat → Nat) (k q n m : Nat) : Nat → Nat := up1 (up1 r (9 + 4 * k + 3) (lkp r k 3 + n)) (145 + q) (r (145 + q) - m)
theorem pX6_takeFor {N : Nat} {I : gM} {r : Nat → Nat} {qs : Nat → List Pk} {tr : List (Nat × Pk)} {P k c : Nat} (h : CT (gS (rg 7 20) I) r qs tr P) (h14 : r 1 ≤ 14) (h6 : r 2 ≤ 6) (hk : k < r 1) (ha : lkp r k 0 < 10) (hc : c < 10) (hcm : I 2 k = nI c) (hcap : lkp r k 2 ≤ 5) (hsh : r (145 + (lkp r k 0 * 10 + c)) < 2 ^ 31) (hN : 1000 ≤ N) :
    ∃ (J : gM) (ids : List Nat), fX6_takeFor N [.ref 0, .ref 7, .int (nI k)] I = some (.inl none, J) ∧ ids.length = min (lkp r k 2) (qs (lkp r k 0 * 10 + c)).length ∧
      CT (gS (rg 7 20) J) (takN r k (lkp r k 0 * 10 + c) (min (lkp r k 2) (qs (lkp r k 0 * 10 + c)).length) (min (lkp r k 2) (r (145 + (lkp r k 0 * 10 + c))))) (upq qs (lkp r k 0 * 10 + c) ((qs (lkp r k 0 * 10 + c)).drop (min (lkp r k 2) (qs (lkp r k 0 * 10 + c)).length))) (tr ++ ids.zip ((qs (lkp r k 0 * 10 + c)).take (min (lkp r k 2) (qs (lkp r k 0 * 10 + c)).length))) P ∧
      (∀ (i x : Nat), ids[i]? = some x → J 4 (k * 5 + i) = nI x) ∧ (∀ j, (j < k * 5 ∨ k * 5 + 5 ≤ j) → J 4 j = I 4 j) ∧ J 5 = upd (I 5) k (nI (min (lkp r k 2) (qs (lkp r k 0 * 10 + c)).length)) ∧ J 6 = upd (I 6) k (nI (min (lkp r k 2) (r (145 + (lkp r k 0 * 10 + c))))) ∧ ∀ j, j < 4 → J j = I j := by
  have hq : lkp r k 0 * 10 + c < 100 := by omega
  have lm : (-1 : Int32) = mI := rfl
  have l0 : (0 : Int32) = nI 0 := rfl
  have l1 : (1 : Int32) = nI 1 := rfl
  have l5 : (5 : Int32) = nI 5 := rfl
  obtain ⟨w1, -, w3, -, -⟩ := h.1.2.1 k hk
  rw [gS7 (by decide)] at w1 w3
  have hlen := h.q17.len hq
  have e20 : I 20 (lkp r k 0 * 10 + c) = nI (qs (lkp r k 0 * 10 + c)).length := by
    have := hlen.1
    rwa [gS_rg (by decide) (by decide)] at this
  rw [eX6_takeFor, eX6_takeFor_0, ckI (by omega) (by decide), ckI (by omega) (by decide), ckI (by omega) (by decide), nI_clamp (n := k) (by omega), hcm]
  show ∃ (J : gM) (ids : List Nat), (hI (fX8_pair N [.int (I 9 k), .int (nI c)] (gS [] I)) [] I fun x1 I1 => ck 100 x1 <| hX6_takeFor_52 N N (nI k) (I 11 k) x1 (gj_min (I 11 k) (I1 20 (Int32.toNatClampNeg x1))) 0 I1) = _ ∧ _
  rw [w1, w3, s_pair, ckI hq (by decide), nI_clamp (by omega), e20, jmin (by omega) (by omega), l0]
  generalize hQ : lkp r k 0 * 10 + c = q at hq hsh hlen e20 ⊢
  generalize hL : qs q = l at hlen e20 ⊢
  generalize hn : min (lkp r k 2) l.length = n
  have hnl : n ≤ l.length := by omega
  have hn5 : n ≤ 5 := by omega
  have key : ∀ m i : Nat, i ≤ n → n - i < m → ∀ (K : gM) (ids : List Nat), ids.length = i → CT (gS (rg 7 20) K) r (upq qs q (l.drop i)) (tr ++ ids.zip (l.take i)) P → (∀ (j x : Nat), ids[j]? = some x → K 4 (k * 5 + j) = nI x) → (∀ j, (j < k * 5 ∨ k * 5 + 5 ≤ j) → K 4 j = I 4 j) → K 5 = I 5 → K 6 = I 6 → (∀ j, j < 4 → K j = I j) →
      ∃ (J : gM) (ids : List Nat), hX6_takeFor_52 N m (nI k) (nI (lkp r k 2)) (nI q) (nI n) (nI i) K = some (.inl none, J) ∧ ids.length = n ∧
      CT (gS (rg 7 20) J) (takN r k q n (min (lkp r k 2) (r (145 + q)))) (upq qs q (l.drop n)) (tr ++ ids.zip (l.take n)) P ∧
      (∀ (i x : Nat), ids[i]? = some x → J 4 (k * 5 + i) = nI x) ∧ (∀ j, (j < k * 5 ∨ k * 5 + 5 ≤ j) → J 4 j = I 4 j) ∧ J 5 = upd (I 5) k (nI n) ∧ J 6 = upd (I 6) k (nI (min (lkp r k 2) (r (145 + q)))) ∧ ∀ j, j < 4 → J j = I j := by
    intro m
    induction m with
    | zero => intro i _ h; omega
    | succ m ih =>
      intro i hi hm K ids hids hK h4 h4o h5 h6' hlo
      rw [eX6_takeFor_52, lm, l1, l5]
      by_cases hin : i = n
      · subst hin
        rw [if_pos ((cge (by omega) (by omega)).mpr (Nat.le_refl _)), ckI (by omega) (by decide), ckI (by omega) (by decide), ckI (by omega) (by decide), ckI hq (by decide), ckI (by omega) (by decide), ckI hq (by decide), ckI (by omega) (by decide), ckI hq (by decide), nI_clamp (n := k) (by omega), nI_clamp (n := q) (by omega)]
        obtain ⟨-, -, -, w4, -⟩ := hK.1.2.1 k hk
        rw [gS7 (by decide)] at w4
        have w4' : K 12 k = nI (lkp r k 3) := w4
        have ws := hK.2.1.2.2 q hq
        rw [gS7 (by decide)] at ws
        have ws' : K 21 q = nI (r (145 + q)) := ws
        rw [w4', ws', jmin (by omega) (by omega), gU_us]
        have e1 : gb_add (nI (lkp r k 3)) (nI i) = nI (lkp r k 3 + i) := nI_add _ _
        have e2 : gb_sub (nI (r (145 + q))) (nI (min (lkp r k 2) (r (145 + q)))) = nI (r (145 + q) - min (lkp r k 2) (r (145 + q))) := pk_sub (by omega)
        rw [e1, e2]
        refine ⟨_, ids, rfl, hids, ?_, fun j x hj => ?_, fun j hj => ?_, ?_, ?_, fun j hj => ?_⟩
        · have t1 := (hK.car (x := lkp r k 3 + i) h14 hk).shadow (q := q) (x := r (145 + q) - min (lkp r k 2) (r (145 + q))) (by rw [up1_n (by omega)]; exact h14) (by rw [up1_n (by omega)]; exact h6) hq
          refine CT.congr t1 (fun z hz => ?_)
          rw [show (21 : Nat) = 7 + 14 from rfl, gS7U z hz, gUr, gUr (gU (gS (rg 7 20) K) 5 k _)]
          have ein : ∀ z, z < 20 → gS (rg 7 20) (gU (gU (gU K 5 k (nI i)) 12 k (nI (lkp r k 3 + i))) 6 k (nI (min (lkp r k 2) (r (145 + q))))) z = gU (gS (rg 7 20) K) 5 k (nI (lkp r k 3 + i)) z := fun z hz => by
            rw [gS7o (by decide) z hz, show (12 : Nat) = 7 + 5 from rfl, gS7U z hz, gUr, gUr, gS7o (by decide) z hz]
            by_cases e5 : z = 5
            · rw [if_pos e5, if_pos e5, gS7o (by decide) 5 (by decide)]
            · rw [if_neg e5, if_neg e5]
          rw [ein z hz, ein 14 (by decide)]
        · rw [gU_ok (by decide), gU_ok (by decide), gU_ok (by decide), gU_ok (by decide)]; exact h4 j x hj
        · rw [gU_ok (by decide), gU_ok (by decide), gU_ok (by decide), gU_ok (by decide)]; exact h4o j hj
        · rw [gU_ok (by decide), gU_ok (by decide), gU_ok (by decide), gU_u3, h5]
        · rw [gU_ok (by decide), gU_u3, gU_ok (by decide), gU_ok (by decide), h6']
        · rw [gU_ok (by omega), gU_ok (by omega), gU_ok (by omega), gU_ok (by omega)]; exact hlo j hj
      · have hil : i < l.length := by omega
        have hdrop : l.drop i = l[i] :: l.drop (i + 1) := List.drop_eq_getElem_cons hil
        have hget : l[i]? = some l[i] := List.getElem?_eq_getElem hil
        rw [if_neg (fun z => hin (by have := (cge (by omega) (by omega)).mp z; omega))]
        obtain ⟨x, J, j0, j1, j2, j3⟩ := CQq.take (N := N) (p := l[i]) (t := l.drop (i + 1)) hK.q17 hq (by rw [upq_s]; exact hdrop)
        rw [j0, hI_mk]
        have hp2 : ((tr ++ (ids ++ [x]).zip (l.take (i + 1)))).Perm ((x, l[i]) :: (tr ++ ids.zip (l.take i))) := by
          rw [take_s hget, zip_s (by rw [hids, List.length_take]; omega), ← List.append_assoc]
          exact List.perm_append_comm
        have j1' : CQq J (upq qs q (l.drop (i + 1))) (tr ++ (ids ++ [x]).zip (l.take (i + 1))) P := by
          have e : upq (upq qs q (l.drop i)) q (l.drop (i + 1)) = upq qs q (l.drop (i + 1)) := by
            funext z
            by_cases ez : z = q
            · rw [ez, upq_s, upq_s]
            · rw [upq_n ez, upq_n ez, upq_n ez]
          rw [e] at j1
          exact j1.perm hp2
        have hT := hK.q17lift j1' (j2 4 (by decide) (by decide) (by decide) (by decide))
        have eo : ∀ z, z < 17 → gMg (rg 17 10) K J z = K z := fun z hz => gMg_rgo (Or.inl hz)
        have e1 : gb_add (gb_mul (nI k) (nI 5)) (nI i) = nI (k * 5 + i) := by
          simp only [gb_add, gb_mul, pk_mul, nI_add]
        rw [e1, ckI (by omega) (by decide), nI_clamp (by omega), nI_add]
        refine ih (i + 1) (by omega) (by omega) _ (ids ++ [x]) (by rw [List.length_append, hids]; rfl) (hT.congr (fun z hz => gS7o (by decide) z hz)) (fun j y hj => ?_) (fun j hj => ?_) ?_ ?_ (fun j hj => ?_)
        · by_cases ej : j < ids.length
          · rw [List.getElem?_append_left ej] at hj
            rw [gU_un (Or.inr (by omega)), eo 4 (by decide)]
            exact h4 j y hj
          · have hj1 := (List.getElem?_eq_some_iff.mp hj).1
            rw [List.length_append] at hj1
            have hj2 : j = ids.length := by have : ([x] : List Nat).length = 1 := rfl; omega
            rw [hj2, List.getElem?_append_right (Nat.le_refl _), Nat.sub_self] at hj
            have hxy : x = y := Option.some.inj hj
            rw [hj2, hids, gU_us, hxy]
        · rw [gU_un (Or.inr (by omega)), eo 4 (by decide)]; exact h4o j hj
        · rw [gU_ok (by decide), eo 5 (by decide)]; exact h5
        · rw [gU_ok (by decide), eo 6 (by decide)]; exact h6'
        · rw [gU_ok (by omega), eo j (by omega)]; exact hlo j hj
  refine key N 0 (Nat.zero_le _) (by omega) I [] rfl ?_ (fun j x hj => by cases hj) (fun _ _ => rfl) rfl rfl (fun _ _ => rfl)
  have e : upq qs q (l.drop 0) = qs := by
    funext z
    by_cases ez : z = q
    · rw [ez, upq_s, List.drop_zero, hL]
    · rw [upq_n ez]
  rw [e]
  show CT _ r qs (tr ++ []) P
  rw [List.append_nil]
  exact h
