/-! ===== transmit: both sides alike ===== -/
theorem up1_up1 {r : Nat → Nat} {i x y : Nat} : up1 (up1 r i x) i y = up1 r i y := by
  funext k
  by_cases h : k = i
  · rw [h, up1_s, up1_s]
  · rw [up1_n h, up1_n h, up1_n h]
theorem up1_comm {r : Nat → Nat} {i j x y : Nat} (h : i ≠ j) : up1 (up1 r i x) j y = up1 (up1 r j y) i x := by
  funext k
  by_cases h1 : k = i
  · subst h1; rw [up1_n h, up1_s, up1_s]
  · by_cases h2 : k = j
    · subst h2; rw [up1_s, up1_n h1, up1_s]
    · rw [up1_n h2, up1_n h1, up1_n h1, up1_n h2]
theorem up1_self {r : Nat → Nat} {i : Nat} : up1 r i (r i) = r := by
  funext k
  by_cases h : k = i
  · rw [h, up1_s]
  · rw [up1_n h]
theorem flp_up {r : Nat → Nat} {i x f w : Nat} (h : i < 65) : flp (up1 r i x) f w = flp r f w := up1_n (by omega)
theorem delN_up {r : Nat → Nat} {i x f d : Nat} (h : i < 65) : delN (up1 r i x) f d = up1 (delN r f d) i x := by
  unfold delN
  rw [flp_up h, flp_up h, flp_up h, up1_comm (i := i) (by omega), up1_comm (i := i) (by omega), up1_comm (i := i) (by omega)]
theorem passN_up {r : Nat → Nat} {i x f l : Nat} (h : i < 65) : passN (up1 r i x) f l = up1 (passN r f l) i x := by
  unfold passN
  rw [flp_up h, up1_comm (i := i) (by omega)]
theorem delF_c (r : Nat → Nat) (p : Pk) (t : List Pk) : delF r (p :: t) = delF (delN r p.1 (r 7 + 1 - p.2.1)) t := rfl
theorem passF_c (r : Nat → Nat) (a : Nat) (p : Pk) (t : List Pk) : passF r a (p :: t) = passF (passN r p.1 (bt p.2.2.2.1 a)) a t := rfl
theorem delF_up {i x : Nat} (h : i < 65) (h7 : i ≠ 7) : ∀ (l : List Pk) (r : Nat → Nat), delF (up1 r i x) l = up1 (delF r l) i x
  | [], _ => rfl
  | p :: t, r => by
    rw [delF_c, delF_c, up1_n (fun e => h7 e.symm), delN_up h, delF_up h h7 t]
theorem passF_up {i x a : Nat} (h : i < 65) : ∀ (l : List Pk) (r : Nat → Nat), passF (up1 r i x) a l = up1 (passF r a l) i x
  | [], _ => rfl
  | p :: t, r => by
    rw [passF_c, passF_c, passN_up h, passF_up h t]
/-- a link's packets land -/
theorem lan_link {k c : Nat} (hk : k < 14) : ∀ (l : List Pk) (σ : St), (∀ p ∈ l, p.1 < 6 ∧ gol σ.1 p = c) → lanF σ (l.map (fun p => (k, p))) = if lkp σ.1 k 1 = c then (up1 (delF σ.1 l) (9 + 4 * k + 3) (σ.1 (9 + 4 * k + 3) + l.length), σ.2) else (up1 (passF σ.1 (lkp σ.1 k 1) l) (9 + 4 * k + 3) (σ.1 (9 + 4 * k + 3) + l.length), σ.2 ++ l.map (fun p => passP p (lkp σ.1 k 1)))
  | [], σ, _ => by
    by_cases h : lkp σ.1 k 1 = c
    · rw [if_pos h]
      show σ = (up1 σ.1 (9 + 4 * k + 3) (σ.1 (9 + 4 * k + 3) + 0), σ.2)
      rw [Nat.add_zero (σ.1 (9 + 4 * k + 3)), up1_self]
    · rw [if_neg h]
      show σ = (up1 σ.1 (9 + 4 * k + 3) (σ.1 (9 + 4 * k + 3) + 0), σ.2 ++ [])
      rw [Nat.add_zero (σ.1 (9 + 4 * k + 3)), up1_self, List.append_nil]
  | p :: t, σ, hp => by
    obtain ⟨p1, p2⟩ := hp p List.mem_cons_self
    have hs : lanF σ ((p :: t).map (fun p => (k, p))) = lanF (lanS σ k p) (t.map (fun p => (k, p))) := rfl
    have e1 : lkp (lanS σ k p).1 k 1 = lkp σ.1 k 1 := lanS_n (by omega) (fun w _ _ => by omega)
    have hp' : ∀ q ∈ t, q.1 < 6 ∧ gol (lanS σ k p).1 q = c := fun q hq => by
      obtain ⟨q1, q2⟩ := hp q (List.mem_cons_of_mem _ hq)
      exact ⟨q1, (lanS_n (by omega) (fun w _ _ => by omega)).trans q2⟩
    rw [hs, lan_link hk t (lanS σ k p) hp', e1]
    have ea : σ.1 (9 + 4 * k + 3) + 1 + t.length = σ.1 (9 + 4 * k + 3) + (t.length + 1) := by omega
    by_cases h : lkp σ.1 k 1 = c
    · have eS : lanS σ k p = (up1 (delN σ.1 p.1 (σ.1 7 + 1 - p.2.1)) (9 + 4 * k + 3) (σ.1 (9 + 4 * k + 3) + 1), σ.2) := by
        unfold lanS
        rw [if_pos (by rw [p2]; exact h)]
        unfold lanR
        rw [delN_up (by omega)]
        rfl
      rw [if_pos h, if_pos h, eS]
      show (up1 (delF (up1 _ _ _) t) _ (up1 _ _ _ _ + t.length), σ.2) = _
      rw [delF_up (by omega) (by omega), up1_up1, up1_s, delF_c, List.length_cons, ea]
    · have eS : lanS σ k p = (up1 (passN σ.1 p.1 (bt p.2.2.2.1 (lkp σ.1 k 1))) (9 + 4 * k + 3) (σ.1 (9 + 4 * k + 3) + 1), σ.2 ++ [passP p (lkp σ.1 k 1)]) := by
        unfold lanS
        rw [if_neg (by rw [p2]; exact h)]
        unfold lanR
        rw [passN_up (by omega)]
        rfl
      rw [if_neg h, if_neg h, eS]
      show (up1 (passF (up1 _ _ _) _ t) _ (up1 _ _ _ _ + t.length), (σ.2 ++ _) ++ _) = _
      rw [passF_up (by omega), up1_up1, up1_s, passF_c, List.length_cons, ea, List.append_assoc, List.map_cons]
      rfl
def agr (r s : Nat → Nat) : Prop := ∀ x, (x = 7 ∨ (65 ≤ x ∧ x < 131)) → r x = s x
theorem agr.up {r s : Nat → Nat} {i x : Nat} (h : agr r s) : agr (up1 r i x) (up1 s i x) := fun y hy => by
  by_cases e : y = i
  · rw [e, up1_s, up1_s]
  · rw [up1_n e, up1_n e]; exact h y hy
theorem agr.fl {r s : Nat → Nat} {f w : Nat} (h : agr r s) (hf : f < 6) (hw : w < 11) : flp r f w = flp s f w := h _ (Or.inr (by omega))
theorem agr.del {r s : Nat → Nat} : ∀ (l : List Pk), (∀ p ∈ l, p.1 < 6) → ∀ {r s : Nat → Nat}, agr r s → agr (delF r l) (delF s l)
  | [], _, _, _, h => h
  | p :: t, hp, r, s, h => by
    have h1 := hp p List.mem_cons_self
    rw [delF_c, delF_c]
    refine agr.del (r := r) (s := s) t (fun q hq => hp q (List.mem_cons_of_mem _ hq)) ?_
    rw [h 7 (Or.inl rfl)]
    unfold delN
    rw [h.fl h1 (by decide), h.fl h1 (by decide), h.fl h1 (by decide)]
    exact h.up.up.up
theorem agr.pass {r s : Nat → Nat} {a : Nat} : ∀ (l : List Pk), (∀ p ∈ l, p.1 < 6) → ∀ {r s : Nat → Nat}, agr r s → agr (passF r a l) (passF s a l)
  | [], _, _, _, h => h
  | p :: t, hp, r, s, h => by
    have h1 := hp p List.mem_cons_self
    rw [passF_c, passF_c]
    refine agr.pass (r := r) (s := s) t (fun q hq => hp q (List.mem_cons_of_mem _ hq)) ?_
    unfold passN
    rw [h.fl h1 (by decide)]
    exact h.up
theorem tkS_car (S : Nat) (cm r : Nat → Nat) (qs : Nat → List Pk) : ∀ k, k ≤ 14 → ∀ j, j < 14 → (tkS S cm r qs k).1 (9 + 4 * j + 3) = r (9 + 4 * j + 3) + (if j < k ∧ S.testBit j = true then (tkP S cm r qs j).length else 0)
  | 0, _, j, _ => by rw [if_neg (fun z => absurd z.1 (Nat.not_lt_zero _))]; rfl
  | k + 1, hk, j, hj => by
    have ih := tkS_car S cm r qs k (by omega) j hj
    by_cases hS : S.testBit k = true
    · have tS : tkS S cm r qs (k + 1) = (takN (tkS S cm r qs k).1 k (tkQ r cm k) (min (lkp r k 2) ((tkS S cm r qs k).2 (tkQ r cm k)).length) (min (lkp r k 2) ((tkS S cm r qs k).1 (145 + tkQ r cm k))), upq (tkS S cm r qs k).2 (tkQ r cm k) (((tkS S cm r qs k).2 (tkQ r cm k)).drop (min (lkp r k 2) ((tkS S cm r qs k).2 (tkQ r cm k)).length))) := if_pos hS
      rw [tS]
      by_cases e : j = k
      · subst e
        have ih' : (tkS S cm r qs j).1 (9 + 4 * j + 3) = r (9 + 4 * j + 3) := by rw [ih, if_neg (by omega)]; rfl
        show takN (tkS S cm r qs j).1 j (tkQ r cm j) _ _ (9 + 4 * j + 3) = _
        unfold takN
        rw [up1_n (by omega), up1_s, if_pos ⟨Nat.lt_succ_self _, hS⟩, tkP_len]
        show (tkS S cm r qs j).1 (9 + 4 * j + 3) + _ = _
        rw [ih']
      · show takN (tkS S cm r qs k).1 k (tkQ r cm k) _ _ (9 + 4 * j + 3) = _
        rw [takN_n (by omega) (by omega), ih]
        congr 1
        by_cases h : j < k ∧ S.testBit j = true
        · rw [if_pos h, if_pos ⟨by omega, h.2⟩]
        · rw [if_neg h, if_neg (fun z => h ⟨by omega, z.2⟩)]
    · have tS : tkS S cm r qs (k + 1) = tkS S cm r qs k := if_neg hS
      rw [tS, ih]
      congr 1
      by_cases h : j < k ∧ S.testBit j = true
      · rw [if_pos h, if_pos ⟨by omega, h.2⟩]
      · rw [if_neg h, if_neg (fun z => h ⟨by have : j ≠ k := fun e => hS (e ▸ z.2); omega, z.2⟩)]
theorem brS_1 {S : Nat} {bb cm : Nat → Nat} {tp : Nat → List Pk} {ta : Nat → Nat} {r : Nat → Nat} {qs : Nat → List Pk} {P k : Nat} (hS : S.testBit k = true) (h : bb k = cm k) : brS S bb cm tp ta r qs P (k + 1) = (delF (brS S bb cm tp ta r qs P k).1 (tp k), (brS S bb cm tp ta r qs P k).2.1, (brS S bb cm tp ta r qs P k).2.2 - (tp k).length) := by
  show (if S.testBit k = true then (if bb k = cm k then _ else _) else _) = _
  rw [if_pos hS, if_pos h]
theorem brS_2 {S : Nat} {bb cm : Nat → Nat} {tp : Nat → List Pk} {ta : Nat → Nat} {r : Nat → Nat} {qs : Nat → List Pk} {P k : Nat} (hS : S.testBit k = true) (h : ¬ bb k = cm k) : brS S bb cm tp ta r qs P (k + 1) = (up1 (passF (brS S bb cm tp ta r qs P k).1 (bb k) (tp k)) (145 + (bb k * 10 + cm k)) ((brS S bb cm tp ta r qs P k).1 (145 + (bb k * 10 + cm k)) + ta k), upq (brS S bb cm tp ta r qs P k).2.1 (bb k * 10 + cm k) ((brS S bb cm tp ta r qs P k).2.1 (bb k * 10 + cm k) ++ (tp k).map (fun p => passP p (bb k))), (brS S bb cm tp ta r qs P k).2.2) := by
  show (if S.testBit k = true then (if bb k = cm k then _ else _) else _) = _
  rw [if_pos hS, if_neg h]
theorem brS_0 {S : Nat} {bb cm : Nat → Nat} {tp : Nat → List Pk} {ta : Nat → Nat} {r : Nat → Nat} {qs : Nat → List Pk} {P k : Nat} (hS : ¬ S.testBit k = true) : brS S bb cm tp ta r qs P (k + 1) = brS S bb cm tp ta r qs P k := by
  show (if S.testBit k = true then (if bb k = cm k then _ else _) else _) = _
  rw [if_neg hS]
theorem ctl_mono {S : Nat} {tp : Nat → List Pk} : ∀ n k, k ≤ n → (ctl S tp k).length ≤ (ctl S tp n).length
  | 0, k, h => by
    have : k = 0 := by omega
    rw [this]; exact Nat.le_refl _
  | n + 1, k, h => by
    by_cases e : k = n + 1
    · rw [e]; exact Nat.le_refl _
    · have ih := ctl_mono (S := S) (tp := tp) n k (by omega)
      show _ ≤ (if S.testBit n = true then ctl S tp n ++ (tp n).map (fun p => (n, p)) else ctl S tp n).length
      by_cases hS : S.testBit n = true
      · rw [if_pos hS, List.length_append]; omega
      · rw [if_neg hS]; exact ih
theorem tr_join {S n : Nat} {cm ta rT s0 r : Nat → Nat} {tp : Nat → List Pk} {qT : Nat → List Pk} {ps1 : List Pk} {P : Nat} (hn : n ≤ 14) (hr : keepN r s0) (hs7 : s0 7 = r 7) (h7 : rT 7 = r 7) (hab : agr s0 rT) (hsh : ∀ q, q < 100 → s0 (145 + q) = rT (145 + q)) (hbb : ∀ k, k < n → lkp r k 1 < 10 ∧ (S.testBit k = true → cm k < 10))
    (htp : ∀ k, k < n → S.testBit k = true → ∀ p ∈ tp k, p.1 < 6 ∧ gol r p = cm k) (hq : ∀ q, q < 100 → ps1.filter (inq r (q / 10) (q % 10)) = qT q) (hP : ps1.length + (ctl S tp n).length = P) : ∀ k, k ≤ n →
    (agr (lanF (s0, ps1) (ctl S tp k)).1 (brS S (fun k => lkp r k 1) cm tp ta rT qT P k).1) ∧ (∀ j, j < 14 → (lanF (s0, ps1) (ctl S tp k)).1 (9 + 4 * j + 3) = s0 (9 + 4 * j + 3) + (if j < k ∧ S.testBit j = true then (tp j).length else 0)) ∧
      (∀ q, q < 100 → (lanF (s0, ps1) (ctl S tp k)).2.filter (inq r (q / 10) (q % 10)) = (brS S (fun k => lkp r k 1) cm tp ta rT qT P k).2.1 q) ∧ (lanF (s0, ps1) (ctl S tp k)).2.length + (ctl S tp n).length = (brS S (fun k => lkp r k 1) cm tp ta rT qT P k).2.2 + (ctl S tp k).length ∧
      (∀ q, q < 100 → ∀ L : Nat → Nat, (∀ q, q < 100 → L (145 + q) = s0 (145 + q)) → addS S (fun k => lkp r k 1) cm ta L k (145 + q) = (brS S (fun k => lkp r k 1) cm tp ta rT qT P k).1 (145 + q)) ∧ keepN r (lanF (s0, ps1) (ctl S tp k)).1 ∧ (lanF (s0, ps1) (ctl S tp k)).1 7 = r 7
  | 0, _ => by
    refine ⟨hab, fun j hj => by rw [if_neg (fun z => absurd z.1 (Nat.not_lt_zero _))]; rfl, hq, ?_, fun q hq L hL => ?_, hr, hs7⟩
    · show ps1.length + _ = P + 0
      omega
    · show L (145 + q) = rT (145 + q)
      rw [hL q hq, hsh q hq]
  | k + 1, hk => by
    obtain ⟨i1, i2, i3, i4, i5, i6, i7⟩ := tr_join (ta := ta) hn hr hs7 h7 hab hsh hbb htp hq hP k (by omega)
    obtain ⟨b1, b2⟩ := hbb k (by omega)
    by_cases hS : S.testBit k = true
    · have cS : ctl S tp (k + 1) = ctl S tp k ++ (tp k).map (fun p => (k, p)) := if_pos hS
      have hcm := b2 hS
      have htk := htp k (by omega) hS
      have hmono := ctl_mono (S := S) (tp := tp) n (k + 1) hk
      rw [cS, List.length_append, List.length_map] at hmono
      rw [cS, lanF_app]
      generalize hσ : lanF (s0, ps1) (ctl S tp k) = σ at i1 i2 i3 i4 i6 i7 ⊢
      have wk1 : lkp σ.1 k 1 = lkp r k 1 := i6.lk (by omega) (by decide)
      have wg : ∀ p ∈ tp k, p.1 < 6 ∧ gol σ.1 p = cm k := fun p hp => by
        obtain ⟨p1, p2⟩ := htk p hp
        exact ⟨p1, (i6.fl p1 (by decide)).trans p2⟩
      have h6 : ∀ p ∈ tp k, p.1 < 6 := fun p hp => (htk p hp).1
      have hlan := lan_link (c := cm k) (show k < 14 by omega) (tp k) σ wg
      rw [wk1] at hlan
      have carr : ∀ (L : Nat → Nat) (y : Nat), (∀ j, j < 14 → j ≠ k → L (9 + 4 * j + 3) = σ.1 (9 + 4 * j + 3)) → ∀ j, j < 14 → up1 L (9 + 4 * k + 3) (σ.1 (9 + 4 * k + 3) + (tp k).length) (9 + 4 * j + 3) = s0 (9 + 4 * j + 3) + (if j < k + 1 ∧ S.testBit j = true then (tp j).length else 0) := fun L y hL j hj => by
        by_cases e : j = k
        · subst e
          rw [up1_s, i2 j hj, if_neg (by omega), if_pos ⟨Nat.lt_succ_self _, hS⟩, Nat.add_zero]
        · rw [up1_n (by omega), hL j hj e, i2 j hj]
          congr 1
          by_cases h : j < k ∧ S.testBit j = true
          · rw [if_pos h, if_pos ⟨by omega, h.2⟩]
          · rw [if_neg h, if_neg (fun z => h ⟨by omega, z.2⟩)]
      by_cases hg : lkp r k 1 = cm k
      · have hB := brS_1 (bb := fun k => lkp r k 1) (cm := cm) (tp := tp) (ta := ta) (r := rT) (qs := qT) (P := P) hS hg
        rw [if_pos hg] at hlan
        rw [hlan, hB]
        refine ⟨?_, carr _ 0 (fun j hj _ => delF_n (tp k) σ.1 _ h6 (by omega)), i3, ?_, fun q hq L hL => ?_, fun x x1 x2 x3 x4 x5 => ?_, ?_⟩
        · intro x hx
          show up1 _ _ _ x = _
          rw [up1_n (by omega)]
          exact agr.del (r := σ.1) (s := σ.1) (tp k) h6 i1 x hx
        · show σ.2.length + (ctl S tp n).length = _ - (tp k).length + (ctl S tp k ++ _).length
          rw [List.length_append, List.length_map]
          omega
        · have un : addS S (fun k => lkp r k 1) cm ta L (k + 1) = (if S.testBit k = true ∧ lkp r k 1 ≠ cm k then up1 (addS S (fun k => lkp r k 1) cm ta L k) (145 + (lkp r k 1 * 10 + cm k)) (addS S (fun k => lkp r k 1) cm ta L k (145 + (lkp r k 1 * 10 + cm k)) + ta k) else addS S (fun k => lkp r k 1) cm ta L k) := rfl
          rw [un, if_neg (fun z => z.2 hg)]
          show _ = delF _ (tp k) (145 + q)
          rw [delF_n (tp k) _ _ h6 (by omega)]
          exact i5 q hq L hL
        · show up1 _ _ _ x = _
          rw [up1_n (x4 k (by omega))]
          by_cases hx : 65 ≤ x ∧ x < 131
          · have : ∀ (l : List Pk) (z : Nat → Nat), (∀ p ∈ l, p.1 < 6) → delF z l x = z x := by
              intro l
              induction l with
              | nil => intro z _; rfl
              | cons p t ih =>
                intro z hp
                rw [delF_c, ih _ (fun q hq => hp q (List.mem_cons_of_mem _ hq))]
                have h1 := hp p List.mem_cons_self
                exact delN_n ⟨x5 p.1 6 h1 (by decide) (by decide), x5 p.1 9 h1 (by decide) (by decide), x5 p.1 10 h1 (by decide) (by decide)⟩
            rw [this _ _ h6]; exact i6 x x1 x2 x3 x4 x5
          · rw [delF_n (tp k) σ.1 _ h6 (by omega)]; exact i6 x x1 x2 x3 x4 x5
        · show up1 _ _ _ 7 = _
          rw [up1_n (by omega), delF_n (tp k) σ.1 _ h6 (by omega)]; exact i7
      · have hB := brS_2 (bb := fun k => lkp r k 1) (cm := cm) (tp := tp) (ta := ta) (r := rT) (qs := qT) (P := P) hS hg
        rw [if_neg hg] at hlan
        rw [hlan, hB]
        have pn : ∀ x, (∀ f, f < 6 → x ≠ 65 + 11 * f + 8) → passF σ.1 (lkp r k 1) (tp k) x = σ.1 x := fun x hx => passF_n (tp k) _ σ.1 x h6 hx
        refine ⟨?_, carr _ 0 (fun j hj _ => pn _ (fun f _ => by omega)), fun q hq => ?_, ?_, fun q hq L hL => ?_, fun x x1 x2 x3 x4 x5 => ?_, ?_⟩
        · intro x hx
          show up1 _ _ _ x = up1 _ _ _ x
          rw [up1_n (by omega), up1_n (by omega)]
          exact agr.pass (r := σ.1) (s := σ.1) (tp k) h6 i1 x hx
        · show (σ.2 ++ (tp k).map (fun p => passP p (lkp r k 1))).filter _ = upq _ (lkp r k 1 * 10 + cm k) _ q
          rw [List.filter_append, i3 q hq]
          by_cases e : q = lkp r k 1 * 10 + cm k
          · rw [e, upq_s]
            congr 1
            rw [List.filter_eq_self]
            intro p' hp'
            obtain ⟨p, p1, p2⟩ := List.mem_map.mp hp'
            subst p2
            unfold inq
            rw [show (lkp r k 1 * 10 + cm k) / 10 = lkp r k 1 by omega, show (lkp r k 1 * 10 + cm k) % 10 = cm k by omega]
            have g1 : gol r (passP p (lkp r k 1)) = cm k := (htk p p1).2
            rw [g1, decide_eq_true rfl]
            show (decide (lkp r k 1 = lkp r k 1) && true) = true
            rw [decide_eq_true rfl]; rfl
          · rw [upq_n e]
            have : ((tp k).map (fun p => passP p (lkp r k 1))).filter (inq r (q / 10) (q % 10)) = [] := by
              rw [List.filter_eq_nil_iff]
              intro p' hp' hh
              obtain ⟨p, p1, p2⟩ := List.mem_map.mp hp'
              subst p2
              unfold inq at hh
              rw [Bool.and_eq_true, decide_eq_true_eq, decide_eq_true_eq] at hh
              have g1 : gol r (passP p (lkp r k 1)) = cm k := (htk p p1).2
              have g2 : pkn (passP p (lkp r k 1)) = lkp r k 1 := rfl
              rw [g1, g2] at hh
              omega
            rw [this, List.append_nil]
        · show (σ.2 ++ (tp k).map (fun p => passP p (lkp r k 1))).length + (ctl S tp n).length = _ + (ctl S tp k ++ _).length
          rw [List.length_append, List.length_append, List.length_map, List.length_map, ← Nat.add_assoc, ← i4]
          omega
        · have un : addS S (fun k => lkp r k 1) cm ta L (k + 1) = (if S.testBit k = true ∧ lkp r k 1 ≠ cm k then up1 (addS S (fun k => lkp r k 1) cm ta L k) (145 + (lkp r k 1 * 10 + cm k)) (addS S (fun k => lkp r k 1) cm ta L k (145 + (lkp r k 1 * 10 + cm k)) + ta k) else addS S (fun k => lkp r k 1) cm ta L k) := rfl
          rw [un, if_pos ⟨hS, hg⟩]
          show _ = up1 _ (145 + (lkp r k 1 * 10 + cm k)) _ (145 + q)
          by_cases e : q = lkp r k 1 * 10 + cm k
          · rw [e, up1_s, up1_s, i5 _ (by omega) L hL]
          · rw [up1_n (by omega), up1_n (by omega), i5 q hq L hL]
            exact (passF_n (tp k) _ _ _ h6 (fun f _ => by omega)).symm
        · show up1 _ _ _ x = _
          rw [up1_n (x4 k (by omega)), pn x (fun f hf => x5 f 8 hf (by decide) (by decide))]
          exact i6 x x1 x2 x3 x4 x5
        · show up1 _ _ _ 7 = _
          rw [up1_n (by omega), pn 7 (fun f _ => by omega)]; exact i7
    · have cS : ctl S tp (k + 1) = ctl S tp k := if_neg hS
      have hB := brS_0 (bb := fun k => lkp r k 1) (cm := cm) (tp := tp) (ta := ta) (r := rT) (qs := qT) (P := P) hS
      rw [cS, hB]
      refine ⟨i1, fun j hj => ?_, i3, i4, fun q hq L hL => ?_, i6, i7⟩
      · rw [i2 j hj]
        congr 1
        by_cases h : j < k ∧ S.testBit j = true
        · rw [if_pos h, if_pos ⟨by omega, h.2⟩]
        · rw [if_neg h, if_neg (fun z => h ⟨by have : j ≠ k := fun e => hS (e ▸ z.2); omega, z.2⟩)]
      · have un : addS S (fun k => lkp r k 1) cm ta L (k + 1) = (if S.testBit k = true ∧ lkp r k 1 ≠ cm k then up1 (addS S (fun k => lkp r k 1) cm ta L k) (145 + (lkp r k 1 * 10 + cm k)) (addS S (fun k => lkp r k 1) cm ta L k (145 + (lkp r k 1 * 10 + cm k)) + ta k) else addS S (fun k => lkp r k 1) cm ta L k) := rfl
        rw [un, if_neg (fun z => hS z.1)]
        exact i5 q hq L hL
