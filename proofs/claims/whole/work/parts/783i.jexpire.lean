/-! ===== expire: both sides alike ===== -/
def sq (f : Nat → Nat) : Nat → Nat
  | 0 => 0
  | n + 1 => sq f n + f n
theorem sq_add (f g : Nat → Nat) : ∀ n, sq (fun q => f q + g q) n = sq f n + sq g n
  | 0 => rfl
  | n + 1 => by
    show sq (fun q => f q + g q) n + (f n + g n) = sq f n + f n + (sq g n + g n)
    rw [sq_add f g n]; omega
theorem sq_congr {f g : Nat → Nat} : ∀ n, (∀ q, q < n → f q = g q) → sq f n = sq g n
  | 0, _ => rfl
  | n + 1, h => by
    show sq f n + f n = sq g n + g n
    rw [sq_congr n (fun q hq => h q (by omega)), h n (Nat.lt_succ_self _)]
theorem sq_one (q0 c : Nat) : ∀ n, sq (fun q => if q = q0 then c else 0) n = if q0 < n then c else 0
  | 0 => by rw [if_neg (by omega)]; rfl
  | n + 1 => by
    show sq (fun q => if q = q0 then c else 0) n + (if n = q0 then c else 0) = _
    rw [sq_one q0 c n]
    by_cases h : q0 < n
    · rw [if_pos h, if_neg (by omega), if_pos (by omega)]; rfl
    · rw [if_neg h]
      by_cases e : n = q0
      · rw [if_pos e, if_pos (by omega)]; omega
      · rw [if_neg e, if_neg (by omega)]
theorem sq_zero : ∀ n, sq (fun _ => 0) n = 0
  | 0 => rfl
  | n + 1 => by
    show sq (fun _ => 0) n + 0 = 0
    rw [sq_zero n]
/-- each packet is in one queue -/
theorem part_q (r : Nat → Nat) (h : Pk → Bool) : ∀ ps : List Pk, (∀ p ∈ ps, pkn p < 10 ∧ gol r p < 10) → sq (fun q => ((ps.filter (inq r (q / 10) (q % 10))).filter h).length) 100 = (ps.filter h).length
  | [], _ => sq_zero 100
  | p :: t, hp => by
    obtain ⟨p1, p2⟩ := hp p List.mem_cons_self
    have ih := part_q r h t (fun q hq => hp q (List.mem_cons_of_mem _ hq))
    have e : ∀ q, q < 100 → (((p :: t).filter (inq r (q / 10) (q % 10))).filter h).length = ((t.filter (inq r (q / 10) (q % 10))).filter h).length + (if q = 10 * pkn p + gol r p then (if h p = true then 1 else 0) else 0) := fun q hq => by
      by_cases hq2 : q = 10 * pkn p + gol r p
      · have hin : inq r (q / 10) (q % 10) p = true := by
          unfold inq
          rw [Bool.and_eq_true, decide_eq_true_eq, decide_eq_true_eq]
          omega
        rw [if_pos hq2, List.filter_cons_of_pos hin]
        by_cases hh : h p = true
        · rw [if_pos hh, List.filter_cons_of_pos hh, List.length_cons]
        · rw [if_neg hh, List.filter_cons_of_neg hh]; rfl
      · have hin : ¬ inq r (q / 10) (q % 10) p = true := fun z => hq2 (by
          unfold inq at z
          rw [Bool.and_eq_true, decide_eq_true_eq, decide_eq_true_eq] at z
          omega)
        rw [if_neg hq2, List.filter_cons_of_neg hin]; rfl
    rw [sq_congr 100 e, sq_add, ih, sq_one, if_pos (by omega)]
    by_cases hh : h p = true
    · rw [if_pos hh, List.filter_cons_of_pos hh, List.length_cons]
    · rw [if_neg hh, List.filter_cons_of_neg hh]; rfl
def cntF (f : Nat) (l : List Pk) : Nat := (l.filter (fun p => decide (p.1 = f))).length
theorem cntF_c (f : Nat) (p : Pk) (l : List Pk) : cntF f (p :: l) = (if p.1 = f then 1 else 0) + cntF f l := by
  unfold cntF
  by_cases h : p.1 = f
  · have e : (p :: l).filter (fun p => decide (p.1 = f)) = p :: l.filter (fun p => decide (p.1 = f)) := List.filter_cons_of_pos (by simp [h])
    rw [if_pos h, e, List.length_cons]; omega
  · have e : (p :: l).filter (fun p => decide (p.1 = f)) = l.filter (fun p => decide (p.1 = f)) := List.filter_cons_of_neg (by simp [h])
    rw [if_neg h, e]; omega
/-- a number w of the packets' flows counts them -/
def bmp (w : Nat) (r : Nat → Nat) (ps : List Pk) : Nat → Nat := ps.foldl (fun r p => up1 r (65 + 11 * p.1 + w) (flp r p.1 w + 1)) r
theorem bmp_at {w : Nat} (hw : w < 11) : ∀ (ps : List Pk) (r : Nat → Nat) (f : Nat), bmp w r ps (65 + 11 * f + w) = r (65 + 11 * f + w) + cntF f ps
  | [], _, _ => rfl
  | p :: t, r, f => by
    have e : bmp w r (p :: t) = bmp w (up1 r (65 + 11 * p.1 + w) (flp r p.1 w + 1)) t := rfl
    rw [e, bmp_at hw t _ f, cntF_c]
    by_cases h : p.1 = f
    · subst h
      rw [up1_s, if_pos rfl]
      show r (65 + 11 * p.1 + w) + 1 + _ = _
      omega
    · rw [up1_n (by omega), if_neg h]; omega
theorem bmp_n {w x : Nat} : ∀ (ps : List Pk) (r : Nat → Nat), (∀ p ∈ ps, x ≠ 65 + 11 * p.1 + w) → bmp w r ps x = r x
  | [], _, _ => rfl
  | p :: t, r, h => by
    have e : bmp w r (p :: t) = bmp w (up1 r (65 + 11 * p.1 + w) (flp r p.1 w + 1)) t := rfl
    rw [e, bmp_n t _ (fun q hq => h q (List.mem_cons_of_mem _ hq)), up1_n (h p List.mem_cons_self)]
theorem expF_bmp (r : Nat → Nat) (ps : List Pk) : expF r ps = bmp 7 r ps := rfl
theorem losF_bmp (r : Nat → Nat) (ps : List Pk) : losF r ps = bmp 5 r ps := rfl
theorem exA_f (r : Nat → Nat) (qs : Nat → List Pk) (P : Nat) (hp : ∀ q, q < 100 → ∀ p ∈ qs q, p.1 < 6) : ∀ n, n ≤ 100 → ∀ f, (exA r qs P n).1 (65 + 11 * f + 7) = r (65 + 11 * f + 7) + sq (fun q => cntF f ((qs q).filter (isE r))) n
  | 0, _, _ => rfl
  | n + 1, hn, f => by
    show expF (exA r qs P n).1 ((qs n).filter (isE r)) (65 + 11 * f + 7) = _ + (sq (fun q => cntF f ((qs q).filter (isE r))) n + cntF f ((qs n).filter (isE r)))
    rw [expF_bmp, bmp_at (by decide), exA_f r qs P hp n (by omega) f]
    omega
theorem exA_qs (r : Nat → Nat) (qs : Nat → List Pk) (P : Nat) : ∀ n k, k < n → (exA r qs P n).2.1 k = (qs k).filter (fun p => !isE r p)
  | 0, _, h => absurd h (Nat.not_lt_zero _)
  | n + 1, k, h => by
    show upq (exA r qs P n).2.1 n ((qs n).filter (fun p => !isE r p)) k = _
    by_cases e : k = n
    · rw [e, upq_s]
    · rw [upq_n e]; exact exA_qs r qs P n k (by omega)
theorem exA_P (r : Nat → Nat) (qs : Nat → List Pk) (P : Nat) : ∀ n, (exA r qs P n).2.2 = P - sq (fun q => ((qs q).filter (isE r)).length) n
  | 0 => rfl
  | n + 1 => by
    show (exA r qs P n).2.2 - ((qs n).filter (isE r)).length = P - (sq (fun q => ((qs q).filter (isE r)).length) n + ((qs n).filter (isE r)).length)
    rw [exA_P r qs P n]; omega
theorem filter_comm (f g : Pk → Bool) (l : List Pk) : (l.filter f).filter g = (l.filter g).filter f := by
  rw [List.filter_filter, List.filter_filter]
  exact List.filter_congr (fun p _ => Bool.and_comm _ _)
theorem bmp_keep {w : Nat} (h4 : 4 ≤ w) (hw : w < 11) (r : Nat → Nat) (ps : List Pk) (hp : ∀ p ∈ ps, p.1 < 6) : keepN r (bmp w r ps) := fun x _ _ _ _ x5 => bmp_n ps r (fun p hpp => x5 p.1 w (hp p hpp) h4 hw)
def expS (σ : St) : St := (expF σ.1 (σ.2.filter (isE σ.1)), σ.2.filter (fun p => !isE σ.1 p))
theorem expS_wf {B : Nat} {σ : St} (h : Wg B σ) : Wg B (expS σ) := by
  obtain ⟨hw, hg⟩ := h
  obtain ⟨r, ps⟩ := σ
  have c2 : r 2 ≤ 6 := (wfC hw).2.2.1
  have hpk : ∀ p ∈ ps, p.1 < r 2 ∧ p.2.1 ≤ r 7 ∧ p.2.2.2.1 < 1024 ∧ pkn p < r 0 ∧ pkn p ≠ gol r p := (wfP hw).2
  have hf : ∀ p ∈ ps.filter (isE r), p.1 < 6 := fun p hp => by
    have := (hpk p (List.mem_filter.mp hp).1).1
    omega
  have hx : ∀ x, (∀ f, f < 6 → x ≠ 65 + 11 * f + 7) → expF r (ps.filter (isE r)) x = r x := fun x hx => bmp_n _ r (fun p hp => hx p.1 (hf p hp))
  have e10 : ∀ f, f < 6 → flp (expF r (ps.filter (isE r))) f 10 = flp r f 10 := fun f hf => hx _ (fun g hg => by omega)
  refine ⟨Wf.of hw (bmp_keep (by decide) (by decide) r _ hf) ?_ ?_ (fun f hf => ?_) (fun f hf => ?_) (fun a d ha hd => ?_) ?_ (fun p hp => ?_), fun f hf => ?_⟩
  · show expF r (ps.filter (isE r)) 7 ≤ _
    rw [hx 7 (fun f _ => by omega)]; exact (wfC hw).2.2.2.2.2.2.2.1
  · show expF r (ps.filter (isE r)) 8 ≤ _
    rw [hx 8 (fun f _ => by omega)]; exact (wfC hw).2.2.2.2.2.2.2.2
  · have e : flp (expF r (ps.filter (isE r))) f 6 = flp r f 6 := hx _ (fun g hg => by omega)
    show flp (expF r (ps.filter (isE r))) f 6 ≤ _
    rw [e]; exact (wfF hw f hf).2.2.2.2.2.1
  · show flp (expF r (ps.filter (isE r))) f 10 ≤ _
    rw [e10 f (by omega)]; exact hg f (by omega)
  · have e : shp (expF r (ps.filter (isE r))) a d = shp r a d := hx _ (fun g hg => by omega)
    show shp (expF r (ps.filter (isE r))) a d ≤ B ∧ _
    rw [e]; exact wfS hw a d ha hd
  · exact Nat.le_trans (List.length_filter_le _ _) (wfP hw).1
  · show p.1 < r 2 ∧ p.2.1 ≤ expF r (ps.filter (isE r)) 7 ∧ _
    rw [hx 7 (fun f _ => by omega)]
    exact hpk p (List.mem_filter.mp hp).1
  · show flp (expF r (ps.filter (isE r))) f 10 ≤ _
    rw [e10 f hf]; exact hg f hf
theorem expS_n {B : Nat} {σ : St} (hw : Wf B σ) {x : Nat} (hx : ∀ f, f < 6 → x ≠ 65 + 11 * f + 7) : (expS σ).1 x = σ.1 x := bmp_n _ σ.1 (fun p hp => hx p.1 (by
  have h1 := ((wfP hw).2 p (List.mem_filter.mp hp).1).1
  have h2 := (wfC hw).2.2.1
  omega))
theorem expS_keep {B : Nat} {σ : St} (hw : Wf B σ) : keepN σ.1 (expS σ).1 := fun x _ _ _ _ x5 => expS_n hw (fun f hf => x5 f 7 hf (by decide) (by decide))
theorem s_expire {N B : Nat} {σ : St} {I M : gM} (hc : STc I σ) (hr : RowIs (M 3) σ) (hwg : Wg B σ) (hN : 1000 ≤ N) :
    ∃ J M', fX7_expireAll N [.ref 0] I = some (.inl none, J) ∧ fX9_expire N [.ref 0] M = some (.inl none, M') ∧ STc J (expS σ) ∧ RowIs (M' 3) (expS σ) ∧ ∀ k, k ≠ 3 → k ≠ 7 → M' k = M k := by
  obtain ⟨hw, hg⟩ := hwg
  obtain ⟨c0, c1, c2, c3, c4, c5, c6, c7, c8⟩ := wfC hw
  have hb : ∀ f, f < σ.1 2 → flp σ.1 f 3 ≤ 200 := fun f hf => (wfF hw f hf).2.2.2.2.1
  have hpk := (wfP hw).2
  obtain ⟨M', m0, m1, m2⟩ := pX9_expire (N := N) hr (wfP hw).1 c2 c7 hb (fun p hp => ⟨(hpk p hp).1, (hpk p hp).2.1⟩) hN
  obtain ⟨J, j0, j1⟩ := pX7_expireAll (N := N) hc c1 c2 c7 hb (fun q hq p hp => ⟨(hpk p (List.mem_filter.mp hp).1).1, (hpk p (List.mem_filter.mp hp).1).2.1⟩) hN
  refine ⟨J, M', j0, m0, ?_, m1, m2⟩
  have hq6 : ∀ q, q < 100 → ∀ p ∈ qsq σ q, p.1 < 6 := fun q _ p hp => by
    have := (hpk p (List.mem_filter.mp hp).1).1
    omega
  have hlike := exA_like σ.1 (qsq σ) σ.2.length hq6 100 (Nat.le_refl _)
  have hdom : ∀ p ∈ σ.2, pkn p < 10 ∧ gol σ.1 p < 10 := fun p hp => by
    obtain ⟨p1, -, -, p4, -⟩ := hpk p hp
    have := (wfF hw p.1 p1).2.1
    have h2 : gol σ.1 p = flp σ.1 p.1 1 := rfl
    exact ⟨by omega, by omega⟩
  have e : ∀ x, x < 245 → (expS σ).1 x = (exA σ.1 (qsq σ) σ.2.length 100).1 x := fun x hx => by
    by_cases hx2 : ∃ f, f < 6 ∧ x = 65 + 11 * f + 7
    · obtain ⟨f, hf, ex⟩ := hx2
      subst ex
      rw [exA_f σ.1 (qsq σ) σ.2.length hq6 100 (Nat.le_refl _) f]
      have e1 : (expS σ).1 (65 + 11 * f + 7) = σ.1 (65 + 11 * f + 7) + cntF f (σ.2.filter (isE σ.1)) := bmp_at (by decide) _ _ _
      rw [e1]
      congr 1
      unfold cntF
      have h1 := part_q σ.1 (fun p => decide (p.1 = f) && isE σ.1 p) σ.2 hdom
      rw [List.filter_filter, ← h1]
      exact sq_congr 100 (fun q _ => congrArg List.length List.filter_filter.symm)
    · have hx3 : ∀ f, f < 6 → x ≠ 65 + 11 * f + 7 := fun f hf e => hx2 ⟨f, hf, e⟩
      rw [hlike x hx3]
      exact expS_n hw hx3
  have l1 : (exA σ.1 (qsq σ) σ.2.length 100).1 1 = σ.1 1 := by rw [← e 1 (by decide)]; exact expS_n hw (fun f _ => by omega)
  have l2 : (exA σ.1 (qsq σ) σ.2.length 100).1 2 = σ.1 2 := by rw [← e 2 (by decide)]; exact expS_n hw (fun f _ => by omega)
  have hP : (exA σ.1 (qsq σ) σ.2.length 100).2.2 = (expS σ).2.length := by
    rw [exA_P]
    have h1 := part_q σ.1 (isE σ.1) σ.2 hdom
    have h2 := len_split (isE σ.1) σ.2
    have h3 : sq (fun q => ((qsq σ q).filter (isE σ.1)).length) 100 = (σ.2.filter (isE σ.1)).length := h1
    rw [h3]
    show _ = (σ.2.filter (fun p => !isE σ.1 p)).length
    omega
  have := j1.to (s := (expS σ).1) (qs' := qsq (expS σ)) (by rw [l1]; exact c1) (by rw [l2]; exact c2) e (fun q hq => by
    rw [exA_qs _ _ _ 100 q hq]
    show (σ.2.filter (fun p => !isE σ.1 p)).filter (inq (expS σ).1 (q / 10) (q % 10)) = (σ.2.filter (inq σ.1 (q / 10) (q % 10))).filter (fun p => !isE σ.1 p)
    rw [inq_congr (r := σ.1) (fun p hp => (expS_keep hw).fl (by have := (hpk p (List.mem_filter.mp hp).1).1; omega) (by decide))]
    exact filter_comm _ _ _)
  rw [hP] at this
  exact this
