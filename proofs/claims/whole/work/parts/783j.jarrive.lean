/-! ===== arrivals: both sides alike ===== -/
theorem arvN_keep {r : Nat → Nat} {f k : Nat} (hf : f < 6) : keepN r (arvN r f k) := fun x x1 _ _ _ x5 => arvN_n ⟨x1, x5 f 4 hf (by decide) (by decide), x5 f 5 hf (by decide) (by decide)⟩
theorem arvS_wf {B f : Nat} {σ : St} (h : Wg B σ) (hf : f < σ.1 2) : Wg (B + 6) (arvS σ f) := by
  obtain ⟨hw, hg⟩ := h
  obtain ⟨r, ps⟩ := σ
  have hf' : f < r 2 := hf
  have c0 : r 0 ≤ 10 := (wfC hw).1.2
  have c2 : r 2 ≤ 6 := (wfC hw).2.2.1
  have c4 : r 4 ≤ 50 := (wfC hw).2.2.2.2.1
  have hpk : ∀ p ∈ ps, p.1 < r 2 ∧ p.2.1 ≤ r 7 ∧ p.2.2.2.1 < 1024 ∧ pkn p < r 0 ∧ pkn p ≠ gol r p := (wfP hw).2
  obtain ⟨f0, f1, f2, f3, f4, f5, f6⟩ := wfF hw f hf
  have f0' : flp r f 0 < r 0 := f0
  have f1' : flp r f 1 < r 0 := f1
  have f2' : flp r f 0 ≠ flp r f 1 := f2
  have f3' : flp r f 2 ≤ 300 := f3
  have e10 : ∀ k, ∀ g, g < 6 → flp (arvN r f k) g 10 = flp r g 10 := fun k g hg => arvN_n (by omega)
  refine ⟨Wf.of hw (arvN_keep (by omega)) ?_ ?_ (fun g hg => ?_) (fun g hg2 => ?_) (fun a d ha hd => ?_) (arvS_len (r, ps) f (wfP hw).1) (fun p hp => ?_), fun g hg2 => ?_⟩
  · rw [arvN_n (by omega)]; exact (wfC hw).2.2.2.2.2.2.2.1
  · rw [arvN_n (by omega)]; exact (wfC hw).2.2.2.2.2.2.2.2
  · have hg' : g < r 2 := hg
    have e : flp (arvN r f (min (gA r f) (500 - ps.length))) g 6 = flp r g 6 := arvN_n (by omega)
    show flp (arvN r f (min (gA r f) (500 - ps.length))) g 6 ≤ _
    rw [e]
    have : flp r g 6 ≤ B := (wfF hw g hg).2.2.2.2.2.1
    omega
  · show flp (arvN r f (min (gA r f) (500 - ps.length))) g 10 ≤ _
    rw [e10 _ g (by omega)]; exact hg g (by omega)
  · have hgb := gB_le f3' c4
    have h1 := wfS hw a d ha hd
    have h1' : shp r a d ≤ B ∧ (a = d → shp r a d = 0) := h1
    show shp (arvN r f (min (gA r f) (500 - ps.length))) a d ≤ B + 6 ∧ _
    unfold shp at h1' ⊢
    by_cases e : 145 + 10 * a + d = 145 + fq r f
    · have e2 : arvN r f (min (gA r f) (500 - ps.length)) (145 + 10 * a + d) = r (145 + 10 * a + d) + gB r f := by
        rw [e]; exact up1_s
      unfold fq at e
      rw [e2]
      exact ⟨by omega, fun h => by omega⟩
    · have e2 : arvN r f (min (gA r f) (500 - ps.length)) (145 + 10 * a + d) = r (145 + 10 * a + d) := by
        show up1 (arrN r f _ _) (145 + fq r f) _ _ = _
        rw [up1_n e]; exact arrN_n (by omega) (by omega)
      rw [e2]
      exact ⟨by omega, h1'.2⟩
  · show p.1 < r 2 ∧ p.2.1 ≤ arvN r f (min (gA r f) (500 - ps.length)) 7 ∧ _
    rw [arvN_n (by omega)]
    have hp' : p ∈ ps ++ List.replicate (min (gA r f) (500 - ps.length)) (newP r f) := hp
    rcases List.mem_append.mp hp' with z | z
    · exact hpk p z
    · have e := List.eq_of_mem_replicate z
      rw [e]
      refine ⟨hf', Nat.le_refl _, ?_, f0', f2'⟩
      show 2 ^ flp r f 0 < 2 ^ 10
      exact pow_lt (by omega)
  · show flp (arvN r f (min (gA r f) (500 - ps.length))) g 10 ≤ _
    rw [e10 _ g hg2]; exact hg g hg2
theorem arvS_qs {B f q : Nat} {σ : St} (hw : Wf B σ) (hf : f < σ.1 2) (hq : q < 100) : qsq (arvS σ f) q = upq (qsq σ) (fq σ.1 f) (qsq σ (fq σ.1 f) ++ List.replicate (min (gA σ.1 f) (500 - σ.2.length)) (newP σ.1 f)) q := by
  obtain ⟨r, ps⟩ := σ
  have hf' : f < r 2 := hf
  have c0 : r 0 ≤ 10 := (wfC hw).1.2
  have c2 : r 2 ≤ 6 := (wfC hw).2.2.1
  obtain ⟨f0, f1, -⟩ := wfF hw f hf
  have f0' : flp r f 0 < r 0 := f0
  have f1' : flp r f 1 < r 0 := f1
  have hpk : ∀ p ∈ ps, p.1 < r 2 := fun p hp => ((wfP hw).2 p hp).1
  show (ps ++ List.replicate (min (gA r f) (500 - ps.length)) (newP r f)).filter (inq (arvN r f (min (gA r f) (500 - ps.length))) (q / 10) (q % 10)) = upq (qsq (r, ps)) (fq r f) (qsq (r, ps) (fq r f) ++ List.replicate (min (gA r f) (500 - ps.length)) (newP r f)) q
  rw [inq_congr (r := r) (fun p hp => ?_), List.filter_append, List.filter_replicate]
  · have hi : inq r (q / 10) (q % 10) (newP r f) = true ↔ q = fq r f := by
      unfold inq
      have h1 : pkn (newP r f) = flp r f 0 := rfl
      have h2 : gol r (newP r f) = flp r f 1 := rfl
      rw [Bool.and_eq_true, decide_eq_true_eq, decide_eq_true_eq, h1, h2]
      unfold fq
      omega
    by_cases e : q = fq r f
    · rw [if_pos (hi.mpr e), e, upq_s]; rfl
    · rw [if_neg (fun z => e (hi.mp z)), upq_n e, List.append_nil]; rfl
  · rcases List.mem_append.mp hp with z | z
    · have := hpk p z
      exact (arvN_keep (by omega)).fl (by omega) (by decide)
    · rw [List.eq_of_mem_replicate z]
      exact (arvN_keep (by omega)).fl (show f < 6 by omega) (by decide)
theorem arvS_c {N B f : Nat} {σ : St} {I : gM} (hc : STc I σ) (hwg : Wg B σ) (hf : f < σ.1 2) (hN : 1000 ≤ N) : ∃ J, fX6_letArrive N [.ref 0, .int (nI f)] I = some (.inl none, J) ∧ STc J (arvS σ f) := by
  obtain ⟨hw, hg⟩ := hwg
  obtain ⟨c0, c1, c2, c3, c4, c5, c6, c7, c8⟩ := wfC hw
  obtain ⟨f0, f1, f2, f3, -⟩ := wfF hw f hf
  obtain ⟨J, j0, j1⟩ := pX6_letArrive (N := N) hc c1 c2 hf (by omega) (by omega) f3 c4 c7 (wfP hw).1 hN
  refine ⟨J, j0, ?_⟩
  have hk := arvN_keep (r := σ.1) (k := min (gA σ.1 f) (500 - σ.2.length)) (show f < 6 by omega)
  have := j1.to (s := (arvS σ f).1) (qs' := qsq (arvS σ f)) (by rw [hk.lo (by decide)]; exact c1) (by rw [hk.lo (by decide)]; exact c2) (fun _ _ => rfl) (fun q hq => arvS_qs hw hf hq)
  have hl : (arvS σ f).2.length = σ.2.length + min (gA σ.1 f) (500 - σ.2.length) := by
    show (σ.2 ++ List.replicate _ _).length = _
    rw [List.length_append, List.length_replicate]
  show CT J (arvS σ f).1 (qsq (arvS σ f)) [] (arvS σ f).2.length
  rw [hl]
  exact this
theorem arvAll_wf {B : Nat} {σ : St} (h : Wg B σ) : ∀ m, m ≤ σ.1 2 → Wg (B + 6 * m) (arvAll σ m) ∧ keepN σ.1 (arvAll σ m).1 ∧ (arvAll σ m).1 7 = σ.1 7 ∧ (arvAll σ m).1 8 = σ.1 8
  | 0, _ => ⟨h, keepN.refl _, rfl, rfl⟩
  | m + 1, hm => by
    obtain ⟨h1, h2, h3, h4⟩ := arvAll_wf h m (by omega)
    have c2 : σ.1 2 ≤ 6 := (wfC h.1).2.2.1
    have hm2 : m < (arvAll σ m).1 2 := by rw [h2.lo (by decide)]; omega
    have h5 := arvS_wf h1 hm2
    rw [show B + 6 * m + 6 = B + 6 * (m + 1) by omega] at h5
    refine ⟨h5, h2.tr (arvN_keep (by omega)), ?_, ?_⟩
    · rw [← h3]; exact arvN_n (by omega)
    · rw [← h4]; exact arvN_n (by omega)
