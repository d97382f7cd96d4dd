/-! ===== the reference: packets ===== -/
def inq (r : Nat → Nat) (a d : Nat) (p : Pk) : Bool := decide (pkn p = a) && decide (gol r p = d)
def qls (σ : St) (a d : Nat) : List Pk := σ.2.filter (inq σ.1 a d)
def qln (σ : St) (a d : Nat) : Nat := (qls σ a d).length
theorem isq {N B : Nat} {σ : St} {M : gM} (hr : RowIs (M 3) σ) (hw : Wf B σ) {i a d : Nat} {p : Pk} (hp : σ.2[i]? = some p) (ha : a < 2 ^ 31) (hd : d < 2 ^ 31) : fX9_isQueued N [.ref 0, .int (nI i), .int (nI a), .int (nI d)] M = some (.inl (some (.int (b2 (inq σ.1 a d p)))), M) := by
  obtain ⟨hl, hP⟩ := wfP hw
  have hi := (List.getElem?_eq_some_iff.mp hp).1
  obtain ⟨p1, p2, p4, p5, p6⟩ := hP p (List.mem_of_getElem? hp)
  have h6 := (wfC hw).2.2.1
  have hn := (wfC hw).1.2
  have e0 := hr.2.2 i p hp 0 (by decide)
  have e4 := hr.2.2 i p hp 4 (by decide)
  have hg : M 3 (65 + 11 * p.1 + 1) = nI (gol σ.1 p) := hr.1 _ (by omega)
  have hgl : gol σ.1 p < 2 ^ 31 := by
    have := (wfF hw p.1 p1).2.1
    show flp σ.1 p.1 1 < _
    omega
  rw [pX9_isQueued N (f := p.1) _ _ M (by omega) e0 (by omega), e4, hg]
  have hb : decide (nI (pkp p 4) = nI a ∧ nI (gol σ.1 p) = nI d) = inq σ.1 a d p := by
    unfold inq
    rw [Bool.eq_iff_iff]
    simp only [decide_eq_true_eq, Bool.and_eq_true]
    rw [nI_eq (show pkp p 4 < 2 ^ 31 by show pkn p < _; omega) ha, nI_eq hgl hd]
    exact Iff.rfl
  rw [hb]
theorem pX9_queued {N B : Nat} {σ : St} {M : gM} (hr : RowIs (M 3) σ) (hw : Wf B σ) {a d : Nat} (ha : a < 2 ^ 31) (hd : d < 2 ^ 31) (hN : 1000 ≤ N) : fX9_queued N [.ref 0, .int (nI a), .int (nI d)] M = some (.inl (some (.int (nI (qln σ a d)))), M) := by
  obtain ⟨hl, hP⟩ := wfP hw
  rw [eX9_queued, eX9_queued_0]
  have key : ∀ m i : Nat, i ≤ σ.2.length → σ.2.length - i < m → hX9_queued_5 N m (nI a) (nI d) (nI ((σ.2.take i).filter (inq σ.1 a d)).length) (nI i) M = some (.inl (some (.int (nI (qln σ a d)))), M) := by
    intro m
    induction m with
    | zero => intro i _ h; omega
    | succ m ih =>
      intro i hi hm
      rw [eX9_queued_5, fa_lit, ckI (by decide) (by decide), nI_clamp (by decide), hr.2.1]
      by_cases hin : i = σ.2.length
      · subst hin
        rw [if_pos ((cge (by omega) (by omega)).mpr (Nat.le_refl _)), List.take_length]
        rfl
      · obtain ⟨p, hp⟩ := get_s (show i < σ.2.length by omega)
        rw [if_neg (fun z => hin (by have := (cge (by omega) (by omega)).mp z; omega)), isq (by rw [gSm18 (by decide)]; exact hr) hw hp ha hd, hI_mk, gMm18]
        have := ih (i + 1) (by omega) (by omega)
        rw [take_s hp, List.filter_append] at this
        cases hq : inq σ.1 a d p with
        | false =>
          rw [if_pos (by simp [b2]), eX9_queued_35]
          rw [List.filter_cons_of_neg (by simp [hq]), List.filter_nil, List.append_nil] at this
          simp only [gb_add, fa_lit, nI_add, Nat.add_zero]
          exact this
        | true =>
          rw [if_neg (by simp [b2]), eX9_queued_35]
          rw [List.filter_cons_of_pos (by simp [hq]), List.filter_nil, List.length_append] at this
          simp only [gb_add, fa_lit, nI_add]
          exact this
  exact key N 0 (Nat.zero_le _) (by omega)
