/-! ===== urgent on both sides ===== -/
/-- z is the least deadline of the packets in S -/
def isM (r : Nat → Nat) (z : Option Nat) (S : Pk → Prop) : Prop := (∀ y, z = some y → ∃ p, S p ∧ flp r p.1 3 ≠ 0 ∧ p.2.1 + flp r p.1 3 = y) ∧ ∀ p, S p → flp r p.1 3 ≠ 0 → ∃ y, z = some y ∧ y ≤ p.2.1 + flp r p.1 3
theorem isM.uniq {r : Nat → Nat} {z w : Option Nat} {S T : Pk → Prop} (h : isM r z S) (k : isM r w T) (e : ∀ p, S p ↔ T p) : z = w := by
  cases z with
  | none =>
    cases w with
    | none => rfl
    | some y =>
      obtain ⟨p, p1, p2, -⟩ := k.1 y rfl
      obtain ⟨y', h1, -⟩ := h.2 p ((e p).mpr p1) p2
      cases h1
  | some x =>
    obtain ⟨p, p1, p2, p3⟩ := h.1 x rfl
    obtain ⟨y, h1, h2⟩ := k.2 p ((e p).mp p1) p2
    subst h1
    obtain ⟨q, q1, q2, q3⟩ := k.1 y rfl
    obtain ⟨x', h3, h4⟩ := h.2 q ((e q).mpr q1) q2
    have := Option.some.inj h3
    congr 1; omega
theorem isM.step {r : Nat → Nat} {z : Option Nat} {S : Pk → Prop} (h : isM r z S) (p : Pk) : isM r (lsd r z p) (fun x => S x ∨ x = p) := by
  unfold lsd
  by_cases h0 : flp r p.1 3 = 0
  · rw [if_pos h0]
    refine ⟨fun y hy => ?_, fun x hx hx0 => ?_⟩
    · obtain ⟨q, q1, q2⟩ := h.1 y hy
      exact ⟨q, Or.inl q1, q2⟩
    · rcases hx with hx | hx
      · exact h.2 x hx hx0
      · subst hx; exact absurd h0 hx0
  · rw [if_neg h0]
    cases z with
    | none =>
      refine ⟨fun y hy => ⟨p, Or.inr rfl, h0, Option.some.inj hy⟩, fun x hx hx0 => ?_⟩
      rcases hx with hx | hx
      · obtain ⟨y, h1, -⟩ := h.2 x hx hx0
        cases h1
      · subst hx; exact ⟨_, rfl, Nat.le_refl _⟩
    | some w =>
      show isM r (if p.2.1 + flp r p.1 3 < w then some (p.2.1 + flp r p.1 3) else some w) _
      by_cases hl : p.2.1 + flp r p.1 3 < w
      · rw [if_pos hl]
        refine ⟨fun y hy => ⟨p, Or.inr rfl, h0, Option.some.inj hy⟩, fun x hx hx0 => ⟨_, rfl, ?_⟩⟩
        rcases hx with hx | hx
        · obtain ⟨y, h1, h2⟩ := h.2 x hx hx0
          have := Option.some.inj h1
          omega
        · subst hx; exact Nat.le_refl _
      · rw [if_neg hl]
        refine ⟨fun y hy => ?_, fun x hx hx0 => ?_⟩
        · obtain ⟨q, q1, q2⟩ := h.1 y hy
          exact ⟨q, Or.inl q1, q2⟩
        · rcases hx with hx | hx
          · exact h.2 x hx hx0
          · subst hx; exact ⟨w, rfl, by omega⟩
theorem isM.congr {r : Nat → Nat} {z : Option Nat} {S T : Pk → Prop} (h : isM r z S) (e : ∀ p, S p ↔ T p) : isM r z T := ⟨fun y hy => by
  obtain ⟨p, p1, p2⟩ := h.1 y hy
  exact ⟨p, (e p).mp p1, p2⟩, fun p hp h0 => h.2 p ((e p).mpr hp) h0⟩
theorem isM.fold {r : Nat → Nat} : ∀ (l : List Pk) {z : Option Nat} {S : Pk → Prop}, isM r z S → isM r (l.foldl (lsd r) z) (fun x => S x ∨ x ∈ l)
  | [], z, S, h => h.congr (fun p => ⟨Or.inl, fun k => k.elim id (fun m => absurd m List.not_mem_nil)⟩)
  | p :: t, z, S, h => (isM.fold t (h.step p)).congr (fun x => by
    rw [List.mem_cons, or_assoc])
theorem isM.none (r : Nat → Nat) : isM r none (fun _ => False) := ⟨fun y hy => (by cases hy), fun p hp _ => hp.elim⟩
theorem isM.lsA (r : Nat → Nat) (qs : Nat → List Pk) : ∀ n, isM r (lsA r qs n) (fun x => ∃ q, q < n ∧ x ∈ qs q)
  | 0 => (isM.none r).congr (fun p => ⟨False.elim, fun ⟨_, h, _⟩ => absurd h (Nat.not_lt_zero _)⟩)
  | n + 1 => ((isM.lsA r qs n).fold (qs n)).congr (fun x => ⟨fun h => h.elim (fun ⟨q, h1, h2⟩ => ⟨q, by omega, h2⟩) (fun h => ⟨n, Nat.lt_succ_self _, h⟩), fun ⟨q, h1, h2⟩ => by
    by_cases e : q = n
    · subst e; exact Or.inr h2
    · exact Or.inl ⟨q, by omega, h2⟩⟩)
theorem lsA_flat {B : Nat} {σ : St} (hw : Wf B σ) : lsA σ.1 (qsq σ) 100 = σ.2.foldl (lsd σ.1) none := by
  refine (isM.lsA σ.1 (qsq σ) 100).uniq ((isM.none σ.1).fold σ.2) (fun p => ⟨fun ⟨q, _, h⟩ => Or.inr (List.mem_filter.mp h).1, fun h => ?_⟩)
  rcases h with h | h
  · exact h.elim
  · obtain ⟨p1, -, -, p4, -⟩ := (wfP hw).2 p h
    have h2 : gol σ.1 p < σ.1 0 := (wfF hw p.1 p1).2.1
    have h10 := (wfC hw).1.2
    refine ⟨pkn p * 10 + gol σ.1 p, by omega, ?_⟩
    rw [qsq_at σ (by omega)]
    refine List.mem_filter.mpr ⟨h, ?_⟩
    unfold inq
    rw [Bool.and_eq_true, decide_eq_true_eq, decide_eq_true_eq]
    exact ⟨rfl, rfl⟩
theorem jmax0 {a b : Nat} (ha : a < 2 ^ 31) (hb : b < 2 ^ 31) : gj_max 0 (gb_sub (nI a) (nI b)) = nI (a - b) := by
  by_cases h : a < b
  · show (if nI 0 < nI a - nI b then nI a - nI b else nI 0) = _
    rw [if_neg (sub_neg h hb)]; congr 1; omega
  · have e : gb_sub (nI a) (nI b) = nI (a - b) := pk_sub (by omega)
    rw [e]
    exact (jmax (a := 0) (by decide) (by omega)).trans (by rw [Nat.max_eq_right (Nat.zero_le _)])
theorem pX9_urgent {N B : Nat} {σ : St} {I : gM} (hr : RowIs (I 3) σ) (hw : Wf B σ) (hN : 1000 ≤ N) : hX9_urgent_9 N N (-1) 0 I = (if gc_eq (lsI ((σ.2.foldl (lsd σ.1) none).map (fun y => y - σ.1 7))) (-1) = true then hX9_urgent_94 N (lsI ((σ.2.foldl (lsd σ.1) none).map (fun y => y - σ.1 7))) 0 I else hX9_urgent_94 N (lsI ((σ.2.foldl (lsd σ.1) none).map (fun y => y - σ.1 7))) 1 I) := by
  have l0 : (0 : Int32) = nI 0 := rfl
  have l1 : (1 : Int32) = nI 1 := rfl
  have l3 : (3 : Int32) = nI 3 := rfl
  have l7 : (7 : Int32) = nI 7 := rfl
  have l245 : (245 : Int32) = nI 245 := rfl
  have lm : (-1 : Int32) = mI := rfl
  have cc : ∀ X : gO, ck 2746 245 X = X := fun X => by rw [l245, ckI (by decide) (by decide)]
  have c7 : ∀ X : gO, ck 2746 7 X = X := fun X => by rw [l7, ckI (by decide) (by decide)]
  have n245 : (245 : Int32).toNatClampNeg = 245 := by decide
  have n7 : (7 : Int32).toNatClampNeg = 7 := by decide
  have e7 : I 3 7 = nI (σ.1 7) := hr.1 7 (by decide)
  obtain ⟨c0, c1, c2, c3, c4, c5, c6, h7, c8⟩ := wfC hw
  obtain ⟨hl, hP⟩ := wfP hw
  have key : ∀ m i : Nat, i ≤ σ.2.length → σ.2.length - i < m → (∀ y, (σ.2.take i).foldl (lsd σ.1) none = some y → y < 2 ^ 31) → hX9_urgent_9 N m (lsI (((σ.2.take i).foldl (lsd σ.1) none).map (fun y => y - σ.1 7))) (nI i) I = (if gc_eq (lsI ((σ.2.foldl (lsd σ.1) none).map (fun y => y - σ.1 7))) (-1) = true then hX9_urgent_94 N (lsI ((σ.2.foldl (lsd σ.1) none).map (fun y => y - σ.1 7))) 0 I else hX9_urgent_94 N (lsI ((σ.2.foldl (lsd σ.1) none).map (fun y => y - σ.1 7))) 1 I) := by
    intro m
    induction m with
    | zero => intro i _ h; omega
    | succ m ih =>
      intro i hi hm hz
      by_cases hin : i = σ.2.length
      · rw [eX9_urgent_9, cc, n245, hr.2.1, if_pos ((cge (by omega) (by omega)).mpr (by omega)), hin, List.take_length]
      · obtain ⟨p, hp⟩ := get_s (show i < σ.2.length by omega)
        obtain ⟨p1, p2, p4, p5, p6⟩ := hP p (List.mem_of_getElem? hp)
        have hb : flp σ.1 p.1 3 ≤ 200 := (wfF hw p.1 p1).2.2.2.2.1
        have q0 : I 3 (246 + 5 * i + 0) = nI p.1 := hr.2.2 i p hp 0 (by decide)
        have q1 : I 3 (246 + 5 * i + 1) = nI p.2.1 := hr.2.2 i p hp 1 (by decide)
        have f3 : I 3 (65 + 11 * p.1 + 3) = nI (flp σ.1 p.1 3) := hr.1 _ (by omega)
        have s0 : hX9_urgent_9 N (m + 1) (lsI (((σ.2.take i).foldl (lsd σ.1) none).map (fun y => y - σ.1 7))) (nI i) I = hX9_urgent_40 N m (lsI (((σ.2.take i).foldl (lsd σ.1) none).map (fun y => y - σ.1 7))) (nI i) (nI (flp σ.1 p.1 3)) 0 (nI p.2.1) I := by
          rw [eX9_urgent_9, cc, n245, hr.2.1, if_neg (fun z => hin (by have := (cge (by omega) (by omega)).mp z; omega)), l0, r_packet (by omega), q0, l3, r_flow (by omega), f3, l1, r_packet (by omega), q1]
        have hnx := ih (i + 1) (by omega) (by omega)
        rw [take_s hp, List.foldl_append] at hnx
        have hz' := lsd_lt (r := σ.1) (p := p) hz (by omega)
        have hnx' : hX9_urgent_9 N m (lsI ((lsd σ.1 ((σ.2.take i).foldl (lsd σ.1) none) p).map (fun y => y - σ.1 7))) (nI (i + 1)) I = _ := hnx hz'
        rw [s0, eX9_urgent_40, c7, n7, e7]
        by_cases h0 : flp σ.1 p.1 3 = 0
        · have e : lsd σ.1 ((σ.2.take i).foldl (lsd σ.1) none) p = (σ.2.take i).foldl (lsd σ.1) none := if_pos h0
          rw [if_pos ((zle (by omega)).mpr h0), eX9_urgent_75, eX9_urgent_76, nI_s]
          rwa [e] at hnx'
        · have ea : gb_add (nI p.2.1) (nI (flp σ.1 p.1 3)) = nI (p.2.1 + flp σ.1 p.1 3) := nI_add _ _
          rw [if_neg (fun z => h0 ((zle (by omega)).mp z)), ea, jmax0 (by omega) (by omega), lm]
          cases hzz : (σ.2.take i).foldl (lsd σ.1) none with
          | none =>
            rw [hzz] at hnx'
            have e : lsd σ.1 none p = some (p.2.1 + flp σ.1 p.1 3) := if_neg h0
            rw [e] at hnx'
            rw [if_pos (show gc_eq (lsI (Option.map (fun y => y - σ.1 7) none)) mI = true from ceqmm.mpr True.intro), eX9_urgent_70, eX9_urgent_76, nI_s]
            exact hnx'
          | some y =>
            have hy := hz y hzz
            rw [hzz] at hnx'
            have e : lsd σ.1 (some y) p = if p.2.1 + flp σ.1 p.1 3 < y then some (p.2.1 + flp σ.1 p.1 3) else some y := if_neg h0
            rw [e] at hnx'
            have ey : lsI (Option.map (fun y => y - σ.1 7) (some y)) = nI (y - σ.1 7) := rfl
            rw [ey, if_neg (ceqm (a := y - σ.1 7) (by omega)).mp]
            by_cases hlt : p.2.1 + flp σ.1 p.1 3 < y
            · rw [if_pos hlt] at hnx'
              by_cases hge : y - σ.1 7 ≤ p.2.1 + flp σ.1 p.1 3 - σ.1 7
              · rw [if_pos ((cge (by omega) (by omega)).mpr hge), eX9_urgent_75, eX9_urgent_76, nI_s, show y - σ.1 7 = p.2.1 + flp σ.1 p.1 3 - σ.1 7 by omega]
                exact hnx'
              · rw [if_neg (fun z => hge ((cge (by omega) (by omega)).mp z)), eX9_urgent_70, eX9_urgent_76, nI_s]
                exact hnx'
            · rw [if_neg hlt] at hnx'
              rw [if_pos ((cge (by omega) (by omega)).mpr (by omega)), eX9_urgent_75, eX9_urgent_76, nI_s]
              exact hnx'
  exact key N 0 (Nat.zero_le _) (by omega) (fun y hy => by cases hy)
theorem j_urgent {N : Nat} {I J : gM} {a : AB} (h : IN I J a) (hN : 20000 ≤ N) : AG [eNS] (fX8_urgent N [.ref 0] I) (fX9_urgent N [.ref 0] J) := by
  obtain ⟨hc, hm, hw⟩ := h
  have hm' := hm.thr (x := 0)
  have hW := hw.1.1.1
  obtain ⟨c0, c1, c2, c3, c4, c5, c6, h7, c8⟩ := wfC hW
  obtain ⟨t1, t2⟩ := pX7_leastDeadline (N := N) (I := gS (rg 1 20) I) hc.1 c2 h7 (fun f hf => (wfF hW f hf).2.2.2.2.1) (fun q _ p hp => by
    obtain ⟨p1, p2, -⟩ := (wfP hW).2 p (List.mem_filter.mp hp).1
    exact ⟨p1, p2⟩) (by omega)
  have lm : (-1 : Int32) = mI := rfl
  rw [lsA_flat hW] at t1 t2
  rw [eX8_urgent, eX8_urgent_0, t1, hI_mk, gMg_same _ (by decide), hc.sl.1, eX9_urgent, eX9_urgent_0, pX9_urgent (N := N) (σ := a.1) (by exact hm'.1) hW (by omega)]
  cases hz : a.1.2.foldl (lsd a.1.1) none with
  | none =>
    rw [if_neg (show ¬ gc_ne (lsI none) (-1) = true from cnemm.mp), if_pos (show gc_eq (lsI (Option.map (fun y => y - a.1.1 7) none)) (-1) = true from ceqmm.mpr True.intro), eX9_urgent_94, m_f0, i_e1]
    exact AG.ex 0 rfl rfl rfl gU_us ⟨hc, hm'.thr, hw⟩
  | some y =>
    have hy := t2 y hz
    have ey : lsI (some y) = nI y := rfl
    have ez : lsI (Option.map (fun y => y - a.1.1 7) (some y)) = nI (y - a.1.1 7) := rfl
    rw [ey, ez, lm, if_pos ((cnem hy).mpr True.intro), if_neg (ceqm (a := y - a.1.1 7) (by omega)).mp, jmax0 hy (by omega), eX9_urgent_94, m_f1, i_e0]
    exact AG.ok rfl rfl gU_us ⟨hc, hm', hw⟩
