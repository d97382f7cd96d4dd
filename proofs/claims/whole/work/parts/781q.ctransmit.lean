/-! ===== the runner: all chosen links take, then bring over ===== -/
theorem gS27 {I : gM} {k : Nat} (h : k < 27) : gS (rg 0 27) I k = I k := by rw [gS_rg h (by decide), Nat.zero_add]
theorem gM27 {I J : gM} {k : Nat} (h : k < 27) : gMg (rg 0 27) I J k = J k := by
  have := gMg_rgi (b := 0) (n := 27) (I := I) (J := J) (j := k) h
  rwa [Nat.zero_add] at this
theorem st27 {I : gM} : ∀ k, k < 20 → gS (rg 7 20) (gS (rg 0 27) I) k = gS (rg 7 20) I k := fun k hk => by
  rw [gS7 hk, gS7 hk, gS27 (by omega)]
theorem st27m {I J : gM} : ∀ k, k < 20 → gS (rg 7 20) (gMg (rg 0 27) I J) k = gS (rg 7 20) J k := fun k hk => by
  rw [gS7 hk, gS7 hk, gM27 (by omega)]
def tkQ (r cm : Nat → Nat) (k : Nat) : Nat := lkp r k 0 * 10 + cm k
def tkS (S : Nat) (cm r : Nat → Nat) (qs : Nat → List Pk) : Nat → (Nat → Nat) × (Nat → List Pk)
  | 0 => (r, qs)
  | k + 1 => if S.testBit k = true then (takN (tkS S cm r qs k).1 k (tkQ r cm k) (min (lkp r k 2) ((tkS S cm r qs k).2 (tkQ r cm k)).length) (min (lkp r k 2) ((tkS S cm r qs k).1 (145 + tkQ r cm k))), upq (tkS S cm r qs k).2 (tkQ r cm k) (((tkS S cm r qs k).2 (tkQ r cm k)).drop (min (lkp r k 2) ((tkS S cm r qs k).2 (tkQ r cm k)).length))) else tkS S cm r qs k
def tkP (S : Nat) (cm r : Nat → Nat) (qs : Nat → List Pk) (k : Nat) : List Pk := ((tkS S cm r qs k).2 (tkQ r cm k)).take (min (lkp r k 2) ((tkS S cm r qs k).2 (tkQ r cm k)).length)
def tkA (S : Nat) (cm r : Nat → Nat) (qs : Nat → List Pk) (k : Nat) : Nat := min (lkp r k 2) ((tkS S cm r qs k).1 (145 + tkQ r cm k))
theorem takN_n {r : Nat → Nat} {k q n m x : Nat} (h1 : x ≠ 9 + 4 * k + 3) (h2 : x ≠ 145 + q) : takN r k q n m x = r x := by
  show up1 (up1 r _ _) _ _ x = r x
  rw [up1_n h2, up1_n h1]
theorem tkS_n (S : Nat) (cm r : Nat → Nat) (qs : Nat → List Pk) : ∀ k x, x < 145 → (∀ j, x ≠ 9 + 4 * j + 3) → (tkS S cm r qs k).1 x = r x
  | 0, _, _, _ => rfl
  | k + 1, x, h1, h2 => by
    unfold tkS
    by_cases hS : S.testBit k = true
    · rw [if_pos hS]
      show takN _ _ _ _ _ x = r x
      rw [takN_n (h2 k) (by omega), tkS_n S cm r qs k x h1 h2]
    · rw [if_neg hS, tkS_n S cm r qs k x h1 h2]
theorem tkS_le (S : Nat) (cm r : Nat → Nat) (qs : Nat → List Pk) : ∀ k q, q < 100 → (k ≤ 14) → (tkS S cm r qs k).1 (145 + q) ≤ r (145 + q)
  | 0, _, _, _ => Nat.le_refl _
  | k + 1, q, hq, hk => by
    have ih := tkS_le S cm r qs k q hq (by omega)
    unfold tkS
    by_cases hS : S.testBit k = true
    · rw [if_pos hS]
      show up1 (up1 (tkS S cm r qs k).1 _ _) _ _ (145 + q) ≤ _
      by_cases e : q = tkQ r cm k
      · subst e; rw [up1_s]; omega
      · rw [up1_n (by omega), up1_n (by omega)]; exact ih
    · rw [if_neg hS]; exact ih
theorem tkS_mem (S : Nat) (cm r : Nat → Nat) (qs : Nat → List Pk) : ∀ k q p, p ∈ (tkS S cm r qs k).2 q → p ∈ qs q
  | 0, _, _, h => h
  | k + 1, q, p, h => by
    unfold tkS at h
    by_cases hS : S.testBit k = true
    · rw [if_pos hS] at h
      have h' : p ∈ upq (tkS S cm r qs k).2 (tkQ r cm k) (((tkS S cm r qs k).2 (tkQ r cm k)).drop (min (lkp r k 2) ((tkS S cm r qs k).2 (tkQ r cm k)).length)) q := h
      by_cases e : q = tkQ r cm k
      · subst e
        rw [upq_s] at h'
        exact tkS_mem S cm r qs k _ p (List.mem_of_mem_drop h')
      · rw [upq_n e] at h'
        exact tkS_mem S cm r qs k q p h'
    · rw [if_neg hS] at h
      exact tkS_mem S cm r qs k q p h
theorem tkP_mem {S : Nat} {cm r : Nat → Nat} {qs : Nat → List Pk} {k : Nat} {p : Pk} (h : p ∈ tkP S cm r qs k) : p ∈ qs (tkQ r cm k) := tkS_mem S cm r qs k _ p (List.mem_of_mem_take h)
theorem tkP_len {S : Nat} {cm r : Nat → Nat} {qs : Nat → List Pk} {k : Nat} : (tkP S cm r qs k).length = min (lkp r k 2) ((tkS S cm r qs k).2 (tkQ r cm k)).length := by
  unfold tkP; rw [List.length_take]; omega
/-- what is under way of the links from i on -/
def trs (S : Nat) (ids : Nat → List Nat) (tp : Nat → List Pk) : Nat → Nat → List (Nat × Pk)
  | _, 0 => []
  | i, n + 1 => (if S.testBit i = true then (ids i).zip (tp i) else []) ++ trs S ids tp (i + 1) n
theorem trs_s (S : Nat) (ids : Nat → List Nat) (tp : Nat → List Pk) : ∀ n i, trs S ids tp i (n + 1) = trs S ids tp i n ++ (if S.testBit (i + n) = true then (ids (i + n)).zip (tp (i + n)) else [])
  | 0, i => by
    show _ ++ [] = [] ++ _
    rw [List.append_nil, List.nil_append]; rfl
  | n + 1, i => by
    have ih := trs_s S ids tp n (i + 1)
    show _ ++ trs S ids tp (i + 1) (n + 1) = (_ ++ trs S ids tp (i + 1) n) ++ _
    rw [ih, List.append_assoc, show i + 1 + n = i + (n + 1) by omega]
theorem trs_congr {S : Nat} {ids ids' : Nat → List Nat} {tp : Nat → List Pk} : ∀ (n i : Nat), (∀ j, i ≤ j → j < i + n → ids' j = ids j) → trs S ids' tp i n = trs S ids tp i n
  | 0, _, _ => rfl
  | n + 1, i, h => by
    show (if S.testBit i = true then (ids' i).zip (tp i) else []) ++ trs S ids' tp (i + 1) n = _
    rw [h i (Nat.le_refl _) (by omega), trs_congr n (i + 1) (fun j h1 h2 => h j (by omega) (by omega))]
    rfl
def upi (f : Nat → List Nat) (k : Nat) (l : List Nat) : Nat → List Nat := fun j => if j = k then l else f j
/-- what a run keeps of the links that took -/
def TK (S : Nat) (ids : Nat → List Nat) (tp : Nat → List Pk) (ta : Nat → Nat) (K : gM) (k : Nat) : Prop := ∀ j, j < k → S.testBit j = true → (ids j).length = (tp j).length ∧ (∀ (z x : Nat), (ids j)[z]? = some x → K 4 (j * 5 + z) = nI x) ∧ K 5 j = nI (tp j).length ∧ K 6 j = nI (ta j)
theorem transmit_take {N : Nat} {I : gM} {r cm : Nat → Nat} {qs : Nat → List Pk} {P S : Nat} (h : CT (gS (rg 7 20) I) r qs [] P) (h14 : r 1 ≤ 14) (h6 : r 2 ≤ 6) (hS : S < 2 ^ 14)
    (hl : ∀ k, k < r 1 → lkp r k 0 < 10 ∧ lkp r k 2 ≤ 5) (hc : ∀ k, k < r 1 → S.testBit k = true → cm k < 10 ∧ I 2 k = nI (cm k)) (hsh : ∀ q, q < 100 → r (145 + q) < 2 ^ 31) (hN : 1000 ≤ N) :
    ∃ (J : gM) (ids : Nat → List Nat), hX6_transmit_2 N N (nI S) 0 I = hX6_transmit_36 N N (nI S) 0 J ∧ CT (gS (rg 7 20) J) (tkS S cm r qs (r 1)).1 (tkS S cm r qs (r 1)).2 (trs S ids (tkP S cm r qs) 0 (r 1)) P ∧ TK S ids (tkP S cm r qs) (tkA S cm r qs) J (r 1) ∧ ∀ j, j < 4 → J j = I j := by
  have l0 : (0 : Int32) = nI 0 := rfl
  have l1 : (1 : Int32) = nI 1 := rfl
  have key : ∀ m i : Nat, i ≤ r 1 → r 1 - i < m → ∀ (K : gM) (ids : Nat → List Nat), CT (gS (rg 7 20) K) (tkS S cm r qs i).1 (tkS S cm r qs i).2 (trs S ids (tkP S cm r qs) 0 i) P → TK S ids (tkP S cm r qs) (tkA S cm r qs) K i → (∀ j, j < 4 → K j = I j) →
      ∃ (J : gM) (ids : Nat → List Nat), hX6_transmit_2 N m (nI S) (nI i) K = hX6_transmit_36 N N (nI S) 0 J ∧ CT (gS (rg 7 20) J) (tkS S cm r qs (r 1)).1 (tkS S cm r qs (r 1)).2 (trs S ids (tkP S cm r qs) 0 (r 1)) P ∧ TK S ids (tkP S cm r qs) (tkA S cm r qs) J (r 1) ∧ ∀ j, j < 4 → J j = I j := by
    intro m
    induction m with
    | zero => intro i _ h; omega
    | succ m ih =>
      intro i hi hm K ids hK hT hlo
      have n0 : ∀ x, x < 145 → (∀ j, x ≠ 9 + 4 * j + 3) → (tkS S cm r qs i).1 x = r x := tkS_n S cm r qs i
      have hlinks : K 8 1 = nI (r 1) := by
        have := hK.1.1.2.1
        rw [gS7 (by decide), n0 1 (by decide) (fun j => by omega)] at this
        exact this
      rw [eX6_transmit_2, hlinks, l1]
      by_cases hin : i = r 1
      · subst hin
        rw [if_pos ((cge (by omega) (by omega)).mpr (Nat.le_refl _))]
        exact ⟨K, ids, rfl, hK, hT, hlo⟩
      · have hir : i < r 1 := by omega
        have ebt : gb_and (gb_shr (nI S) (nI i)) (nI 1) = nI (bt S i) := btI (by omega) (by omega)
        have hbl := bt_lt S i
        rw [if_neg (fun z => hin (by have := (cge (by omega) (by omega)).mp z; omega)), ebt]
        by_cases hb : S.testBit i = true
        · rw [(bt_one S i).mpr hb, if_neg (by rw [cne (by decide) (by decide)]; exact fun z => z rfl)]
          obtain ⟨a1, a2⟩ := hl i hir
          obtain ⟨c1, c2⟩ := hc i hir hb
          have e0 : lkp (tkS S cm r qs i).1 i 0 = lkp r i 0 := n0 _ (by omega) (fun j => by omega)
          have e2 : lkp (tkS S cm r qs i).1 i 2 = lkp r i 2 := n0 _ (by omega) (fun j => by omega)
          have e3 : (tkS S cm r qs i).1 1 = r 1 := n0 1 (by decide) (fun j => by omega)
          have e4 : (tkS S cm r qs i).1 2 = r 2 := n0 2 (by decide) (fun j => by omega)
          have hq : tkQ r cm i < 100 := by unfold tkQ; omega
          have hle := tkS_le S cm r qs i (tkQ r cm i) hq (by omega)
          have hshi := hsh _ hq
          obtain ⟨J, il, j0, j1, j2, j3, j4, j5, j6, j7⟩ := pX6_takeFor (N := N) (I := gS (rg 0 27) K) (k := i) (c := cm i) (hK.congr st27) (by rw [e3]; exact h14) (by rw [e4]; exact h6) (by rw [e3]; exact hir) (by rw [e0]; exact a1) c1 (by rw [gS27 (by decide), hlo 2 (by decide)]; exact c2) (by rw [e2]; exact a2) (by rw [e0]; exact Nat.lt_of_le_of_lt hle hshi) hN
          rw [e0, e2] at j1 j2
          rw [e2, e0] at j5 j6
          rw [j0, hV_mk, eX6_transmit_28, l1, nI_add]
          have hlen : (tkP S cm r qs i).length = min (lkp r i 2) ((tkS S cm r qs i).2 (tkQ r cm i)).length := tkP_len
          have es : tkS S cm r qs (i + 1) = (takN (tkS S cm r qs i).1 i (tkQ r cm i) (min (lkp r i 2) ((tkS S cm r qs i).2 (tkQ r cm i)).length) (min (lkp r i 2) ((tkS S cm r qs i).1 (145 + tkQ r cm i))), upq (tkS S cm r qs i).2 (tkQ r cm i) (((tkS S cm r qs i).2 (tkQ r cm i)).drop (min (lkp r i 2) ((tkS S cm r qs i).2 (tkQ r cm i)).length))) := if_pos hb
          have eid : ∀ j, j < i → upi ids i il j = ids j := fun j hj => if_neg (by omega)
          have eii : upi ids i il i = il := if_pos rfl
          refine ih (i + 1) (by omega) (by omega) _ (upi ids i il) ?_ (fun j hj hbj => ?_) (fun j hj => ?_)
          · rw [es, trs_s, Nat.zero_add, if_pos hb, eii, trs_congr i 0 (fun j _ h2 => eid j (by omega))]
            exact CT.congr j2 st27m
          · by_cases ej : j = i
            · subst ej
              rw [eii]
              refine ⟨by rw [hlen]; exact j1, fun z x hz => ?_, ?_, ?_⟩
              · rw [gM27 (by decide)]; exact j3 z x hz
              · rw [gM27 (by decide), j5, pk_us, hlen]; rfl
              · rw [gM27 (by decide), j6, pk_us]; rfl
            · obtain ⟨b1, b2, b3, b4⟩ := hT j (by omega) hbj
              rw [eid j (by omega)]
              have hlj : (tkP S cm r qs j).length ≤ 5 := by
                rw [tkP_len]
                have := (hl j (by omega)).2
                omega
              refine ⟨b1, fun z x hz => ?_, ?_, ?_⟩
              · have hz1 := (List.getElem?_eq_some_iff.mp hz).1
                rw [gM27 (by decide), j4 _ (by omega), gS27 (by decide)]
                exact b2 z x hz
              · rw [gM27 (by decide), j5, pk_un ej, gS27 (by decide)]; exact b3
              · rw [gM27 (by decide), j6, pk_un ej, gS27 (by decide)]; exact b4
          · rw [gM27 (by omega), j7 j hj, gS27 (by omega)]; exact hlo j hj
        · have hb0 : bt S i = 0 := by
            have : ¬ bt S i = 1 := fun z => hb ((bt_one S i).mp z)
            omega
          rw [hb0, if_pos (by rw [cne (by decide) (by decide)]; decide), eX6_transmit_28, l1, nI_add]
          have es : tkS S cm r qs (i + 1) = tkS S cm r qs i := if_neg hb
          refine ih (i + 1) (by omega) (by omega) K ids ?_ (fun j hj hbj => ?_) hlo
          · rw [es, trs_s, Nat.zero_add, if_neg hb, List.append_nil]; exact hK
          · by_cases ej : j = i
            · subst ej; exact absurd hbj hb
            · exact hT j (by omega) hbj
  exact key N 0 (Nat.zero_le _) (by omega) I (fun _ => []) h (fun j hj => absurd hj (Nat.not_lt_zero _)) (fun _ _ => rfl)
