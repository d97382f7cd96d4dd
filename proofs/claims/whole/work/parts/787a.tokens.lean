/-! ===== tokens of a text: what both sides read ===== -/
def tzL (c : Nat) : Bool := decide (97 ≤ c) && decide (c ≤ 122)
def tzD (c : Nat) : Bool := decide (48 ≤ c) && decide (c ≤ 57)
def tzB (c : Nat) : Bool := decide (c = 32)
def tzK (c : Nat) : Nat := if tzL c = true then 1 else if tzD c = true then 2 else 3
theorem tzL_t {c : Nat} : tzL c = true ↔ 97 ≤ c ∧ c ≤ 122 := by
  unfold tzL
  rw [Bool.and_eq_true, decide_eq_true_eq, decide_eq_true_eq]
theorem tzD_t {c : Nat} : tzD c = true ↔ 48 ≤ c ∧ c ≤ 57 := by
  unfold tzD
  rw [Bool.and_eq_true, decide_eq_true_eq, decide_eq_true_eq]
theorem tzK_1 {c : Nat} : tzK c = 1 ↔ tzL c = true := by
  unfold tzK
  by_cases h : tzL c = true
  · rw [if_pos h]; exact ⟨fun _ => h, fun _ => rfl⟩
  · rw [if_neg h]
    refine ⟨fun z => ?_, fun z => absurd z h⟩
    by_cases h2 : tzD c = true
    · rw [if_pos h2] at z; omega
    · rw [if_neg h2] at z; omega
theorem tzK_2 {c : Nat} : tzK c = 2 ↔ tzD c = true := by
  unfold tzK
  by_cases h : tzL c = true
  · rw [if_pos h]
    refine ⟨fun z => by omega, fun z => ?_⟩
    have h1 := tzL_t.mp h
    have h2 := tzD_t.mp z
    omega
  · rw [if_neg h]
    by_cases h2 : tzD c = true
    · rw [if_pos h2]; exact ⟨fun _ => h2, fun _ => rfl⟩
    · rw [if_neg h2]; exact ⟨fun z => by omega, fun z => absurd z h2⟩
theorem tzK_le (c : Nat) : 1 ≤ tzK c ∧ tzK c ≤ 3 := by
  unfold tzK
  split
  · omega
  · split <;> omega
/-- from p on as long as f holds -/
def tzR (f : Nat → Bool) (l : List Nat) (p : Nat) : Nat := p + ((l.drop p).takeWhile f).length
theorem tzR_go {f : Nat → Bool} {l : List Nat} {p c : Nat} (h : l[p]? = some c) (hf : f c = true) : tzR f l p = tzR f l (p + 1) := by
  obtain ⟨hlt, e⟩ := List.getElem?_eq_some_iff.mp h
  unfold tzR
  rw [List.drop_eq_getElem_cons hlt, e, List.takeWhile_cons, if_pos hf, List.length_cons]
  omega
theorem tzR_no {f : Nat → Bool} {l : List Nat} {p c : Nat} (h : l[p]? = some c) (hf : f c = false) : tzR f l p = p := by
  obtain ⟨hlt, e⟩ := List.getElem?_eq_some_iff.mp h
  unfold tzR
  rw [List.drop_eq_getElem_cons hlt, e, List.takeWhile_cons, if_neg (by rw [hf]; decide)]
  rfl
theorem tzR_end {f : Nat → Bool} {l : List Nat} {p : Nat} (h : l.length ≤ p) : tzR f l p = p := by
  unfold tzR
  rw [List.drop_eq_nil_of_le h]
  rfl
theorem tzR_ge (f : Nat → Bool) (l : List Nat) (p : Nat) : p ≤ tzR f l p := Nat.le_add_right _ _
theorem tzR_le {f : Nat → Bool} {l : List Nat} : ∀ k p : Nat, l.length - p = k → p ≤ l.length → tzR f l p ≤ l.length
  | 0, p, h, hp => by rw [tzR_end (by omega)]; exact hp
  | k + 1, p, h, hp => by
    obtain ⟨c, hc⟩ := get_s (l := l) (i := p) (by omega)
    cases hf : f c with
    | false => rw [tzR_no hc hf]; exact hp
    | true => rw [tzR_go hc hf]; exact tzR_le k (p + 1) (by omega) (by omega)
/-- the token behind p: its start, its kind, its end, its number -/
def tzS (l : List Nat) (p : Nat) : Nat := tzR tzB l p
def tzC (l : List Nat) (s : Nat) : Nat := match l[s]? with
  | none => 0
  | some c => tzK c
def tzE (l : List Nat) (s : Nat) : Nat := match l[s]? with
  | none => s
  | some c => if tzL c = true then tzR tzL l s else if tzD c = true then tzR tzD l s else s + 1
def tzV (l : List Nat) (s : Nat) : Nat → Nat
  | 0 => 0
  | k + 1 => 10 * tzV l s k + (l.getD (s + k) 0 - 48)
def tzW (l : List Nat) (s k : Nat) : Nat := if k ≤ 3 then tzV l s k else 1000
def tzN (l : List Nat) (s : Nat) : Nat := match l[s]? with
  | none => 0
  | some c => if tzL c = true then 0 else if tzD c = true then tzW l s (tzE l s - s) else c
theorem tzV_lt {l : List Nat} {s : Nat} (h : ∀ x, x ∈ l → x < 256) : ∀ k, tzV l s k + 30 ≤ 300 * 10 ^ k
  | 0 => by
    show 0 + 30 ≤ 300 * 10 ^ 0
    decide
  | k + 1 => by
    have ih := tzV_lt (s := s) h k
    have h2 : l.getD (s + k) 0 < 256 := by
      rw [List.getD_eq_getElem?_getD]
      cases hx : l[s + k]? with
      | none => decide
      | some x => exact h x (List.mem_of_getElem? hx)
    have hp : 1 ≤ 10 ^ k := Nat.one_le_pow _ _ (by decide)
    show 10 * tzV l s k + (l.getD (s + k) 0 - 48) + 30 ≤ 300 * 10 ^ (k + 1)
    rw [Nat.pow_succ]
    omega
theorem tzW_lt {l : List Nat} {s : Nat} (h : ∀ x, x ∈ l → x < 256) (k : Nat) : tzW l s k < 300001 := by
  unfold tzW
  by_cases hk : k ≤ 3
  · rw [if_pos hk]
    have h1 := tzV_lt (s := s) h k
    have h2 : 10 ^ k ≤ 10 ^ 3 := Nat.pow_le_pow_right (by decide) hk
    omega
  · rw [if_neg hk]; decide
theorem tzS_ge (l : List Nat) (p : Nat) : p ≤ tzS l p := tzR_ge _ _ _
theorem tzS_le {l : List Nat} {p : Nat} (h : p ≤ l.length) : tzS l p ≤ l.length := tzR_le _ _ rfl h
theorem tzE_le {l : List Nat} {s : Nat} (h : s ≤ l.length) : tzE l s ≤ l.length := by
  unfold tzE
  cases hc : l[s]? with
  | none => exact h
  | some c =>
    have := (List.getElem?_eq_some_iff.mp hc).1
    show (if tzL c = true then tzR tzL l s else if tzD c = true then tzR tzD l s else s + 1) ≤ _
    split
    · exact tzR_le _ _ rfl h
    · split
      · exact tzR_le _ _ rfl h
      · omega
theorem tzE_gt {l : List Nat} {s : Nat} (h : tzC l s ≠ 0) : s < tzE l s := by
  unfold tzC at h
  unfold tzE
  cases hc : l[s]? with
  | none => rw [hc] at h; exact absurd rfl h
  | some c =>
    show s < (if tzL c = true then tzR tzL l s else if tzD c = true then tzR tzD l s else s + 1)
    by_cases h1 : tzL c = true
    · rw [if_pos h1, tzR_go hc h1]
      have := tzR_ge tzL l (s + 1)
      omega
    · rw [if_neg h1]
      by_cases h2 : tzD c = true
      · rw [if_pos h2, tzR_go hc h2]
        have := tzR_ge tzD l (s + 1)
        omega
      · rw [if_neg h2]; omega
theorem tzE_ge (l : List Nat) (s : Nat) : s ≤ tzE l s := by
  by_cases h : tzC l s = 0
  · unfold tzC at h
    unfold tzE
    cases hc : l[s]? with
    | none => exact Nat.le_refl _
    | some c =>
      rw [hc] at h
      have := (tzK_le c).1
      have h' : tzK c = 0 := h
      omega
  · have := tzE_gt h; omega
/-! ===== the class reads a token ===== -/
theorem pX5_kindOf {N c : Nat} {I : gM} (hc : c < 256) : fX5_kindOf N [.int (nI c)] I = some (.inl (some (.int (nI (tzK c)))), I) := by
  have l97 : (97 : Int32) = nI 97 := rfl
  have l122 : (122 : Int32) = nI 122 := rfl
  have l48 : (48 : Int32) = nI 48 := rfl
  have l57 : (57 : Int32) = nI 57 := rfl
  have e14 : tzL c = false → hX5_kindOf_14 N (nI c) I = some (.inl (some (.int (nI (tzK c)))), I) := fun hl => by
    rw [eX5_kindOf_14, l48, l57]
    have nl : ¬ tzL c = true := by rw [hl]; decide
    have k3 : ¬ tzD c = true → tzK c = 3 := fun nd => by unfold tzK; rw [if_neg nl, if_neg nd]
    by_cases h1 : c < 48
    · rw [if_pos ((clt (by omega) (by decide)).mpr h1), k3 (fun z => by have := tzD_t.mp z; omega)]; rfl
    · rw [if_neg (fun z => h1 ((clt (by omega) (by decide)).mp z))]
      by_cases h2 : 57 < c
      · rw [if_pos ((cgt (by omega) (by decide)).mpr h2), k3 (fun z => by have := tzD_t.mp z; omega)]; rfl
      · have k2 : tzK c = 2 := tzK_2.mpr (tzD_t.mpr ⟨by omega, by omega⟩)
        rw [if_neg (fun z => h2 ((cgt (by omega) (by decide)).mp z)), k2]; rfl
  rw [eX5_kindOf, eX5_kindOf_0, l97, l122]
  by_cases h1 : c < 97
  · rw [if_pos ((clt (by omega) (by decide)).mpr h1)]
    exact e14 (Bool.eq_false_iff.mpr (fun z => by have := tzL_t.mp z; omega))
  · rw [if_neg (fun z => h1 ((clt (by omega) (by decide)).mp z))]
    by_cases h2 : 122 < c
    · rw [if_pos ((cgt (by omega) (by decide)).mpr h2)]
      exact e14 (Bool.eq_false_iff.mpr (fun z => by have := tzL_t.mp z; omega))
    · rw [if_neg (fun z => h2 ((cgt (by omega) (by decide)).mp z))]
      have : tzK c = 1 := tzK_1.mpr (tzL_t.mpr ⟨by omega, by omega⟩)
      rw [this]; rfl
theorem k_kind {N c : Nat} {I : gM} {K : Int32 → gM → gO} (hc : c < 256) : hI (fX5_kindOf N [.int (nI c)] (gS [] I)) [] I K = K (nI (tzK c)) I := by
  rw [pX5_kindOf hc, hI_mk, gS_nil]
theorem BFx.pos {I J : gM} {l : List Nat} (h : BFx I l) (h0 : J 0 2 = I 0 2) (h1 : J 1 = I 1) : BFx J l := ⟨h0.trans h.1, fun j x hx => by rw [h1]; exact h.2 j x hx⟩
def TXT (l : List Nat) : Prop := l.length ≤ 700 ∧ ∀ x, x ∈ l → x < 256
theorem TXT.at {l : List Nat} (h : TXT l) {p c : Nat} (hc : l[p]? = some c) : p < 700 ∧ c < 256 := by
  have h1 := (List.getElem?_eq_some_iff.mp hc).1
  exact ⟨by have := h.1; omega, h.2 c (List.mem_of_getElem? hc)⟩
theorem ct_skip {N : Nat} {l : List Nat} (hT : TXT l) : ∀ m p : Nat, p ≤ l.length → l.length - p < m → ∀ I : gM, BFx I l → I 0 3 = nI p → ∃ J, hX5_nextToken_0 N m I = hX5_nextToken_38 N J ∧ J 0 3 = nI (tzS l p) ∧ (∀ j, j ≠ 3 → J 0 j = I 0 j) ∧ ∀ q, q ≠ 0 → J q = I q := by
  have l32 : (32 : Int32) = nI 32 := rfl
  have hT1 := hT.1
  intro m
  induction m with
  | zero => intro p _ h; omega
  | succ m ih =>
    intro p hp hm I hB h3
    rw [eX5_nextToken_0, h3, hB.1]
    by_cases hin : p = l.length
    · rw [if_pos ((cge (by omega) (by omega)).mpr (by omega))]
      exact ⟨I, rfl, by rw [h3]; unfold tzS; rw [tzR_end (by omega)], fun _ _ => rfl, fun _ _ => rfl⟩
    · obtain ⟨c, hc⟩ := get_s (l := l) (i := p) (by omega)
      obtain ⟨p7, c2⟩ := hT.at hc
      rw [if_neg (fun z => by have := (cge (a := p) (b := l.length) (by omega) (by omega)).mp z; omega), ckI p7 (by decide), nI_clamp (by omega), hB.2 p c hc, l32]
      by_cases h : c = 32
      · have ea : gb_add (nI p) 1 = nI (p + 1) := nI_add _ 1
        rw [if_neg (fun z => (cne (by omega) (by decide)).mp z h), ea]
        obtain ⟨J, j0, j1, j2, j3⟩ := ih (p + 1) (by omega) (by omega) (gU I 0 3 (nI (p + 1))) (hB.pos (gU_un (Or.inr (by decide))) (gU_ok (by decide))) gU_us
        exact ⟨J, j0, by rw [j1]; unfold tzS; rw [tzR_go (f := tzB) hc (decide_eq_true h)], fun j hj => by rw [j2 j hj, gU_un (Or.inr hj)], fun q hq => by rw [j3 q hq, gU_ok hq]⟩
      · rw [if_pos ((cne (by omega) (by decide)).mpr h)]
        exact ⟨I, rfl, by rw [h3]; unfold tzS; rw [tzR_no (f := tzB) hc (decide_eq_false h)], fun _ _ => rfl, fun _ _ => rfl⟩
theorem ct_word {N : Nat} {l : List Nat} (hT : TXT l) : ∀ m p : Nat, p ≤ l.length → l.length - p < m → ∀ I : gM, BFx I l → I 0 3 = nI p → I 0 4 = nI 1 → ∃ J, hX5_nextToken_114 N m I = some (.inl none, J) ∧ J 0 3 = nI (tzR tzL l p) ∧ (∀ j, j ≠ 3 → J 0 j = I 0 j) ∧ ∀ q, q ≠ 0 → J q = I q := by
  have l2 : (2 : Int32) = nI 2 := rfl
  have hT1 := hT.1
  intro m
  induction m with
  | zero => intro p _ h; omega
  | succ m ih =>
    intro p hp hm I hB h3 h4
    rw [eX5_nextToken_114, h3, hB.1]
    by_cases hin : p = l.length
    · rw [if_pos ((cge (by omega) (by omega)).mpr (by omega))]
      exact ⟨I, rfl, by rw [h3, tzR_end (by omega)], fun _ _ => rfl, fun _ _ => rfl⟩
    · obtain ⟨c, hc⟩ := get_s (l := l) (i := p) (by omega)
      obtain ⟨p7, c2⟩ := hT.at hc
      have hk := tzK_le c
      rw [if_neg (fun z => by have := (cge (a := p) (b := l.length) (by omega) (by omega)).mp z; omega), ckI p7 (by decide), nI_clamp (by omega), hB.2 p c hc, k_kind c2, h4]
      by_cases h : tzK c = 1
      · have ea : gb_add (nI p) 1 = nI (p + 1) := nI_add _ 1
        rw [if_neg (fun z => (cne (by omega) (by decide)).mp z h), l2, if_pos ((cne (a := 1) (b := 2) (by decide) (by decide)).mpr (by decide)), eX5_nextToken_205, h3, ea]
        obtain ⟨J, j0, j1, j2, j3⟩ := ih (p + 1) (by omega) (by omega) (gU I 0 3 (nI (p + 1))) (hB.pos (gU_un (Or.inr (by decide))) (gU_ok (by decide))) gU_us (by rw [gU_un (Or.inr (by decide))]; exact h4)
        exact ⟨J, j0, by rw [j1, tzR_go hc (tzK_1.mp h)], fun j hj => by rw [j2 j hj, gU_un (Or.inr hj)], fun q hq => by rw [j3 q hq, gU_ok hq]⟩
      · rw [if_pos ((cne (by omega) (by decide)).mpr h)]
        exact ⟨I, rfl, by rw [h3, tzR_no hc (Bool.eq_false_iff.mpr (fun z => h (tzK_1.mpr z)))], fun _ _ => rfl, fun _ _ => rfl⟩
theorem ct_num {N s : Nat} {l : List Nat} (hT : TXT l) : ∀ m p : Nat, s ≤ p → p ≤ l.length → l.length - p < m → ∀ I : gM, BFx I l → I 0 3 = nI p → I 0 4 = nI 2 → I 0 5 = nI s → I 0 6 = nI (tzW l s (p - s)) → ∃ J, hX5_nextToken_114 N m I = some (.inl none, J) ∧ J 0 3 = nI (tzR tzD l p) ∧ J 0 6 = nI (tzW l s (tzR tzD l p - s)) ∧ (∀ j, j ≠ 3 → j ≠ 6 → J 0 j = I 0 j) ∧ ∀ q, q ≠ 0 → J q = I q := by
  have l2 : (2 : Int32) = nI 2 := rfl
  have l3 : (3 : Int32) = nI 3 := rfl
  have hT1 := hT.1
  intro m
  induction m with
  | zero => intro p _ _ h; omega
  | succ m ih =>
    intro p hs hp hm I hB h3 h4 h5 h6
    rw [eX5_nextToken_114, h3, hB.1]
    by_cases hin : p = l.length
    · rw [if_pos ((cge (by omega) (by omega)).mpr (by omega))]
      exact ⟨I, rfl, by rw [h3, tzR_end (by omega)], by rw [h6, tzR_end (by omega)], fun _ _ _ => rfl, fun _ _ => rfl⟩
    · obtain ⟨c, hc⟩ := get_s (l := l) (i := p) (by omega)
      obtain ⟨p7, c2⟩ := hT.at hc
      have hk := tzK_le c
      rw [if_neg (fun z => by have := (cge (a := p) (b := l.length) (by omega) (by omega)).mp z; omega), ckI p7 (by decide), nI_clamp (by omega), hB.2 p c hc, k_kind c2, h4]
      by_cases h : tzK c = 2
      · have hd := tzD_t.mp (tzK_2.mp h)
        have ea : gb_add (nI p) 1 = nI (p + 1) := nI_add _ 1
        have es : gb_sub (nI p) (nI s) = nI (p - s) := pk_sub hs
        have hgo : ∀ v : Int32, v = nI (tzW l s (p + 1 - s)) → ∃ J, hX5_nextToken_202 N m v I = some (.inl none, J) ∧ J 0 3 = nI (tzR tzD l p) ∧ J 0 6 = nI (tzW l s (tzR tzD l p - s)) ∧ (∀ j, j ≠ 3 → j ≠ 6 → J 0 j = I 0 j) ∧ ∀ q, q ≠ 0 → J q = I q := fun v hv => by
          obtain ⟨J, j0, j1, j2, j3, j4⟩ := ih (p + 1) (by omega) (by omega) (by omega) (gU (gU I 0 6 v) 0 3 (nI (p + 1))) (hB.pos (by rw [gU_un (Or.inr (by decide)), gU_un (Or.inr (by decide))]) (by rw [gU_ok (by decide), gU_ok (by decide)])) gU_us (by rw [gU_un (Or.inr (by decide)), gU_un (Or.inr (by decide))]; exact h4) (by rw [gU_un (Or.inr (by decide)), gU_un (Or.inr (by decide))]; exact h5) (by rw [gU_un (Or.inr (by decide)), gU_us]; exact hv)
          rw [eX5_nextToken_202, eX5_nextToken_205, gU_un (Or.inr (by decide)), h3, ea]
          exact ⟨J, j0, by rw [j1, tzR_go hc (tzK_2.mp h)], by rw [j2, tzR_go hc (tzK_2.mp h)], fun j j3' j6 => by rw [j3 j j3' j6, gU_un (Or.inr j3'), gU_un (Or.inr j6)], fun q hq => by rw [j4 q hq, gU_ok hq, gU_ok hq]⟩
        rw [if_neg (fun z => (cne (by omega) (by decide)).mp z h), l2, if_neg (fun z => (cne (a := 2) (b := 2) (by decide) (by decide)).mp z rfl), h3, h5, es, l3]
        by_cases h33 : 3 ≤ p - s
        · rw [if_pos ((cge (by omega) (by decide)).mpr h33), eX5_nextToken_170, i_e0]
          exact hgo 1000 (by unfold tzW; rw [if_neg (by omega)]; rfl)
        · rw [if_neg (fun z => h33 ((cge (by omega) (by decide)).mp z)), eX5_nextToken_170, i_e1, h3, ckI p7 (by decide), nI_clamp (by omega), hB.2 p c hc, h6]
          refine hgo _ ?_
          have e1 : gb_mul 10 (nI (tzW l s (p - s))) = nI (10 * tzW l s (p - s)) := pk_mul 10 _
          have e2 : gb_add (nI (10 * tzW l s (p - s))) (nI c) = nI (10 * tzW l s (p - s) + c) := nI_add _ _
          have e3 : gb_sub (nI (10 * tzW l s (p - s) + c)) 48 = nI (10 * tzW l s (p - s) + c - 48) := pk_sub (a := 10 * tzW l s (p - s) + c) (b := 48) (by omega)
          rw [e1, e2, e3]
          congr 1
          unfold tzW
          rw [if_pos (by omega), if_pos (by omega), show p + 1 - s = (p - s) + 1 by omega]
          show _ = 10 * tzV l s (p - s) + (l.getD (s + (p - s)) 0 - 48)
          rw [List.getD_eq_getElem?_getD, show s + (p - s) = p by omega, hc]
          show _ = 10 * tzV l s (p - s) + (c - 48)
          omega
      · rw [if_pos ((cne (by omega) (by decide)).mpr h)]
        have hf : tzD c = false := Bool.eq_false_iff.mpr (fun z => h (tzK_2.mpr z))
        exact ⟨I, rfl, by rw [h3, tzR_no hc hf], by rw [h6, tzR_no hc hf], fun _ _ _ => rfl, fun _ _ => rfl⟩
theorem pX5_nextToken {N p : Nat} {l : List Nat} {I : gM} (hT : TXT l) (hN : 1000 ≤ N) (hB : BFx I l) (h3 : I 0 3 = nI p) (hp : p ≤ l.length) : ∃ J, fX5_nextToken N [.ref 0] I = some (.inl none, J) ∧ J 0 3 = nI (tzE l (tzS l p)) ∧ J 0 4 = nI (tzC l (tzS l p)) ∧ J 0 5 = nI (tzS l p) ∧ J 0 6 = nI (tzN l (tzS l p)) ∧ (∀ j, j ≠ 3 → j ≠ 4 → j ≠ 5 → j ≠ 6 → J 0 j = I 0 j) ∧ ∀ q, q ≠ 0 → J q = I q := by
  have hT1 := hT.1
  have l0 : (0 : Int32) = nI 0 := rfl
  have l3 : (3 : Int32) = nI 3 := rfl
  obtain ⟨A, a0, a1, a2, a3⟩ := ct_skip (N := N) hT N p hp (by omega) I hB h3
  have hBA : BFx A l := hB.pos (a2 2 (by decide)) (a3 1 (by decide))
  have hs := tzS_le hp
  rw [eX5_nextToken, a0, eX5_nextToken_38, a1, hBA.1]
  generalize tzS l p = s at a1 hs ⊢
  have hB3 : ∀ v : Int32, BFx (gU (gU (gU A 0 5 (nI s)) 0 6 0) 0 4 v) l := fun v => hBA.pos (by rw [gU_un (Or.inr (by decide)), gU_un (Or.inr (by decide)), gU_un (Or.inr (by decide))]) (by rw [gU_ok (by decide), gU_ok (by decide), gU_ok (by decide)])
  have r3 : ∀ v : Int32, gU (gU (gU A 0 5 (nI s)) 0 6 0) 0 4 v 0 3 = nI s := fun v => by rw [gU_un (Or.inr (by decide)), gU_un (Or.inr (by decide)), gU_un (Or.inr (by decide)), a1]
  have r5 : ∀ v : Int32, gU (gU (gU A 0 5 (nI s)) 0 6 0) 0 4 v 0 5 = nI s := fun v => by rw [gU_un (Or.inr (by decide)), gU_un (Or.inr (by decide)), gU_us]
  have r6 : ∀ v : Int32, gU (gU (gU A 0 5 (nI s)) 0 6 0) 0 4 v 0 6 = 0 := fun v => by rw [gU_un (Or.inr (by decide)), gU_us]
  have rj : ∀ (v : Int32) (j : Nat), j ≠ 3 → j ≠ 4 → j ≠ 5 → j ≠ 6 → gU (gU (gU A 0 5 (nI s)) 0 6 0) 0 4 v 0 j = I 0 j := fun v j j3 j4 j5 j6 => by rw [gU_un (Or.inr j4), gU_un (Or.inr j6), gU_un (Or.inr j5), a2 j j3]
  have rq : ∀ (v : Int32) (q : Nat), q ≠ 0 → gU (gU (gU A 0 5 (nI s)) 0 6 0) 0 4 v q = I q := fun v q hq => by rw [gU_ok hq, gU_ok hq, gU_ok hq, a3 q hq]
  have y3 : gU (gU A 0 5 (nI s)) 0 6 0 0 3 = nI s := by rw [gU_un (Or.inr (by decide)), gU_un (Or.inr (by decide)), a1]
  have y1 : ∀ j, gU (gU A 0 5 (nI s)) 0 6 0 1 j = A 1 j := fun j => by rw [gU_ok (by decide), gU_ok (by decide)]
  by_cases hin : s = l.length
  · have hn : l[s]? = none := List.getElem?_eq_none (by omega)
    have hC : tzC l s = 0 := by unfold tzC; rw [hn]
    have hE : tzE l s = s := by unfold tzE; rw [hn]
    have hV : tzN l s = 0 := by unfold tzN; rw [hn]
    have e114 : hX5_nextToken_114 N N (gU (gU (gU A 0 5 (nI s)) 0 6 0) 0 4 0) = some (.inl none, gU (gU (gU A 0 5 (nI s)) 0 6 0) 0 4 0) := by
      obtain ⟨k, hk⟩ : ∃ k, N = k + 1 := ⟨N - 1, by omega⟩
      have := eX5_nextToken_114 N k (gU (gU (gU A 0 5 (nI s)) 0 6 0) 0 4 0)
      rw [← hk, r3, (hB3 0).1, if_pos ((cge (by omega) (by omega)).mpr (by omega))] at this
      exact this
    rw [if_pos ((cge (by omega) (by omega)).mpr (by omega)), eX5_nextToken_79, if_pos (c := gc_ne 0 3 = true) (by decide), e114, hC, hE, hV]
    exact ⟨_, rfl, r3 0, gU_us, r5 0, r6 0, fun j j3 j4 j5 j6 => rj 0 j j3 j4 j5 j6, fun q hq => rq 0 q hq⟩
  · obtain ⟨c, hc⟩ := get_s (l := l) (i := s) (by omega)
    obtain ⟨p7, c2⟩ := hT.at hc
    have hC : tzC l s = tzK c := by unfold tzC; rw [hc]
    rw [if_neg (fun z => by have := (cge (a := s) (b := l.length) (by omega) (by omega)).mp z; omega), ckI p7 (by decide), nI_clamp (by omega), hBA.2 s c hc, k_kind c2, eX5_nextToken_79, hC]
    have hk := tzK_le c
    by_cases k1 : tzK c = 1
    · have hE : tzE l s = tzR tzL l s := by unfold tzE; rw [hc]; exact if_pos (tzK_1.mp k1)
      have hV : tzN l s = 0 := by unfold tzN; rw [hc]; exact if_pos (tzK_1.mp k1)
      obtain ⟨J, j0, j1, j2, j3⟩ := ct_word (N := N) hT N s hs (by omega) _ (hB3 (nI 1)) (r3 _) gU_us
      rw [k1, if_pos (c := gc_ne (nI 1) 3 = true) (by decide), hE, hV]
      exact ⟨J, j0, j1, by rw [j2 4 (by decide), gU_us], by rw [j2 5 (by decide), r5], by rw [j2 6 (by decide), r6]; rfl, fun j a b c d => by rw [j2 j a, rj _ j a b c d], fun q hq => by rw [j3 q hq, rq _ q hq]⟩
    · by_cases k2 : tzK c = 2
      · have nl : ¬ tzL c = true := fun z => k1 (tzK_1.mpr z)
        have hE : tzE l s = tzR tzD l s := by unfold tzE; rw [hc]; exact (if_neg nl).trans (if_pos (tzK_2.mp k2))
        have hV : tzN l s = tzW l s (tzE l s - s) := by unfold tzN; rw [hc]; exact (if_neg nl).trans (if_pos (tzK_2.mp k2))
        obtain ⟨J, j0, j1, j2, j3, j4⟩ := ct_num (N := N) (s := s) hT N s (Nat.le_refl _) hs (by omega) _ (hB3 (nI 2)) (r3 _) gU_us (r5 _) (by rw [r6, Nat.sub_self]; rfl)
        rw [k2, if_pos (c := gc_ne (nI 2) 3 = true) (by decide), hV, hE]
        exact ⟨J, j0, j1, by rw [j3 4 (by decide) (by decide), gU_us], by rw [j3 5 (by decide) (by decide), r5], j2, fun j a b c d => by rw [j3 j a d, rj _ j a b c d], fun q hq => by rw [j4 q hq, rq _ q hq]⟩
      · have k3 : tzK c = 3 := by omega
        have nl : ¬ tzL c = true := fun z => k1 (tzK_1.mpr z)
        have nd : ¬ tzD c = true := fun z => k2 (tzK_2.mpr z)
        have hE : tzE l s = s + 1 := by unfold tzE; rw [hc]; exact (if_neg nl).trans (if_neg nd)
        have hV : tzN l s = c := by unfold tzN; rw [hc]; exact (if_neg nl).trans (if_neg nd)
        have ea : gb_add (nI s) 1 = nI (s + 1) := nI_add _ 1
        rw [k3, if_neg (c := gc_ne (nI 3) 3 = true) (by decide), hE, hV, y3, ckI p7 (by decide), nI_clamp (by omega), y1, hBA.2 s c hc, ea]
        refine ⟨_, rfl, gU_us, ?_, ?_, ?_, fun j j3 j4 j5 j6 => ?_, fun q hq => ?_⟩
        · rw [gU_un (Or.inr (by decide)), gU_un (Or.inr (by decide)), gU_us]
        · rw [gU_un (Or.inr (by decide)), gU_un (Or.inr (by decide)), r5]
        · rw [gU_un (Or.inr (by decide)), gU_us]
        · rw [gU_un (Or.inr j3), gU_un (Or.inr j6), rj _ j j3 j4 j5 j6]
        · rw [gU_ok hq, gU_ok hq, rq _ q hq]
