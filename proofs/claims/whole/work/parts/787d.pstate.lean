/-! ===== reading a text: the state of both sides, their small steps ===== -/
theorem g11S {I : gM} {j : Nat} (h : j < 11) : gS (rg 0 11) I j = I j := by rw [gS_b h (by decide), Nat.zero_add]
theorem g11M {I J : gM} {k : Nat} (h : k < 11) : gMg (rg 0 11) I J k = J k := by
  have e := gMg_rgi (b := 0) (n := 11) (I := I) (J := J) h
  rwa [Nat.zero_add] at e
theorem g11s (I : gM) : gMg (rg 0 11) I (gS (rg 0 11) I) = I := gMg_same I (by decide)
theorem g29s (I : gM) : gMg (rg 2 9) I (gS (rg 2 9) I) = I := gMg_same I (by decide)
/-- the class at the token s -/
def TKc (I : gM) (l : List Nat) (s : Nat) : Prop := BFx I l ∧ I 0 3 = nI (tzE l s) ∧ I 0 4 = nI (tzC l s) ∧ I 0 5 = nI s ∧ I 0 6 = nI (tzN l s)
def PC (I : gM) (l : List Nat) (s : Nat) (r : Nat → Nat) (cm td : Nat) : Prop := TKc I l s ∧ (I 0 7 = nI cm ∧ I 0 8 = nI td) ∧ CN (sh1 (gS (rg 2 9) I)) r
theorem TKc.congr {I J : gM} {l : List Nat} {s : Nat} (h : TKc I l s) (e0 : ∀ j, j < 7 → J 0 j = I 0 j) (e1 : J 1 = I 1) : TKc J l s := by
  obtain ⟨h1, h2, h3, h4, h5⟩ := h
  exact ⟨h1.pos (e0 2 (by decide)) e1, by rw [e0 3 (by decide)]; exact h2, by rw [e0 4 (by decide)]; exact h3, by rw [e0 5 (by decide)]; exact h4, by rw [e0 6 (by decide)]; exact h5⟩
theorem cn29 {I J : gM} {r : Nat → Nat} (h : CN (sh1 (gS (rg 2 9) I)) r) (e : ∀ k, 2 ≤ k → k < 11 → J k = I k) : CN (sh1 (gS (rg 2 9) J)) r := h.congr (fun k k1 k9 => by
  show gS (rg 2 9) J (k - 1) = gS (rg 2 9) I (k - 1)
  rw [gS_b (by omega) (by decide), gS_b (by omega) (by decide), e _ (by omega) (by omega)])
theorem PC.congr {I J : gM} {l : List Nat} {s : Nat} {r : Nat → Nat} {cm td : Nat} (h : PC I l s r cm td) (e : ∀ k, k < 11 → J k = I k) : PC J l s r cm td := by
  have e0 := e 0 (by decide)
  refine ⟨h.1.congr (fun j _ => by rw [e0]) (e 1 (by decide)), by rw [e0]; exact h.2.1, cn29 h.2.2 (fun k _ h2 => e k h2)⟩
theorem PC.sub {I : gM} {l : List Nat} {s : Nat} {r : Nat → Nat} {cm td : Nat} (h : PC I l s r cm td) : PC (gS (rg 0 11) I) l s r cm td := h.congr (fun k hk => g11S hk)
theorem PC.sup {I J : gM} {l : List Nat} {s : Nat} {r : Nat → Nat} {cm td : Nat} (h : PC J l s r cm td) : PC (gMg (rg 0 11) I J) l s r cm td := h.congr (fun k hk => g11M hk)
/-- where the next token begins -/
def nxt (l : List Nat) (s : Nat) : Nat := tzS l (tzE l s)
theorem nxt_le {l : List Nat} {s : Nat} (h : s ≤ l.length) : nxt l s ≤ l.length := tzS_le (tzE_le h)
theorem nxt_ge (l : List Nat) (s : Nat) : tzE l s ≤ nxt l s := tzS_ge _ _
theorem x_next0 {N p : Nat} {l : List Nat} {I : gM} (hT : TXT l) (hN : 1000 ≤ N) (hB : BFx I l) (h3 : I 0 3 = nI p) (hp : p ≤ l.length) : ∃ J, (∀ K : gM → gO, hV (fX5_nextToken N [.ref 0] (gS (rg 0 11) I)) (rg 0 11) I K = K J) ∧ TKc J l (tzS l p) ∧ (∀ j, j ≠ 3 → j ≠ 4 → j ≠ 5 → j ≠ 6 → J 0 j = I 0 j) ∧ ∀ q, q ≠ 0 → J q = I q := by
  obtain ⟨D, d0, d1, d2, d3, d4, d5, d6⟩ := pX5_nextToken (N := N) (I := gS (rg 0 11) I) hT hN (hB.pos (by rw [g11S (by decide)]) (g11S (by decide))) (by rw [g11S (by decide)]; exact h3) hp
  have o0 : ∀ j, j ≠ 3 → j ≠ 4 → j ≠ 5 → j ≠ 6 → gMg (rg 0 11) I D 0 j = I 0 j := fun j a b c d => by rw [g11M (by decide), d5 j a b c d, g11S (by decide)]
  have oq : ∀ q, q ≠ 0 → gMg (rg 0 11) I D q = I q := fun q hq => by
    by_cases h : q < 11
    · rw [g11M h, d6 q hq, g11S h]
    · exact gMg_rgo (Or.inr (by omega))
  refine ⟨gMg (rg 0 11) I D, fun K => by rw [d0, hV_mk], ⟨hB.pos (o0 2 (by decide) (by decide) (by decide) (by decide)) (oq 1 (by decide)), ?_, ?_, ?_, ?_⟩, o0, oq⟩
  · rw [g11M (by decide)]; exact d1
  · rw [g11M (by decide)]; exact d2
  · rw [g11M (by decide)]; exact d3
  · rw [g11M (by decide)]; exact d4
theorem x_next {N s : Nat} {l : List Nat} {I : gM} {r : Nat → Nat} {cm td : Nat} (hT : TXT l) (hN : 1000 ≤ N) (hs : s ≤ l.length) (h : PC I l s r cm td) : ∃ J, (∀ K : gM → gO, hV (fX5_nextToken N [.ref 0] (gS (rg 0 11) I)) (rg 0 11) I K = K J) ∧ PC J l (nxt l s) r cm td := by
  obtain ⟨J, j0, j1, j2, j3⟩ := x_next0 (N := N) hT hN h.1.1 h.1.2.1 (tzE_le hs)
  exact ⟨J, j0, j1, ⟨by rw [j2 7 (by decide) (by decide) (by decide) (by decide)]; exact h.2.1.1, by rw [j2 8 (by decide) (by decide) (by decide) (by decide)]; exact h.2.1.2⟩, cn29 h.2.2 (fun k k2 _ => j3 k (by omega))⟩
theorem tzC_le (l : List Nat) (s : Nat) : tzC l s ≤ 3 := by
  unfold tzC
  cases l[s]? with
  | none => decide
  | some c => exact (tzK_le c).2
theorem tzN_lt {l : List Nat} (hT : TXT l) (s : Nat) : tzN l s < 300001 := by
  unfold tzN
  cases hc : l[s]? with
  | none => exact (show 0 < 300001 by decide)
  | some c =>
    have := (hT.at hc).2
    show (if tzL c = true then 0 else if tzD c = true then tzW l s (tzE l s - s) else c) < 300001
    split
    · decide
    · split
      · exact tzW_lt hT.2 _
      · omega
/-- a number in a range stands at s -/
def nmb (l : List Nat) (s lo hi : Nat) : Bool := decide (tzC l s = 2) && (decide (lo ≤ tzN l s) && decide (tzN l s ≤ hi))
theorem nmb_t {l : List Nat} {s lo hi : Nat} (h : nmb l s lo hi = true) : tzC l s = 2 ∧ lo ≤ tzN l s ∧ tzN l s ≤ hi := by
  unfold nmb at h
  rw [Bool.and_eq_true, Bool.and_eq_true, decide_eq_true_eq, decide_eq_true_eq, decide_eq_true_eq] at h
  exact ⟨h.1, h.2.1, h.2.2⟩
theorem nmb_3 {l : List Nat} {s lo hi : Nat} (hn : nmb l s lo hi = true) (hhi : hi < 1000) : tzE l s - s ≤ 3 := by
  obtain ⟨q1, q2, q3⟩ := nmb_t hn
  refine Nat.not_lt.mp (fun q => ?_)
  have e1000 : tzN l s = 1000 := by
    unfold tzC at q1
    unfold tzN
    cases hc : l[s]? with
    | none => rw [hc] at q1; cases q1
    | some c =>
      rw [hc] at q1
      have nl : ¬ tzL c = true := fun w => by have := tzK_1.mpr w; have c1' : tzK c = 2 := q1; omega
      refine (if_neg nl).trans ((if_pos (tzK_2.mp q1)).trans ?_)
      unfold tzW
      rw [if_neg (by omega)]
  omega
theorem x_num {N s lo hi : Nat} {l : List Nat} {I : gM} {K : Int32 → gM → gO} (hT : TXT l) (hlo : lo < 2 ^ 31) (hhi : hi < 2 ^ 31) (h : TKc I l s) : hI (fX5_isNumber N [.ref 0, .int (nI lo), .int (nI hi)] (gS (rg 0 11) I)) (rg 0 11) I K = K (b2 (nmb l s lo hi)) I := by
  obtain ⟨h1, h2, h3, h4, h5⟩ := h
  have hC := tzC_le l s
  have hV := tzN_lt hT s
  have l2 : (2 : Int32) = nI 2 := rfl
  rw [eX5_isNumber, eX5_isNumber_0, g11S (by decide), h3, h5, l2]
  unfold nmb
  by_cases c1 : tzC l s = 2
  · rw [if_neg (fun z => (cne (by omega) (by decide)).mp z c1), decide_eq_true c1, Bool.true_and]
    by_cases c2 : lo ≤ tzN l s
    · rw [if_neg (fun z => by have := (clt (a := tzN l s) (b := lo) (by omega) hlo).mp z; omega), decide_eq_true c2, Bool.true_and]
      by_cases c3 : tzN l s ≤ hi
      · rw [if_neg (fun z => by have := (cgt (a := tzN l s) (b := hi) (by omega) hhi).mp z; omega), decide_eq_true c3, hI_mk, g11s]; rfl
      · rw [if_pos ((cgt (by omega) hhi).mpr (by omega)), decide_eq_false c3, hI_mk, g11s]; rfl
    · rw [if_pos ((clt (by omega) hlo).mpr (by omega)), decide_eq_false c2, Bool.false_and, hI_mk, g11s]; rfl
  · rw [if_pos ((cne (by omega) (by decide)).mpr c1), decide_eq_false c1, Bool.false_and, hI_mk, g11s]; rfl
theorem x_word {N i s : Nat} {l : List Nat} {I : gM} {K : Int32 → gM → gO} (hT : TXT l) (hN : 20 ≤ N) (hi : i < 26) (hs : s ≤ l.length) (h : TKc I l s) : hI (fX5_isWord N [.ref 0, .ref (1000 + i)] (gS (rg 0 11) I)) (rg 0 11) I K = K (b2 (twW l s (wdN i))) I := by
  obtain ⟨h1, h2, h3, h4, h5⟩ := h
  rw [pX5_isWord hT (h1.pos (by rw [g11S (by decide)]) (g11S (by decide))) hN hi hs (by rw [g11S (by decide)]; exact h2) (by rw [g11S (by decide)]; exact h3) (by rw [g11S (by decide)]; exact h4), hI_mk, g11s]
/-! the reference -/
def PM (J : gM) (l : List Nat) (s : Nat) (g : Option Nat) (r : Nat → Nat) (cm td : Nat) : Prop := BFx J l ∧ (J 0 4 = nI s ∧ (g = none → J 0 3 = nI (tzE l s) ∧ J 0 5 = nI (tzC l s) ∧ ∃ z, J 0 6 = nI z ∧ z ≤ 10000 ∧ (tzC l s = 2 → tzE l s - s ≤ 3 → z = tzN l s))) ∧ (J 0 7 = gdI g ∧ ∀ e, g = some e → e ≤ 700) ∧ (J 0 14 = nI td ∧ J 0 15 = nI cm) ∧ RowIs (J 2) (r, [])
/-- what reading leaves alone -/
def FM (I J : gM) : Prop := (∀ j, (j < 3 ∨ (8 ≤ j ∧ j < 14) ∨ 16 ≤ j) → J 0 j = I 0 j) ∧ ∀ q, q ≠ 0 → q ≠ 2 → J q = I q
theorem FM.rfl' (I : gM) : FM I I := ⟨fun _ _ => rfl, fun _ _ _ => rfl⟩
theorem FM.tr {I J L : gM} (h : FM I J) (h2 : FM J L) : FM I L := ⟨fun j hj => (h2.1 j hj).trans (h.1 j hj), fun q a b => (h2.2 q a b).trans (h.2 q a b)⟩
theorem PM.lt {J : gM} {l : List Nat} {s : Nat} {g : Option Nat} {r : Nat → Nat} {cm td : Nat} (h : PM J l s g r cm td) : ∀ e, g = some e → e < 2 ^ 31 := fun e he => by have := h.2.2.1.2 e he; omega
theorem m_step0 {N p : Nat} {l : List Nat} {J : gM} (hT : TXT l) (hN : 1000 ≤ N) (hB : BFx J l) (h3 : J 0 3 = nI p) (hp : p ≤ l.length) : ∃ J', (∀ K : gM → gO, hV (fX9_step N [.ref 0] (gS (rg 0 18) J)) (rg 0 18) J K = K J') ∧ (BFx J' l ∧ J' 0 4 = nI (tzS l p) ∧ J' 0 3 = nI (tzE l (tzS l p)) ∧ J' 0 5 = nI (tzC l (tzS l p)) ∧ ∃ z, J' 0 6 = nI z ∧ z ≤ 10000 ∧ (tzC l (tzS l p) = 2 → tzE l (tzS l p) - tzS l p ≤ 3 → z = tzN l (tzS l p))) ∧ (∀ j, j ≠ 3 → j ≠ 4 → j ≠ 5 → j ≠ 6 → J' 0 j = J 0 j) ∧ ∀ q, q ≠ 0 → J' q = J q := by
  obtain ⟨D, z, d0, d1, d2, d3, d4, d5, d6, d7, d8⟩ := pX9_step (N := N) (I := gS (rg 0 18) J) hT hN (hB.pos (by rw [gSm18 (by decide)]) (gSm18 (by decide))) (by rw [gSm18 (by decide)]; exact h3) hp
  have o0 : ∀ j, j ≠ 3 → j ≠ 4 → j ≠ 5 → j ≠ 6 → gMg (rg 0 18) J D 0 j = J 0 j := fun j a b c d => by rw [gM18 (by decide), d7 j a b c d, gSm18 (by decide)]
  have oq : ∀ q, q ≠ 0 → gMg (rg 0 18) J D q = J q := fun q hq => by
    by_cases h : q < 18
    · rw [gM18 h, d8 q hq, gSm18 h]
    · exact gM18o (by omega)
  refine ⟨gMg (rg 0 18) J D, fun K => by rw [d0, hV_mk], ⟨hB.pos (o0 2 (by decide) (by decide) (by decide) (by decide)) (oq 1 (by decide)), ?_, ?_, ?_, z, ?_, d5, d6⟩, o0, oq⟩
  · rw [gM18 (by decide)]; exact d2
  · rw [gM18 (by decide)]; exact d1
  · rw [gM18 (by decide)]; exact d3
  · rw [gM18 (by decide)]; exact d4
theorem m_step {N s : Nat} {l : List Nat} {J : gM} {r : Nat → Nat} {cm td : Nat} (hT : TXT l) (hN : 1000 ≤ N) (hs : s ≤ l.length) (h : PM J l s none r cm td) : ∃ J', (∀ K : gM → gO, hV (fX9_step N [.ref 0] (gS (rg 0 18) J)) (rg 0 18) J K = K J') ∧ PM J' l (nxt l s) none r cm td ∧ FM J J' := by
  obtain ⟨h1, ⟨h2, h3⟩, ⟨h4, h5⟩, ⟨h6, h7⟩, h8⟩ := h
  obtain ⟨J', j0, ⟨j1, j2, j3, j4, j5⟩, j6, j7⟩ := m_step0 (N := N) hT hN h1 (h3 rfl).1 (tzE_le hs)
  exact ⟨J', j0, ⟨j1, ⟨j2, fun _ => ⟨j3, j4, j5⟩⟩, ⟨by rw [j6 7 (by decide) (by decide) (by decide) (by decide)]; exact h4, h5⟩, ⟨by rw [j6 14 (by decide) (by decide) (by decide) (by decide)]; exact h6, by rw [j6 15 (by decide) (by decide) (by decide) (by decide)]; exact h7⟩, by rw [j7 2 (by decide)]; exact h8⟩, fun j hj => j6 j (by omega) (by omega) (by omega) (by omega), fun q q0 _ => j7 q q0⟩
theorem m_num {N s lo hi : Nat} {g : Option Nat} {l : List Nat} {J : gM} {r : Nat → Nat} {cm td : Nat} {K : Int32 → gM → gO} (hT : TXT l) (hs : s ≤ l.length) (hlo : lo < 1000) (hhi : hi < 1000) (h : PM J l s g r cm td) : hI (fX9_isNumber N [.ref 0, .int (nI lo), .int (nI hi)] (gS (rg 0 18) J)) (rg 0 18) J K = K (b2 (g.isNone && nmb l s lo hi)) J := by
  have hlt := h.lt
  obtain ⟨h1, ⟨h2, h3⟩, ⟨h4, h5⟩, _⟩ := h
  have hC := tzC_le l s
  have l2 : (2 : Int32) = nI 2 := rfl
  have l3 : (3 : Int32) = nI 3 := rfl
  have s0 : gS (rg 0 18) J 0 = J 0 := gSm18 (by decide)
  rw [eX9_isNumber, eX9_isNumber_0, m_good (g := g) (by rw [s0]; exact h4) hlt, s0]
  cases g with
  | some e => rw [if_pos (show gz_eq (b2 (some e).isNone) = true from (show gz_eq (b2 false) = true by decide)), hI_mk, gMm18]; rfl
  | none =>
    obtain ⟨h6, h7, z, z1, z2, z3⟩ := h3 rfl
    have et : ((none : Option Nat).isNone && nmb l s lo hi) = nmb l s lo hi := Bool.true_and _
    have hG := tzE_ge l s
    have hE := tzE_le hs
    have hT1 := hT.1
    have es : gb_sub (nI (tzE l s)) (nI s) = nI (tzE l s - s) := pk_sub hG
    rw [et, if_neg (show ¬ gz_eq (b2 (none : Option Nat).isNone) = true by decide), h7, h6, h2, z1, l2, l3, es, m_in]
    by_cases c1 : tzC l s = 2
    · rw [if_neg (fun q => (cne (by omega) (by decide)).mp q c1)]
      by_cases c2 : tzE l s - s ≤ 3
      · have ez := z3 c1 c2
        subst ez
        rw [if_neg (fun q => by have := (cgt (a := tzE l s - s) (b := 3) (by omega) (by decide)).mp q; omega), rgb_k (by omega) (by omega) (by omega)]
        unfold nmb
        rw [decide_eq_true c1, Bool.true_and]
        by_cases c3 : lo ≤ tzN l s ∧ tzN l s ≤ hi
        · rw [decide_eq_true c3, decide_eq_true c3.1, decide_eq_true c3.2, if_neg (show ¬ gz_eq (b2 true) = true by decide), hI_mk, gMm18]; rfl
        · have hf : (decide (lo ≤ tzN l s) && decide (tzN l s ≤ hi)) = false := by
            rw [← Bool.decide_and, decide_eq_false c3]
          rw [decide_eq_false c3, hf, if_pos (show gz_eq (b2 false) = true by decide), hI_mk, gMm18]; rfl
      · have hn : nmb l s lo hi = false := by
          refine Bool.eq_false_iff.mpr (fun q => ?_)
          exact c2 (nmb_3 q hhi)
        rw [if_pos ((cgt (by omega) (by decide)).mpr (by omega)), hn, hI_mk, gMm18]; rfl
    · have hn : nmb l s lo hi = false := Bool.eq_false_iff.mpr (fun q => c1 (nmb_t q).1)
      rw [if_pos ((cne (by omega) (by decide)).mpr c1), hn, hI_mk, gMm18]; rfl
theorem m_word {N i s : Nat} {g : Option Nat} {l : List Nat} {J : gM} {r : Nat → Nat} {cm td : Nat} {K : Int32 → gM → gO} (hT : TXT l) (hN : 20 ≤ N) (hi : i < 26) (hs : s ≤ l.length) (h : PM J l s g r cm td) : hI (fX9_isWord N [.ref 0, .ref (1000 + i)] (gS (rg 0 18) J)) (rg 0 18) J K = K (b2 (g.isNone && twW l s (wdN i))) J := by
  have hlt := h.lt
  obtain ⟨h1, ⟨h2, h3⟩, ⟨h4, h5⟩, _⟩ := h
  have s0 : gS (rg 0 18) J 0 = J 0 := gSm18 (by decide)
  rw [pX9_isWord (g := g) hT (h1.pos (by rw [s0]) (gSm18 (by decide))) hN hi hs (by rw [s0]; exact h4) hlt (fun e => by rw [s0]; exact (h3 e).1) (fun e => by rw [s0]; exact (h3 e).2.1) (fun _ => by rw [s0]; exact h2), hI_mk, gMm18]
theorem m_fail {N s : Nat} {g : Option Nat} {l : List Nat} {J : gM} {r : Nat → Nat} {cm td : Nat} (hs : s ≤ 700) (h : PM J l s g r cm td) : ∃ J', (∀ K : gM → gO, hV (fX9_fail N [.ref 0] (gS (rg 0 18) J)) (rg 0 18) J K = K J') ∧ PM J' l s (some (g.getD s)) r cm td ∧ FM J J' := by
  have hlt := h.lt
  obtain ⟨h1, ⟨h2, h3⟩, ⟨h4, h5⟩, ⟨h6, h7⟩, h8⟩ := h
  have s0 : gS (rg 0 18) J 0 = J 0 := gSm18 (by decide)
  refine ⟨gU J 0 7 (nI (g.getD s)), fun K => ?_, ⟨h1.pos (gU_un (Or.inr (by decide))) (gU_ok (by decide)), ⟨by rw [gU_un (Or.inr (by decide))]; exact h2, fun e => by cases e⟩, ⟨gU_us, fun e he => ?_⟩, ⟨by rw [gU_un (Or.inr (by decide))]; exact h6, by rw [gU_un (Or.inr (by decide))]; exact h7⟩, by rw [gU_ok (by decide)]; exact h8⟩, fun j hj => gU_un (Or.inr (by omega)), fun q q0 _ => gU_ok q0⟩
  · rw [eX9_fail, eX9_fail_0, s0, h4, h2]
    cases g with
    | none => rw [if_neg (show ¬ gz_ge (gdI none) = true by decide), hV_mk, gMu18 (by decide), gMm18]; rfl
    | some e => rw [if_pos (show gz_ge (gdI (some e)) = true from (zge (hlt e rfl)).mpr True.intro), hV_mk, gMu18 (by decide), gMm18]; rfl
  · cases g with
    | none => cases he; exact hs
    | some x => cases he; exact h5 x rfl
theorem m_val {s lo hi : Nat} {l : List Nat} {J : gM} {r : Nat → Nat} {cm td : Nat} (h : PM J l s none r cm td) (hn : nmb l s lo hi = true) (hhi : hi < 1000) : J 0 6 = nI (tzN l s) := by
  obtain ⟨_, _, z, z1, z2, z3⟩ := h.2.1.2 rfl
  rw [z1, z3 (nmb_t hn).1 (nmb_3 hn hhi)]
theorem PM.sub {J : gM} {l : List Nat} {s : Nat} {g : Option Nat} {r : Nat → Nat} {cm td : Nat} (h : PM J l s g r cm td) : PM (gS (rg 0 18) J) l s g r cm td := by
  have s0 : gS (rg 0 18) J 0 = J 0 := gSm18 (by decide)
  have s2 : gS (rg 0 18) J 2 = J 2 := gSm18 (by decide)
  unfold PM
  rw [s0, s2]
  exact ⟨h.1.pos (by rw [s0]) (gSm18 (by decide)), h.2⟩
theorem PM.sup {I D : gM} {l : List Nat} {s : Nat} {g : Option Nat} {r : Nat → Nat} {cm td : Nat} (h : PM D l s g r cm td) : PM (gMg (rg 0 18) I D) l s g r cm td := by
  have s0 : gMg (rg 0 18) I D 0 = D 0 := gM18 (by decide)
  have s2 : gMg (rg 0 18) I D 2 = D 2 := gM18 (by decide)
  unfold PM
  rw [s0, s2]
  exact ⟨h.1.pos (by rw [s0]) (gM18 (by decide)), h.2⟩
theorem FM.sup {J D : gM} (h : FM (gS (rg 0 18) J) D) : FM J (gMg (rg 0 18) J D) := by
  refine ⟨fun j hj => ?_, fun q q0 q2 => ?_⟩
  · rw [gM18 (by decide), h.1 j hj, gSm18 (by decide)]
  · by_cases e : q < 18
    · rw [gM18 e, h.2 q q0 q2, gSm18 e]
    · exact gM18o (by omega)
theorem m_take_t {N s lo hi : Nat} {l : List Nat} {J : gM} {r : Nat → Nat} {cm td : Nat} (hT : TXT l) (hN : 1000 ≤ N) (hs : s ≤ l.length) (hlo : lo < 1000) (hhi : hi < 1000) (h : PM J l s none r cm td) (hn : nmb l s lo hi = true) : ∃ J', (∀ K : Int32 → gM → gO, hI (fX9_takeNumber N [.ref 0, .int (nI lo), .int (nI hi)] (gS (rg 0 18) J)) (rg 0 18) J K = K (nI (tzN l s)) J') ∧ PM J' l (nxt l s) none r cm td ∧ FM J J' := by
  obtain ⟨D, d0, d1, d2⟩ := m_step (N := N) hT hN hs h.sub
  have hv : gS (rg 0 18) J 0 6 = nI (tzN l s) := m_val h.sub hn hhi
  refine ⟨gMg (rg 0 18) J D, fun K => ?_, d1.sup, d2.sup⟩
  rw [eX9_takeNumber, eX9_takeNumber_0, m_num hT hs hlo hhi h.sub, hn, if_pos (show gz_ne (b2 ((none : Option Nat).isNone && true)) = true by decide), d0, hv, hI_mk]
theorem m_take_f {N s lo hi : Nat} {g : Option Nat} {l : List Nat} {J : gM} {r : Nat → Nat} {cm td : Nat} (hT : TXT l) (hs : s ≤ l.length) (hlo : lo < 1000) (hhi : hi < 1000) (h : PM J l s g r cm td) (hn : (g.isNone && nmb l s lo hi) = false) : ∃ J', (∀ K : Int32 → gM → gO, hI (fX9_takeNumber N [.ref 0, .int (nI lo), .int (nI hi)] (gS (rg 0 18) J)) (rg 0 18) J K = K (nI lo) J') ∧ PM J' l s (some (g.getD s)) r cm td ∧ FM J J' := by
  have hT1 := hT.1
  obtain ⟨D, d0, d1, d2⟩ := m_fail (N := N) (by omega) h.sub
  refine ⟨gMg (rg 0 18) J D, fun K => ?_, d1.sup, d2.sup⟩
  rw [eX9_takeNumber, eX9_takeNumber_0, m_num hT hs hlo hhi h.sub, hn, if_neg (show ¬ gz_ne (b2 false) = true by decide), d0, hI_mk]
theorem m_other_t {N s lo hi b : Nat} {l : List Nat} {J : gM} {r : Nat → Nat} {cm td : Nat} (hT : TXT l) (hN : 1000 ≤ N) (hs : s ≤ l.length) (hlo : lo < 1000) (hhi : hi < 1000) (hb : b < 1000) (h : PM J l s none r cm td) (hn : nmb l s lo hi = true) (hne : tzN l s ≠ b) : ∃ J', (∀ K : Int32 → gM → gO, hI (fX9_takeOther N [.ref 0, .int (nI lo), .int (nI hi), .int (nI b)] (gS (rg 0 18) J)) (rg 0 18) J K = K (nI (tzN l s)) J') ∧ PM J' l (nxt l s) none r cm td ∧ FM J J' := by
  obtain ⟨q1, q2, q3⟩ := nmb_t hn
  obtain ⟨D, d0, d1, d2⟩ := m_take_t (N := N) hT hN hs hlo hhi h.sub hn
  have hv : gS (rg 0 18) J 0 6 = nI (tzN l s) := m_val h.sub hn hhi
  refine ⟨gMg (rg 0 18) J D, fun K => ?_, d1.sup, d2.sup⟩
  rw [eX9_takeOther, eX9_takeOther_0, m_num hT hs hlo hhi h.sub, hn, if_neg (show ¬ gz_eq (b2 ((none : Option Nat).isNone && true)) = true by decide), hv, if_pos ((cne (by omega) (by omega)).mpr hne), eX9_takeOther_21, d0, hI_mk]
theorem m_other_f {N s lo hi b : Nat} {g : Option Nat} {l : List Nat} {J : gM} {r : Nat → Nat} {cm td : Nat} (hT : TXT l) (hs : s ≤ l.length) (hlo : lo < 1000) (hhi : hi < 1000) (hb : b < 1000) (h : PM J l s g r cm td) (hn : (g.isNone && nmb l s lo hi) = false ∨ tzN l s = b) : ∃ J', (∀ K : Int32 → gM → gO, hI (fX9_takeOther N [.ref 0, .int (nI lo), .int (nI hi), .int (nI b)] (gS (rg 0 18) J)) (rg 0 18) J K = K (nI lo) J') ∧ PM J' l s (some (g.getD s)) r cm td ∧ FM J J' := by
  have hT1 := hT.1
  cases hz : (g.isNone && nmb l s lo hi) with
  | false =>
    obtain ⟨D, d0, d1, d2⟩ := m_take_f (N := N) hT hs hlo hhi h.sub hz
    refine ⟨gMg (rg 0 18) J D, fun K => ?_, d1.sup, d2.sup⟩
    rw [eX9_takeOther, eX9_takeOther_0, m_num hT hs hlo hhi h.sub, hz, if_pos (show gz_eq (b2 false) = true by decide), eX9_takeOther_21, d0, hI_mk]
  | true =>
    have he : tzN l s = b := by
      rcases hn with q | q
      · rw [hz] at q; cases q
      · exact q
    obtain ⟨z1, z2⟩ := and_t hz
    have hg : g = none := Option.isNone_iff_eq_none.mp z1
    subst hg
    have hv : gS (rg 0 18) J 0 6 = nI (tzN l s) := m_val h.sub z2 hhi
    obtain ⟨D, d0, d1, d2⟩ := m_fail (N := N) (by omega) h.sub
    obtain ⟨E, e0, e1, e2⟩ := m_take_f (N := N) (lo := lo) (hi := hi) hT hs hlo hhi d1 rfl
    refine ⟨gMg (rg 0 18) J E, fun K => ?_, e1.sup, (d2.tr e2).sup⟩
    rw [eX9_takeOther, eX9_takeOther_0, m_num hT hs hlo hhi h.sub, hz, if_neg (show ¬ gz_eq (b2 true) = true by decide), hv, if_neg (fun q => (cne (by omega) (by omega)).mp q he), d0, eX9_takeOther_21, e0, hI_mk]
