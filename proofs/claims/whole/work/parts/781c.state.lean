/-! ===== WHAT A STATE IS: numbers by their places in the reference's row (below 245), and the packets in their order ===== -/
/-- flow, slot of arrival, links, nodes been at, node -/
abbrev Pk : Type := Nat × Nat × Nat × Nat × Nat
abbrev St : Type := (Nat → Nat) × List Pk
def up1 (r : Nat → Nat) (i x : Nat) : Nat → Nat := fun k => if k = i then x else r k
theorem up1_s {r : Nat → Nat} {i x : Nat} : up1 r i x i = x := if_pos rfl
theorem up1_n {r : Nat → Nat} {i x k : Nat} (h : k ≠ i) : up1 r i x k = r k := if_neg h
def lkp (r : Nat → Nat) (k w : Nat) : Nat := r (9 + 4 * k + w)
def flp (r : Nat → Nat) (f w : Nat) : Nat := r (65 + 11 * f + w)
def cfp (r : Nat → Nat) (k : Nat) : Nat := r (131 + k)
def shp (r : Nat → Nat) (a d : Nat) : Nat := r (145 + 10 * a + d)
def gol (r : Nat → Nat) (p : Pk) : Nat := flp r p.1 1
def pkn (p : Pk) : Nat := p.2.2.2.2
/-- a packet's parts -/
def pkp (p : Pk) (w : Nat) : Nat := match w with
  | 0 => p.1
  | 1 => p.2.1
  | 2 => p.2.2.1
  | 3 => p.2.2.2.1
  | _ => p.2.2.2.2
def RowIs (row : Nat → Int32) (σ : St) : Prop := (∀ k, k < 245 → row k = nI (σ.1 k)) ∧ row 245 = nI σ.2.length ∧ ∀ (i : Nat) (p : Pk), σ.2[i]? = some p → ∀ w, w < 5 → row (246 + 5 * i + w) = nI (pkp p w)
/-- what every state keeps to; B bounds shadows and deliveries -/
def Wf (B : Nat) (σ : St) : Prop :=
  ((2 ≤ σ.1 0 ∧ σ.1 0 ≤ 10) ∧ σ.1 1 ≤ 14 ∧ σ.1 2 ≤ 6 ∧ σ.1 3 ≤ 1 ∧ σ.1 4 ≤ 50 ∧ σ.1 5 ≤ 20 ∧ σ.1 6 ≤ 1 ∧ σ.1 7 ≤ 10100 ∧ σ.1 8 ≤ 500) ∧
  (∀ k, k < σ.1 1 → lkp σ.1 k 0 < σ.1 0 ∧ lkp σ.1 k 1 < σ.1 0 ∧ lkp σ.1 k 0 ≠ lkp σ.1 k 1 ∧ 1 ≤ lkp σ.1 k 2 ∧ lkp σ.1 k 2 ≤ 5) ∧
  (∀ j k, j < σ.1 1 → k < σ.1 1 → lkp σ.1 j 0 = lkp σ.1 k 0 → lkp σ.1 j 1 = lkp σ.1 k 1 → j = k) ∧
  (∀ k, k < σ.1 1 → ∀ j, (cfp σ.1 k).testBit j = true → j < σ.1 1 ∧ j ≠ k ∧ (cfp σ.1 j).testBit k = true) ∧
  (∀ f, f < σ.1 2 → flp σ.1 f 0 < σ.1 0 ∧ flp σ.1 f 1 < σ.1 0 ∧ flp σ.1 f 0 ≠ flp σ.1 f 1 ∧ flp σ.1 f 2 ≤ 300 ∧ flp σ.1 f 3 ≤ 200 ∧ flp σ.1 f 6 ≤ B ∧ flp σ.1 f 10 ≤ 10101) ∧
  (∀ a d, a < 10 → d < 10 → shp σ.1 a d ≤ B ∧ (a = d → shp σ.1 a d = 0)) ∧
  σ.2.length ≤ 500 ∧ ∀ p ∈ σ.2, p.1 < σ.1 2 ∧ p.2.1 ≤ σ.1 7 ∧ p.2.2.2.1 < 1024 ∧ pkn p < σ.1 0 ∧ pkn p ≠ gol σ.1 p
theorem wfC {B : Nat} {σ : St} (h : Wf B σ) : (2 ≤ σ.1 0 ∧ σ.1 0 ≤ 10) ∧ σ.1 1 ≤ 14 ∧ σ.1 2 ≤ 6 ∧ σ.1 3 ≤ 1 ∧ σ.1 4 ≤ 50 ∧ σ.1 5 ≤ 20 ∧ σ.1 6 ≤ 1 ∧ σ.1 7 ≤ 10100 ∧ σ.1 8 ≤ 500 := h.1
theorem wfL {B : Nat} {σ : St} (h : Wf B σ) : ∀ k, k < σ.1 1 → lkp σ.1 k 0 < σ.1 0 ∧ lkp σ.1 k 1 < σ.1 0 ∧ lkp σ.1 k 0 ≠ lkp σ.1 k 1 ∧ 1 ≤ lkp σ.1 k 2 ∧ lkp σ.1 k 2 ≤ 5 := h.2.1
theorem wfU {B : Nat} {σ : St} (h : Wf B σ) : ∀ j k, j < σ.1 1 → k < σ.1 1 → lkp σ.1 j 0 = lkp σ.1 k 0 → lkp σ.1 j 1 = lkp σ.1 k 1 → j = k := h.2.2.1
theorem wfK {B : Nat} {σ : St} (h : Wf B σ) : ∀ k, k < σ.1 1 → ∀ j, (cfp σ.1 k).testBit j = true → j < σ.1 1 ∧ j ≠ k ∧ (cfp σ.1 j).testBit k = true := h.2.2.2.1
theorem wfF {B : Nat} {σ : St} (h : Wf B σ) : ∀ f, f < σ.1 2 → flp σ.1 f 0 < σ.1 0 ∧ flp σ.1 f 1 < σ.1 0 ∧ flp σ.1 f 0 ≠ flp σ.1 f 1 ∧ flp σ.1 f 2 ≤ 300 ∧ flp σ.1 f 3 ≤ 200 ∧ flp σ.1 f 6 ≤ B ∧ flp σ.1 f 10 ≤ 10101 := h.2.2.2.2.1
theorem wfS {B : Nat} {σ : St} (h : Wf B σ) : ∀ a d, a < 10 → d < 10 → shp σ.1 a d ≤ B ∧ (a = d → shp σ.1 a d = 0) := h.2.2.2.2.2.1
theorem wfP {B : Nat} {σ : St} (h : Wf B σ) : σ.2.length ≤ 500 ∧ ∀ p ∈ σ.2, p.1 < σ.1 2 ∧ p.2.1 ≤ σ.1 7 ∧ p.2.2.2.1 < 1024 ∧ pkn p < σ.1 0 ∧ pkn p ≠ gol σ.1 p := h.2.2.2.2.2.2
theorem cf_lt {B : Nat} {σ : St} (h : Wf B σ) {k : Nat} (hk : k < σ.1 1) : cfp σ.1 k < 2 ^ 14 := by
  have h1 := (wfC h).2.1
  apply Nat.lt_pow_two_of_testBit
  intro j hj
  cases hb : (cfp σ.1 k).testBit j with
  | false => rfl
  | true => have := (wfK h k hk j hb).1; omega
theorem RowIs.at {row : Nat → Int32} {σ : St} (h : RowIs row σ) {k : Nat} (hk : k < 245) : row k = nI (σ.1 k) := h.1 k hk
theorem RowIs.put {row : Nat → Int32} {σ : St} (h : RowIs row σ) {k x : Nat} (hk : k < 245) : RowIs (upd row k (nI x)) (up1 σ.1 k x, σ.2) := by
  refine ⟨fun j hj => ?_, ?_, fun i p hp w hw => ?_⟩
  · by_cases e : j = k
    · subst e
      show upd row j (nI x) j = nI (up1 σ.1 j x j)
      rw [pk_us, up1_s]
    · show upd row k (nI x) j = nI (up1 σ.1 k x j)
      rw [pk_un e, up1_n e]; exact h.1 j hj
  · rw [pk_un (by omega)]; exact h.2.1
  · rw [pk_un (by omega)]; exact h.2.2 i p hp w hw
/-- a packet comes to the end -/
theorem RowIs.come {row row' : Nat → Int32} {σ : St} {p : Pk} (h : RowIs row σ) (hl : σ.2.length < 500) (hlo : ∀ k, k < 245 → row' k = row k) (hn : row' 245 = nI (σ.2.length + 1)) (ho : ∀ k, 246 ≤ k → k < 246 + 5 * σ.2.length → row' k = row k) (hp : ∀ w, w < 5 → row' (246 + 5 * σ.2.length + w) = nI (pkp p w)) : RowIs row' (σ.1, σ.2 ++ [p]) := by
  refine ⟨fun j hj => (hlo j hj).trans (h.1 j hj), by rw [hn, List.length_append]; rfl, fun i q hq w hw => ?_⟩
  by_cases e : i < σ.2.length
  · rw [List.getElem?_append_left e] at hq
    rw [ho _ (by omega) (by omega)]
    exact h.2.2 i q hq w hw
  · have hi := (List.getElem?_eq_some_iff.mp hq).1
    rw [List.length_append] at hi
    have hi2 : i = σ.2.length := by have : ([p] : List Pk).length = 1 := rfl; omega
    subst hi2
    rw [List.getElem?_append_right (Nat.le_refl _), Nat.sub_self] at hq
    cases hq
    exact hp w hw
theorem RowIs.congr {row row' : Nat → Int32} {σ : St} (h : RowIs row σ) (hl : σ.2.length ≤ 500) (he : ∀ k, k < 2746 → row' k = row k) : RowIs row' σ := by
  refine ⟨fun j hj => (he j (by omega)).trans (h.1 j hj), (he _ (by omega)).trans h.2.1, fun i p hp w hw => ?_⟩
  have hi := (List.getElem?_eq_some_iff.mp hp).1
  exact (he _ (by omega)).trans (h.2.2 i p hp w hw)
theorem take_s {α : Type} {l : List α} {i : Nat} {x : α} (h : l[i]? = some x) : l.take (i + 1) = l.take i ++ [x] := by
  rw [List.take_succ, h]; rfl
theorem get_s {α : Type} {l : List α} {i : Nat} (h : i < l.length) : ∃ x, l[i]? = some x := ⟨l[i], List.getElem?_eq_getElem h⟩
theorem gU_un {I : gM} {k j k' j' : Nat} {x : Int32} (h : k' ≠ k ∨ j' ≠ j) : gU I k j x k' j' = I k' j' := by
  rw [gUg]
  by_cases e : k' = k
  · rw [if_pos e]
    rcases h with h | h
    · exact absurd e h
    · rw [if_neg h, e]
  · rw [if_neg e]
theorem gU_us {I : gM} {k j : Nat} {x : Int32} : gU I k j x k j = x := by rw [gUg, if_pos rfl, if_pos rfl]
theorem gU_ok {I : gM} {k j k' : Nat} {x : Int32} (h : k' ≠ k) : gU I k j x k' = I k' := by rw [gUr, if_neg h]
theorem gU_u3 {I : gM} {k j : Nat} {x : Int32} : gU I k j x k = upd (I k) j x := by rw [gUr, if_pos rfl]
