/-! ===== the greatest flow: sums, cuts, trees ===== -/
def mfS (f : Nat → Nat) : Nat → Nat
  | 0 => 0
  | n + 1 => mfS f n + f n
theorem mfS_congr {f g : Nat → Nat} : ∀ {n : Nat}, (∀ k, k < n → f k = g k) → mfS f n = mfS g n
  | 0, _ => rfl
  | n + 1, h => by
    show mfS f n + f n = mfS g n + g n
    rw [mfS_congr (fun k hk => h k (by omega)), h n (by omega)]
theorem mfS_upd {f g : Nat → Nat} {l a b : Nat} (hl : g l + a = f l + b) : ∀ {n : Nat}, l < n → (∀ k, k < n → k ≠ l → g k = f k) → mfS g n + a = mfS f n + b
  | 0, h, _ => absurd h (Nat.not_lt_zero _)
  | n + 1, h, ho => by
    show mfS g n + g n + a = mfS f n + f n + b
    by_cases e : l = n
    · have e2 : mfS g n = mfS f n := mfS_congr (fun k hk => ho k (by omega) (by omega))
      subst e
      omega
    · have ih := mfS_upd hl (n := n) (by omega) (fun k hk hn => ho k (by omega) hn)
      have e3 := ho n (by omega) (fun z => e z.symm)
      omega
theorem mfS_le {f : Nat → Nat} {b : Nat} : ∀ {n : Nat}, (∀ k, k < n → f k ≤ b) → mfS f n ≤ b * n
  | 0, _ => Nat.zero_le _
  | n + 1, h => by
    have ih := mfS_le (f := f) (b := b) (n := n) (fun k hk => h k (by omega))
    have h1 := h n (by omega)
    show mfS f n + f n ≤ b * (n + 1)
    rw [Nat.mul_succ]; omega
theorem mfS_zero {f : Nat → Nat} : ∀ {n : Nat}, (∀ k, k < n → f k = 0) → mfS f n = 0
  | 0, _ => rfl
  | n + 1, h => by
    have h1 := mfS_zero (f := f) (n := n) (fun k hk => h k (by omega))
    have h2 := h n (by omega)
    show mfS f n + f n = 0
    omega
theorem mfS_pos {f : Nat → Nat} {l : Nat} (hl : 0 < f l) : ∀ {n : Nat}, l < n → 0 < mfS f n
  | 0, h => absurd h (Nat.not_lt_zero _)
  | n + 1, h => by
    show 0 < mfS f n + f n
    by_cases e : l = n
    · subst e; omega
    · have := mfS_pos hl (n := n) (by omega)
      omega
def mfI (b : Bool) : Nat := cond b 1 0
/-- what may leave a set of nodes -/
def mfC (r : Nat → Nat) (S : Nat → Bool) : Nat := mfS (fun k => cond (S (lkp r k 0) && !S (lkp r k 1)) (lkp r k 2) 0) (r 1)
/-- the greatest flow v and the least set A that bounds it -/
def mfO (r : Nat → Nat) (s t v A : Nat) : Prop := A < 1024 ∧ A.testBit s = true ∧ A.testBit t = false ∧ v = mfC r A.testBit ∧ (∀ S : Nat → Bool, S s = true → S t = false → v ≤ mfC r S) ∧ ∀ S : Nat → Bool, S s = true → S t = false → v = mfC r S → ∀ j, A.testBit j = true → S j = true
theorem mfO.one {r : Nat → Nat} {s t v w A B : Nat} (h1 : mfO r s t v A) (h2 : mfO r s t w B) : v = w ∧ A = B := by
  obtain ⟨_, a1, a2, a3, a4, a5⟩ := h1
  obtain ⟨_, c1, c2, c3, c4, c5⟩ := h2
  have x1 := a4 B.testBit c1 c2
  have x2 := c4 A.testBit a1 a2
  refine ⟨by omega, Nat.eq_of_testBit_eq (fun j => ?_)⟩
  have y1 := a5 B.testBit c1 c2 (by omega) j
  have y2 := c5 A.testBit a1 a2 (by omega) j
  rw [Bool.eq_iff_iff]
  exact ⟨y1, y2⟩
/-- nodes reached, the last one first; P leads from one before -/
def mfT (P : Nat → Nat → Prop) (s : Nat) : List Nat → Prop
  | [] => False
  | x :: t => (x = s ∧ t = []) ∨ (x ∉ t ∧ x ≠ s ∧ (∃ w, w ∈ t ∧ P w x) ∧ mfT P s t)
theorem mfT.mono {P Q : Nat → Nat → Prop} {s : Nat} : ∀ {l : List Nat}, mfT P s l → (∀ w x, w ∈ l → x ∈ l → P w x → Q w x) → mfT Q s l
  | [], h, _ => h
  | x :: t, h, hm => by
    rcases h with h | ⟨h1, h2, ⟨w, w1, w2⟩, h4⟩
    · exact Or.inl h
    · exact Or.inr ⟨h1, h2, ⟨w, w1, hm w x (List.mem_cons_of_mem _ w1) List.mem_cons_self w2⟩, mfT.mono h4 (fun w x hw hx => hm w x (List.mem_cons_of_mem _ hw) (List.mem_cons_of_mem _ hx))⟩
theorem mfT.nodup {P : Nat → Nat → Prop} {s : Nat} : ∀ {l : List Nat}, mfT P s l → l.Nodup
  | [], h => h.elim
  | x :: t, h => by
    rcases h with ⟨_, h⟩ | ⟨h1, _, _, h4⟩
    · subst h
      exact List.nodup_cons.mpr ⟨List.not_mem_nil, List.nodup_nil⟩
    · exact List.nodup_cons.mpr ⟨h1, mfT.nodup h4⟩
theorem mfT.root {P : Nat → Nat → Prop} {s : Nat} : ∀ {l : List Nat}, mfT P s l → s ∈ l
  | [], h => h.elim
  | x :: t, h => by
    rcases h with ⟨h, _⟩ | ⟨_, _, _, h4⟩
    · rw [h]; exact List.mem_cons_self
    · exact List.mem_cons_of_mem _ (mfT.root h4)
theorem mfT.within {P : Nat → Nat → Prop} {s : Nat} {S : Nat → Bool} (hs : S s = true) (hP : ∀ w x, P w x → S w = true → S x = true) : ∀ {l : List Nat}, mfT P s l → ∀ x, x ∈ l → S x = true
  | [], h, _, _ => h.elim
  | y :: t, h, x, hx => by
    rcases h with ⟨h1, h2⟩ | ⟨_, _, ⟨w, w1, w2⟩, h4⟩
    · subst h2
      have := List.mem_singleton.mp hx
      rw [this, h1]; exact hs
    · have ih := mfT.within hs hP h4
      rcases List.mem_cons.mp hx with e | e
      · rw [e]; exact hP w y w2 (ih w w1)
      · exact ih x e
/-- as many different numbers below n -/
theorem mf_pig : ∀ (n : Nat) (l : List Nat), l.Nodup → (∀ x, x ∈ l → x < n) → l.length ≤ n
  | 0, l, _, h => by
    cases l with
    | nil => exact Nat.le_refl _
    | cons x t => exact absurd (h x List.mem_cons_self) (Nat.not_lt_zero _)
  | n + 1, l, hd, h => by
    by_cases hn : n ∈ l
    · have e := List.length_erase_of_mem hn
      have h1 := mf_pig n (l.erase n) (hd.erase n) (fun x hx => by
        have hx2 := (List.Nodup.mem_erase_iff hd).mp hx
        have h3 := h x hx2.2
        have h4 := hx2.1
        omega)
      have h5 := List.length_pos_of_mem hn
      omega
    · have h1 := mf_pig n l hd (fun x hx => by
        have h1 := h x hx
        have h2 : x ≠ n := fun e => hn (e ▸ hx)
        omega)
      omega
theorem mf_full {n : Nat} {l : List Nat} (hd : l.Nodup) (h : ∀ x, x ∈ l → x < n) (hl : n ≤ l.length) {x : Nat} (hx : x < n) : x ∈ l := by
  refine Classical.byContradiction (fun hn => ?_)
  have h1 := mf_pig n (x :: l) (List.nodup_cons.mpr ⟨hn, hd⟩) (fun y hy => by
    rcases List.mem_cons.mp hy with e | e
    · omega
    · exact h y e)
  rw [List.length_cons] at h1
  omega
/-- a set as a number and as a list -/
def mfB (A : Nat) (l : List Nat) : Prop := ∀ j, A.testBit j = decide (j ∈ l)
theorem mfB.one (s : Nat) : mfB (2 ^ s) [s] := fun j => by
  rw [Nat.testBit_two_pow]
  by_cases h : s = j
  · rw [decide_eq_true h, decide_eq_true (List.mem_singleton.mpr h.symm)]
  · rw [decide_eq_false h, decide_eq_false (fun z => h (List.mem_singleton.mp z).symm)]
theorem mfB.push {A x : Nat} {l : List Nat} (h : mfB A l) : mfB (A ||| 2 ^ x) (x :: l) := fun j => by
  rw [Nat.testBit_or, h j, Nat.testBit_two_pow]
  by_cases e : x = j
  · rw [decide_eq_true e, Bool.or_true, decide_eq_true (List.mem_cons.mpr (Or.inl e.symm))]
  · rw [decide_eq_false e, Bool.or_false]
    by_cases hj : j ∈ l
    · rw [decide_eq_true hj, decide_eq_true (List.mem_cons_of_mem _ hj)]
    · rw [decide_eq_false hj, decide_eq_false (fun z => by
        rcases List.mem_cons.mp z with z | z
        · exact e z.symm
        · exact hj z)]
theorem mfB.lt {A : Nat} {l : List Nat} (h : mfB A l) (hl : ∀ x, x ∈ l → x < 10) : A < 1024 := by
  have : A < 2 ^ 10 := Nat.lt_pow_two_of_testBit A (fun j hj => by
    rw [h j]
    exact decide_eq_false (fun z => by have := hl j z; omega))
  exact this
theorem mfB.t {A j : Nat} {l : List Nat} (h : mfB A l) : A.testBit j = true ↔ j ∈ l := by rw [h j, decide_eq_true_eq]
theorem mfB.f {A j : Nat} {l : List Nat} (h : mfB A l) : A.testBit j = false ↔ j ∉ l := by rw [h j, decide_eq_false_iff_not]
/-- how it comes out -/
theorem mfO.of {r : Nat → Nat} {s t v A : Nat} {l : List Nat} {Y : (Nat → Bool) → Nat} {P : Nat → Nat → Prop} (hB : mfB A l) (hl : ∀ x, x ∈ l → x < 10) (hT : mfT P s l) (ht : t ∉ l) (hY : ∀ S : Nat → Bool, S s = true → S t = false → Y S + v = mfC r S) (h0 : Y A.testBit = 0) (hP : ∀ S : Nat → Bool, Y S = 0 → ∀ w x, P w x → S w = true → S x = true) : mfO r s t v A := by
  have hs : A.testBit s = true := hB.t.mpr hT.root
  have htf : A.testBit t = false := hB.f.mpr ht
  have e := hY A.testBit hs htf
  refine ⟨hB.lt hl, hs, htf, by omega, fun S h1 h2 => by have := hY S h1 h2; omega, fun S h1 h2 h3 j hj => ?_⟩
  have h4 := hY S h1 h2
  exact mfT.within h1 (hP S (by omega)) hT j (hB.t.mp hj)
/-- the end is not cut off yet -/
theorem mf_more {s t : Nat} {l : List Nat} {Y : (Nat → Bool) → Nat} {P : Nat → Nat → Prop} (hT : mfT P s l) (ht : t ∈ l) {S : Nat → Bool} (h1 : S s = true) (h2 : S t = false) (hP : Y S = 0 → ∀ w x, P w x → S w = true → S x = true) : 1 ≤ Y S := by
  rcases Nat.eq_zero_or_pos (Y S) with h | h
  · have := mfT.within h1 (hP h) hT t ht
    rw [h2] at this; cases this
  · exact h
theorem mfC_le {r : Nat → Nat} (h14 : r 1 ≤ 14) (h5 : ∀ k, k < r 1 → lkp r k 2 ≤ 5) (S : Nat → Bool) : mfC r S ≤ 70 := by
  have h := mfS_le (f := fun k => cond (S (lkp r k 0) && !S (lkp r k 1)) (lkp r k 2) 0) (b := 5) (n := r 1) (fun k hk => by
    show cond (S (lkp r k 0) && !S (lkp r k 1)) (lkp r k 2) 0 ≤ 5
    have := h5 k hk
    cases (S (lkp r k 0) && !S (lkp r k 1))
    · exact Nat.zero_le _
    · exact this)
  have e : mfC r S ≤ 5 * r 1 := h
  omega
theorem b2_sel {b : Bool} {F : Int32 → gO} : (if gc_ne (b2 b) 1 = true then F 0 else F 1) = F (b2 b) := by
  cases b
  · exact if_pos (by decide)
  · exact if_neg (by decide)
theorem bit_b2 {A j : Nat} (hA : A < 2 ^ 31) (hj : j < 32) : gb_and (gb_shr (nI A) (nI j)) 1 = b2 (A.testBit j) := by
  have e1 : gb_and (gb_shr (nI A) (nI j)) 1 = nI (bt A j) := btI hj hA
  rw [e1, bt_tb]
  cases A.testBit j <;> rfl
