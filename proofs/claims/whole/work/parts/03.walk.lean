/-! ===== THE WALK AS A FUNCTION: a method's instructions as a function of its locals, its stack and the numbers of its world ===== -/
abbrev gM : Type := Nat → Nat → Int32
/-- a cell's form: an object (its class's number; a field is a number, or the place of a cell), a row of numbers (kind, length), a row of places -/
abbrev gL : Type := (Nat × List (Option Nat)) ⊕ ((Nat × Nat) ⊕ (Nat × List Nat))
abbrev gR : Type := Option Value ⊕ String
abbrev gK : Type := List (Option Value) → List Value → gM → Option (gR × gM)
def gv (ad : Nat → Nat) : Value → Value
  | .ref a => .ref (ad a)
  | v => v
theorem gv_cat (ad : Nat → Nat) (v : Value) : (gv ad v).category = v.category := by cases v <;> rfl
def gF (ad : Nat → Nat) (I : Nat → Int32) : Nat → List (Option Nat) → List Value
  | _, [] => []
  | j, none :: t => .int (I j) :: gF ad I (j + 1) t
  | j, some p :: t => .ref (ad p) :: gF ad I (j + 1) t
/-- a long out of two numbers -/
def gLg (lo hi : Int32) : Int64 := Int64.ofBitVec (hi.toBitVec ++ lo.toBitVec)
/-- what a row of kind t holds: kind 2 holds longs, two numbers each -/
def gAc (t : Nat) (I : Nat → Int32) : (Nat → Int32) ⊕ (Nat → Int64) ⊕ (Nat → UInt32) ⊕ (Nat → UInt64) ⊕ (Nat → Option Nat) := match t with
  | 2 => .inr (.inl (fun j => gLg (I (2 * j)) (I (2 * j + 1))))
  | _ => .inl I
def gC (cA : Nat → ClassId) (ad : Nat → Nat) (I : Nat → Int32) : gL → va_E
  | .inl (ci, fs) => .inr (ci, gF ad I 0 fs)
  | .inr (.inl (t, n)) => .inl (cA t, n, gAc t I)
  | .inr (.inr (t, ps)) => .inl (cA t, ps.length, .inr (.inr (.inr (.inr (fun j => (ps[(I j).toNatClampNeg]?).map ad)))))
def gW (cA : Nat → ClassId) (ad : Nat → Nat) (I : gM) : Nat → List gL → va_W
  | _, [] => []
  | k, d :: t => (ad k, gC cA ad (I k) d) :: gW cA ad I (k + 1) t
theorem gF_len (ad : Nat → Nat) (I : Nat → Int32) : ∀ (fs : List (Option Nat)) (j : Nat), (gF ad I j fs).length = fs.length
  | [], _ => rfl
  | none :: t, j => congrArg (· + 1) (gF_len ad I t (j + 1))
  | some p :: t, j => congrArg (· + 1) (gF_len ad I t (j + 1))
theorem gF_int (ad : Nat → Nat) (I : Nat → Int32) : ∀ (fs : List (Option Nat)) (j k : Nat), fs[k]? = some none → (gF ad I j fs)[k]? = some (.int (I (j + k)))
  | [], _, _, h => by simp at h
  | none :: t, j, 0, _ => rfl
  | none :: t, j, k + 1, h => by
    show (gF ad I (j + 1) t)[k]? = _
    rw [gF_int ad I t (j + 1) k (by simpa using h)]
    congr 3; omega
  | some p :: t, j, 0, h => by simp at h
  | some p :: t, j, k + 1, h => by
    show (gF ad I (j + 1) t)[k]? = _
    rw [gF_int ad I t (j + 1) k (by simpa using h)]
    congr 3; omega
theorem gF_ref (ad : Nat → Nat) (I : Nat → Int32) : ∀ (fs : List (Option Nat)) (j k p : Nat), fs[k]? = some (some p) → (gF ad I j fs)[k]? = some (.ref (ad p))
  | [], _, _, _, h => by simp at h
  | none :: t, j, 0, p, h => by simp at h
  | none :: t, j, k + 1, p, h => gF_ref ad I t (j + 1) k p (by simpa using h)
  | some q :: t, j, 0, p, h => by simp at h; subst h; rfl
  | some q :: t, j, k + 1, p, h => gF_ref ad I t (j + 1) k p (by simpa using h)
theorem gF_set (ad : Nat → Nat) (I : Nat → Int32) (x : Int32) : ∀ (fs : List (Option Nat)) (j k : Nat), fs[k]? = some none → (gF ad I j fs).set k (.int x) = gF ad (upd I (j + k) x) j fs
  | [], _, _, h => by simp at h
  | none :: t, j, 0, _ => by
    show Value.int x :: gF ad I (j + 1) t = Value.int (upd I (j + 0) x j) :: gF ad (upd I (j + 0) x) (j + 1) t
    have e : ∀ (u : List (Option Nat)) (i : Nat), j < i → gF ad I i u = gF ad (upd I (j + 0) x) i u := by
      intro u
      induction u with
      | nil => intro i _; rfl
      | cons a u ih =>
        intro i hi
        cases a with
        | none =>
          show Value.int (I i) :: gF ad I (i + 1) u = Value.int (upd I (j + 0) x i) :: _
          rw [ih (i + 1) (by omega), pk_un (by omega)]
        | some p =>
          show Value.ref (ad p) :: gF ad I (i + 1) u = Value.ref (ad p) :: _
          rw [ih (i + 1) (by omega)]
    rw [e t (j + 1) (by omega)]
    congr 2
    exact pk_us.symm
  | none :: t, j, k + 1, h => by
    show Value.int (I j) :: (gF ad I (j + 1) t).set k (.int x) = Value.int (upd I (j + (k + 1)) x j) :: _
    rw [gF_set ad I x t (j + 1) k (by simpa using h), show j + 1 + k = j + (k + 1) by omega, pk_un (by omega)]
  | some p :: t, j, 0, h => by simp at h
  | some p :: t, j, k + 1, h => by
    show Value.ref (ad p) :: (gF ad I (j + 1) t).set k (.int x) = Value.ref (ad p) :: _
    rw [gF_set ad I x t (j + 1) k (by simpa using h), show j + 1 + k = j + (k + 1) by omega]
theorem gW_get (cA : Nat → ClassId) (ad : Nat → Nat) (I : gM) : ∀ (lay : List gL) (k j : Nat), (gW cA ad I k lay)[j]? = (lay[j]?).map (fun d => (ad (k + j), gC cA ad (I (k + j)) d))
  | [], _, _ => by simp [gW]
  | d :: t, k, 0 => rfl
  | d :: t, k, j + 1 => by
    show (gW cA ad I (k + 1) t)[j]? = (t[j]?).map _
    rw [gW_get cA ad I t (k + 1) j, show k + 1 + j = k + (j + 1) by omega]
theorem gW_at {cA : Nat → ClassId} {ad : Nat → Nat} {I : gM} {lay : List gL} {j : Nat} {d : gL} (h : lay[j]? = some d) : (gW cA ad I 0 lay)[j]? = some (ad j, gC cA ad (I j) d) := by
  rw [gW_get, h, Nat.zero_add]; rfl
theorem gW_inv {cA : Nat → ClassId} {ad : Nat → Nat} {I : gM} {lay : List gL} {j : Nat} {q : Nat × va_E} (h : (gW cA ad I 0 lay)[j]? = some q) : ∃ d, lay[j]? = some d ∧ q = (ad j, gC cA ad (I j) d) := by
  rw [gW_get, Nat.zero_add] at h
  cases hd : lay[j]? with
  | none => rw [hd] at h; cases h
  | some d => rw [hd] at h; exact ⟨d, rfl, (Option.some.inj h).symm⟩
theorem gW_len (cA : Nat → ClassId) (ad : Nat → Nat) (I : gM) : ∀ (lay : List gL) (k : Nat), (gW cA ad I k lay).length = lay.length
  | [], _ => rfl
  | _ :: t, k => congrArg (· + 1) (gW_len cA ad I t (k + 1))
/-- one number of one cell becomes another one -/
def gU (I : gM) (k j : Nat) (x : Int32) : gM := fun k' => if k' = k then upd (I k) j x else I k'
theorem gU_s {I : gM} {k j : Nat} {x : Int32} : gU I k j x k = upd (I k) j x := if_pos rfl
theorem gU_n {I : gM} {k j k' : Nat} {x : Int32} (h : k' ≠ k) : gU I k j x k' = I k' := if_neg h
theorem gW_upd {cA : Nat → ClassId} {ad : Nat → Nat} {I J : gM} {lay : List gL} {k : Nat} {d : gL} {e : va_E} (h : lay[k]? = some d) (he : e = gC cA ad (J k) d) (hn : ∀ k', k' ≠ k → J k' = I k') : (gW cA ad I 0 lay).set k (ad k, e) = gW cA ad J 0 lay := by
  apply List.ext_getElem?
  intro j
  have hl : k < lay.length := (List.getElem?_eq_some_iff.mp h).1
  by_cases hj : j = k
  · subst hj
    rw [List.getElem?_set_self (by rw [gW_len]; exact hl), gW_at h, he]
  · rw [List.getElem?_set_ne (Ne.symm hj), gW_get, gW_get, Nat.zero_add, hn j hj]
theorem gW_putf {cA : Nat → ClassId} {ad : Nat → Nat} {I : gM} {lay : List gL} {k j ci : Nat} {fs : List (Option Nat)} {x : Int32} (h : lay[k]? = some (.inl (ci, fs))) (hj : fs[j]? = some none) : (gW cA ad I 0 lay).set k (ad k, .inr (ci, (gF ad (I k) 0 fs).set j (.int x))) = gW cA ad (gU I k j x) 0 lay :=
  gW_upd h (by rw [gF_set _ _ _ _ _ _ hj, Nat.zero_add, gU_s]; rfl) (fun k' hk => gU_n hk)
theorem gW_puta {cA : Nat → ClassId} {ad : Nat → Nat} {I : gM} {lay : List gL} {k j t n : Nat} {x : Int32} (h : lay[k]? = some (.inr (.inl (t, n)))) (ht : ∀ J : Nat → Int32, gAc t J = .inl J) : (gW cA ad I 0 lay).set k (ad k, .inl (cA t, n, .inl (upd (I k) j x))) = gW cA ad (gU I k j x) 0 lay :=
  gW_upd h (by rw [gU_s]; show _ = (Sum.inl (cA t, n, gAc t (upd (I k) j x)) : va_E); rw [ht]) (fun k' hk => gU_n hk)
/-- the places are apart, and their addresses of a kind -/
def gD (A : Nat → Prop) (ad : Nat → Nat) (n : Nat) : Prop := (∀ i j : Nat, i < n → j < n → ad i = ad j → i = j) ∧ ∀ k : Nat, k < n → A (ad k)
theorem gD.to {A : Nat → Prop} {cA : Nat → ClassId} {ad : Nat → Nat} {I : gM} {lay : List gL} (h : gD A ad lay.length) : va_D A (gW cA ad I 0 lay) := by
  refine ⟨fun i j p q hi hj hpq => ?_, fun k q hk => ?_⟩
  · obtain ⟨d1, h1, rfl⟩ := gW_inv hi
    obtain ⟨d2, h2, rfl⟩ := gW_inv hj
    exact h.1 i j (List.getElem?_eq_some_iff.mp h1).1 (List.getElem?_eq_some_iff.mp h2).1 hpq
  · obtain ⟨d, h1, rfl⟩ := gW_inv hk
    exact h.2 k (List.getElem?_eq_some_iff.mp h1).1
theorem gD.of {A : Nat → Prop} {cA : Nat → ClassId} {ad : Nat → Nat} {I : gM} {lay : List gL} (h : va_D A (gW cA ad I 0 lay)) : gD A ad lay.length := by
  refine ⟨fun i j hi hj he => ?_, fun k hk => ?_⟩
  · exact h.1 i j _ _ (gW_at (List.getElem?_eq_getElem hi)) (gW_at (List.getElem?_eq_getElem hj)) he
  · exact h.2 k _ (gW_at (List.getElem?_eq_getElem hk))
/-! the locals -/
def gAs : Nat → List (Option Value) → List (Nat × Value)
  | _, [] => []
  | k, none :: t => gAs (k + 1) t
  | k, some v :: t => (k, v) :: gAs (k + 1) t
theorem gAs_mem : ∀ (L : List (Option Value)) (k : Nat) (q : Nat × Value), q ∈ gAs k L ↔ ∃ j, q.1 = k + j ∧ L[j]? = some (some q.2)
  | [], k, q => by simp [gAs]
  | none :: t, k, q => by
    rw [show gAs k (none :: t) = gAs (k + 1) t from rfl, gAs_mem t (k + 1) q]
    constructor
    · rintro ⟨j, h1, h2⟩; exact ⟨j + 1, by omega, by simpa using h2⟩
    · rintro ⟨j, h1, h2⟩
      cases j with
      | zero => simp at h2
      | succ j => exact ⟨j, by omega, by simpa using h2⟩
  | some v :: t, k, q => by
    rw [show gAs k (some v :: t) = (k, v) :: gAs (k + 1) t from rfl, List.mem_cons, gAs_mem t (k + 1) q]
    constructor
    · rintro (rfl | ⟨j, h1, h2⟩)
      · exact ⟨0, rfl, rfl⟩
      · exact ⟨j + 1, by omega, by simpa using h2⟩
    · rintro ⟨j, h1, h2⟩
      cases j with
      | zero => left; simp at h2; cases q; simp_all
      | succ j => right; exact ⟨j, by omega, by simpa using h2⟩
def gAv (ad : Nat → Nat) (L : List (Option Value)) : List (Nat × Value) := (gAs 0 L).map fun q => (q.1, gv ad q.2)
theorem gAv_mem {ad : Nat → Nat} {L : List (Option Value)} {q : Nat × Value} : q ∈ gAv ad L ↔ ∃ v, L[q.1]? = some (some v) ∧ q.2 = gv ad v := by
  unfold gAv
  rw [List.mem_map]
  constructor
  · rintro ⟨p, hp, rfl⟩
    obtain ⟨j, h1, h2⟩ := (gAs_mem L 0 p).mp hp
    rw [Nat.zero_add] at h1
    exact ⟨p.2, by rw [h1]; exact h2, rfl⟩
  · rintro ⟨v, h1, h2⟩
    exact ⟨(q.1, v), (gAs_mem L 0 _).mpr ⟨q.1, by omega, h1⟩, by rw [← h2]⟩
def gLs (ad : Nat → Nat) (ls : Array Slot) (L : List (Option Value)) : Prop := lv_has ls L.length (gAv ad L)
theorem gLs.at {ad : Nat → Nat} {ls : Array Slot} {L : List (Option Value)} (h : gLs ad ls L) {i : Nat} {v : Value} (hv : L[i]? = some (some v)) : ls[i]? = some (.val (gv ad v)) := h.2.2 (i, gv ad v) (gAv_mem.mpr ⟨v, hv, rfl⟩)
theorem gLs.mk {ad : Nat → Nat} {ls : Array Slot} {L : List (Option Value)} {n : Nat} {l : List (Nat × Value)} (h : lv_has ls n l) (hn : L.length = n) (hs : ∀ (i : Nat) (v : Value), L[i]? = some (some v) → (i, gv ad v) ∈ l) : gLs ad ls L := by
  refine ⟨h.1.trans hn.symm, h.2.1, fun q hq => ?_⟩
  obtain ⟨v, h1, h2⟩ := gAv_mem.mp hq
  have := h.2.2 (q.1, gv ad v) (hs _ _ h1)
  rw [h2]; exact this
/-- a store kills a long that stands one place before -/
def gKl (L : List (Option Value)) : Nat → List (Option Value)
  | 0 => L
  | j + 1 => match L[j]? with
    | some (some w) => if w.category = 2 then L.set j none else L
    | _ => L
def gSt (L : List (Option Value)) (i : Nat) (v : Value) : List (Option Value) := (gKl L i).set i (some v)
def gSl (L : List (Option Value)) (i : Nat) (v : Value) : List (Option Value) := (gSt L i v).set (i + 1) none
theorem gKl_len (L : List (Option Value)) (i : Nat) : (gKl L i).length = L.length := by
  cases i with
  | zero => rfl
  | succ j =>
    show (match L[j]? with | some (some w) => if w.category = 2 then L.set j none else L | _ => L).length = _
    split
    · split <;> simp
    · rfl
theorem gKl_at {L : List (Option Value)} {i j : Nat} {w : Value} (h : (gKl L i)[j]? = some (some w)) : L[j]? = some (some w) ∧ ¬ (j + 1 = i ∧ w.category = 2) := by
  cases i with
  | zero => exact ⟨h, fun z => by omega⟩
  | succ k =>
    have h' : (match L[k]? with | some (some w) => if w.category = 2 then L.set k none else L | _ => L)[j]? = some (some w) := h
    split at h'
    · rename_i w0 hw0
      split at h'
      · by_cases hjk : j = k
        · subst hjk
          rw [List.getElem?_set_self (List.getElem?_eq_some_iff.mp hw0).1] at h'
          cases h'
        · rw [List.getElem?_set_ne (Ne.symm hjk)] at h'
          exact ⟨h', fun z => hjk (by omega)⟩
      · rename_i hc
        refine ⟨h', fun z => hc ?_⟩
        have : j = k := by omega
        subst this
        rw [hw0] at h'
        cases h'
        exact z.2
    · rename_i hno
      refine ⟨h', fun z => ?_⟩
      have : j = k := by omega
      subst this
      exact hno w h'
theorem gSt_len (L : List (Option Value)) (i : Nat) (v : Value) : (gSt L i v).length = L.length := by
  unfold gSt; rw [List.length_set, gKl_len]
theorem gSl_len (L : List (Option Value)) (i : Nat) (v : Value) : (gSl L i v).length = L.length := by
  unfold gSl; rw [List.length_set, gSt_len]
theorem gSt_at {L : List (Option Value)} {i j : Nat} {v w : Value} (hi : i < L.length) (h : (gSt L i v)[j]? = some (some w)) : (j = i ∧ w = v) ∨ (j ≠ i ∧ L[j]? = some (some w) ∧ ¬ (j + 1 = i ∧ w.category = 2)) := by
  unfold gSt at h
  by_cases hj : j = i
  · subst hj
    rw [List.getElem?_set_self (by rw [gKl_len]; exact hi)] at h
    cases h
    exact Or.inl ⟨rfl, rfl⟩
  · rw [List.getElem?_set_ne (Ne.symm hj)] at h
    exact Or.inr ⟨hj, gKl_at h⟩
theorem gLs.st {ad : Nat → Nat} {ls' : Array Slot} {L : List (Option Value)} {i : Nat} {v : Value} (hi : i < L.length) (h : lv_has ls' L.length ((i, gv ad v) :: (gAv ad L).filter (fun q => !(q.1 == i) && !(q.1 + 1 == i && q.2.category == 2)))) : gLs ad ls' (gSt L i v) := by
  refine gLs.mk h (gSt_len L i v) (fun j w hw => ?_)
  rcases gSt_at hi hw with ⟨rfl, rfl⟩ | ⟨h1, h2, h3⟩
  · exact List.mem_cons_self
  · refine List.mem_cons_of_mem _ (List.mem_filter.mpr ⟨gAv_mem.mpr ⟨w, h2, rfl⟩, ?_⟩)
    simp only [gv_cat, Bool.and_eq_true, Bool.not_eq_true', Bool.and_eq_false_imp, beq_eq_false_iff_ne, beq_iff_eq, ne_eq]
    exact ⟨h1, fun e1 e2 => h3 ⟨e1, e2⟩⟩
theorem gLs.sl {ad : Nat → Nat} {ls' : Array Slot} {L : List (Option Value)} {i : Nat} {v : Value} (hi : i + 1 < L.length) (h : lv_has ls' L.length ((i, gv ad v) :: (gAv ad L).filter (fun q => !(q.1 == i) && (!(q.1 == i + 1) && !(q.1 + 1 == i && q.2.category == 2))))) : gLs ad ls' (gSl L i v) := by
  refine gLs.mk h (gSl_len L i v) (fun j w hw => ?_)
  have hj1 : j ≠ i + 1 := by
    intro e; subst e
    unfold gSl at hw
    rw [List.getElem?_set_self (by rw [gSt_len]; exact hi)] at hw
    cases hw
  have hw' : (gSt L i v)[j]? = some (some w) := by
    unfold gSl at hw
    rwa [List.getElem?_set_ne (Ne.symm hj1)] at hw
  rcases gSt_at (by omega) hw' with ⟨rfl, rfl⟩ | ⟨h1, h2, h3⟩
  · exact List.mem_cons_self
  · refine List.mem_cons_of_mem _ (List.mem_filter.mpr ⟨gAv_mem.mpr ⟨w, h2, rfl⟩, ?_⟩)
    simp only [gv_cat, Bool.and_eq_true, Bool.not_eq_true', Bool.and_eq_false_imp, beq_eq_false_iff_ne, beq_iff_eq, ne_eq]
    exact ⟨h1, hj1, fun e1 e2 => h3 ⟨e1, e2⟩⟩
def gMask : List Bool → List (Option Value) → List (Option Value)
  | _, [] => []
  | [], v :: t => v :: gMask [] t
  | true :: m, v :: t => v :: gMask m t
  | false :: m, _ :: t => none :: gMask m t
theorem gMask_len : ∀ (L : List (Option Value)) (m : List Bool), (gMask m L).length = L.length
  | [], m => by cases m <;> rfl
  | v :: t, [] => congrArg (· + 1) (gMask_len t [])
  | v :: t, true :: m => congrArg (· + 1) (gMask_len t m)
  | v :: t, false :: m => congrArg (· + 1) (gMask_len t m)
theorem gMask_at : ∀ (L : List (Option Value)) (m : List Bool) (j : Nat) (w : Value), (gMask m L)[j]? = some (some w) → L[j]? = some (some w)
  | [], m, j, w, h => by cases m <;> simp [gMask] at h
  | v :: t, [], 0, w, h => h
  | v :: t, [], j + 1, w, h => gMask_at t [] j w h
  | v :: t, true :: m, 0, w, h => h
  | v :: t, true :: m, j + 1, w, h => gMask_at t m j w h
  | v :: t, false :: m, 0, w, h => by simp [gMask] at h
  | v :: t, false :: m, j + 1, w, h => gMask_at t m j w h
theorem gLs.mask {ad : Nat → Nat} {ls : Array Slot} {L : List (Option Value)} (m : List Bool) (h : gLs ad ls L) : gLs ad ls (gMask m L) :=
  gLs.mk h (gMask_len L m) (fun i v hv => gAv_mem.mpr ⟨v, gMask_at L m i v hv, rfl⟩)
