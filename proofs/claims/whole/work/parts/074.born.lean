/-! ===== WHAT IS MADE: constructors. A world that grows: its front is the object under construction (place 0), or nothing ===== -/
abbrev gX : Type := Option (Option Nat)
def gHv (ad : Nat → Nat) : gX → Value
  | none => .int 0
  | some none => .null
  | some (some p) => .ref (ad p)
abbrev gFr : Type := Option (Nat × List gX)
def gFw (ad : Nat → Nat) : gFr → va_W
  | none => []
  | some (ci, fs) => [(ad 0, .inr (ci, fs.map (gHv ad)))]
def gF0 : gFr → Nat
  | none => 0
  | some _ => 1
def gWb (cA : Nat → ClassId) (ad : Nat → Nat) (I : gM) (F : gFr) (tl : List gL) : va_W := gFw ad F ++ gW cA ad I (gF0 F) tl
theorem gFw_len (ad : Nat → Nat) (F : gFr) : (gFw ad F).length = gF0 F := by
  match F with
  | none => rfl
  | some (ci, fs) => rfl
theorem gWb_len (cA : Nat → ClassId) (ad : Nat → Nat) (I : gM) (F : gFr) (tl : List gL) : (gWb cA ad I F tl).length = gF0 F + tl.length := by
  unfold gWb; rw [List.length_append, gFw_len, gW_len]
theorem gWb_inv {cA : Nat → ClassId} {ad : Nat → Nat} {I : gM} {F : gFr} {tl : List gL} {k : Nat} {q : Nat × va_E} (h : (gWb cA ad I F tl)[k]? = some q) : q.1 = ad k := by
  unfold gWb at h
  by_cases hk : k < (gFw ad F).length
  · rw [List.getElem?_append_left hk] at h
    match F, h, hk with
    | some (ci, fs), h, hk =>
      have : k = 0 := by have := hk; rw [gFw_len] at this; have : gF0 (some (ci, fs)) = 1 := rfl; omega
      subst this
      cases h; rfl
  · rw [List.getElem?_append_right (by omega), gW_get, gFw_len] at h
    cases hd : tl[k - gF0 F]? with
    | none => rw [hd] at h; cases h
    | some d =>
      rw [hd] at h
      cases h
      rw [gFw_len] at hk
      show ad (gF0 F + (k - gF0 F)) = ad k
      rw [show gF0 F + (k - gF0 F) = k by omega]
theorem gW_app (cA : Nat → ClassId) (ad : Nat → Nat) (I : gM) : ∀ (a b : List gL) (k : Nat), gW cA ad I k (a ++ b) = gW cA ad I k a ++ gW cA ad I (k + a.length) b
  | [], b, k => rfl
  | d :: t, b, k => by
    show _ :: gW cA ad I (k + 1) (t ++ b) = _ :: (gW cA ad I (k + 1) t ++ gW cA ad I (k + (t.length + 1)) b)
    rw [gW_app cA ad I t b (k + 1), show k + 1 + t.length = k + (t.length + 1) by omega]
theorem gWb_D {A : Nat → Prop} {cA : Nat → ClassId} {ad : Nat → Nat} {I : gM} {F : gFr} {tl : List gL} (h : gD A ad (gF0 F + tl.length)) : va_D A (gWb cA ad I F tl) := by
  have hl : ∀ (k : Nat) (q : Nat × va_E), (gWb cA ad I F tl)[k]? = some q → k < gF0 F + tl.length := fun k q hk => by
    have := (List.getElem?_eq_some_iff.mp hk).1; rwa [gWb_len] at this
  refine ⟨fun i j p q hi hj hpq => ?_, fun k q hk => ?_⟩
  · rw [gWb_inv hi, gWb_inv hj] at hpq
    exact h.1 i j (hl i p hi) (hl j q hj) hpq
  · rw [gWb_inv hk]; exact h.2 k (hl k q hk)
/-! all that is said of places speaks of places that are there -/
def gCl (n : Nat) (I : Nat → Int32) : gL → Prop
  | .inl (_, fs) => ∀ q, some q ∈ fs → q < n
  | .inr (.inl _) => True
  | .inr (.inr (_, ps)) => ∀ (j q : Nat), ps[(I j).toNatClampNeg]? = some q → q < n
def gCb (n : Nat) : gL → Bool
  | .inl (_, fs) => fs.all (fun o => match o with | none => true | some q => decide (q < n))
  | .inr (.inl _) => true
  | .inr (.inr (_, ps)) => ps.all (fun q => decide (q < n))
theorem gCb_ok {n : Nat} {d : gL} (h : gCb n d = true) (I : Nat → Int32) : gCl n I d := by
  match d, h with
  | .inl (_, fs), h => exact fun q hq => of_decide_eq_true (List.all_eq_true.mp h (some q) hq)
  | .inr (.inl _), _ => trivial
  | .inr (.inr (_, ps)), h => exact fun j q hq => of_decide_eq_true (List.all_eq_true.mp h q (List.mem_of_getElem? hq))
theorem gF_cong {ad ad2 : Nat → Nat} {I : Nat → Int32} {n : Nat} (h : ∀ p : Nat, p < n → ad2 p = ad p) : ∀ (fs : List (Option Nat)) (j : Nat), (∀ q, some q ∈ fs → q < n) → gF ad2 I j fs = gF ad I j fs
  | [], _, _ => rfl
  | none :: t, j, hf => congrArg (Value.int (I j) :: ·) (gF_cong h t (j + 1) (fun q hq => hf q (List.mem_cons_of_mem _ hq)))
  | some q :: t, j, hf => by
    show Value.ref (ad2 q) :: _ = Value.ref (ad q) :: _
    rw [h q (hf q List.mem_cons_self), gF_cong h t (j + 1) (fun q hq => hf q (List.mem_cons_of_mem _ hq))]
theorem gC_cong {cA : Nat → ClassId} {ad ad2 : Nat → Nat} {I : Nat → Int32} {n : Nat} (h : ∀ p : Nat, p < n → ad2 p = ad p) {d : gL} (hd : gCl n I d) : gC cA ad2 I d = gC cA ad I d := by
  match d, hd with
  | .inl (ci, fs), hd => exact congrArg (fun z => (Sum.inr (ci, z) : va_E)) (gF_cong h fs 0 hd)
  | .inr (.inl (t, n)), _ => rfl
  | .inr (.inr (t, ps)), hd =>
    show (Sum.inl (cA t, ps.length, .inr (.inr (.inr (.inr (fun j => (ps[(I j).toNatClampNeg]?).map ad2))))) : va_E) = Sum.inl (cA t, ps.length, .inr (.inr (.inr (.inr (fun j => (ps[(I j).toNatClampNeg]?).map ad)))))
    congr 7
    funext j
    cases hq : ps[(I j).toNatClampNeg]? with
    | none => rfl
    | some q => exact congrArg some (h q (hd j q hq))
def gClW (n : Nat) (I : gM) (F : gFr) (tl : List gL) : Prop := (match F with | none => True | some (_, fs) => 0 < n ∧ ∀ q, some (some q) ∈ fs → q < n) ∧ ∀ (j : Nat) (d : gL), tl[j]? = some d → gF0 F + j < n ∧ gCl n (I (gF0 F + j)) d
theorem gWb_cong {cA : Nat → ClassId} {ad ad2 : Nat → Nat} {I I2 : gM} {F : gFr} {tl : List gL} {n : Nat} (hc : gClW n I F tl) (h : ∀ p : Nat, p < n → ad2 p = ad p) (h2 : ∀ p : Nat, p < n → I2 p = I p) : gWb cA ad2 I2 F tl = gWb cA ad I F tl := by
  unfold gWb
  congr 1
  · match F, hc.1 with
    | none, _ => rfl
    | some (ci, fs), hf =>
      show [(ad2 0, (Sum.inr (ci, fs.map (gHv ad2)) : va_E))] = [(ad 0, Sum.inr (ci, fs.map (gHv ad)))]
      rw [h 0 hf.1]
      congr 4
      refine List.map_congr_left (fun x hx => ?_)
      match x, hx with
      | none, _ => rfl
      | some none, _ => rfl
      | some (some q), hx => exact congrArg Value.ref (h q (hf.2 q hx))
  · apply List.ext_getElem?
    intro j
    rw [gW_get, gW_get]
    cases hd : tl[j]? with
    | none => rfl
    | some d =>
      obtain ⟨h3, h4⟩ := hc.2 j d hd
      show some (ad2 (gF0 F + j), gC cA ad2 (I2 (gF0 F + j)) d) = some (ad (gF0 F + j), gC cA ad (I (gF0 F + j)) d)
      rw [h _ h3, h2 _ h3, gC_cong h h4]
def gFb (n : Nat) : gFr → Bool
  | none => true
  | some (_, fs) => decide (0 < n) && fs.all (fun x => match x with | some (some q) => decide (q < n) | _ => true)
theorem gClW_of {n : Nat} {I : gM} {F : gFr} {tl : List gL} (h : (gFb n F && tl.all (gCb n)) = true) (hn : gF0 F + tl.length ≤ n) : gClW n I F tl := by
  rw [Bool.and_eq_true] at h
  refine ⟨?_, fun j d hd => ⟨?_, gCb_ok (List.all_eq_true.mp h.2 d (List.mem_of_getElem? hd)) _⟩⟩
  · match F, h.1 with
    | none, _ => trivial
    | some (ci, fs), hf =>
      have hf : (decide (0 < n) && fs.all (fun x => match x with | some (some q) => decide (q < n) | _ => true)) = true := hf
      rw [Bool.and_eq_true] at hf
      exact ⟨of_decide_eq_true hf.1, fun q hq => of_decide_eq_true (List.all_eq_true.mp hf.2 (some (some q)) hq)⟩
  · have := (List.getElem?_eq_some_iff.mp hd).1; omega
/-! values that speak of places that are there -/
def gVb (n : Nat) : Value → Bool
  | .ref p => decide (p < n) || decide (1000 ≤ p)
  | _ => true
theorem gv_cong {ad ad2 : Nat → Nat} {n : Nat} (h : ∀ p : Nat, p < n → ad2 p = ad p) (h9 : ∀ p : Nat, 1000 ≤ p → ad2 p = ad p) {v : Value} (hv : gVb n v = true) : gv ad2 v = gv ad v := by
  cases v with
  | ref p =>
    have hv : (decide (p < n) || decide (1000 ≤ p)) = true := hv
    rw [Bool.or_eq_true] at hv
    rcases hv with hv | hv
    · exact congrArg Value.ref (h p (of_decide_eq_true hv))
    · exact congrArg Value.ref (h9 p (of_decide_eq_true hv))
  | _ => rfl
def gLb (n : Nat) (L : List (Option Value)) : Bool := L.all (fun o => match o with | none => true | some v => gVb n v)
theorem gLs_cong {ad ad2 : Nat → Nat} {n : Nat} {ls : Array Slot} {L : List (Option Value)} (h : ∀ p : Nat, p < n → ad2 p = ad p) (h9 : ∀ p : Nat, 1000 ≤ p → ad2 p = ad p) (hb : gLb n L = true) (hl : gLs ad ls L) : gLs ad2 ls L :=
  gLs.mk hl rfl (fun i v hv => gAv_mem.mpr ⟨v, hv, gv_cong h h9 (List.all_eq_true.mp hb (some v) (List.mem_of_getElem? hv))⟩)
theorem gst_cong {ad ad2 : Nat → Nat} {n : Nat} {st : List Value} (h : ∀ p : Nat, p < n → ad2 p = ad p) (h9 : ∀ p : Nat, 1000 ≤ p → ad2 p = ad p) (hb : st.all (gVb n) = true) : st.map (gv ad2) = st.map (gv ad) :=
  List.map_congr_left (fun v hv => gv_cong h h9 (List.all_eq_true.mp hb v hv))
/-! the judgement -/
def gPK (γ : gG) : Prop := match γ with
  | ((p, l, e, R, s, m, args, below, meth, c, Q), A, D, cA, ad, lay, fin, cc, own, E, n0, ra) =>
    p.tables.exec = Jvm.exec ∧ c.code = cc ∧ s.vm.findClass own = some m.cls ∧ (∀ w ∈ gTb, w.before args s = true) ∧ va_K D vwCl (gTy cA) s ∧ (∀ q : Nat, s.heap.size ≤ q → A q) ∧ (E s ∧ ∀ w ∈ gNw, va_Nw w s) ∧ n0 ≤ s.heap.size ∧ ∀ q : Nat, A q → n0 ≤ q
def gPt (γ : gG) (a0 cs ss pc : Nat) (F : gFr) (tl : List gL) (L : List (Option Value)) (st : List Value) (I : gM) : Prop := match γ with
  | ((p, l, e, R, s, m, args, below, meth, c, Q), A, D, cA, _, _, _, _, _, _, _, ra) =>
    ∀ (ad : Nat → Nat), ad 0 = a0 → gD A ad (gF0 F + tl.length) → (∀ k : Nat, ad (1000 + k) = ra k) → ∀ (H : Heap) (locs : List Loc) (ls : Array Slot), gLs ad ls L → L.length = c.maxLocals → va_P D vwCl (gWb cA ad I F tl) H → va_S A s.heap H locs → cs ≤ R.cells → ss ≤ R.slots → W p l e R s m args below meth c H locs cs ss Q (F0 m pc ls (st.map (gv ad)))
def gAdd (I : gM) (n : Nat) (x : Nat → Int32) : gM := fun p => if p = n then x else I p
theorem gPt_aload {γ : gG} {a0 cs ss pc : Nat} {F : gFr} {tl : List gL} {L : List (Option Value)} {st : List Value} {I : gM} {cc : ByteArray} (G : gPK γ) (hb : gcc γ = cc) {q : Fin 4} {x : Nat} (hd : decode cc pc = .ok (.aload_n q, 1)) (hL : L[(q : Nat)]? = some (some (.ref x))) (h : gPt γ a0 cs ss (pc + 1) F tl L (.ref x :: st) I) : gPt γ a0 cs ss pc F tl L st I := by
  obtain ⟨⟨p, l, e, R, s, m, args, below, meth, c, Q⟩, A, D, cA, ad0, lay, fin, cc', own, E, n0, ra⟩ := γ
  subst hb
  intro ad h0 hD hra H locs ls hl hn hP hS hcs hss
  exact lv_aload_n G.1 G.2.1 hd rfl (hl.at hL) (h ad h0 hD hra H locs ls hl hn hP hS hcs hss)
theorem gPt_astore {γ : gG} {a0 cs ss pc : Nat} {F : gFr} {tl : List gL} {L : List (Option Value)} {st : List Value} {I : gM} {cc : ByteArray} (G : gPK γ) (hb : gcc γ = cc) {q : Fin 4} {i x : Nat} (hd : decode cc pc = .ok (.astore_n q, 1)) (hi : (q : Nat) = i) (hL : i < L.length) (h : gPt γ a0 cs ss (pc + 1) F tl (gSt L i (.ref x)) st I) : gPt γ a0 cs ss pc F tl L (.ref x :: st) I := by
  obtain ⟨⟨p, l, e, R, s, m, args, below, meth, c, Q⟩, A, D, cA, ad0, lay, fin, cc', own, E, n0, ra⟩ := γ
  subst hb
  intro ad h0 hD hra H locs ls hl hn hP hS hcs hss
  refine lv_astore_n G.1 G.2.1 hd hi hl hL rfl (fun ls' hl' => ?_)
  exact h ad h0 hD hra H locs ls' (gLs.st (v := .ref x) hL hl') ((gSt_len _ _ _).trans hn) hP hS hcs hss
theorem gPt_iconst {γ : gG} {a0 cs ss pc : Nat} {F : gFr} {tl : List gL} {L : List (Option Value)} {st : List Value} {I : gM} {cc : ByteArray} (G : gPK γ) (hb : gcc γ = cc) {n : Int} {v : Int32} (hd : decode cc pc = .ok (.iconst n, 1)) (hv : Int32.ofInt n = v) (h : gPt γ a0 cs ss (pc + 1) F tl L (.int v :: st) I) : gPt γ a0 cs ss pc F tl L st I := by
  obtain ⟨⟨p, l, e, R, s, m, args, below, meth, c, Q⟩, A, D, cA, ad0, lay, fin, cc', own, E, n0, ra⟩ := γ
  subst hb
  intro ad h0 hD hra H locs ls hl hn hP hS hcs hss
  exact lv_iconst G.1 G.2.1 hd hv (h ad h0 hD hra H locs ls hl hn hP hS hcs hss)
theorem gPt_bipush {γ : gG} {a0 cs ss pc : Nat} {F : gFr} {tl : List gL} {L : List (Option Value)} {st : List Value} {I : gM} {cc : ByteArray} (G : gPK γ) (hb : gcc γ = cc) {n : Int} {v : Int32} (hd : decode cc pc = .ok (.bipush n, 2)) (hv : (Int8.ofInt n).toInt32 = v) (h : gPt γ a0 cs ss (pc + 2) F tl L (.int v :: st) I) : gPt γ a0 cs ss pc F tl L st I := by
  obtain ⟨⟨p, l, e, R, s, m, args, below, meth, c, Q⟩, A, D, cA, ad0, lay, fin, cc', own, E, n0, ra⟩ := γ
  subst hb
  intro ad h0 hD hra H locs ls hl hn hP hS hcs hss
  exact lv_bipush G.1 G.2.1 hd hv (h ad h0 hD hra H locs ls hl hn hP hS hcs hss)
theorem gPt_sipush {γ : gG} {a0 cs ss pc : Nat} {F : gFr} {tl : List gL} {L : List (Option Value)} {st : List Value} {I : gM} {cc : ByteArray} (G : gPK γ) (hb : gcc γ = cc) {n : Int} {v : Int32} (hd : decode cc pc = .ok (.sipush n, 3)) (hv : (Int16.ofInt n).toInt32 = v) (h : gPt γ a0 cs ss (pc + 3) F tl L (.int v :: st) I) : gPt γ a0 cs ss pc F tl L st I := by
  obtain ⟨⟨p, l, e, R, s, m, args, below, meth, c, Q⟩, A, D, cA, ad0, lay, fin, cc', own, E, n0, ra⟩ := γ
  subst hb
  intro ad h0 hD hra H locs ls hl hn hP hS hcs hss
  exact lv_sipush G.1 G.2.1 hd hv (h ad h0 hD hra H locs ls hl hn hP hS hcs hss)
/-- Object's own constructor: nothing is done -/
theorem gPt_objInit {γ : gG} {a0 cs ss pc : Nat} {F : gFr} {tl : List gL} {L : List (Option Value)} {st : List Value} {I : gM} {cc : ByteArray} (G : gPK γ) (hb : gcc γ = cc) {own : String} (ho : gow γ = own) {index x : Nat} (hR : 1 ≤ (grm γ).frames ∧ (st.map Value.category).sum + 12 ≤ (grm γ).locals) (hw1 : Cond.methodLink own index Lib.objectInit ∈ gTb) (hw2 : Cond.instanceMethod Lib.objectInit ∈ gTb) (hw3 : Cond.code Lib.objectInit ⟨#[0xb1]⟩ 1 none ∈ gTb) (hd : decode cc pc = .ok (.invokespecial index, 3)) (h : gPt γ a0 cs ss (pc + 3) F tl L st I) : gPt γ a0 cs ss pc F tl L (.ref x :: st) I := by
  obtain ⟨⟨p, l, e, R, s, m, args, below, meth, c, Q⟩, A, D, cA, ad0, lay, fin, cc', own, E, n0, ra⟩ := γ
  subst hb
  subst ho
  intro ad h0 hD hra H locs ls hl hn hP hS hcs hss
  refine W.objInit (g := F0 m pc ls _) G.1 G.2.1 G.2.2.1 (G.2.2.2.1 _ hw1) (G.2.2.2.1 _ hw2) (G.2.2.2.1 _ hw3) rfl (hl.1.trans hn) rfl hd hR.1 (by rw [gcat]; have := hR.2; dsimp only [grm] at this; show 2 * 0 + _ + 12 ≤ _; omega) ?_
  exact h ad h0 hD hra H locs ls hl hn hP hS hcs hss
/-- behind what makes a cell: the world has it, at the next place -/
theorem gBorn {A : Nat → Prop} {cA : Nat → ClassId} {ad : Nat → Nat} {I : gM} {F : gFr} {tl : List gL} {q n : Nat} {d : gL} {x : Nat → Int32} {e : va_E} (hn : n = gF0 F + tl.length) (hc : gClW n I F tl) (he : ∀ ad2 : Nat → Nat, e = gC cA ad2 x d) (hD : va_D A (gWb cA ad I F tl ++ [(q, e)])) :
    gWb cA ad I F tl ++ [(q, e)] = gWb cA (fun p => if p = n then q else ad p) (gAdd I n x) F (tl ++ [d]) ∧ gD A (fun p => if p = n then q else ad p) (gF0 F + (tl ++ [d]).length) := by
  have e1 : gWb cA ad I F tl ++ [(q, e)] = gWb cA (fun p => if p = n then q else ad p) (gAdd I n x) F (tl ++ [d]) := by
    rw [← gWb_cong (ad2 := fun p => if p = n then q else ad p) (I2 := gAdd I n x) hc (fun p hp => if_neg (by omega)) (fun p hp => if_neg (by omega))]
    unfold gWb
    rw [gW_app, List.append_assoc]
    congr 2
    show [(q, e)] = [((if gF0 F + tl.length = n then q else ad (gF0 F + tl.length)), gC cA _ (gAdd I n x (gF0 F + tl.length)) d)]
    rw [← hn, if_pos rfl, he (fun p => if p = n then q else ad p)]
    unfold gAdd
    rw [if_pos rfl]
  refine ⟨e1, ?_⟩
  rw [e1] at hD
  have hl : (gWb cA (fun p => if p = n then q else ad p) (gAdd I n x) F (tl ++ [d])).length = gF0 F + (tl ++ [d]).length := gWb_len _ _ _ _ _
  refine ⟨fun i j hi hj hij => ?_, fun k hk => ?_⟩
  · refine hD.1 i j _ _ (List.getElem?_eq_getElem (by rw [hl]; exact hi)) (List.getElem?_eq_getElem (by rw [hl]; exact hj)) ?_
    rw [gWb_inv (List.getElem?_eq_getElem (by rw [hl]; exact hi)), gWb_inv (List.getElem?_eq_getElem (by rw [hl]; exact hj))]
    exact hij
  · have := hD.2 k _ (List.getElem?_eq_getElem (by rw [hl]; exact hk))
    rwa [gWb_inv (List.getElem?_eq_getElem (by rw [hl]; exact hk))] at this
/-- a new row of numbers -/
theorem gPt_newa {γ : gG} {a0 cs ss pc : Nat} {F : gFr} {tl : List gL} {L : List (Option Value)} {st : List Value} {I : gM} {cc : ByteArray} (G : gPK γ) (hb : gcc γ = cc) {n N t : Nat} {v : Int32} {aty : ArrayType} (hn : n = gF0 F + tl.length) (h0n : 0 < n ∧ n < 1000) (hc : gClW n I F tl) (hL : gLb n L = true) (hst : st.all (gVb n) = true)
    (hv : ¬ v < 0 ∧ v.toNatClampNeg = N ∧ N * componentBytes (newarray.typeOf aty) ≤ 536870912) (ht : ∀ cA : Nat → ClassId, (gTy cA)[t]? = some (cA t, newarray.typeOf aty)) (hty : (∃ C : String, newarray.typeOf aty = .object C) → False) (hdv : ∀ cA : ClassId, vp_cell cA (N, gAc t (fun _ => 0)) = arrV cA N (fun _ => defaultValue (newarray.typeOf aty))) (hw : Cond.arrayClass (newarray.typeOf aty) ∈ gTb)
    (hRc : cs + 1 ≤ (grm γ).cells ∧ ss + N ≤ (grm γ).slots) (hd : decode cc pc = .ok (.newarray aty, 2)) (h : gPt γ a0 (cs + 1) (ss + N) (pc + 2) F (tl ++ [.inr (.inl (t, N))]) L (.ref n :: st) (gAdd I n (fun _ => 0))) : gPt γ a0 cs ss pc F tl L (.int v :: st) I := by
  obtain ⟨⟨p, l, e, R, s, m, args, below, meth, c, Q⟩, A, D, cA, ad0, lay, fin, cc', own, E, n0, ra⟩ := γ
  subst hb
  intro ad h0 hD hra H locs ls hl hn9 hP hS hcs hss
  refine va_newaK (g := F0 m pc ls _) G.1 G.2.1 (G.2.2.2.1 _ hw) rfl hd rfl hv.1 hv.2.1 hv.2.2 hRc.1 hRc.2 rfl fun H1 cA1 e1 z1 o1 hAr hNm => ?_
  have hcA : cA1 = cA t := by
    have h2 := (G.2.2.2.2.1.2 t _ (ht cA)).2
    have h3 : s.vm.findClass ("[" ++ (newarray.typeOf aty).toString) = some (cA t) := by
      unfold va_RA at h2
      split at h2
      · rename_i C hC
        exact (hty ⟨C, hC⟩).elim
      · exact h2
    exact Option.some.inj (hNm.symm.trans h3)
  subst hcA
  have hk : ∀ (k : Nat) (x : Nat × va_E), (gWb cA ad I F tl)[k]? = some x → H1[x.1]? = H[x.1]? := fun k x hx => o1 x.1 ((hP k x hx).lt)
  have hP1 : va_P D vwCl (gWb cA ad I F tl ++ [(H.size, .inl (cA t, N, gAc t (fun _ => 0)))]) H1 := (hP.kept hk).app (fun k x hx => by
    have hz : k < 1 := (List.getElem?_eq_some_iff.mp hx).1
    rw [show k = 0 by omega] at hx
    cases hx
    show H1[H.size]? = some (vp_cell _ _)
    rw [hdv]
    exact e1)
  have hD1 : va_D A (gWb cA ad I F tl ++ [(H.size, .inl (cA t, N, gAc t (fun _ => 0)))]) := (gWb_D hD).push hP rfl (G.2.2.2.2.2.1 _ hS.1)
  obtain ⟨w1, w2⟩ := gBorn (d := .inr (.inl (t, N))) (x := fun _ => 0) hn hc (fun ad2 => rfl) hD1
  rw [w1] at hP1
  have hlo : ∀ p : Nat, p < n → (fun p => if p = n then H.size else ad p) p = ad p := fun p hp => if_neg (by omega)
  have hhi : ∀ p : Nat, 1000 ≤ p → (fun p => if p = n then H.size else ad p) p = ad p := fun p hp => if_neg (by omega)
  have hfin := h (fun p => if p = n then H.size else ad p) ((hlo 0 h0n.1).trans h0) w2 (fun k => (hhi _ (by omega)).trans (hra k)) H1 locs ls (gLs_cong hlo hhi hL hl) hn9 hP1 ⟨Nat.le_trans hS.1 (by omega), fun x h1 h2 => (o1 x (Nat.lt_of_lt_of_le h1 hS.1)).trans (hS.2.1 x h1 h2), hS.2.2⟩ hRc.1 hRc.2
  rw [List.map_cons, gst_cong hlo hhi hst] at hfin
  have e9 : gv (fun p => if p = n then H.size else ad p) (.ref n) = .ref H.size := congrArg Value.ref (if_pos rfl)
  rw [e9] at hfin
  exact hfin
