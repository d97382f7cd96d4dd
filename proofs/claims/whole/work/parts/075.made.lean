/-- a new row of places, none of them taken: its numbers are past its end -/
theorem gPt_newq {γ : gG} {a0 cs ss pc : Nat} {F : gFr} {tl : List gL} {L : List (Option Value)} {st : List Value} {I : gM} {cc : ByteArray} (G : gPK γ) (hb : gcc γ = cc) {own : String} (ho : gow γ = own) {n N index : Nat} {v x : Int32} {ps : List Nat} (hn : n = gF0 F + tl.length) (h0n : 0 < n ∧ n < 1000) (hc : gClW n I F tl) (hL : gLb n L = true) (hst : st.all (gVb n) = true)
    (hv : ¬ v < 0 ∧ v.toNatClampNeg = N ∧ N * 4 ≤ 536870912) (hps : ps.length = N ∧ N ≤ x.toNatClampNeg) {ε : gE5} (he : genv γ = ε) (hE : gEnv ε) (hw1 : Cond.classLink own index "PressureNet$State" ∈ gTb)
    (hRc : cs + 1 ≤ (grm γ).cells ∧ ss + N ≤ (grm γ).slots) (hd : decode cc pc = .ok (.anewarray index, 3)) (h : gPt γ a0 (cs + 1) (ss + N) (pc + 3) F (tl ++ [.inr (.inr (3, ps))]) L (.ref n :: st) (gAdd I n (fun _ => x))) : gPt γ a0 cs ss pc F tl L (.int v :: st) I := by
  obtain ⟨⟨p, l, e, R, s, m, args, below, meth, c, Q⟩, A, D, cA, ad0, lay, fin, cc', own, E, n0, ra⟩ := γ
  subst hb
  subst ho
  subst he
  have hF := hE.2.1 s G.2.2.2.2.2.2.1.1
  intro ad h0 hD hra H locs ls hl hn9 hP hS hcs hss
  refine va_newq G.1 G.2.1 G.2.2.1 (G.2.2.2.1 _ hw1) hF.2.2.2.2.2.2.2.2 G.2.2.2.2.1 hP (gWb_D hD) hS G.2.2.2.2.2.1 hv.1 hv.2.1 hv.2.2 hRc.1 hRc.2 hd (fun q cA1 H1 hK1 hP1 hD1 hS1 => ?_)
  have hcA : cA1 = cA 3 := by
    have h1 := (hK1.2 4 _ rfl).2
    have h2 := (G.2.2.2.2.1.2 3 _ rfl).2
    obtain ⟨_, _, _, _, _, h3⟩ := h1
    obtain ⟨_, _, _, _, _, h4⟩ := h2
    exact Option.some.inj (h3.symm.trans h4)
  subst hcA
  obtain ⟨w1, w2⟩ := gBorn (d := .inr (.inr (3, ps))) (x := fun _ => x) hn hc (fun ad2 => by
    show _ = (Sum.inl (cA 3, ps.length, .inr (.inr (.inr (.inr (fun j => (ps[x.toNatClampNeg]?).map ad2))))) : va_E)
    rw [List.getElem?_eq_none (by rw [hps.1]; exact hps.2), hps.1]; rfl) hD1
  rw [w1] at hP1
  have hlo : ∀ p : Nat, p < n → (fun p => if p = n then q else ad p) p = ad p := fun p hp => if_neg (by omega)
  have hhi : ∀ p : Nat, 1000 ≤ p → (fun p => if p = n then q else ad p) p = ad p := fun p hp => if_neg (by omega)
  have hfin := h (fun p => if p = n then q else ad p) ((hlo 0 h0n.1).trans h0) w2 (fun k => (hhi _ (by omega)).trans (hra k)) H1 locs ls (gLs_cong hlo hhi hL hl) hn9 hP1 hS1 hRc.1 hRc.2
  rw [List.map_cons, gst_cong hlo hhi hst] at hfin
  have e9 : gv (fun p => if p = n then q else ad p) (.ref n) = .ref q := congrArg Value.ref (if_pos rfl)
  rw [e9] at hfin
  exact hfin
/-- a final field of the object under construction -/
theorem gPt_putF {γ : gG} {a0 cs ss pc : Nat} {ci : Nat} {fs : List gX} {tl : List gL} {L : List (Option Value)} {st : List Value} {I : gM} {cc : ByteArray} (G : gPK γ) (hb : gcc γ = cc) {own : String} (ho : gow γ = own) (hin2 : ∀ (b : Program × Launch × Env × Room × State × MethodId × Array Value × List Frame × Method × Code × (State → Prop)), γ.1 = b → b.2.2.2.2.2.2.2.2.1.name = "<init>")
    {index j b : Nat} {C : String} {T : u_T} {N : Nat} (ty0 : Nat → FieldType) (hty : ∀ k, k < N → parseFieldDescriptor (T k).2.2.1 = some (ty0 k)) (hnm : ∀ a, a < N → ∀ b, b < N → a ≠ b → (T a).2.1 ≠ (T b).2.1) (hc : vwCl[ci]? = some (C, T, N)) (hj : j < N) (hin : ∀ w ∈ u_ws C T N, w ∈ gTb) (hw : Cond.fieldLink own index (T j).1 (T j).2.1 (T j).2.2.1 ∈ gTb) (hfin : (T j).2.2.2 = true) (hdecl : (T j).1 = own)
    (hfit : ∀ a : Nat, narrow (ty0 j) (.ref a) = .ref a ∧ fits (ty0 j) (.ref a) = true) (hl0 : fs.length = N) (hd : decode cc pc = .ok (.putfield index, 3)) (h : gPt γ a0 cs ss (pc + 3) (some (ci, fs.set j (some (some b)))) tl L st I) : gPt γ a0 cs ss pc (some (ci, fs)) tl L (.ref b :: .ref 0 :: st) I := by
  obtain ⟨⟨p, l, e, R, s, m, args, below, meth, c, Q⟩, A, D, cA, ad0, lay, fin, cc', own, E, n0, ra⟩ := γ
  subst hb
  subst ho
  intro ad h0 hD hra H locs ls hl hn9 hP hS hcs hss
  refine va_putF (v := .ref (ad b)) G.1 G.2.1 G.2.2.2.1 hin ty0 hty hnm G.2.2.1 G.2.2.2.2.1 hP (gWb_D hD) hS 0 (a := ad 0) (fs := fs.map (gHv ad)) rfl hc j hj (G.2.2.2.1 _ hw) (fun _ z => z) hfin (hin2 _ rfl) hdecl (hty j hj) (hfit _).1 (hfit _).2 (by rw [List.length_map, hl0]; exact hj) hd (fun H1 locs1 hP1 _ hS1 => ?_)
  refine h ad h0 hD hra H1 locs1 ls hl hn9 ?_ hS1 hcs hss
  have e1 : (gWb cA ad I (some (ci, fs)) tl).set 0 (ad 0, .inr (ci, (fs.map (gHv ad)).set j (.ref (ad b)))) = gWb cA ad I (some (ci, fs.set j (some (some b)))) tl := by
    show (ad 0, (Sum.inr (ci, (fs.map (gHv ad)).set j (.ref (ad b))) : va_E)) :: gW cA ad I 1 tl = (ad 0, Sum.inr (ci, (fs.set j (some (some b))).map (gHv ad))) :: gW cA ad I 1 tl
    rw [List.map_set]
    rfl
  rwa [e1] at hP1
/-- the object under construction stands -/
def gNf : List gX → List (Option Nat)
  | [] => []
  | none :: t => none :: gNf t
  | some o :: t => o :: gNf t
theorem gNf_F (ad : Nat → Nat) : ∀ (fs : List gX) (j : Nat), fs.all (fun x => match x with | some none => false | _ => true) = true → gF ad (fun _ => 0) j (gNf fs) = fs.map (gHv ad)
  | [], _, _ => rfl
  | none :: t, j, h => congrArg (Value.int 0 :: ·) (gNf_F ad t (j + 1) (by rw [List.all_cons, Bool.and_eq_true] at h; exact h.2))
  | some (some p) :: t, j, h => congrArg (Value.ref (ad p) :: ·) (gNf_F ad t (j + 1) (by rw [List.all_cons, Bool.and_eq_true] at h; exact h.2))
  | some none :: t, j, h => by rw [List.all_cons, Bool.and_eq_true] at h; cases h.1
theorem gPt_stands {γ : gG} {a0 cs ss pc : Nat} {ci : Nat} {fs : List gX} {tl : List gL} {L : List (Option Value)} {st : List Value} {I : gM} (hf : fs.all (fun x => match x with | some none => false | _ => true) = true) (h : gPt γ a0 cs ss pc none (.inl (ci, gNf fs) :: tl) L st (gAdd I 0 (fun _ => 0))) : gPt γ a0 cs ss pc (some (ci, fs)) tl L st I := by
  obtain ⟨⟨p, l, e, R, s, m, args, below, meth, c, Q⟩, A, D, cA, ad0, lay, fin, cc', own, E, n0, ra⟩ := γ
  intro ad h0 hD hra H locs ls hl hn9 hP hS hcs hss
  have e0 : gF0 (some (ci, fs)) + tl.length = gF0 none + (.inl (ci, gNf fs) :: tl : List gL).length := by show 1 + tl.length = 0 + (tl.length + 1); omega
  refine h ad h0 (by rw [← e0]; exact hD) hra H locs ls hl hn9 ?_ hS hcs hss
  have e1 : gWb cA ad I (some (ci, fs)) tl = gWb cA ad (gAdd I 0 (fun _ => 0)) none (.inl (ci, gNf fs) :: tl) := by
    show (ad 0, (Sum.inr (ci, fs.map (gHv ad)) : va_E)) :: gW cA ad I 1 tl = (ad 0, Sum.inr (ci, gF ad (fun _ => 0) 0 (gNf fs))) :: gW cA ad (gAdd I 0 (fun _ => 0)) 1 tl
    rw [gNf_F ad fs 0 hf]
    congr 1
    apply List.ext_getElem?
    intro j
    rw [gW_get, gW_get]
    have : gAdd I 0 (fun _ => 0) (1 + j) = I (1 + j) := if_neg (by omega)
    rw [this]
  rwa [e1] at hP
/-! what a constructor owes -/
def gPreI (ε : gE5) (ci : Nat) (fs0 : List Value) (a sz : Nat) (U : State) : Prop := match ε with
  | (_, E, _, D, cA, _) => U.heap.size = sz ∧ va_P D vwCl [(a, .inr (ci, fs0))] U.heap ∧ va_K D vwCl (gTy cA) U ∧ E U ∧ ∀ w ∈ gNw, va_Nw w U
def gQi (D : va_G) (cA : Nat → ClassId) (ra : Nat → Nat) (layC : List gL) (J : gM) (a : Nat) (A : Nat → Prop) : Array Value → State → Outcome → State → Prop := fun _ st oc t => (oc = .returned none ∧ ∃ ad : Nat → Nat, ad 0 = a ∧ (∀ k : Nat, ad (1000 + k) = ra k) ∧ gD A ad layC.length ∧ va_P D vwCl (gW cA ad J 0 layC) t.heap) ∧ va_F A st t
def gCtrI (ε : gE5) (y : MethodName) (cc : ByteArray) (maxL : Nat) (fr lo ce sl ci : Nat) (fs0 : List Value) (layC : List gL) (J : gM) : Prop := match ε with
  | (l, E, n0, D, cA, ra) => ∀ (a sz : Nat), n0 ≤ a → n0 ≤ sz → Met l y (.code y cc maxL none :: gTb) { frames := fr, cells := ce, slots := sl, locals := lo } (va_Pc [.ref a] (gPreI (l, E, n0, D, cA, ra) ci fs0 a sz)) (gQi D cA ra layC J a (va_A [(a, .inr (ci, fs0))] sz)) ce sl (va_A [(a, .inr (ci, fs0))] sz)
theorem gPreI_blind {ε : gE5} {ci a sz : Nat} {fs0 : List Value} {av : List Value} (hE : gStab ε) : FrameBlind (va_Pc av (gPreI ε ci fs0 a sz)) := by
  obtain ⟨l, E, n0, D, cA, ra⟩ := ε
  intro a U g mk q
  obtain ⟨q0, q1, qP, qK, qE, qN⟩ := q
  exact ⟨q0, q1, qP, va_K.moved (u := U) (U := U.calling g mk a) (Vm.Alike.refl U.vm) qK, hE U _ (State.WarmedH.refl U) (fun _ _ => rfl) qE, fun w hw => va_Nw.same (by have := (List.mem_filter.mp hw).2; cases w <;> first | rfl | cases this) (u := U) rfl (qN w hw)⟩
/-- a callee's cells, behind n of the caller's -/
def gSh (n : Nat) : gL → gL
  | .inl (ci, fs) => .inl (ci, fs.map (fun o => o.map (fun j => n + j)))
  | .inr (.inl a) => .inr (.inl a)
  | .inr (.inr (t, ps)) => .inr (.inr (t, ps.map (fun j => n + j)))
theorem gSh_F {ad ad2 : Nat → Nat} {I : Nat → Int32} {n M : Nat} (h : ∀ q : Nat, q < M → ad2 (n + q) = ad q) : ∀ (fs : List (Option Nat)) (j : Nat), (∀ q, some q ∈ fs → q < M) → gF ad2 I j (fs.map (fun o => o.map (fun j => n + j))) = gF ad I j fs
  | [], _, _ => rfl
  | none :: t, j, hf => congrArg (Value.int (I j) :: ·) (gSh_F h t (j + 1) (fun q hq => hf q (List.mem_cons_of_mem _ hq)))
  | some q :: t, j, hf => by
    show Value.ref (ad2 (n + q)) :: _ = Value.ref (ad q) :: _
    rw [h q (hf q List.mem_cons_self), gSh_F h t (j + 1) (fun q hq => hf q (List.mem_cons_of_mem _ hq))]
theorem gSh_C {cA : Nat → ClassId} {ad ad2 : Nat → Nat} {I : Nat → Int32} {n M : Nat} (h : ∀ q : Nat, q < M → ad2 (n + q) = ad q) {d : gL} (hd : gCb M d = true) : gC cA ad2 I (gSh n d) = gC cA ad I d := by
  match d, hd with
  | .inl (ci, fs), hd => exact congrArg (fun z => (Sum.inr (ci, z) : va_E)) (gSh_F h fs 0 (fun q hq => of_decide_eq_true (List.all_eq_true.mp hd (some q) hq)))
  | .inr (.inl (t, n)), _ => rfl
  | .inr (.inr (t, ps)), hd =>
    show (Sum.inl (cA t, (ps.map (fun j => n + j)).length, .inr (.inr (.inr (.inr (fun j => ((ps.map (fun j => n + j))[(I j).toNatClampNeg]?).map ad2))))) : va_E) = Sum.inl (cA t, ps.length, .inr (.inr (.inr (.inr (fun j => (ps[(I j).toNatClampNeg]?).map ad)))))
    rw [List.length_map]
    congr 7
    funext j
    rw [List.getElem?_map, Option.map_map]
    cases hq : ps[(I j).toNatClampNeg]? with
    | none => rfl
    | some q => exact congrArg some (h q (of_decide_eq_true (List.all_eq_true.mp hd q (List.mem_of_getElem? hq))))
def gJn (I : gM) (n : Nat) (J : gM) : gM := fun p => if p < n then I p else J (p - n)
theorem gPt_makeG {γ : gG} {a0 cs ss pc : Nat} {F : gFr} {tl : List gL} {L : List (Option Value)} {st : List Value} {I : gM} {cc : ByteArray} (G : gPK γ) (hb : gcc γ = cc) {own : String} (ho : gow γ = own) {ε : gE5} (he : genv γ = ε) (hE : gStab ε) {n ik ic ci N : Nat} {C host : String} {T : u_T} {y : MethodName} {cy : ByteArray} {maxL fr lo ce sl : Nat} {fs0 : List Value} {layC : List gL} {J : gM}
    (hn : n = gF0 F + tl.length) (h0n : n + layC.length ≤ 1000) (hc : gClW n I F tl) (hL : gLb n L = true) (hst : st.all (gVb n) = true) (hcl : layC.all (gCb layC.length) = true ∧ 0 < layC.length)
    (hM : gCtrI ε y cy maxL fr lo ce sl ci fs0 layC J) (hci : vwCl[ci]? = some (C, T, N)) (ty0 : Nat → FieldType) (hty : ∀ k, k < N → parseFieldDescriptor (T k).2.2.1 = some (ty0 k)) (hin : ∀ w ∈ u_ws C T N, w ∈ gTb) (hfs : ∀ j, j < N → defaultValue (ty0 j) = vp_V fs0 j)
    (hw1 : Cond.classLink own ik C ∈ gTb) (hw2 : Cond.instantiable C N ∈ gTb) (hw3 : Cond.initialized C ∈ gTb) (hy : y.cls = C ∧ y.name = "<init>" ∧ y.cls ≠ "java/lang/invoke/MethodHandle" ∧ y.cls ≠ "java/lang/invoke/VarHandle" ∧ (parseMethodDescriptor y.desc).map (fun d => d.parameters.length) = some 0)
    (hw4 : Cond.methodLink own ic y ∈ gTb ∨ Cond.methodLinkNest own ic y host ∈ gNw) (hw5 : Cond.instanceMethod y ∈ gTb) (hw6 : Cond.code y cy maxL none ∈ gTb) (hR : fr + 1 ≤ (grm γ).frames ∧ 8 + (maxL + 11) + lo ≤ (grm γ).locals) (hcat : ((.int 0 :: st : List Value).map Value.category).sum ≤ 8)
    (hRc : cs + 1 + ce ≤ (grm γ).cells ∧ ss + N + sl ≤ (grm γ).slots) (d0 : decode cc pc = .ok (.new ik, 3)) (d3 : decode cc (pc + 3) = .ok (.dup, 1)) (d4 : decode cc (pc + 4) = .ok (.invokespecial ic, 3))
    (h : ∀ a1 : Nat, (0 < n → a1 = a0) → gPt γ a1 (cs + 1 + ce) (ss + N + sl) (pc + 7) F (tl ++ layC.map (gSh n)) L (.ref n :: st) (gJn I n J)) : gPt γ a0 cs ss pc F tl L st I := by
  obtain ⟨⟨p, l, e, R, s, m, args, below, meth, c, Q⟩, A, D, cA, ad0, lay, fin, cc', own, E, n0, ra⟩ := γ
  subst hb
  subst ho
  subst he
  intro ad h0 hD hra H locs ls hl hn9 hP hS hcs hss
  refine va_new G.1 G.2.1 G.2.2.2.1 hin ty0 hty G.2.2.1 (G.2.2.2.1 _ hw1) (G.2.2.2.1 _ hw2) (G.2.2.2.1 _ hw3) G.2.2.2.2.1 hP (gWb_D hD) hS G.2.2.2.2.2.1 hci hfs (by have := hRc.1; show cs + 1 ≤ R.cells; have : (cs + 1 + ce ≤ R.cells) := hRc.1; omega) (by show ss + N ≤ R.slots; have : (ss + N + sl ≤ R.slots) := hRc.2; omega) d0 (fun q H1 hP1 hD1 hS1 => ?_)
  refine lv_dup G.1 G.2.1 d3 rfl ?_
  have hql : (gWb cA ad I F tl ++ [(q, (Sum.inr (ci, fs0) : va_E))])[(gWb cA ad I F tl).length]? = some (q, .inr (ci, fs0)) := by rw [List.getElem?_append_right (Nat.le_refl _), Nat.sub_self]; rfl
  have hqA : A q := hD1.2 _ _ hql
  have hPq : va_P D vwCl [(q, .inr (ci, fs0))] H1 := fun k x hx => by
    have hz : k < 1 := (List.getElem?_eq_some_iff.mp hx).1
    rw [show k = 0 by omega] at hx
    cases hx
    exact hP1 _ _ hql
  have hMet := hM q H1.size (G.2.2.2.2.2.2.2.2 q hqA) (Nat.le_trans G.2.2.2.2.2.2.2.1 hS1.1)
  have hpre : PreS s H1 (va_Pc [.ref q] (gPreI (l, E, n0, D, cA, ra) ci fs0 q H1.size)) [.ref q] := ⟨gPreI_blind hE, fun U hU hW => ⟨rfl, by rw [hU], by rw [hU]; exact hPq, va_K.moved hW.alike G.2.2.2.2.1, hE s U hW (fun q hq => by rw [hU]; exact hS1.2.1 q (Nat.lt_of_lt_of_le hq G.2.2.2.2.2.2.2.1) (fun z => absurd (G.2.2.2.2.2.2.2.2 q z) (Nat.not_le.mpr hq))) G.2.2.2.2.2.2.1.1, gNw_warm hW G.2.2.2.2.2.2.1.2⟩⟩
  have hroom : 2 * 0 + ((.ref q :: st.map (gv ad) : List Value).map fun v => v.category).sum ≤ 8 := by
    have : ((.ref q :: st.map (gv ad) : List Value).map fun v => v.category).sum = 1 + ((st.map (gv ad)).map fun v => v.category).sum := rfl
    rw [this, gcat]
    have h9 : 1 + (st.map Value.category).sum ≤ 8 := hcat
    omega
  have hRc2 : cs + 1 + ce ≤ R.cells ∧ ss + N + sl ≤ R.slots := hRc
  have hr : va_Run p l e R s m args below meth c H1 locs (cs + 1) (ss + N) ce sl (F0 m (pc + 3 + 1) ls (.ref q :: .ref q :: st.map (gv ad))) (.ref q :: st.map (gv ad)) (gQi D cA ra layC J q (va_A [(q, .inr (ci, fs0))] H1.size) (Value.ref q :: ([] : List Value)).toArray) (va_A [(q, .inr (ci, fs0))] H1.size) := by
    rcases hw4 with hw4 | hw4
    · exact va_runI (Ts := gTb) (As := []) ⟨G.1, G.2.1, rfl, G.2.2.1, G.2.2.2.1⟩ hMet ⟨callB_of 0 G.2.2.2.1 (gGoodT hw6) rfl rfl rfl (by rw [hy.1]; exact G.2.2.2.1 _ hw3) (G.2.2.2.1 _ hw4) hy.2.2 hR, hy.2.1, G.2.2.2.1 _ hw5⟩ hpre rfl rfl (hl.1.trans hn9) rfl hroom d4 hRc2
    · exact va_runIN (Ts := gTb) (As := []) ⟨G.1, G.2.1, rfl, G.2.2.1, G.2.2.2.1⟩ hMet ⟨va_cnB 0 G.2.2.2.1 (gGoodT hw6) rfl rfl rfl (G.2.2.2.2.2.2.1.2 _ hw4) (by rw [hy.1]; exact G.2.2.2.1 _ hw3) hy.2.2 hR, hy.2.1, G.2.2.2.1 _ hw5⟩ hpre rfl rfl (hl.1.trans hn9) rfl hroom d4 hRc2
  intro T9 hT9 X9
  obtain ⟨v, st₀, t, T', L9, h09, X', hL9, e1, e2, ⟨⟨hv, adC, hC0, hCra, hCD, hCP⟩, hF⟩, stp⟩ := hr T9 hT9 X9
  cases hv
  obtain ⟨hz, hk⟩ := hF
  rw [h09] at hz hk
  rw [← e1] at hCP hz hk
  have hfreeA : ∀ x : Nat, va_A [(q, .inr (ci, fs0))] H1.size x → A x := by
    intro x hx
    rcases hx with ⟨k, ee, hx⟩ | hx
    · have hz : k < 1 := (List.getElem?_eq_some_iff.mp hx).1
      rw [show k = 0 by omega] at hx
      cases hx
      exact hqA
    · exact G.2.2.2.2.2.1 x (Nat.le_trans hS1.1 hx)
  have hold : ∀ (k : Nat) (x : Nat × va_E), (gWb cA ad I F tl)[k]? = some x → x.1 < H1.size ∧ ¬ va_A [(q, .inr (ci, fs0))] H1.size x.1 := by
    intro k x hx
    have hkl := (List.getElem?_eq_some_iff.mp hx).1
    have hx1 : (gWb cA ad I F tl ++ [(q, (Sum.inr (ci, fs0) : va_E))])[k]? = some x := by rw [List.getElem?_append_left hkl]; exact hx
    have hlt := (hP1 k x hx1).lt
    refine ⟨hlt, fun hz => ?_⟩
    rcases hz with ⟨k2, ee, hz⟩ | hz
    · have hz2 : k2 < 1 := (List.getElem?_eq_some_iff.mp hz).1
      rw [show k2 = 0 by omega] at hz
      have hxq : q = x.1 := congrArg Prod.fst (Option.some.inj hz)
      have := hD1.1 k _ x _ hx1 hql hxq.symm
      omega
    · omega
  have hPo : va_P D vwCl (gWb cA ad I F tl) T'.heap := by
    intro k x hx
    obtain ⟨h1, h2⟩ := hold k x hx
    have hkl := (List.getElem?_eq_some_iff.mp hx).1
    exact (hP1 k x (by rw [List.getElem?_append_left hkl]; exact hx)).kept (hk x.1 h1 h2)
  generalize had2 : (fun p => if p < n then ad p else if p < 1000 then adC (p - n) else ad p : Nat → Nat) = ad2
  have hlo : ∀ p : Nat, p < n → ad2 p = ad p := fun p hp => by rw [← had2]; exact if_pos hp
  have hhi : ∀ p : Nat, 1000 ≤ p → ad2 p = ad p := fun p hp => by rw [← had2]; show (if p < n then ad p else _) = _; rw [if_neg (by omega), if_neg (by omega)]
  have hmid : ∀ j : Nat, j < layC.length → ad2 (n + j) = adC j := fun j hj => by rw [← had2]; show (if n + j < n then ad (n + j) else _) = _; rw [if_neg (by omega), if_pos (by omega), show n + j - n = j by omega]
  have ew : gWb cA ad2 (gJn I n J) F (tl ++ layC.map (gSh n)) = gWb cA ad I F tl ++ gW cA adC J 0 layC := by
    rw [← gWb_cong (ad2 := ad2) (I2 := gJn I n J) hc hlo (fun p hp => if_pos hp)]
    unfold gWb
    rw [gW_app, ← List.append_assoc]
    congr 1
    apply List.ext_getElem?
    intro j
    rw [gW_get, gW_get, List.getElem?_map, ← hn]
    cases hd : layC[j]? with
    | none => rfl
    | some d =>
      have hj := (List.getElem?_eq_some_iff.mp hd).1
      show some (ad2 (n + j), gC cA ad2 (gJn I n J (n + j)) (gSh n d)) = some (adC (0 + j), gC cA adC (J (0 + j)) d)
      have e3 : gJn I n J (n + j) = J j := by unfold gJn; rw [if_neg (by omega), show n + j - n = j by omega]
      rw [hmid j hj, e3, gSh_C hmid (List.all_eq_true.mp hcl.1 d (List.mem_of_getElem? hd)), Nat.zero_add]
  have hPn : va_P D vwCl (gWb cA ad2 (gJn I n J) F (tl ++ layC.map (gSh n))) T'.heap := by rw [ew]; exact hPo.app hCP
  have hlen : gF0 F + (tl ++ layC.map (gSh n)).length = n + layC.length := by rw [List.length_append, List.length_map, hn]; omega
  have hold2 : ∀ k : Nat, k < n → ad k < H1.size ∧ ¬ va_A [(q, .inr (ci, fs0))] H1.size (ad k) := by
    intro k hk9
    have hk8 : k < (gWb cA ad I F tl).length := by rw [gWb_len, ← hn]; exact hk9
    have := hold k _ (List.getElem?_eq_getElem hk8)
    rwa [gWb_inv (List.getElem?_eq_getElem hk8)] at this
  have hDn : gD A ad2 (gF0 F + (tl ++ layC.map (gSh n)).length) := by
    rw [hlen]
    have hDo : gD A ad n := by rw [hn]; exact hD
    refine ⟨fun i j hi hj hij => ?_, fun k hk9 => ?_⟩
    · by_cases h1 : i < n
      · by_cases h2 : j < n
        · rw [hlo i h1, hlo j h2] at hij
          exact hDo.1 i j h1 h2 hij
        · exfalso
          have h3 := hmid (j - n) (by omega)
          rw [show n + (j - n) = j by omega] at h3
          rw [hlo i h1, h3] at hij
          have h4 := (hold2 i h1).2
          rw [hij] at h4
          exact h4 (hCD.2 _ (by omega))
      · by_cases h2 : j < n
        · exfalso
          have h3 := hmid (i - n) (by omega)
          rw [show n + (i - n) = i by omega] at h3
          rw [hlo j h2, h3] at hij
          have h4 := (hold2 j h2).2
          rw [← hij] at h4
          exact h4 (hCD.2 _ (by omega))
        · have h3 := hmid (i - n) (by omega)
          rw [show n + (i - n) = i by omega] at h3
          have h4 := hmid (j - n) (by omega)
          rw [show n + (j - n) = j by omega] at h4
          rw [h3, h4] at hij
          have := hCD.1 _ _ (by omega) (by omega) hij
          omega
    · by_cases h1 : k < n
      · rw [hlo k h1]; exact hDo.2 k h1
      · have h3 := hmid (k - n) (by omega)
        rw [show n + (k - n) = k by omega] at h3
        rw [h3]
        exact hfreeA _ (hCD.2 _ (by omega))
  have hS2 : va_S A s.heap T'.heap (locs ++ L9) := ⟨Nat.le_trans hS1.1 hz, fun x h1 h2 => (hk x (Nat.lt_of_lt_of_le h1 hS1.1) (fun z => h2 (hfreeA x z))).trans (hS1.2.1 x h1 h2), fun x hx => by
    rcases List.mem_append.mp hx with h1 | h1
    · exact hS1.2.2 x h1
    · exact hfreeA _ (hL9 x h1)⟩
  have hfin := h (ad2 0) (fun hz => (hlo 0 hz).trans h0) ad2 rfl hDn (fun k => (hhi _ (by omega)).trans (hra k)) T'.heap (locs ++ L9) ls (gLs_cong hlo hhi hL hl) hn9 hPn hS2 hRc2.1 hRc2.2
  rw [List.map_cons, gst_cong hlo hhi hst] at hfin
  have e9 : gv ad2 (.ref n) = .ref q := by
    show Value.ref (ad2 n) = _
    have := hmid 0 hcl.2
    rw [Nat.add_zero] at this
    rw [this, hC0]
  rw [e9] at hfin
  obtain ⟨t2, a1, b1⟩ := hfin T' rfl X'
  exact ⟨t2, stp t2 a1, b1⟩
theorem gPt_make {γ : gG} {a0 cs ss pc : Nat} {F : gFr} {tl : List gL} {L : List (Option Value)} {st : List Value} {I : gM} {cc : ByteArray} (G : gPK γ) (hb : gcc γ = cc) {own : String} (ho : gow γ = own) {ε : gE5} (he : genv γ = ε) (hE : gStab ε) {n ik ic ci N : Nat} {C host : String} {T : u_T} {y : MethodName} {cy : ByteArray} {maxL fr lo ce sl : Nat} {fs0 : List Value} {layC : List gL} {J : gM}
    (hn : n = gF0 F + tl.length) (h0n : 0 < n ∧ n + layC.length ≤ 1000) (hc : gClW n I F tl) (hL : gLb n L = true) (hst : st.all (gVb n) = true) (hcl : layC.all (gCb layC.length) = true ∧ 0 < layC.length)
    (hM : gCtrI ε y cy maxL fr lo ce sl ci fs0 layC J) (hci : vwCl[ci]? = some (C, T, N)) (ty0 : Nat → FieldType) (hty : ∀ k, k < N → parseFieldDescriptor (T k).2.2.1 = some (ty0 k)) (hin : ∀ w ∈ u_ws C T N, w ∈ gTb) (hfs : ∀ j, j < N → defaultValue (ty0 j) = vp_V fs0 j)
    (hw1 : Cond.classLink own ik C ∈ gTb) (hw2 : Cond.instantiable C N ∈ gTb) (hw3 : Cond.initialized C ∈ gTb) (hy : y.cls = C ∧ y.name = "<init>" ∧ y.cls ≠ "java/lang/invoke/MethodHandle" ∧ y.cls ≠ "java/lang/invoke/VarHandle" ∧ (parseMethodDescriptor y.desc).map (fun d => d.parameters.length) = some 0)
    (hw4 : Cond.methodLink own ic y ∈ gTb ∨ Cond.methodLinkNest own ic y host ∈ gNw) (hw5 : Cond.instanceMethod y ∈ gTb) (hw6 : Cond.code y cy maxL none ∈ gTb) (hR : fr + 1 ≤ (grm γ).frames ∧ 8 + (maxL + 11) + lo ≤ (grm γ).locals) (hcat : ((.int 0 :: st : List Value).map Value.category).sum ≤ 8)
    (hRc : cs + 1 + ce ≤ (grm γ).cells ∧ ss + N + sl ≤ (grm γ).slots) (d0 : decode cc pc = .ok (.new ik, 3)) (d3 : decode cc (pc + 3) = .ok (.dup, 1)) (d4 : decode cc (pc + 4) = .ok (.invokespecial ic, 3))
    (h : gPt γ a0 (cs + 1 + ce) (ss + N + sl) (pc + 7) F (tl ++ layC.map (gSh n)) L (.ref n :: st) (gJn I n J)) : gPt γ a0 cs ss pc F tl L st I :=
  gPt_makeG G hb ho he hE hn h0n.2 hc hL hst hcl hM hci ty0 hty hin hfs hw1 hw2 hw3 hy hw4 hw5 hw6 hR hcat hRc d0 d3 d4 (fun a1 h1 => by rw [h1 h0n.1]; exact h)
/-! between: the rows of the walk, from point to point -/
def gAt (γ : gG) (ad : Nat → Nat) (lay : List gL) (fin : gR × gM) : gG := match γ with
  | (b, A, D, cA, _, _, _, r) => (b, A, D, cA, ad, lay, fin, r)
def gFake : gR × gM := (.inl (some (.ref 0)), fun _ _ => 0)
noncomputable def gTo (L2 : List (Option Value)) (st2 : List Value) (I2 : gM) : gK := fun L st I => @ite _ (L = L2 ∧ st = st2 ∧ I = I2) (Classical.propDecidable _) (some gFake) none
theorem gTo_at (L2 : List (Option Value)) (st2 : List Value) (I2 : gM) : gTo L2 st2 I2 L2 st2 I2 = some gFake := if_pos ⟨rfl, rfl, rfl⟩
theorem gPt_seg {γ : gG} {a0 cs ss pc cs2 ss2 pc2 : Nat} {tl : List gL} {L L2 : List (Option Value)} {st st2 : List Value} {I I2 : gM} {T : gK} (G : gPK γ)
    (hT : ∀ γ' : gG, gOK γ' → gcc γ' = gcc γ → gow γ' = gow γ → gly γ' = tl → grm γ' = grm γ → genv γ' = genv γ → gSm γ' cs2 ss2 pc2 (gTo L2 st2 I2) → gSm γ' cs ss pc T)
    (hev : T L st I = some gFake) (h : gPt γ a0 cs2 ss2 pc2 none tl L2 st2 I2) : gPt γ a0 cs ss pc none tl L st I := by
  obtain ⟨⟨p, l, e, R, s, m, args, below, meth, c, Q⟩, A, D, cA, ad0, lay, fin, cc', own, E, n0, ra⟩ := γ
  intro ad h0 hD hra H locs ls hl hn9 hP hS hcs hss
  have hD' : gD A ad tl.length := by
    have e0 : gF0 none + tl.length = tl.length := Nat.zero_add _
    rw [e0] at hD; exact hD
  refine hT ((p, l, e, R, s, m, args, below, meth, c, Q), A, D, cA, ad, tl, gFake, cc', own, E, n0, ra) ⟨G.1, G.2.1, G.2.2.1, G.2.2.2.1, G.2.2.2.2.1, hD', G.2.2.2.2.2.1, ⟨G.2.2.2.2.2.2.1.1, G.2.2.2.2.2.2.1.2, hra⟩, G.2.2.2.2.2.2.2.1, G.2.2.2.2.2.2.2.2, ?_, fun En h => by cases h⟩ rfl rfl rfl rfl rfl ?_ L st I H locs ls hl hn9 hP hS hev hcs hss
  · intro H locs pc ls v cs ss _ _ _ _ hv hm
    have hv2 : some (Value.ref 0) = v := Sum.inl.inj hv
    subst hv2
    exact hm.elim
  · intro L3 st3 I3 H3 locs3 ls3 hl3 hn3 hP3 hS3 hk3 hcs3 hss3
    unfold gTo at hk3
    split at hk3
    · rename_i hc
      obtain ⟨rfl, rfl, rfl⟩ := hc
      exact h ad h0 hD hra H3 locs3 ls3 hl3 hn3 hP3 hS3 hcs3 hss3
    · cases hk3
/-- the end of a constructor: what is left to do comes to an end -/
def gPE (γ : gG) (a0 : Nat) (layC : List gL) (J : gM) : Prop := match γ with
  | ((p, l, e, R, s, m, args, below, meth, c, Q), A, D, cA, _, _, _, _, _, _, _, ra) =>
    ∀ (ad : Nat → Nat), ad 0 = a0 → (∀ k : Nat, ad (1000 + k) = ra k) → gD A ad layC.length → ∀ (H : Heap) (locs : List Loc) (pc : Nat) (ls : Array Slot) (cs ss : Nat), va_P D vwCl (gW cA ad J 0 layC) H → va_S A s.heap H locs → cs ≤ R.cells → ss ≤ R.slots → decode c.code pc = .ok (.return_, 1) → meth.sig.returnType = none → W p l e R s m args below meth c H locs cs ss Q (F0 m pc ls [])
theorem gPt_fin {γ : gG} {a0 cs ss pc : Nat} {tl : List gL} {L : List (Option Value)} {st : List Value} {I J : gM} {T : gK} (G : gPK γ) (hE : gPE γ a0 tl J)
    (hT : ∀ γ' : gG, gOK γ' → gcc γ' = gcc γ → gow γ' = gow γ → gly γ' = tl → grm γ' = grm γ → genv γ' = genv γ → grt γ' = grt γ → gSm γ' cs ss pc T)
    (hev : T L st I = some (.inl none, J)) : gPt γ a0 cs ss pc none tl L st I := by
  obtain ⟨⟨p, l, e, R, s, m, args, below, meth, c, Q⟩, A, D, cA, ad0, lay, fin, cc', own, E, n0, ra⟩ := γ
  intro ad h0 hD hra H locs ls hl hn9 hP hS hcs hss
  have hD' : gD A ad tl.length := by
    have e0 : gF0 none + tl.length = tl.length := Nat.zero_add _
    rw [e0] at hD; exact hD
  refine hT ((p, l, e, R, s, m, args, below, meth, c, Q), A, D, cA, ad, tl, (.inl none, J), cc', own, E, n0, ra) ⟨G.1, G.2.1, G.2.2.1, G.2.2.2.1, G.2.2.2.2.1, hD', G.2.2.2.2.2.1, ⟨G.2.2.2.2.2.2.1.1, G.2.2.2.2.2.2.1.2, hra⟩, G.2.2.2.2.2.2.2.1, G.2.2.2.2.2.2.2.2, ?_, fun En h => by cases h⟩ rfl rfl rfl rfl rfl rfl L st I H locs ls hl hn9 hP hS hev hcs hss
  intro H locs pc ls v cs ss hP1 hS1 hcs hss hv hm
  have hv2 : none = v := Sum.inl.inj hv
  subst hv2
  have hm1 : decode cc' pc = .ok (.return_, 1) ∧ meth.sig.returnType = none := hm
  exact hE ad h0 hra hD' H locs pc ls cs ss hP1 hS1 hcs hss (by rw [G.2.1]; exact hm1.1) hm1.2
/-- a constructor's contract out of the walk of its body -/
theorem gCtrI_of {ε : gE5} {y : MethodName} {cc : ByteArray} {maxL fr lo ce sl ci : Nat} {fs0 : List gX} {layC : List gL} {J : gM} (hy : plainName y.cls = true ∧ y.name = "<init>") (h0 : 0 < maxL) (hf0 : fs0.all (fun x => match x with | some (some _) => false | _ => true) = true)
    (body : ∀ (γ : gG) (a0 : Nat), gPK γ → gcc γ = cc → gow γ = y.cls → grm γ = { frames := fr, cells := ce, slots := sl, locals := lo } → genv γ = ε → grt γ = none → (∀ (b : Program × Launch × Env × Room × State × MethodId × Array Value × List Frame × Method × Code × (State → Prop)), γ.1 = b → b.2.2.2.2.2.2.2.2.1.name = "<init>") → gPE γ a0 layC J → gPt γ a0 0 0 0 (some (ci, fs0)) [] (some (.ref 0) :: List.replicate (maxL - 1) none) [] (fun _ _ => 0)) : gCtrI ε y cc maxL fr lo ce sl ci (fs0.map (gHv (fun _ => 0))) layC J := by
  obtain ⟨l, E, n0, D, cA, ra⟩ := ε
  intro a sz hna hsz0
  refine Met.ofW (cc := cc) (maxL := maxL) (ret := none) hy.1 rfl ?_
  intro p e s m args below meth c s₁ B hml hv
  obtain ⟨rfl, hsz, hP, hK, hEs, hN⟩ := hv
  subst hsz
  have hts := atoms_spec (ws := .code y cc maxL none :: gTb) B.pre
  have hin : meth.name = "<init>" := (name_of_methodNamed B.named B.method).1.trans hy.2
  generalize hAe : va_A [(a, (Sum.inr (ci, fs0.map (gHv (fun _ => 0))) : va_E))] s.heap.size = A
  have hA : ∀ q : Nat, s.heap.size ≤ q → A q := fun q h => by rw [← hAe]; exact Or.inr h
  have hAa : A a := by rw [← hAe]; exact Or.inl ⟨0, _, rfl⟩
  have hAn : ∀ q : Nat, A q → n0 ≤ q := by
    intro q hq
    rw [← hAe] at hq
    rcases hq with ⟨k, ee, hk⟩ | hq
    · have hz : k < 1 := (List.getElem?_eq_some_iff.mp hk).1
      rw [show k = 0 by omega] at hk
      cases hk
      exact hna
    · exact Nat.le_trans hsz0 hq
  rw [lg_entry_eq]
  have hl := lv_entry ([.ref a]) (n := maxL) h0
  generalize (lg_sl ([.ref a]) ++ List.replicate (maxL - (lg_sl ([.ref a])).length) Slot.unset).toArray = ls at hl ⊢
  have hb := body ((p, l, e, { frames := fr, cells := ce, slots := sl, locals := lo }, s, m, [.ref a].toArray, below, meth, c, MQ below (gQi D cA ra layC J a A) [.ref a].toArray s ce sl A), A, D, cA, fun _ => 0, [], gFake, cc, y.cls, E, n0, ra) a ⟨B.exec, B.bytes, findClass_of_methodNamed B.named, fun w hw => hts w (List.mem_cons_of_mem _ hw), hK, hA, ⟨hEs, hN⟩, hsz0, hAn⟩ rfl rfl rfl rfl B.returns (fun b hb => by rw [← hb]; exact hin) ?_
  · have hq : ∀ x : gX, x ∈ fs0 → gHv (fun _ => 0) x = gHv (fun p => if p < 1000 then a else ra (p - 1000)) x := by
      intro x hx
      have h1 := List.all_eq_true.mp hf0 x hx
      match x, h1 with
      | none, _ => rfl
      | some none, _ => rfl
    refine hb (fun p => if p < 1000 then a else ra (p - 1000)) rfl ⟨fun i j hi hj _ => ?_, fun k hk => ?_⟩ (fun k => ?_) s.heap [] ls ?_ ?_ ?_ va_S.rf (Nat.zero_le _) (Nat.zero_le _)
    · have hi : i < 1 + 0 := hi
      have hj : j < 1 + 0 := hj
      omega
    · have hk : k < 1 + 0 := hk
      show A (if k < 1000 then a else _)
      rw [if_pos (by omega)]; exact hAa
    · show (if 1000 + k < 1000 then a else _) = _
      rw [if_neg (by omega), show 1000 + k - 1000 = k by omega]
    · refine gLs.mk hl (by rw [List.length_cons, List.length_replicate]; omega) (fun i v hv => ?_)
      match i, hv with
      | 0, hv => cases hv; exact List.mem_cons_self
      | i + 1, hv =>
        rw [List.getElem?_cons_succ, List.getElem?_replicate] at hv
        split at hv <;> cases hv
    · rw [List.length_cons, List.length_replicate, hml]; omega
    · intro k q hk
      have hz : k < 1 := (List.getElem?_eq_some_iff.mp hk).1
      rw [show k = 0 by omega] at hk
      have e1 : q = (a, .inr (ci, fs0.map (gHv (fun _ => 0)))) := by
        have := Option.some.inj hk
        rw [← this]
        show (a, (Sum.inr (ci, fs0.map (gHv _)) : va_E)) = _
        rw [List.map_congr_left hq]
      rw [e1]
      exact hP 0 _ rfl
  · intro ad h0 hra hD H locs pc ls cs ss hP1 hS1 hcs hss hd hr
    have hcs : cs ≤ ce := hcs
    have hss : ss ≤ sl := hss
    exact W.widen (k := ce) (n := sl) hcs hss (W.vret B.exec B.bytes B.returns (fun t ht hW => ⟨⟨rfl, ad, h0, hra, hD, by rw [ht]; exact hP1⟩, hS1.F ht⟩) hS1.2.2 (by rw [← B.bytes]; exact hd) B.notSynchronized)
