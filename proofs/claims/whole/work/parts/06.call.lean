/-! ===== contracts, and calls ===== -/
/-- what all contracts share: the launch, what holds of the state at any time, the first address that is the law's own, the classes, the row classes -/
abbrev gE5 : Type := Launch × (State → Prop) × Nat × va_G × (Nat → ClassId) × (Nat → Nat)
def genv (γ : gG) : gE5 := match γ with
  | ((_, l, _), _, D, cA, _, _, _, _, _, E, n0, ra) => (l, E, n0, D, cA, ra)
def gml (γ : gG) : Nat := match γ with
  | ((_, _, _, _, _, _, _, _, _, c, _), _) => c.maxLocals
def gStab (ε : gE5) : Prop := match ε with
  | (_, E, n0, _, _, _) => ∀ U U' : State, U.WarmedH U'.vm → (∀ q : Nat, q < n0 → U'.heap[q]? = U.heap[q]?) → E U → E U'
def gQc (D : va_G) (cA : Nat → ClassId) (ad : Nat → Nat) (lay : List gL) (A : Nat → Prop) (r : Option Value) (J : gM) : Array Value → State → Outcome → State → Prop := fun _ st oc t => (oc = .returned r ∧ va_P D vwCl (gW cA ad J 0 lay) t.heap) ∧ va_F A st t
def gPre (ε : gE5) (ad : Nat → Nat) (lay : List gL) (I : gM) (sz : Nat) (U : State) : Prop := match ε with
  | (_, E, _, D, cA, _) => U.heap.size = sz ∧ va_P D vwCl (gW cA ad I 0 lay) U.heap ∧ va_K D vwCl (gTy cA) U ∧ E U ∧ ∀ w ∈ gNw, va_Nw w U
/-- a method's contract: whenever f gives an answer, the method gives it, and leaves the numbers that f leaves -/
def gCtr (ε : gE5) (y : MethodName) (cc : ByteArray) (maxL : Nat) (ret : Option FieldType) (fr lo : Nat) (lay : List gL) (f : List Value → gM → Option (gR × gM)) : Prop := match ε with
  | (l, E, n0, D, cA, ra) => ∀ (ad : Nat → Nat) (sz : Nat) (av : List Value) (I J : gM) (r : Option Value), gD (fun a => n0 ≤ a) ad lay.length → (∀ k : Nat, ad (1000 + k) = ra k) → n0 ≤ sz → f av I = some (.inl r, J) →
    Met l y (.code y cc maxL ret :: gTb) { frames := fr, cells := 0, slots := 0, locals := lo } (va_Pc (av.map (gv ad)) (gPre (l, E, n0, D, cA, ra) ad lay I sz)) (gQc D cA ad lay (va_A (gW cA ad I 0 lay) sz) r J) 0 0 (va_A (gW cA ad I 0 lay) sz)
def gEn : List Value → List (Option Value)
  | [] => []
  | v :: t => if v.category = 2 then some v :: none :: gEn t else some v :: gEn t
def gFn (maxL : Nat) (F : gK) : List Value → gM → Option (gR × gM) := fun av I => if (gEn av).length ≤ maxL then F (gEn av ++ List.replicate (maxL - (gEn av).length) none) [] I else none
theorem gEn_len (ad : Nat → Nat) : ∀ av : List Value, (lg_sl (av.map (gv ad))).length = (gEn av).length
  | [] => rfl
  | v :: t => by
    have ih := gEn_len ad t
    simp only [List.map_cons, lg_sl, List.flatMap_cons, gv_cat, gEn, List.length_append] at ih ⊢
    split <;> simp_all <;> omega
theorem gEn_at (ad : Nat → Nat) : ∀ (av : List Value) (k i : Nat) (w : Value), (gEn av)[i]? = some (some w) → (k + i, gv ad w) ∈ lv_args k (av.map (gv ad))
  | [], k, i, w, h => by simp [gEn] at h
  | v :: t, k, i, w, h => by
    simp only [List.map_cons, lv_args, gv_cat]
    unfold gEn at h
    split at h
    · rename_i hc
      rw [if_pos hc]
      match i, h with
      | 0, h => simp at h; subst h; exact List.mem_cons_self
      | 1, h => simp at h
      | i + 2, h =>
        have := gEn_at ad t (k + 2) i w (by simpa using h)
        rw [show k + 2 + i = k + (i + 2) by omega] at this
        exact List.mem_cons_of_mem _ this
    · rename_i hc
      rw [if_neg hc]
      match i, h with
      | 0, h => simp at h; subst h; exact List.mem_cons_self
      | i + 1, h =>
        have := gEn_at ad t (k + 1) i w (by simpa using h)
        rw [show k + 1 + i = k + (i + 1) by omega] at this
        exact List.mem_cons_of_mem _ this
theorem gEnt_at {av : List Value} {n i : Nat} {w : Value} (h : (gEn av ++ List.replicate n none)[i]? = some (some w)) : (gEn av)[i]? = some (some w) := by
  by_cases hi : i < (gEn av).length
  · rwa [List.getElem?_append_left hi] at h
  · rw [List.getElem?_append_right (by omega), List.getElem?_replicate] at h
    split at h <;> cases h
/-- a contract out of the walk of the body -/
theorem gCtr_of {ε : gE5} {y : MethodName} {cc : ByteArray} {maxL : Nat} {ret : Option FieldType} {fr lo : Nat} {lay : List gL} {F : gK} (hE : gStab ε) (hy : plainName y.cls = true)
    (body : ∀ γ : gG, gOK γ → gcc γ = cc → gow γ = y.cls → gly γ = lay → grm γ = { frames := fr, cells := 0, slots := 0, locals := lo } → genv γ = ε → grt γ = ret → gSm γ 0 0 0 F) : gCtr ε y cc maxL ret fr lo lay (gFn maxL F) := by
  obtain ⟨l, E, n0, D, cA, ra⟩ := ε
  intro ad sz av I J r had hra hsz0 hf
  unfold gFn at hf
  split at hf
  case isFalse => cases hf
  rename_i hlen
  refine Met.ofW (cc := cc) (maxL := maxL) (ret := ret) hy rfl ?_
  intro p e s m args below meth c s₁ B hml hv
  obtain ⟨rfl, hsz, hP, hK, hEs, hN⟩ := hv
  subst hsz
  have hts := atoms_spec (ws := .code y cc maxL ret :: gTb) B.pre
  generalize hAe : va_A (gW cA ad I 0 lay) s.heap.size = A
  have hA : ∀ q : Nat, s.heap.size ≤ q → A q := fun q h => by rw [← hAe]; exact Or.inr h
  have hDA : gD A ad lay.length := ⟨had.1, fun k hk => by rw [← hAe]; exact Or.inl ⟨k, _, gW_at (List.getElem?_eq_getElem hk)⟩⟩
  have hAn : ∀ q : Nat, A q → n0 ≤ q := by
    intro q hq
    rw [← hAe] at hq
    rcases hq with ⟨k, ee, hk⟩ | hq
    · obtain ⟨d, hd, he⟩ := gW_inv hk
      have e1 : q = ad k := congrArg Prod.fst he
      rw [e1]
      exact had.2 k (List.getElem?_eq_some_iff.mp hd).1
    · exact Nat.le_trans hsz0 hq
  rw [lg_entry_eq]
  have hl := lv_entry (av.map (gv ad)) (n := maxL) (by rw [gEn_len]; exact hlen)
  generalize (lg_sl (av.map (gv ad)) ++ List.replicate (maxL - (lg_sl (av.map (gv ad))).length) Slot.unset).toArray = ls at hl ⊢
  refine body ((p, l, e, { frames := fr, cells := 0, slots := 0, locals := lo }, s, m, (av.map (gv ad)).toArray, below, meth, c, MQ below (gQc D cA ad lay A r J) (av.map (gv ad)).toArray s 0 0 A), A, D, cA, ad, lay, (.inl r, J), cc, y.cls, E, n0, ra) ⟨B.exec, B.bytes, findClass_of_methodNamed B.named, fun w hw => hts w (List.mem_cons_of_mem _ hw), hK, hDA, hA, ⟨hEs, hN, hra⟩, hsz0, hAn, ?_⟩ rfl rfl rfl rfl rfl B.returns (gEn av ++ List.replicate (maxL - (gEn av).length) none) [] I s.heap [] ls ?_ ?_ hP va_S.rf hf (Nat.zero_le _) (Nat.zero_le _)
  · refine ⟨?_, fun En h => by cases h⟩
    intro H locs pc ls v cs ss hP1 hS1 hcs hss hv hr
    dsimp only at hP1 hv hr hcs hss
    obtain rfl : cs = 0 := Nat.le_zero.mp hcs
    obtain rfl : ss = 0 := Nat.le_zero.mp hss
    have hrv : r = v := by cases hv; rfl
    subst hrv
    match r, hr with
    | none, hr => exact W.vret B.exec B.bytes hr.2 (fun t ht hW => ⟨⟨rfl, by rw [ht]; exact hP1⟩, hS1.F ht⟩) hS1.2.2 hr.1 B.notSynchronized
    | some (.int x), hr =>
      rcases hr.2 with h2 | ⟨ty, h2, hx⟩
      · exact W.iret B.exec B.bytes h2 (fun t ht hW => ⟨⟨rfl, by rw [ht]; exact hP1⟩, hS1.F ht⟩) hS1.2.2 hr.1 B.notSynchronized
      · exact W.zret B.exec B.bytes h2 hx (fun t ht hW => ⟨⟨rfl, by rw [ht]; exact hP1⟩, hS1.F ht⟩) hS1.2.2 hr.1 B.notSynchronized
    | some (.long x), hr => exact W.lret B.exec B.bytes hr.2 (fun t ht hW => ⟨⟨rfl, by rw [ht]; exact hP1⟩, hS1.F ht⟩) hS1.2.2 hr.1 B.notSynchronized
  · exact gLs.mk hl (by rw [List.length_append, List.length_replicate]; omega) (fun i v hv => by
      have := gEn_at ad av 0 i v (gEnt_at hv)
      rwa [Nat.zero_add] at this)
  · show (gEn av ++ List.replicate (maxL - (gEn av).length) none).length = c.maxLocals
    rw [List.length_append, List.length_replicate, hml]; omega
/-! renaming: the callee's places in the caller's -/
theorem gIx_none : ∀ (ρ : List Nat) (p : Nat), gIx ρ p = none → ∀ j : Nat, ρ[j]? ≠ some p
  | [], p, h, j => by simp
  | a :: t, p, h, j => by
    unfold gIx at h
    split at h
    · cases h
    · rename_i hne
      split at h
      · cases h
      · rename_i hn
        cases j with
        | zero => simpa using hne
        | succ j => simpa using gIx_none t p hn j
/-- a callee's place in the caller's world; places from 1000 on are everyone's -/
def gr (ρ : List Nat) (j : Nat) : Nat := if j < 1000 then ρ.getD j 0 else j
theorem gr_ra {ρ : List Nat} {ad ra : Nat → Nat} (h : ∀ k : Nat, ad (1000 + k) = ra k) : ∀ k : Nat, (fun j => ad (gr ρ j)) (1000 + k) = ra k := fun k => by
  show ad (gr ρ (1000 + k)) = ra k
  unfold gr
  rw [if_neg (by omega)]
  exact h k
def gBk (ρ : List Nat) : List Value → Option (List Value)
  | [] => some []
  | .ref p :: t => if p < 1000 then match gIx ρ p, gBk ρ t with
    | some j, some t' => if j < 1000 then some (.ref j :: t') else none
    | _, _ => none
    else match gBk ρ t with
    | some t' => some (.ref p :: t')
    | none => none
  | v :: t => match gBk ρ t with
    | some t' => some (v :: t')
    | none => none
theorem gBk_map {ρ : List Nat} {ad : Nat → Nat} : ∀ (av av' : List Value), gBk ρ av = some av' → av'.map (gv (fun j => ad (gr ρ j))) = av.map (gv ad)
  | [], av', h => by cases h; rfl
  | v :: t, av', h => by
    cases v with
    | ref p =>
      simp only [gBk] at h
      split at h
      · split at h
        · rename_i j t' hj ht
          split at h
          · rename_i hj1
            cases h
            have e := gIx_some ρ p j hj
            show gv _ (.ref j) :: t'.map _ = gv ad (.ref p) :: t.map (gv ad)
            rw [gBk_map t t' ht]
            have e2 : gr ρ j = p := by unfold gr; rw [if_pos hj1, List.getD_eq_getElem?_getD, e]; rfl
            show Value.ref (ad (gr ρ j)) :: _ = Value.ref (ad p) :: _
            rw [e2]
          · cases h
        · cases h
      · rename_i hp
        split at h
        · rename_i t' ht
          cases h
          show Value.ref (ad (gr ρ p)) :: t'.map _ = Value.ref (ad p) :: t.map (gv ad)
          rw [gBk_map t t' ht]
          unfold gr
          rw [if_neg hp]
        · cases h
    | _ =>
      simp only [gBk] at h
      split at h
      · rename_i t' ht
        cases h
        show gv _ _ :: t'.map _ = gv ad _ :: t.map (gv ad)
        rw [gBk_map t t' ht]
        rfl
      · cases h
def gRen (ρ : List Nat) : gL → gL
  | .inl (ci, fs) => .inl (ci, fs.map (fun o => o.map (fun j => gr ρ j)))
  | .inr (.inl a) => .inr (.inl a)
  | .inr (.inr (t, ps)) => .inr (.inr (t, ps.map (fun j => gr ρ j)))
theorem gF_ren (ρ : List Nat) (ad : Nat → Nat) (I : Nat → Int32) : ∀ (fs : List (Option Nat)) (j : Nat), gF (fun j => ad (gr ρ j)) I j fs = gF ad I j (fs.map (fun o => o.map (fun j => gr ρ j)))
  | [], _ => rfl
  | none :: t, j => congrArg (Value.int (I j) :: ·) (gF_ren ρ ad I t (j + 1))
  | some q :: t, j => congrArg (Value.ref (ad (gr ρ q)) :: ·) (gF_ren ρ ad I t (j + 1))
theorem gC_ren (ρ : List Nat) (cA : Nat → ClassId) (ad : Nat → Nat) (I : Nat → Int32) (d : gL) : gC cA (fun j => ad (gr ρ j)) I d = gC cA ad I (gRen ρ d) := by
  match d with
  | .inl (ci, fs) => exact congrArg (fun z => (Sum.inr (ci, z) : va_E)) (gF_ren ρ ad I fs 0)
  | .inr (.inl (t, n)) => rfl
  | .inr (.inr (t, ps)) =>
    show (Sum.inl (cA t, ps.length, .inr (.inr (.inr (.inr (fun j => (ps[(I j).toNatClampNeg]?).map (fun j => ad (gr ρ j))))))) : va_E) = Sum.inl (cA t, (ps.map (fun j => gr ρ j)).length, .inr (.inr (.inr (.inr (fun j => ((ps.map (fun j => gr ρ j))[(I j).toNatClampNeg]?).map ad)))))
    rw [List.length_map]
    congr 7
    funext j
    rw [List.getElem?_map, Option.map_map]
    rfl
def gMg (ρ : List Nat) (I J : gM) : gM := fun p => match gIx ρ p with
  | some j => J j
  | none => I p
/-- the callee's form is a part of the caller's -/
def gCo (ρ : List Nat) (lay lay' : List gL) : Prop := ρ.map (fun r => lay[r]?) = lay'.map (fun d => some (gRen ρ d)) ∧ va_nd ρ = true ∧ lay'.length ≤ 1000
theorem gCo.len {ρ : List Nat} {lay lay' : List gL} (h : gCo ρ lay lay') : ρ.length = lay'.length := by
  have := congrArg List.length h.1
  simpa using this
theorem gCo.at {ρ : List Nat} {lay lay' : List gL} (h : gCo ρ lay lay') {j : Nat} {d : gL} (hj : lay'[j]? = some d) : ρ[j]? = some (gr ρ j) ∧ lay[gr ρ j]? = some (gRen ρ d) := by
  have hl : j < ρ.length := by rw [h.len]; exact (List.getElem?_eq_some_iff.mp hj).1
  have hl9 : j < 1000 := by have := h.len; have := h.2.2; omega
  have e1 : ρ[j]? = some (gr ρ j) := by unfold gr; rw [if_pos hl9, List.getD_eq_getElem?_getD, List.getElem?_eq_getElem hl]; rfl
  refine ⟨e1, ?_⟩
  have e2 : (ρ.map (fun r => lay[r]?))[j]? = (lay'.map (fun d => some (gRen ρ d)))[j]? := by rw [h.1]
  rw [List.getElem?_map, List.getElem?_map, e1, hj] at e2
  exact Option.some.inj e2
theorem gCo.inj {ρ : List Nat} {lay lay' : List gL} (h : gCo ρ lay lay') {i j : Nat} (hi : i < lay'.length) (hj : j < lay'.length) (he : gr ρ i = gr ρ j) : i = j := by
  have e1 : ρ[i]? = some (gr ρ i) := (h.at (List.getElem?_eq_getElem hi)).1
  have e2 : ρ[j]? = some (gr ρ i) := by rw [he]; exact (h.at (List.getElem?_eq_getElem hj)).1
  exact va_nd_inj ρ h.2.1 i j _ e1 e2
theorem gCo.P {D : va_G} {cA : Nat → ClassId} {ad : Nat → Nat} {I : gM} {H : Heap} {ρ : List Nat} {lay lay' : List gL} (h : gCo ρ lay lay') (hP : va_P D vwCl (gW cA ad I 0 lay) H) : va_P D vwCl (gW cA (fun j => ad (gr ρ j)) (fun j => I (gr ρ j)) 0 lay') H := by
  intro j q hq
  obtain ⟨d, hd, rfl⟩ := gW_inv hq
  obtain ⟨-, e2⟩ := h.at hd
  rw [gC_ren]
  exact hP _ _ (gW_at e2)
theorem gCo.D {A B : Nat → Prop} {ad : Nat → Nat} {ρ : List Nat} {lay lay' : List gL} (h : gCo ρ lay lay') (hD : gD A ad lay.length) (hAB : ∀ q, A q → B q) : gD B (fun j => ad (gr ρ j)) lay'.length := by
  have hlt : ∀ j, j < lay'.length → gr ρ j < lay.length := fun j hj => (List.getElem?_eq_some_iff.mp (h.at (List.getElem?_eq_getElem hj)).2).1
  exact ⟨fun i j hi hj he => h.inj hi hj (hD.1 _ _ (hlt i hi) (hlt j hj) he), fun k hk => hAB _ (hD.2 _ (hlt k hk))⟩
theorem gCo.A {A : Nat → Prop} {cA : Nat → ClassId} {ad : Nat → Nat} {I' : gM} {sz : Nat} {ρ : List Nat} {lay lay' : List gL} (h : gCo ρ lay lay') (hD : gD A ad lay.length) (hA : ∀ q, sz ≤ q → A q) : ∀ q, va_A (gW cA (fun j => ad (gr ρ j)) I' 0 lay') sz q → A q := by
  intro q hq
  rcases hq with ⟨k, ee, hk⟩ | hq
  · obtain ⟨d, hd, he⟩ := gW_inv hk
    have e1 : q = ad (gr ρ k) := congrArg Prod.fst he
    rw [e1]
    exact hD.2 _ (List.getElem?_eq_some_iff.mp (h.at hd).2).1
  · exact hA q hq
theorem gCo.back {D : va_G} {cA : Nat → ClassId} {A : Nat → Prop} {ad : Nat → Nat} {I J : gM} {H H1 : Heap} {ρ : List Nat} {lay lay' : List gL} (h : gCo ρ lay lay') (hD : gD A ad lay.length) (hP : va_P D vwCl (gW cA ad I 0 lay) H)
    (hk : ∀ q : Nat, q < H.size → ¬ va_A (gW cA (fun j => ad (gr ρ j)) (fun j => I (gr ρ j)) 0 lay') H.size q → H1[q]? = H[q]?) (hP1 : va_P D vwCl (gW cA (fun j => ad (gr ρ j)) J 0 lay') H1) : va_P D vwCl (gW cA ad (gMg ρ I J) 0 lay) H1 := by
  intro k q hq
  obtain ⟨d, hd, rfl⟩ := gW_inv hq
  have hkl : k < lay.length := (List.getElem?_eq_some_iff.mp hd).1
  cases hix : gIx ρ k with
  | some j =>
    have e1 := gIx_some ρ k j hix
    have hjl : j < lay'.length := by rw [← h.len]; exact (List.getElem?_eq_some_iff.mp e1).1
    obtain ⟨e2, e3⟩ := h.at (List.getElem?_eq_getElem hjl)
    have e4 : gr ρ j = k := Option.some.inj (e2.symm.trans e1)
    rw [e4, hd] at e3
    have hat := hP1 j _ (gW_at (List.getElem?_eq_getElem hjl))
    rw [gC_ren] at hat
    have e5 : gMg ρ I J k = J j := by unfold gMg; rw [hix]
    rw [e5, Option.some.inj e3]
    rw [e4] at hat
    exact hat
  | none =>
    have e5 : gMg ρ I J k = I k := by unfold gMg; rw [hix]
    rw [e5]
    have hat := hP k _ (gW_at hd)
    refine hat.kept (hk (ad k) hat.lt (fun hz => ?_))
    rcases hz with ⟨j, ee, hj⟩ | hz
    · obtain ⟨d', hd', he⟩ := gW_inv hj
      obtain ⟨e2, e3⟩ := h.at hd'
      have e6 : ad k = ad (gr ρ j) := congrArg Prod.fst he
      have e7 := hD.1 _ _ hkl (List.getElem?_eq_some_iff.mp e3).1 e6
      exact gIx_none ρ k hix j (by rw [e2, ← e7])
    · exact absurd hat.lt (Nat.not_lt.mpr hz)
def gLeq : gL → gL → Bool
  | .inl a, .inl b => decide (a = b)
  | .inr (.inl a), .inr (.inl b) => decide (a = b)
  | .inr (.inr a), .inr (.inr b) => decide (a = b)
  | _, _ => false
theorem gLeq_eq : ∀ {a b : gL}, gLeq a b = true → a = b
  | .inl a, .inl b, h => congrArg Sum.inl (of_decide_eq_true h)
  | .inr (.inl a), .inr (.inl b), h => congrArg (fun z => Sum.inr (Sum.inl z)) (of_decide_eq_true h)
  | .inr (.inr a), .inr (.inr b), h => congrArg (fun z => Sum.inr (Sum.inr z)) (of_decide_eq_true h)
  | .inl _, .inr _, h => by cases h
  | .inr (.inl _), .inl _, h => by cases h
  | .inr (.inr _), .inl _, h => by cases h
  | .inr (.inl _), .inr (.inr _), h => by cases h
  | .inr (.inr _), .inr (.inl _), h => by cases h
def gCob (ρ : List Nat) (lay : List gL) : List Nat → List gL → Bool
  | [], [] => true
  | r :: t, d :: u => (match lay[r]? with
    | some e => gLeq e (gRen ρ d)
    | none => false) && gCob ρ lay t u
  | _, _ => false
theorem gCob_eq {ρ : List Nat} {lay : List gL} : ∀ {t : List Nat} {u : List gL}, gCob ρ lay t u = true → t.map (fun r => lay[r]?) = u.map (fun d => some (gRen ρ d))
  | [], [], _ => rfl
  | r :: t, d :: u, h => by
    unfold gCob at h
    rw [Bool.and_eq_true] at h
    obtain ⟨h1, h2⟩ := h
    rw [List.map_cons, List.map_cons, gCob_eq h2]
    split at h1
    · rename_i e he
      rw [he, gLeq_eq h1]
    · cases h1
  | [], _ :: _, h => by cases h
  | _ :: _, [], h => by cases h
theorem gCo_of {ρ : List Nat} {lay lay' : List gL} (h : (gCob ρ lay ρ lay' && (va_nd ρ && decide (lay'.length ≤ 1000))) = true) : gCo ρ lay lay' := by
  rw [Bool.and_eq_true, Bool.and_eq_true] at h
  exact ⟨gCob_eq h.1, h.2.1, of_decide_eq_true h.2.2⟩
