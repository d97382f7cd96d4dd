/-! ===== THE LAW: its helpers catch what the class throws; rows of longs; the script ===== -/
def gNc : List (String × String) := [("java/lang/IndexOutOfBoundsException", "java/lang/IllegalArgumentException"), ("java/lang/IndexOutOfBoundsException", "java/lang/IllegalStateException"), ("java/lang/IndexOutOfBoundsException", "java/util/NoSuchElementException"), ("java/lang/IllegalArgumentException", "java/lang/IndexOutOfBoundsException"), ("java/lang/IllegalArgumentException", "java/lang/IllegalStateException"), ("java/lang/IllegalArgumentException", "java/util/NoSuchElementException"), ("java/lang/IllegalStateException", "java/lang/IndexOutOfBoundsException"), ("java/lang/IllegalStateException", "java/lang/IllegalArgumentException"), ("java/lang/IllegalStateException", "java/util/NoSuchElementException"), ("java/util/NoSuchElementException", "java/lang/IndexOutOfBoundsException"), ("java/util/NoSuchElementException", "java/lang/IllegalArgumentException"), ("java/util/NoSuchElementException", "java/lang/IllegalStateException")]
/-- what the law's part takes as given beside the rest -/
def gEnvL (ε : gE5) : Prop := gEnv ε ∧ gHas ε (fun _ _ U => ∀ q ∈ gNc, va_Nc q.1 q.2 U)
def gtb (γ : gG) : List ExceptionTableEntry := match γ with
  | ((_, _, _, _, _, _, _, _, _, c, _), _) => c.exceptionTable.toList
theorem gLg_halves (x : Int64) : gLg (gLo x) (gHi x) = x := by
  apply Int64.toBitVec_inj.mp
  show x.toBitVec.extractLsb' 32 32 ++ x.toBitVec.setWidth 32 = x.toBitVec
  generalize x.toBitVec = b
  apply BitVec.eq_of_getLsbD_eq
  intro i hi
  rw [BitVec.getLsbD_append]
  by_cases h : i < 32
  · simp [h, BitVec.getLsbD_setWidth]
  · simp [h, BitVec.getLsbD_extractLsb', show i - 32 < 32 by omega, show 32 + (i - 32) = i by omega]
theorem sm_lald {γ : gG} {cs ss pc : Nat} {k : gK} {cc : ByteArray} (G : gOK γ) (hb : gcc γ = cc) {lay : List gL} (hy : gly γ = lay) (hd : decode cc pc = .ok (.laload, 1)) (h : gSm γ cs ss (pc + 1) k) : gSm γ cs ss pc (s_lald lay k) := by
  obtain ⟨⟨p, l, e, R, s, m, args, below, meth, c, Q⟩, A, D, cA, ad, lay', fin, cc', own, E, n0, ra⟩ := γ
  subst hb
  subst hy
  intro L st I H locs ls hl hn hP hS hk hcs hss
  unfold s_lald at hk
  split at hk
  · rename_i i a t
    split at hk
    · rename_i ki n hla
      split at hk
      · rename_i hki
        subst hki
        split at hk
        · cases hk
        · rename_i hin
          exact va_lald G.1 G.2.1 G.2.2.2.2.1 hP a 2 (gW_at hla) rfl hin hd (h _ _ _ _ _ _ hl hn hP hS hk hcs hss)
      · cases hk
    · cases hk
  · cases hk
theorem gW_putl {cA : Nat → ClassId} {ad : Nat → Nat} {I : gM} {lay : List gL} {k j n : Nat} {x : Int64} (h : lay[k]? = some (.inr (.inl (2, n)))) : (gW cA ad I 0 lay).set k (ad k, .inl (cA 2, n, .inr (.inl (vp_updL (fun j => gLg (I k (2 * j)) (I k (2 * j + 1))) j x)))) = gW cA ad (gU (gU I k (2 * j) (gLo x)) k (2 * j + 1) (gHi x)) 0 lay := by
  refine gW_upd h ?_ (fun k' hk => by rw [gU_n hk, gU_n hk])
  rw [gU_s, gU_s]
  show (Sum.inl (cA 2, n, Sum.inr (Sum.inl _)) : va_E) = Sum.inl (cA 2, n, Sum.inr (Sum.inl _))
  congr 5
  funext j'
  unfold vp_updL
  by_cases e : j' = j
  · subst e
    rw [if_pos rfl, pk_us, pk_un (by omega), pk_us, gLg_halves]
  · rw [if_neg e, pk_un (by omega), pk_un (by omega), pk_un (by omega), pk_un (by omega)]
theorem sm_last {γ : gG} {cs ss pc : Nat} {k : gK} {cc : ByteArray} (G : gOK γ) (hb : gcc γ = cc) {lay : List gL} (hy : gly γ = lay) (hd : decode cc pc = .ok (.lastore, 1)) (h : gSm γ cs ss (pc + 1) k) : gSm γ cs ss pc (s_last lay k) := by
  obtain ⟨⟨p, l, e, R, s, m, args, below, meth, c, Q⟩, A, D, cA, ad, lay', fin, cc', own, E, n0, ra⟩ := γ
  subst hb
  subst hy
  intro L st I H locs ls hl hn hP hS hk hcs hss
  unfold s_last at hk
  split at hk
  · rename_i x i a t
    split at hk
    · rename_i ki n hla
      split at hk
      · rename_i hki
        subst hki
        split at hk
        · cases hk
        · rename_i hin
          refine va_last G.1 G.2.1 G.2.2.2.2.1 hP (gD.to G.2.2.2.2.2.1) hS a 2 (gW_at hla) rfl hin hd (fun H1 locs1 hP1 _ hS1 => ?_)
          rw [gW_putl (show lay'[a]? = _ from hla)] at hP1
          exact h _ _ _ _ _ _ hl hn hP1 hS1 hk hcs hss
      · cases hk
    · cases hk
  · cases hk
/-- a throw of En at pc lands at a handler that puts it away and answers cv -/
def gHk (own : String) (cc : ByteArray) (pc nL : Nat) (T : List (Nat × Nat × Nat × Nat)) (En : String) (cv : Int32) : Prop :=
  ∃ (i a b hp ct j w : Nat) (nm : List String), T[i]? = some (a, b, hp, ct) ∧ covers ⟨a, b, hp, ct⟩ pc = true ∧ ct ≠ 0 ∧ Cond.classLink own ct En ∈ gTb ∧ Cond.castable En En ∈ gNw ∧
    (T.take i).length = nm.length ∧ (∀ (z : (Nat × Nat × Nat × Nat) × String), z ∈ (T.take i).zip nm → z.1.2.2.2 ≠ 0 ∧ Cond.classLink own z.1.2.2.2 z.2 ∈ gTb ∧ (En, z.2) ∈ gNc) ∧ j < nL ∧
    ((decode cc hp = .ok (.astore j, 2) ∧ w = 2) ∨ (∃ q : Fin 4, (q : Nat) = j ∧ decode cc hp = .ok (.astore_n q, 1) ∧ w = 1)) ∧ (∃ z : Int, decode cc (hp + w) = .ok (.iconst z, 1) ∧ Int32.ofInt z = cv) ∧ decode cc (hp + w + 1) = .ok (.ireturn, 1)
theorem gno {α : Type} {P : α → Prop} : ∀ z, z ∈ ([] : List α) → P z := fun _ hz => nomatch hz
theorem sm_tryV {γ : gG} {cs ss pc : Nat} {k : gK} {cc : ByteArray} (G : gOK γ) (hb : gcc γ = cc) {own C : String} (ho : gow γ = own) {lay : List gL} (hy : gly γ = lay) {ε : gE5} (he : genv γ = ε) (hE : gEnvL ε) (hr : grt γ = some .int) {T : List (Nat × Nat × Nat × Nat)} (hT : gtb γ = tableOf T) {nL : Nat} (hnL : gml γ = nL) {index : Nat} {y : MethodName} {cy : ByteArray} {maxL : Nat} {ret : Option FieldType} {fr lo ce sl : Nat} {lay' : List gL} {f : List Value → gM → Option (gR × gM)} (n : Nat) (ρ : List Nat) (hM : gCtrX ε y cy maxL ret fr lo ce sl lay' f) (hco : gCo ρ lay lay') (hR : fr + 1 ≤ (grm γ).frames ∧ 8 + (maxL + 11) + lo ≤ (grm γ).locals) (hRc : cs + ce ≤ (grm γ).cells ∧ ss + sl ≤ (grm γ).slots)
    {g : gGy} (hg : ∀ (ρ : List Nat) (k : gK) (L : List (Option Value)) (t : List Value) (I : gM) (o : gO) (z : gR × gM), g ρ k L t I o = some z → gGo ρ k L t I o = some z) {hs : List (String × Int32)} (hh : ∀ q ∈ hs, gHk own cc pc nL T q.1 q.2)
    {ci : Nat} {fs0 : List (Option Nat)} {T0 : u_T} {N : Nat} (hc0 : lay'[0]? = some (.inl (ci, fs0))) (hc1 : vwCl[ci]? = some (C, T0, N))
    (hd0 : y.cls = C ∧ y.cls ≠ "java/lang/invoke/MethodHandle" ∧ y.cls ≠ "java/lang/invoke/VarHandle" ∧ (parseMethodDescriptor y.desc).map (fun d => d.parameters.length + 1) = some n) (hw1 : Cond.methodLink own index y ∈ gTb) (hw2 : Cond.instanceMethod y ∈ gTb) (hw5 : Cond.selects C y y ∈ gTb) (hw3 : Cond.initialized C ∈ gTb) (hw4 : Cond.code y cy maxL ret ∈ gTb) (hd : decode cc pc = .ok (.invokevirtual index, 3)) (h : gSm γ (cs + ce) (ss + sl) (pc + 3) k) : gSm γ cs ss pc (s_try g f n ρ hs k) := by
  obtain ⟨⟨p, l, e, R, s, m, args, below, meth, c, Q⟩, A, D, cA, ad, lay0, fin, cc', own', E, n0, ra⟩ := γ
  subst hb
  subst ho
  subst hy
  subst he
  intro L st I H locs ls hl hn hP hS hk hcs hss
  unfold s_try at hk
  split at hk
  · rename_i hc
    split at hk
    · rename_i av hav
      obtain ⟨e1, e2⟩ := gArgs (ad := ad) hc.2 hav
      rw [e1]
      have hD2 := G.2.2.2.2.2.1
      obtain ⟨r, J, hf⟩ : ∃ (r : gR) (J : gM), f (.ref 0 :: av) (gS ρ I) = some (r, J) := by
        cases hfo : f (.ref 0 :: av) (gS ρ I) with
        | none =>
          rw [hfo] at hk
          have h9 := hg _ _ _ _ _ _ _ hk
          cases h9
        | some z => exact ⟨z.1, z.2, rfl⟩
      have hMet := hM (fun j => ad (gr ρ j)) H.size (.ref 0 :: av) (fun j => I (gr ρ j)) J r (hco.D hD2 G.2.2.2.2.2.2.2.2.2.1) (gr_ra G.2.2.2.2.2.2.2.1.2.2) (Nat.le_trans G.2.2.2.2.2.2.2.2.1 hS.1) hf
      have hPc := hco.P hP
      have hdl : (parseMethodDescriptor y.desc).map (fun d => d.parameters.length) = some (n - 1) := by
        have h9 := hd0.2.2.2
        cases hpm : parseMethodDescriptor y.desc with
        | none => rw [hpm] at h9; cases h9
        | some dd =>
          rw [hpm] at h9
          have h8 : dd.parameters.length + 1 = n := Option.some.inj h9
          show some dd.parameters.length = some (n - 1)
          exact congrArg some (by omega)
      have hal : (av.map (gv (fun j => ad (gr ρ j)))).length = n - 1 := by rw [List.length_map]; rw [List.length_cons] at e2; omega
      refine gRunX_go (vx_runV (Ts := gTb) ⟨G.1, G.2.1, rfl, G.2.2.1, G.2.2.2.1⟩ hMet ⟨callB_of (n - 1) G.2.2.2.1 (gGoodT hw4) rfl rfl rfl (by rw [hd0.1]; exact G.2.2.2.1 _ hw3) (G.2.2.2.1 _ hw1) ⟨hd0.2.1, hd0.2.2.1, hdl⟩ hR, G.2.2.2.1 _ hw2, G.2.2.2.1 _ hw5⟩ (As := av.map (gv (fun j => ad (gr ρ j)))) (rest := (st.drop n).map (gv ad)) ⟨gPre_blind hE.1.1, va_recv G.2.2.2.2.1 hPc hc1 (gW_at hc0), fun U hU hW => ⟨rfl, by rw [hU], by rw [hU]; exact hPc, va_K.moved hW.alike G.2.2.2.2.1, hE.1.1 s U hW (fun q hq => by rw [hU]; exact hS.2.1 q (Nat.lt_of_lt_of_le hq G.2.2.2.2.2.2.2.2.1) (fun z => absurd (G.2.2.2.2.2.2.2.2.2.1 q z) (Nat.not_le.mpr hq))) G.2.2.2.2.2.2.2.1.1, gNw_warm hW G.2.2.2.2.2.2.2.1.2.1⟩⟩ rfl hal (hl.1.trans hn) (by rw [List.map_cons, List.reverse_cons, List.append_assoc]; rfl) (lv_room (by rw [gcat]; exact hc.1)) hd hRc) hS (fun q _ hq => hco.A hD2 (fun q hq => G.2.2.2.2.2.2.1 q (Nat.le_trans hS.1 hq)) q hq) (fun q hq => hco.A hD2 (fun q hq => G.2.2.2.2.2.2.1 q (Nat.le_trans hS.1 hq)) q hq) (fun En ce9 q9 H1 locs1 hrE hP1 hk1 hS1 hq9 hv9 hc9 => ?_) (fun v H1 locs1 hrv hP1 hk1 hS1 => ?_)
      · subst hrE
        rw [hf] at hk
        dsimp only at hk
        split at hk
        · rename_i cv hcv
          have hfin := Option.some.inj hk
          obtain ⟨l1, l2, hsp, -⟩ := List.lookup_eq_some_iff.mp hcv
          obtain ⟨i, a, b, hp, ct, j, w, nm, hTi, hcov, hct, hcl, hca, hlen, hpre, hj, hast, ⟨z, hic, hz⟩, hret⟩ := hh (En, cv) (by rw [hsp]; exact List.mem_append_right _ List.mem_cons_self)
          have hT' : c.exceptionTable.toList = tableOf T := hT
          have hnl : c.maxLocals = nL := hnL
          have hil := (List.getElem?_eq_some_iff.mp hTi).1
          have hTs : T = T.take i ++ (a, b, hp, ct) :: T.drop (i + 1) := by
            have h1 := (List.getElem?_eq_some_iff.mp hTi).2
            rw [← h1]
            exact (List.take_append_drop i T).symm.trans (by rw [List.drop_eq_getElem_cons hil])
          have hnc := hE.2 s G.2.2.2.2.2.2.2.1.1
          refine vx_catch (own := own') (name := En) (E := En) G.2.2.1 (tableOf (T.take i)) ⟨a, b, hp, ct⟩ (tableOf (T.drop (i + 1))) ?_ ?_ hcov hct (G.2.2.2.1 _ hcl) (va_Nw.use rfl (G.2.2.2.2.2.2.2.1.2.1 _ hca)) hq9 hv9 hc9 ?_
          · rw [hT']
            conv => lhs; rw [hTs]
            unfold tableOf
            rw [List.map_append, List.map_cons]
          · intro x hx
            unfold tableOf at hx
            obtain ⟨y0, hy0, hxy⟩ := List.mem_map.mp hx
            obtain ⟨k0, hk0⟩ := List.getElem?_of_mem hy0
            have hkl : k0 < nm.length := by rw [← hlen]; exact (List.getElem?_eq_some_iff.mp hk0).1
            have hzz : (y0, nm[k0]) ∈ (T.take i).zip nm := by
              apply List.mem_of_getElem? (i := k0)
              rw [List.getElem?_zip_eq_some]
              exact ⟨hk0, List.getElem?_eq_getElem hkl⟩
            obtain ⟨g1, g2, g3⟩ := hpre _ hzz
            rw [← hxy]
            exact Or.inr ⟨g1, nm[k0], G.2.2.2.1 _ g2, hnc _ g3⟩
          · have hdone : ∀ ls9 : Array Slot, W p l e R s m args below meth c H1 locs1 (cs + ce) (ss + sl) Q (F0 m (hp + w) ls9 []) := by
              intro ls9
              refine lv_iconst G.1 G.2.1 hic hz ?_
              have hgr := G.2.2.2.2.2.2.2.2.2.2.1 H1 locs1 (hp + w + 1) ls9 (some (.int cv)) (cs + ce) (ss + sl) (by rw [← hfin]; exact hco.back hD2 hP hk1 hP1) hS1 hRc.1 hRc.2 (by rw [← hfin]) ⟨hret, Or.inl hr⟩
              exact hgr
            have hl0 := hl.1.trans hn
            rcases hast with ⟨ha, hw⟩ | ⟨q, hq, ha, hw⟩
            · subst hw
              exact lv_astore (lv := []) G.1 G.2.1 ha ⟨hl0.trans hnl, hl.2.1, fun q hq => by cases hq⟩ hj rfl (fun ls9 _ => hdone ls9)
            · subst hw
              exact lv_astore_n (lv := []) G.1 G.2.1 ha hq ⟨hl0.trans hnl, hl.2.1, fun q hq => by cases hq⟩ hj rfl (fun ls9 _ => hdone ls9)
        · cases hk
      · subst hrv
        rw [hf] at hk
        obtain ⟨r, J', hf', hkk, hrt⟩ := gGo_inv (hg _ _ _ _ _ _ _ hk)
        cases hf'
        rw [hrt]
        exact h _ _ _ _ _ _ hl hn (hco.back hD2 hP hk1 hP1) hS1 hkk hRc.1 hRc.2
    · cases hk
  · cases hk
/-! ===== the helpers' contracts, and calls of them ===== -/
def gCtrW (ε : gE5) (y : MethodName) (cc : ByteArray) (maxL : Nat) (ret : Option FieldType) (hh : List (Nat × Nat × Nat × Nat)) (fr lo ce sl : Nat) (lay : List gL) (f : List Value → gM → gO) : Prop := match ε with
  | (l, E, n0, D, cA, ra) => ∀ (ad : Nat → Nat) (sz : Nat) (av : List Value) (I J : gM) (r : Option Value), gD (fun a => n0 ≤ a) ad lay.length → (∀ k : Nat, ad (1000 + k) = ra k) → n0 ≤ sz → f av I = some (.inl r, J) →
    Met l y (.codeWith y cc maxL ret hh :: gTb) { frames := fr, cells := ce, slots := sl, locals := lo } (va_Pc (av.map (gv ad)) (gPre (l, E, n0, D, cA, ra) ad lay I sz)) (gQc D cA ad lay (va_A (gW cA ad I 0 lay) sz) r J) ce sl (va_A (gW cA ad I 0 lay) sz)
theorem gCtrW_of {ε : gE5} {y : MethodName} {cc : ByteArray} {maxL : Nat} {ret : Option FieldType} {hh : List (Nat × Nat × Nat × Nat)} {fr lo ce sl : Nat} {lay : List gL} {F : gK} (hE : gStab ε) (hy : plainName y.cls = true)
    (body : ∀ γ : gG, gOK γ → gcc γ = cc → gow γ = y.cls → gly γ = lay → grm γ = { frames := fr, cells := ce, slots := sl, locals := lo } → genv γ = ε → grt γ = ret → gtb γ = tableOf hh → gml γ = maxL → gSm γ 0 0 0 F) : gCtrW ε y cc maxL ret hh fr lo ce sl lay (gFn maxL F) := by
  obtain ⟨l, E, n0, D, cA, ra⟩ := ε
  intro ad sz av I J r had hra hsz0 hf
  unfold gFn at hf
  split at hf
  case isFalse => cases hf
  rename_i hlen
  refine va_MetW (cc := cc) (maxL := maxL) (ret := ret) (hh := hh) hy rfl ?_
  intro p e s m args below meth c s₁ B hml hv
  obtain ⟨rfl, hsz, hP, hK, hEs, hN⟩ := hv
  subst hsz
  have hts := atoms_spec (ws := .codeWith y cc maxL ret hh :: gTb) B.pre
  generalize hAe : va_A (gW cA ad I 0 lay) s.heap.size = A
  have hA : ∀ q : Nat, s.heap.size ≤ q → A q := fun q h => by rw [← hAe]; exact Or.inr h
  have hDA : gD A ad lay.length := ⟨had.1, fun k hk => by rw [← hAe]; exact Or.inl ⟨k, _, gW_at (List.getElem?_eq_getElem hk)⟩⟩
  have hAn : ∀ q : Nat, A q → n0 ≤ q := by
    intro q hq
    rw [← hAe] at hq
    rcases hq with ⟨k, ee, hk⟩ | hq
    · obtain ⟨d, hd, he⟩ := gW_inv hk
      have e1 : q = ad k := congrArg Prod.fst he
      rw [e1]
      exact had.2 k (List.getElem?_eq_some_iff.mp hd).1
    · exact Nat.le_trans hsz0 hq
  rw [lg_entry_eq]
  have hl := lv_entry (av.map (gv ad)) (n := maxL) (by rw [gEn_len]; exact hlen)
  generalize (lg_sl (av.map (gv ad)) ++ List.replicate (maxL - (lg_sl (av.map (gv ad))).length) Slot.unset).toArray = ls at hl ⊢
  refine body ((p, l, e, { frames := fr, cells := ce, slots := sl, locals := lo }, s, m, (av.map (gv ad)).toArray, below, meth, c, MQ below (gQc D cA ad lay A r J) (av.map (gv ad)).toArray s ce sl A), A, D, cA, ad, lay, (.inl r, J), cc, y.cls, E, n0, ra) ⟨B.exec, B.bytes, findClass_of_methodNamed B.named, fun w hw => hts w (List.mem_cons_of_mem _ hw), hK, hDA, hA, ⟨hEs, hN, hra⟩, hsz0, hAn, ?_⟩ rfl rfl rfl rfl rfl B.returns (vx_table (x := y) B (hts _ List.mem_cons_self)) hml (gEn av ++ List.replicate (maxL - (gEn av).length) none) [] I s.heap [] ls ?_ ?_ hP va_S.rf hf (Nat.zero_le _) (Nat.zero_le _)
  · refine ⟨?_, fun En h => by cases h⟩
    intro H locs pc ls v cs ss hP1 hS1 hcs hss hv hr
    dsimp only at hP1 hv hr hcs hss
    have hrv : r = v := by cases hv; rfl
    subst hrv
    refine W.widen (k := ce) (n := sl) hcs hss ?_
    match r, hr with
    | none, hr => exact W.vret B.exec B.bytes hr.2 (fun t ht hW => ⟨⟨rfl, by rw [ht]; exact hP1⟩, hS1.F ht⟩) hS1.2.2 hr.1 B.notSynchronized
    | some (.int x), hr =>
      rcases hr.2 with h2 | ⟨ty, h2, hx⟩
      · exact W.iret B.exec B.bytes h2 (fun t ht hW => ⟨⟨rfl, by rw [ht]; exact hP1⟩, hS1.F ht⟩) hS1.2.2 hr.1 B.notSynchronized
      · exact W.zret B.exec B.bytes h2 hx (fun t ht hW => ⟨⟨rfl, by rw [ht]; exact hP1⟩, hS1.F ht⟩) hS1.2.2 hr.1 B.notSynchronized
    | some (.long x), hr => exact W.lret B.exec B.bytes hr.2 (fun t ht hW => ⟨⟨rfl, by rw [ht]; exact hP1⟩, hS1.F ht⟩) hS1.2.2 hr.1 B.notSynchronized
  · exact gLs.mk hl (by rw [List.length_append, List.length_replicate]; omega) (fun i v hv => by
      have := gEn_at ad av 0 i v (gEnt_at hv)
      rwa [Nat.zero_add] at this)
  · show (gEn av ++ List.replicate (maxL - (gEn av).length) none).length = c.maxLocals
    rw [List.length_append, List.length_replicate, hml]; omega
theorem gGoodW {y : MethodName} {cc : ByteArray} {maxL : Nat} {ret : Option FieldType} {hh : List (Nat × Nat × Nat × Nat)} (h : Cond.codeWith y cc maxL ret hh ∈ gTb) : GoodIn gTb (Cond.codeWith y cc maxL ret hh :: gTb) := by
  intro w hw
  have hw2 : w ∈ gTb := by
    rcases List.mem_cons.mp hw with rfl | hw
    · exact h
    · exact hw
  exact ⟨hw2, good_of_word (gTb_good hw2)⟩
section GCW
variable {p : Program} {l : Launch} {e : Env} {R : Room} {s : State} {m : MethodId} {args : Array Value} {below : List Frame} {meth : Method} {c : Code} {H : Heap} {locs : List Loc} {Q : State → Prop}
theorem gRun_goC {cs ss ce sl : Nat} {g : JFrame} {rest : List Value} {D : va_G} {cA : Nat → ClassId} {ad' : Nat → Nat} {lay' : List gL} {A0 A1 : Nat → Prop} {r : Option Value} {J : gM} {a : Array Value} {free : Addr → Prop} {H0 : Heap}
    (hr : va_Run p l e R s m args below meth c H locs cs ss ce sl g rest (gQc D cA ad' lay' A1 r J a) free) (hS : va_S A0 H0 H locs) (hA : ∀ q, q < H.size → A1 q → A0 q) (hf : ∀ q, free q → A0 q)
    (kk : ∀ (H1 : Heap) (locs1 : List Loc), va_P D vwCl (gW cA ad' J 0 lay') H1 → (∀ q : Nat, q < H.size → ¬ A1 q → H1[q]? = H[q]?) → va_S A0 H0 H1 locs1 → W p l e R s m args below meth c H1 locs1 (cs + ce) (ss + sl) Q { g with pc := g.pc + 3, stack := r.toList ++ rest }) : W p l e R s m args below meth c H locs cs ss Q g := by
  intro T hT X
  obtain ⟨v, st₀, t, T', L, h0, X', hL, e1, e2, ⟨⟨hv, hp⟩, hF⟩, st⟩ := hr T hT X
  cases hv
  obtain ⟨hz, hk⟩ := hF
  rw [h0] at hz hk
  obtain ⟨t2, a1, b1⟩ := kk T'.heap (locs ++ L) (by rw [e1]; exact hp) (fun q h1 h2 => by rw [e1]; exact hk q h1 h2)
    ⟨Nat.le_trans hS.1 (by rw [e1]; exact hz), fun q h1 h2 => by rw [e1, hk q (Nat.lt_of_lt_of_le h1 hS.1) (fun z => h2 (hA q (Nat.lt_of_lt_of_le h1 hS.1) z))]; exact hS.2.1 q h1 h2, fun q hq => by
      rcases List.mem_append.mp hq with h | h
      · exact hS.2.2 q h
      · exact hf _ (hL q h)⟩ T' rfl X'
  exact ⟨t2, st t2 a1, b1⟩
end GCW
theorem sm_callW {γ : gG} {cs ss pc : Nat} {k : gK} {cc : ByteArray} (G : gOK γ) (hb : gcc γ = cc) {own : String} (ho : gow γ = own) {lay : List gL} (hy : gly γ = lay) {ε : gE5} (he : genv γ = ε) (hE : gStab ε) {index : Nat} {y : MethodName} {cy : ByteArray} {maxL : Nat} {ret : Option FieldType} {hh : List (Nat × Nat × Nat × Nat)} {fr lo ce sl : Nat} {lay' : List gL} {f : List Value → gM → gO} (n : Nat) (ρ : List Nat) (hM : gCtrW ε y cy maxL ret hh fr lo ce sl lay' f) (hco : gCo ρ lay lay') (hR : fr + 1 ≤ (grm γ).frames ∧ 8 + (maxL + 11) + lo ≤ (grm γ).locals) (hRc : cs + ce ≤ (grm γ).cells ∧ ss + sl ≤ (grm γ).slots)
    (hd0 : y.cls ≠ "java/lang/invoke/MethodHandle" ∧ y.cls ≠ "java/lang/invoke/VarHandle" ∧ (parseMethodDescriptor y.desc).map (fun d => d.parameters.length) = some n) (hw1 : Cond.methodLink own index y ∈ gTb) (hw2 : Cond.static y ∈ gTb) (hw3 : Cond.initialized y.cls ∈ gTb) (hw4 : Cond.codeWith y cy maxL ret hh ∈ gTb) (hd : decode cc pc = .ok (.invokestatic index, 3)) (h : gSm γ (cs + ce) (ss + sl) (pc + 3) k) : gSm γ cs ss pc (s_call f n ρ k) := by
  obtain ⟨⟨p, l, e, R, s, m, args, below, meth, c, Q⟩, A, D, cA, ad, lay0, fin, cc', own', E, n0, ra⟩ := γ
  subst hb
  subst ho
  subst hy
  subst he
  intro L st I H locs ls hl hn hP hS hk hcs hss
  unfold s_call at hk
  split at hk
  · rename_i hc
    split at hk
    · rename_i av hav
      obtain ⟨r, J, hf, hkk, hrt⟩ := gGo_inv hk
      obtain ⟨e1, e2⟩ := gArgs (ad := ad) hc.2 hav
      rw [e1]
      have hD2 := G.2.2.2.2.2.1
      have hMet := hM (fun j => ad (gr ρ j)) H.size av (fun j => I (gr ρ j)) J r (hco.D hD2 G.2.2.2.2.2.2.2.2.2.1) (gr_ra G.2.2.2.2.2.2.2.1.2.2) (Nat.le_trans G.2.2.2.2.2.2.2.2.1 hS.1) hf
      have hcw : vx_CSW R s args own' index y cy maxL ret hh (Cond.codeWith y cy maxL ret hh :: gTb) { frames := fr, cells := ce, slots := sl, locals := lo } ce sl n :=
        ⟨⟨rfl, rfl, hR.1, hR.2, pay_in G.2.2.2.1 (gGoodW hw4), List.mem_cons_self⟩, G.2.2.2.1 _ hw4, G.2.2.2.1 _ hw3, ⟨hd0.1, hd0.2.1⟩, fun sig h9 => by
          have h2 := hd0.2.2
          rw [h9] at h2
          exact (Option.some.inj h2).symm, G.2.2.2.1 _ hw1, G.2.2.2.1 _ hw2⟩
      refine gRun_goC (g := F0 m pc ls _) (vx_runSW (Ts := gTb) ⟨G.1, G.2.1, rfl, G.2.2.1, G.2.2.2.1⟩ hMet hcw (As := av.map (gv (fun j => ad (gr ρ j)))) ⟨gPre_blind hE, fun U hU hW => ⟨rfl, by rw [hU], by rw [hU]; exact hco.P hP, va_K.moved hW.alike G.2.2.2.2.1, hE s U hW (fun q hq => by rw [hU]; exact hS.2.1 q (Nat.lt_of_lt_of_le hq G.2.2.2.2.2.2.2.2.1) (fun z => absurd (G.2.2.2.2.2.2.2.2.2.1 q z) (Nat.not_le.mpr hq))) G.2.2.2.2.2.2.2.1.1, gNw_warm hW G.2.2.2.2.2.2.2.1.2.1⟩⟩ rfl (by rw [List.length_map]; exact e2) (hl.1.trans hn) rfl (lv_room (by rw [gcat]; exact hc.1)) hd hRc) hS (fun q _ hq => hco.A hD2 (fun q hq => G.2.2.2.2.2.2.1 q (Nat.le_trans hS.1 hq)) q hq) (fun q hq => hco.A hD2 (fun q hq => G.2.2.2.2.2.2.1 q (Nat.le_trans hS.1 hq)) q hq) (fun H1 locs1 hP1 hk1 hS1 => ?_)
      show W p l e R s m args below meth c H1 locs1 (cs + ce) (ss + sl) Q (F0 m (pc + 3) ls (r.toList ++ (st.drop n).map (gv ad)))
      rw [hrt]
      exact h _ _ _ _ _ _ hl hn (hco.back hD2 hP hk1 hP1) hS1 hkk hRc.1 hRc.2
    · cases hk
  · cases hk
/-! ===== the script (place 1400), and more room than is used ===== -/
def gSc (ε : gE5) (SL : Nat) (SX : Nat → Int32) : Prop := match ε with
  | (_, E, n0, _, _, ra) => ra 400 < n0 ∧ ∀ U : State, E U → va_X (ra 400) SL SX U U.heap
theorem sm_sld {γ : gG} {cs ss pc : Nat} {k : gK} {cc : ByteArray} (G : gOK γ) (hb : gcc γ = cc) {own : String} (_ : gow γ = own) {ε : gE5} (he : genv γ = ε) (_ : gEnv ε) {SL : Nat} {SX : Nat → Int32} (hSc : gSc ε SL SX) (hd : decode cc pc = .ok (.iaload, 1)) (h : gSm γ cs ss (pc + 1) k) : gSm γ cs ss pc (s_sld SL SX k) := by
  obtain ⟨⟨p, l, e, R, s, m, args, below, meth, c, Q⟩, A, D, cA, ad, lay, fin, cc', own', E, n0, ra⟩ := γ
  subst hb; subst he
  intro L st I H locs ls hl hn hP hS hk hcs hss
  unfold s_sld at hk
  split at hk
  · rename_i i q t
    split at hk
    · rename_i hq
      split at hk
      · cases hk
      · rename_i hin
        subst hq
        have e1 := G.2.2.2.2.2.2.2.1.2.2 400
        have hE9 := G.2.2.2.2.2.2.2.1.1
        show W p l e R s m args below meth c H locs cs ss Q (F0 m pc ls (.int i :: .ref (ad 1400) :: t.map (gv ad)))
        rw [show ad 1400 = ra 400 from e1]
        exact va_sld G.1 G.2.1 (hSc.2 s hE9) (Nat.lt_of_lt_of_le hSc.1 G.2.2.2.2.2.2.2.2.1) (fun z => absurd (G.2.2.2.2.2.2.2.2.2.1 _ z) (Nat.not_le.mpr hSc.1)) hS hin hd (h _ _ _ _ _ _ hl hn hP hS hk hcs hss)
    · cases hk
  · cases hk
theorem sm_slen {γ : gG} {cs ss pc : Nat} {k : gK} {cc : ByteArray} (G : gOK γ) (hb : gcc γ = cc) {own : String} (_ : gow γ = own) {ε : gE5} (he : genv γ = ε) (_ : gEnv ε) {SL : Nat} {SX : Nat → Int32} (hSc : gSc ε SL SX) (hd : decode cc pc = .ok (.arraylength, 1)) (h : gSm γ cs ss (pc + 1) k) : gSm γ cs ss pc (s_slen SL k) := by
  obtain ⟨⟨p, l, e, R, s, m, args, below, meth, c, Q⟩, A, D, cA, ad, lay, fin, cc', own', E, n0, ra⟩ := γ
  subst hb; subst he
  intro L st I H locs ls hl hn hP hS hk hcs hss
  unfold s_slen at hk
  split at hk
  · rename_i q t
    split at hk
    · rename_i hq
      subst hq
      have e1 := G.2.2.2.2.2.2.2.1.2.2 400
      have hE9 := G.2.2.2.2.2.2.2.1.1
      show W p l e R s m args below meth c H locs cs ss Q (F0 m pc ls (.ref (ad 1400) :: t.map (gv ad)))
      rw [show ad 1400 = ra 400 from e1]
      exact va_slen G.1 G.2.1 (hSc.2 s hE9) (Nat.lt_of_lt_of_le hSc.1 G.2.2.2.2.2.2.2.2.1) (fun z => absurd (G.2.2.2.2.2.2.2.2.2.1 _ z) (Nat.not_le.mpr hSc.1)) hS hd (h _ _ _ _ _ _ hl hn hP hS hk hcs hss)
    · cases hk
  · cases hk
theorem sm_widen {γ : gG} {cs ss c2 s2 pc : Nat} {k : gK} (h1 : cs ≤ c2) (h2 : ss ≤ s2) (h3 : c2 ≤ (grm γ).cells ∧ s2 ≤ (grm γ).slots) (h : gSm γ c2 s2 pc k) : gSm γ cs ss pc k := by
  obtain ⟨⟨p, l, e, R, s, m, args, below, meth, c, Q⟩, A, D, cA, ad, lay, fin, cc', own', E, n0, ra⟩ := γ
  intro L st I H locs ls hl hn hP hS hk hcs hss
  exact W.widen (k := c2) (n := s2) h1 h2 (h _ _ _ _ _ _ hl hn hP hS hk h3.1 h3.2)
/-- a loop that makes cells in every round -/
theorem sm_lpc {γ : gG} {pc : Nat} {body : gK → gK} {ce sl : Nat} (h : ∀ (cs ss : Nat) (k : gK), cs + ce ≤ (grm γ).cells → ss + sl ≤ (grm γ).slots → gSm γ (cs + ce) (ss + sl) pc k → gSm γ cs ss pc (body k)) : ∀ n cs ss : Nat, cs + n * ce ≤ (grm γ).cells → ss + n * sl ≤ (grm γ).slots → gSm γ cs ss pc (s_lp body n)
  | 0, _, _, _, _ => by
    obtain ⟨⟨p, l, e, R, s, m, args, below, meth, c, Q⟩, A, D, cA, ad, lay, fin, cc', own, E, n0, ra⟩ := γ
    intro L st I H locs ls hl hn hP hS hk hcs hss
    cases hk
  | n + 1, cs, ss, h1, h2 => by
    have e1 : cs + (n + 1) * ce = cs + ce + n * ce := by rw [Nat.succ_mul]; omega
    have e2 : ss + (n + 1) * sl = ss + sl + n * sl := by rw [Nat.succ_mul]; omega
    rw [e1] at h1
    rw [e2] at h2
    exact h cs ss _ (by omega) (by omega) (sm_lpc h n (cs + ce) (ss + sl) h1 h2)
