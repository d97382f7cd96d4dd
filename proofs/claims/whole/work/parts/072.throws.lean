/-! ===== methods that may throw ===== -/
def s_throw (En : String) : gK := fun _ st I => if (st.map Value.category).sum ≤ 8 then some (.inr En, I) else none
/-- the words of a throw of class cls in the class own (text's constructor at ic) stand in the tables -/
def gxOK (own cls : String) (ik ic : Nat) : Prop := (∀ w ∈ vx_atS own ic cls ["java/lang/RuntimeException", "java/lang/Exception"], (w ∈ gTb ∨ w ∈ gNw) ∧ vx_ot w = true) ∧ Bundle.fit cls = true ∧ (Cond.classLink own ik cls ∈ gTb ∧ vx_ot (Cond.classLink own ik cls) = true) ∧ Cond.initialized cls ∈ gTb ∧ vx_ot (Cond.initialized cls) = true
def gxb (L : List Cond) : Bool := L.all (fun w => ((goodWord w && decide (w ∈ lw_tbl)) || (gIsNw w && decide (w ∈ tables_1))) && vx_ot w)
theorem gxb_ok {L : List Cond} (h : gxb L = true) : ∀ w ∈ L, (w ∈ gTb ∨ w ∈ gNw) ∧ vx_ot w = true := by
  intro w hw
  have h1 := List.all_eq_true.mp h w hw
  rw [Bool.and_eq_true, Bool.or_eq_true, Bool.and_eq_true, Bool.and_eq_true] at h1
  refine ⟨?_, h1.2⟩
  rcases h1.1 with h2 | h2
  · exact Or.inl (gTb_of (of_decide_eq_true h2.2) h2.1)
  · exact Or.inr (List.mem_filter.mpr ⟨of_decide_eq_true h2.2, h2.1⟩)
theorem sm_throw {γ : gG} {cs ss pc : Nat} {cc : ByteArray} (G : gOK γ) (hb : gcc γ = cc) {own : String} (ho : gow γ = own) {ε : gE5} (he : genv γ = ε) (hE : gEnv ε) {cls text : String} {ik is ic i : Nat} (hO : gxOK own cls ik ic) (hm : (own, is, text, i) ∈ gSR)
    (hR : 5 < (grm γ).frames ∧ 90 ≤ (grm γ).locals) (hRc : cs + 1 ≤ (grm γ).cells ∧ ss + 6 ≤ (grm γ).slots)
    (d0 : decode cc pc = .ok (.new ik, 3)) (d3 : decode cc (pc + 3) = .ok (.dup, 1)) (d4 : decode cc (pc + 4) = .ok (.ldc is, 2)) (d6 : decode cc (pc + 6) = .ok (.invokespecial ic, 3)) (d9 : decode cc (pc + 9) = .ok (.athrow, 1)) : gSm γ cs ss pc (s_throw cls) := by
  obtain ⟨⟨p, l, e, R, s, m, args, below, meth, c, Q⟩, A, D, cA, ad, lay, fin, cc', own', E, n0, ra⟩ := γ
  subst hb; subst ho; subst he
  intro L st I H locs ls hl hn hP hS hk hcs hss
  unfold s_throw at hk
  split at hk
  · rename_i hc
    have hfin := Option.some.inj hk
    subst hfin
    have hF := hE.2.1 s G.2.2.2.2.2.2.2.1.1
    obtain ⟨Qc, XC, free, hQ, hfree, hlocks, hno, hX⟩ := G.2.2.2.2.2.2.2.2.2.2.2 cls rfl
    rw [hQ]
    have hbf : ∀ w : Cond, w ∈ gTb ∨ w ∈ gNw → vx_ot w = true → w.before args s = true := by
      intro w hw hot
      rcases hw with hw | hw
      · exact G.2.2.2.1 _ hw
      · have h1 := G.2.2.2.2.2.2.2.1.2.1 w hw
        exact va_Nw.use (by have := (List.mem_filter.mp hw).2; cases w <;> first | rfl | cases this) h1
    exact vx_throwS (names := ["java/lang/RuntimeException", "java/lang/Exception"]) G.1 G.2.1 hE.2.2 G.2.2.1 hO.2.1 (by decide) (G.2.2.2.1 _ hO.2.2.1.1) (G.2.2.2.1 _ hO.2.2.2.1) (hF.1 _ hm) (fun w hw => hbf w (hO.1 w hw).1 (hO.1 w hw).2)
      (fun w hw => by
        rcases List.mem_cons.mp hw with rfl | hw
        · exact hO.2.2.1.2
        · rcases List.mem_cons.mp hw with rfl | hw
          · exact hO.2.2.2.2
          · exact (hO.1 w hw).2)
      (vx_Zq.narrow hF.2.2.2.2.2.2.1 (fun q hq => G.2.2.2.2.2.2.2.2.2.1 q hq)) (vx_Zq.narrow hF.2.2.2.2.2.2.2.1 (fun q hq => G.2.2.2.2.2.2.2.2.2.1 q hq)) hS (hl.1.trans hn) d0 d3 d4 d6 d9 (fun x hx => (hno x hx).elim)
      hR.1 (by rw [gcat]; have := hR.2; dsimp only [grm] at this; show _ + (13 * 3 + 43) ≤ _; omega) hRc.1 hRc.2 hlocks (fun t ha hz hp => hX H locs t hP hS ha hz hp) (fun z hz => hfree _ (hS.2.2 z hz)) hRc.1 hRc.2
  · cases hk
theorem sm_throwW {γ : gG} {cs ss pc : Nat} {cc : ByteArray} (G : gOK γ) (hb : gcc γ = cc) {own : String} (ho : gow γ = own) {ε : gE5} (he : genv γ = ε) (hE : gEnv ε) {cls text : String} {ik is ic i : Nat} (hO : gxOK own cls ik ic) (hm : (own, is, text, i) ∈ gSR)
    (hR : 5 < (grm γ).frames ∧ 90 ≤ (grm γ).locals) (hRc : cs + 1 ≤ (grm γ).cells ∧ ss + 6 ≤ (grm γ).slots)
    (d0 : decode cc pc = .ok (.new ik, 3)) (d3 : decode cc (pc + 3) = .ok (.dup, 1)) (d4 : decode cc (pc + 4) = .ok (.ldc_w is, 3)) (d6 : decode cc (pc + 7) = .ok (.invokespecial ic, 3)) (d9 : decode cc (pc + 10) = .ok (.athrow, 1)) : gSm γ cs ss pc (s_throw cls) := by
  obtain ⟨⟨p, l, e, R, s, m, args, below, meth, c, Q⟩, A, D, cA, ad, lay, fin, cc', own', E, n0, ra⟩ := γ
  subst hb; subst ho; subst he
  intro L st I H locs ls hl hn hP hS hk hcs hss
  unfold s_throw at hk
  split at hk
  · rename_i hc
    have hfin := Option.some.inj hk
    subst hfin
    have hF := hE.2.1 s G.2.2.2.2.2.2.2.1.1
    obtain ⟨Qc, XC, free, hQ, hfree, hlocks, hno, hX⟩ := G.2.2.2.2.2.2.2.2.2.2.2 cls rfl
    rw [hQ]
    have hbf : ∀ w : Cond, w ∈ gTb ∨ w ∈ gNw → vx_ot w = true → w.before args s = true := by
      intro w hw hot
      rcases hw with hw | hw
      · exact G.2.2.2.1 _ hw
      · have h1 := G.2.2.2.2.2.2.2.1.2.1 w hw
        exact va_Nw.use (by have := (List.mem_filter.mp hw).2; cases w <;> first | rfl | cases this) h1
    exact vx_throwSW (names := ["java/lang/RuntimeException", "java/lang/Exception"]) G.1 G.2.1 hE.2.2 G.2.2.1 hO.2.1 (by decide) (G.2.2.2.1 _ hO.2.2.1.1) (G.2.2.2.1 _ hO.2.2.2.1) (hF.1 _ hm) (fun w hw => hbf w (hO.1 w hw).1 (hO.1 w hw).2)
      (fun w hw => by
        rcases List.mem_cons.mp hw with rfl | hw
        · exact hO.2.2.1.2
        · rcases List.mem_cons.mp hw with rfl | hw
          · exact hO.2.2.2.2
          · exact (hO.1 w hw).2)
      (vx_Zq.narrow hF.2.2.2.2.2.2.1 (fun q hq => G.2.2.2.2.2.2.2.2.2.1 q hq)) (vx_Zq.narrow hF.2.2.2.2.2.2.2.1 (fun q hq => G.2.2.2.2.2.2.2.2.2.1 q hq)) hS (hl.1.trans hn) d0 d3 d4 d6 d9 (fun x hx => (hno x hx).elim)
      hR.1 (by rw [gcat]; have := hR.2; dsimp only [grm] at this; show _ + (13 * 3 + 43) ≤ _; omega) hRc.1 hRc.2 hlocks (fun t ha hz hp => hX H locs t hP hS ha hz hp) (fun z hz => hfree _ (hS.2.2 z hz)) hRc.1 hRc.2
  · cases hk
/-- the contract of a method that may throw; it may make ce cells of sl slots -/
def gCtrX (ε : gE5) (y : MethodName) (cc : ByteArray) (maxL : Nat) (ret : Option FieldType) (fr lo ce sl : Nat) (lay : List gL) (f : List Value → gM → Option (gR × gM)) : Prop := match ε with
  | (l, E, n0, D, cA, ra) => ∀ (ad : Nat → Nat) (sz : Nat) (av : List Value) (I J : gM) (r : gR), gD (fun a => n0 ≤ a) ad lay.length → (∀ k : Nat, ad (1000 + k) = ra k) → n0 ≤ sz → f av I = some (r, J) →
    vx_Met l y (.code y cc maxL ret :: gTb) { frames := fr, cells := ce, slots := sl, locals := lo } (va_Pc (av.map (gv ad)) (gPre (l, E, n0, D, cA, ra) ad lay I sz))
      (fun _ st oc t => (∃ v : Option Value, r = .inl v ∧ oc = .returned v ∧ va_P D vwCl (gW cA ad J 0 lay) t.heap) ∧ va_F (va_A (gW cA ad I 0 lay) sz) st t)
      (fun En st t => (r = .inr En ∧ va_P D vwCl (gW cA ad J 0 lay) t.heap) ∧ va_F (va_A (gW cA ad I 0 lay) sz) st t) ce sl (va_A (gW cA ad I 0 lay) sz)
theorem gCtrX_of {ε : gE5} {y : MethodName} {cc : ByteArray} {maxL : Nat} {ret : Option FieldType} {fr lo ce sl : Nat} {lay : List gL} {F : gK} (hE : gStab ε) (hy : plainName y.cls = true)
    (body : ∀ γ : gG, gOK γ → gcc γ = cc → gow γ = y.cls → gly γ = lay → grm γ = { frames := fr, cells := ce, slots := sl, locals := lo } → genv γ = ε → grt γ = ret → gSm γ 0 0 0 F) : gCtrX ε y cc maxL ret fr lo ce sl lay (gFn maxL F) := by
  obtain ⟨l, E, n0, D, cA, ra⟩ := ε
  intro ad sz av I J r had hra hsz0 hf
  unfold gFn at hf
  split at hf
  case isFalse => cases hf
  rename_i hlen
  refine vx_ofW (cc := cc) (maxL := maxL) (ret := ret) hy rfl ?_
  intro p e s m args below meth c s₁ B hml hno hv
  obtain ⟨rfl, hsz, hP, hK, hEs, hN⟩ := hv
  subst hsz
  have hts := atoms_spec (ws := .code y cc maxL ret :: gTb) B.pre
  generalize hAe : va_A (gW cA ad I 0 lay) s.heap.size = A
  have hA : ∀ q : Nat, s.heap.size ≤ q → A q := fun q h => by rw [← hAe]; exact Or.inr h
  have hDA : gD A ad lay.length := ⟨had.1, fun k hk => by rw [← hAe]; exact Or.inl ⟨k, _, gW_at (List.getElem?_eq_getElem hk)⟩⟩
  have hAn : ∀ q : Nat, A q → n0 ≤ q := by
    intro q hq
    rw [← hAe] at hq
    rcases hq with ⟨k, ee, hk⟩ | hq
    · obtain ⟨d, hd, he⟩ := gW_inv hk
      have e1 : q = ad k := congrArg Prod.fst he
      rw [e1]
      exact had.2 k (List.getElem?_eq_some_iff.mp hd).1
    · exact Nat.le_trans hsz0 hq
  rw [lg_entry_eq]
  have hl := lv_entry (av.map (gv ad)) (n := maxL) (by rw [gEn_len]; exact hlen)
  generalize (lg_sl (av.map (gv ad)) ++ List.replicate (maxL - (lg_sl (av.map (gv ad))).length) Slot.unset).toArray = ls at hl ⊢
  refine body ((p, l, e, { frames := fr, cells := ce, slots := sl, locals := lo }, s, m, (av.map (gv ad)).toArray, below, meth, c, vx_MQ below (fun _ st oc t => (∃ v : Option Value, r = .inl v ∧ oc = .returned v ∧ va_P D vwCl (gW cA ad J 0 lay) t.heap) ∧ va_F A st t) (fun En st t => (r = .inr En ∧ va_P D vwCl (gW cA ad J 0 lay) t.heap) ∧ va_F A st t) (av.map (gv ad)).toArray s ce sl A), A, D, cA, ad, lay, (r, J), cc, y.cls, E, n0, ra) ⟨B.exec, B.bytes, findClass_of_methodNamed B.named, fun w hw => hts w (List.mem_cons_of_mem _ hw), hK, hDA, hA, ⟨hEs, hN, hra⟩, hsz0, hAn, ?_, ?_⟩ rfl rfl rfl rfl rfl B.returns (gEn av ++ List.replicate (maxL - (gEn av).length) none) [] I s.heap [] ls ?_ ?_ hP va_S.rf hf (Nat.zero_le _) (Nat.zero_le _)
  · intro H locs pc ls v cs ss hP1 hS1 hcs hss hv hr
    dsimp only at hP1 hv hr hcs hss
    refine W.widen (k := ce) (n := sl) hcs hss ?_
    match v, hr with
    | none, hr => exact vx_ret (W.vret B.exec B.bytes hr.2 (fun t ht hW => ⟨⟨none, hv, rfl, by rw [ht]; exact hP1⟩, hS1.F ht⟩) hS1.2.2 hr.1 B.notSynchronized)
    | some (.int x), hr =>
      rcases hr.2 with h2 | ⟨ty, h2, hx⟩
      · exact vx_ret (W.iret B.exec B.bytes h2 (fun t ht hW => ⟨⟨_, hv, rfl, by rw [ht]; exact hP1⟩, hS1.F ht⟩) hS1.2.2 hr.1 B.notSynchronized)
      · exact vx_ret (W.zret B.exec B.bytes h2 hx (fun t ht hW => ⟨⟨_, hv, rfl, by rw [ht]; exact hP1⟩, hS1.F ht⟩) hS1.2.2 hr.1 B.notSynchronized)
    | some (.long x), hr => exact vx_ret (W.lret B.exec B.bytes hr.2 (fun t ht hW => ⟨⟨_, hv, rfl, by rw [ht]; exact hP1⟩, hS1.F ht⟩) hS1.2.2 hr.1 B.notSynchronized)
  · intro En hEn
    refine ⟨_, _, _, rfl, fun _ h => h, B.notSynchronized, hno, ?_⟩
    intro H locs t hP1 hS1 ha hz hpre
    dsimp only at hP1 hEn
    refine ⟨⟨hEn, va_P.kept hP1 (fun k q hk => hpre q.1 (hP1 k q hk).lt)⟩, Nat.le_trans hS1.1 hz, fun q h1 h2 => ?_⟩
    rw [hpre q (Nat.lt_of_lt_of_le h1 hS1.1)]
    exact hS1.2.1 q h1 h2
  · exact gLs.mk hl (by rw [List.length_append, List.length_replicate]; omega) (fun i v hv => by
      have := gEn_at ad av 0 i v (gEnt_at hv)
      rwa [Nat.zero_add] at this)
  · show (gEn av ++ List.replicate (maxL - (gEn av).length) none).length = c.maxLocals
    rw [List.length_append, List.length_replicate, hml]; omega
def gGoX (ρ : List Nat) (k : gK) (L : List (Option Value)) (t : List Value) (I : gM) : Option (gR × gM) → Option (gR × gM)
  | some (.inr En, J) => some (.inr En, gMg ρ I J)
  | o => gGo ρ k L t I o
def s_xcall (f : List Value → gM → Option (gR × gM)) (n : Nat) (ρ : List Nat) (k : gK) : gK := fun L st I =>
  if ((st.drop n).map Value.category).sum ≤ 8 ∧ n ≤ st.length then match gBk ρ (st.take n).reverse with
    | some av => gGoX ρ k L (st.drop n) I (f av (fun j => I (gr ρ j)))
    | none => none
  else none
def s_xcallv (f : List Value → gM → Option (gR × gM)) (n : Nat) (ρ : List Nat) (k : gK) : gK := fun L st I =>
  if ((st.drop n).map Value.category).sum ≤ 8 ∧ n ≤ st.length then match gBk ρ (st.take n).reverse with
    | some (.ref 0 :: av) => gGoX ρ k L (st.drop n) I (f (.ref 0 :: av) (fun j => I (gr ρ j)))
    | _ => none
  else none
theorem gGoX_inv {ρ : List Nat} {k : gK} {L : List (Option Value)} {t : List Value} {I : gM} {o : Option (gR × gM)} {fin : gR × gM} (h : gGoX ρ k L t I o = some fin) : (∃ (r : Option Value) (J : gM), o = some (.inl r, J) ∧ k L (r.toList ++ t) (gMg ρ I J) = some fin ∧ ∀ ad : Nat → Nat, r.toList ++ t.map (gv ad) = (r.toList ++ t).map (gv ad)) ∨ ∃ (En : String) (J : gM), o = some (.inr En, J) ∧ fin = (.inr En, gMg ρ I J) := by
  unfold gGoX at h
  split at h
  · rename_i En J
    exact Or.inr ⟨En, J, rfl, (Option.some.inj h).symm⟩
  · exact Or.inl (gGo_inv h)
section GXR
variable {p : Program} {l : Launch} {e : Env} {R : Room} {s : State} {m : MethodId} {args : Array Value} {below : List Frame} {meth : Method} {c : Code} {H : Heap} {locs : List Loc} {Q : State → Prop}
/-- behind a call that may throw -/
theorem gRunX_go {cs ss ce sl : Nat} {pc : Nat} {ls : Array Slot} {st0 rest : List Value} {D : va_G} {cA : Nat → ClassId} {ad' : Nat → Nat} {lay' : List gL} {A0 A1 : Nat → Prop} {r : gR} {J : gM} {free : Addr → Prop} {H0 : Heap}
    (hr : vx_Run p l e R s m args below meth c H locs cs ss ce sl (F0 m pc ls st0) rest (fun st oc t => (∃ v : Option Value, r = .inl v ∧ oc = .returned v ∧ va_P D vwCl (gW cA ad' J 0 lay') t.heap) ∧ va_F A1 st t) (fun En st t => (r = .inr En ∧ va_P D vwCl (gW cA ad' J 0 lay') t.heap) ∧ va_F A1 st t) free) (hS : va_S A0 H0 H locs) (hA : ∀ q, q < H.size → A1 q → A0 q) (hf : ∀ q, free q → A0 q)
    (kx : ∀ (En : String) (ce9 : Cell) (q9 : Addr) (H1 : Heap) (locs1 : List Loc), r = .inr En → va_P D vwCl (gW cA ad' J 0 lay') H1 → (∀ q : Nat, q < H.size → ¬ A1 q → H1[q]? = H[q]?) → va_S A0 H0 H1 locs1 → H1[q9]? = some ce9 → ce9.vm = .none → s.vm.findClass En = some ce9.cls → vx_W p l e R s m args below meth c H1 locs1 (cs + ce) (ss + sl) Q (F0 m pc ls rest) q9)
    (kk : ∀ (v : Option Value) (H1 : Heap) (locs1 : List Loc), r = .inl v → va_P D vwCl (gW cA ad' J 0 lay') H1 → (∀ q : Nat, q < H.size → ¬ A1 q → H1[q]? = H[q]?) → va_S A0 H0 H1 locs1 → W p l e R s m args below meth c H1 locs1 (cs + ce) (ss + sl) Q (F0 m (pc + 3) ls (v.toList ++ rest))) : W p l e R s m args below meth c H locs cs ss Q (F0 m pc ls st0) := by
  intro T hT X
  rcases hr T hT X with ⟨v, st₀, t, T', L, h0, X', hL, e1, e2, ⟨⟨v2, hv, hv2, hp⟩, hF⟩, st⟩ | ⟨q, st₀, t, T', L, En, ce9, h0, X', hL, e1, e2, ⟨⟨hv, hp⟩, hF⟩, hce, hcv, hcl, st⟩
  · cases hv2
    obtain ⟨k1, k2, k3⟩ := vx_keep h0 e1 hS hA hf hL hF
    obtain ⟨t2, a1, b1⟩ := kk v T'.heap (locs ++ L) hv (by rw [e1]; exact hp) k2 k3 T' rfl X'
    exact ⟨t2, st t2 a1, b1⟩
  · obtain ⟨k1, k2, k3⟩ := vx_keep h0 e1 hS hA hf hL hF
    obtain ⟨t2, a1, b1⟩ := kx En ce9 q T'.heap (locs ++ L) hv (by rw [e1]; exact hp) k2 k3 (by rw [e1]; exact hce) hcv hcl T' rfl X'
    exact ⟨t2, st.trans a1, b1⟩
end GXR
theorem sm_xcallS {γ : gG} {cs ss pc : Nat} {k : gK} {cc : ByteArray} (G : gOK γ) (hb : gcc γ = cc) {own : String} (ho : gow γ = own) {lay : List gL} (hy : gly γ = lay) {ε : gE5} (he : genv γ = ε) (hE : gStab ε) {index : Nat} {y : MethodName} {cy : ByteArray} {maxL : Nat} {ret : Option FieldType} {fr lo ce sl : Nat} {lay' : List gL} {f : List Value → gM → Option (gR × gM)} (n : Nat) (ρ : List Nat) (hM : gCtrX ε y cy maxL ret fr lo ce sl lay' f) (hco : gCo ρ lay lay') (hR : fr + 1 ≤ (grm γ).frames ∧ 8 + (maxL + 11) + lo ≤ (grm γ).locals) (hRc : cs + ce ≤ (grm γ).cells ∧ ss + sl ≤ (grm γ).slots)
    (hd0 : y.cls ≠ "java/lang/invoke/MethodHandle" ∧ y.cls ≠ "java/lang/invoke/VarHandle" ∧ (parseMethodDescriptor y.desc).map (fun d => d.parameters.length) = some n) (hw1 : Cond.methodLink own index y ∈ gTb) (hw2 : Cond.static y ∈ gTb) (hw3 : Cond.initialized y.cls ∈ gTb) (hw4 : Cond.code y cy maxL ret ∈ gTb) (hd : decode cc pc = .ok (.invokestatic index, 3)) (h : gSm γ (cs + ce) (ss + sl) (pc + 3) k) : gSm γ cs ss pc (s_xcall f n ρ k) := by
  obtain ⟨⟨p, l, e, R, s, m, args, below, meth, c, Q⟩, A, D, cA, ad, lay0, fin, cc', own', E, n0, ra⟩ := γ
  subst hb
  subst ho
  subst hy
  subst he
  intro L st I H locs ls hl hn hP hS hk hcs hss
  unfold s_xcall at hk
  split at hk
  · rename_i hc
    split at hk
    · rename_i av hav
      obtain ⟨e1, e2⟩ := gArgs (ad := ad) hc.2 hav
      rw [e1]
      have hD2 := G.2.2.2.2.2.1
      obtain ⟨r, J, hf⟩ : ∃ (r : gR) (J : gM), f av (fun j => I (gr ρ j)) = some (r, J) := by
        rcases gGoX_inv hk with ⟨r, J, hf, -⟩ | ⟨En, J, hf, -⟩
        · exact ⟨_, _, hf⟩
        · exact ⟨_, _, hf⟩
      have hMet := hM (fun j => ad (gr ρ j)) H.size av (fun j => I (gr ρ j)) J r (hco.D hD2 G.2.2.2.2.2.2.2.2.2.1) (gr_ra G.2.2.2.2.2.2.2.1.2.2) (Nat.le_trans G.2.2.2.2.2.2.2.2.1 hS.1) hf
      refine gRunX_go (vx_runS (Ts := gTb) ⟨G.1, G.2.1, rfl, G.2.2.1, G.2.2.2.1⟩ hMet ⟨callB_of n G.2.2.2.1 (gGoodT hw4) rfl rfl rfl (G.2.2.2.1 _ hw3) (G.2.2.2.1 _ hw1) hd0 hR, G.2.2.2.1 _ hw2⟩ (As := av.map (gv (fun j => ad (gr ρ j)))) ⟨gPre_blind hE, fun U hU hW => ⟨rfl, by rw [hU], by rw [hU]; exact hco.P hP, va_K.moved hW.alike G.2.2.2.2.1, hE s U hW (fun q hq => by rw [hU]; exact hS.2.1 q (Nat.lt_of_lt_of_le hq G.2.2.2.2.2.2.2.2.1) (fun z => absurd (G.2.2.2.2.2.2.2.2.2.1 q z) (Nat.not_le.mpr hq))) G.2.2.2.2.2.2.2.1.1, gNw_warm hW G.2.2.2.2.2.2.2.1.2.1⟩⟩ rfl (by rw [List.length_map]; exact e2) (hl.1.trans hn) rfl (lv_room (by rw [gcat]; exact hc.1)) hd hRc) hS (fun q _ hq => hco.A hD2 (fun q hq => G.2.2.2.2.2.2.1 q (Nat.le_trans hS.1 hq)) q hq) (fun q hq => hco.A hD2 (fun q hq => G.2.2.2.2.2.2.1 q (Nat.le_trans hS.1 hq)) q hq) (fun En ce9 q9 H1 locs1 hrE hP1 hk1 hS1 hq9 hv9 hc9 => ?_) (fun v H1 locs1 hrv hP1 hk1 hS1 => ?_)
      · subst hrE
        rcases gGoX_inv hk with ⟨r, J', hf', -⟩ | ⟨En', J', hf', hfin⟩
        · rw [hf] at hf'; cases hf'
        · rw [hf] at hf'
          cases hf'
          subst hfin
          obtain ⟨Qc, XC, free, hQ, hfree, hlocks, hno, hX⟩ := G.2.2.2.2.2.2.2.2.2.2.2 En rfl
          rw [hQ]
          exact vx_out (fun x hx => (hno x hx).elim) hlocks hq9 hv9 hc9 (fun t ht ha => hX H1 locs1 t (hco.back hD2 hP hk1 hP1) hS1 ha (by rw [ht]; exact Nat.le_refl _) (fun q _ => by rw [ht])) (fun z hz => hfree _ (hS1.2.2 z hz)) hRc.1 hRc.2
      · subst hrv
        rcases gGoX_inv hk with ⟨r, J', hf', hkk, hrt⟩ | ⟨En', J', hf', hfin⟩
        · rw [hf] at hf'
          cases hf'
          rw [hrt]
          exact h _ _ _ _ _ _ hl hn (hco.back hD2 hP hk1 hP1) hS1 hkk hRc.1 hRc.2
        · rw [hf] at hf'; cases hf'
    · cases hk
  · cases hk
theorem sm_xcallV {γ : gG} {cs ss pc : Nat} {k : gK} {cc : ByteArray} (G : gOK γ) (hb : gcc γ = cc) {own C : String} (ho : gow γ = own) {lay : List gL} (hy : gly γ = lay) {ε : gE5} (he : genv γ = ε) (hE : gStab ε) {index : Nat} {y : MethodName} {cy : ByteArray} {maxL : Nat} {ret : Option FieldType} {fr lo ce sl : Nat} {lay' : List gL} {f : List Value → gM → Option (gR × gM)} (n : Nat) (ρ : List Nat) (hM : gCtrX ε y cy maxL ret fr lo ce sl lay' f) (hco : gCo ρ lay lay') (hR : fr + 1 ≤ (grm γ).frames ∧ 8 + (maxL + 11) + lo ≤ (grm γ).locals) (hRc : cs + ce ≤ (grm γ).cells ∧ ss + sl ≤ (grm γ).slots)
    {ci : Nat} {fs0 : List (Option Nat)} {T : u_T} {N : Nat} (hc0 : lay'[0]? = some (.inl (ci, fs0))) (hc1 : vwCl[ci]? = some (C, T, N))
    (hd0 : y.cls = C ∧ y.cls ≠ "java/lang/invoke/MethodHandle" ∧ y.cls ≠ "java/lang/invoke/VarHandle" ∧ (parseMethodDescriptor y.desc).map (fun d => d.parameters.length + 1) = some n) (hw1 : Cond.methodLink own index y ∈ gTb) (hw2 : Cond.instanceMethod y ∈ gTb) (hw5 : Cond.selects C y y ∈ gTb) (hw3 : Cond.initialized C ∈ gTb) (hw4 : Cond.code y cy maxL ret ∈ gTb) (hd : decode cc pc = .ok (.invokevirtual index, 3)) (h : gSm γ (cs + ce) (ss + sl) (pc + 3) k) : gSm γ cs ss pc (s_xcallv f n ρ k) := by
  obtain ⟨⟨p, l, e, R, s, m, args, below, meth, c, Q⟩, A, D, cA, ad, lay0, fin, cc', own', E, n0, ra⟩ := γ
  subst hb
  subst ho
  subst hy
  subst he
  intro L st I H locs ls hl hn hP hS hk hcs hss
  unfold s_xcallv at hk
  split at hk
  · rename_i hc
    split at hk
    · rename_i av hav
      obtain ⟨e1, e2⟩ := gArgs (ad := ad) hc.2 hav
      rw [e1]
      have hD2 := G.2.2.2.2.2.1
      obtain ⟨r, J, hf⟩ : ∃ (r : gR) (J : gM), f (.ref 0 :: av) (fun j => I (gr ρ j)) = some (r, J) := by
        rcases gGoX_inv hk with ⟨r, J, hf, -⟩ | ⟨En, J, hf, -⟩
        · exact ⟨_, _, hf⟩
        · exact ⟨_, _, hf⟩
      have hMet := hM (fun j => ad (gr ρ j)) H.size (.ref 0 :: av) (fun j => I (gr ρ j)) J r (hco.D hD2 G.2.2.2.2.2.2.2.2.2.1) (gr_ra G.2.2.2.2.2.2.2.1.2.2) (Nat.le_trans G.2.2.2.2.2.2.2.2.1 hS.1) hf
      have hPc := hco.P hP
      have hdl : (parseMethodDescriptor y.desc).map (fun d => d.parameters.length) = some (n - 1) := by
        have h9 := hd0.2.2.2
        cases hpm : parseMethodDescriptor y.desc with
        | none => rw [hpm] at h9; cases h9
        | some dd =>
          rw [hpm] at h9
          have h8 : dd.parameters.length + 1 = n := Option.some.inj h9
          show some dd.parameters.length = some (n - 1)
          exact congrArg some (by omega)
      have hal : (av.map (gv (fun j => ad (gr ρ j)))).length = n - 1 := by rw [List.length_map]; rw [List.length_cons] at e2; omega
      refine gRunX_go (vx_runV (Ts := gTb) ⟨G.1, G.2.1, rfl, G.2.2.1, G.2.2.2.1⟩ hMet ⟨callB_of (n - 1) G.2.2.2.1 (gGoodT hw4) rfl rfl rfl (by rw [hd0.1]; exact G.2.2.2.1 _ hw3) (G.2.2.2.1 _ hw1) ⟨hd0.2.1, hd0.2.2.1, hdl⟩ hR, G.2.2.2.1 _ hw2, G.2.2.2.1 _ hw5⟩ (As := av.map (gv (fun j => ad (gr ρ j)))) (rest := (st.drop n).map (gv ad)) ⟨gPre_blind hE, va_recv G.2.2.2.2.1 hPc hc1 (gW_at hc0), fun U hU hW => ⟨rfl, by rw [hU], by rw [hU]; exact hPc, va_K.moved hW.alike G.2.2.2.2.1, hE s U hW (fun q hq => by rw [hU]; exact hS.2.1 q (Nat.lt_of_lt_of_le hq G.2.2.2.2.2.2.2.2.1) (fun z => absurd (G.2.2.2.2.2.2.2.2.2.1 q z) (Nat.not_le.mpr hq))) G.2.2.2.2.2.2.2.1.1, gNw_warm hW G.2.2.2.2.2.2.2.1.2.1⟩⟩ rfl hal (hl.1.trans hn) (by rw [List.map_cons, List.reverse_cons, List.append_assoc]; rfl) (lv_room (by rw [gcat]; exact hc.1)) hd hRc) hS (fun q _ hq => hco.A hD2 (fun q hq => G.2.2.2.2.2.2.1 q (Nat.le_trans hS.1 hq)) q hq) (fun q hq => hco.A hD2 (fun q hq => G.2.2.2.2.2.2.1 q (Nat.le_trans hS.1 hq)) q hq) (fun En ce9 q9 H1 locs1 hrE hP1 hk1 hS1 hq9 hv9 hc9 => ?_) (fun v H1 locs1 hrv hP1 hk1 hS1 => ?_)
      · subst hrE
        rcases gGoX_inv hk with ⟨r, J', hf', -⟩ | ⟨En', J', hf', hfin⟩
        · rw [hf] at hf'; cases hf'
        · rw [hf] at hf'
          cases hf'
          subst hfin
          obtain ⟨Qc, XC, free, hQ, hfree, hlocks, hno, hX⟩ := G.2.2.2.2.2.2.2.2.2.2.2 En rfl
          rw [hQ]
          exact vx_out (fun x hx => (hno x hx).elim) hlocks hq9 hv9 hc9 (fun t ht ha => hX H1 locs1 t (hco.back hD2 hP hk1 hP1) hS1 ha (by rw [ht]; exact Nat.le_refl _) (fun q _ => by rw [ht])) (fun z hz => hfree _ (hS1.2.2 z hz)) hRc.1 hRc.2
      · subst hrv
        rcases gGoX_inv hk with ⟨r, J', hf', hkk, hrt⟩ | ⟨En', J', hf', hfin⟩
        · rw [hf] at hf'
          cases hf'
          rw [hrt]
          exact h _ _ _ _ _ _ hl hn (hco.back hD2 hP hk1 hP1) hS1 hkk hRc.1 hRc.2
        · rw [hf] at hf'; cases hf'
    · cases hk
  · cases hk
theorem gx_ISE : gxOK "PressureNet" "java/lang/IllegalStateException" 76 80 := ⟨gxb_ok (by decide +kernel), by decide, ⟨gTb_of (by decide +kernel) rfl, rfl⟩, gTb_of (by decide +kernel) rfl, rfl⟩
theorem gx_IAE : gxOK "PressureNet" "java/lang/IllegalArgumentException" 93 97 := ⟨gxb_ok (by decide +kernel), by decide, ⟨gTb_of (by decide +kernel) rfl, rfl⟩, gTb_of (by decide +kernel) rfl, rfl⟩
theorem gx_IOE : gxOK "PressureNet" "java/lang/IndexOutOfBoundsException" 336 340 := ⟨gxb_ok (by decide +kernel), by decide, ⟨gTb_of (by decide +kernel) rfl, rfl⟩, gTb_of (by decide +kernel) rfl, rfl⟩
