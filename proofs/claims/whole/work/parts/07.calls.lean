/-! ===== the rows of the four kinds of calls ===== -/
def gGo (ρ : List Nat) (k : gK) (L : List (Option Value)) (t : List Value) (I : gM) : Option (gR × gM) → Option (gR × gM)
  | some (.inl none, J) => k L t (gMg ρ I J)
  | some (.inl (some (.int x)), J) => k L (.int x :: t) (gMg ρ I J)
  | some (.inl (some (.long x)), J) => k L (.long x :: t) (gMg ρ I J)
  | _ => none
/-- a call of n arguments (the receiver, where there is one, among them) -/
def s_call (f : List Value → gM → Option (gR × gM)) (n : Nat) (ρ : List Nat) (k : gK) : gK := fun L st I =>
  if ((st.drop n).map Value.category).sum ≤ 8 ∧ n ≤ st.length then match gBk ρ (st.take n).reverse with
    | some av => gGo ρ k L (st.drop n) I (f av (fun j => I (gr ρ j)))
    | none => none
  else none
def s_callv (f : List Value → gM → Option (gR × gM)) (n : Nat) (ρ : List Nat) (k : gK) : gK := fun L st I =>
  if ((st.drop n).map Value.category).sum ≤ 8 ∧ n ≤ st.length then match gBk ρ (st.take n).reverse with
    | some (.ref 0 :: av) => gGo ρ k L (st.drop n) I (f (.ref 0 :: av) (fun j => I (gr ρ j)))
    | _ => none
  else none
theorem gGood {y0 y : MethodName} {cc0 cc : ByteArray} {maxL0 maxL : Nat} {ret0 ret : Option FieldType} (h : Cond.code y cc maxL ret ∈ gTb) : GoodIn (Cond.code y0 cc0 maxL0 ret0 :: gTb) (Cond.code y cc maxL ret :: gTb) := by
  intro w hw
  have hw2 : w ∈ gTb := by
    rcases List.mem_cons.mp hw with rfl | hw
    · exact h
    · exact hw
  exact ⟨List.mem_cons_of_mem _ hw2, good_of_word (gTb_good hw2)⟩
theorem gGoodT {y : MethodName} {cc : ByteArray} {maxL : Nat} {ret : Option FieldType} (h : Cond.code y cc maxL ret ∈ gTb) : GoodIn gTb (Cond.code y cc maxL ret :: gTb) := by
  intro w hw
  have hw2 : w ∈ gTb := by
    rcases List.mem_cons.mp hw with rfl | hw
    · exact h
    · exact hw
  exact ⟨hw2, good_of_word (gTb_good hw2)⟩
theorem gNw_warm {s U : State} (hW : s.WarmedH U.vm) (h : ∀ w ∈ gNw, va_Nw w s) : ∀ w ∈ gNw, va_Nw w U := by
  intro w hw
  have h1 := h w hw
  have h2 := (List.mem_filter.mp hw).2
  cases w <;> first | exact va_Nw.warmF hW h1 | exact va_Nw.warmM hW h1 | exact va_Nw.warmD hW h1 | exact va_Nw.warmC hW h1 | cases h2
theorem gPre_blind {ε : gE5} {ad : Nat → Nat} {lay : List gL} {I : gM} {sz : Nat} {av : List Value} (hE : gStab ε) : FrameBlind (va_Pc av (gPre ε ad lay I sz)) := by
  obtain ⟨l, E, n0, D, cA, ra⟩ := ε
  intro a U g mk q
  obtain ⟨q0, q1, qP, qK, qE, qN⟩ := q
  exact ⟨q0, q1, qP, va_K.moved (u := U) (U := U.calling g mk a) (Vm.Alike.refl U.vm) qK, hE U _ (State.WarmedH.refl U) (fun _ _ => rfl) qE, fun w hw => va_Nw.same (by have := (List.mem_filter.mp hw).2; cases w <;> first | rfl | cases this) (u := U) rfl (qN w hw)⟩
section GCL
variable {p : Program} {l : Launch} {e : Env} {R : Room} {s : State} {m : MethodId} {args : Array Value} {below : List Frame} {meth : Method} {c : Code} {H : Heap} {locs : List Loc} {Q : State → Prop}
/-- behind a call: its answer and its world -/
theorem gRun_go {cs ss : Nat} {g : JFrame} {rest : List Value} {D : va_G} {cA : Nat → ClassId} {ad' : Nat → Nat} {lay' : List gL} {A0 A1 : Nat → Prop} {r : Option Value} {J : gM} {a : Array Value} {free : Addr → Prop} {H0 : Heap}
    (hr : va_Run p l e R s m args below meth c H locs cs ss 0 0 g rest (gQc D cA ad' lay' A1 r J a) free) (hS : va_S A0 H0 H locs) (hA : ∀ q, q < H.size → A1 q → A0 q) (hf : ∀ q, free q → A0 q)
    (kk : ∀ (H1 : Heap) (locs1 : List Loc), va_P D vwCl (gW cA ad' J 0 lay') H1 → (∀ q : Nat, q < H.size → ¬ A1 q → H1[q]? = H[q]?) → va_S A0 H0 H1 locs1 → W p l e R s m args below meth c H1 locs1 cs ss Q { g with pc := g.pc + 3, stack := r.toList ++ rest }) : W p l e R s m args below meth c H locs cs ss Q g := by
  intro T hT X
  obtain ⟨v, st₀, t, T', L, h0, X', hL, e1, e2, ⟨⟨hv, hp⟩, hF⟩, st⟩ := hr T hT X
  cases hv
  obtain ⟨hz, hk⟩ := hF
  rw [h0] at hz hk
  obtain ⟨t2, a1, b1⟩ := kk T'.heap (locs ++ L) (by rw [e1]; exact hp) (fun q h1 h2 => by rw [e1]; exact hk q h1 h2)
    ⟨Nat.le_trans hS.1 (by rw [e1]; exact hz), fun q h1 h2 => by rw [e1, hk q (Nat.lt_of_lt_of_le h1 hS.1) (fun z => h2 (hA q (Nat.lt_of_lt_of_le h1 hS.1) z))]; exact hS.2.1 q h1 h2, fun q hq => by
      rcases List.mem_append.mp hq with h | h
      · exact hS.2.2 q h
      · exact hf _ (hL q h)⟩ T' rfl X'
  exact ⟨t2, st t2 a1, b1⟩
end GCL
theorem gGo_inv {ρ : List Nat} {k : gK} {L : List (Option Value)} {t : List Value} {I : gM} {o : Option (gR × gM)} {fin : gR × gM} (h : gGo ρ k L t I o = some fin) : ∃ (r : Option Value) (J : gM), o = some (.inl r, J) ∧ k L (r.toList ++ t) (gMg ρ I J) = some fin ∧ ∀ ad : Nat → Nat, r.toList ++ t.map (gv ad) = (r.toList ++ t).map (gv ad) := by
  match o, h with
  | some (.inl none, J), h => exact ⟨none, J, rfl, h, fun _ => rfl⟩
  | some (.inl (some (.int x)), J), h => exact ⟨_, J, rfl, h, fun _ => rfl⟩
  | some (.inl (some (.long x)), J), h => exact ⟨_, J, rfl, h, fun _ => rfl⟩
theorem gArgs {st : List Value} {n : Nat} {ρ : List Nat} {av : List Value} {ad : Nat → Nat} (hn : n ≤ st.length) (h : gBk ρ (st.take n).reverse = some av) : st.map (gv ad) = (av.map (gv (fun j => ad (gr ρ j)))).reverse ++ (st.drop n).map (gv ad) ∧ av.length = n := by
  have e1 := gBk_map (ad := ad) _ _ h
  constructor
  · rw [e1, List.map_reverse, List.reverse_reverse, ← List.map_append, List.take_append_drop]
  · have := congrArg List.length e1
    simp only [List.length_map, List.length_reverse, List.length_take] at this
    omega
theorem sm_callS {γ : gG} {cs ss pc : Nat} {k : gK} {cc : ByteArray} (G : gOK γ) (hb : gcc γ = cc) {own : String} (ho : gow γ = own) {lay : List gL} (hy : gly γ = lay) {ε : gE5} (he : genv γ = ε) (hE : gStab ε) {index : Nat} {y : MethodName} {cy : ByteArray} {maxL : Nat} {ret : Option FieldType} {fr lo : Nat} {lay' : List gL} {f : List Value → gM → Option (gR × gM)} (n : Nat) (ρ : List Nat) (hM : gCtr ε y cy maxL ret fr lo lay' f) (hco : gCo ρ lay lay') (hR : fr + 1 ≤ (grm γ).frames ∧ 8 + (maxL + 11) + lo ≤ (grm γ).locals)
    (hd0 : y.cls ≠ "java/lang/invoke/MethodHandle" ∧ y.cls ≠ "java/lang/invoke/VarHandle" ∧ (parseMethodDescriptor y.desc).map (fun d => d.parameters.length) = some n) (hw1 : Cond.methodLink own index y ∈ gTb) (hw2 : Cond.static y ∈ gTb) (hw3 : Cond.initialized y.cls ∈ gTb) (hw4 : Cond.code y cy maxL ret ∈ gTb) (hd : decode cc pc = .ok (.invokestatic index, 3)) (h : gSm γ cs ss (pc + 3) k) : gSm γ cs ss pc (s_call f n ρ k) := by
  obtain ⟨⟨p, l, e, R, s, m, args, below, meth, c, Q⟩, A, D, cA, ad, lay0, fin, cc', own', E, n0, ra⟩ := γ
  subst hb
  subst ho
  subst hy
  subst he
  intro L st I H locs ls hl hn hP hS hk hcs hss
  unfold s_call at hk
  split at hk
  · rename_i hc
    split at hk
    · rename_i av hav
      obtain ⟨r, J, hf, hkk, hrt⟩ := gGo_inv hk
      obtain ⟨e1, e2⟩ := gArgs (ad := ad) hc.2 hav
      rw [e1]
      have hD2 := G.2.2.2.2.2.1
      have hMet := hM (fun j => ad (gr ρ j)) H.size av (fun j => I (gr ρ j)) J r (hco.D hD2 G.2.2.2.2.2.2.2.2.2.1) (gr_ra G.2.2.2.2.2.2.2.1.2.2) (Nat.le_trans G.2.2.2.2.2.2.2.2.1 hS.1) hf
      have hwT : ∀ w ∈ Cond.code y cy maxL ret :: gTb, w.before args s = true := by
        intro w hw
        rcases List.mem_cons.mp hw with rfl | hw
        · exact G.2.2.2.1 _ hw4
        · exact G.2.2.2.1 _ hw
      refine gRun_go (g := F0 m pc ls _) (va_runS (Ts := gTb) ⟨G.1, G.2.1, rfl, G.2.2.1, G.2.2.2.1⟩ hMet ⟨callB_of n G.2.2.2.1 (gGoodT hw4) rfl rfl rfl (G.2.2.2.1 _ hw3) (G.2.2.2.1 _ hw1) hd0 hR, G.2.2.2.1 _ hw2⟩ (As := av.map (gv (fun j => ad (gr ρ j)))) ⟨gPre_blind hE, fun U hU hW => ⟨rfl, by rw [hU], by rw [hU]; exact hco.P hP, va_K.moved hW.alike G.2.2.2.2.1, hE s U hW (fun q hq => by rw [hU]; exact hS.2.1 q (Nat.lt_of_lt_of_le hq G.2.2.2.2.2.2.2.2.1) (fun z => absurd (G.2.2.2.2.2.2.2.2.2.1 q z) (Nat.not_le.mpr hq))) G.2.2.2.2.2.2.2.1.1, gNw_warm hW G.2.2.2.2.2.2.2.1.2.1⟩⟩ rfl (by rw [List.length_map]; exact e2) (hl.1.trans hn) rfl (lv_room (by rw [gcat]; exact hc.1)) hd ⟨hcs, hss⟩) hS (fun q _ hq => hco.A hD2 (fun q hq => G.2.2.2.2.2.2.1 q (Nat.le_trans hS.1 hq)) q hq) (fun q hq => hco.A hD2 (fun q hq => G.2.2.2.2.2.2.1 q (Nat.le_trans hS.1 hq)) q hq) (fun H1 locs1 hP1 hk1 hS1 => ?_)
      show W p l e R s m args below meth c H1 locs1 cs ss Q (F0 m (pc + 3) ls (r.toList ++ (st.drop n).map (gv ad)))
      rw [hrt]
      exact h _ _ _ _ _ _ hl hn (hco.back hD2 hP hk1 hP1) hS1 hkk hcs hss
    · cases hk
  · cases hk
theorem sm_callSN {γ : gG} {cs ss pc : Nat} {k : gK} {cc : ByteArray} (G : gOK γ) (hb : gcc γ = cc) {own host : String} (ho : gow γ = own) {lay : List gL} (hy : gly γ = lay) {ε : gE5} (he : genv γ = ε) (hE : gStab ε) {index : Nat} {y : MethodName} {cy : ByteArray} {maxL : Nat} {ret : Option FieldType} {fr lo : Nat} {lay' : List gL} {f : List Value → gM → Option (gR × gM)} (n : Nat) (ρ : List Nat) (hM : gCtr ε y cy maxL ret fr lo lay' f) (hco : gCo ρ lay lay') (hR : fr + 1 ≤ (grm γ).frames ∧ 8 + (maxL + 11) + lo ≤ (grm γ).locals)
    (hd0 : y.cls ≠ "java/lang/invoke/MethodHandle" ∧ y.cls ≠ "java/lang/invoke/VarHandle" ∧ (parseMethodDescriptor y.desc).map (fun d => d.parameters.length) = some n) (hw1 : Cond.methodLinkNest own index y host ∈ gNw) (hw2 : Cond.static y ∈ gTb) (hw3 : Cond.initialized y.cls ∈ gTb) (hw4 : Cond.code y cy maxL ret ∈ gTb) (hd : decode cc pc = .ok (.invokestatic index, 3)) (h : gSm γ cs ss (pc + 3) k) : gSm γ cs ss pc (s_call f n ρ k) := by
  obtain ⟨⟨p, l, e, R, s, m, args, below, meth, c, Q⟩, A, D, cA, ad, lay0, fin, cc', own', E, n0, ra⟩ := γ
  subst hb
  subst ho
  subst hy
  subst he
  intro L st I H locs ls hl hn hP hS hk hcs hss
  unfold s_call at hk
  split at hk
  · rename_i hc
    split at hk
    · rename_i av hav
      obtain ⟨r, J, hf, hkk, hrt⟩ := gGo_inv hk
      obtain ⟨e1, e2⟩ := gArgs (ad := ad) hc.2 hav
      rw [e1]
      have hD2 := G.2.2.2.2.2.1
      have hMet := hM (fun j => ad (gr ρ j)) H.size av (fun j => I (gr ρ j)) J r (hco.D hD2 G.2.2.2.2.2.2.2.2.2.1) (gr_ra G.2.2.2.2.2.2.2.1.2.2) (Nat.le_trans G.2.2.2.2.2.2.2.2.1 hS.1) hf
      refine gRun_go (g := F0 m pc ls _) (va_runSN (Ts := gTb) ⟨G.1, G.2.1, rfl, G.2.2.1, G.2.2.2.1⟩ hMet ⟨va_cnB n G.2.2.2.1 (gGoodT hw4) rfl rfl rfl (G.2.2.2.2.2.2.2.1.2.1 _ hw1) (G.2.2.2.1 _ hw3) hd0 hR, G.2.2.2.1 _ hw2, trivial⟩ (As := av.map (gv (fun j => ad (gr ρ j)))) ⟨gPre_blind hE, fun U hU hW => ⟨rfl, by rw [hU], by rw [hU]; exact hco.P hP, va_K.moved hW.alike G.2.2.2.2.1, hE s U hW (fun q hq => by rw [hU]; exact hS.2.1 q (Nat.lt_of_lt_of_le hq G.2.2.2.2.2.2.2.2.1) (fun z => absurd (G.2.2.2.2.2.2.2.2.2.1 q z) (Nat.not_le.mpr hq))) G.2.2.2.2.2.2.2.1.1, gNw_warm hW G.2.2.2.2.2.2.2.1.2.1⟩⟩ rfl (by rw [List.length_map]; exact e2) (hl.1.trans hn) rfl (lv_room (by rw [gcat]; exact hc.1)) hd ⟨hcs, hss⟩) hS (fun q _ hq => hco.A hD2 (fun q hq => G.2.2.2.2.2.2.1 q (Nat.le_trans hS.1 hq)) q hq) (fun q hq => hco.A hD2 (fun q hq => G.2.2.2.2.2.2.1 q (Nat.le_trans hS.1 hq)) q hq) (fun H1 locs1 hP1 hk1 hS1 => ?_)
      show W p l e R s m args below meth c H1 locs1 cs ss Q (F0 m (pc + 3) ls (r.toList ++ (st.drop n).map (gv ad)))
      rw [hrt]
      exact h _ _ _ _ _ _ hl hn (hco.back hD2 hP hk1 hP1) hS1 hkk hcs hss
    · cases hk
  · cases hk
theorem sm_callV {γ : gG} {cs ss pc : Nat} {k : gK} {cc : ByteArray} (G : gOK γ) (hb : gcc γ = cc) {own C : String} (ho : gow γ = own) {lay : List gL} (hy : gly γ = lay) {ε : gE5} (he : genv γ = ε) (hE : gStab ε) {index : Nat} {y : MethodName} {cy : ByteArray} {maxL : Nat} {ret : Option FieldType} {fr lo : Nat} {lay' : List gL} {f : List Value → gM → Option (gR × gM)} (n : Nat) (ρ : List Nat) (hM : gCtr ε y cy maxL ret fr lo lay' f) (hco : gCo ρ lay lay') (hR : fr + 1 ≤ (grm γ).frames ∧ 8 + (maxL + 11) + lo ≤ (grm γ).locals)
    {ci : Nat} {fs0 : List (Option Nat)} {T : u_T} {N : Nat} (hc0 : lay'[0]? = some (.inl (ci, fs0))) (hc1 : vwCl[ci]? = some (C, T, N))
    (hd0 : y.cls = C ∧ y.cls ≠ "java/lang/invoke/MethodHandle" ∧ y.cls ≠ "java/lang/invoke/VarHandle" ∧ (parseMethodDescriptor y.desc).map (fun d => d.parameters.length + 1) = some n) (hw1 : Cond.methodLink own index y ∈ gTb) (hw2 : Cond.instanceMethod y ∈ gTb) (hw5 : Cond.selects C y y ∈ gTb) (hw3 : Cond.initialized C ∈ gTb) (hw4 : Cond.code y cy maxL ret ∈ gTb) (hd : decode cc pc = .ok (.invokevirtual index, 3)) (h : gSm γ cs ss (pc + 3) k) : gSm γ cs ss pc (s_callv f n ρ k) := by
  obtain ⟨⟨p, l, e, R, s, m, args, below, meth, c, Q⟩, A, D, cA, ad, lay0, fin, cc', own', E, n0, ra⟩ := γ
  subst hb
  subst ho
  subst hy
  subst he
  intro L st I H locs ls hl hn hP hS hk hcs hss
  unfold s_callv at hk
  split at hk
  · rename_i hc
    split at hk
    · rename_i av hav
      obtain ⟨r, J, hf, hkk, hrt⟩ := gGo_inv hk
      obtain ⟨e1, e2⟩ := gArgs (ad := ad) hc.2 hav
      rw [e1]
      have hD2 := G.2.2.2.2.2.1
      have hMet := hM (fun j => ad (gr ρ j)) H.size (.ref 0 :: av) (fun j => I (gr ρ j)) J r (hco.D hD2 G.2.2.2.2.2.2.2.2.2.1) (gr_ra G.2.2.2.2.2.2.2.1.2.2) (Nat.le_trans G.2.2.2.2.2.2.2.2.1 hS.1) hf
      have hPc := hco.P hP
      have hdl : (parseMethodDescriptor y.desc).map (fun d => d.parameters.length) = some (n - 1) := by
        have h9 := hd0.2.2.2
        cases hpm : parseMethodDescriptor y.desc with
        | none => rw [hpm] at h9; cases h9
        | some dd =>
          rw [hpm] at h9
          have h8 : dd.parameters.length + 1 = n := Option.some.inj h9
          show some dd.parameters.length = some (n - 1)
          exact congrArg some (by omega)
      have hal : (av.map (gv (fun j => ad (gr ρ j)))).length = n - 1 := by rw [List.length_map]; rw [List.length_cons] at e2; omega
      refine gRun_go (g := F0 m pc ls _) (va_runV (Ts := gTb) ⟨G.1, G.2.1, rfl, G.2.2.1, G.2.2.2.1⟩ hMet ⟨callB_of (n - 1) G.2.2.2.1 (gGoodT hw4) rfl rfl rfl (by rw [hd0.1]; exact G.2.2.2.1 _ hw3) (G.2.2.2.1 _ hw1) ⟨hd0.2.1, hd0.2.2.1, hdl⟩ hR, G.2.2.2.1 _ hw2, G.2.2.2.1 _ hw5⟩ (As := av.map (gv (fun j => ad (gr ρ j)))) (rest := (st.drop n).map (gv ad)) ⟨gPre_blind hE, va_recv G.2.2.2.2.1 hPc hc1 (gW_at hc0), fun U hU hW => ⟨rfl, by rw [hU], by rw [hU]; exact hPc, va_K.moved hW.alike G.2.2.2.2.1, hE s U hW (fun q hq => by rw [hU]; exact hS.2.1 q (Nat.lt_of_lt_of_le hq G.2.2.2.2.2.2.2.2.1) (fun z => absurd (G.2.2.2.2.2.2.2.2.2.1 q z) (Nat.not_le.mpr hq))) G.2.2.2.2.2.2.2.1.1, gNw_warm hW G.2.2.2.2.2.2.2.1.2.1⟩⟩ rfl hal (hl.1.trans hn) (by rw [List.map_cons, List.reverse_cons, List.append_assoc]; rfl) (lv_room (by rw [gcat]; exact hc.1)) hd ⟨hcs, hss⟩) hS (fun q _ hq => hco.A hD2 (fun q hq => G.2.2.2.2.2.2.1 q (Nat.le_trans hS.1 hq)) q hq) (fun q hq => hco.A hD2 (fun q hq => G.2.2.2.2.2.2.1 q (Nat.le_trans hS.1 hq)) q hq) (fun H1 locs1 hP1 hk1 hS1 => ?_)
      show W p l e R s m args below meth c H1 locs1 cs ss Q (F0 m (pc + 3) ls (r.toList ++ (st.drop n).map (gv ad)))
      rw [hrt]
      exact h _ _ _ _ _ _ hl hn (hco.back hD2 hP hk1 hP1) hS1 hkk hcs hss
    · cases hk
  · cases hk
theorem sm_callVN {γ : gG} {cs ss pc : Nat} {k : gK} {cc : ByteArray} (G : gOK γ) (hb : gcc γ = cc) {own C host : String} (ho : gow γ = own) {lay : List gL} (hy : gly γ = lay) {ε : gE5} (he : genv γ = ε) (hE : gStab ε) {index : Nat} {y : MethodName} {cy : ByteArray} {maxL : Nat} {ret : Option FieldType} {fr lo : Nat} {lay' : List gL} {f : List Value → gM → Option (gR × gM)} (n : Nat) (ρ : List Nat) (hM : gCtr ε y cy maxL ret fr lo lay' f) (hco : gCo ρ lay lay') (hR : fr + 1 ≤ (grm γ).frames ∧ 8 + (maxL + 11) + lo ≤ (grm γ).locals)
    {ci : Nat} {fs0 : List (Option Nat)} {T : u_T} {N : Nat} (hc0 : lay'[0]? = some (.inl (ci, fs0))) (hc1 : vwCl[ci]? = some (C, T, N))
    (hd0 : y.cls = C ∧ y.cls ≠ "java/lang/invoke/MethodHandle" ∧ y.cls ≠ "java/lang/invoke/VarHandle" ∧ (parseMethodDescriptor y.desc).map (fun d => d.parameters.length + 1) = some n) (hw1 : Cond.methodLinkNest own index y host ∈ gNw) (hw2 : Cond.instanceMethod y ∈ gTb) (hw5 : Cond.selects C y y ∈ gTb) (hw3 : Cond.initialized C ∈ gTb) (hw4 : Cond.code y cy maxL ret ∈ gTb) (hd : decode cc pc = .ok (.invokevirtual index, 3)) (h : gSm γ cs ss (pc + 3) k) : gSm γ cs ss pc (s_callv f n ρ k) := by
  obtain ⟨⟨p, l, e, R, s, m, args, below, meth, c, Q⟩, A, D, cA, ad, lay0, fin, cc', own', E, n0, ra⟩ := γ
  subst hb
  subst ho
  subst hy
  subst he
  intro L st I H locs ls hl hn hP hS hk hcs hss
  unfold s_callv at hk
  split at hk
  · rename_i hc
    split at hk
    · rename_i av hav
      obtain ⟨r, J, hf, hkk, hrt⟩ := gGo_inv hk
      obtain ⟨e1, e2⟩ := gArgs (ad := ad) hc.2 hav
      rw [e1]
      have hD2 := G.2.2.2.2.2.1
      have hMet := hM (fun j => ad (gr ρ j)) H.size (.ref 0 :: av) (fun j => I (gr ρ j)) J r (hco.D hD2 G.2.2.2.2.2.2.2.2.2.1) (gr_ra G.2.2.2.2.2.2.2.1.2.2) (Nat.le_trans G.2.2.2.2.2.2.2.2.1 hS.1) hf
      have hPc := hco.P hP
      have hdl : (parseMethodDescriptor y.desc).map (fun d => d.parameters.length) = some (n - 1) := by
        have h9 := hd0.2.2.2
        cases hpm : parseMethodDescriptor y.desc with
        | none => rw [hpm] at h9; cases h9
        | some dd =>
          rw [hpm] at h9
          have h8 : dd.parameters.length + 1 = n := Option.some.inj h9
          show some dd.parameters.length = some (n - 1)
          exact congrArg some (by omega)
      have hal : (av.map (gv (fun j => ad (gr ρ j)))).length = n - 1 := by rw [List.length_map]; rw [List.length_cons] at e2; omega
      refine gRun_go (g := F0 m pc ls _) (va_runVN (Ts := gTb) ⟨G.1, G.2.1, rfl, G.2.2.1, G.2.2.2.1⟩ hMet ⟨va_cnB (n - 1) G.2.2.2.1 (gGoodT hw4) rfl rfl rfl (G.2.2.2.2.2.2.2.1.2.1 _ hw1) (by rw [hd0.1]; exact G.2.2.2.1 _ hw3) ⟨hd0.2.1, hd0.2.2.1, hdl⟩ hR, G.2.2.2.1 _ hw2, G.2.2.2.1 _ hw5⟩ (As := av.map (gv (fun j => ad (gr ρ j)))) (rest := (st.drop n).map (gv ad)) ⟨gPre_blind hE, va_recv G.2.2.2.2.1 hPc hc1 (gW_at hc0), fun U hU hW => ⟨rfl, by rw [hU], by rw [hU]; exact hPc, va_K.moved hW.alike G.2.2.2.2.1, hE s U hW (fun q hq => by rw [hU]; exact hS.2.1 q (Nat.lt_of_lt_of_le hq G.2.2.2.2.2.2.2.2.1) (fun z => absurd (G.2.2.2.2.2.2.2.2.2.1 q z) (Nat.not_le.mpr hq))) G.2.2.2.2.2.2.2.1.1, gNw_warm hW G.2.2.2.2.2.2.2.1.2.1⟩⟩ rfl hal (hl.1.trans hn) (by rw [List.map_cons, List.reverse_cons, List.append_assoc]; rfl) (lv_room (by rw [gcat]; exact hc.1)) hd ⟨hcs, hss⟩) hS (fun q _ hq => hco.A hD2 (fun q hq => G.2.2.2.2.2.2.1 q (Nat.le_trans hS.1 hq)) q hq) (fun q hq => hco.A hD2 (fun q hq => G.2.2.2.2.2.2.1 q (Nat.le_trans hS.1 hq)) q hq) (fun H1 locs1 hP1 hk1 hS1 => ?_)
      show W p l e R s m args below meth c H1 locs1 cs ss Q (F0 m (pc + 3) ls (r.toList ++ (st.drop n).map (gv ad)))
      rw [hrt]
      exact h _ _ _ _ _ _ hl hn (hco.back hD2 hP hk1 hP1) hS1 hkk hcs hss
    · cases hk
  · cases hk

/-- a call whose receiver, or whose argument, is one of several places -/
def s_dyn (d : Nat) (tbl : List (Nat × gK)) : gK := fun L st I => match st[d]? with
  | some (.ref q) => match tbl.lookup q with
    | some k => k L st I
    | none => none
  | _ => none
theorem sm_dyn {γ : gG} {cs ss pc d : Nat} {tbl : List (Nat × gK)} (h : ∀ x ∈ tbl, gSm γ cs ss pc x.2) : gSm γ cs ss pc (s_dyn d tbl) := by
  obtain ⟨⟨p, l, e, R, s, m, args, below, meth, c, Q⟩, A, D, cA, ad, lay', fin, cc', own, E, n0, ra⟩ := γ
  intro L st I H locs ls hl hn hP hS hk hcs hss
  unfold s_dyn at hk
  split at hk
  · rename_i q hq
    split at hk
    · rename_i k hk2
      obtain ⟨l1, l2, h1, -⟩ := List.lookup_eq_some_iff.mp hk2
      exact h (q, k) (by rw [h1]; exact List.mem_append_right _ List.mem_cons_self) L st I H locs ls hl hn hP hS hk hcs hss
    · cases hk
  · cases hk
