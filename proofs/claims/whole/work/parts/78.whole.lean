/-! ===== FROM THE ENTRY TO THE LOOP ===== -/
def jL_1 (J8 : gM) : gM := gJn (fun _ _ => 0) 0 J8
def jL_2 (J8 J9 : gM) : gM := gJn (jL_1 J8) 204 J9
def jL_3 (J8 J9 : gM) : gM := gAdd (jL_2 J8 J9) 222 (fun _ => 0)
def fL_end (N NL L : Nat) (xs : Nat → Int32) : gK := s_const 0 <| s_istore 4 <| s_mask [true, true, true, true, true, false, false, false] <| s_lp (fL_law_b23 N L xs) NL
/-- what is left: the functions' own answer -/
def gPure (L : Nat) (xs : Nat → Int32) : Prop := ∃ (N : Nat) (J8 J9 J : gM), fX8_init_k81 N [some (.ref 0)] [] jX8_8 = some (.inl none, J8) ∧ fX9_init_k148 N [some (.ref 0)] [] jX9_18 = some (.inl none, J9) ∧ fL_end N 600 L xs [some (.ref 1400), some (.ref 0), some (.ref 204), some (.ref 222), none, none, none, none] [] (jL_3 J8 J9) = some (.inl (some (.int 1)), J)
def gLawEnd (γ : gG) : Prop := match γ with
  | ((p, l, e, R, s, m, args, below, meth, c, Q), A, D, cA, _, _, _, _, _, _, _, ra) =>
    ∀ (H : Heap) (locs : List Loc) (pc : Nat) (ls : Array Slot) (cs ss : Nat), va_S A s.heap H locs → cs ≤ R.cells → ss ≤ R.slots → decode code pc = .ok (.ireturn, 1) → W p l e R s m args below meth c H locs cs ss Q (F0 m pc ls [.int 1])
theorem gPt_law {γ : gG} {a0 cs ss pc : Nat} {tl : List gL} {L : List (Option Value)} {st : List Value} {I J : gM} {T : gK} (G : gPK γ) (hcode : gcc γ = code) (hE : gLawEnd γ)
    (hT : ∀ γ' : gG, gOK γ' → gcc γ' = gcc γ → gow γ' = gow γ → gly γ' = tl → grm γ' = grm γ → genv γ' = genv γ → grt γ' = grt γ → gSm γ' cs ss pc T)
    (hev : T L st I = some (.inl (some (.int 1)), J)) : gPt γ a0 cs ss pc none tl L st I := by
  obtain ⟨⟨p, l, e, R, s, m, args, below, meth, c, Q⟩, A, D, cA, ad0, lay, fin, cc', own, E, n0, ra⟩ := γ
  intro ad h0 hD hra H locs ls hl hn9 hP hS hcs hss
  have hD' : gD A ad tl.length := by
    have e0 : gF0 none + tl.length = tl.length := Nat.zero_add _
    rw [e0] at hD; exact hD
  refine hT ((p, l, e, R, s, m, args, below, meth, c, Q), A, D, cA, ad, tl, (.inl (some (.int 1)), J), cc', own, E, n0, ra) ⟨G.1, G.2.1, G.2.2.1, G.2.2.2.1, G.2.2.2.2.1, hD', G.2.2.2.2.2.1, ⟨G.2.2.2.2.2.2.1.1, G.2.2.2.2.2.2.1.2, hra⟩, G.2.2.2.2.2.2.2.1, G.2.2.2.2.2.2.2.2, ?_, fun En h => by cases h⟩ rfl rfl rfl rfl rfl rfl L st I H locs ls hl hn9 hP hS hev hcs hss
  intro H locs pc ls v cs ss hP1 hS1 hcs hss hv hm
  have hv2 : some (Value.int 1) = v := Sum.inl.inj hv
  subst hv2
  have hcd : cc' = code := hcode
  exact hE H locs pc ls cs ss hS1 hcs hss (by rw [← hcd]; exact hm.1)
set_option maxRecDepth 100000 in
set_option maxHeartbeats 8000000 in
theorem gLaw_pt {γ : gG} {a0 : Nat} {ε : gE5} {L : Nat} {xs : Nat → Int32} (G : gPK γ) (hb : gcc γ = code) (ho : gow γ = RL) (hR : grm γ = room_1) (he : genv γ = ε) (hr : grt γ = some .boolean) (hEL : gEnvL ε) (hSc : gSc ε L xs) (hend : gLawEnd γ) (hp : gPure L xs) : gPt γ a0 0 0 0 none [] [some (.ref 1400), none, none, none, none, none, none, none] [] (fun _ _ => 0) := by
  obtain ⟨N, J8, J9, J, hJ8, hJ9, hJ⟩ := hp
  have hE := hEL.1
  have hin := True.intro
  refine gPt_makeG (pc := 0) (n := 0) (N := 8) (C := RX8) (host := "PressureNet") (T := TX8) (ci := 8) (y := yX8_init) (J := J8) (layC := gyX) (own := RL) G hb ho he hE.1 rfl (by decide) (gClW_of (by decide +kernel) (by decide)) rfl rfl ⟨by decide +kernel, by decide⟩ (kX8_init hE N hJ8) rfl tyX8 tyX8_ok gin_8 (gFs8) gw1_25 gw1_26 gw1_1 ⟨rfl, rfl, by decide, by decide, by decide +kernel⟩ (Or.inl gw1_27) gw1_28 gw1_29 (by rw [hR]; exact ⟨by decide, by decide⟩) (by decide) (by rw [hR]; exact ⟨by decide, by decide⟩) (by decide +kernel : decode cL_law 0 = .ok (.new 8, 3)) (by decide +kernel : decode cL_law 3 = .ok (.dup, 1)) (by decide +kernel : decode cL_law 4 = .ok (.invokespecial 141, 3)) (fun a1 _ => ?_)
  show gPt γ a1 204 29639 7 none gyX [some (.ref 1400), none, none, none, none, none, none, none] [.ref 0] (jL_1 J8)
  refine gPt_astore (pc := 7) (q := 1) G hb (by decide +kernel : decode code 7 = .ok (.astore_n 1, 1)) rfl (by decide) ?_
  show gPt γ a1 204 29639 8 none gyX [some (.ref 1400), some (.ref 0), none, none, none, none, none, none] [] (jL_1 J8)
  refine gPt_make (pc := 8) (n := 204) (N := 32) (C := RX9) (host := "PressureNet") (T := TX9) (ci := 9) (y := yX9_init) (J := J9) (layC := gyM) (own := RL) G hb ho he hE.1 rfl ⟨by decide, by decide⟩ (gClW_of (by decide +kernel) (by decide)) rfl rfl ⟨by decide +kernel, by decide⟩ (kX9_init hE N hJ9) rfl tyX9 tyX9_ok gin_9 (gFs9) gw5_213 gw5_214 gw1_11 ⟨rfl, rfl, by decide, by decide, by decide +kernel⟩ (Or.inl gw5_215) gw5_216 gw5_217 (by rw [hR]; exact ⟨by decide, by decide⟩) (by decide) (by rw [hR]; exact ⟨by decide, by decide⟩) (by decide +kernel : decode cL_law 8 = .ok (.new 142, 3)) (by decide +kernel : decode cL_law 11 = .ok (.dup, 1)) (by decide +kernel : decode cL_law 12 = .ok (.invokespecial 144, 3)) ?_
  show gPt γ a1 222 59203 15 none (gyX ++ gyM.map (gSh 204)) [some (.ref 1400), some (.ref 0), none, none, none, none, none, none] [.ref 204] (jL_2 J8 J9)
  refine gPt_astore (pc := 15) (q := 2) G hb (by decide +kernel : decode code 15 = .ok (.astore_n 2, 1)) rfl (by decide) ?_
  show gPt γ a1 222 59203 16 none (gyX ++ gyM.map (gSh 204)) [some (.ref 1400), some (.ref 0), some (.ref 204), none, none, none, none, none] [] (jL_2 J8 J9)
  refine gPt_iconst (pc := 16) (v := 1) G hb (by decide +kernel : decode code 16 = .ok (.iconst 1, 1)) (by decide) ?_
  refine gPt_newa (pc := 17) (n := 222) (N := 1) (t := 2) (aty := .long) G hb rfl ⟨by decide, by decide⟩ (gClW_of (by decide +kernel) (by decide)) rfl rfl ⟨by decide, by decide +kernel, by decide +kernel⟩ (fun _ => rfl) (fun ⟨_, h⟩ => by cases h) (fun cA => by
    have e0 : gLg 0 0 = 0 := by decide
    show arrV cA 1 (fun _ => Value.long (gLg 0 0)) = arrV cA 1 (fun _ => Value.long 0)
    rw [e0]) gw8_92 (by rw [hR]; exact ⟨by decide, by decide⟩) (by decide +kernel : decode code 17 = .ok (.newarray .long, 2)) ?_
  show gPt γ a1 223 59204 19 none gyL [some (.ref 1400), some (.ref 0), some (.ref 204), none, none, none, none, none] [.ref 222] (jL_3 J8 J9)
  refine gPt_astore (pc := 19) (q := 3) G hb (by decide +kernel : decode code 19 = .ok (.astore_n 3, 1)) rfl (by decide) ?_
  show gPt γ a1 223 59204 20 none gyL [some (.ref 1400), some (.ref 0), some (.ref 204), some (.ref 222), none, none, none, none] [] (jL_3 J8 J9)
  refine gPt_law (T := fL_end N 600 L xs) G hb hend (fun γ' G' hb' ho' hy' hR' he' hr' => ?_) hJ
  have hbb := hb'.trans hb
  have hRR := hR'.trans hR
  unfold fL_end
  refine sm_iconst (pc := 20) G' hbb (by decide +kernel : decode code 20 = .ok (.iconst 0, 1)) (by decide) ?_
  refine sm_istore (pc := 21) G' hbb (by decide +kernel : decode code 21 = .ok (.istore 4, 2)) ?_
  refine sm_mask ?_
  refine sm_lpc (ce := 6) (sl := 36) (fun cs ss k h1 h2 h => ?_) 600 _ _ (by rw [hRR]; decide) (by rw [hRR]; decide)
  rw [hRR] at h1 h2
  exact fL_law_s23 N L xs G' hbb (ho'.trans ho) hy' hRR (he'.trans he) (hr'.trans hr) hE hEL hSc (c2 := cs + 6) (s2 := ss + 36) ⟨Nat.le_refl _, Nat.le_refl _, h1, h2⟩ k h
/-- the claim out of the functions' answer -/
theorem gWhole {p : Program} {e : Env} {s : State} {m : MethodId} {below : List Frame} {meth : Method} {c : Code} (l : Launch) (hflags : l.flags = flags0) {b L : Nat} {xs : Nat → Int32} (hp : gPure L xs) (C0 : lw_At p s m meth c b L xs) : W p l e room_1 s m #[Value.ref b] below meth c s.heap [] 0 0 (lw_Z below #[Value.ref b] s) (entryFrame m ([Value.ref b] : List Value).toArray 8) := by
  obtain ⟨hx, hb, hr, hml, hown, hts, hX, hbl, hlocks, hgv⟩ := C0
  have htt : ∀ w ∈ tables_1, w.before #[Value.ref b] s = true := fun w hw => hts w (List.mem_append_right _ hw)
  have htb : ∀ w ∈ gTb, w.before #[Value.ref b] s = true := fun w hw => hts w (gTb_tbl hw)
  have hfl : ∀ w ∈ gFl, w.before #[Value.ref b] s = true := fun w hw => flat_of_before _ hgv w hw
  obtain ⟨ra, hra4, hF⟩ := gFct_start htt hfl b
  obtain ⟨D, cA, hK⟩ := gKn_start htb htt
  have hst : l.stackTraces = false := by unfold Launch.stackTraces; rw [hflags]; decide +kernel
  obtain ⟨hEL, hSc⟩ := gEL_env (l := l) hst (n0 := s.heap.size) (L := L) (ra := ra) (xs := xs) (D := D) (cA := cA) (by rw [hra4]; exact hbl)
  have hEs : gEL s.heap.size ra L xs s := ⟨hF, fun q hq => va_Nc.of (hfl _ (of_decide_eq_true (List.all_eq_true.mp gNc_fl q hq))), by rw [hra4]; exact hX⟩
  have hNw : ∀ w ∈ gNw, va_Nw w s := fun w hw => va_Nw.of (by have := (List.mem_filter.mp hw).2; cases w <;> first | rfl | cases this) (htt w (List.mem_filter.mp hw).1)
  rw [lg_entry_eq]
  have hl := lv_entry ([.ref b]) (n := 8) (Nat.le_of_ble_eq_true rfl)
  generalize (lg_sl ([.ref b]) ++ List.replicate (8 - (lg_sl ([.ref b])).length) Slot.unset).toArray = ls at hl ⊢
  have hpt := gLaw_pt (γ := ((p, l, e, room_1, s, m, #[Value.ref b], below, meth, c, lw_Z below #[Value.ref b] s), (fun q => s.heap.size ≤ q), D, cA, (fun _ => 0), [], gFake, code, RL, gEL s.heap.size ra L xs, s.heap.size, ra)) (a0 := 0) (L := L) (xs := xs) ⟨hx, hb, hown, htb, hK, fun _ h => h, ⟨hEs, hNw⟩, Nat.le_refl _, fun _ h => h⟩ rfl rfl rfl rfl hr hEL hSc
    (fun H locs pc ls cs ss hS hcs hss hd => by
      refine W.widen (k := 601024) (n := 7293033) hcs hss ?_
      refine va_forget (fun q hq => hS.2.2 q hq) ?_
      exact lw_ret hx hb hr hlocks hd) hp
  refine hpt (fun k => if k < 1000 then 0 else ra (k - 1000)) rfl ⟨fun i j hi _ _ => absurd hi (Nat.not_lt_zero _), fun k hk => absurd hk (Nat.not_lt_zero _)⟩ (fun k => ?_) s.heap [] ls ?_ hml.symm (fun k q hq => by cases hq) va_S.rf (Nat.zero_le _) (Nat.zero_le _)
  · show (if 1000 + k < 1000 then 0 else ra (1000 + k - 1000)) = ra k
    rw [if_neg (by omega), Nat.add_sub_cancel_left]
  · refine gLs.mk hl rfl (fun i v hv => ?_)
    match i, hv with
    | 0, hv =>
      cases hv
      show (0, Value.ref (if 1400 < 1000 then 0 else ra (1400 - 1000))) ∈ _
      rw [if_neg (by decide), show 1400 - 1000 = 400 from rfl, hra4]
      exact List.mem_cons_self
    | 1, hv => cases hv
    | 2, hv => cases hv
    | 3, hv => cases hv
    | 4, hv => cases hv
    | 5, hv => cases hv
    | 6, hv => cases hv
    | 7, hv => cases hv
    | i + 8, hv => cases hv

