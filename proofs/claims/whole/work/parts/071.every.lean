/-! ===== places of everyone: String constants (1000 + i), their rows of bytes (1100 + i), the class's own static row (1200) ===== -/
def gSW : List (List Int32) := [[110, 101, 116], [108, 105, 110, 107], [99, 111, 110, 102, 108, 105, 99, 116], [102, 108, 111, 119], [98, 117, 100, 103, 101, 116], [109, 111, 100, 101], [112, 108, 97, 105, 110], [115, 104, 97, 100, 111, 119], [101, 120, 99, 101, 115, 115], [98, 105, 97, 115], [115, 99, 104, 101, 100, 117, 108, 101, 114], [103, 114, 101, 101, 100, 121], [101, 120, 97, 99, 116]]
/-- the bytes of the i-th constant: the class's thirteen words, then the reference's -/
def gSb (i : Nat) : List Int32 := gSW.getD (i % 13) []
def gGS : List Int32 := [1, 50, 20, 1]
/-- the constants: class, entry, text, place -/
def gSR : List (String × Nat × String × Nat) := [("PressureNet$SetupText", 70, "net", 0), ("PressureNet$SetupText", 83, "link", 1), ("PressureNet$SetupText", 88, "conflict", 2), ("PressureNet$SetupText", 93, "flow", 3), ("PressureNet$SetupText", 150, "budget", 4), ("PressureNet$SetupText", 98, "mode", 5), ("PressureNet$SetupText", 100, "plain", 6), ("PressureNet$SetupText", 102, "shadow", 7), ("PressureNet$SetupText", 108, "excess", 8), ("PressureNet$SetupText", 114, "bias", 9), ("PressureNet$SetupText", 116, "scheduler", 10), ("PressureNet$SetupText", 118, "greedy", 11), ("PressureNet$SetupText", 120, "exact", 12),
  ("PressureNetModel", 218, "net", 13), ("PressureNetModel", 179, "link", 14), ("PressureNetModel", 184, "conflict", 15), ("PressureNetModel", 189, "flow", 16), ("PressureNetModel", 173, "budget", 17), ("PressureNetModel", 194, "mode", 18), ("PressureNetModel", 200, "plain", 19), ("PressureNetModel", 202, "shadow", 20), ("PressureNetModel", 208, "excess", 21), ("PressureNetModel", 210, "bias", 22), ("PressureNetModel", 212, "scheduler", 23), ("PressureNetModel", 214, "greedy", 24), ("PressureNetModel", 216, "exact", 25),
  ("PressureNet", 78, "the input buffer would be too long", 300), ("PressureNet", 334, "a value is out of its range", 301), ("PressureNet", 95, "the setup text is not valid", 302), ("PressureNet", 338, "there is no such node", 303), ("PressureNet", 341, "both are the same node", 304), ("PressureNet", 121, "there is such a link, or there are too many links", 305), ("PressureNet", 343, "there is no such link", 306), ("PressureNet", 134, "a link is in no conflict with itself", 307), ("PressureNet", 147, "there are too many flows", 308), ("PressureNet", 345, "there is no such flow", 309), ("PressureNet", 199, "the slot would be too great", 310), ("PressureNet", 208, "there is no change to undo", 311), ("PressureNet", 216, "there is no saved copy", 312), ("PressureNet", 276, "there is no such packet", 313), ("PressureNet", 301, "all queues are empty", 314), ("PressureNet", 306, "there is no packet with a budget", 315), ("PressureNet", 316, "no packet was delivered", 316), ("PressureNet", 325, "there are not so many packets within so many slots", 317)]
def gBel (n0 : Nat) : Nat → Prop := fun q => n0 ≤ q
/-- what holds of the state at any time -/
def gFct (n0 : Nat) (ra : Nat → Nat) (U : State) : Prop :=
  (∀ q ∈ gSR, vk_R q.1 q.2.1 q.2.2.1 (ra q.2.2.2) U) ∧
  (∀ i : Nat, i < 26 → va_O "java/lang/String" (ra i) (gBel n0) U U.heap ∧ va_OF "java/lang/String" "coder" "B" (.int 0) (ra i) (gBel n0) U U.heap ∧ va_OF "java/lang/String" "value" "[B" (.ref (ra (100 + i))) (ra i) (gBel n0) U U.heap ∧ va_T .byte (ra (100 + i)) (gSb i).length (fun j => .int ((gSb i).getD j 0)) (gBel n0) U U.heap) ∧
  va_Z "java/lang/String" "COMPACT_STRINGS" "Z" (.int 1) (gBel n0) U U.heap ∧
  va_Zq "jdk/internal/util/Preconditions" "SIOOBE_FORMATTER" "Ljava/util/function/BiFunction;" (gBel n0) U U.heap ∧
  va_Z "PressureNet" "GREATEST_SETTING" "[I" (.ref (ra 200)) (gBel n0) U U.heap ∧ va_T .int (ra 200) 4 (fun j => .int (gGS.getD j 0)) (gBel n0) U U.heap ∧
  vx_Zq Bundle.tN "UNASSIGNED_STACK" Bundle.steD (gBel n0) U U.heap ∧ vx_Zq Bundle.tN "SUPPRESSED_SENTINEL" Bundle.listD (gBel n0) U U.heap ∧
  va_AO "PressureNet$State" U
def gHas (ε : gE5) (P : Nat → (Nat → Nat) → State → Prop) : Prop := match ε with
  | (_, E, n0, _, _, ra) => ∀ U : State, E U → P n0 ra U
/-- what every contract takes as given -/
def gEnv (ε : gE5) : Prop := gStab ε ∧ gHas ε gFct ∧ ε.1.stackTraces = false
abbrev gRng (lo hi q : Nat) : Prop := lo ≤ q ∧ q < hi
def s_pref (q : Nat) (k : gK) : gK := fun L st I => k L (.ref q :: st) I
def s_sval (k : gK) : gK := fun L st I => match st with
  | .ref q :: t => if gRng 1000 1026 q then k L (.ref (q + 100) :: t) I else none
  | _ => none
def s_scod (k : gK) : gK := fun L st I => match st with
  | .ref q :: t => if gRng 1000 1026 q then k L (.int 0 :: t) I else none
  | _ => none
def s_elen (k : gK) : gK := fun L st I => match st with
  | .ref q :: t => if gRng 1100 1126 q then k L (.int (Int32.ofNat (gSb (q - 1100)).length) :: t) I else none
  | _ => none
def s_eald (k : gK) : gK := fun L st I => match st with
  | .int i :: .ref q :: t => if gRng 1100 1126 q ∧ ¬ (i < 0 ∨ (gSb (q - 1100)).length ≤ i.toNatClampNeg) then k L (.int ((gSb (q - 1100)).getD i.toNatClampNeg 0) :: t) I else none
  | _ => none
def s_tld (k : gK) : gK := fun L st I => match st with
  | .int i :: .ref q :: t => if gRng 1200 1201 q ∧ ¬ (i < 0 ∨ 4 ≤ i.toNatClampNeg) then k L (.int (gGS.getD i.toNatClampNeg 0) :: t) I else none
  | _ => none
def s_i2c (k : gK) : gK := fun L st I => match st with
  | .int x :: t => k L (.int (x.toUInt32 % 65536).toInt32 :: t) I
  | _ => none
theorem gq1 (q : Nat) (h : 1100 ≤ q) : q - 1000 = 100 + (q - 1100) := by omega
theorem gq2 (q : Nat) (h : 1200 ≤ q) (h2 : q < 1201) : q - 1000 = 200 := by omega
theorem gad {ad ra : Nat → Nat} (h : ∀ k : Nat, ad (1000 + k) = ra k) {q : Nat} (hq : 1000 ≤ q) : ad q = ra (q - 1000) := by
  have := h (q - 1000)
  rwa [show 1000 + (q - 1000) = q by omega] at this
theorem sm_ldcs {γ : gG} {cs ss pc : Nat} {k : gK} {cc : ByteArray} (G : gOK γ) (hb : gcc γ = cc) {own : String} (ho : gow γ = own) {ε : gE5} (he : genv γ = ε) (hE : gEnv ε) {index i : Nat} {tx : String} (hm : (own, index, tx, i) ∈ gSR) (hd : decode cc pc = .ok (.ldc index, 2)) (h : gSm γ cs ss (pc + 2) k) : gSm γ cs ss pc (s_pref (1000 + i) k) := by
  obtain ⟨⟨p, l, e, R, s, m, args, below, meth, c, Q⟩, A, D, cA, ad, lay, fin, cc', own, E, n0, ra⟩ := γ
  subst hb; subst ho; subst he
  intro L st I H locs ls hl hn hP hS hk hcs hss
  have hF := hE.2.1 s G.2.2.2.2.2.2.2.1.1
  refine va_ldcS G.1 G.2.1 G.2.2.1 (hF.1 _ hm) hd ?_
  rw [← G.2.2.2.2.2.2.2.1.2.2 i]
  exact h _ _ _ _ _ _ hl hn hP hS hk hcs hss
theorem sm_getsGS {γ : gG} {cs ss pc : Nat} {k : gK} {cc : ByteArray} (G : gOK γ) (hb : gcc γ = cc) {own : String} (ho : gow γ = own) {ε : gE5} (he : genv γ = ε) (hE : gEnv ε) {index : Nat} (hw : Cond.fieldLink own index "PressureNet" "GREATEST_SETTING" "[I" ∈ gTb) (hd : decode cc pc = .ok (.getstatic index, 3)) (h : gSm γ cs ss (pc + 3) k) : gSm γ cs ss pc (s_pref 1200 k) := by
  obtain ⟨⟨p, l, e, R, s, m, args, below, meth, c, Q⟩, A, D, cA, ad, lay, fin, cc', own, E, n0, ra⟩ := γ
  subst hb; subst ho; subst he
  intro L st I H locs ls hl hn hP hS hk hcs hss
  have hF := hE.2.1 s G.2.2.2.2.2.2.2.1.1
  refine va_gets G.1 G.2.1 (va_Z.narrow hF.2.2.2.2.1 (fun q hq => G.2.2.2.2.2.2.2.2.2.1 q hq)) hS G.2.2.1 (G.2.2.2.1 _ hw) (fun _ z => z) hd ?_
  rw [← G.2.2.2.2.2.2.2.1.2.2 200]
  exact h _ _ _ _ _ _ hl hn hP hS hk hcs hss
theorem sm_getsGSN {γ : gG} {cs ss pc : Nat} {k : gK} {cc : ByteArray} (G : gOK γ) (hb : gcc γ = cc) {own host : String} (ho : gow γ = own) {ε : gE5} (he : genv γ = ε) (hE : gEnv ε) {index : Nat} (hw : Cond.fieldLinkNest own index "PressureNet" "GREATEST_SETTING" "[I" host ∈ gNw) (hd : decode cc pc = .ok (.getstatic index, 3)) (h : gSm γ cs ss (pc + 3) k) : gSm γ cs ss pc (s_pref 1200 k) := by
  obtain ⟨⟨p, l, e, R, s, m, args, below, meth, c, Q⟩, A, D, cA, ad, lay, fin, cc', own, E, n0, ra⟩ := γ
  subst hb; subst ho; subst he
  intro L st I H locs ls hl hn hP hS hk hcs hss
  have hF := hE.2.1 s G.2.2.2.2.2.2.2.1.1
  refine va_getsN G.1 G.2.1 (va_Z.narrow hF.2.2.2.2.1 (fun q hq => G.2.2.2.2.2.2.2.2.2.1 q hq)) hS G.2.2.1 (va_Nw.use rfl (G.2.2.2.2.2.2.2.1.2.1 _ hw)) (fun _ z => z) hd ?_
  rw [← G.2.2.2.2.2.2.2.1.2.2 200]
  exact h _ _ _ _ _ _ hl hn hP hS hk hcs hss
theorem sm_getsCS {γ : gG} {cs ss pc : Nat} {k : gK} {cc : ByteArray} (G : gOK γ) (hb : gcc γ = cc) {own : String} (ho : gow γ = own) {ε : gE5} (he : genv γ = ε) (hE : gEnv ε) {index : Nat} (hw : Cond.fieldLink own index "java/lang/String" "COMPACT_STRINGS" "Z" ∈ gTb) (hd : decode cc pc = .ok (.getstatic index, 3)) (h : gSm γ cs ss (pc + 3) k) : gSm γ cs ss pc (s_const 1 k) := by
  obtain ⟨⟨p, l, e, R, s, m, args, below, meth, c, Q⟩, A, D, cA, ad, lay, fin, cc', own, E, n0, ra⟩ := γ
  subst hb; subst ho; subst he
  intro L st I H locs ls hl hn hP hS hk hcs hss
  have hF := hE.2.1 s G.2.2.2.2.2.2.2.1.1
  exact va_gets G.1 G.2.1 (va_Z.narrow hF.2.2.1 (fun q hq => G.2.2.2.2.2.2.2.2.2.1 q hq)) hS G.2.2.1 (G.2.2.2.1 _ hw) (fun _ z => z) hd (h _ _ _ _ _ _ hl hn hP hS hk hcs hss)
theorem sm_sval {γ : gG} {cs ss pc : Nat} {k : gK} {cc : ByteArray} (G : gOK γ) (hb : gcc γ = cc) {own : String} (ho : gow γ = own) {ε : gE5} (he : genv γ = ε) (hE : gEnv ε) {index : Nat} (hw : Cond.fieldLink own index "java/lang/String" "value" "[B" ∈ gTb) (hd : decode cc pc = .ok (.getfield index, 3)) (h : gSm γ cs ss (pc + 3) k) : gSm γ cs ss pc (s_sval k) := by
  obtain ⟨⟨p, l, e, R, s, m, args, below, meth, c, Q⟩, A, D, cA, ad, lay, fin, cc', own, E, n0, ra⟩ := γ
  subst hb; subst ho; subst he
  intro L st I H locs ls hl hn hP hS hk hcs hss
  have hF := hE.2.1 s G.2.2.2.2.2.2.2.1.1
  unfold s_sval at hk
  split at hk
  · rename_i q t
    split at hk
    · rename_i hq
      obtain ⟨hq0, hq1⟩ := id hq
      have h1 := (hF.2.1 (q - 1000) (by omega)).2.2.1
      have e1 := gad G.2.2.2.2.2.2.2.1.2.2 hq.1
      have e2 := gad G.2.2.2.2.2.2.2.1.2.2 (q := q + 100) (by omega)
      have h2 := h _ _ _ _ _ _ hl hn hP hS hk hcs hss
      show W p l e R s m args below meth c H locs cs ss Q (F0 m pc ls (.ref (ad q) :: t.map (gv ad)))
      rw [e1]
      refine vk_getf (va_OF.narrow h1 (fun q hq => G.2.2.2.2.2.2.2.2.2.1 q hq)) hS G.2.2.1 (G.2.2.2.1 _ hw) (fun _ z => z) hd ?_ (hexec := G.1) (hb := G.2.1)
      have e3 : ra (100 + (q - 1000)) = ad (q + 100) := by rw [e2]; exact congrArg ra (by omega)
      rw [e3]
      exact h2
    · cases hk
  · cases hk
theorem sm_scod {γ : gG} {cs ss pc : Nat} {k : gK} {cc : ByteArray} (G : gOK γ) (hb : gcc γ = cc) {own : String} (ho : gow γ = own) {ε : gE5} (he : genv γ = ε) (hE : gEnv ε) {index : Nat} (hw : Cond.fieldLink own index "java/lang/String" "coder" "B" ∈ gTb) (hd : decode cc pc = .ok (.getfield index, 3)) (h : gSm γ cs ss (pc + 3) k) : gSm γ cs ss pc (s_scod k) := by
  obtain ⟨⟨p, l, e, R, s, m, args, below, meth, c, Q⟩, A, D, cA, ad, lay, fin, cc', own, E, n0, ra⟩ := γ
  subst hb; subst ho; subst he
  intro L st I H locs ls hl hn hP hS hk hcs hss
  have hF := hE.2.1 s G.2.2.2.2.2.2.2.1.1
  unfold s_scod at hk
  split at hk
  · rename_i q t
    split at hk
    · rename_i hq
      obtain ⟨hq0, hq1⟩ := id hq
      have h1 := (hF.2.1 (q - 1000) (by omega)).2.1
      have e1 := gad G.2.2.2.2.2.2.2.1.2.2 hq.1
      have h2 := h _ _ _ _ _ _ hl hn hP hS hk hcs hss
      show W p l e R s m args below meth c H locs cs ss Q (F0 m pc ls (.ref (ad q) :: t.map (gv ad)))
      rw [e1]
      exact vk_getf (va_OF.narrow h1 (fun q hq => G.2.2.2.2.2.2.2.2.2.1 q hq)) hS G.2.2.1 (G.2.2.2.1 _ hw) (fun _ z => z) hd h2 (hexec := G.1) (hb := G.2.1)
    · cases hk
  · cases hk
theorem sm_elen {γ : gG} {cs ss pc : Nat} {k : gK} {cc : ByteArray} (G : gOK γ) (hb : gcc γ = cc) {ε : gE5} (he : genv γ = ε) (hE : gEnv ε) (hd : decode cc pc = .ok (.arraylength, 1)) (h : gSm γ cs ss (pc + 1) k) : gSm γ cs ss pc (s_elen k) := by
  obtain ⟨⟨p, l, e, R, s, m, args, below, meth, c, Q⟩, A, D, cA, ad, lay, fin, cc', own, E, n0, ra⟩ := γ
  subst hb; subst he
  intro L st I H locs ls hl hn hP hS hk hcs hss
  have hF := hE.2.1 s G.2.2.2.2.2.2.2.1.1
  unfold s_elen at hk
  split at hk
  · rename_i q t
    split at hk
    · rename_i hq
      obtain ⟨hq0, hq1⟩ := id hq
      have h1 := (hF.2.1 (q - 1100) (by omega)).2.2.2
      have e1 := gad G.2.2.2.2.2.2.2.1.2.2 (q := q) (by omega)
      have h2 := h _ _ _ _ _ _ hl hn hP hS hk hcs hss
      show W p l e R s m args below meth c H locs cs ss Q (F0 m pc ls (.ref (ad q) :: t.map (gv ad)))
      rw [e1, gq1 q hq0]
      exact va_tlen G.1 G.2.1 (va_T.narrow h1 (fun q hq => G.2.2.2.2.2.2.2.2.2.1 q hq)) hS rfl hd h2
    · cases hk
  · cases hk
theorem sm_eald {γ : gG} {cs ss pc : Nat} {k : gK} {cc : ByteArray} (G : gOK γ) (hb : gcc γ = cc) {ε : gE5} (he : genv γ = ε) (hE : gEnv ε) (hd : decode cc pc = .ok (.baload, 1)) (h : gSm γ cs ss (pc + 1) k) : gSm γ cs ss pc (s_eald k) := by
  obtain ⟨⟨p, l, e, R, s, m, args, below, meth, c, Q⟩, A, D, cA, ad, lay, fin, cc', own, E, n0, ra⟩ := γ
  subst hb; subst he
  intro L st I H locs ls hl hn hP hS hk hcs hss
  have hF := hE.2.1 s G.2.2.2.2.2.2.2.1.1
  unfold s_eald at hk
  split at hk
  · rename_i i q t
    split at hk
    · rename_i hq
      obtain ⟨hq0, hq1⟩ := hq.1
      have h1 := (hF.2.1 (q - 1100) (by omega)).2.2.2
      have e1 := gad G.2.2.2.2.2.2.2.1.2.2 (q := q) (by omega)
      have h2 := h _ _ _ _ _ _ hl hn hP hS hk hcs hss
      show W p l e R s m args below meth c H locs cs ss Q (F0 m pc ls (.int i :: .ref (ad q) :: t.map (gv ad)))
      rw [e1, gq1 q hq0]
      exact va_tb G.1 G.2.1 (va_T.narrow h1 (fun q hq => G.2.2.2.2.2.2.2.2.2.1 q hq)) hS hq.2 rfl hd h2
    · cases hk
  · cases hk
theorem sm_tld {γ : gG} {cs ss pc : Nat} {k : gK} {cc : ByteArray} (G : gOK γ) (hb : gcc γ = cc) {ε : gE5} (he : genv γ = ε) (hE : gEnv ε) (hd : decode cc pc = .ok (.iaload, 1)) (h : gSm γ cs ss (pc + 1) k) : gSm γ cs ss pc (s_tld k) := by
  obtain ⟨⟨p, l, e, R, s, m, args, below, meth, c, Q⟩, A, D, cA, ad, lay, fin, cc', own, E, n0, ra⟩ := γ
  subst hb; subst he
  intro L st I H locs ls hl hn hP hS hk hcs hss
  have hF := hE.2.1 s G.2.2.2.2.2.2.2.1.1
  unfold s_tld at hk
  split at hk
  · rename_i i q t
    split at hk
    · rename_i hq
      obtain ⟨hq0, hq1⟩ := hq.1
      have h1 := hF.2.2.2.2.2.1
      have e1 := gad G.2.2.2.2.2.2.2.1.2.2 (q := q) (by omega)
      have h2 := h _ _ _ _ _ _ hl hn hP hS hk hcs hss
      show W p l e R s m args below meth c H locs cs ss Q (F0 m pc ls (.int i :: .ref (ad q) :: t.map (gv ad)))
      rw [e1, gq2 q hq0 hq1]
      exact va_ti G.1 G.2.1 (va_T.narrow h1 (fun q hq => G.2.2.2.2.2.2.2.2.2.1 q hq)) hS hq.2 rfl hd h2
    · cases hk
  · cases hk
theorem sm_i2c {γ : gG} {cs ss pc : Nat} {k : gK} {cc : ByteArray} (G : gOK γ) (hb : gcc γ = cc) (hd : decode cc pc = .ok (.i2c, 1)) (h : gSm γ cs ss (pc + 1) k) : gSm γ cs ss pc (s_i2c k) := by
  obtain ⟨⟨p, l, e, R, s, m, args, below, meth, c, Q⟩, A, D, cA, ad, lay, fin, cc', own, E, n0, ra⟩ := γ
  subst hb
  intro L st I H locs ls hl hn hP hS hk hcs hss
  unfold s_i2c at hk
  split at hk
  · exact lv_i2c G.1 G.2.1 hd rfl (h _ _ _ _ _ _ hl hn hP hS hk hcs hss)
  · cases hk
/-- a call of a String's method -/
def s_calle (f : List Value → gM → Option (gR × gM)) (n : Nat) (k : gK) : gK := fun L st I =>
  if ((st.drop n).map Value.category).sum ≤ 8 ∧ n ≤ st.length then match gBk [] (st.take n).reverse with
    | some (.ref q :: av) => if gRng 1000 1026 q then gGo [] k L (st.drop n) I (f (.ref q :: av) (fun j => I (gr [] j))) else none
    | _ => none
  else none
theorem sm_calle {γ : gG} {cs ss pc : Nat} {k : gK} {cc : ByteArray} (G : gOK γ) (hb : gcc γ = cc) {own : String} (ho : gow γ = own) {ε : gE5} (he : genv γ = ε) (hE : gEnv ε) {index : Nat} {y : MethodName} {cy : ByteArray} {maxL : Nat} {ret : Option FieldType} {fr lo : Nat} {f : List Value → gM → Option (gR × gM)} (n : Nat) (hM : gCtr ε y cy maxL ret fr lo [] f) (hR : fr + 1 ≤ (grm γ).frames ∧ 8 + (maxL + 11) + lo ≤ (grm γ).locals)
    (hd0 : y.cls = "java/lang/String" ∧ y.cls ≠ "java/lang/invoke/MethodHandle" ∧ y.cls ≠ "java/lang/invoke/VarHandle" ∧ (parseMethodDescriptor y.desc).map (fun d => d.parameters.length + 1) = some n) (hw1 : Cond.methodLink own index y ∈ gTb) (hw2 : Cond.instanceMethod y ∈ gTb) (hw5 : Cond.selects "java/lang/String" y y ∈ gTb) (hw3 : Cond.initialized "java/lang/String" ∈ gTb) (hw4 : Cond.code y cy maxL ret ∈ gTb) (hd : decode cc pc = .ok (.invokevirtual index, 3)) (h : gSm γ cs ss (pc + 3) k) : gSm γ cs ss pc (s_calle f n k) := by
  obtain ⟨⟨p, l, e, R, s, m, args, below, meth, c, Q⟩, A, D, cA, ad, lay0, fin, cc', own', E, n0, ra⟩ := γ
  subst hb
  subst ho
  subst he
  intro L st I H locs ls hl hn hP hS hk hcs hss
  have hF := hE.2.1 s G.2.2.2.2.2.2.2.1.1
  unfold s_calle at hk
  split at hk
  · rename_i hc
    split at hk
    · rename_i q av hav
      split at hk
      · rename_i hq
        obtain ⟨hq0, hq1⟩ := id hq
        obtain ⟨r, J, hf, hkk, hrt⟩ := gGo_inv hk
        obtain ⟨e1, e2⟩ := gArgs (ad := ad) hc.2 hav
        rw [e1]
        have hco : gCo [] lay0 [] := ⟨rfl, rfl, by decide⟩
        have hD2 := G.2.2.2.2.2.1
        have hMet := hM (fun j => ad (gr [] j)) H.size (.ref q :: av) (fun j => I (gr [] j)) J r (hco.D hD2 G.2.2.2.2.2.2.2.2.2.1) (gr_ra G.2.2.2.2.2.2.2.1.2.2) (Nat.le_trans G.2.2.2.2.2.2.2.2.1 hS.1) hf
        have hPc := hco.P hP
        have hdl : (parseMethodDescriptor y.desc).map (fun d => d.parameters.length) = some (n - 1) := by
          have h9 := hd0.2.2.2
          cases hpm : parseMethodDescriptor y.desc with
          | none => rw [hpm] at h9; cases h9
          | some dd =>
            rw [hpm] at h9
            have h8 : dd.parameters.length + 1 = n := Option.some.inj h9
            show some dd.parameters.length = some (n - 1)
            exact congrArg some (by omega)
        have hal : (av.map (gv (fun j => ad (gr [] j)))).length = n - 1 := by rw [List.length_map]; rw [List.length_cons] at e2; omega
        have eq1 : ad (gr [] q) = ra (q - 1000) := by
          unfold gr
          rw [if_neg (by omega)]
          exact gad G.2.2.2.2.2.2.2.1.2.2 hq.1
        have hrecv : ∃ cellB : Cell, H[ad (gr [] q)]? = some cellB ∧ cellB.vm.isStatics = false ∧ s.vm.findClass "java/lang/String" = some cellB.cls := by
          rw [eq1]
          obtain ⟨cell, h1, h2, h3, -⟩ := ((va_O.narrow (hF.2.1 (q - 1000) (by omega)).1 (fun q hq => G.2.2.2.2.2.2.2.2.2.1 q hq)).kept hS.2.1)
          exact ⟨cell, h1, h2, h3⟩
        refine gRun_go (g := F0 m pc ls _) (va_runV (Ts := gTb) ⟨G.1, G.2.1, rfl, G.2.2.1, G.2.2.2.1⟩ hMet ⟨callB_of (n - 1) G.2.2.2.1 (gGoodT hw4) rfl rfl rfl (by rw [hd0.1]; exact G.2.2.2.1 _ hw3) (G.2.2.2.1 _ hw1) ⟨hd0.2.1, hd0.2.2.1, hdl⟩ hR, G.2.2.2.1 _ hw2, G.2.2.2.1 _ hw5⟩ (As := av.map (gv (fun j => ad (gr [] j)))) (rest := (st.drop n).map (gv ad)) ⟨gPre_blind hE.1, hrecv, fun U hU hW => ⟨rfl, by rw [hU], by rw [hU]; exact hPc, va_K.moved hW.alike G.2.2.2.2.1, hE.1 s U hW (fun q hq => by rw [hU]; exact hS.2.1 q (Nat.lt_of_lt_of_le hq G.2.2.2.2.2.2.2.2.1) (fun z => absurd (G.2.2.2.2.2.2.2.2.2.1 q z) (Nat.not_le.mpr hq))) G.2.2.2.2.2.2.2.1.1, gNw_warm hW G.2.2.2.2.2.2.2.1.2.1⟩⟩ rfl hal (hl.1.trans hn) (by rw [List.map_cons, List.reverse_cons, List.append_assoc]; rfl) (lv_room (by rw [gcat]; exact hc.1)) hd ⟨hcs, hss⟩) hS (fun q _ hq => hco.A hD2 (fun q hq => G.2.2.2.2.2.2.1 q (Nat.le_trans hS.1 hq)) q hq) (fun q hq => hco.A hD2 (fun q hq => G.2.2.2.2.2.2.1 q (Nat.le_trans hS.1 hq)) q hq) (fun H1 locs1 hP1 hk1 hS1 => ?_)
        show W p l e R s m args below meth c H1 locs1 cs ss Q (F0 m (pc + 3) ls (r.toList ++ (st.drop n).map (gv ad)))
        rw [hrt]
        exact h _ _ _ _ _ _ hl hn (hco.back hD2 hP hk1 hP1) hS1 hkk hcs hss
      · cases hk
    · cases hk
  · cases hk
/-- String.checkIndex from its getstatic on: the index is in range -/
def s_chk : gK := fun _ st I => match st with
  | [.int n, .int i] => if 0 ≤ i ∧ i < n then some (.inl none, I) else none
  | _ => none
/-- Preconditions.checkIndex, where the index is in range -/
def gFchk : List Value → gM → Option (gR × gM) := fun av I => match av with
  | [.int i, .int n, z] => if z.category = 1 ∧ 0 ≤ i ∧ i < n then some (.inl (some (.int i)), I) else none
  | _ => none
theorem sm_chk {γ : gG} {cs ss : Nat} {cc : ByteArray} (G : gOK γ) (hb : gcc γ = cc) (ho : gow γ = "java/lang/String") {ε : gE5} (he : genv γ = ε) (hE : gEnv ε) (hr : grt γ = none) {cy : ByteArray} {fr lo : Nat} (hM : gCtr ε ⟨"jdk/internal/util/Preconditions", "checkIndex", "(IILjava/util/function/BiFunction;)I"⟩ cy 3 (some .int) fr lo [] gFchk) (hR : fr + 1 ≤ (grm γ).frames ∧ 8 + (3 + 11) + lo ≤ (grm γ).locals)
    (hw0 : Cond.fieldLink "java/lang/String" 1053 "jdk/internal/util/Preconditions" "SIOOBE_FORMATTER" "Ljava/util/function/BiFunction;" ∈ gTb) (hw1 : Cond.methodLink "java/lang/String" 1059 ⟨"jdk/internal/util/Preconditions", "checkIndex", "(IILjava/util/function/BiFunction;)I"⟩ ∈ gTb) (hw2 : Cond.static ⟨"jdk/internal/util/Preconditions", "checkIndex", "(IILjava/util/function/BiFunction;)I"⟩ ∈ gTb) (hw3 : Cond.initialized "jdk/internal/util/Preconditions" ∈ gTb) (hw4 : Cond.code ⟨"jdk/internal/util/Preconditions", "checkIndex", "(IILjava/util/function/BiFunction;)I"⟩ cy 3 (some .int) ∈ gTb)
    (hd2 : decode cc 2 = .ok (.getstatic 1053, 3)) (hd5 : decode cc 5 = .ok (.invokestatic 1059, 3)) (hd8 : decode cc 8 = .ok (.pop, 1)) (hd9 : decode cc 9 = .ok (.return_, 1)) : gSm γ cs ss 2 s_chk := by
  obtain ⟨⟨p, l, e, R, s, m, args, below, meth, c, Q⟩, A, D, cA, ad, lay0, fin, cc', own', E, n0, ra⟩ := γ
  subst hb
  subst he
  intro L st I H locs ls hl hn hP hS hk hcs hss
  have hF := hE.2.1 s G.2.2.2.2.2.2.2.1.1
  have hD2 := G.2.2.2.2.2.1
  unfold s_chk at hk
  split at hk
  · rename_i n i
    split at hk
    · rename_i hc
      have hfin := Option.some.inj hk
      subst hfin
      have fin2 : ∀ (z : Value) (t : Nat), (∃ z0 : Value, z0.category = 1 ∧ gv (fun j => if j < 1000 then t else ra (j - 1000)) z0 = z) → W p l e R s m args below meth c H locs cs ss Q (F0 m 5 ls [z, .int n, .int i]) := by
        intro z t hz0
        obtain ⟨z0, hzc, hz0⟩ := hz0
        have hMet := hM (fun j => if j < 1000 then t else ra (j - 1000)) H.size [.int i, .int n, z0] I I (some (.int i)) ⟨fun _ _ h => absurd h (Nat.not_lt_zero _), fun _ h => absurd h (Nat.not_lt_zero _)⟩ (fun k => by
          show (if 1000 + k < 1000 then t else ra (1000 + k - 1000)) = ra k
          rw [if_neg (by omega), Nat.add_sub_cancel_left]) (Nat.le_trans G.2.2.2.2.2.2.2.2.1 hS.1) (if_pos ⟨hzc, hc⟩)
        refine gRun_go (rest := []) (g := F0 m 5 ls [z, .int n, .int i]) (va_runS (Ts := gTb) ⟨G.1, G.2.1, rfl, by have := G.2.2.1; rw [show own' = "java/lang/String" from ho] at this; exact this, G.2.2.2.1⟩ hMet ⟨callB_of 3 G.2.2.2.1 (gGoodT hw4) rfl rfl rfl (G.2.2.2.1 _ hw3) (G.2.2.2.1 _ hw1) (by decide +kernel) hR, G.2.2.2.1 _ hw2⟩ (As := [.int i, .int n, z]) ⟨?_, fun U hU hW => ⟨by rw [← hz0]; rfl, by rw [hU], fun k q hkq => by simp [gW] at hkq, va_K.moved hW.alike G.2.2.2.2.1, hE.1 s U hW (fun q hq => by rw [hU]; exact hS.2.1 q (Nat.lt_of_lt_of_le hq G.2.2.2.2.2.2.2.2.1) (fun z => absurd (G.2.2.2.2.2.2.2.2.2.1 q z) (Nat.not_le.mpr hq))) G.2.2.2.2.2.2.2.1.1, gNw_warm hW G.2.2.2.2.2.2.2.1.2.1⟩⟩ rfl rfl (hl.1.trans hn) rfl (lv_room (by decide)) hd5 ⟨hcs, hss⟩) hS (fun q _ hq => ?_) (fun q hq => ?_) (fun H1 locs1 hP1 hk1 hS1 => ?_)
        · exact gPre_blind hE.1
        · rcases hq with ⟨k, ee, hk⟩ | hq
          · simp [gW] at hk
          · exact G.2.2.2.2.2.2.1 q (Nat.le_trans hS.1 hq)
        · rcases hq with ⟨k, ee, hk⟩ | hq
          · simp [gW] at hk
          · exact G.2.2.2.2.2.2.1 q (Nat.le_trans hS.1 hq)
        · show W p l e R s m args below meth c H1 locs1 cs ss Q (F0 m 8 ls [.int i])
          refine lv_pop G.1 G.2.1 hd8 rfl ?_
          refine G.2.2.2.2.2.2.2.2.2.2.1 H1 locs1 9 ls none _ _ ?_ hS1 hcs hss rfl ⟨hd9, hr⟩
          refine va_P.kept hP (fun k q hkq => hk1 q.1 (hP k q hkq).lt (fun hz => ?_))
          rcases hz with ⟨k, ee, hk⟩ | hz
          · simp [gW] at hk
          · exact absurd (hP k q hkq).lt (Nat.not_lt.mpr hz)
      have hown2 : s.vm.findClass "java/lang/String" = some m.cls := by
        have := G.2.2.1
        rw [show own' = "java/lang/String" from ho] at this
        exact this
      rcases va_Zq.narrow hF.2.2.2.1 (fun q hq => G.2.2.2.2.2.2.2.2.2.1 q hq) with hZ | ⟨t, hZ⟩
      · refine va_gets G.1 G.2.1 hZ hS hown2 (G.2.2.2.1 _ hw0) (fun _ z => z) hd2 ?_
        exact fin2 .null 0 ⟨.null, rfl, rfl⟩
      · refine va_gets G.1 G.2.1 hZ hS hown2 (G.2.2.2.1 _ hw0) (fun _ z => z) hd2 ?_
        exact fin2 (.ref t) t ⟨.ref 0, rfl, rfl⟩
    · cases hk
  · cases hk
theorem gCtr_sub {ε : gE5} {y : MethodName} {cc : ByteArray} {maxL : Nat} {ret : Option FieldType} {fr lo : Nat} {lay : List gL} {f f' : List Value → gM → Option (gR × gM)} (h : gCtr ε y cc maxL ret fr lo lay f) (hs : ∀ av I z, f' av I = some z → f av I = some z) : gCtr ε y cc maxL ret fr lo lay f' := by
  obtain ⟨l, E, n0, D, cA, ra⟩ := ε
  intro ad sz av I J r h1 h2 h3 h4
  exact h ad sz av I J r h1 h2 h3 (hs _ _ _ h4)
