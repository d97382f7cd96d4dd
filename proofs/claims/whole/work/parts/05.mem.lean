/-! ===== fields, rows of numbers, and the few JDK members ===== -/
def gIx : List Nat → Nat → Option Nat
  | [], _ => none
  | a :: t, p => if a = p then some 0 else match gIx t p with
    | some j => some (j + 1)
    | none => none
theorem gIx_some : ∀ (ρ : List Nat) (p j : Nat), gIx ρ p = some j → ρ[j]? = some p
  | [], p, j, h => by cases h
  | a :: t, p, j, h => by
    unfold gIx at h
    split at h
    · rename_i e; cases h; subst e; rfl
    · split at h
      · rename_i j' hj
        cases h
        simpa using gIx_some t p j' hj
      · cases h
/-- field j of an object of class ci -/
def s_get (lay : List gL) (ci j : Nat) (k : gK) : gK := fun L st I => match st with
  | .ref a :: t => match lay[a]? with
    | some (.inl (ci', fs)) => if ci' = ci then match fs[j]? with
        | some none => k L (.int (I a j) :: t) I
        | some (some q) => k L (.ref q :: t) I
        | none => none
      else none
    | _ => none
  | _ => none
/-- an int field -/
def s_put (lay : List gL) (ci j : Nat) (k : gK) : gK := fun L st I => match st with
  | .int x :: .ref a :: t => match lay[a]? with
    | some (.inl (ci', fs)) => if ci' = ci ∧ fs[j]? = some none then k L t (gU I a j x) else none
    | _ => none
  | _ => none
/-- a boolean field -/
def s_putz (lay : List gL) (ci j : Nat) (k : gK) : gK := fun L st I => match st with
  | .int x :: .ref a :: t => match lay[a]? with
    | some (.inl (ci', fs)) => if (ci' = ci ∧ fs[j]? = some none) ∧ (x = 0 ∨ x = 1) then k L t (gU I a j x) else none
    | _ => none
  | _ => none
def s_ald (lay : List gL) (ki : Nat) (k : gK) : gK := fun L st I => match st with
  | .int i :: .ref a :: t => match lay[a]? with
    | some (.inr (.inl (ki', n))) => if ki' = ki then if i < 0 ∨ n ≤ i.toNatClampNeg then none else k L (.int (I a i.toNatClampNeg) :: t) I else none
    | _ => none
  | _ => none
def s_ast (lay : List gL) (ki : Nat) (k : gK) : gK := fun L st I => match st with
  | .int x :: .int i :: .ref a :: t => match lay[a]? with
    | some (.inr (.inl (ki', n))) => if ki' = ki then if i < 0 ∨ n ≤ i.toNatClampNeg then none else k L t (gU I a i.toNatClampNeg (if ki = 0 then x else vp_nar .boolean x)) else none
    | _ => none
  | _ => none
def s_qld (lay : List gL) (k : gK) : gK := fun L st I => match st with
  | .int i :: .ref a :: t => match lay[a]? with
    | some (.inr (.inr (ki, ps))) => if ki = 3 then if i < 0 ∨ ps.length ≤ i.toNatClampNeg then none else match ps[(I a i.toNatClampNeg).toNatClampNeg]? with
        | some q => k L (.ref q :: t) I
        | none => none
      else none
    | _ => none
  | _ => none
/-- a place of a row of places is taken by one of its objects -/
def s_qst (lay : List gL) (k : gK) : gK := fun L st I => match st with
  | .ref b :: .int i :: .ref a :: t => match lay[a]?, lay[b]? with
    | some (.inr (.inr (ki, ps))), some (.inl (7, _)) => if ki = 3 ∧ ¬ (i < 0 ∨ ps.length ≤ i.toNatClampNeg) then match gIx ps b with
        | some j => if j < 2 ^ 31 then k L t (gU I a i.toNatClampNeg (Int32.ofNat j)) else none
        | none => none
      else none
    | _, _ => none
  | _ => none
def s_alen (lay : List gL) (k : gK) : gK := fun L st I => match st with
  | .ref a :: t => match lay[a]? with
    | some (.inr (.inl (ki, n))) => if ki = 0 then k L (.int (Int32.ofNat n) :: t) I else none
    | _ => none
  | _ => none
/-- Math.max, Math.min -/
def s_jmath (f : Int32 → Int32 → Int32) (k : gK) : gK := fun L st I => match st with
  | .int y :: .int x :: t => if (t.map Value.category).sum ≤ 8 then k L (.int (f x y) :: t) I else none
  | _ => none
/-- System.arraycopy of ints -/
def s_copy (lay : List gL) (k : gK) : gK := fun L st I => match st with
  | .int n :: .int dp :: .ref b :: .int sp :: .ref a :: t => match lay[a]?, lay[b]? with
    | some (.inr (.inl (k0, n0))), some (.inr (.inl (k1, n1))) =>
      if (k0 = 0 ∧ k1 = 0) ∧ (¬ sp < 0 ∧ ¬ dp < 0 ∧ ¬ n < 0) ∧ (sp.toNatClampNeg + n.toNatClampNeg ≤ n0 ∧ dp.toNatClampNeg + n.toNatClampNeg ≤ n1) ∧ (t.map Value.category).sum ≤ 8 then
        k L t (fun q => if q = b then va_cpy (I a) (I b) sp.toNatClampNeg dp.toNatClampNeg n.toNatClampNeg else I q)
      else none
    | _, _ => none
  | _ => none
def s_lcmp (k : gK) : gK := fun L st I => match st with
  | .long y :: .long x :: t => k L (.int (lg_cmp x y) :: t) I
  | _ => none
def s_table (lo hi : Int) (kd : gK) (ks : List gK) : gK := fun L st I => match st with
  | .int x :: t => if x.toInt < lo ∨ hi < x.toInt then kd L t I else match ks[(x.toInt - lo).toNat]? with
    | some k => k L t I
    | none => none
  | _ => none
theorem sm_lcmp {γ : gG} {cs ss pc : Nat} {k : gK} {cc : ByteArray} (G : gOK γ) (hb : gcc γ = cc) (hd : decode cc pc = .ok (.lcmp, 1)) (h : gSm γ cs ss (pc + 1) k) : gSm γ cs ss pc (s_lcmp k) := by
  obtain ⟨⟨p, l, e, R, s, m, args, below, meth, c, Q⟩, A, D, cA, ad, lay, fin, cc', own, E, n0, ra⟩ := γ
  subst hb
  intro L st I H locs ls hl hn hP hS hk hcs hss
  unfold s_lcmp at hk
  split at hk
  · exact W.lcmp G.1 G.2.1 hd (h _ _ _ _ _ _ hl hn hP hS hk hcs hss)
  · cases hk
theorem sm_ldc2 {γ : gG} {cs ss pc : Nat} {k : gK} {cc : ByteArray} (G : gOK γ) (hb : gcc γ = cc) {own : String} (ho : gow γ = own) {index : Nat} {v : Int64} (hd : decode cc pc = .ok (.ldc2_w index, 3)) (hw : Cond.constantLong own index v ∈ gTb) (h : gSm γ cs ss (pc + 3) k) : gSm γ cs ss pc (s_lconst v k) := by
  obtain ⟨⟨p, l, e, R, s, m, args, below, meth, c, Q⟩, A, D, cA, ad, lay, fin, cc', own, E, n0, ra⟩ := γ
  subst hb
  subst ho
  intro L st I H locs ls hl hn hP hS hk hcs hss
  exact lv_ldc2 G.1 G.2.1 G.2.2.1 (G.2.2.2.1 _ hw) hd (h _ _ _ _ _ _ hl hn hP hS hk hcs hss)
theorem sm_get {γ : gG} {cs ss pc : Nat} {k : gK} {cc : ByteArray} (G : gOK γ) (hb : gcc γ = cc) {own : String} (ho : gow γ = own) {lay : List gL} (hy : gly γ = lay) {index ci j : Nat} {C : String} {T : u_T} {N : Nat} (hc : vwCl[ci]? = some (C, T, N)) (hj : j < N) (hin : ∀ w ∈ u_ws C T N, w ∈ gTb) (hw : Cond.fieldLink own index (T j).1 (T j).2.1 (T j).2.2.1 ∈ gTb) (hd : decode cc pc = .ok (.getfield index, 3)) (h : gSm γ cs ss (pc + 3) k) : gSm γ cs ss pc (s_get lay ci j k) := by
  obtain ⟨⟨p, l, e, R, s, m, args, below, meth, c, Q⟩, A, D, cA, ad, lay', fin, cc', own, E, n0, ra⟩ := γ
  subst hb
  subst ho
  subst hy
  intro L st I H locs ls hl hn hP hS hk hcs hss
  unfold s_get at hk
  split at hk
  · rename_i a t
    split at hk
    · rename_i ci' fs hla
      split at hk
      · rename_i hci
        subst hci
        split at hk
        · rename_i hfs
          exact va_get G.1 G.2.1 G.2.2.2.1 hin G.2.2.1 G.2.2.2.2.1 hP a (gW_at hla) hc j hj (G.2.2.2.1 _ hw) (fun _ z => z) (gF_int ad (I a) fs 0 j hfs) hd (by rw [Nat.zero_add]; exact h _ _ _ _ _ _ hl hn hP hS hk hcs hss)
        · rename_i q hfs
          exact va_get G.1 G.2.1 G.2.2.2.1 hin G.2.2.1 G.2.2.2.2.1 hP a (gW_at hla) hc j hj (G.2.2.2.1 _ hw) (fun _ z => z) (gF_ref ad (I a) fs 0 j q hfs) hd (h _ _ _ _ _ _ hl hn hP hS hk hcs hss)
        · cases hk
      · cases hk
    · cases hk
  · cases hk
theorem sm_getN {γ : gG} {cs ss pc : Nat} {k : gK} {cc : ByteArray} (G : gOK γ) (hb : gcc γ = cc) {own host : String} (ho : gow γ = own) {lay : List gL} (hy : gly γ = lay) {index ci j : Nat} {C : String} {T : u_T} {N : Nat} (hc : vwCl[ci]? = some (C, T, N)) (hj : j < N) (hin : ∀ w ∈ u_ws C T N, w ∈ gTb) (hw : Cond.fieldLinkNest own index (T j).1 (T j).2.1 (T j).2.2.1 host ∈ gNw) (hd : decode cc pc = .ok (.getfield index, 3)) (h : gSm γ cs ss (pc + 3) k) : gSm γ cs ss pc (s_get lay ci j k) := by
  obtain ⟨⟨p, l, e, R, s, m, args, below, meth, c, Q⟩, A, D, cA, ad, lay', fin, cc', own, E, n0, ra⟩ := γ
  subst hb
  subst ho
  subst hy
  intro L st I H locs ls hl hn hP hS hk hcs hss
  unfold s_get at hk
  split at hk
  · rename_i a t
    split at hk
    · rename_i ci' fs hla
      split at hk
      · rename_i hci
        subst hci
        split at hk
        · rename_i hfs
          exact va_getN G.1 G.2.1 G.2.2.2.1 hin G.2.2.1 G.2.2.2.2.1 hP a (gW_at hla) hc j hj (va_Nw.use rfl (G.2.2.2.2.2.2.2.1.2.1 _ hw)) (fun _ z => z) (gF_int ad (I a) fs 0 j hfs) hd (by rw [Nat.zero_add]; exact h _ _ _ _ _ _ hl hn hP hS hk hcs hss)
        · rename_i q hfs
          exact va_getN G.1 G.2.1 G.2.2.2.1 hin G.2.2.1 G.2.2.2.2.1 hP a (gW_at hla) hc j hj (va_Nw.use rfl (G.2.2.2.2.2.2.2.1.2.1 _ hw)) (fun _ z => z) (gF_ref ad (I a) fs 0 j q hfs) hd (h _ _ _ _ _ _ hl hn hP hS hk hcs hss)
        · cases hk
      · cases hk
    · cases hk
  · cases hk
theorem sm_put {γ : gG} {cs ss pc : Nat} {k : gK} {cc : ByteArray} (G : gOK γ) (hb : gcc γ = cc) {own : String} (ho : gow γ = own) {lay : List gL} (hy : gly γ = lay) {index ci j : Nat} {C : String} {T : u_T} {N : Nat} (ty0 : Nat → FieldType) (hty : ∀ k, k < N → parseFieldDescriptor (T k).2.2.1 = some (ty0 k)) (hnm : ∀ a, a < N → ∀ b, b < N → a ≠ b → (T a).2.1 ≠ (T b).2.1) (hc : vwCl[ci]? = some (C, T, N)) (hj : j < N) (hin : ∀ w ∈ u_ws C T N, w ∈ gTb) (hw : Cond.fieldLink own index (T j).1 (T j).2.1 (T j).2.2.1 ∈ gTb) (hfin : (T j).2.2.2 = false) (hI : ty0 j = .int) (hd : decode cc pc = .ok (.putfield index, 3)) (h : gSm γ cs ss (pc + 3) k) : gSm γ cs ss pc (s_put lay ci j k) := by
  obtain ⟨⟨p, l, e, R, s, m, args, below, meth, c, Q⟩, A, D, cA, ad, lay', fin, cc', own, E, n0, ra⟩ := γ
  subst hb
  subst ho
  subst hy
  intro L st I H locs ls hl hn hP hS hk hcs hss
  unfold s_put at hk
  split at hk
  · rename_i x a t
    split at hk
    · rename_i ci' fs hla
      split at hk
      · rename_i hci
        obtain ⟨hci, hfs⟩ := hci
        subst hci
        refine va_put (v := .int x) G.1 G.2.1 G.2.2.2.1 hin ty0 hty hnm G.2.2.1 G.2.2.2.2.1 hP (gD.to G.2.2.2.2.2.1) hS a (gW_at hla) hc j hj (G.2.2.2.1 _ hw) (fun _ z => z) hfin ((hty j hj).trans (congrArg some hI)) rfl rfl (by rw [gF_len]; exact (List.getElem?_eq_some_iff.mp hfs).1) hd (fun H1 locs1 hP1 _ hS1 => ?_)
        rw [gW_putf (show lay'[a]? = _ from hla) hfs] at hP1
        exact h _ _ _ _ _ _ hl hn hP1 hS1 hk hcs hss
      · cases hk
    · cases hk
  · cases hk
theorem sm_putz {γ : gG} {cs ss pc : Nat} {k : gK} {cc : ByteArray} (G : gOK γ) (hb : gcc γ = cc) {own : String} (ho : gow γ = own) {lay : List gL} (hy : gly γ = lay) {index ci j : Nat} {C : String} {T : u_T} {N : Nat} (ty0 : Nat → FieldType) (hty : ∀ k, k < N → parseFieldDescriptor (T k).2.2.1 = some (ty0 k)) (hnm : ∀ a, a < N → ∀ b, b < N → a ≠ b → (T a).2.1 ≠ (T b).2.1) (hc : vwCl[ci]? = some (C, T, N)) (hj : j < N) (hin : ∀ w ∈ u_ws C T N, w ∈ gTb) (hw : Cond.fieldLink own index (T j).1 (T j).2.1 (T j).2.2.1 ∈ gTb) (hfin : (T j).2.2.2 = false) (hI : ty0 j = .boolean) (hd : decode cc pc = .ok (.putfield index, 3)) (h : gSm γ cs ss (pc + 3) k) : gSm γ cs ss pc (s_putz lay ci j k) := by
  obtain ⟨⟨p, l, e, R, s, m, args, below, meth, c, Q⟩, A, D, cA, ad, lay', fin, cc', own, E, n0, ra⟩ := γ
  subst hb
  subst ho
  subst hy
  intro L st I H locs ls hl hn hP hS hk hcs hss
  unfold s_putz at hk
  split at hk
  · rename_i x a t
    split at hk
    · rename_i ci' fs hla
      split at hk
      · rename_i hci
        obtain ⟨⟨hci, hfs⟩, hx⟩ := hci
        subst hci
        refine va_put (v := .int x) G.1 G.2.1 G.2.2.2.1 hin ty0 hty hnm G.2.2.1 G.2.2.2.2.1 hP (gD.to G.2.2.2.2.2.1) hS a (gW_at hla) hc j hj (G.2.2.2.1 _ hw) (fun _ z => z) hfin ((hty j hj).trans (congrArg some hI)) (by rcases hx with rfl | rfl <;> rfl) (by rcases hx with rfl | rfl <;> rfl) (by rw [gF_len]; exact (List.getElem?_eq_some_iff.mp hfs).1) hd (fun H1 locs1 hP1 _ hS1 => ?_)
        rw [gW_putf (show lay'[a]? = _ from hla) hfs] at hP1
        exact h _ _ _ _ _ _ hl hn hP1 hS1 hk hcs hss
      · cases hk
    · cases hk
  · cases hk
theorem sm_iald {γ : gG} {cs ss pc : Nat} {k : gK} {cc : ByteArray} (G : gOK γ) (hb : gcc γ = cc) {lay : List gL} (hy : gly γ = lay) (hd : decode cc pc = .ok (.iaload, 1)) (h : gSm γ cs ss (pc + 1) k) : gSm γ cs ss pc (s_ald lay 0 k) := by
  obtain ⟨⟨p, l, e, R, s, m, args, below, meth, c, Q⟩, A, D, cA, ad, lay', fin, cc', own, E, n0, ra⟩ := γ
  subst hb
  subst hy
  intro L st I H locs ls hl hn hP hS hk hcs hss
  unfold s_ald at hk
  split at hk
  · rename_i i a t
    split at hk
    · rename_i ki n hla
      split at hk
      · rename_i hki
        subst hki
        split at hk
        · cases hk
        · rename_i hin
          exact va_iald G.1 G.2.1 G.2.2.2.2.1 hP a 0 (gW_at hla) rfl hin hd (h _ _ _ _ _ _ hl hn hP hS hk hcs hss)
      · cases hk
    · cases hk
  · cases hk
theorem sm_zald {γ : gG} {cs ss pc : Nat} {k : gK} {cc : ByteArray} (G : gOK γ) (hb : gcc γ = cc) {lay : List gL} (hy : gly γ = lay) (hd : decode cc pc = .ok (.baload, 1)) (h : gSm γ cs ss (pc + 1) k) : gSm γ cs ss pc (s_ald lay 1 k) := by
  obtain ⟨⟨p, l, e, R, s, m, args, below, meth, c, Q⟩, A, D, cA, ad, lay', fin, cc', own, E, n0, ra⟩ := γ
  subst hb
  subst hy
  intro L st I H locs ls hl hn hP hS hk hcs hss
  unfold s_ald at hk
  split at hk
  · rename_i i a t
    split at hk
    · rename_i ki n hla
      split at hk
      · rename_i hki
        subst hki
        split at hk
        · cases hk
        · rename_i hin
          exact va_zald G.1 G.2.1 G.2.2.2.2.1 hP a 1 (gW_at hla) rfl hin hd (h _ _ _ _ _ _ hl hn hP hS hk hcs hss)
      · cases hk
    · cases hk
  · cases hk
theorem sm_iast {γ : gG} {cs ss pc : Nat} {k : gK} {cc : ByteArray} (G : gOK γ) (hb : gcc γ = cc) {lay : List gL} (hy : gly γ = lay) (hd : decode cc pc = .ok (.iastore, 1)) (h : gSm γ cs ss (pc + 1) k) : gSm γ cs ss pc (s_ast lay 0 k) := by
  obtain ⟨⟨p, l, e, R, s, m, args, below, meth, c, Q⟩, A, D, cA, ad, lay', fin, cc', own, E, n0, ra⟩ := γ
  subst hb
  subst hy
  intro L st I H locs ls hl hn hP hS hk hcs hss
  unfold s_ast at hk
  split at hk
  · rename_i x i a t
    split at hk
    · rename_i ki n hla
      split at hk
      · rename_i hki
        subst hki
        split at hk
        · cases hk
        · rename_i hin
          refine va_iast G.1 G.2.1 G.2.2.2.2.1 hP (gD.to G.2.2.2.2.2.1) hS a 0 (gW_at hla) rfl hin hd (fun H1 locs1 hP1 _ hS1 => ?_)
          rw [gW_puta (show lay'[a]? = _ from hla) (fun _ => rfl)] at hP1
          exact h _ _ _ _ _ _ hl hn hP1 hS1 hk hcs hss
      · cases hk
    · cases hk
  · cases hk
theorem sm_zast {γ : gG} {cs ss pc : Nat} {k : gK} {cc : ByteArray} (G : gOK γ) (hb : gcc γ = cc) {lay : List gL} (hy : gly γ = lay) (hd : decode cc pc = .ok (.bastore, 1)) (h : gSm γ cs ss (pc + 1) k) : gSm γ cs ss pc (s_ast lay 1 k) := by
  obtain ⟨⟨p, l, e, R, s, m, args, below, meth, c, Q⟩, A, D, cA, ad, lay', fin, cc', own, E, n0, ra⟩ := γ
  subst hb
  subst hy
  intro L st I H locs ls hl hn hP hS hk hcs hss
  unfold s_ast at hk
  split at hk
  · rename_i x i a t
    split at hk
    · rename_i ki n hla
      split at hk
      · rename_i hki
        subst hki
        split at hk
        · cases hk
        · rename_i hin
          refine va_zast G.1 G.2.1 G.2.2.2.2.1 hP (gD.to G.2.2.2.2.2.1) hS a 1 (gW_at hla) rfl hin hd (fun H1 locs1 hP1 _ hS1 => ?_)
          rw [gW_puta (show lay'[a]? = _ from hla) (fun _ => rfl)] at hP1
          exact h _ _ _ _ _ _ hl hn hP1 hS1 hk hcs hss
      · cases hk
    · cases hk
  · cases hk
theorem sm_qld {γ : gG} {cs ss pc : Nat} {k : gK} {cc : ByteArray} (G : gOK γ) (hb : gcc γ = cc) {lay : List gL} (hy : gly γ = lay) (hd : decode cc pc = .ok (.aaload, 1)) (h : gSm γ cs ss (pc + 1) k) : gSm γ cs ss pc (s_qld lay k) := by
  obtain ⟨⟨p, l, e, R, s, m, args, below, meth, c, Q⟩, A, D, cA, ad, lay', fin, cc', own, E, n0, ra⟩ := γ
  subst hb
  subst hy
  intro L st I H locs ls hl hn hP hS hk hcs hss
  unfold s_qld at hk
  split at hk
  · rename_i i a t
    split at hk
    · rename_i ki ps hla
      split at hk
      · rename_i hki
        subst hki
        split at hk
        · cases hk
        · rename_i hin
          split at hk
          · rename_i q hq
            refine va_aldq G.1 G.2.1 G.2.2.2.2.1 hP a 3 (gW_at hla) rfl hin hd ?_
            rw [hq]
            exact h _ _ _ _ _ _ hl hn hP hS hk hcs hss
          · cases hk
      · cases hk
    · cases hk
  · cases hk
theorem gQst {cA : Nat → ClassId} {ad : Nat → Nat} {I : Nat → Int32} {t i j b : Nat} {ps : List Nat} (hj : ps[j]? = some b) (hl : j < 2 ^ 31) : (Sum.inl (cA t, ps.length, .inr (.inr (.inr (.inr (va_up (fun j => (ps[(I j).toNatClampNeg]?).map ad) i (some (ad b))))))) : va_E) = gC cA ad (upd I i (Int32.ofNat j)) (.inr (.inr (t, ps))) := by
  show (Sum.inl (cA t, ps.length, .inr (.inr (.inr (.inr (va_up (fun j => (ps[(I j).toNatClampNeg]?).map ad) i (some (ad b))))))) : va_E) = Sum.inl (cA t, ps.length, .inr (.inr (.inr (.inr (fun q => (ps[(upd I i (Int32.ofNat j) q).toNatClampNeg]?).map ad)))))
  congr 7
  funext q
  unfold va_up
  by_cases hq : q = i
  · rw [if_pos hq, hq, pk_us, clamp_of rfl hl, hj]; rfl
  · rw [if_neg hq, pk_un hq]
theorem sm_qst {γ : gG} {cs ss pc : Nat} {k : gK} {cc : ByteArray} (G : gOK γ) (hb : gcc γ = cc) {lay : List gL} (hy : gly γ = lay) {r : vw_C} (hc : vwCl[7]? = some r) (h3 : (FieldType.object "PressureNet$State") = FieldType.object r.1) (hd : decode cc pc = .ok (.aastore, 1)) (h : gSm γ cs ss (pc + 1) k) : gSm γ cs ss pc (s_qst lay k) := by
  obtain ⟨⟨p, l, e, R, s, m, args, below, meth, c, Q⟩, A, D, cA, ad, lay', fin, cc', own, E, n0, ra⟩ := γ
  subst hb
  subst hy
  intro L st I H locs ls hl hn hP hS hk hcs hss
  unfold s_qst at hk
  split at hk
  · rename_i b i a t
    split at hk
    · rename_i ki ps fs hla hlb
      split at hk
      · rename_i hki
        obtain ⟨rfl, hin⟩ := hki
        split at hk
        · rename_i j hj
          split at hk
          · rename_i hj9
            refine va_astq G.1 G.2.1 G.2.2.2.2.1 hP (gD.to G.2.2.2.2.2.1) hS a 3 b 7 (gW_at hla) (by rw [← h3]; rfl) (gW_at hlb) hc hin hd (fun H1 locs1 hP1 _ hS1 => ?_)
            rw [gW_upd (J := gU I a i.toNatClampNeg (Int32.ofNat j)) (show lay'[a]? = _ from hla) (by rw [gU_s]; exact gQst (gIx_some _ _ _ hj) hj9) (fun k' hk => gU_n hk)] at hP1
            exact h _ _ _ _ _ _ hl hn hP1 hS1 hk hcs hss
          · cases hk
        · cases hk
      · cases hk
    · cases hk
  · cases hk
theorem sm_alen {γ : gG} {cs ss pc : Nat} {k : gK} {cc : ByteArray} (G : gOK γ) (hb : gcc γ = cc) {lay : List gL} (hy : gly γ = lay) (hd : decode cc pc = .ok (.arraylength, 1)) (h : gSm γ cs ss (pc + 1) k) : gSm γ cs ss pc (s_alen lay k) := by
  obtain ⟨⟨p, l, e, R, s, m, args, below, meth, c, Q⟩, A, D, cA, ad, lay', fin, cc', own, E, n0, ra⟩ := γ
  subst hb
  subst hy
  intro L st I H locs ls hl hn hP hS hk hcs hss
  unfold s_alen at hk
  split at hk
  · rename_i a t
    split at hk
    · rename_i ki n hla
      split at hk
      · rename_i hki
        subst hki
        exact va_alen G.1 G.2.1 G.2.2.2.2.1 hP a 0 (gW_at hla) rfl rfl hd (h _ _ _ _ _ _ hl hn hP hS hk hcs hss)
      · cases hk
    · cases hk
  · cases hk
theorem gcat (ad : Nat → Nat) (t : List Value) : ((t.map (gv ad)).map fun v => v.category).sum = (t.map Value.category).sum := by
  rw [List.map_map]
  congr 1
  exact List.map_congr_left (fun v _ => gv_cat ad v)
theorem sm_jmax {γ : gG} {cs ss pc : Nat} {k : gK} {cc : ByteArray} (G : gOK γ) (hb : gcc γ = cc) {own : String} (ho : gow γ = own) {index : Nat} (hR : 1 ≤ (grm γ).frames ∧ 21 ≤ (grm γ).locals) (hw1 : Cond.methodLink own index Lib.Math.max.name ∈ gTb) (hw2 : Cond.static Lib.Math.max.name ∈ gTb) (hw3 : Cond.initialized "java/lang/Math" ∈ gTb) (hw4 : Cond.code Lib.Math.max.name Lib.Math.max.code 2 (some .int) ∈ gTb) (hd : decode cc pc = .ok (.invokestatic index, 3)) (h : gSm γ cs ss (pc + 3) k) : gSm γ cs ss pc (s_jmath gj_max k) := by
  obtain ⟨⟨p, l, e, R, s, m, args, below, meth, c, Q⟩, A, D, cA, ad, lay', fin, cc', own, E, n0, ra⟩ := γ
  subst hb
  subst ho
  intro L st I H locs ls hl hn hP hS hk hcs hss
  unfold s_jmath at hk
  split at hk
  · rename_i y x t
    split at hk
    · rename_i hc
      exact va_mmax G.1 G.2.1 (hn.symm.trans hl.1.symm) G.2.2.1 (G.2.2.2.1 _ hw1) (G.2.2.2.1 _ hw2) (G.2.2.2.1 _ hw3) (G.2.2.2.1 _ hw4) hR.1 (by rw [gcat]; have := hR.2; dsimp only [grm] at this; omega) hcs hss hd (h _ _ _ _ _ _ hl hn hP hS hk hcs hss)
    · cases hk
  · cases hk
theorem sm_jmin {γ : gG} {cs ss pc : Nat} {k : gK} {cc : ByteArray} (G : gOK γ) (hb : gcc γ = cc) {own : String} (ho : gow γ = own) {index : Nat} (hR : 1 ≤ (grm γ).frames ∧ 21 ≤ (grm γ).locals) (hw1 : Cond.methodLink own index Lib.Math.min.name ∈ gTb) (hw2 : Cond.static Lib.Math.min.name ∈ gTb) (hw3 : Cond.initialized "java/lang/Math" ∈ gTb) (hw4 : Cond.code Lib.Math.min.name Lib.Math.min.code 2 (some .int) ∈ gTb) (hd : decode cc pc = .ok (.invokestatic index, 3)) (h : gSm γ cs ss (pc + 3) k) : gSm γ cs ss pc (s_jmath gj_min k) := by
  obtain ⟨⟨p, l, e, R, s, m, args, below, meth, c, Q⟩, A, D, cA, ad, lay', fin, cc', own, E, n0, ra⟩ := γ
  subst hb
  subst ho
  intro L st I H locs ls hl hn hP hS hk hcs hss
  unfold s_jmath at hk
  split at hk
  · rename_i y x t
    split at hk
    · rename_i hc
      exact va_mmin G.1 G.2.1 (hn.symm.trans hl.1.symm) G.2.2.1 (G.2.2.2.1 _ hw1) (G.2.2.2.1 _ hw2) (G.2.2.2.1 _ hw3) (G.2.2.2.1 _ hw4) hR.1 (by rw [gcat]; have := hR.2; dsimp only [grm] at this; omega) hcs hss hd (h _ _ _ _ _ _ hl hn hP hS hk hcs hss)
    · cases hk
  · cases hk
theorem sm_copy {γ : gG} {cs ss pc : Nat} {k : gK} {cc : ByteArray} (G : gOK γ) (hb : gcc γ = cc) {own : String} (ho : gow γ = own) {lay : List gL} (hy : gly γ = lay) {index : Nat} (hR : 1 ≤ (grm γ).frames ∧ 8 + (nativeFrameWords "java/lang/System" "arraycopy" 5 + 11) ≤ (grm γ).locals) (hw1 : Cond.methodLink own index arraycopyName ∈ gTb) (hw2 : Cond.native arraycopyName ∈ gTb) (hw3 : Cond.static arraycopyName ∈ gTb) (hw4 : Cond.initialized "java/lang/System" ∈ gTb) (hd : decode cc pc = .ok (.invokestatic index, 3)) (h : gSm γ cs ss (pc + 3) k) : gSm γ cs ss pc (s_copy lay k) := by
  obtain ⟨⟨p, l, e, R, s, m, args, below, meth, c, Q⟩, A, D, cA, ad, lay', fin, cc', own, E, n0, ra⟩ := γ
  subst hb
  subst ho
  subst hy
  intro L st I H locs ls hl hn hP hS hk hcs hss
  unfold s_copy at hk
  split at hk
  · rename_i n dp b sp a t
    split at hk
    · rename_i k0 n0' k1 n1 hla hlb
      split at hk
      · rename_i hc
        obtain ⟨⟨e0, e1⟩, ⟨h1, h2, h3⟩, ⟨h4, h5⟩, h6⟩ := hc
        subst e0; subst e1
        refine va_copyi G.1 G.2.1 (hn.symm.trans hl.1.symm) G.2.2.1 (G.2.2.2.1 _ hw1) (G.2.2.2.1 _ hw2) (G.2.2.2.1 _ hw3) (G.2.2.2.1 _ hw4) G.2.2.2.2.1 hP (gD.to G.2.2.2.2.2.1) hS a b 0 0 (gW_at hla) (gW_at hlb) rfl rfl rfl h1 h2 h3 h4 h5 (fun _ _ => rfl) hR.1 (by rw [gcat]; have := hR.2; dsimp only [grm] at this; omega) hd (fun H1 locs1 hP1 _ hS1 => ?_)
        rw [gW_upd (J := fun q => if q = b then va_cpy (I a) (I b) sp.toNatClampNeg dp.toNatClampNeg n.toNatClampNeg else I q) (show lay'[b]? = _ from hlb) (by rw [if_pos rfl]; rfl) (fun k' hk' => if_neg hk')] at hP1
        exact h _ _ _ _ _ _ hl hn hP1 hS1 hk hcs hss
      · cases hk
    · cases hk
  · cases hk
theorem sm_table {γ : gG} {cs ss pc : Nat} {kd : gK} {ks : List gK} {cc : ByteArray} (G : gOK γ) (hb : gcc γ = cc) {dflt lo hi : Int} {offs : Array Int} {len tgt : Nat} (tgts : List Nat) (hd : decode cc pc = .ok (.tableswitch dflt lo hi offs, len)) (ht : (pc : Int) + dflt = (tgt : Int)) (ho : offs.toList.map (fun o => (pc : Int) + o) = tgts.map (fun t : Nat => (t : Int))) (h1 : gSm γ cs ss tgt kd) (h2 : ∀ (i : Nat) (t : Nat) (k : gK), tgts[i]? = some t → ks[i]? = some k → gSm γ cs ss t k) (hl2 : tgts.length = ks.length) : gSm γ cs ss pc (s_table lo hi kd ks) := by
  obtain ⟨⟨p, l, e, R, s, m, args, below, meth, c, Q⟩, A, D, cA, ad, lay', fin, cc', own, E, n0, ra⟩ := γ
  subst hb
  intro L st I H locs ls hl hn hP hS hk hcs hss
  unfold s_table at hk
  split at hk
  · rename_i x t
    split at hk
    · rename_i hx
      exact lv_tableOut G.1 G.2.1 hd hx ht (h1 _ _ _ _ _ _ hl hn hP hS hk hcs hss)
    · rename_i hx
      split at hk
      · rename_i k hki
        have hi2 : (x.toInt - lo).toNat < tgts.length := by rw [hl2]; exact (List.getElem?_eq_some_iff.mp hki).1
        have e1 : (offs.toList.map (fun o => (pc : Int) + o))[(x.toInt - lo).toNat]? = some ((tgts[(x.toInt - lo).toNat] : Nat) : Int) := by
          rw [ho, List.getElem?_map, List.getElem?_eq_getElem hi2]; rfl
        rw [List.getElem?_map] at e1
        cases hof : offs.toList[(x.toInt - lo).toNat]? with
        | none => rw [hof] at e1; cases e1
        | some off =>
          rw [hof] at e1
          refine lv_tableIn G.1 G.2.1 hd (fun z => hx (Or.inl z)) (fun z => hx (Or.inr z)) (off := off) (by rw [← Array.getElem?_toList]; exact hof) (tgt := tgts[(x.toInt - lo).toNat]) (Option.some.inj e1) ?_
          exact h2 _ _ _ (List.getElem?_eq_getElem hi2) hki _ _ _ _ _ _ hl hn hP hS hk hcs hss
      · cases hk
  · cases hk
