/-- the words of the tables that speak of nest mates -/
def gIsNw : Cond → Bool
  | .fieldLinkNest .. => true
  | .methodLinkNest .. => true
  | .declares .. => true
  | .castable .. => true
  | _ => false
def gNw : List Cond := tables_1.filter gIsNw
/-! ===== one instruction, one row: k is what the rest of the method does ===== -/
/-- what a body's walk is about: the machine's part, the set of cells that it may change, the classes, the addresses, the world's form, the end that is come to, the code, the class's name, what holds of the state at any time, the first free address at the law's start -/
abbrev gG : Type := (Program × Launch × Env × Room × State × MethodId × Array Value × List Frame × Method × Code × (State → Prop)) × (Nat → Prop) × va_G × (Nat → ClassId) × (Nat → Nat) × List gL × (gR × gM) × ByteArray × String × (State → Prop) × Nat × (Nat → Nat)
abbrev gTy (cA : Nat → ClassId) : List (ClassId × FieldType) := [(cA 0, .int), (cA 1, .boolean), (cA 2, .long), (cA 3, .object "PressureNet$State")]
def gcc (γ : gG) : ByteArray := match γ with
  | (_, _, _, _, _, _, _, cc, _, _, _, _) => cc
def gly (γ : gG) : List gL := match γ with
  | (_, _, _, _, _, lay, _, _, _, _, _, _) => lay
def gow (γ : gG) : String := match γ with
  | (_, _, _, _, _, _, _, _, own, _, _, _) => own
def grm (γ : gG) : Room := match γ with
  | ((_, _, _, R, _), _) => R
def grt (γ : gG) : Option FieldType := match γ with
  | ((_, _, _, _, _, _, _, _, meth, _, _), _) => meth.sig.returnType
abbrev gb_add (x y : Int32) : Int32 := x + y
abbrev gb_sub (x y : Int32) : Int32 := x - y
abbrev gb_mul (x y : Int32) : Int32 := x * y
abbrev gb_and (x y : Int32) : Int32 := x &&& y
abbrev gb_or (x y : Int32) : Int32 := x ||| y
abbrev gb_xor (x y : Int32) : Int32 := x ^^^ y
abbrev gb_shl (x y : Int32) : Int32 := x <<< (y &&& 31)
abbrev gb_shr (x y : Int32) : Int32 := x >>> (y &&& 31)
abbrev gb_ushr (x y : Int32) : Int32 := (x.toUInt32 >>> (y.toUInt32 &&& Int32.toUInt32 31)).toInt32
abbrev gb_div (x y : Int32) : Int32 := x / y
abbrev gb_rem (x y : Int32) : Int32 := x - x / y * y
abbrev gb_ladd (x y : Int64) : Int64 := x + y
abbrev gb_lmul (x y : Int64) : Int64 := x * y
abbrev gc_eq (x y : Int32) : Bool := decide (x = y)
abbrev gc_ne (x y : Int32) : Bool := decide (x ≠ y)
abbrev gc_lt (x y : Int32) : Bool := decide (x < y)
abbrev gc_ge (x y : Int32) : Bool := decide (y ≤ x)
abbrev gc_gt (x y : Int32) : Bool := decide (y < x)
abbrev gc_le (x y : Int32) : Bool := decide (x ≤ y)
abbrev gz_eq (x : Int32) : Bool := decide (x = 0)
abbrev gz_ne (x : Int32) : Bool := decide (x ≠ 0)
abbrev gz_lt (x : Int32) : Bool := decide (x < 0)
abbrev gz_ge (x : Int32) : Bool := decide (0 ≤ x)
abbrev gz_gt (x : Int32) : Bool := decide (0 < x)
abbrev gz_le (x : Int32) : Bool := decide (x ≤ 0)
abbrev gj_max (x y : Int32) : Int32 := if x < y then y else x
abbrev gj_min (x y : Int32) : Int32 := if y < x then y else x
/-- the walk's standing facts -/
def gOK (γ : gG) : Prop := match γ with
  | ((p, l, e, R, s, m, args, below, meth, c, Q), A, D, cA, ad, lay, fin, cc, own, E, n0, ra) =>
    p.tables.exec = Jvm.exec ∧ c.code = cc ∧ s.vm.findClass own = some m.cls ∧ (∀ w ∈ gTb, w.before args s = true) ∧ va_K D vwCl (gTy cA) s ∧ gD A ad lay.length ∧ (∀ q : Nat, s.heap.size ≤ q → A q) ∧ (E s ∧ (∀ w ∈ gNw, va_Nw w s) ∧ ∀ k : Nat, ad (1000 + k) = ra k) ∧ n0 ≤ s.heap.size ∧ (∀ q : Nat, A q → n0 ≤ q) ∧
    (∀ (H : Heap) (locs : List Loc) (pc : Nat) (ls : Array Slot) (v : Option Value) (cs ss : Nat), va_P D vwCl (gW cA ad fin.2 0 lay) H → va_S A s.heap H locs → cs ≤ R.cells → ss ≤ R.slots → fin.1 = .inl v →
      (match v with
        | some (.int x) => decode cc pc = .ok (.ireturn, 1) ∧ (meth.sig.returnType = some .int ∨ ∃ ty : FieldType, meth.sig.returnType = some ty ∧ narrow ty (.int x) = .int x)
        | some (.long _) => decode cc pc = .ok (.lreturn, 1) ∧ meth.sig.returnType = some .long
        | none => decode cc pc = .ok (.return_, 1) ∧ meth.sig.returnType = none
        | _ => False) → W p l e R s m args below meth c H locs cs ss Q (F0 m pc ls v.toList)) ∧
    ∀ En : String, fin.1 = .inr En → ∃ (Qc : Array Value → State → Outcome → State → Prop) (XC : String → State → State → Prop) (free : Addr → Prop), Q = vx_MQ below Qc XC args s R.cells R.slots free ∧ (∀ q : Nat, A q → free q) ∧ meth.locks = false ∧ (∀ x ∈ c.exceptionTable.toList, False) ∧ ∀ (H : Heap) (locs : List Loc) (t : State), va_P D vwCl (gW cA ad fin.2 0 lay) H → va_S A s.heap H locs → s.vm.Alike t.vm → H.size ≤ t.heap.size → (∀ q : Nat, q < H.size → t.heap[q]? = H[q]?) → XC En s t
/-- at pc, with locals, stack and numbers: whenever what is left to do comes to the given end, the machine comes to its own -/
def gSm (γ : gG) (cs ss pc : Nat) (k : gK) : Prop := match γ with
  | ((p, l, e, R, s, m, args, below, meth, c, Q), A, D, cA, ad, lay, fin, _, _, _, _, _) =>
    ∀ (L : List (Option Value)) (st : List Value) (I : gM) (H : Heap) (locs : List Loc) (ls : Array Slot), gLs ad ls L → L.length = c.maxLocals → va_P D vwCl (gW cA ad I 0 lay) H → va_S A s.heap H locs → k L st I = some fin → cs ≤ R.cells → ss ≤ R.slots → W p l e R s m args below meth c H locs cs ss Q (F0 m pc ls (st.map (gv ad)))

def s_const (v : Int32) (k : gK) : gK := fun L st I => k L (.int v :: st) I
def s_lconst (v : Int64) (k : gK) : gK := fun L st I => k L (.long v :: st) I
def s_load (i : Nat) (k : gK) : gK := fun L st I => match L[i]? with
  | some (some v) => k L (v :: st) I
  | _ => none
def s_iload (i : Nat) (k : gK) : gK := fun L st I => match L[i]? with
  | some (some (.int x)) => k L (.int x :: st) I
  | _ => none
def s_lload (i : Nat) (k : gK) : gK := fun L st I => match L[i]? with
  | some (some (.long x)) => k L (.long x :: st) I
  | _ => none
def s_aload (i : Nat) (k : gK) : gK := fun L st I => match L[i]? with
  | some (some (.ref x)) => k L (.ref x :: st) I
  | _ => none
def s_istore (i : Nat) (k : gK) : gK := fun L st I => match st with
  | .int x :: t => if i < L.length then k (gSt L i (.int x)) t I else none
  | _ => none
def s_astore (i : Nat) (k : gK) : gK := fun L st I => match st with
  | .ref x :: t => if i < L.length then k (gSt L i (.ref x)) t I else none
  | _ => none
def s_lstore (i : Nat) (k : gK) : gK := fun L st I => match st with
  | .long x :: t => if i + 1 < L.length then k (gSl L i (.long x)) t I else none
  | _ => none
def s_iinc (i : Nat) (n : Int32) (k : gK) : gK := fun L st I => match L[i]? with
  | some (some (.int x)) => k (gSt L i (.int (x + n))) st I
  | _ => none
def s_bin (f : Int32 → Int32 → Int32) (k : gK) : gK := fun L st I => match st with
  | .int y :: .int x :: t => k L (.int (f x y) :: t) I
  | _ => none
def s_div (f : Int32 → Int32 → Int32) (k : gK) : gK := fun L st I => match st with
  | .int y :: .int x :: t => if y = 0 then none else k L (.int (f x y) :: t) I
  | _ => none
def s_lbin (f : Int64 → Int64 → Int64) (k : gK) : gK := fun L st I => match st with
  | .long y :: .long x :: t => k L (.long (f x y) :: t) I
  | _ => none
def s_i2l (k : gK) : gK := fun L st I => match st with
  | .int x :: t => k L (.long x.toInt64 :: t) I
  | _ => none
def s_l2i (k : gK) : gK := fun L st I => match st with
  | .long x :: t => k L (.int x.toInt32 :: t) I
  | _ => none
def s_dup (k : gK) : gK := fun L st I => match st with
  | v :: t => if v.category = 1 then k L (v :: v :: t) I else none
  | _ => none
def s_dup2 (k : gK) : gK := fun L st I => match st with
  | v :: w :: t => if v.category = 1 ∧ w.category = 1 then k L (v :: w :: v :: w :: t) I else none
  | _ => none
def s_pop (k : gK) : gK := fun L st I => match st with
  | v :: t => if v.category = 1 then k L t I else none
  | _ => none
/-- a branch on one number: taken, or not -/
def s_if (c : Int32 → Bool) (kt kf : gK) : gK := fun L st I => match st with
  | .int x :: t => if c x = true then kt L t I else kf L t I
  | _ => none
def s_cmp (c : Int32 → Int32 → Bool) (kt kf : gK) : gK := fun L st I => match st with
  | .int y :: .int x :: t => if c x y = true then kt L t I else kf L t I
  | _ => none
def s_mask (m : List Bool) (k : gK) : gK := fun L st I => k (gMask m L) st I
def s_lp (body : gK → gK) : Nat → gK
  | 0 => fun _ _ _ => none
  | n + 1 => body (s_lp body n)
def s_iret : gK := fun _ st I => match st with
  | [.int x] => some (.inl (some (.int x)), I)
  | _ => none
def s_zret : gK := fun _ st I => match st with
  | [.int x] => if x = 0 ∨ x = 1 then some (.inl (some (.int x)), I) else none
  | _ => none
def s_cret : gK := fun _ st I => match st with
  | [.int x] => if (x.toUInt32 % 65536).toInt32 = x then some (.inl (some (.int x)), I) else none
  | _ => none
def s_bret : gK := fun _ st I => match st with
  | [.int x] => if x.toInt8.toInt32 = x then some (.inl (some (.int x)), I) else none
  | _ => none
def s_none : gK := fun _ _ _ => none
def s_lret : gK := fun _ st I => match st with
  | [.long x] => some (.inl (some (.long x)), I)
  | _ => none
def s_vret : gK := fun _ st I => match st with
  | [] => some (.inl none, I)
  | _ => none

theorem sm_iconst {γ : gG} {cs ss pc : Nat} {k : gK} {cc : ByteArray} (G : gOK γ) (hb : gcc γ = cc) {n : Int} {v : Int32} (hd : decode cc pc = .ok (.iconst n, 1)) (hv : Int32.ofInt n = v) (h : gSm γ cs ss (pc + 1) k) : gSm γ cs ss pc (s_const v k) := by
  obtain ⟨⟨p, l, e, R, s, m, args, below, meth, c, Q⟩, A, D, cA, ad, lay, fin, cc', own, E, n0, ra⟩ := γ
  subst hb
  intro L st I H locs ls hl hn hP hS hk hcs hss
  exact lv_iconst G.1 G.2.1 hd hv (h _ _ _ _ _ _ hl hn hP hS hk hcs hss)

theorem sm_bipush {γ : gG} {cs ss pc : Nat} {k : gK} {cc : ByteArray} (G : gOK γ) (hb : gcc γ = cc) {n : Int} {v : Int32} (hd : decode cc pc = .ok (.bipush n, 2)) (hv : (Int8.ofInt n).toInt32 = v) (h : gSm γ cs ss (pc + 2) k) : gSm γ cs ss pc (s_const v k) := by
  obtain ⟨⟨p, l, e, R, s, m, args, below, meth, c, Q⟩, A, D, cA, ad, lay, fin, cc', own, E, n0, ra⟩ := γ
  subst hb
  intro L st I H locs ls hl hn hP hS hk hcs hss
  exact lv_bipush G.1 G.2.1 hd hv (h _ _ _ _ _ _ hl hn hP hS hk hcs hss)

theorem sm_sipush {γ : gG} {cs ss pc : Nat} {k : gK} {cc : ByteArray} (G : gOK γ) (hb : gcc γ = cc) {n : Int} {v : Int32} (hd : decode cc pc = .ok (.sipush n, 3)) (hv : (Int16.ofInt n).toInt32 = v) (h : gSm γ cs ss (pc + 3) k) : gSm γ cs ss pc (s_const v k) := by
  obtain ⟨⟨p, l, e, R, s, m, args, below, meth, c, Q⟩, A, D, cA, ad, lay, fin, cc', own, E, n0, ra⟩ := γ
  subst hb
  intro L st I H locs ls hl hn hP hS hk hcs hss
  exact lv_sipush G.1 G.2.1 hd hv (h _ _ _ _ _ _ hl hn hP hS hk hcs hss)

theorem sm_lconst {γ : gG} {cs ss pc : Nat} {k : gK} {cc : ByteArray} (G : gOK γ) (hb : gcc γ = cc) {n : Fin 2} {v : Int64} (hd : decode cc pc = .ok (.lconst n, 1)) (hv : Int64.ofNat (n : Nat) = v) (h : gSm γ cs ss (pc + 1) k) : gSm γ cs ss pc (s_lconst v k) := by
  obtain ⟨⟨p, l, e, R, s, m, args, below, meth, c, Q⟩, A, D, cA, ad, lay, fin, cc', own, E, n0, ra⟩ := γ
  subst hb
  intro L st I H locs ls hl hn hP hS hk hcs hss
  exact lv_lconst G.1 G.2.1 hd hv (h _ _ _ _ _ _ hl hn hP hS hk hcs hss)

theorem sm_iload_n {γ : gG} {cs ss pc : Nat} {k : gK} {cc : ByteArray} (G : gOK γ) (hb : gcc γ = cc) {q : Fin 4} {i : Nat} (hd : decode cc pc = .ok (.iload_n q, 1)) (hi : (q : Nat) = i) (h : gSm γ cs ss (pc + 1) k) : gSm γ cs ss pc (s_iload i k) := by
  obtain ⟨⟨p, l, e, R, s, m, args, below, meth, c, Q⟩, A, D, cA, ad, lay, fin, cc', own, E, n0, ra⟩ := γ
  subst hb
  intro L st I H locs ls hl hn hP hS hk hcs hss
  unfold s_iload at hk
  split at hk
  · rename_i x hx
    exact lv_iload_n G.1 G.2.1 hd hi (hl.at hx) (h _ _ _ _ _ _ hl hn hP hS hk hcs hss)
  · cases hk

theorem sm_iload {γ : gG} {cs ss pc : Nat} {k : gK} {cc : ByteArray} (G : gOK γ) (hb : gcc γ = cc) {i : Nat} (hd : decode cc pc = .ok (.iload i, 2)) (h : gSm γ cs ss (pc + 2) k) : gSm γ cs ss pc (s_iload i k) := by
  obtain ⟨⟨p, l, e, R, s, m, args, below, meth, c, Q⟩, A, D, cA, ad, lay, fin, cc', own, E, n0, ra⟩ := γ
  subst hb
  intro L st I H locs ls hl hn hP hS hk hcs hss
  unfold s_iload at hk
  split at hk
  · rename_i x hx
    exact lv_iload G.1 G.2.1 hd (hl.at hx) (h _ _ _ _ _ _ hl hn hP hS hk hcs hss)
  · cases hk

theorem sm_lload_n {γ : gG} {cs ss pc : Nat} {k : gK} {cc : ByteArray} (G : gOK γ) (hb : gcc γ = cc) {q : Fin 4} {i : Nat} (hd : decode cc pc = .ok (.lload_n q, 1)) (hi : (q : Nat) = i) (h : gSm γ cs ss (pc + 1) k) : gSm γ cs ss pc (s_lload i k) := by
  obtain ⟨⟨p, l, e, R, s, m, args, below, meth, c, Q⟩, A, D, cA, ad, lay, fin, cc', own, E, n0, ra⟩ := γ
  subst hb
  intro L st I H locs ls hl hn hP hS hk hcs hss
  unfold s_lload at hk
  split at hk
  · rename_i x hx
    exact lv_lload_n G.1 G.2.1 hd hi (hl.at hx) (h _ _ _ _ _ _ hl hn hP hS hk hcs hss)
  · cases hk

theorem sm_lload {γ : gG} {cs ss pc : Nat} {k : gK} {cc : ByteArray} (G : gOK γ) (hb : gcc γ = cc) {i : Nat} (hd : decode cc pc = .ok (.lload i, 2)) (h : gSm γ cs ss (pc + 2) k) : gSm γ cs ss pc (s_lload i k) := by
  obtain ⟨⟨p, l, e, R, s, m, args, below, meth, c, Q⟩, A, D, cA, ad, lay, fin, cc', own, E, n0, ra⟩ := γ
  subst hb
  intro L st I H locs ls hl hn hP hS hk hcs hss
  unfold s_lload at hk
  split at hk
  · rename_i x hx
    exact lv_lload G.1 G.2.1 hd (hl.at hx) (h _ _ _ _ _ _ hl hn hP hS hk hcs hss)
  · cases hk

theorem sm_aload_n {γ : gG} {cs ss pc : Nat} {k : gK} {cc : ByteArray} (G : gOK γ) (hb : gcc γ = cc) {q : Fin 4} {i : Nat} (hd : decode cc pc = .ok (.aload_n q, 1)) (hi : (q : Nat) = i) (h : gSm γ cs ss (pc + 1) k) : gSm γ cs ss pc (s_aload i k) := by
  obtain ⟨⟨p, l, e, R, s, m, args, below, meth, c, Q⟩, A, D, cA, ad, lay, fin, cc', own, E, n0, ra⟩ := γ
  subst hb
  intro L st I H locs ls hl hn hP hS hk hcs hss
  unfold s_aload at hk
  split at hk
  · rename_i x hx
    exact lv_aload_n G.1 G.2.1 hd hi (hl.at hx) (h _ _ _ _ _ _ hl hn hP hS hk hcs hss)
  · cases hk

theorem sm_aload {γ : gG} {cs ss pc : Nat} {k : gK} {cc : ByteArray} (G : gOK γ) (hb : gcc γ = cc) {i : Nat} (hd : decode cc pc = .ok (.aload i, 2)) (h : gSm γ cs ss (pc + 2) k) : gSm γ cs ss pc (s_aload i k) := by
  obtain ⟨⟨p, l, e, R, s, m, args, below, meth, c, Q⟩, A, D, cA, ad, lay, fin, cc', own, E, n0, ra⟩ := γ
  subst hb
  intro L st I H locs ls hl hn hP hS hk hcs hss
  unfold s_aload at hk
  split at hk
  · rename_i x hx
    exact lv_aload G.1 G.2.1 hd (hl.at hx) (h _ _ _ _ _ _ hl hn hP hS hk hcs hss)
  · cases hk

theorem sm_istore_n {γ : gG} {cs ss pc : Nat} {k : gK} {cc : ByteArray} (G : gOK γ) (hb : gcc γ = cc) {q : Fin 4} {i : Nat} (hd : decode cc pc = .ok (.istore_n q, 1)) (hi : (q : Nat) = i) (h : gSm γ cs ss (pc + 1) k) : gSm γ cs ss pc (s_istore i k) := by
  obtain ⟨⟨p, l, e, R, s, m, args, below, meth, c, Q⟩, A, D, cA, ad, lay, fin, cc', own, E, n0, ra⟩ := γ
  subst hb
  intro L st I H locs ls hl hn hP hS hk hcs hss
  unfold s_istore at hk
  split at hk
  · rename_i x t
    split at hk
    · rename_i hi2
      exact lv_istore_n G.1 G.2.1 hd hi hl hi2 rfl (fun ls' hl' => h _ _ _ _ _ _ (gLs.st (v := .int x) hi2 hl') ((gSt_len _ _ _).trans hn) hP hS hk hcs hss)
    · cases hk
  · cases hk

theorem sm_istore {γ : gG} {cs ss pc : Nat} {k : gK} {cc : ByteArray} (G : gOK γ) (hb : gcc γ = cc) {i : Nat} (hd : decode cc pc = .ok (.istore i, 2)) (h : gSm γ cs ss (pc + 2) k) : gSm γ cs ss pc (s_istore i k) := by
  obtain ⟨⟨p, l, e, R, s, m, args, below, meth, c, Q⟩, A, D, cA, ad, lay, fin, cc', own, E, n0, ra⟩ := γ
  subst hb
  intro L st I H locs ls hl hn hP hS hk hcs hss
  unfold s_istore at hk
  split at hk
  · rename_i x t
    split at hk
    · rename_i hi2
      exact lv_istore G.1 G.2.1 hd hl hi2 rfl (fun ls' hl' => h _ _ _ _ _ _ (gLs.st (v := .int x) hi2 hl') ((gSt_len _ _ _).trans hn) hP hS hk hcs hss)
    · cases hk
  · cases hk

theorem sm_astore_n {γ : gG} {cs ss pc : Nat} {k : gK} {cc : ByteArray} (G : gOK γ) (hb : gcc γ = cc) {q : Fin 4} {i : Nat} (hd : decode cc pc = .ok (.astore_n q, 1)) (hi : (q : Nat) = i) (h : gSm γ cs ss (pc + 1) k) : gSm γ cs ss pc (s_astore i k) := by
  obtain ⟨⟨p, l, e, R, s, m, args, below, meth, c, Q⟩, A, D, cA, ad, lay, fin, cc', own, E, n0, ra⟩ := γ
  subst hb
  intro L st I H locs ls hl hn hP hS hk hcs hss
  unfold s_astore at hk
  split at hk
  · rename_i x t
    split at hk
    · rename_i hi2
      exact lv_astore_n G.1 G.2.1 hd hi hl hi2 rfl (fun ls' hl' => h _ _ _ _ _ _ (gLs.st (v := .ref x) hi2 hl') ((gSt_len _ _ _).trans hn) hP hS hk hcs hss)
    · cases hk
  · cases hk

theorem sm_astore {γ : gG} {cs ss pc : Nat} {k : gK} {cc : ByteArray} (G : gOK γ) (hb : gcc γ = cc) {i : Nat} (hd : decode cc pc = .ok (.astore i, 2)) (h : gSm γ cs ss (pc + 2) k) : gSm γ cs ss pc (s_astore i k) := by
  obtain ⟨⟨p, l, e, R, s, m, args, below, meth, c, Q⟩, A, D, cA, ad, lay, fin, cc', own, E, n0, ra⟩ := γ
  subst hb
  intro L st I H locs ls hl hn hP hS hk hcs hss
  unfold s_astore at hk
  split at hk
  · rename_i x t
    split at hk
    · rename_i hi2
      exact lv_astore G.1 G.2.1 hd hl hi2 rfl (fun ls' hl' => h _ _ _ _ _ _ (gLs.st (v := .ref x) hi2 hl') ((gSt_len _ _ _).trans hn) hP hS hk hcs hss)
    · cases hk
  · cases hk

theorem sm_lstore_n {γ : gG} {cs ss pc : Nat} {k : gK} {cc : ByteArray} (G : gOK γ) (hb : gcc γ = cc) {q : Fin 4} {i : Nat} (hd : decode cc pc = .ok (.lstore_n q, 1)) (hi : (q : Nat) = i) (h : gSm γ cs ss (pc + 1) k) : gSm γ cs ss pc (s_lstore i k) := by
  obtain ⟨⟨p, l, e, R, s, m, args, below, meth, c, Q⟩, A, D, cA, ad, lay, fin, cc', own, E, n0, ra⟩ := γ
  subst hb
  intro L st I H locs ls hl hn hP hS hk hcs hss
  unfold s_lstore at hk
  split at hk
  · rename_i x t
    split at hk
    · rename_i hi2
      exact lv_lstore_n G.1 G.2.1 hd hi hl hi2 rfl (fun ls' hl' => h _ _ _ _ _ _ (gLs.sl (v := .long x) hi2 hl') ((gSl_len _ _ _).trans hn) hP hS hk hcs hss)
    · cases hk
  · cases hk

theorem sm_lstore {γ : gG} {cs ss pc : Nat} {k : gK} {cc : ByteArray} (G : gOK γ) (hb : gcc γ = cc) {i : Nat} (hd : decode cc pc = .ok (.lstore i, 2)) (h : gSm γ cs ss (pc + 2) k) : gSm γ cs ss pc (s_lstore i k) := by
  obtain ⟨⟨p, l, e, R, s, m, args, below, meth, c, Q⟩, A, D, cA, ad, lay, fin, cc', own, E, n0, ra⟩ := γ
  subst hb
  intro L st I H locs ls hl hn hP hS hk hcs hss
  unfold s_lstore at hk
  split at hk
  · rename_i x t
    split at hk
    · rename_i hi2
      exact lv_lstore G.1 G.2.1 hd hl hi2 rfl (fun ls' hl' => h _ _ _ _ _ _ (gLs.sl (v := .long x) hi2 hl') ((gSl_len _ _ _).trans hn) hP hS hk hcs hss)
    · cases hk
  · cases hk

theorem sm_iinc {γ : gG} {cs ss pc : Nat} {k : gK} {cc : ByteArray} (G : gOK γ) (hb : gcc γ = cc) {i : Nat} {n : Int} {v : Int32} (hd : decode cc pc = .ok (.iinc i n, 3)) (hv : Int32.ofInt n = v) (h : gSm γ cs ss (pc + 3) k) : gSm γ cs ss pc (s_iinc i v k) := by
  obtain ⟨⟨p, l, e, R, s, m, args, below, meth, c, Q⟩, A, D, cA, ad, lay, fin, cc', own, E, n0, ra⟩ := γ
  subst hb
  intro L st I H locs ls hl hn hP hS hk hcs hss
  unfold s_iinc at hk
  split at hk
  · rename_i x hx
    have hi2 : i < L.length := (List.getElem?_eq_some_iff.mp hx).1
    obtain ⟨k0, hk0⟩ := List.getElem?_of_mem (gAv_mem (ad := ad).mpr ⟨_, hx, rfl⟩ : ((i, gv ad (.int x)) : Nat × Value) ∈ gAv ad L)
    subst hv
    exact lv_iinc G.1 G.2.1 hd hl hk0 rfl hi2 rfl (fun ls' hl' => h _ _ _ _ _ _ (gLs.st (v := .int _) hi2 hl') ((gSt_len _ _ _).trans hn) hP hS hk hcs hss)
  · cases hk

theorem sm_iadd {γ : gG} {cs ss pc : Nat} {k : gK} {cc : ByteArray} (G : gOK γ) (hb : gcc γ = cc) (hd : decode cc pc = .ok (.iadd, 1)) (h : gSm γ cs ss (pc + 1) k) : gSm γ cs ss pc (s_bin gb_add k) := by
  obtain ⟨⟨p, l, e, R, s, m, args, below, meth, c, Q⟩, A, D, cA, ad, lay, fin, cc', own, E, n0, ra⟩ := γ
  subst hb
  intro L st I H locs ls hl hn hP hS hk hcs hss
  unfold s_bin at hk
  split at hk
  · exact lv_iadd G.1 G.2.1 hd (h _ _ _ _ _ _ hl hn hP hS hk hcs hss)
  · cases hk

theorem sm_isub {γ : gG} {cs ss pc : Nat} {k : gK} {cc : ByteArray} (G : gOK γ) (hb : gcc γ = cc) (hd : decode cc pc = .ok (.isub, 1)) (h : gSm γ cs ss (pc + 1) k) : gSm γ cs ss pc (s_bin gb_sub k) := by
  obtain ⟨⟨p, l, e, R, s, m, args, below, meth, c, Q⟩, A, D, cA, ad, lay, fin, cc', own, E, n0, ra⟩ := γ
  subst hb
  intro L st I H locs ls hl hn hP hS hk hcs hss
  unfold s_bin at hk
  split at hk
  · exact lv_isub G.1 G.2.1 hd (h _ _ _ _ _ _ hl hn hP hS hk hcs hss)
  · cases hk

theorem sm_imul {γ : gG} {cs ss pc : Nat} {k : gK} {cc : ByteArray} (G : gOK γ) (hb : gcc γ = cc) (hd : decode cc pc = .ok (.imul, 1)) (h : gSm γ cs ss (pc + 1) k) : gSm γ cs ss pc (s_bin gb_mul k) := by
  obtain ⟨⟨p, l, e, R, s, m, args, below, meth, c, Q⟩, A, D, cA, ad, lay, fin, cc', own, E, n0, ra⟩ := γ
  subst hb
  intro L st I H locs ls hl hn hP hS hk hcs hss
  unfold s_bin at hk
  split at hk
  · exact lv_imul G.1 G.2.1 hd (h _ _ _ _ _ _ hl hn hP hS hk hcs hss)
  · cases hk

theorem sm_iand {γ : gG} {cs ss pc : Nat} {k : gK} {cc : ByteArray} (G : gOK γ) (hb : gcc γ = cc) (hd : decode cc pc = .ok (.iand, 1)) (h : gSm γ cs ss (pc + 1) k) : gSm γ cs ss pc (s_bin gb_and k) := by
  obtain ⟨⟨p, l, e, R, s, m, args, below, meth, c, Q⟩, A, D, cA, ad, lay, fin, cc', own, E, n0, ra⟩ := γ
  subst hb
  intro L st I H locs ls hl hn hP hS hk hcs hss
  unfold s_bin at hk
  split at hk
  · exact lv_iand G.1 G.2.1 hd (h _ _ _ _ _ _ hl hn hP hS hk hcs hss)
  · cases hk

theorem sm_ior {γ : gG} {cs ss pc : Nat} {k : gK} {cc : ByteArray} (G : gOK γ) (hb : gcc γ = cc) (hd : decode cc pc = .ok (.ior, 1)) (h : gSm γ cs ss (pc + 1) k) : gSm γ cs ss pc (s_bin gb_or k) := by
  obtain ⟨⟨p, l, e, R, s, m, args, below, meth, c, Q⟩, A, D, cA, ad, lay, fin, cc', own, E, n0, ra⟩ := γ
  subst hb
  intro L st I H locs ls hl hn hP hS hk hcs hss
  unfold s_bin at hk
  split at hk
  · exact lv_ior G.1 G.2.1 hd (h _ _ _ _ _ _ hl hn hP hS hk hcs hss)
  · cases hk

theorem sm_ixor {γ : gG} {cs ss pc : Nat} {k : gK} {cc : ByteArray} (G : gOK γ) (hb : gcc γ = cc) (hd : decode cc pc = .ok (.ixor, 1)) (h : gSm γ cs ss (pc + 1) k) : gSm γ cs ss pc (s_bin gb_xor k) := by
  obtain ⟨⟨p, l, e, R, s, m, args, below, meth, c, Q⟩, A, D, cA, ad, lay, fin, cc', own, E, n0, ra⟩ := γ
  subst hb
  intro L st I H locs ls hl hn hP hS hk hcs hss
  unfold s_bin at hk
  split at hk
  · exact lv_ixor G.1 G.2.1 hd (h _ _ _ _ _ _ hl hn hP hS hk hcs hss)
  · cases hk

theorem sm_ishl {γ : gG} {cs ss pc : Nat} {k : gK} {cc : ByteArray} (G : gOK γ) (hb : gcc γ = cc) (hd : decode cc pc = .ok (.ishl, 1)) (h : gSm γ cs ss (pc + 1) k) : gSm γ cs ss pc (s_bin gb_shl k) := by
  obtain ⟨⟨p, l, e, R, s, m, args, below, meth, c, Q⟩, A, D, cA, ad, lay, fin, cc', own, E, n0, ra⟩ := γ
  subst hb
  intro L st I H locs ls hl hn hP hS hk hcs hss
  unfold s_bin at hk
  split at hk
  · exact lv_ishl G.1 G.2.1 hd (h _ _ _ _ _ _ hl hn hP hS hk hcs hss)
  · cases hk

theorem sm_ishr {γ : gG} {cs ss pc : Nat} {k : gK} {cc : ByteArray} (G : gOK γ) (hb : gcc γ = cc) (hd : decode cc pc = .ok (.ishr, 1)) (h : gSm γ cs ss (pc + 1) k) : gSm γ cs ss pc (s_bin gb_shr k) := by
  obtain ⟨⟨p, l, e, R, s, m, args, below, meth, c, Q⟩, A, D, cA, ad, lay, fin, cc', own, E, n0, ra⟩ := γ
  subst hb
  intro L st I H locs ls hl hn hP hS hk hcs hss
  unfold s_bin at hk
  split at hk
  · exact lv_ishr G.1 G.2.1 hd (h _ _ _ _ _ _ hl hn hP hS hk hcs hss)
  · cases hk

theorem sm_iushr {γ : gG} {cs ss pc : Nat} {k : gK} {cc : ByteArray} (G : gOK γ) (hb : gcc γ = cc) (hd : decode cc pc = .ok (.iushr, 1)) (h : gSm γ cs ss (pc + 1) k) : gSm γ cs ss pc (s_bin gb_ushr k) := by
  obtain ⟨⟨p, l, e, R, s, m, args, below, meth, c, Q⟩, A, D, cA, ad, lay, fin, cc', own, E, n0, ra⟩ := γ
  subst hb
  intro L st I H locs ls hl hn hP hS hk hcs hss
  unfold s_bin at hk
  split at hk
  · exact lv_iushr G.1 G.2.1 hd rfl (h _ _ _ _ _ _ hl hn hP hS hk hcs hss)
  · cases hk

theorem sm_idiv {γ : gG} {cs ss pc : Nat} {k : gK} {cc : ByteArray} (G : gOK γ) (hb : gcc γ = cc) (hd : decode cc pc = .ok (.idiv, 1)) (h : gSm γ cs ss (pc + 1) k) : gSm γ cs ss pc (s_div gb_div k) := by
  obtain ⟨⟨p, l, e, R, s, m, args, below, meth, c, Q⟩, A, D, cA, ad, lay, fin, cc', own, E, n0, ra⟩ := γ
  subst hb
  intro L st I H locs ls hl hn hP hS hk hcs hss
  unfold s_div at hk
  split at hk
  · split at hk
    · cases hk
    · rename_i hne
      exact lv_idiv G.1 G.2.1 hd hne (h _ _ _ _ _ _ hl hn hP hS hk hcs hss)
  · cases hk

theorem sm_irem {γ : gG} {cs ss pc : Nat} {k : gK} {cc : ByteArray} (G : gOK γ) (hb : gcc γ = cc) (hd : decode cc pc = .ok (.irem, 1)) (h : gSm γ cs ss (pc + 1) k) : gSm γ cs ss pc (s_div gb_rem k) := by
  obtain ⟨⟨p, l, e, R, s, m, args, below, meth, c, Q⟩, A, D, cA, ad, lay, fin, cc', own, E, n0, ra⟩ := γ
  subst hb
  intro L st I H locs ls hl hn hP hS hk hcs hss
  unfold s_div at hk
  split at hk
  · split at hk
    · cases hk
    · rename_i hne
      exact lv_irem G.1 G.2.1 hd hne (h _ _ _ _ _ _ hl hn hP hS hk hcs hss)
  · cases hk

theorem sm_ladd {γ : gG} {cs ss pc : Nat} {k : gK} {cc : ByteArray} (G : gOK γ) (hb : gcc γ = cc) (hd : decode cc pc = .ok (.ladd, 1)) (h : gSm γ cs ss (pc + 1) k) : gSm γ cs ss pc (s_lbin gb_ladd k) := by
  obtain ⟨⟨p, l, e, R, s, m, args, below, meth, c, Q⟩, A, D, cA, ad, lay, fin, cc', own, E, n0, ra⟩ := γ
  subst hb
  intro L st I H locs ls hl hn hP hS hk hcs hss
  unfold s_lbin at hk
  split at hk
  · exact lv_ladd G.1 G.2.1 hd (h _ _ _ _ _ _ hl hn hP hS hk hcs hss)
  · cases hk

theorem sm_lmul {γ : gG} {cs ss pc : Nat} {k : gK} {cc : ByteArray} (G : gOK γ) (hb : gcc γ = cc) (hd : decode cc pc = .ok (.lmul, 1)) (h : gSm γ cs ss (pc + 1) k) : gSm γ cs ss pc (s_lbin gb_lmul k) := by
  obtain ⟨⟨p, l, e, R, s, m, args, below, meth, c, Q⟩, A, D, cA, ad, lay, fin, cc', own, E, n0, ra⟩ := γ
  subst hb
  intro L st I H locs ls hl hn hP hS hk hcs hss
  unfold s_lbin at hk
  split at hk
  · exact lv_lmul G.1 G.2.1 hd (h _ _ _ _ _ _ hl hn hP hS hk hcs hss)
  · cases hk

theorem sm_i2l {γ : gG} {cs ss pc : Nat} {k : gK} {cc : ByteArray} (G : gOK γ) (hb : gcc γ = cc) (hd : decode cc pc = .ok (.i2l, 1)) (h : gSm γ cs ss (pc + 1) k) : gSm γ cs ss pc (s_i2l k) := by
  obtain ⟨⟨p, l, e, R, s, m, args, below, meth, c, Q⟩, A, D, cA, ad, lay, fin, cc', own, E, n0, ra⟩ := γ
  subst hb
  intro L st I H locs ls hl hn hP hS hk hcs hss
  unfold s_i2l at hk
  split at hk
  · exact lv_i2l G.1 G.2.1 hd rfl (h _ _ _ _ _ _ hl hn hP hS hk hcs hss)
  · cases hk

theorem sm_l2i {γ : gG} {cs ss pc : Nat} {k : gK} {cc : ByteArray} (G : gOK γ) (hb : gcc γ = cc) (hd : decode cc pc = .ok (.l2i, 1)) (h : gSm γ cs ss (pc + 1) k) : gSm γ cs ss pc (s_l2i k) := by
  obtain ⟨⟨p, l, e, R, s, m, args, below, meth, c, Q⟩, A, D, cA, ad, lay, fin, cc', own, E, n0, ra⟩ := γ
  subst hb
  intro L st I H locs ls hl hn hP hS hk hcs hss
  unfold s_l2i at hk
  split at hk
  · exact lv_l2i G.1 G.2.1 hd rfl (h _ _ _ _ _ _ hl hn hP hS hk hcs hss)
  · cases hk

theorem sm_dup {γ : gG} {cs ss pc : Nat} {k : gK} {cc : ByteArray} (G : gOK γ) (hb : gcc γ = cc) (hd : decode cc pc = .ok (.dup, 1)) (h : gSm γ cs ss (pc + 1) k) : gSm γ cs ss pc (s_dup k) := by
  obtain ⟨⟨p, l, e, R, s, m, args, below, meth, c, Q⟩, A, D, cA, ad, lay, fin, cc', own, E, n0, ra⟩ := γ
  subst hb
  intro L st I H locs ls hl hn hP hS hk hcs hss
  unfold s_dup at hk
  split at hk
  · split at hk
    · rename_i hc
      exact lv_dup G.1 G.2.1 hd (by rw [gv_cat]; exact hc) (h _ _ _ _ _ _ hl hn hP hS hk hcs hss)
    · cases hk
  · cases hk

theorem sm_dup2 {γ : gG} {cs ss pc : Nat} {k : gK} {cc : ByteArray} (G : gOK γ) (hb : gcc γ = cc) (hd : decode cc pc = .ok (.dup2, 1)) (h : gSm γ cs ss (pc + 1) k) : gSm γ cs ss pc (s_dup2 k) := by
  obtain ⟨⟨p, l, e, R, s, m, args, below, meth, c, Q⟩, A, D, cA, ad, lay, fin, cc', own, E, n0, ra⟩ := γ
  subst hb
  intro L st I H locs ls hl hn hP hS hk hcs hss
  unfold s_dup2 at hk
  split at hk
  · split at hk
    · rename_i hc
      exact lv_dup2_11 G.1 G.2.1 hd (by rw [gv_cat]; exact hc.1) (by rw [gv_cat]; exact hc.2) (h _ _ _ _ _ _ hl hn hP hS hk hcs hss)
    · cases hk
  · cases hk

theorem sm_pop {γ : gG} {cs ss pc : Nat} {k : gK} {cc : ByteArray} (G : gOK γ) (hb : gcc γ = cc) (hd : decode cc pc = .ok (.pop, 1)) (h : gSm γ cs ss (pc + 1) k) : gSm γ cs ss pc (s_pop k) := by
  obtain ⟨⟨p, l, e, R, s, m, args, below, meth, c, Q⟩, A, D, cA, ad, lay, fin, cc', own, E, n0, ra⟩ := γ
  subst hb
  intro L st I H locs ls hl hn hP hS hk hcs hss
  unfold s_pop at hk
  split at hk
  · split at hk
    · rename_i hc
      exact lv_pop G.1 G.2.1 hd (by rw [gv_cat]; exact hc) (h _ _ _ _ _ _ hl hn hP hS hk hcs hss)
    · cases hk
  · cases hk

theorem sm_if_eq {γ : gG} {cs ss pc : Nat} {kt kf : gK} {cc : ByteArray} (G : gOK γ) (hb : gcc γ = cc) {off : Int} {tgt : Nat} (hd : decode cc pc = .ok (.ifCond .eq off, 3)) (ht : (pc : Int) + off = (tgt : Int)) (h1 : gSm γ cs ss tgt kt) (h2 : gSm γ cs ss (pc + 3) kf) : gSm γ cs ss pc (s_if gz_eq kt kf) := by
  obtain ⟨⟨p, l, e, R, s, m, args, below, meth, c, Q⟩, A, D, cA, ad, lay, fin, cc', own, E, n0, ra⟩ := γ
  subst hb
  intro L st I H locs ls hl hn hP hS hk hcs hss
  unfold s_if at hk
  split at hk
  · rename_i x t
    refine lv_if_eq G.1 G.2.1 hd ht (fun hc => ?_) (fun hc => ?_)
    · rw [if_pos (decide_eq_true hc)] at hk
      exact h1 _ _ _ _ _ _ hl hn hP hS hk hcs hss
    · rw [if_neg (fun z => hc (of_decide_eq_true z))] at hk
      exact h2 _ _ _ _ _ _ hl hn hP hS hk hcs hss
  · cases hk

theorem sm_if_ne {γ : gG} {cs ss pc : Nat} {kt kf : gK} {cc : ByteArray} (G : gOK γ) (hb : gcc γ = cc) {off : Int} {tgt : Nat} (hd : decode cc pc = .ok (.ifCond .ne off, 3)) (ht : (pc : Int) + off = (tgt : Int)) (h1 : gSm γ cs ss tgt kt) (h2 : gSm γ cs ss (pc + 3) kf) : gSm γ cs ss pc (s_if gz_ne kt kf) := by
  obtain ⟨⟨p, l, e, R, s, m, args, below, meth, c, Q⟩, A, D, cA, ad, lay, fin, cc', own, E, n0, ra⟩ := γ
  subst hb
  intro L st I H locs ls hl hn hP hS hk hcs hss
  unfold s_if at hk
  split at hk
  · rename_i x t
    refine lv_if_ne G.1 G.2.1 hd ht (fun hc => ?_) (fun hc => ?_)
    · rw [if_pos (decide_eq_true hc)] at hk
      exact h1 _ _ _ _ _ _ hl hn hP hS hk hcs hss
    · rw [if_neg (fun z => (of_decide_eq_true z) hc)] at hk
      exact h2 _ _ _ _ _ _ hl hn hP hS hk hcs hss
  · cases hk

theorem sm_if_lt {γ : gG} {cs ss pc : Nat} {kt kf : gK} {cc : ByteArray} (G : gOK γ) (hb : gcc γ = cc) {off : Int} {tgt : Nat} (hd : decode cc pc = .ok (.ifCond .lt off, 3)) (ht : (pc : Int) + off = (tgt : Int)) (h1 : gSm γ cs ss tgt kt) (h2 : gSm γ cs ss (pc + 3) kf) : gSm γ cs ss pc (s_if gz_lt kt kf) := by
  obtain ⟨⟨p, l, e, R, s, m, args, below, meth, c, Q⟩, A, D, cA, ad, lay, fin, cc', own, E, n0, ra⟩ := γ
  subst hb
  intro L st I H locs ls hl hn hP hS hk hcs hss
  unfold s_if at hk
  split at hk
  · rename_i x t
    refine lv_if_lt G.1 G.2.1 hd ht (fun hc => ?_) (fun hc => ?_)
    · rw [if_pos (decide_eq_true hc)] at hk
      exact h1 _ _ _ _ _ _ hl hn hP hS hk hcs hss
    · rw [if_neg (fun z => hc (of_decide_eq_true z))] at hk
      exact h2 _ _ _ _ _ _ hl hn hP hS hk hcs hss
  · cases hk

theorem sm_if_ge {γ : gG} {cs ss pc : Nat} {kt kf : gK} {cc : ByteArray} (G : gOK γ) (hb : gcc γ = cc) {off : Int} {tgt : Nat} (hd : decode cc pc = .ok (.ifCond .ge off, 3)) (ht : (pc : Int) + off = (tgt : Int)) (h1 : gSm γ cs ss tgt kt) (h2 : gSm γ cs ss (pc + 3) kf) : gSm γ cs ss pc (s_if gz_ge kt kf) := by
  obtain ⟨⟨p, l, e, R, s, m, args, below, meth, c, Q⟩, A, D, cA, ad, lay, fin, cc', own, E, n0, ra⟩ := γ
  subst hb
  intro L st I H locs ls hl hn hP hS hk hcs hss
  unfold s_if at hk
  split at hk
  · rename_i x t
    refine lv_if_ge G.1 G.2.1 hd ht (fun hc => ?_) (fun hc => ?_)
    · rw [if_pos (decide_eq_true hc)] at hk
      exact h1 _ _ _ _ _ _ hl hn hP hS hk hcs hss
    · rw [if_neg (fun z => hc (of_decide_eq_true z))] at hk
      exact h2 _ _ _ _ _ _ hl hn hP hS hk hcs hss
  · cases hk

theorem sm_if_gt {γ : gG} {cs ss pc : Nat} {kt kf : gK} {cc : ByteArray} (G : gOK γ) (hb : gcc γ = cc) {off : Int} {tgt : Nat} (hd : decode cc pc = .ok (.ifCond .gt off, 3)) (ht : (pc : Int) + off = (tgt : Int)) (h1 : gSm γ cs ss tgt kt) (h2 : gSm γ cs ss (pc + 3) kf) : gSm γ cs ss pc (s_if gz_gt kt kf) := by
  obtain ⟨⟨p, l, e, R, s, m, args, below, meth, c, Q⟩, A, D, cA, ad, lay, fin, cc', own, E, n0, ra⟩ := γ
  subst hb
  intro L st I H locs ls hl hn hP hS hk hcs hss
  unfold s_if at hk
  split at hk
  · rename_i x t
    refine lv_if_gt G.1 G.2.1 hd ht (fun hc => ?_) (fun hc => ?_)
    · rw [if_pos (decide_eq_true hc)] at hk
      exact h1 _ _ _ _ _ _ hl hn hP hS hk hcs hss
    · rw [if_neg (fun z => hc (of_decide_eq_true z))] at hk
      exact h2 _ _ _ _ _ _ hl hn hP hS hk hcs hss
  · cases hk

theorem sm_if_le {γ : gG} {cs ss pc : Nat} {kt kf : gK} {cc : ByteArray} (G : gOK γ) (hb : gcc γ = cc) {off : Int} {tgt : Nat} (hd : decode cc pc = .ok (.ifCond .le off, 3)) (ht : (pc : Int) + off = (tgt : Int)) (h1 : gSm γ cs ss tgt kt) (h2 : gSm γ cs ss (pc + 3) kf) : gSm γ cs ss pc (s_if gz_le kt kf) := by
  obtain ⟨⟨p, l, e, R, s, m, args, below, meth, c, Q⟩, A, D, cA, ad, lay, fin, cc', own, E, n0, ra⟩ := γ
  subst hb
  intro L st I H locs ls hl hn hP hS hk hcs hss
  unfold s_if at hk
  split at hk
  · rename_i x t
    refine lv_if_le G.1 G.2.1 hd ht (fun hc => ?_) (fun hc => ?_)
    · rw [if_pos (decide_eq_true hc)] at hk
      exact h1 _ _ _ _ _ _ hl hn hP hS hk hcs hss
    · rw [if_neg (fun z => hc (of_decide_eq_true z))] at hk
      exact h2 _ _ _ _ _ _ hl hn hP hS hk hcs hss
  · cases hk

theorem sm_icmp_eq {γ : gG} {cs ss pc : Nat} {kt kf : gK} {cc : ByteArray} (G : gOK γ) (hb : gcc γ = cc) {off : Int} {tgt : Nat} (hd : decode cc pc = .ok (.if_icmp .eq off, 3)) (ht : (pc : Int) + off = (tgt : Int)) (h1 : gSm γ cs ss tgt kt) (h2 : gSm γ cs ss (pc + 3) kf) : gSm γ cs ss pc (s_cmp gc_eq kt kf) := by
  obtain ⟨⟨p, l, e, R, s, m, args, below, meth, c, Q⟩, A, D, cA, ad, lay, fin, cc', own, E, n0, ra⟩ := γ
  subst hb
  intro L st I H locs ls hl hn hP hS hk hcs hss
  unfold s_cmp at hk
  split at hk
  · rename_i y x t
    refine lv_icmp_eq G.1 G.2.1 hd ht (fun hc => ?_) (fun hc => ?_)
    · rw [if_pos (decide_eq_true hc)] at hk
      exact h1 _ _ _ _ _ _ hl hn hP hS hk hcs hss
    · rw [if_neg (fun z => hc (of_decide_eq_true z))] at hk
      exact h2 _ _ _ _ _ _ hl hn hP hS hk hcs hss
  · cases hk

theorem sm_icmp_ne {γ : gG} {cs ss pc : Nat} {kt kf : gK} {cc : ByteArray} (G : gOK γ) (hb : gcc γ = cc) {off : Int} {tgt : Nat} (hd : decode cc pc = .ok (.if_icmp .ne off, 3)) (ht : (pc : Int) + off = (tgt : Int)) (h1 : gSm γ cs ss tgt kt) (h2 : gSm γ cs ss (pc + 3) kf) : gSm γ cs ss pc (s_cmp gc_ne kt kf) := by
  obtain ⟨⟨p, l, e, R, s, m, args, below, meth, c, Q⟩, A, D, cA, ad, lay, fin, cc', own, E, n0, ra⟩ := γ
  subst hb
  intro L st I H locs ls hl hn hP hS hk hcs hss
  unfold s_cmp at hk
  split at hk
  · rename_i y x t
    refine lv_icmp_ne G.1 G.2.1 hd ht (fun hc => ?_) (fun hc => ?_)
    · rw [if_pos (decide_eq_true hc)] at hk
      exact h1 _ _ _ _ _ _ hl hn hP hS hk hcs hss
    · rw [if_neg (fun z => (of_decide_eq_true z) hc)] at hk
      exact h2 _ _ _ _ _ _ hl hn hP hS hk hcs hss
  · cases hk

theorem sm_icmp_lt {γ : gG} {cs ss pc : Nat} {kt kf : gK} {cc : ByteArray} (G : gOK γ) (hb : gcc γ = cc) {off : Int} {tgt : Nat} (hd : decode cc pc = .ok (.if_icmp .lt off, 3)) (ht : (pc : Int) + off = (tgt : Int)) (h1 : gSm γ cs ss tgt kt) (h2 : gSm γ cs ss (pc + 3) kf) : gSm γ cs ss pc (s_cmp gc_lt kt kf) := by
  obtain ⟨⟨p, l, e, R, s, m, args, below, meth, c, Q⟩, A, D, cA, ad, lay, fin, cc', own, E, n0, ra⟩ := γ
  subst hb
  intro L st I H locs ls hl hn hP hS hk hcs hss
  unfold s_cmp at hk
  split at hk
  · rename_i y x t
    refine lv_icmp_lt G.1 G.2.1 hd ht (fun hc => ?_) (fun hc => ?_)
    · rw [if_pos (decide_eq_true hc)] at hk
      exact h1 _ _ _ _ _ _ hl hn hP hS hk hcs hss
    · rw [if_neg (fun z => hc (of_decide_eq_true z))] at hk
      exact h2 _ _ _ _ _ _ hl hn hP hS hk hcs hss
  · cases hk

theorem sm_icmp_ge {γ : gG} {cs ss pc : Nat} {kt kf : gK} {cc : ByteArray} (G : gOK γ) (hb : gcc γ = cc) {off : Int} {tgt : Nat} (hd : decode cc pc = .ok (.if_icmp .ge off, 3)) (ht : (pc : Int) + off = (tgt : Int)) (h1 : gSm γ cs ss tgt kt) (h2 : gSm γ cs ss (pc + 3) kf) : gSm γ cs ss pc (s_cmp gc_ge kt kf) := by
  obtain ⟨⟨p, l, e, R, s, m, args, below, meth, c, Q⟩, A, D, cA, ad, lay, fin, cc', own, E, n0, ra⟩ := γ
  subst hb
  intro L st I H locs ls hl hn hP hS hk hcs hss
  unfold s_cmp at hk
  split at hk
  · rename_i y x t
    refine lv_icmp_ge G.1 G.2.1 hd ht (fun hc => ?_) (fun hc => ?_)
    · rw [if_pos (decide_eq_true hc)] at hk
      exact h1 _ _ _ _ _ _ hl hn hP hS hk hcs hss
    · rw [if_neg (fun z => hc (of_decide_eq_true z))] at hk
      exact h2 _ _ _ _ _ _ hl hn hP hS hk hcs hss
  · cases hk

theorem sm_icmp_gt {γ : gG} {cs ss pc : Nat} {kt kf : gK} {cc : ByteArray} (G : gOK γ) (hb : gcc γ = cc) {off : Int} {tgt : Nat} (hd : decode cc pc = .ok (.if_icmp .gt off, 3)) (ht : (pc : Int) + off = (tgt : Int)) (h1 : gSm γ cs ss tgt kt) (h2 : gSm γ cs ss (pc + 3) kf) : gSm γ cs ss pc (s_cmp gc_gt kt kf) := by
  obtain ⟨⟨p, l, e, R, s, m, args, below, meth, c, Q⟩, A, D, cA, ad, lay, fin, cc', own, E, n0, ra⟩ := γ
  subst hb
  intro L st I H locs ls hl hn hP hS hk hcs hss
  unfold s_cmp at hk
  split at hk
  · rename_i y x t
    refine lv_icmp_gt G.1 G.2.1 hd ht (fun hc => ?_) (fun hc => ?_)
    · rw [if_pos (decide_eq_true hc)] at hk
      exact h1 _ _ _ _ _ _ hl hn hP hS hk hcs hss
    · rw [if_neg (fun z => hc (of_decide_eq_true z))] at hk
      exact h2 _ _ _ _ _ _ hl hn hP hS hk hcs hss
  · cases hk

theorem sm_icmp_le {γ : gG} {cs ss pc : Nat} {kt kf : gK} {cc : ByteArray} (G : gOK γ) (hb : gcc γ = cc) {off : Int} {tgt : Nat} (hd : decode cc pc = .ok (.if_icmp .le off, 3)) (ht : (pc : Int) + off = (tgt : Int)) (h1 : gSm γ cs ss tgt kt) (h2 : gSm γ cs ss (pc + 3) kf) : gSm γ cs ss pc (s_cmp gc_le kt kf) := by
  obtain ⟨⟨p, l, e, R, s, m, args, below, meth, c, Q⟩, A, D, cA, ad, lay, fin, cc', own, E, n0, ra⟩ := γ
  subst hb
  intro L st I H locs ls hl hn hP hS hk hcs hss
  unfold s_cmp at hk
  split at hk
  · rename_i y x t
    refine lv_icmp_le G.1 G.2.1 hd ht (fun hc => ?_) (fun hc => ?_)
    · rw [if_pos (decide_eq_true hc)] at hk
      exact h1 _ _ _ _ _ _ hl hn hP hS hk hcs hss
    · rw [if_neg (fun z => hc (of_decide_eq_true z))] at hk
      exact h2 _ _ _ _ _ _ hl hn hP hS hk hcs hss
  · cases hk

theorem sm_goto {γ : gG} {cs ss pc : Nat} {k : gK} {cc : ByteArray} (G : gOK γ) (hb : gcc γ = cc) {off : Int} {tgt : Nat} (hd : decode cc pc = .ok (.goto off, 3)) (ht : (pc : Int) + off = (tgt : Int)) (h : gSm γ cs ss tgt k) : gSm γ cs ss pc k := by
  obtain ⟨⟨p, l, e, R, s, m, args, below, meth, c, Q⟩, A, D, cA, ad, lay, fin, cc', own, E, n0, ra⟩ := γ
  subst hb
  intro L st I H locs ls hl hn hP hS hk hcs hss
  exact lv_goto G.1 G.2.1 hd ht (h _ _ _ _ _ _ hl hn hP hS hk hcs hss)
theorem sm_mask {γ : gG} {cs ss pc : Nat} {k : gK} {m : List Bool} (h : gSm γ cs ss pc k) : gSm γ cs ss pc (s_mask m k) := by
  obtain ⟨⟨p, l, e, R, s, mm, args, below, meth, c, Q⟩, A, D, cA, ad, lay, fin, cc', own, E, n0, ra⟩ := γ
  intro L st I H locs ls hl hn hP hS hk hcs hss
  exact h _ _ _ _ _ _ (hl.mask m) ((gMask_len L m).trans hn) hP hS hk hcs hss
/-- a loop: what its body does, if what is behind it is done at its head again -/
theorem sm_lp {γ : gG} {cs ss pc : Nat} {body : gK → gK} (h : ∀ k, gSm γ cs ss pc k → gSm γ cs ss pc (body k)) : ∀ n, gSm γ cs ss pc (s_lp body n)
  | 0 => by
    obtain ⟨⟨p, l, e, R, s, m, args, below, meth, c, Q⟩, A, D, cA, ad, lay, fin, cc', own, E, n0, ra⟩ := γ
    intro L st I H locs ls hl hn hP hS hk hcs hss
    cases hk
  | n + 1 => h _ (sm_lp h n)
theorem sm_iret {γ : gG} {cs ss pc : Nat} {cc : ByteArray} (G : gOK γ) (hb : gcc γ = cc) (hd : decode cc pc = .ok (.ireturn, 1)) (hr : grt γ = some .int) : gSm γ cs ss pc s_iret := by
  obtain ⟨⟨p, l, e, R, s, m, args, below, meth, c, Q⟩, A, D, cA, ad, lay, fin, cc', own, E, n0, ra⟩ := γ
  subst hb
  intro L st I H locs ls hl hn hP hS hk hcs hss
  unfold s_iret at hk
  split at hk
  · rename_i x
    have e1 := Option.some.inj hk
    subst e1
    exact G.2.2.2.2.2.2.2.2.2.2.1 _ _ _ _ _ _ _ hP hS hcs hss rfl ⟨hd, Or.inl hr⟩
  · cases hk
theorem sm_zret {γ : gG} {cs ss pc : Nat} {cc : ByteArray} (G : gOK γ) (hb : gcc γ = cc) (hd : decode cc pc = .ok (.ireturn, 1)) (hr : grt γ = some .boolean) : gSm γ cs ss pc s_zret := by
  obtain ⟨⟨p, l, e, R, s, m, args, below, meth, c, Q⟩, A, D, cA, ad, lay, fin, cc', own, E, n0, ra⟩ := γ
  subst hb
  intro L st I H locs ls hl hn hP hS hk hcs hss
  unfold s_zret at hk
  split at hk
  · rename_i x
    split at hk
    · rename_i hx
      have e1 := Option.some.inj hk
      subst e1
      exact G.2.2.2.2.2.2.2.2.2.2.1 _ _ _ _ _ _ _ hP hS hcs hss rfl ⟨hd, Or.inr ⟨_, hr, by rcases hx with rfl | rfl <;> rfl⟩⟩
    · cases hk
  · cases hk
theorem sm_cret {γ : gG} {cs ss pc : Nat} {cc : ByteArray} (G : gOK γ) (hb : gcc γ = cc) (hd : decode cc pc = .ok (.ireturn, 1)) (hr : grt γ = some .char) : gSm γ cs ss pc s_cret := by
  obtain ⟨⟨p, l, e, R, s, m, args, below, meth, c, Q⟩, A, D, cA, ad, lay, fin, cc', own, E, n0, ra⟩ := γ
  subst hb
  intro L st I H locs ls hl hn hP hS hk hcs hss
  unfold s_cret at hk
  split at hk
  · rename_i x
    split at hk
    · rename_i hx
      have e1 := Option.some.inj hk
      subst e1
      exact G.2.2.2.2.2.2.2.2.2.2.1 _ _ _ _ _ _ _ hP hS hcs hss rfl ⟨hd, Or.inr ⟨_, hr, by rw [← hx]; exact pk_nc x⟩⟩
    · cases hk
  · cases hk
theorem sm_bret {γ : gG} {cs ss pc : Nat} {cc : ByteArray} (G : gOK γ) (hb : gcc γ = cc) (hd : decode cc pc = .ok (.ireturn, 1)) (hr : grt γ = some .byte) : gSm γ cs ss pc s_bret := by
  obtain ⟨⟨p, l, e, R, s, m, args, below, meth, c, Q⟩, A, D, cA, ad, lay, fin, cc', own, E, n0, ra⟩ := γ
  subst hb
  intro L st I H locs ls hl hn hP hS hk hcs hss
  unfold s_bret at hk
  split at hk
  · rename_i x
    split at hk
    · rename_i hx
      have e1 := Option.some.inj hk
      subst e1
      exact G.2.2.2.2.2.2.2.2.2.2.1 _ _ _ _ _ _ _ hP hS hcs hss rfl ⟨hd, Or.inr ⟨_, hr, by rw [← hx]; exact pk_nb x⟩⟩
    · cases hk
  · cases hk
theorem sm_none {γ : gG} {cs ss pc : Nat} : gSm γ cs ss pc s_none := by
  obtain ⟨⟨p, l, e, R, s, m, args, below, meth, c, Q⟩, A, D, cA, ad, lay, fin, cc', own, E, n0, ra⟩ := γ
  intro L st I H locs ls hl hn hP hS hk hcs hss
  cases hk
theorem sm_lret {γ : gG} {cs ss pc : Nat} {cc : ByteArray} (G : gOK γ) (hb : gcc γ = cc) (hd : decode cc pc = .ok (.lreturn, 1)) (hr : grt γ = some .long) : gSm γ cs ss pc s_lret := by
  obtain ⟨⟨p, l, e, R, s, m, args, below, meth, c, Q⟩, A, D, cA, ad, lay, fin, cc', own, E, n0, ra⟩ := γ
  subst hb
  intro L st I H locs ls hl hn hP hS hk hcs hss
  unfold s_lret at hk
  split at hk
  · rename_i x
    have e1 := Option.some.inj hk
    subst e1
    exact G.2.2.2.2.2.2.2.2.2.2.1 _ _ _ _ _ _ _ hP hS hcs hss rfl ⟨hd, hr⟩
  · cases hk
theorem sm_vret {γ : gG} {cs ss pc : Nat} {cc : ByteArray} (G : gOK γ) (hb : gcc γ = cc) (hd : decode cc pc = .ok (.return_, 1)) (hr : grt γ = none) : gSm γ cs ss pc s_vret := by
  obtain ⟨⟨p, l, e, R, s, m, args, below, meth, c, Q⟩, A, D, cA, ad, lay, fin, cc', own, E, n0, ra⟩ := γ
  subst hb
  intro L st I H locs ls hl hn hP hS hk hcs hss
  unfold s_vret at hk
  split at hk
  · have e1 := Option.some.inj hk
    subst e1
    exact G.2.2.2.2.2.2.2.2.2.2.1 _ _ _ _ none _ _ hP hS hcs hss rfl ⟨hd, hr⟩
  · cases hk
