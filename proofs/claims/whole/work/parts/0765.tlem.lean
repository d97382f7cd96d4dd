/-! ===== an instruction, an equation ===== -/
def hAl (lay : List gL) (a ki : Nat) (i : Int32) (I : gM) (k : Int32 → gO) : gO := match lay[a]? with
  | some (.inr (.inl (ki', n))) => if ki' = ki then if i < 0 ∨ n ≤ i.toNatClampNeg then none else k (I a i.toNatClampNeg) else none
  | _ => none
def hQ (ps : List Nat) (v : Int32) (k : Nat → gO) : gO := match ps[v.toNatClampNeg]? with
  | some q => k q
  | none => none
def hCk (n0 n1 : Nat) (sp dp n : Int32) (X : gO) : gO := if (¬ sp < 0 ∧ ¬ dp < 0 ∧ ¬ n < 0) ∧ (sp.toNatClampNeg + n.toNatClampNeg ≤ n0 ∧ dp.toNatClampNeg + n.toNatClampNeg ≤ n1) then X else none
def hCp (a b : Nat) (sp dp n : Int32) (I : gM) : gM := fun q => if q = b then va_cpy (I a) (I b) sp.toNatClampNeg dp.toNatClampNeg n.toNatClampNeg else I q
theorem tt_lt {a b : Nat} (h : Nat.ble (a + 1) b = true) : a < b := Nat.le_of_ble_eq_true h
theorem gBk_p {ρ : List Nat} {q : Nat} {t t2 : List Value} (hq : 1000 ≤ q) (ht : gBk ρ t = some t2) : gBk ρ (.ref q :: t) = some (.ref q :: t2) := by
  simp only [gBk, if_neg (show ¬ q < 1000 by omega), ht]
theorem gBk_c {ρ : List Nat} {p j : Nat} {t t2 : List Value} (hp : p < 1000) (hj : gIx ρ p = some j) (h9 : j < 1000) (ht : gBk ρ t = some t2) : gBk ρ (.ref p :: t) = some (.ref j :: t2) := by
  simp only [gBk, if_pos hp, hj, ht, if_pos h9]
theorem gBk_i {ρ : List Nat} {x : Int32} {t t2 : List Value} (ht : gBk ρ t = some t2) : gBk ρ (.int x :: t) = some (.int x :: t2) := by
  simp only [gBk, ht]
theorem tt_fn {n : Nat} {F : gK} {av : List Value} {L : List (Option Value)} {I : gM} (h : Nat.ble (gEn av).length n = true) (hL : gEn av ++ List.replicate (n - (gEn av).length) none = L) : gFn n F av I = F L [] I := by
  subst hL
  exact if_pos (Nat.le_of_ble_eq_true h)
section TL
variable {k kt kf : gK} {L L2 : List (Option Value)} {st t : List Value} {I : gM} {r a b : gO} {i j : Nat} {x y : Int32} {xl yl : Int64} {v w : Value}
theorem tt_const {c : Int32} (e : k L (.int c :: st) I = r) : s_const c k L st I = r := e
theorem tt_lconst {c : Int64} (e : k L (.long c :: st) I = r) : s_lconst c k L st I = r := e
theorem tt_pref {q q2 : Nat} (h : q = q2) (e : k L (.ref q2 :: st) I = r) : s_pref q k L st I = r := by subst h; exact e
theorem tt_iload (h : L[i]? = some (some (.int x))) (e : k L (.int x :: st) I = r) : s_iload i k L st I = r := by
  unfold s_iload; rw [h]; exact e
theorem tt_lload (h : L[i]? = some (some (.long xl))) (e : k L (.long xl :: st) I = r) : s_lload i k L st I = r := by
  unfold s_lload; rw [h]; exact e
theorem tt_aload {p : Nat} (h : L[i]? = some (some (.ref p))) (e : k L (.ref p :: st) I = r) : s_aload i k L st I = r := by
  unfold s_aload; rw [h]; exact e
theorem tt_istore (h : i < L.length) (hL : gSt L i (.int x) = L2) (e : k L2 t I = r) : s_istore i k L (.int x :: t) I = r := by
  show (if i < L.length then k (gSt L i (.int x)) t I else none) = r; rw [if_pos h, hL]; exact e
theorem tt_astore {p : Nat} (h : i < L.length) (hL : gSt L i (.ref p) = L2) (e : k L2 t I = r) : s_astore i k L (.ref p :: t) I = r := by
  show (if i < L.length then k (gSt L i (.ref p)) t I else none) = r; rw [if_pos h, hL]; exact e
theorem tt_lstore (h : i + 1 < L.length) (hL : gSl L i (.long xl) = L2) (e : k L2 t I = r) : s_lstore i k L (.long xl :: t) I = r := by
  show (if i + 1 < L.length then k (gSl L i (.long xl)) t I else none) = r; rw [if_pos h, hL]; exact e
theorem tt_iinc {n : Int32} (h : L[i]? = some (some (.int x))) (hL : gSt L i (.int (x + n)) = L2) (e : k L2 st I = r) : s_iinc i n k L st I = r := by
  unfold s_iinc; rw [h]; show k (gSt L i (.int (x + n))) st I = r; rw [hL]; exact e
theorem tt_bin {f : Int32 → Int32 → Int32} (e : k L (.int (f x y) :: t) I = r) : s_bin f k L (.int y :: .int x :: t) I = r := e
theorem tt_div {f : Int32 → Int32 → Int32} (e : k L (.int (f x y) :: t) I = r) : s_div f k L (.int y :: .int x :: t) I = if y = 0 then none else r := by
  show (if y = 0 then none else k L (.int (f x y) :: t) I) = _; rw [e]
theorem tt_lbin {f : Int64 → Int64 → Int64} (e : k L (.long (f xl yl) :: t) I = r) : s_lbin f k L (.long yl :: .long xl :: t) I = r := e
theorem tt_i2l (e : k L (.long x.toInt64 :: t) I = r) : s_i2l k L (.int x :: t) I = r := e
theorem tt_l2i (e : k L (.int xl.toInt32 :: t) I = r) : s_l2i k L (.long xl :: t) I = r := e
theorem tt_lcmp (e : k L (.int (lg_cmp xl yl) :: t) I = r) : s_lcmp k L (.long yl :: .long xl :: t) I = r := e
theorem tt_i2c (e : k L (.int (x.toUInt32 % 65536).toInt32 :: t) I = r) : s_i2c k L (.int x :: t) I = r := e
theorem tt_dup (h : v.category = 1) (e : k L (v :: v :: t) I = r) : s_dup k L (v :: t) I = r := by
  show (if v.category = 1 then k L (v :: v :: t) I else none) = r; rw [if_pos h]; exact e
theorem tt_dup2 (h : v.category = 1) (h2 : w.category = 1) (e : k L (v :: w :: v :: w :: t) I = r) : s_dup2 k L (v :: w :: t) I = r := by
  show (if v.category = 1 ∧ w.category = 1 then _ else none) = r; rw [if_pos ⟨h, h2⟩]; exact e
theorem tt_pop (h : v.category = 1) (e : k L t I = r) : s_pop k L (v :: t) I = r := by
  show (if v.category = 1 then k L t I else none) = r; rw [if_pos h]; exact e
theorem tt_if {c : Int32 → Bool} (e1 : kt L t I = a) (e2 : kf L t I = b) : s_if c kt kf L (.int x :: t) I = if c x = true then a else b := by
  subst e1; subst e2; rfl
theorem tt_cmp {c : Int32 → Int32 → Bool} (e1 : kt L t I = a) (e2 : kf L t I = b) : s_cmp c kt kf L (.int y :: .int x :: t) I = if c x y = true then a else b := by
  subst e1; subst e2; rfl
theorem tt_mask {m : List Bool} (h : gMask m L = L2) (e : k L2 st I = r) : s_mask m k L st I = r := by subst h; exact e
theorem tt_get {lay : List gL} {ci p : Nat} {fs : List (Option Nat)} (h : lay[p]? = some (.inl (ci, fs))) (hf : fs[j]? = some none) (hx : I p j = x) (e : k L (.int x :: t) I = r) : s_get lay ci j k L (.ref p :: t) I = r := by
  subst hx
  unfold s_get
  simp only [h, hf, if_true]
  exact e
theorem tt_getr {lay : List gL} {ci p q : Nat} {fs : List (Option Nat)} (h : lay[p]? = some (.inl (ci, fs))) (hf : fs[j]? = some (some q)) (e : k L (.ref q :: t) I = r) : s_get lay ci j k L (.ref p :: t) I = r := by
  unfold s_get
  simp only [h, hf, if_true]
  exact e
theorem tt_put {lay : List gL} {ci p : Nat} {fs : List (Option Nat)} (h : lay[p]? = some (.inl (ci, fs))) (hf : fs[j]? = some none) (e : k L t (gU I p j x) = r) : s_put lay ci j k L (.int x :: .ref p :: t) I = r := by
  unfold s_put
  simp only [h, hf, and_self, if_true]
  exact e
theorem tt_putz {lay : List gL} {ci p : Nat} {fs : List (Option Nat)} (h : lay[p]? = some (.inl (ci, fs))) (hf : fs[j]? = some none) (e : k L t (gU I p j x) = r) : s_putz lay ci j k L (.int x :: .ref p :: t) I = if x = 0 ∨ x = 1 then r else none := by
  unfold s_putz
  simp only [h, hf, and_self, true_and]
  rw [e]
theorem tt_putz1 {lay : List gL} {ci p : Nat} {fs : List (Option Nat)} (h : lay[p]? = some (.inl (ci, fs))) (hf : fs[j]? = some none) (hx : x = 0 ∨ x = 1) (e : k L t (gU I p j x) = r) : s_putz lay ci j k L (.int x :: .ref p :: t) I = r := by
  rw [tt_putz h hf e, if_pos hx]
theorem tt_ald {lay : List gL} {ki n p : Nat} {z : Int32} (h : lay[p]? = some (.inr (.inl (ki, n)))) (hx : I p z.toNatClampNeg = x) (e : k L (.int x :: t) I = r) : s_ald lay ki k L (.int z :: .ref p :: t) I = ck n z r := by
  subst hx
  unfold s_ald
  simp only [h, if_true]
  rw [e]
  rfl
theorem tt_al {lay : List gL} {ki p : Nat} {z : Int32} {kk : Int32 → gO} (e : ∀ x : Int32, k L (.int x :: t) I = kk x) : s_ald lay ki k L (.int z :: .ref p :: t) I = hAl lay p ki z I kk := by
  show (match lay[p]? with
    | some (.inr (.inl (ki', n))) => if ki' = ki then if z < 0 ∨ n ≤ z.toNatClampNeg then none else k L (.int (I p z.toNatClampNeg) :: t) I else none
    | _ => none) = _
  unfold hAl
  split
  · rename_i h; simp only [h, e]
  · rfl
theorem tt_ast {lay : List gL} {ki n p : Nat} {z v : Int32} (h : lay[p]? = some (.inr (.inl (ki, n)))) (hv : (if ki = 0 then x else vp_nar .boolean x) = v) (e : k L t (gU I p z.toNatClampNeg v) = r) : s_ast lay ki k L (.int x :: .int z :: .ref p :: t) I = ck n z r := by
  subst hv
  unfold s_ast
  simp only [h, if_true]
  rw [e]
  rfl
theorem tt_tld {z : Int32} (e : k L (.int (gGS.getD z.toNatClampNeg 0) :: t) I = r) : s_tld k L (.int z :: .ref 1200 :: t) I = if gRng 1200 1201 1200 ∧ ¬ (z < 0 ∨ 4 ≤ z.toNatClampNeg) then r else none := by
  subst e; rfl
theorem tt_alen {lay : List gL} {n p : Nat} (h : lay[p]? = some (.inr (.inl (0, n)))) (e : k L (.int (Int32.ofNat n) :: t) I = r) : s_alen lay k L (.ref p :: t) I = r := by
  unfold s_alen
  simp only [h, if_true]
  exact e
theorem tt_jmath {f : Int32 → Int32 → Int32} (h : (t.map Value.category).sum ≤ 8) (e : k L (.int (f x y) :: t) I = r) : s_jmath f k L (.int y :: .int x :: t) I = r := by
  show (if (t.map Value.category).sum ≤ 8 then _ else none) = r; rw [if_pos h]; exact e
theorem tt_copy {lay : List gL} {n0 n1 pa pb : Nat} {sp dp n : Int32} (h : lay[pa]? = some (.inr (.inl (0, n0)))) (h2 : lay[pb]? = some (.inr (.inl (0, n1)))) (e : k L [] (hCp pa pb sp dp n I) = r) : s_copy lay k L [.int n, .int dp, .ref pb, .int sp, .ref pa] I = hCk n0 n1 sp dp n r := by
  have e0 : s_copy lay k L [.int n, .int dp, .ref pb, .int sp, .ref pa] I = if ((0 : Nat) = 0 ∧ (0 : Nat) = 0) ∧ (¬ sp < 0 ∧ ¬ dp < 0 ∧ ¬ n < 0) ∧ (sp.toNatClampNeg + n.toNatClampNeg ≤ n0 ∧ dp.toNatClampNeg + n.toNatClampNeg ≤ n1) ∧ ((([] : List Value).map Value.category).sum ≤ 8) then k L [] (hCp pa pb sp dp n I) else none := by
    show (match lay[pa]?, lay[pb]? with
      | some (.inr (.inl (k0, n0))), some (.inr (.inl (k1, n1))) => _
      | _, _ => none) = _
    rw [h, h2]
    rfl
  rw [e0]
  unfold hCk
  by_cases hc : (¬ sp < 0 ∧ ¬ dp < 0 ∧ ¬ n < 0) ∧ (sp.toNatClampNeg + n.toNatClampNeg ≤ n0 ∧ dp.toNatClampNeg + n.toNatClampNeg ≤ n1)
  · rw [if_pos ⟨⟨rfl, rfl⟩, hc.1, hc.2, by decide⟩, if_pos hc]
    exact e
  · rw [if_neg hc]
    exact if_neg (fun q => hc ⟨q.2.1, q.2.2.1⟩)
theorem tt_qld {lay : List gL} {p : Nat} {ps : List Nat} {z v : Int32} {kk : Nat → gO} (h : lay[p]? = some (.inr (.inr (3, ps)))) (hv : I p z.toNatClampNeg = v) (e : ∀ q : Nat, k L (.ref q :: t) I = kk q) : s_qld lay k L (.int z :: .ref p :: t) I = if z < 0 ∨ ps.length ≤ z.toNatClampNeg then none else hQ ps v kk := by
  subst hv
  show (match lay[p]? with
    | some (.inr (.inr (ki, ps))) => if ki = 3 then if z < 0 ∨ ps.length ≤ z.toNatClampNeg then none else match ps[(I p z.toNatClampNeg).toNatClampNeg]? with
        | some q => k L (.ref q :: t) I
        | none => none
      else none
    | _ => none) = _
  rw [h]
  simp only [if_true, e]
  rfl
theorem tt_qst {lay : List gL} {p q : Nat} {z : Int32} {kk : gM → gO} (e : ∀ J : gM, k L [] J = kk J) : s_qst lay k L [.ref q, .int z, .ref p] I = s_qst lay (fun _ _ J => kk J) [] [.ref q, .int z, .ref p] I := by
  unfold s_qst
  simp only [e]
theorem tt_zret {L : List (Option Value)} (h : x = 0 ∨ x = 1) : s_zret L [.int x] I = some (.inl (some (.int x)), I) := if_pos h
theorem tt_throw {En : String} (h : (st.map Value.category).sum ≤ 8) : s_throw En L st I = some (.inr En, I) := if_pos h
theorem tt_tab {lo hi : Int} {kd : gK} {ks : List gK} {d : gO} {bs : List gO} (e1 : kd L t I = d) (e2 : ks.map (fun k => k L t I) = bs) : s_tab lo hi kd ks L (.int x :: t) I = hT x lo hi d bs := by
  subst e1; subst e2; rfl
theorem tt_dy {d q : Nat} {tbl : List (Nat × gK)} {bs : List (Nat × gO)} (h : st[d]? = some (.ref q)) (e : tbl.map (fun x => (x.1, x.2 L (st.set d (.ref x.1)) I)) = bs) : s_dy d tbl L st I = hD q bs := by
  unfold s_dy
  rw [h]
  subst e; rfl
theorem tt_caI {f : List Value → gM → gO} {n : Nat} {ρ ρ2 : List Nat} {av : List Value} {kk : Int32 → gM → gO} (h1 : ((st.drop n).map Value.category).sum ≤ 8 ∧ n ≤ st.length) (h2 : gBk ρ (st.take n).reverse = some av) (hd : st.drop n = t) (hρ : ρ = ρ2) (e : ∀ (x : Int32) (J : gM), k L (.int x :: t) J = kk x J) : s_ca gI f n ρ k L st I = hI (f av (gS ρ2 I)) ρ2 I kk := by
  subst hρ; subst hd
  unfold s_ca gI
  rw [if_pos h1, h2]
  have : (fun (x : Int32) (J : gM) => k L (.int x :: st.drop n) J) = kk := by funext x J; exact e x J
  rw [this]
theorem tt_caV {f : List Value → gM → gO} {n : Nat} {ρ ρ2 : List Nat} {av : List Value} {kk : gM → gO} (h1 : ((st.drop n).map Value.category).sum ≤ 8 ∧ n ≤ st.length) (h2 : gBk ρ (st.take n).reverse = some av) (hd : st.drop n = t) (hρ : ρ = ρ2) (e : ∀ (J : gM), k L t J = kk J) : s_ca gV f n ρ k L st I = hV (f av (gS ρ2 I)) ρ2 I kk := by
  subst hρ; subst hd
  unfold s_ca gV
  rw [if_pos h1, h2]
  have : (fun (J : gM) => k L (st.drop n) J) = kk := by funext J; exact e J
  rw [this]
theorem tt_caJ {f : List Value → gM → gO} {n : Nat} {ρ ρ2 : List Nat} {av : List Value} {kk : Int64 → gM → gO} (h1 : ((st.drop n).map Value.category).sum ≤ 8 ∧ n ≤ st.length) (h2 : gBk ρ (st.take n).reverse = some av) (hd : st.drop n = t) (hρ : ρ = ρ2) (e : ∀ (x : Int64) (J : gM), k L (.long x :: t) J = kk x J) : s_ca gJ f n ρ k L st I = hJ (f av (gS ρ2 I)) ρ2 I kk := by
  subst hρ; subst hd
  unfold s_ca gJ
  rw [if_pos h1, h2]
  have : (fun (x : Int64) (J : gM) => k L (.long x :: st.drop n) J) = kk := by funext x J; exact e x J
  rw [this]
theorem tt_caXV {f : List Value → gM → gO} {n : Nat} {ρ ρ2 : List Nat} {av : List Value} {kk : gM → gO} (h1 : ((st.drop n).map Value.category).sum ≤ 8 ∧ n ≤ st.length) (h2 : gBk ρ (st.take n).reverse = some av) (hd : st.drop n = t) (hρ : ρ = ρ2) (e : ∀ (J : gM), k L t J = kk J) : s_ca gXV f n ρ k L st I = hXV (f av (gS ρ2 I)) ρ2 I kk := by
  subst hρ; subst hd
  unfold s_ca gXV
  rw [if_pos h1, h2]
  have : (fun (J : gM) => k L (st.drop n) J) = kk := by funext J; exact e J
  rw [this]
theorem tt_cavI {f : List Value → gM → gO} {n : Nat} {ρ ρ2 : List Nat} {av : List Value} {kk : Int32 → gM → gO} (h1 : ((st.drop n).map Value.category).sum ≤ 8 ∧ n ≤ st.length) (h2 : gBk ρ (st.take n).reverse = some (.ref 0 :: av)) (hd : st.drop n = t) (hρ : ρ = ρ2) (e : ∀ (x : Int32) (J : gM), k L (.int x :: t) J = kk x J) : s_cav gI f n ρ k L st I = hI (f (.ref 0 :: av) (gS ρ2 I)) ρ2 I kk := by
  subst hρ; subst hd
  unfold s_cav gI
  rw [if_pos h1, h2]
  have : (fun (x : Int32) (J : gM) => k L (.int x :: st.drop n) J) = kk := by funext x J; exact e x J
  rw [this]
  rfl
theorem tt_cavV {f : List Value → gM → gO} {n : Nat} {ρ ρ2 : List Nat} {av : List Value} {kk : gM → gO} (h1 : ((st.drop n).map Value.category).sum ≤ 8 ∧ n ≤ st.length) (h2 : gBk ρ (st.take n).reverse = some (.ref 0 :: av)) (hd : st.drop n = t) (hρ : ρ = ρ2) (e : ∀ (J : gM), k L t J = kk J) : s_cav gV f n ρ k L st I = hV (f (.ref 0 :: av) (gS ρ2 I)) ρ2 I kk := by
  subst hρ; subst hd
  unfold s_cav gV
  rw [if_pos h1, h2]
  have : (fun (J : gM) => k L (st.drop n) J) = kk := by funext J; exact e J
  rw [this]
  rfl
theorem tt_cavJ {f : List Value → gM → gO} {n : Nat} {ρ ρ2 : List Nat} {av : List Value} {kk : Int64 → gM → gO} (h1 : ((st.drop n).map Value.category).sum ≤ 8 ∧ n ≤ st.length) (h2 : gBk ρ (st.take n).reverse = some (.ref 0 :: av)) (hd : st.drop n = t) (hρ : ρ = ρ2) (e : ∀ (x : Int64) (J : gM), k L (.long x :: t) J = kk x J) : s_cav gJ f n ρ k L st I = hJ (f (.ref 0 :: av) (gS ρ2 I)) ρ2 I kk := by
  subst hρ; subst hd
  unfold s_cav gJ
  rw [if_pos h1, h2]
  have : (fun (x : Int64) (J : gM) => k L (.long x :: st.drop n) J) = kk := by funext x J; exact e x J
  rw [this]
  rfl
theorem tt_cavXI {f : List Value → gM → gO} {n : Nat} {ρ ρ2 : List Nat} {av : List Value} {kk : Int32 → gM → gO} (h1 : ((st.drop n).map Value.category).sum ≤ 8 ∧ n ≤ st.length) (h2 : gBk ρ (st.take n).reverse = some (.ref 0 :: av)) (hd : st.drop n = t) (hρ : ρ = ρ2) (e : ∀ (x : Int32) (J : gM), k L (.int x :: t) J = kk x J) : s_cav gXI f n ρ k L st I = hXI (f (.ref 0 :: av) (gS ρ2 I)) ρ2 I kk := by
  subst hρ; subst hd
  unfold s_cav gXI
  rw [if_pos h1, h2]
  have : (fun (x : Int32) (J : gM) => k L (.int x :: st.drop n) J) = kk := by funext x J; exact e x J
  rw [this]
  rfl
theorem tt_cavXV {f : List Value → gM → gO} {n : Nat} {ρ ρ2 : List Nat} {av : List Value} {kk : gM → gO} (h1 : ((st.drop n).map Value.category).sum ≤ 8 ∧ n ≤ st.length) (h2 : gBk ρ (st.take n).reverse = some (.ref 0 :: av)) (hd : st.drop n = t) (hρ : ρ = ρ2) (e : ∀ (J : gM), k L t J = kk J) : s_cav gXV f n ρ k L st I = hXV (f (.ref 0 :: av) (gS ρ2 I)) ρ2 I kk := by
  subst hρ; subst hd
  unfold s_cav gXV
  rw [if_pos h1, h2]
  have : (fun (J : gM) => k L (st.drop n) J) = kk := by funext J; exact e J
  rw [this]
  rfl
end TL
