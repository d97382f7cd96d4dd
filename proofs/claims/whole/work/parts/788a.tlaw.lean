/-! ===== an instruction, an equation: the law ===== -/
def hTI (o : gO) (ρ : List Nat) (I : gM) (hs : List (String × Int32)) (k : Int32 → gM → gO) : gO := match o with
  | some (.inr En, J) => match hs.lookup En with
    | some cv => some (.inl (some (.int cv)), gMg ρ I J)
    | none => none
  | o => hI o ρ I k
def hTJ (o : gO) (ρ : List Nat) (I : gM) (hs : List (String × Int32)) (k : Int64 → gM → gO) : gO := match o with
  | some (.inr En, J) => match hs.lookup En with
    | some cv => some (.inl (some (.int cv)), gMg ρ I J)
    | none => none
  | o => hJ o ρ I k
section TLL
variable {k : gK} {L : List (Option Value)} {st t : List Value} {I : gM} {r : gO}
theorem tt_sld {SL : Nat} {SX : Nat → Int32} {i : Int32} (e : k L (.int (SX i.toNatClampNeg) :: t) I = r) : s_sld SL SX k L (.int i :: .ref 1400 :: t) I = if i < 0 ∨ SL ≤ i.toNatClampNeg then none else r := by
  subst e; rfl
theorem tt_slen {SL : Nat} (e : k L (.int (Int32.ofNat SL) :: t) I = r) : s_slen SL k L (.ref 1400 :: t) I = r := by
  subst e; rfl
theorem tt_last {lay : List gL} {n p : Nat} {z : Int32} {x : Int64} (h : lay[p]? = some (.inr (.inl (2, n)))) (e : k L t (gU (gU I p (2 * z.toNatClampNeg) (gLo x)) p (2 * z.toNatClampNeg + 1) (gHi x)) = r) : s_last lay k L (.long x :: .int z :: .ref p :: t) I = ck n z r := by
  unfold s_last
  simp only [h, if_true]
  rw [e]
  rfl
theorem tt_lald {lay : List gL} {n p : Nat} {z : Int32} {x : Int64} (h : lay[p]? = some (.inr (.inl (2, n)))) (hx : gLg (I p (2 * z.toNatClampNeg)) (I p (2 * z.toNatClampNeg + 1)) = x) (e : k L (.long x :: t) I = r) : s_lald lay k L (.int z :: .ref p :: t) I = ck n z r := by
  subst hx
  unfold s_lald
  simp only [h, if_true]
  rw [e]
  rfl
theorem tt_tryI {f : List Value → gM → gO} {n : Nat} {ρ ρ2 : List Nat} {hs : List (String × Int32)} {av : List Value} {kk : Int32 → gM → gO} (h1 : ((st.drop n).map Value.category).sum ≤ 8 ∧ n ≤ st.length) (h2 : gBk ρ2 (st.take n).reverse = some (.ref 0 :: av)) (hd : st.drop n = t) (hρ : ρ = ρ2) (e : ∀ (x : Int32) (J : gM), k L (.int x :: t) J = kk x J) : s_try gI f n ρ hs k L st I = hTI (f (.ref 0 :: av) (gS ρ2 I)) ρ2 I hs kk := by
  subst hρ; subst hd
  unfold s_try gI hTI
  rw [if_pos h1, h2]
  have : (fun (x : Int32) (J : gM) => k L (.int x :: st.drop n) J) = kk := by funext x J; exact e x J
  rw [this]
  rfl
theorem tt_tryJ {f : List Value → gM → gO} {n : Nat} {ρ ρ2 : List Nat} {hs : List (String × Int32)} {av : List Value} {kk : Int64 → gM → gO} (h1 : ((st.drop n).map Value.category).sum ≤ 8 ∧ n ≤ st.length) (h2 : gBk ρ2 (st.take n).reverse = some (.ref 0 :: av)) (hd : st.drop n = t) (hρ : ρ = ρ2) (e : ∀ (x : Int64) (J : gM), k L (.long x :: t) J = kk x J) : s_try gJ f n ρ hs k L st I = hTJ (f (.ref 0 :: av) (gS ρ2 I)) ρ2 I hs kk := by
  subst hρ; subst hd
  unfold s_try gJ hTJ
  rw [if_pos h1, h2]
  have : (fun (x : Int64) (J : gM) => k L (.long x :: st.drop n) J) = kk := by funext x J; exact e x J
  rw [this]
  rfl
end TLL
