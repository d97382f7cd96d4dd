/-! ===== what the law's methods do beside the others ===== -/
/-- halves of a long -/
def gLo (x : Int64) : Int32 := ⟨⟨x.toBitVec.setWidth 32⟩⟩
def gHi (x : Int64) : Int32 := ⟨⟨x.toBitVec.extractLsb' 32 32⟩⟩
def s_last (lay : List gL) (k : gK) : gK := fun L st I => match st with
  | .long x :: .int i :: .ref a :: t => match lay[a]? with
    | some (.inr (.inl (ki, n))) => if ki = 2 then if i < 0 ∨ n ≤ i.toNatClampNeg then none else k L t (gU (gU I a (2 * i.toNatClampNeg) (gLo x)) a (2 * i.toNatClampNeg + 1) (gHi x)) else none
    | _ => none
  | _ => none
def s_lald (lay : List gL) (k : gK) : gK := fun L st I => match st with
  | .int i :: .ref a :: t => match lay[a]? with
    | some (.inr (.inl (ki, n))) => if ki = 2 then if i < 0 ∨ n ≤ i.toNatClampNeg then none else k L (.long (gLg (I a (2 * i.toNatClampNeg)) (I a (2 * i.toNatClampNeg + 1))) :: t) I else none
    | _ => none
  | _ => none
/-- a call whose throws are caught here: the answer then is the handler's -/
def s_try (g : gGy) (f : List Value → gM → gO) (n : Nat) (ρ : List Nat) (hs : List (String × Int32)) (k : gK) : gK := fun L st I =>
  if ((st.drop n).map Value.category).sum ≤ 8 ∧ n ≤ st.length then match gBk ρ (st.take n).reverse with
    | some (.ref 0 :: av) => match f (.ref 0 :: av) (gS ρ I) with
      | some (.inr En, J) => match hs.lookup En with
        | some cv => some (.inl (some (.int cv)), gMg ρ I J)
        | none => none
      | o => g ρ k L (st.drop n) I o
    | _ => none
  else none
def s_sld (SL : Nat) (SX : Nat → Int32) (k : gK) : gK := fun L st I => match st with
  | .int i :: .ref q :: t => if q = 1400 then if i < 0 ∨ SL ≤ i.toNatClampNeg then none else k L (.int (SX i.toNatClampNeg) :: t) I else none
  | _ => none
def s_slen (SL : Nat) (k : gK) : gK := fun L st I => match st with
  | .ref q :: t => if q = 1400 then k L (.int (Int32.ofNat SL) :: t) I else none
  | _ => none
