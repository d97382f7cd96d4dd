/-! ===== the direct form ===== -/
def hAl (lay : List gL) (a ki : Nat) (i : Int32) (I : gM) (k : Int32 → gO) : gO := match lay[a]? with
  | some (.inr (.inl (ki', n))) => if ki' = ki then if i < 0 ∨ n ≤ i.toNatClampNeg then none else k (I a i.toNatClampNeg) else none
  | _ => none
def hQ (ps : List Nat) (v : Int32) (k : Nat → gO) : gO := match ps[v.toNatClampNeg]? with
  | some q => k q
  | none => none
def hJF_fill_0 (N : Nat) (n1 : Nat) (v1 : Int32) (I : gM) : gO := fJF_fill_k0 N n1 [some (.ref 0), some (.int v1), none, none] [] I
def hJF_fill_5 (N : Nat) (n1 : Nat) (n5 : Nat) (v1 : Int32) (v2 : Int32) (v3 : Int32) (I : gM) : gO := s_lp (fJF_fill_b5 N n1) n5 [some (.ref 0), some (.int v1), some (.int v2), some (.int v3)] [] I
theorem eJF_fill_0 (N : Nat) (n1 : Nat) (v1 : Int32) (I : gM) : hJF_fill_0 N n1 v1 I =
  hJF_fill_5 N n1 N v1 0 (Int32.ofNat n1) I := rfl
theorem eJF_fill_5 (N : Nat) (n1 : Nat) (n5 : Nat) (v1 : Int32) (v2 : Int32) (v3 : Int32) (I : gM) : hJF_fill_5 N n1 (n5 + 1) v1 v2 v3 I =
  if gc_ge v2 v3 = true then (some (.inl none, I)) else (ck n1 v2 <| hJF_fill_5 N n1 n5 v1 (v2 + 1) v3 (gU I 0 (nn v2) v1)) := rfl
theorem eJF_fill_5z (N : Nat) (n1 : Nat) (v1 : Int32) (v2 : Int32) (v3 : Int32) (I : gM) : hJF_fill_5 N n1 0 v1 v2 v3 I = none := rfl
theorem eJF_fill (N : Nat) (n1 : Nat) (v1 : Int32) (I : gM) : fJF_fill N n1 [.ref 0, .int v1] I = hJF_fill_0 N n1 v1 I := rfl

def hX2_findLink_0 (N : Nat) (v1 : Int32) (v2 : Int32) (I : gM) : gO := fX2_findLink_k0 N [some (.ref 0), some (.int v1), some (.int v2), none] [] I
def hX2_findLink_2 (N : Nat) (n2 : Nat) (v1 : Int32) (v2 : Int32) (v3 : Int32) (I : gM) : gO := s_lp (fX2_findLink_b2 N) n2 [some (.ref 0), some (.int v1), some (.int v2), some (.int v3)] [] I
def hX2_findLink_32 (N : Nat) (n2 : Nat) (v1 : Int32) (v2 : Int32) (v3 : Int32) (I : gM) : gO := fX2_findLink_k32 N (s_lp (fX2_findLink_b2 N) n2) [some (.ref 0), some (.int v1), some (.int v2), some (.int v3)] [] I
theorem eX2_findLink_0 (N : Nat) (v1 : Int32) (v2 : Int32) (I : gM) : hX2_findLink_0 N v1 v2 I =
  hX2_findLink_2 N N v1 v2 0 I := rfl
theorem eX2_findLink_2 (N : Nat) (n2 : Nat) (v1 : Int32) (v2 : Int32) (v3 : Int32) (I : gM) : hX2_findLink_2 N (n2 + 1) v1 v2 v3 I =
  if gc_ge v3 (I 0 1) = true then (some (.inl (some (.int (-1))), I)) else (ck 14 v3 <| if gc_ne ((I 1 (nn v3))) v1 = true then (hX2_findLink_32 N n2 v1 v2 v3 I) else (ck 14 v3 <| if gc_ne ((I 2 (nn v3))) v2 = true then (hX2_findLink_32 N n2 v1 v2 v3 I) else (some (.inl (some (.int v3)), I)))) := rfl
theorem eX2_findLink_2z (N : Nat) (v1 : Int32) (v2 : Int32) (v3 : Int32) (I : gM) : hX2_findLink_2 N 0 v1 v2 v3 I = none := rfl
theorem eX2_findLink_32 (N : Nat) (n2 : Nat) (v1 : Int32) (v2 : Int32) (v3 : Int32) (I : gM) : hX2_findLink_32 N n2 v1 v2 v3 I =
  hX2_findLink_2 N n2 v1 v2 (v3 + 1) I := rfl
theorem eX2_findLink (N : Nat) (v1 : Int32) (v2 : Int32) (I : gM) : fX2_findLink N [.ref 0, .int v1, .int v2] I = hX2_findLink_0 N v1 v2 I := rfl

def hX2_shortenDistances_0 (N : Nat) (v1 : Int32) (v2 : Int32) (I : gM) : gO := fX2_shortenDistances_k0 N [some (.ref 0), some (.int v1), some (.int v2), none, none, none, none] [] I
def hX2_shortenDistances_2 (N : Nat) (n2 : Nat) (v1 : Int32) (v2 : Int32) (v3 : Int32) (I : gM) : gO := s_lp (fX2_shortenDistances_b2 N) n2 [some (.ref 0), some (.int v1), some (.int v2), some (.int v3), none, none, none] [] I
def hX2_shortenDistances_25 (N : Nat) (n2 : Nat) (n25 : Nat) (v1 : Int32) (v2 : Int32) (v3 : Int32) (v4 : Int32) (v5 : Int32) (I : gM) : gO := s_lp (fX2_shortenDistances_b25 N (s_lp (fX2_shortenDistances_b2 N) n2)) n25 [some (.ref 0), some (.int v1), some (.int v2), some (.int v3), some (.int v4), some (.int v5), none] [] I
def hX2_shortenDistances_81 (N : Nat) (n2 : Nat) (n25 : Nat) (v1 : Int32) (v2 : Int32) (v3 : Int32) (v4 : Int32) (v5 : Int32) (I : gM) : gO := fX2_shortenDistances_k81 N (s_lp (fX2_shortenDistances_b2 N) n2) (s_lp (fX2_shortenDistances_b25 N (s_lp (fX2_shortenDistances_b2 N) n2)) n25) [some (.ref 0), some (.int v1), some (.int v2), some (.int v3), some (.int v4), some (.int v5), none] [] I
theorem eX2_shortenDistances_0 (N : Nat) (v1 : Int32) (v2 : Int32) (I : gM) : hX2_shortenDistances_0 N v1 v2 I =
  hX2_shortenDistances_2 N N v1 v2 0 I := rfl
theorem eX2_shortenDistances_2 (N : Nat) (n2 : Nat) (v1 : Int32) (v2 : Int32) (v3 : Int32) (I : gM) : hX2_shortenDistances_2 N (n2 + 1) v1 v2 v3 I =
  if gc_ge v3 (I 0 0) = true then (some (.inl none, I)) else (hI (fX8_pair N [.int v3, .int v1] (gS [] I)) [] I fun x1 I1 => ck 100 x1 <| hX2_shortenDistances_25 N n2 N v1 v2 v3 ((I1 8 (nn x1))) 0 I1) := rfl
theorem eX2_shortenDistances_2z (N : Nat) (v1 : Int32) (v2 : Int32) (v3 : Int32) (I : gM) : hX2_shortenDistances_2 N 0 v1 v2 v3 I = none := rfl
theorem eX2_shortenDistances_25 (N : Nat) (n2 : Nat) (n25 : Nat) (v1 : Int32) (v2 : Int32) (v3 : Int32) (v4 : Int32) (v5 : Int32) (I : gM) : hX2_shortenDistances_25 N n2 (n25 + 1) v1 v2 v3 v4 v5 I =
  if gc_ge v5 (I 0 0) = true then (hX2_shortenDistances_2 N n2 v1 v2 (v3 + 1) I) else (hI (fX8_pair N [.int v2, .int v5] (gS [] I)) [] I fun x2 I2 => ck 100 x2 <| hI (fX8_pair N [.int v3, .int v5] (gS [] I2)) [] I2 fun x3 I3 => ck 100 x3 <| if gc_ge (((v4 + 1) + ((I2 8 (nn x2))))) ((I3 8 (nn x3))) = true then (hX2_shortenDistances_81 N n2 n25 v1 v2 v3 v4 v5 I3) else (hI (fX8_pair N [.int v3, .int v5] (gS [] I3)) [] I3 fun x4 I4 => ck 100 x4 <| hX2_shortenDistances_81 N n2 n25 v1 v2 v3 v4 v5 (gU I4 8 (nn x4) (((v4 + 1) + ((I2 8 (nn x2)))))))) := rfl
theorem eX2_shortenDistances_25z (N : Nat) (n2 : Nat) (v1 : Int32) (v2 : Int32) (v3 : Int32) (v4 : Int32) (v5 : Int32) (I : gM) : hX2_shortenDistances_25 N n2 0 v1 v2 v3 v4 v5 I = none := rfl
theorem eX2_shortenDistances_81 (N : Nat) (n2 : Nat) (n25 : Nat) (v1 : Int32) (v2 : Int32) (v3 : Int32) (v4 : Int32) (v5 : Int32) (I : gM) : hX2_shortenDistances_81 N n2 n25 v1 v2 v3 v4 v5 I =
  hX2_shortenDistances_25 N n2 n25 v1 v2 v3 v4 (v5 + 1) I := rfl
theorem eX2_shortenDistances (N : Nat) (v1 : Int32) (v2 : Int32) (I : gM) : fX2_shortenDistances N [.ref 0, .int v1, .int v2] I = hX2_shortenDistances_0 N v1 v2 I := rfl

def hX2_putLink_0 (N : Nat) (v1 : Int32) (v2 : Int32) (v3 : Int32) (I : gM) : gO := fX2_putLink_k0 N [some (.ref 0), some (.int v1), some (.int v2), some (.int v3)] [] I
theorem eX2_putLink_0 (N : Nat) (v1 : Int32) (v2 : Int32) (v3 : Int32) (I : gM) : hX2_putLink_0 N v1 v2 v3 I =
  if gc_lt (I 0 1) 14 = true then (ck 14 (I 0 1) <| ck 14 (I 0 1) <| ck 14 (I 0 1) <| ck 14 (I 0 1) <| ck 14 (I 0 1) <| hV (fX2_shortenDistances N [.ref 0, .int v1, .int v2] (gS (rg 0 9) (gU (gU (gU (gU (gU (gU I 1 ((nn (I 0 1))) v1) 2 ((nn (I 0 1))) v2) 3 ((nn (I 0 1))) v3) 4 ((nn (I 0 1))) 0) 5 ((nn (I 0 1))) 0) 0 1 (((I 0 1) + 1))))) (rg 0 9) (gU (gU (gU (gU (gU (gU I 1 ((nn (I 0 1))) v1) 2 ((nn (I 0 1))) v2) 3 ((nn (I 0 1))) v3) 4 ((nn (I 0 1))) 0) 5 ((nn (I 0 1))) 0) 0 1 (((I 0 1) + 1))) fun I1 => some (.inl none, I1)) else (some (.inl none, I)) := rfl
theorem eX2_putLink (N : Nat) (v1 : Int32) (v2 : Int32) (v3 : Int32) (I : gM) : fX2_putLink N [.ref 0, .int v1, .int v2, .int v3] I = hX2_putLink_0 N v1 v2 v3 I := rfl

def hX2_inConflict_0 (N : Nat) (v1 : Int32) (v2 : Int32) (I : gM) : gO := fX2_inConflict_k0 N [some (.ref 0), some (.int v1), some (.int v2)] [] I
theorem eX2_inConflict_0 (N : Nat) (v1 : Int32) (v2 : Int32) (I : gM) : hX2_inConflict_0 N v1 v2 I =
  ck 14 v1 <| if gc_ne ((((gb_shr ((I 5 (nn v1))) v2)) &&& 1)) 1 = true then (some (.inl (some (.int 0)), I)) else (some (.inl (some (.int 1)), I)) := rfl
theorem eX2_inConflict (N : Nat) (v1 : Int32) (v2 : Int32) (I : gM) : fX2_inConflict N [.ref 0, .int v1, .int v2] I = hX2_inConflict_0 N v1 v2 I := rfl

def hX2_putConflict_0 (N : Nat) (v1 : Int32) (v2 : Int32) (v3 : Int32) (I : gM) : gO := fX2_putConflict_k0 N [some (.ref 0), some (.int v1), some (.int v2), some (.int v3)] [] I
theorem eX2_putConflict_0 (N : Nat) (v1 : Int32) (v2 : Int32) (v3 : Int32) (I : gM) : hX2_putConflict_0 N v1 v2 v3 I =
  if gz_eq v3 = true then (ck 14 v1 <| ck 14 v1 <| ck 14 v2 <| ck 14 v2 <| some (.inl none, (gU (gU I 5 (nn v1) ((((I 5 (nn v1))) &&& (((gb_shl 1 v2) ^^^ (-1)))))) 5 (nn v2) (((((gU I 5 (nn v1) ((((I 5 (nn v1))) &&& (((gb_shl 1 v2) ^^^ (-1)))))) 5 (nn v2))) &&& (((gb_shl 1 v1) ^^^ (-1)))))))) else (ck 14 v1 <| ck 14 v1 <| ck 14 v2 <| ck 14 v2 <| some (.inl none, (gU (gU I 5 (nn v1) ((((I 5 (nn v1))) ||| (gb_shl 1 v2)))) 5 (nn v2) (((((gU I 5 (nn v1) ((((I 5 (nn v1))) ||| (gb_shl 1 v2)))) 5 (nn v2))) ||| (gb_shl 1 v1)))))) := rfl
theorem eX2_putConflict (N : Nat) (v1 : Int32) (v2 : Int32) (v3 : Int32) (I : gM) : fX2_putConflict N [.ref 0, .int v1, .int v2, .int v3] I = hX2_putConflict_0 N v1 v2 v3 I := rfl

def hX2_getNumber_0 (N : Nat) (v1 : Int32) (v2 : Int32) (I : gM) : gO := fX2_getNumber_k0 N [some (.ref 0), some (.int v1), some (.int v2)] [] I
theorem eX2_getNumber_0 (N : Nat) (v1 : Int32) (v2 : Int32) (I : gM) : hX2_getNumber_0 N v1 v2 I =
  ck 66 (((v1 * 11) + v2)) <| some (.inl (some (.int ((I 7 ((nn (((v1 * 11) + v2)))))))), I) := rfl
theorem eX2_getNumber (N : Nat) (v1 : Int32) (v2 : Int32) (I : gM) : fX2_getNumber N [.ref 0, .int v1, .int v2] I = hX2_getNumber_0 N v1 v2 I := rfl

def hX2_putNumber_0 (N : Nat) (v1 : Int32) (v2 : Int32) (v3 : Int32) (I : gM) : gO := fX2_putNumber_k0 N [some (.ref 0), some (.int v1), some (.int v2), some (.int v3)] [] I
theorem eX2_putNumber_0 (N : Nat) (v1 : Int32) (v2 : Int32) (v3 : Int32) (I : gM) : hX2_putNumber_0 N v1 v2 v3 I =
  ck 66 (((v1 * 11) + v2)) <| some (.inl none, (gU I 7 ((nn (((v1 * 11) + v2)))) v3)) := rfl
theorem eX2_putNumber (N : Nat) (v1 : Int32) (v2 : Int32) (v3 : Int32) (I : gM) : fX2_putNumber N [.ref 0, .int v1, .int v2, .int v3] I = hX2_putNumber_0 N v1 v2 v3 I := rfl

def hX2_addNumber_0 (N : Nat) (v1 : Int32) (v2 : Int32) (v3 : Int32) (I : gM) : gO := fX2_addNumber_k0 N [some (.ref 0), some (.int v1), some (.int v2), some (.int v3)] [] I
theorem eX2_addNumber_0 (N : Nat) (v1 : Int32) (v2 : Int32) (v3 : Int32) (I : gM) : hX2_addNumber_0 N v1 v2 v3 I =
  ck 66 (((v1 * 11) + v2)) <| ck 66 (((v1 * 11) + v2)) <| some (.inl none, (gU I 7 ((nn (((v1 * 11) + v2)))) ((((I 7 ((nn (((v1 * 11) + v2)))))) + v3)))) := rfl
theorem eX2_addNumber (N : Nat) (v1 : Int32) (v2 : Int32) (v3 : Int32) (I : gM) : fX2_addNumber N [.ref 0, .int v1, .int v2, .int v3] I = hX2_addNumber_0 N v1 v2 v3 I := rfl

def hX2_putFlow_0 (N : Nat) (v1 : Int32) (v2 : Int32) (v3 : Int32) (v4 : Int32) (I : gM) : gO := fX2_putFlow_k0 N [some (.ref 0), some (.int v1), some (.int v2), some (.int v3), some (.int v4), none, none] [] I
def hX2_putFlow_29 (N : Nat) (n29 : Nat) (v1 : Int32) (v2 : Int32) (v3 : Int32) (v4 : Int32) (v5 : Int32) (v6 : Int32) (I : gM) : gO := s_lp (fX2_putFlow_b29 N) n29 [some (.ref 0), some (.int v1), some (.int v2), some (.int v3), some (.int v4), some (.int v5), some (.int v6)] [] I
theorem eX2_putFlow_0 (N : Nat) (v1 : Int32) (v2 : Int32) (v3 : Int32) (v4 : Int32) (I : gM) : hX2_putFlow_0 N v1 v2 v3 v4 I =
  if gc_lt (I 0 2) 6 = true then (hX2_putFlow_29 N N v1 v2 v3 v4 (I 0 2) 0 (gU I 0 2 (((I 0 2) + 1)))) else (some (.inl none, I)) := rfl
theorem eX2_putFlow_29 (N : Nat) (n29 : Nat) (v1 : Int32) (v2 : Int32) (v3 : Int32) (v4 : Int32) (v5 : Int32) (v6 : Int32) (I : gM) : hX2_putFlow_29 N (n29 + 1) v1 v2 v3 v4 v5 v6 I =
  if gc_ge v6 11 = true then (hV (fX2_putNumber N [.ref 0, .int v5, .int 0, .int v1] (gS (rg 0 9) I)) (rg 0 9) I fun I1 => hV (fX2_putNumber N [.ref 0, .int v5, .int 1, .int v2] (gS (rg 0 9) I1)) (rg 0 9) I1 fun I2 => hV (fX2_putNumber N [.ref 0, .int v5, .int 2, .int v3] (gS (rg 0 9) I2)) (rg 0 9) I2 fun I3 => hV (fX2_putNumber N [.ref 0, .int v5, .int 3, .int v4] (gS (rg 0 9) I3)) (rg 0 9) I3 fun I4 => some (.inl none, I4)) else (hV (fX2_putNumber N [.ref 0, .int v5, .int v6, .int 0] (gS (rg 0 9) I)) (rg 0 9) I fun I5 => hX2_putFlow_29 N n29 v1 v2 v3 v4 v5 (v6 + 1) I5) := rfl
theorem eX2_putFlow_29z (N : Nat) (v1 : Int32) (v2 : Int32) (v3 : Int32) (v4 : Int32) (v5 : Int32) (v6 : Int32) (I : gM) : hX2_putFlow_29 N 0 v1 v2 v3 v4 v5 v6 I = none := rfl
theorem eX2_putFlow (N : Nat) (v1 : Int32) (v2 : Int32) (v3 : Int32) (v4 : Int32) (I : gM) : fX2_putFlow N [.ref 0, .int v1, .int v2, .int v3, .int v4] I = hX2_putFlow_0 N v1 v2 v3 v4 I := rfl

def hX2_sumNumber_0 (N : Nat) (v1 : Int32) (I : gM) : gO := fX2_sumNumber_k0 N [some (.ref 0), some (.int v1), none, none] [] I
def hX2_sumNumber_4 (N : Nat) (n4 : Nat) (v1 : Int32) (v2 : Int32) (v3 : Int32) (I : gM) : gO := s_lp (fX2_sumNumber_b4 N) n4 [some (.ref 0), some (.int v1), some (.int v2), some (.int v3)] [] I
theorem eX2_sumNumber_0 (N : Nat) (v1 : Int32) (I : gM) : hX2_sumNumber_0 N v1 I =
  hX2_sumNumber_4 N N v1 0 0 I := rfl
theorem eX2_sumNumber_4 (N : Nat) (n4 : Nat) (v1 : Int32) (v2 : Int32) (v3 : Int32) (I : gM) : hX2_sumNumber_4 N (n4 + 1) v1 v2 v3 I =
  if gc_ge v3 (I 0 2) = true then (some (.inl (some (.int v2)), I)) else (hI (fX2_getNumber N [.ref 0, .int v3, .int v1] (gS (rg 0 9) I)) (rg 0 9) I fun x1 I1 => hX2_sumNumber_4 N n4 v1 (v2 + x1) (v3 + 1) I1) := rfl
theorem eX2_sumNumber_4z (N : Nat) (v1 : Int32) (v2 : Int32) (v3 : Int32) (I : gM) : hX2_sumNumber_4 N 0 v1 v2 v3 I = none := rfl
theorem eX2_sumNumber (N : Nat) (v1 : Int32) (I : gM) : fX2_sumNumber N [.ref 0, .int v1] I = hX2_sumNumber_0 N v1 I := rfl

def hX2_hasBudget_0 (N : Nat) (I : gM) : gO := fX2_hasBudget_k0 N [some (.ref 0), none] [] I
def hX2_hasBudget_2 (N : Nat) (n2 : Nat) (v1 : Int32) (I : gM) : gO := s_lp (fX2_hasBudget_b2 N) n2 [some (.ref 0), some (.int v1)] [] I
theorem eX2_hasBudget_0 (N : Nat) (I : gM) : hX2_hasBudget_0 N I =
  hX2_hasBudget_2 N N 0 I := rfl
theorem eX2_hasBudget_2 (N : Nat) (n2 : Nat) (v1 : Int32) (I : gM) : hX2_hasBudget_2 N (n2 + 1) v1 I =
  if gc_ge v1 (I 0 2) = true then (some (.inl (some (.int 0)), I)) else (hI (fX2_getNumber N [.ref 0, .int v1, .int 3] (gS (rg 0 9) I)) (rg 0 9) I fun x1 I1 => if gz_le x1 = true then (hX2_hasBudget_2 N n2 (v1 + 1) I1) else (some (.inl (some (.int 1)), I1))) := rfl
theorem eX2_hasBudget_2z (N : Nat) (v1 : Int32) (I : gM) : hX2_hasBudget_2 N 0 v1 I = none := rfl
theorem eX2_hasBudget (N : Nat) (I : gM) : fX2_hasBudget N [.ref 0] I = hX2_hasBudget_0 N I := rfl

def hX2_clear_0 (N : Nat) (v1 : Int32) (I : gM) : gO := fX2_clear_k0 N [some (.ref 0), some (.int v1), none] [] I
def hX2_clear_41 (N : Nat) (n41 : Nat) (v1 : Int32) (v2 : Int32) (I : gM) : gO := s_lp (fX2_clear_b41 N) n41 [some (.ref 0), some (.int v1), some (.int v2)] [] I
theorem eX2_clear_0 (N : Nat) (v1 : Int32) (I : gM) : hX2_clear_0 N v1 I =
  hV (fJF_fill N 4 [.ref 0, .int 0] (gS [6] (gU (gU (gU I 0 0 v1) 0 1 0) 0 2 0))) [6] (gU (gU (gU I 0 0 v1) 0 1 0) 0 2 0) fun I1 => ck 4 1 <| hV (fJF_fill N 100 [.ref 0, .int v1] (gS [8] (gU I1 6 (nn 1) 10))) [8] (gU I1 6 (nn 1) 10) fun I2 => hX2_clear_41 N N v1 0 I2 := rfl
theorem eX2_clear_41 (N : Nat) (n41 : Nat) (v1 : Int32) (v2 : Int32) (I : gM) : hX2_clear_41 N (n41 + 1) v1 v2 I =
  if gc_ge v2 v1 = true then (some (.inl none, I)) else (hI (fX8_pair N [.int v2, .int v2] (gS [] I)) [] I fun x3 I3 => ck 100 x3 <| hX2_clear_41 N n41 v1 (v2 + 1) (gU I3 8 (nn x3) 0)) := rfl
theorem eX2_clear_41z (N : Nat) (v1 : Int32) (v2 : Int32) (I : gM) : hX2_clear_41 N 0 v1 v2 I = none := rfl
theorem eX2_clear (N : Nat) (v1 : Int32) (I : gM) : fX2_clear N [.ref 0, .int v1] I = hX2_clear_0 N v1 I := rfl

def hX2_copyFrom_0 (N : Nat) (I : gM) : gO := fX2_copyFrom_k0 N [some (.ref 0), some (.ref 9)] [] I
theorem eX2_copyFrom_0 (N : Nat) (I : gM) : hX2_copyFrom_0 N I =
  hV (fX8_copyRow N 14 14 [.ref 0, .ref 1, .int 14] (gS [10, 1] (gU (gU (gU I 0 0 (I 9 0)) 0 1 (I 9 1)) 0 2 (I 9 2)))) [10, 1] (gU (gU (gU I 0 0 (I 9 0)) 0 1 (I 9 1)) 0 2 (I 9 2)) fun I1 => hV (fX8_copyRow N 14 14 [.ref 0, .ref 1, .int 14] (gS [11, 2] I1)) [11, 2] I1 fun I2 => hV (fX8_copyRow N 14 14 [.ref 0, .ref 1, .int 14] (gS [12, 3] I2)) [12, 3] I2 fun I3 => hV (fX8_copyRow N 14 14 [.ref 0, .ref 1, .int 14] (gS [13, 4] I3)) [13, 4] I3 fun I4 => hV (fX8_copyRow N 14 14 [.ref 0, .ref 1, .int 14] (gS [14, 5] I4)) [14, 5] I4 fun I5 => hV (fX8_copyRow N 4 4 [.ref 0, .ref 1, .int 4] (gS [15, 6] I5)) [15, 6] I5 fun I6 => hV (fX8_copyRow N 66 66 [.ref 0, .ref 1, .int 66] (gS [16, 7] I6)) [16, 7] I6 fun I7 => hV (fX8_copyRow N 100 100 [.ref 0, .ref 1, .int 100] (gS [17, 8] I7)) [17, 8] I7 fun I8 => some (.inl none, I8) := rfl
theorem eX2_copyFrom (N : Nat) (I : gM) : fX2_copyFrom N [.ref 0, .ref 9] I = hX2_copyFrom_0 N I := rfl

def hX4_clear_0 (N : Nat) (I : gM) : gO := fX4_clear_k0 N [some (.ref 0)] [] I
theorem eX4_clear_0 (N : Nat) (I : gM) : hX4_clear_0 N I =
  hV (fJF_fill N 100 [.ref 0, .int 0] (gS [3] I)) [3] I fun I1 => hV (fJF_fill N 100 [.ref 0, .int 0] (gS [4] I1)) [4] I1 fun I2 => some (.inl none, (gU (gU (gU I2 0 9 0) 0 10 (-1)) 0 11 0)) := rfl
theorem eX4_clear (N : Nat) (I : gM) : fX4_clear N [.ref 0] I = hX4_clear_0 N I := rfl

def hX4_putLast_0 (N : Nat) (v1 : Int32) (v2 : Int32) (I : gM) : gO := fX4_putLast_k0 N [some (.ref 0), some (.int v1), some (.int v2)] [] I
def hX4_putLast_38 (N : Nat) (v1 : Int32) (v2 : Int32) (I : gM) : gO := fX4_putLast_k38 N [some (.ref 0), some (.int v1), some (.int v2)] [] I
theorem eX4_putLast_0 (N : Nat) (v1 : Int32) (v2 : Int32) (I : gM) : hX4_putLast_0 N v1 v2 I =
  ck 500 v2 <| ck 100 v1 <| if gz_ne ((I 3 (nn v1))) = true then (ck 100 v1 <| ck 500 ((I 2 (nn v1))) <| hX4_putLast_38 N v1 v2 (gU (gU I 5 (nn v2) (-1)) 5 ((nn ((I 2 (nn v1))))) v2)) else (ck 100 v1 <| hX4_putLast_38 N v1 v2 (gU (gU I 5 (nn v2) (-1)) 1 (nn v1) v2)) := rfl
theorem eX4_putLast_38 (N : Nat) (v1 : Int32) (v2 : Int32) (I : gM) : hX4_putLast_38 N v1 v2 I =
  ck 100 v1 <| ck 100 v1 <| ck 100 v1 <| some (.inl none, (gU (gU I 2 (nn v1) v2) 3 (nn v1) ((((I 3 (nn v1))) + 1)))) := rfl
theorem eX4_putLast (N : Nat) (v1 : Int32) (v2 : Int32) (I : gM) : fX4_putLast N [.ref 0, .int v1, .int v2] I = hX4_putLast_0 N v1 v2 I := rfl

def hX4_enter_0 (N : Nat) (v1 : Int32) (v2 : Int32) (v3 : Int32) (v4 : Int32) (I : gM) : gO := fX4_enter_k0 N [some (.ref 0), some (.int v1), some (.int v2), some (.int v3), some (.int v4), none] [] I
def hX4_enter_30 (N : Nat) (v1 : Int32) (v2 : Int32) (v3 : Int32) (v4 : Int32) (I : gM) : gO := fX4_enter_k30 N [some (.ref 0), some (.int v1), some (.int v2), some (.int v3), some (.int v4), none] [] I
def hX4_enter_72 (N : Nat) (v1 : Int32) (v2 : Int32) (v3 : Int32) (v4 : Int32) (v5 : Int32) (I : gM) : gO := fX4_enter_k72 N [some (.ref 0), some (.int v1), some (.int v2), some (.int v3), some (.int v4), some (.int v5)] [] I
theorem eX4_enter_0 (N : Nat) (v1 : Int32) (v2 : Int32) (v3 : Int32) (v4 : Int32) (I : gM) : hX4_enter_0 N v1 v2 v3 v4 I =
  if gc_ge (I 0 11) 500 = true then (some (.inl (some (.int 0)), I)) else (if gc_ne (I 0 10) (-1) = true then (hX4_enter_30 N v1 v2 v3 v4 I) else (if gc_lt (I 0 9) 500 = true then (hX4_enter_30 N v1 v2 v3 v4 I) else (some (.inl (some (.int 0)), I)))) := rfl
theorem eX4_enter_30 (N : Nat) (v1 : Int32) (v2 : Int32) (v3 : Int32) (v4 : Int32) (I : gM) : hX4_enter_30 N v1 v2 v3 v4 I =
  if gc_eq (I 0 10) (-1) = true then (hX4_enter_72 N v1 v2 v3 v4 (I 0 9) (gU I 0 9 (((I 0 9) + 1)))) else (ck 500 (I 0 10) <| hX4_enter_72 N v1 v2 v3 v4 (I 0 10) (gU I 0 10 ((I 5 ((nn (I 0 10))))))) := rfl
theorem eX4_enter_72 (N : Nat) (v1 : Int32) (v2 : Int32) (v3 : Int32) (v4 : Int32) (v5 : Int32) (I : gM) : hX4_enter_72 N v1 v2 v3 v4 v5 I =
  ck 500 v5 <| ck 500 v5 <| ck 500 v5 <| ck 500 v5 <| hV (fX4_putLast N [.ref 0, .int v1, .int v5] (gS (rg 0 10) (gU (gU (gU (gU (gU I 6 (nn v5) v2) 7 (nn v5) v3) 8 (nn v5) 0) 9 (nn v5) (gb_shl 1 v4)) 0 11 (((I 0 11) + 1))))) (rg 0 10) (gU (gU (gU (gU (gU I 6 (nn v5) v2) 7 (nn v5) v3) 8 (nn v5) 0) 9 (nn v5) (gb_shl 1 v4)) 0 11 (((I 0 11) + 1))) fun I1 => some (.inl (some (.int 1)), I1) := rfl
theorem eX4_enter (N : Nat) (v1 : Int32) (v2 : Int32) (v3 : Int32) (v4 : Int32) (I : gM) : fX4_enter N [.ref 0, .int v1, .int v2, .int v3, .int v4] I = hX4_enter_0 N v1 v2 v3 v4 I := rfl

def hX4_takeBehind_0 (N : Nat) (v1 : Int32) (v2 : Int32) (I : gM) : gO := fX4_takeBehind_k0 N [some (.ref 0), some (.int v1), some (.int v2), none] [] I
def hX4_takeBehind_31 (N : Nat) (v1 : Int32) (v2 : Int32) (s0 : Int32) (I : gM) : gO := fX4_takeBehind_k31 N [some (.ref 0), some (.int v1), some (.int v2), none] [.int s0] I
def hX4_takeBehind_71 (N : Nat) (v1 : Int32) (v2 : Int32) (v3 : Int32) (I : gM) : gO := fX4_takeBehind_k71 N [some (.ref 0), some (.int v1), some (.int v2), some (.int v3)] [] I
def hX4_takeBehind_88 (N : Nat) (v1 : Int32) (v3 : Int32) (I : gM) : gO := fX4_takeBehind_k88 N [some (.ref 0), some (.int v1), none, some (.int v3)] [] I
theorem eX4_takeBehind_0 (N : Nat) (v1 : Int32) (v2 : Int32) (I : gM) : hX4_takeBehind_0 N v1 v2 I =
  ck 100 v1 <| if gz_ne ((I 3 (nn v1))) = true then (if gc_ne v2 (-1) = true then (ck 500 v2 <| hX4_takeBehind_31 N v1 v2 ((I 5 (nn v2))) I) else (ck 100 v1 <| hX4_takeBehind_31 N v1 v2 ((I 1 (nn v1))) I)) else (some (.inl (some (.int (-1))), I)) := rfl
theorem eX4_takeBehind_31 (N : Nat) (v1 : Int32) (v2 : Int32) (s0 : Int32) (I : gM) : hX4_takeBehind_31 N v1 v2 s0 I =
  if gc_ne s0 (-1) = true then (if gc_ne v2 (-1) = true then (ck 500 s0 <| ck 500 v2 <| hX4_takeBehind_71 N v1 v2 s0 (gU I 5 (nn v2) ((I 5 (nn s0))))) else (ck 500 s0 <| ck 100 v1 <| hX4_takeBehind_71 N v1 v2 s0 (gU I 1 (nn v1) ((I 5 (nn s0)))))) else (some (.inl (some (.int (-1))), I)) := rfl
theorem eX4_takeBehind_71 (N : Nat) (v1 : Int32) (v2 : Int32) (v3 : Int32) (I : gM) : hX4_takeBehind_71 N v1 v2 v3 I =
  ck 500 v3 <| if gc_ne ((I 5 (nn v3))) (-1) = true then (hX4_takeBehind_88 N v1 v3 I) else (ck 100 v1 <| hX4_takeBehind_88 N v1 v3 (gU I 2 (nn v1) v2)) := rfl
theorem eX4_takeBehind_88 (N : Nat) (v1 : Int32) (v3 : Int32) (I : gM) : hX4_takeBehind_88 N v1 v3 I =
  ck 100 v1 <| ck 100 v1 <| some (.inl (some (.int v3)), (gU I 3 (nn v1) ((((I 3 (nn v1))) - 1)))) := rfl
theorem eX4_takeBehind (N : Nat) (v1 : Int32) (v2 : Int32) (I : gM) : fX4_takeBehind N [.ref 0, .int v1, .int v2] I = hX4_takeBehind_0 N v1 v2 I := rfl

def hX4_release_0 (N : Nat) (v1 : Int32) (I : gM) : gO := fX4_release_k0 N [some (.ref 0), some (.int v1)] [] I
theorem eX4_release_0 (N : Nat) (v1 : Int32) (I : gM) : hX4_release_0 N v1 I =
  ck 500 v1 <| some (.inl none, (gU (gU (gU I 5 (nn v1) (I 0 10)) 0 10 v1) 0 11 (((I 0 11) - 1)))) := rfl
theorem eX4_release (N : Nat) (v1 : Int32) (I : gM) : fX4_release N [.ref 0, .int v1] I = hX4_release_0 N v1 I := rfl

def hX4_find_0 (N : Nat) (v1 : Int32) (v2 : Int32) (I : gM) : gO := fX4_find_k0 N [some (.ref 0), some (.int v1), some (.int v2), none, none] [] I
def hX4_find_26 (N : Nat) (n26 : Nat) (v2 : Int32) (v3 : Int32) (v4 : Int32) (I : gM) : gO := s_lp (fX4_find_b26 N) n26 [some (.ref 0), none, some (.int v2), some (.int v3), some (.int v4)] [] I
theorem eX4_find_0 (N : Nat) (v1 : Int32) (v2 : Int32) (I : gM) : hX4_find_0 N v1 v2 I =
  if gz_lt v2 = true then (some (.inl (some (.int (-1))), I)) else (ck 100 v1 <| if gc_lt v2 ((I 3 (nn v1))) = true then (ck 100 v1 <| hX4_find_26 N N v2 ((I 1 (nn v1))) 0 I) else (some (.inl (some (.int (-1))), I))) := rfl
theorem eX4_find_26 (N : Nat) (n26 : Nat) (v2 : Int32) (v3 : Int32) (v4 : Int32) (I : gM) : hX4_find_26 N (n26 + 1) v2 v3 v4 I =
  if gc_ge v4 v2 = true then (some (.inl (some (.int v3)), I)) else (if gc_eq v3 (-1) = true then (some (.inl (some (.int v3)), I)) else (ck 500 v3 <| hX4_find_26 N n26 v2 ((I 5 (nn v3))) (v4 + 1) I)) := rfl
theorem eX4_find_26z (N : Nat) (v2 : Int32) (v3 : Int32) (v4 : Int32) (I : gM) : hX4_find_26 N 0 v2 v3 v4 I = none := rfl
theorem eX4_find (N : Nat) (v1 : Int32) (v2 : Int32) (I : gM) : fX4_find N [.ref 0, .int v1, .int v2] I = hX4_find_0 N v1 v2 I := rfl

def hX4_copyFrom_0 (N : Nat) (I : gM) : gO := fX4_copyFrom_k0 N [some (.ref 0), some (.ref 10)] [] I
theorem eX4_copyFrom_0 (N : Nat) (I : gM) : hX4_copyFrom_0 N I =
  hV (fX8_copyRow N 100 100 [.ref 0, .ref 1, .int 100] (gS [11, 1] I)) [11, 1] I fun I1 => hV (fX8_copyRow N 100 100 [.ref 0, .ref 1, .int 100] (gS [12, 2] I1)) [12, 2] I1 fun I2 => hV (fX8_copyRow N 100 100 [.ref 0, .ref 1, .int 100] (gS [13, 3] I2)) [13, 3] I2 fun I3 => hV (fX8_copyRow N 100 100 [.ref 0, .ref 1, .int 100] (gS [14, 4] I3)) [14, 4] I3 fun I4 => hV (fX8_copyRow N 500 500 [.ref 0, .ref 1, .int (I4 10 9)] (gS [15, 5] (gU (gU (gU I4 0 9 (I4 10 9)) 0 10 (I4 10 10)) 0 11 (I4 10 11)))) [15, 5] (gU (gU (gU I4 0 9 (I4 10 9)) 0 10 (I4 10 10)) 0 11 (I4 10 11)) fun I5 => hV (fX8_copyRow N 500 500 [.ref 0, .ref 1, .int (I5 0 9)] (gS [16, 6] I5)) [16, 6] I5 fun I6 => hV (fX8_copyRow N 500 500 [.ref 0, .ref 1, .int (I6 0 9)] (gS [17, 7] I6)) [17, 7] I6 fun I7 => hV (fX8_copyRow N 500 500 [.ref 0, .ref 1, .int (I7 0 9)] (gS [18, 8] I7)) [18, 8] I7 fun I8 => hV (fX8_copyRow N 500 500 [.ref 0, .ref 1, .int (I8 0 9)] (gS [19, 9] I8)) [19, 9] I8 fun I9 => some (.inl none, I9) := rfl
theorem eX4_copyFrom (N : Nat) (I : gM) : fX4_copyFrom N [.ref 0, .ref 10] I = hX4_copyFrom_0 N I := rfl

def hX7_begin_0 (N : Nat) (I : gM) : gO := fX7_begin_k0 N [some (.ref 0), some (.ref 20)] [] I
theorem eX7_begin_0 (N : Nat) (I : gM) : hX7_begin_0 N I =
  hV (fX2_copyFrom N [.ref 0, .ref 9] (gS (rg 1 9 ++ rg 20 9) I)) (rg 1 9 ++ rg 20 9) I fun I1 => hV (fX4_clear N [.ref 0] (gS (rg 10 10) I1)) (rg 10 10) I1 fun I2 => some (.inl none, (gU (gU I2 0 2 0) 0 3 0)) := rfl
theorem eX7_begin (N : Nat) (I : gM) : fX7_begin N [.ref 0, .ref 20] I = hX7_begin_0 N I := rfl

def hX7_copyFrom_0 (N : Nat) (I : gM) : gO := fX7_copyFrom_k0 N [some (.ref 0), some (.ref 20)] [] I
theorem eX7_copyFrom_0 (N : Nat) (I : gM) : hX7_copyFrom_0 N I =
  hV (fX2_copyFrom N [.ref 0, .ref 9] (gS (rg 1 9 ++ rg 21 9) I)) (rg 1 9 ++ rg 21 9) I fun I1 => hV (fX4_copyFrom N [.ref 0, .ref 10] (gS (rg 10 10 ++ rg 30 10) I1)) (rg 10 10 ++ rg 30 10) I1 fun I2 => some (.inl none, (gU (gU I2 0 2 (I2 20 2)) 0 3 (I2 20 3))) := rfl
theorem eX7_copyFrom (N : Nat) (I : gM) : fX7_copyFrom N [.ref 0, .ref 20] I = hX7_copyFrom_0 N I := rfl

def hX7_arrive_0 (N : Nat) (v1 : Int32) (v2 : Int32) (I : gM) : gO := fX7_arrive_k0 N [some (.ref 0), some (.int v1), some (.int v2), none, none, none, none] [] I
def hX7_arrive_31 (N : Nat) (n31 : Nat) (v1 : Int32) (v2 : Int32) (v3 : Int32) (v4 : Int32) (v5 : Int32) (v6 : Int32) (I : gM) : gO := s_lp (fX7_arrive_b31 N) n31 [some (.ref 0), some (.int v1), some (.int v2), some (.int v3), some (.int v4), some (.int v5), some (.int v6)] [] I
def hX7_arrive_58 (N : Nat) (n31 : Nat) (v1 : Int32) (v2 : Int32) (v3 : Int32) (v4 : Int32) (v5 : Int32) (v6 : Int32) (I : gM) : gO := fX7_arrive_k58 N (s_lp (fX7_arrive_b31 N) n31) [some (.ref 0), some (.int v1), some (.int v2), some (.int v3), some (.int v4), some (.int v5), some (.int v6)] [] I
theorem eX7_arrive_0 (N : Nat) (v1 : Int32) (v2 : Int32) (I : gM) : hX7_arrive_0 N v1 v2 I =
  hI (fX2_getNumber N [.ref 0, .int v1, .int 0] (gS (rg 1 9) I)) (rg 1 9) I fun x1 I1 => hI (fX2_getNumber N [.ref 0, .int v1, .int 1] (gS (rg 1 9) I1)) (rg 1 9) I1 fun x2 I2 => hI (fX8_pair N [.int x1, .int x2] (gS [] I2)) [] I2 fun x3 I3 => hX7_arrive_31 N N v1 v2 x1 x3 0 0 I3 := rfl
theorem eX7_arrive_31 (N : Nat) (n31 : Nat) (v1 : Int32) (v2 : Int32) (v3 : Int32) (v4 : Int32) (v5 : Int32) (v6 : Int32) (I : gM) : hX7_arrive_31 N (n31 + 1) v1 v2 v3 v4 v5 v6 I =
  if gc_ge v6 v2 = true then (hV (fX2_addNumber N [.ref 0, .int v1, .int 4, .int v2] (gS (rg 1 9) I)) (rg 1 9) I fun I4 => hV (fX2_addNumber N [.ref 0, .int v1, .int 5, .int (v2 - v5)] (gS (rg 1 9) I4)) (rg 1 9) I4 fun I5 => some (.inl (some (.int v5)), I5)) else (hI (fX4_enter N [.ref 0, .int v4, .int v1, .int (I 0 2), .int v3] (gS (rg 10 10) I)) (rg 10 10) I fun x6 I6 => if gz_eq x6 = true then (hX7_arrive_58 N n31 v1 v2 v3 v4 v5 v6 I6) else (hX7_arrive_58 N n31 v1 v2 v3 v4 (v5 + 1) v6 I6)) := rfl
theorem eX7_arrive_31z (N : Nat) (v1 : Int32) (v2 : Int32) (v3 : Int32) (v4 : Int32) (v5 : Int32) (v6 : Int32) (I : gM) : hX7_arrive_31 N 0 v1 v2 v3 v4 v5 v6 I = none := rfl
theorem eX7_arrive_58 (N : Nat) (n31 : Nat) (v1 : Int32) (v2 : Int32) (v3 : Int32) (v4 : Int32) (v5 : Int32) (v6 : Int32) (I : gM) : hX7_arrive_58 N n31 v1 v2 v3 v4 v5 v6 I =
  hX7_arrive_31 N n31 v1 v2 v3 v4 v5 (v6 + 1) I := rfl
theorem eX7_arrive (N : Nat) (v1 : Int32) (v2 : Int32) (I : gM) : fX7_arrive N [.ref 0, .int v1, .int v2] I = hX7_arrive_0 N v1 v2 I := rfl

def hX7_loseAll_0 (N : Nat) (v1 : Int32) (I : gM) : gO := fX7_loseAll_k0 N [some (.ref 0), some (.int v1), none, none, none] [] I
def hX7_loseAll_12 (N : Nat) (n12 : Nat) (v1 : Int32) (v2 : Int32) (v3 : Int32) (I : gM) : gO := s_lp (fX7_loseAll_b12 N) n12 [some (.ref 0), some (.int v1), some (.int v2), some (.int v3), none] [] I
def hX7_loseAll_62 (N : Nat) (n12 : Nat) (v1 : Int32) (v2 : Int32) (v3 : Int32) (I : gM) : gO := fX7_loseAll_k62 N (s_lp (fX7_loseAll_b12 N) n12) [some (.ref 0), some (.int v1), some (.int v2), some (.int v3), none] [] I
theorem eX7_loseAll_0 (N : Nat) (v1 : Int32) (I : gM) : hX7_loseAll_0 N v1 I =
  ck 100 v1 <| hX7_loseAll_12 N N v1 ((I 13 (nn v1))) 0 I := rfl
theorem eX7_loseAll_12 (N : Nat) (n12 : Nat) (v1 : Int32) (v2 : Int32) (v3 : Int32) (I : gM) : hX7_loseAll_12 N (n12 + 1) v1 v2 v3 I =
  if gc_ge v3 v2 = true then (some (.inl (some (.int v2)), I)) else (hI (fX4_takeBehind N [.ref 0, .int v1, .int (-1)] (gS (rg 10 10) I)) (rg 10 10) I fun x1 I1 => if gc_eq x1 (-1) = true then (hX7_loseAll_62 N n12 v1 v2 v3 I1) else (ck 500 x1 <| hV (fX2_addNumber N [.ref 0, .int ((I1 16 (nn x1))), .int 5, .int 1] (gS (rg 1 9) I1)) (rg 1 9) I1 fun I2 => hV (fX4_release N [.ref 0, .int x1] (gS (rg 10 10) I2)) (rg 10 10) I2 fun I3 => hX7_loseAll_62 N n12 v1 v2 v3 I3)) := rfl
theorem eX7_loseAll_12z (N : Nat) (v1 : Int32) (v2 : Int32) (v3 : Int32) (I : gM) : hX7_loseAll_12 N 0 v1 v2 v3 I = none := rfl
theorem eX7_loseAll_62 (N : Nat) (n12 : Nat) (v1 : Int32) (v2 : Int32) (v3 : Int32) (I : gM) : hX7_loseAll_62 N n12 v1 v2 v3 I =
  hX7_loseAll_12 N n12 v1 v2 (v3 + 1) I := rfl
theorem eX7_loseAll (N : Nat) (v1 : Int32) (I : gM) : fX7_loseAll N [.ref 0, .int v1] I = hX7_loseAll_0 N v1 I := rfl

def hX7_deadline_0 (N : Nat) (v1 : Int32) (I : gM) : gO := fX7_deadline_k0 N [some (.ref 0), some (.int v1), none] [] I
theorem eX7_deadline_0 (N : Nat) (v1 : Int32) (I : gM) : hX7_deadline_0 N v1 I =
  ck 500 v1 <| hI (fX2_getNumber N [.ref 0, .int ((I 16 (nn v1))), .int 3] (gS (rg 1 9) I)) (rg 1 9) I fun x1 I1 => if gz_ne x1 = true then (ck 500 v1 <| some (.inl (some (.int ((((I1 17 (nn v1))) + x1)))), I1)) else (some (.inl (some (.int (-1))), I1)) := rfl
theorem eX7_deadline (N : Nat) (v1 : Int32) (I : gM) : fX7_deadline N [.ref 0, .int v1] I = hX7_deadline_0 N v1 I := rfl

def hX7_leastDeadline_0 (N : Nat) (I : gM) : gO := fX7_leastDeadline_k0 N [some (.ref 0), none, none, none, none, none, none] [] I
def hX7_leastDeadline_4 (N : Nat) (n4 : Nat) (v1 : Int32) (v2 : Int32) (I : gM) : gO := s_lp (fX7_leastDeadline_b4 N) n4 [some (.ref 0), some (.int v1), some (.int v2), none, none, none, none] [] I
def hX7_leastDeadline_34 (N : Nat) (n4 : Nat) (n34 : Nat) (v1 : Int32) (v2 : Int32) (v3 : Int32) (v4 : Int32) (v5 : Int32) (I : gM) : gO := s_lp (fX7_leastDeadline_b34 N (s_lp (fX7_leastDeadline_b4 N) n4)) n34 [some (.ref 0), some (.int v1), some (.int v2), some (.int v3), some (.int v4), some (.int v5), none] [] I
def hX7_leastDeadline_92 (N : Nat) (n4 : Nat) (v1 : Int32) (v2 : Int32) (I : gM) : gO := fX7_leastDeadline_k92 N (s_lp (fX7_leastDeadline_b4 N) n4) [some (.ref 0), some (.int v1), some (.int v2), none, none, none, none] [] I
def hX7_leastDeadline_74 (N : Nat) (n4 : Nat) (n34 : Nat) (v1 : Int32) (v2 : Int32) (v3 : Int32) (v4 : Int32) (v5 : Int32) (I : gM) : gO := fX7_leastDeadline_k74 N (s_lp (fX7_leastDeadline_b4 N) n4) (s_lp (fX7_leastDeadline_b34 N (s_lp (fX7_leastDeadline_b4 N) n4)) n34) [some (.ref 0), some (.int v1), some (.int v2), some (.int v3), some (.int v4), some (.int v5), none] [] I
def hX7_leastDeadline_71 (N : Nat) (n4 : Nat) (n34 : Nat) (v2 : Int32) (v3 : Int32) (v4 : Int32) (v5 : Int32) (v6 : Int32) (I : gM) : gO := fX7_leastDeadline_k71 N (s_lp (fX7_leastDeadline_b4 N) n4) (s_lp (fX7_leastDeadline_b34 N (s_lp (fX7_leastDeadline_b4 N) n4)) n34) [some (.ref 0), none, some (.int v2), some (.int v3), some (.int v4), some (.int v5), some (.int v6)] [] I
theorem eX7_leastDeadline_0 (N : Nat) (I : gM) : hX7_leastDeadline_0 N I =
  hX7_leastDeadline_4 N N (-1) 0 I := rfl
theorem eX7_leastDeadline_4 (N : Nat) (n4 : Nat) (v1 : Int32) (v2 : Int32) (I : gM) : hX7_leastDeadline_4 N (n4 + 1) v1 v2 I =
  if gc_ge v2 100 = true then (some (.inl (some (.int v1)), I)) else (ck 100 v2 <| ck 100 v2 <| hX7_leastDeadline_34 N n4 N v1 v2 ((I 13 (nn v2))) ((I 11 (nn v2))) 0 I) := rfl
theorem eX7_leastDeadline_4z (N : Nat) (v1 : Int32) (v2 : Int32) (I : gM) : hX7_leastDeadline_4 N 0 v1 v2 I = none := rfl
theorem eX7_leastDeadline_34 (N : Nat) (n4 : Nat) (n34 : Nat) (v1 : Int32) (v2 : Int32) (v3 : Int32) (v4 : Int32) (v5 : Int32) (I : gM) : hX7_leastDeadline_34 N n4 (n34 + 1) v1 v2 v3 v4 v5 I =
  if gc_ge v5 v3 = true then (hX7_leastDeadline_92 N n4 v1 v2 I) else (if gc_eq v4 (-1) = true then (hX7_leastDeadline_92 N n4 v1 v2 I) else (hI (fX7_deadline N [.ref 0, .int v4] (gS (rg 0 20) I)) (rg 0 20) I fun x1 I1 => if gc_eq x1 (-1) = true then (hX7_leastDeadline_74 N n4 n34 v1 v2 v3 v4 v5 I1) else (if gc_eq v1 (-1) = true then (hX7_leastDeadline_71 N n4 n34 v2 v3 v4 v5 x1 I1) else (if gc_ge x1 v1 = true then (hX7_leastDeadline_74 N n4 n34 v1 v2 v3 v4 v5 I1) else (hX7_leastDeadline_71 N n4 n34 v2 v3 v4 v5 x1 I1))))) := rfl
theorem eX7_leastDeadline_34z (N : Nat) (n4 : Nat) (v1 : Int32) (v2 : Int32) (v3 : Int32) (v4 : Int32) (v5 : Int32) (I : gM) : hX7_leastDeadline_34 N n4 0 v1 v2 v3 v4 v5 I = none := rfl
theorem eX7_leastDeadline_92 (N : Nat) (n4 : Nat) (v1 : Int32) (v2 : Int32) (I : gM) : hX7_leastDeadline_92 N n4 v1 v2 I =
  hX7_leastDeadline_4 N n4 v1 (v2 + 1) I := rfl
theorem eX7_leastDeadline_74 (N : Nat) (n4 : Nat) (n34 : Nat) (v1 : Int32) (v2 : Int32) (v3 : Int32) (v4 : Int32) (v5 : Int32) (I : gM) : hX7_leastDeadline_74 N n4 n34 v1 v2 v3 v4 v5 I =
  ck 500 v4 <| hX7_leastDeadline_34 N n4 n34 v1 v2 v3 ((I 15 (nn v4))) (v5 + 1) I := rfl
theorem eX7_leastDeadline_71 (N : Nat) (n4 : Nat) (n34 : Nat) (v2 : Int32) (v3 : Int32) (v4 : Int32) (v5 : Int32) (v6 : Int32) (I : gM) : hX7_leastDeadline_71 N n4 n34 v2 v3 v4 v5 v6 I =
  hX7_leastDeadline_74 N n4 n34 v6 v2 v3 v4 v5 I := rfl
theorem eX7_leastDeadline (N : Nat) (I : gM) : fX7_leastDeadline N [.ref 0] I = hX7_leastDeadline_0 N I := rfl

def hX7_expireIn_0 (N : Nat) (v1 : Int32) (I : gM) : gO := fX7_expireIn_k0 N [some (.ref 0), some (.int v1), none, none, none, none, none, none] [] I
def hX7_expireIn_26 (N : Nat) (n26 : Nat) (v1 : Int32) (v2 : Int32) (v3 : Int32) (v4 : Int32) (v5 : Int32) (I : gM) : gO := s_lp (fX7_expireIn_b26 N) n26 [some (.ref 0), some (.int v1), some (.int v2), some (.int v3), some (.int v4), some (.int v5), none, none] [] I
def hX7_expireIn_117 (N : Nat) (n26 : Nat) (v1 : Int32) (v2 : Int32) (v4 : Int32) (v5 : Int32) (v6 : Int32) (I : gM) : gO := fX7_expireIn_k117 N (s_lp (fX7_expireIn_b26 N) n26) [some (.ref 0), some (.int v1), some (.int v2), none, some (.int v4), some (.int v5), some (.int v6), none] [] I
def hX7_expireIn_120 (N : Nat) (n26 : Nat) (v1 : Int32) (v2 : Int32) (v3 : Int32) (v5 : Int32) (v6 : Int32) (I : gM) : gO := fX7_expireIn_k120 N (s_lp (fX7_expireIn_b26 N) n26) [some (.ref 0), some (.int v1), some (.int v2), some (.int v3), none, some (.int v5), some (.int v6), none] [] I
theorem eX7_expireIn_0 (N : Nat) (v1 : Int32) (I : gM) : hX7_expireIn_0 N v1 I =
  ck 100 v1 <| ck 100 v1 <| hX7_expireIn_26 N N v1 ((I 13 (nn v1))) (-1) ((I 11 (nn v1))) 0 I := rfl
theorem eX7_expireIn_26 (N : Nat) (n26 : Nat) (v1 : Int32) (v2 : Int32) (v3 : Int32) (v4 : Int32) (v5 : Int32) (I : gM) : hX7_expireIn_26 N (n26 + 1) v1 v2 v3 v4 v5 I =
  if gc_ge v5 v2 = true then (some (.inl none, I)) else (if gc_eq v4 (-1) = true then (some (.inl none, I)) else (ck 500 v4 <| hI (fX7_deadline N [.ref 0, .int v4] (gS (rg 0 20) I)) (rg 0 20) I fun x1 I1 => if gc_eq x1 (-1) = true then (hX7_expireIn_117 N n26 v1 v2 v4 v5 ((I 15 (nn v4))) I1) else (if gc_lt (((I1 0 2) + 1)) x1 = true then (hX7_expireIn_117 N n26 v1 v2 v4 v5 ((I 15 (nn v4))) I1) else (hI (fX4_takeBehind N [.ref 0, .int v1, .int v3] (gS (rg 10 10) I1)) (rg 10 10) I1 fun x2 I2 => ck 500 v4 <| hV (fX2_addNumber N [.ref 0, .int ((I2 16 (nn v4))), .int 7, .int 1] (gS (rg 1 9) I2)) (rg 1 9) I2 fun I3 => hV (fX4_release N [.ref 0, .int v4] (gS (rg 10 10) I3)) (rg 10 10) I3 fun I4 => hX7_expireIn_120 N n26 v1 v2 v3 v5 ((I 15 (nn v4))) I4)))) := rfl
theorem eX7_expireIn_26z (N : Nat) (v1 : Int32) (v2 : Int32) (v3 : Int32) (v4 : Int32) (v5 : Int32) (I : gM) : hX7_expireIn_26 N 0 v1 v2 v3 v4 v5 I = none := rfl
theorem eX7_expireIn_117 (N : Nat) (n26 : Nat) (v1 : Int32) (v2 : Int32) (v4 : Int32) (v5 : Int32) (v6 : Int32) (I : gM) : hX7_expireIn_117 N n26 v1 v2 v4 v5 v6 I =
  hX7_expireIn_120 N n26 v1 v2 v4 v5 v6 I := rfl
theorem eX7_expireIn_120 (N : Nat) (n26 : Nat) (v1 : Int32) (v2 : Int32) (v3 : Int32) (v5 : Int32) (v6 : Int32) (I : gM) : hX7_expireIn_120 N n26 v1 v2 v3 v5 v6 I =
  hX7_expireIn_26 N n26 v1 v2 v3 v6 (v5 + 1) I := rfl
theorem eX7_expireIn (N : Nat) (v1 : Int32) (I : gM) : fX7_expireIn N [.ref 0, .int v1] I = hX7_expireIn_0 N v1 I := rfl

def hX7_expireAll_0 (N : Nat) (I : gM) : gO := fX7_expireAll_k0 N [some (.ref 0), none] [] I
def hX7_expireAll_23 (N : Nat) (n23 : Nat) (v1 : Int32) (I : gM) : gO := s_lp (fX7_expireAll_b23 N) n23 [some (.ref 0), some (.int v1)] [] I
def hX7_expireAll_46 (N : Nat) (n23 : Nat) (v1 : Int32) (I : gM) : gO := fX7_expireAll_k46 N (s_lp (fX7_expireAll_b23 N) n23) [some (.ref 0), some (.int v1)] [] I
theorem eX7_expireAll_0 (N : Nat) (I : gM) : hX7_expireAll_0 N I =
  if gz_eq (I 10 11) = true then (some (.inl none, I)) else (hI (fX2_hasBudget N [.ref 0] (gS (rg 1 9) I)) (rg 1 9) I fun x1 I1 => if gz_ne x1 = true then (hX7_expireAll_23 N N 0 I1) else (some (.inl none, I1))) := rfl
theorem eX7_expireAll_23 (N : Nat) (n23 : Nat) (v1 : Int32) (I : gM) : hX7_expireAll_23 N (n23 + 1) v1 I =
  if gc_ge v1 100 = true then (some (.inl none, I)) else (ck 100 v1 <| if gz_le ((I 13 (nn v1))) = true then (hX7_expireAll_46 N n23 v1 I) else (hV (fX7_expireIn N [.ref 0, .int v1] (gS (rg 0 20) I)) (rg 0 20) I fun I2 => hX7_expireAll_46 N n23 v1 I2)) := rfl
theorem eX7_expireAll_23z (N : Nat) (v1 : Int32) (I : gM) : hX7_expireAll_23 N 0 v1 I = none := rfl
theorem eX7_expireAll_46 (N : Nat) (n23 : Nat) (v1 : Int32) (I : gM) : hX7_expireAll_46 N n23 v1 I =
  hX7_expireAll_23 N n23 (v1 + 1) I := rfl
theorem eX7_expireAll (N : Nat) (I : gM) : fX7_expireAll N [.ref 0] I = hX7_expireAll_0 N I := rfl

def hX3_sumOfWeights_0 (N : Nat) (v0 : Int32) (I : gM) : gO := fX3_sumOfWeights_k0 N [some (.int v0), some (.ref 0), none, none] [] I
def hX3_sumOfWeights_4 (N : Nat) (n4 : Nat) (v0 : Int32) (v2 : Int32) (v3 : Int32) (I : gM) : gO := s_lp (fX3_sumOfWeights_b4 N) n4 [some (.int v0), some (.ref 0), some (.int v2), some (.int v3)] [] I
def hX3_sumOfWeights_25 (N : Nat) (n4 : Nat) (v0 : Int32) (v2 : Int32) (v3 : Int32) (I : gM) : gO := fX3_sumOfWeights_k25 N (s_lp (fX3_sumOfWeights_b4 N) n4) [some (.int v0), some (.ref 0), some (.int v2), some (.int v3)] [] I
theorem eX3_sumOfWeights_0 (N : Nat) (v0 : Int32) (I : gM) : hX3_sumOfWeights_0 N v0 I =
  hX3_sumOfWeights_4 N N v0 0 0 I := rfl
theorem eX3_sumOfWeights_4 (N : Nat) (n4 : Nat) (v0 : Int32) (v2 : Int32) (v3 : Int32) (I : gM) : hX3_sumOfWeights_4 N (n4 + 1) v0 v2 v3 I =
  if gc_ge v3 14 = true then (some (.inl (some (.int v2)), I)) else (if gc_ne (((gb_shr v0 v3) &&& 1)) 1 = true then (hX3_sumOfWeights_25 N n4 v0 v2 v3 I) else (ck 14 v3 <| hX3_sumOfWeights_25 N n4 v0 ((v2 + ((I 0 (nn v3))))) v3 I)) := rfl
theorem eX3_sumOfWeights_4z (N : Nat) (v0 : Int32) (v2 : Int32) (v3 : Int32) (I : gM) : hX3_sumOfWeights_4 N 0 v0 v2 v3 I = none := rfl
theorem eX3_sumOfWeights_25 (N : Nat) (n4 : Nat) (v0 : Int32) (v2 : Int32) (v3 : Int32) (I : gM) : hX3_sumOfWeights_25 N n4 v0 v2 v3 I =
  hX3_sumOfWeights_4 N n4 v0 v2 (v3 + 1) I := rfl
theorem eX3_sumOfWeights (N : Nat) (v0 : Int32) (I : gM) : fX3_sumOfWeights N [.int v0, .ref 0] I = hX3_sumOfWeights_0 N v0 I := rfl

def hX3_weigh_0 (N : Nat) (v2 : Int32) (I : gM) : gO := fX3_weigh_k0 N [some (.ref 0), some (.ref 3), some (.int v2), none, none, none, none, none, none, none, none, none] [] I
def hX3_weigh_31 (N : Nat) (v2 : Int32) (q0 : Nat) (I : gM) : gO := fX3_weigh_k31 N [some (.ref 0), none, some (.int v2), some (.ref 4), none, none, none, none, none, none, none, none] [.ref q0] I
def hX3_weigh_50 (N : Nat) (n50 : Nat) (v2 : Int32) (p4 : Nat) (v5 : Int32) (v6 : Int32) (v7 : Int32) (v8 : Int32) (I : gM) : gO := s_lp (fX3_weigh_b50 N) n50 [some (.ref 0), none, some (.int v2), some (.ref 4), some (.ref p4), some (.int v5), some (.int v6), some (.int v7), some (.int v8), none, none, none] [] I
def hX3_weigh_149 (N : Nat) (n50 : Nat) (v2 : Int32) (p4 : Nat) (v5 : Int32) (v6 : Int32) (v7 : Int32) (v8 : Int32) (I : gM) : gO := fX3_weigh_k149 N (s_lp (fX3_weigh_b50 N) n50) [some (.ref 0), none, some (.int v2), some (.ref 4), some (.ref p4), some (.int v5), some (.int v6), some (.int v7), some (.int v8), none, none, none] [] I
def hX3_weigh_141 (N : Nat) (n50 : Nat) (v2 : Int32) (p4 : Nat) (v5 : Int32) (v8 : Int32) (v11 : Int32) (I : gM) : gO := fX3_weigh_k141 N (s_lp (fX3_weigh_b50 N) n50) [some (.ref 0), none, some (.int v2), some (.ref 4), some (.ref p4), some (.int v5), none, none, some (.int v8), none, none, some (.int v11)] [] I
theorem eX3_weigh_0 (N : Nat) (v2 : Int32) (I : gM) : hX3_weigh_0 N v2 I =
  ck 4 0 <| if gz_ne ((I 10 (nn 0))) = true then (hX3_weigh_31 N v2 17 I) else (hX3_weigh_31 N v2 16 I) := rfl
theorem eX3_weigh_31 (N : Nat) (v2 : Int32) (q0 : Nat) (I : gM) : hX3_weigh_31 N v2 q0 I =
  ck 4 2 <| hX3_weigh_50 N N v2 q0 ((I 10 (nn 2))) (-1) 0 0 I := rfl
theorem eX3_weigh_50 (N : Nat) (n50 : Nat) (v2 : Int32) (p4 : Nat) (v5 : Int32) (v6 : Int32) (v7 : Int32) (v8 : Int32) (I : gM) : hX3_weigh_50 N (n50 + 1) v2 p4 v5 v6 v7 v8 I =
  if gc_ge v8 (I 4 0) = true then (ck 14 v2 <| ck 14 v2 <| ck 14 v2 <| some (.inl none, (gU (gU I 1 (nn v2) v6) 2 (nn v2) ((gj_max 0 ((((I 7 (nn v2))) * v7))))))) else (ck 14 v2 <| hI (fX8_pair N [.int ((I 5 (nn v2))), .int v8] (gS [] I)) [] I fun x1 I1 => ck 14 v2 <| hI (fX8_pair N [.int ((I1 6 (nn v2))), .int v8] (gS [] I1)) [] I1 fun x2 I2 => hAl gyPS p4 0 x1 I2 fun x3 => if gz_le x3 = true then (hX3_weigh_149 N n50 v2 p4 v5 v6 v7 v8 I2) else (hAl gyPS p4 0 x1 I2 fun x4 => ck 100 x1 <| hAl gyPS p4 0 x2 I2 fun x5 => ck 100 x2 <| if gc_eq v6 (-1) = true then (hX3_weigh_141 N n50 v2 p4 v5 v8 ((((((x4 + ((v5 * ((I2 12 (nn x1))))))) - x5)) - ((v5 * ((I2 12 (nn x2))))))) I2) else (if gc_le ((((((x4 + ((v5 * ((I2 12 (nn x1))))))) - x5)) - ((v5 * ((I2 12 (nn x2))))))) v7 = true then (hX3_weigh_149 N n50 v2 p4 v5 v6 v7 v8 I2) else (hX3_weigh_141 N n50 v2 p4 v5 v8 ((((((x4 + ((v5 * ((I2 12 (nn x1))))))) - x5)) - ((v5 * ((I2 12 (nn x2))))))) I2)))) := rfl
theorem eX3_weigh_50z (N : Nat) (v2 : Int32) (p4 : Nat) (v5 : Int32) (v6 : Int32) (v7 : Int32) (v8 : Int32) (I : gM) : hX3_weigh_50 N 0 v2 p4 v5 v6 v7 v8 I = none := rfl
theorem eX3_weigh_149 (N : Nat) (n50 : Nat) (v2 : Int32) (p4 : Nat) (v5 : Int32) (v6 : Int32) (v7 : Int32) (v8 : Int32) (I : gM) : hX3_weigh_149 N n50 v2 p4 v5 v6 v7 v8 I =
  hX3_weigh_50 N n50 v2 p4 v5 v6 v7 (v8 + 1) I := rfl
theorem eX3_weigh_141 (N : Nat) (n50 : Nat) (v2 : Int32) (p4 : Nat) (v5 : Int32) (v8 : Int32) (v11 : Int32) (I : gM) : hX3_weigh_141 N n50 v2 p4 v5 v8 v11 I =
  hX3_weigh_149 N n50 v2 p4 v5 v8 v11 v8 I := rfl
theorem eX3_weigh (N : Nat) (v2 : Int32) (I : gM) : fX3_weigh N [.ref 0, .ref 3, .int v2] I = hX3_weigh_0 N v2 I := rfl

def hX3_greediest_0 (N : Nat) (v1 : Int32) (I : gM) : gO := fX3_greediest_k0 N [some (.ref 0), some (.int v1), some (.ref 3), none, none, none, none, none] [] I
def hX3_greediest_8 (N : Nat) (n8 : Nat) (v3 : Int32) (v4 : Int32) (v5 : Int32) (I : gM) : gO := s_lp (fX3_greediest_b8 N) n8 [some (.ref 0), none, some (.ref 3), some (.int v3), some (.int v4), some (.int v5), none, none] [] I
def hX3_greediest_26 (N : Nat) (n8 : Nat) (n26 : Nat) (v3 : Int32) (v4 : Int32) (v5 : Int32) (v6 : Int32) (v7 : Int32) (I : gM) : gO := s_lp (fX3_greediest_b26 N (s_lp (fX3_greediest_b8 N) n8)) n26 [some (.ref 0), none, some (.ref 3), some (.int v3), some (.int v4), some (.int v5), some (.int v6), some (.int v7)] [] I
def hX3_greediest_111 (N : Nat) (n8 : Nat) (v3 : Int32) (v4 : Int32) (v5 : Int32) (I : gM) : gO := fX3_greediest_k111 N (s_lp (fX3_greediest_b8 N) n8) [some (.ref 0), none, some (.ref 3), some (.int v3), some (.int v4), some (.int v5), none, none] [] I
def hX3_greediest_73 (N : Nat) (n8 : Nat) (n26 : Nat) (v3 : Int32) (v4 : Int32) (v5 : Int32) (v6 : Int32) (v7 : Int32) (I : gM) : gO := fX3_greediest_k73 N (s_lp (fX3_greediest_b8 N) n8) (s_lp (fX3_greediest_b26 N (s_lp (fX3_greediest_b8 N) n8)) n26) [some (.ref 0), none, some (.ref 3), some (.int v3), some (.int v4), some (.int v5), some (.int v6), some (.int v7)] [] I
def hX3_greediest_69 (N : Nat) (n8 : Nat) (n26 : Nat) (v3 : Int32) (v4 : Int32) (v5 : Int32) (v7 : Int32) (I : gM) : gO := fX3_greediest_k69 N (s_lp (fX3_greediest_b8 N) n8) (s_lp (fX3_greediest_b26 N (s_lp (fX3_greediest_b8 N) n8)) n26) [some (.ref 0), none, some (.ref 3), some (.int v3), some (.int v4), some (.int v5), none, some (.int v7)] [] I
theorem eX3_greediest_0 (N : Nat) (v1 : Int32) (I : gM) : hX3_greediest_0 N v1 I =
  hX3_greediest_8 N N 0 v1 0 I := rfl
theorem eX3_greediest_8 (N : Nat) (n8 : Nat) (v3 : Int32) (v4 : Int32) (v5 : Int32) (I : gM) : hX3_greediest_8 N (n8 + 1) v3 v4 v5 I =
  if gc_ge v5 14 = true then (some (.inl (some (.int v3)), I)) else (if gz_eq v4 = true then (some (.inl (some (.int v3)), I)) else (hX3_greediest_26 N n8 N v3 v4 v5 (-1) 0 I)) := rfl
theorem eX3_greediest_8z (N : Nat) (v3 : Int32) (v4 : Int32) (v5 : Int32) (I : gM) : hX3_greediest_8 N 0 v3 v4 v5 I = none := rfl
theorem eX3_greediest_26 (N : Nat) (n8 : Nat) (n26 : Nat) (v3 : Int32) (v4 : Int32) (v5 : Int32) (v6 : Int32) (v7 : Int32) (I : gM) : hX3_greediest_26 N n8 (n26 + 1) v3 v4 v5 v6 v7 I =
  if gc_ge v7 (I 3 1) = true then (if gc_eq v6 (-1) = true then (hX3_greediest_111 N n8 v3 v4 v5 I) else (ck 14 v6 <| hX3_greediest_111 N n8 ((v3 ||| (gb_shl 1 v6))) ((v4 &&& (((((gb_shl 1 v6) ||| ((I 8 (nn v6))))) ^^^ (-1))))) v5 I)) else (if gc_ne (((gb_shr v4 v7) &&& 1)) 1 = true then (hX3_greediest_73 N n8 n26 v3 v4 v5 v6 v7 I) else (if gc_eq v6 (-1) = true then (hX3_greediest_69 N n8 n26 v3 v4 v5 v7 I) else (ck 14 v7 <| ck 14 v6 <| if gc_le ((I 2 (nn v7))) ((I 2 (nn v6))) = true then (hX3_greediest_73 N n8 n26 v3 v4 v5 v6 v7 I) else (hX3_greediest_69 N n8 n26 v3 v4 v5 v7 I)))) := rfl
theorem eX3_greediest_26z (N : Nat) (n8 : Nat) (v3 : Int32) (v4 : Int32) (v5 : Int32) (v6 : Int32) (v7 : Int32) (I : gM) : hX3_greediest_26 N n8 0 v3 v4 v5 v6 v7 I = none := rfl
theorem eX3_greediest_111 (N : Nat) (n8 : Nat) (v3 : Int32) (v4 : Int32) (v5 : Int32) (I : gM) : hX3_greediest_111 N n8 v3 v4 v5 I =
  hX3_greediest_8 N n8 v3 v4 (v5 + 1) I := rfl
theorem eX3_greediest_73 (N : Nat) (n8 : Nat) (n26 : Nat) (v3 : Int32) (v4 : Int32) (v5 : Int32) (v6 : Int32) (v7 : Int32) (I : gM) : hX3_greediest_73 N n8 n26 v3 v4 v5 v6 v7 I =
  hX3_greediest_26 N n8 n26 v3 v4 v5 v6 (v7 + 1) I := rfl
theorem eX3_greediest_69 (N : Nat) (n8 : Nat) (n26 : Nat) (v3 : Int32) (v4 : Int32) (v5 : Int32) (v7 : Int32) (I : gM) : hX3_greediest_69 N n8 n26 v3 v4 v5 v7 I =
  hX3_greediest_73 N n8 n26 v3 v4 v5 v7 v7 I := rfl
theorem eX3_greediest (N : Nat) (v1 : Int32) (I : gM) : fX3_greediest N [.ref 0, .int v1, .ref 3] I = hX3_greediest_0 N v1 I := rfl

def hX3_countCarried_0 (N : Nat) (v2 : Int32) (v3 : Int32) (I : gM) : gO := fX3_countCarried_k0 N [some (.ref 0), some (.ref 3), some (.int v2), some (.int v3), none, none, none] [] I
def hX3_countCarried_45 (N : Nat) (n45 : Nat) (v2 : Int32) (v3 : Int32) (v5 : Int32) (v6 : Int32) (I : gM) : gO := s_lp (fX3_countCarried_b45 N) n45 [some (.ref 0), none, some (.int v2), some (.int v3), some (.ref 4), some (.int v5), some (.int v6)] [] I
def hX3_countCarried_112 (N : Nat) (n45 : Nat) (v2 : Int32) (v3 : Int32) (v5 : Int32) (v6 : Int32) (I : gM) : gO := fX3_countCarried_k112 N (s_lp (fX3_countCarried_b45 N) n45) [some (.ref 0), none, some (.int v2), some (.int v3), some (.ref 4), some (.int v5), some (.int v6)] [] I
theorem eX3_countCarried_0 (N : Nat) (v2 : Int32) (v3 : Int32) (I : gM) : hX3_countCarried_0 N v2 v3 I =
  if gz_ne (((gb_shr v2 v3) &&& 1)) = true then (ck 14 v3 <| ck 14 v3 <| hI (fX8_pair N [.int ((I 5 (nn v3))), .int ((I 1 (nn v3)))] (gS [] I)) [] I fun x1 I1 => ck 100 x1 <| hX3_countCarried_45 N N v2 v3 ((I1 16 (nn x1))) 0 I1) else (some (.inl (some (.int 0)), I)) := rfl
theorem eX3_countCarried_45 (N : Nat) (n45 : Nat) (v2 : Int32) (v3 : Int32) (v5 : Int32) (v6 : Int32) (I : gM) : hX3_countCarried_45 N (n45 + 1) v2 v3 v5 v6 I =
  if gc_ge v6 v3 = true then (ck 14 v3 <| some (.inl (some (.int ((gj_min v5 ((I 7 (nn v3))))))), I)) else (if gc_ne (((gb_shr v2 v6) &&& 1)) 1 = true then (hX3_countCarried_112 N n45 v2 v3 v5 v6 I) else (ck 14 v6 <| ck 14 v3 <| if gc_ne ((I 5 (nn v6))) ((I 5 (nn v3))) = true then (hX3_countCarried_112 N n45 v2 v3 v5 v6 I) else (ck 14 v6 <| ck 14 v3 <| if gc_ne ((I 1 (nn v6))) ((I 1 (nn v3))) = true then (hX3_countCarried_112 N n45 v2 v3 v5 v6 I) else (ck 14 v6 <| hX3_countCarried_112 N n45 v2 v3 ((gj_max 0 ((v5 - ((I 7 (nn v6))))))) v6 I)))) := rfl
theorem eX3_countCarried_45z (N : Nat) (v2 : Int32) (v3 : Int32) (v5 : Int32) (v6 : Int32) (I : gM) : hX3_countCarried_45 N 0 v2 v3 v5 v6 I = none := rfl
theorem eX3_countCarried_112 (N : Nat) (n45 : Nat) (v2 : Int32) (v3 : Int32) (v5 : Int32) (v6 : Int32) (I : gM) : hX3_countCarried_112 N n45 v2 v3 v5 v6 I =
  hX3_countCarried_45 N n45 v2 v3 v5 (v6 + 1) I := rfl
theorem eX3_countCarried (N : Nat) (v2 : Int32) (v3 : Int32) (I : gM) : fX3_countCarried N [.ref 0, .ref 3, .int v2, .int v3] I = hX3_countCarried_0 N v2 v3 I := rfl

def hX6_growth_0 (N : Nat) (v0 : Int32) (v1 : Int32) (I : gM) : gO := fX6_growth_k0 N [some (.int v0), some (.int v1)] [] I
theorem eX6_growth_0 (N : Nat) (v0 : Int32) (v1 : Int32) (I : gM) : hX6_growth_0 N v0 v1 I =
  if 10000 = 0 then none else if 10000 = 0 then none else some (.inl (some (.int ((((gb_div (((v0 + 1) * v1)) 10000)) - ((gb_div (v0 * v1) 10000)))))), I) := rfl
theorem eX6_growth (N : Nat) (v0 : Int32) (v1 : Int32) (I : gM) : fX6_growth N [.int v0, .int v1] I = hX6_growth_0 N v0 v1 I := rfl

def hX6_letArrive_0 (N : Nat) (v1 : Int32) (I : gM) : gO := fX6_letArrive_k0 N [some (.ref 0), some (.int v1), none, none, none] [] I
theorem eX6_letArrive_0 (N : Nat) (v1 : Int32) (I : gM) : hX6_letArrive_0 N v1 I =
  hI (fX2_getNumber N [.ref 0, .int v1, .int 2] (gS (rg 1 9) I)) (rg 1 9) I fun x1 I1 => hI (fX6_growth N [.int (I1 0 2), .int (x1 * 100)] (gS [] I1)) [] I1 fun x2 I2 => hI (fX7_arrive N [.ref 0, .int v1, .int x2] (gS (rg 0 20) I2)) (rg 0 20) I2 fun x3 I3 => hI (fX2_getNumber N [.ref 0, .int v1, .int 0] (gS (rg 1 9) I3)) (rg 1 9) I3 fun x4 I4 => hI (fX2_getNumber N [.ref 0, .int v1, .int 1] (gS (rg 1 9) I4)) (rg 1 9) I4 fun x5 I5 => hI (fX8_pair N [.int x4, .int x5] (gS [] I5)) [] I5 fun x6 I6 => ck 100 x6 <| ck 4 1 <| hI (fX6_growth N [.int (I6 0 2), .int ((x1 * ((100 + ((I6 7 (nn 1)))))))] (gS [] I6)) [] I6 fun x7 I7 => ck 100 x6 <| some (.inl none, (gU I7 14 (nn x6) ((((I6 14 (nn x6))) + x7)))) := rfl
theorem eX6_letArrive (N : Nat) (v1 : Int32) (I : gM) : fX6_letArrive N [.ref 0, .int v1] I = hX6_letArrive_0 N v1 I := rfl

def hX6_deliver_0 (N : Nat) (v1 : Int32) (I : gM) : gO := fX6_deliver_k0 N [some (.ref 0), some (.int v1), none, none, none] [] I
theorem eX6_deliver_0 (N : Nat) (v1 : Int32) (I : gM) : hX6_deliver_0 N v1 I =
  ck 500 v1 <| ck 500 v1 <| hV (fX2_addNumber N [.ref 0, .int ((I 16 (nn v1))), .int 6, .int 1] (gS (rg 1 9) I)) (rg 1 9) I fun I1 => hV (fX2_addNumber N [.ref 0, .int ((I 16 (nn v1))), .int 9, .int (((((I 0 2) + 1)) - ((I 17 (nn v1)))))] (gS (rg 1 9) I1)) (rg 1 9) I1 fun I2 => hI (fX2_getNumber N [.ref 0, .int ((I 16 (nn v1))), .int 10] (gS (rg 1 9) I2)) (rg 1 9) I2 fun x3 I3 => hV (fX2_putNumber N [.ref 0, .int ((I 16 (nn v1))), .int 10, .int ((gj_max (((((I 0 2) + 1)) - ((I 17 (nn v1))))) x3))] (gS (rg 1 9) I3)) (rg 1 9) I3 fun I4 => hV (fX4_release N [.ref 0, .int v1] (gS (rg 10 10) I4)) (rg 10 10) I4 fun I5 => some (.inl none, I5) := rfl
theorem eX6_deliver (N : Nat) (v1 : Int32) (I : gM) : fX6_deliver N [.ref 0, .int v1] I = hX6_deliver_0 N v1 I := rfl

def hX6_pass_0 (N : Nat) (v1 : Int32) (v2 : Int32) (v3 : Int32) (I : gM) : gO := fX6_pass_k0 N [some (.ref 0), some (.int v1), some (.int v2), some (.int v3), none] [] I
def hX6_pass_49 (N : Nat) (v1 : Int32) (v2 : Int32) (v3 : Int32) (I : gM) : gO := fX6_pass_k49 N [none, some (.int v1), some (.int v2), some (.int v3), some (.ref 10)] [] I
theorem eX6_pass_0 (N : Nat) (v1 : Int32) (v2 : Int32) (v3 : Int32) (I : gM) : hX6_pass_0 N v1 v2 v3 I =
  ck 500 v1 <| ck 500 v1 <| ck 500 v1 <| if gc_ne ((((gb_shr ((I 19 (nn v1))) v3)) &&& 1)) 1 = true then (hX6_pass_49 N v1 v2 v3 (gU I 18 (nn v1) ((((I 18 (nn v1))) + 1)))) else (ck 500 v1 <| hV (fX2_addNumber N [.ref 0, .int ((I 16 (nn v1))), .int 8, .int 1] (gS (rg 1 9) (gU I 18 (nn v1) ((((I 18 (nn v1))) + 1))))) (rg 1 9) (gU I 18 (nn v1) ((((I 18 (nn v1))) + 1))) fun I1 => hX6_pass_49 N v1 v2 v3 I1) := rfl
theorem eX6_pass_49 (N : Nat) (v1 : Int32) (v2 : Int32) (v3 : Int32) (I : gM) : hX6_pass_49 N v1 v2 v3 I =
  ck 500 v1 <| ck 500 v1 <| hV (fX4_putLast N [.ref 0, .int v2, .int v1] (gS (rg 10 10) (gU I 19 (nn v1) ((((I 19 (nn v1))) ||| (gb_shl 1 v3)))))) (rg 10 10) (gU I 19 (nn v1) ((((I 19 (nn v1))) ||| (gb_shl 1 v3)))) fun I2 => some (.inl none, I2) := rfl
theorem eX6_pass (N : Nat) (v1 : Int32) (v2 : Int32) (v3 : Int32) (I : gM) : fX6_pass N [.ref 0, .int v1, .int v2, .int v3] I = hX6_pass_0 N v1 v2 v3 I := rfl

def hX6_takeFor_0 (N : Nat) (v2 : Int32) (I : gM) : gO := fX6_takeFor_k0 N [some (.ref 0), some (.ref 7), some (.int v2), none, none, none, none] [] I
def hX6_takeFor_52 (N : Nat) (n52 : Nat) (v2 : Int32) (v3 : Int32) (v4 : Int32) (v5 : Int32) (v6 : Int32) (I : gM) : gO := s_lp (fX6_takeFor_b52 N) n52 [some (.ref 0), some (.ref 7), some (.int v2), some (.int v3), some (.int v4), some (.int v5), some (.int v6)] [] I
theorem eX6_takeFor_0 (N : Nat) (v2 : Int32) (I : gM) : hX6_takeFor_0 N v2 I =
  ck 14 v2 <| ck 14 v2 <| ck 14 v2 <| hI (fX8_pair N [.int ((I 9 (nn v2))), .int ((I 2 (nn v2)))] (gS [] I)) [] I fun x1 I1 => ck 100 x1 <| hX6_takeFor_52 N N v2 ((I 11 (nn v2))) x1 ((gj_min ((I 11 (nn v2))) ((I1 20 (nn x1))))) 0 I1 := rfl
theorem eX6_takeFor_52 (N : Nat) (n52 : Nat) (v2 : Int32) (v3 : Int32) (v4 : Int32) (v5 : Int32) (v6 : Int32) (I : gM) : hX6_takeFor_52 N (n52 + 1) v2 v3 v4 v5 v6 I =
  if gc_ge v6 v5 = true then (ck 14 v2 <| ck 14 v2 <| ck 14 v2 <| ck 100 v4 <| ck 14 v2 <| ck 100 v4 <| ck 14 v2 <| ck 100 v4 <| some (.inl none, (gU (gU (gU (gU I 5 (nn v2) v5) 12 (nn v2) ((((I 12 (nn v2))) + v5))) 6 (nn v2) ((gj_min v3 ((I 21 (nn v4)))))) 21 (nn v4) ((((I 21 (nn v4))) - (((gU (gU (gU I 5 (nn v2) v5) 12 (nn v2) ((((I 12 (nn v2))) + v5))) 6 (nn v2) ((gj_min v3 ((I 21 (nn v4)))))) 6 (nn v2)))))))) else (hI (fX4_takeBehind N [.ref 0, .int v4, .int (-1)] (gS (rg 17 10) I)) (rg 17 10) I fun x2 I2 => ck 70 (((v2 * 5) + v6)) <| hX6_takeFor_52 N n52 v2 v3 v4 v5 (v6 + 1) (gU I2 4 ((nn (((v2 * 5) + v6)))) x2)) := rfl
theorem eX6_takeFor_52z (N : Nat) (v2 : Int32) (v3 : Int32) (v4 : Int32) (v5 : Int32) (v6 : Int32) (I : gM) : hX6_takeFor_52 N 0 v2 v3 v4 v5 v6 I = none := rfl
theorem eX6_takeFor (N : Nat) (v2 : Int32) (I : gM) : fX6_takeFor N [.ref 0, .ref 7, .int v2] I = hX6_takeFor_0 N v2 I := rfl

def hX6_bringOver_0 (N : Nat) (v2 : Int32) (I : gM) : gO := fX6_bringOver_k0 N [some (.ref 0), some (.ref 7), some (.int v2), none, none, none, none, none] [] I
def hX6_bringOver_28 (N : Nat) (v2 : Int32) (v3 : Int32) (s0 : Int32) (I : gM) : gO := fX6_bringOver_k28 N [some (.ref 0), some (.ref 7), some (.int v2), some (.int v3), none, none, none, none] [.int s0] I
def hX6_bringOver_48 (N : Nat) (n48 : Nat) (v2 : Int32) (v3 : Int32) (v4 : Int32) (v5 : Int32) (v6 : Int32) (I : gM) : gO := s_lp (fX6_bringOver_b48 N) n48 [some (.ref 0), some (.ref 7), some (.int v2), some (.int v3), some (.int v4), some (.int v5), some (.int v6), none] [] I
def hX6_bringOver_92 (N : Nat) (n48 : Nat) (v2 : Int32) (v3 : Int32) (v4 : Int32) (v5 : Int32) (v6 : Int32) (v7 : Int32) (I : gM) : gO := fX6_bringOver_k92 N (s_lp (fX6_bringOver_b48 N) n48) [some (.ref 0), some (.ref 7), some (.int v2), some (.int v3), some (.int v4), some (.int v5), some (.int v6), some (.int v7)] [] I
def hX6_bringOver_107 (N : Nat) (n48 : Nat) (v2 : Int32) (v3 : Int32) (v4 : Int32) (v5 : Int32) (v6 : Int32) (I : gM) : gO := fX6_bringOver_k107 N (s_lp (fX6_bringOver_b48 N) n48) [some (.ref 0), some (.ref 7), some (.int v2), some (.int v3), some (.int v4), some (.int v5), some (.int v6), none] [] I
theorem eX6_bringOver_0 (N : Nat) (v2 : Int32) (I : gM) : hX6_bringOver_0 N v2 I =
  ck 14 v2 <| ck 14 v2 <| if gc_ne ((I 10 (nn v2))) ((I 2 (nn v2))) = true then (hX6_bringOver_28 N v2 ((I 10 (nn v2))) 0 I) else (hX6_bringOver_28 N v2 ((I 10 (nn v2))) 1 I) := rfl
theorem eX6_bringOver_28 (N : Nat) (v2 : Int32) (v3 : Int32) (s0 : Int32) (I : gM) : hX6_bringOver_28 N v2 v3 s0 I =
  ck 14 v2 <| hI (fX8_pair N [.int v3, .int ((I 2 (nn v2)))] (gS [] I)) [] I fun x1 I1 => hX6_bringOver_48 N N v2 v3 s0 x1 0 I1 := rfl
theorem eX6_bringOver_48 (N : Nat) (n48 : Nat) (v2 : Int32) (v3 : Int32) (v4 : Int32) (v5 : Int32) (v6 : Int32) (I : gM) : hX6_bringOver_48 N (n48 + 1) v2 v3 v4 v5 v6 I =
  ck 14 v2 <| if gc_ge v6 ((I 5 (nn v2))) = true then (if gz_ne v4 = true then (some (.inl none, I)) else (ck 100 v5 <| ck 14 v2 <| ck 100 v5 <| some (.inl none, (gU I 21 (nn v5) ((((I 21 (nn v5))) + ((I 6 (nn v2))))))))) else (ck 70 (((v2 * 5) + v6)) <| if gc_eq ((I 4 ((nn (((v2 * 5) + v6)))))) (-1) = true then (hX6_bringOver_92 N n48 v2 v3 v4 v5 v6 ((I 4 ((nn (((v2 * 5) + v6)))))) I) else (if gz_eq v4 = true then (hX6_bringOver_92 N n48 v2 v3 v4 v5 v6 ((I 4 ((nn (((v2 * 5) + v6)))))) I) else (hV (fX6_deliver N [.ref 0, .int ((I 4 ((nn (((v2 * 5) + v6))))))] (gS (rg 7 20) I)) (rg 7 20) I fun I2 => hX6_bringOver_107 N n48 v2 v3 v4 v5 v6 I2))) := rfl
theorem eX6_bringOver_48z (N : Nat) (v2 : Int32) (v3 : Int32) (v4 : Int32) (v5 : Int32) (v6 : Int32) (I : gM) : hX6_bringOver_48 N 0 v2 v3 v4 v5 v6 I = none := rfl
theorem eX6_bringOver_92 (N : Nat) (n48 : Nat) (v2 : Int32) (v3 : Int32) (v4 : Int32) (v5 : Int32) (v6 : Int32) (v7 : Int32) (I : gM) : hX6_bringOver_92 N n48 v2 v3 v4 v5 v6 v7 I =
  if gc_eq v7 (-1) = true then (hX6_bringOver_107 N n48 v2 v3 v4 v5 v6 I) else (hV (fX6_pass N [.ref 0, .int v7, .int v5, .int v3] (gS (rg 7 20) I)) (rg 7 20) I fun I3 => hX6_bringOver_107 N n48 v2 v3 v4 v5 v6 I3) := rfl
theorem eX6_bringOver_107 (N : Nat) (n48 : Nat) (v2 : Int32) (v3 : Int32) (v4 : Int32) (v5 : Int32) (v6 : Int32) (I : gM) : hX6_bringOver_107 N n48 v2 v3 v4 v5 v6 I =
  hX6_bringOver_48 N n48 v2 v3 v4 v5 (v6 + 1) I := rfl
theorem eX6_bringOver (N : Nat) (v2 : Int32) (I : gM) : fX6_bringOver N [.ref 0, .ref 7, .int v2] I = hX6_bringOver_0 N v2 I := rfl

def hX6_transmit_0 (N : Nat) (v2 : Int32) (I : gM) : gO := fX6_transmit_k0 N [some (.ref 0), some (.ref 7), some (.int v2), none] [] I
def hX6_transmit_2 (N : Nat) (n2 : Nat) (v2 : Int32) (v3 : Int32) (I : gM) : gO := s_lp (fX6_transmit_b2 N) n2 [some (.ref 0), some (.ref 7), some (.int v2), some (.int v3)] [] I
def hX6_transmit_36 (N : Nat) (n36 : Nat) (v2 : Int32) (v3 : Int32) (I : gM) : gO := s_lp (fX6_transmit_b36 N) n36 [some (.ref 0), some (.ref 7), some (.int v2), some (.int v3)] [] I
def hX6_transmit_28 (N : Nat) (n2 : Nat) (v2 : Int32) (v3 : Int32) (I : gM) : gO := fX6_transmit_k28 N (s_lp (fX6_transmit_b2 N) n2) [some (.ref 0), some (.ref 7), some (.int v2), some (.int v3)] [] I
def hX6_transmit_62 (N : Nat) (n36 : Nat) (v2 : Int32) (v3 : Int32) (I : gM) : gO := fX6_transmit_k62 N (s_lp (fX6_transmit_b36 N) n36) [some (.ref 0), some (.ref 7), some (.int v2), some (.int v3)] [] I
theorem eX6_transmit_0 (N : Nat) (v2 : Int32) (I : gM) : hX6_transmit_0 N v2 I =
  hX6_transmit_2 N N v2 0 I := rfl
theorem eX6_transmit_2 (N : Nat) (n2 : Nat) (v2 : Int32) (v3 : Int32) (I : gM) : hX6_transmit_2 N (n2 + 1) v2 v3 I =
  if gc_ge v3 (I 8 1) = true then (hX6_transmit_36 N N v2 0 I) else (if gc_ne (((gb_shr v2 v3) &&& 1)) 1 = true then (hX6_transmit_28 N n2 v2 v3 I) else (hV (fX6_takeFor N [.ref 0, .ref 7, .int v3] (gS (rg 0 27) I)) (rg 0 27) I fun I1 => hX6_transmit_28 N n2 v2 v3 I1)) := rfl
theorem eX6_transmit_2z (N : Nat) (v2 : Int32) (v3 : Int32) (I : gM) : hX6_transmit_2 N 0 v2 v3 I = none := rfl
theorem eX6_transmit_36 (N : Nat) (n36 : Nat) (v2 : Int32) (v3 : Int32) (I : gM) : hX6_transmit_36 N (n36 + 1) v2 v3 I =
  if gc_ge v3 (I 8 1) = true then (some (.inl none, I)) else (if gc_ne (((gb_shr v2 v3) &&& 1)) 1 = true then (hX6_transmit_62 N n36 v2 v3 I) else (hV (fX6_bringOver N [.ref 0, .ref 7, .int v3] (gS (rg 0 27) I)) (rg 0 27) I fun I2 => hX6_transmit_62 N n36 v2 v3 I2)) := rfl
theorem eX6_transmit_36z (N : Nat) (v2 : Int32) (v3 : Int32) (I : gM) : hX6_transmit_36 N 0 v2 v3 I = none := rfl
theorem eX6_transmit_28 (N : Nat) (n2 : Nat) (v2 : Int32) (v3 : Int32) (I : gM) : hX6_transmit_28 N n2 v2 v3 I =
  hX6_transmit_2 N n2 v2 (v3 + 1) I := rfl
theorem eX6_transmit_62 (N : Nat) (n36 : Nat) (v2 : Int32) (v3 : Int32) (I : gM) : hX6_transmit_62 N n36 v2 v3 I =
  hX6_transmit_36 N n36 v2 (v3 + 1) I := rfl
theorem eX6_transmit (N : Nat) (v2 : Int32) (I : gM) : fX6_transmit N [.ref 0, .ref 7, .int v2] I = hX6_transmit_0 N v2 I := rfl

def hX5_putBytes_0 (N : Nat) (v1 : Int32) (I : gM) : gO := fX5_putBytes_k0 N [some (.ref 0), some (.int v1), none, none] [] I
def hX5_putBytes_3 (N : Nat) (n3 : Nat) (v1 : Int32) (v2 : Int32) (I : gM) : gO := s_lp (fX5_putBytes_b3 N) n3 [some (.ref 0), some (.int v1), some (.int v2), none] [] I
def hX5_putBytes_49 (N : Nat) (n3 : Nat) (v1 : Int32) (v2 : Int32) (I : gM) : gO := fX5_putBytes_k49 N (s_lp (fX5_putBytes_b3 N) n3) [some (.ref 0), some (.int v1), some (.int v2), none] [] I
theorem eX5_putBytes_0 (N : Nat) (v1 : Int32) (I : gM) : hX5_putBytes_0 N v1 I =
  hX5_putBytes_3 N N v1 24 I := rfl
theorem eX5_putBytes_3 (N : Nat) (n3 : Nat) (v1 : Int32) (v2 : Int32) (I : gM) : hX5_putBytes_3 N (n3 + 1) v1 v2 I =
  if gz_lt v2 = true then (some (.inl none, I)) else (if gz_eq (((gb_ushr v1 v2) &&& 255)) = true then (hX5_putBytes_49 N n3 v1 v2 I) else (if gc_ge (I 0 2) 700 = true then (hX5_putBytes_49 N n3 v1 v2 I) else (ck 700 (I 0 2) <| hX5_putBytes_49 N n3 v1 v2 (gU (gU I 1 ((nn (I 0 2))) (((gb_ushr v1 v2) &&& 255))) 0 2 (((I 0 2) + 1)))))) := rfl
theorem eX5_putBytes_3z (N : Nat) (v1 : Int32) (v2 : Int32) (I : gM) : hX5_putBytes_3 N 0 v1 v2 I = none := rfl
theorem eX5_putBytes_49 (N : Nat) (n3 : Nat) (v1 : Int32) (v2 : Int32) (I : gM) : hX5_putBytes_49 N n3 v1 v2 I =
  hX5_putBytes_3 N n3 v1 ((v2 + (-8))) I := rfl
theorem eX5_putBytes (N : Nat) (v1 : Int32) (I : gM) : fX5_putBytes N [.ref 0, .int v1] I = hX5_putBytes_0 N v1 I := rfl

def hX5_kindOf_0 (N : Nat) (v0 : Int32) (I : gM) : gO := fX5_kindOf_k0 N [some (.int v0)] [] I
def hX5_kindOf_14 (N : Nat) (v0 : Int32) (I : gM) : gO := fX5_kindOf_k14 N [some (.int v0)] [] I
theorem eX5_kindOf_0 (N : Nat) (v0 : Int32) (I : gM) : hX5_kindOf_0 N v0 I =
  if gc_lt v0 97 = true then (hX5_kindOf_14 N v0 I) else (if gc_gt v0 122 = true then (hX5_kindOf_14 N v0 I) else (some (.inl (some (.int 1)), I))) := rfl
theorem eX5_kindOf_14 (N : Nat) (v0 : Int32) (I : gM) : hX5_kindOf_14 N v0 I =
  if gc_lt v0 48 = true then (some (.inl (some (.int 3)), I)) else (if gc_gt v0 57 = true then (some (.inl (some (.int 3)), I)) else (some (.inl (some (.int 2)), I))) := rfl
theorem eX5_kindOf (N : Nat) (v0 : Int32) (I : gM) : fX5_kindOf N [.int v0] I = hX5_kindOf_0 N v0 I := rfl

def hX5_nextToken_0 (N : Nat) (n0 : Nat) (I : gM) : gO := s_lp (fX5_nextToken_b0 N) n0 [some (.ref 0), none] [] I
def hX5_nextToken_38 (N : Nat) (I : gM) : gO := fX5_nextToken_k38 N [some (.ref 0), none] [] I
def hX5_nextToken_79 (N : Nat) (s1 : Int32) (I : gM) : gO := fX5_nextToken_k79 N [some (.ref 0), none] [.int s1, .ref 0] I
def hX5_nextToken_114 (N : Nat) (n114 : Nat) (I : gM) : gO := s_lp (fX5_nextToken_b114 N) n114 [some (.ref 0), none] [] I
def hX5_nextToken_205 (N : Nat) (n114 : Nat) (I : gM) : gO := fX5_nextToken_k205 N (s_lp (fX5_nextToken_b114 N) n114) [some (.ref 0), none] [] I
def hX5_nextToken_170 (N : Nat) (n114 : Nat) (s0 : Int32) (I : gM) : gO := fX5_nextToken_k170 N (s_lp (fX5_nextToken_b114 N) n114) [some (.ref 0), none] [.int s0] I
def hX5_nextToken_202 (N : Nat) (n114 : Nat) (s1 : Int32) (I : gM) : gO := fX5_nextToken_k202 N (s_lp (fX5_nextToken_b114 N) n114) [some (.ref 0), none] [.int s1, .ref 0] I
theorem eX5_nextToken_0 (N : Nat) (n0 : Nat) (I : gM) : hX5_nextToken_0 N (n0 + 1) I =
  if gc_ge (I 0 3) (I 0 2) = true then (hX5_nextToken_38 N I) else (ck 700 (I 0 3) <| if gc_ne ((I 1 ((nn (I 0 3))))) 32 = true then (hX5_nextToken_38 N I) else (hX5_nextToken_0 N n0 (gU I 0 3 (((I 0 3) + 1))))) := rfl
theorem eX5_nextToken_0z (N : Nat) (I : gM) : hX5_nextToken_0 N 0 I = none := rfl
theorem eX5_nextToken_38 (N : Nat) (I : gM) : hX5_nextToken_38 N I =
  if gc_ge (I 0 3) (I 0 2) = true then (hX5_nextToken_79 N 0 (gU (gU I 0 5 (I 0 3)) 0 6 0)) else (ck 700 (I 0 3) <| hI (fX5_kindOf N [.int ((I 1 ((nn (I 0 3)))))] (gS [] (gU (gU I 0 5 (I 0 3)) 0 6 0))) [] (gU (gU I 0 5 (I 0 3)) 0 6 0) fun x1 I1 => hX5_nextToken_79 N x1 I1) := rfl
theorem eX5_nextToken_79 (N : Nat) (s1 : Int32) (I : gM) : hX5_nextToken_79 N s1 I =
  if gc_ne s1 3 = true then (hX5_nextToken_114 N N (gU I 0 4 s1)) else (ck 700 (I 0 3) <| some (.inl none, (gU (gU (gU I 0 4 s1) 0 6 ((I 1 ((nn (I 0 3)))))) 0 3 (((I 0 3) + 1))))) := rfl
theorem eX5_nextToken_114 (N : Nat) (n114 : Nat) (I : gM) : hX5_nextToken_114 N (n114 + 1) I =
  if gc_ge (I 0 3) (I 0 2) = true then (some (.inl none, I)) else (ck 700 (I 0 3) <| hI (fX5_kindOf N [.int ((I 1 ((nn (I 0 3)))))] (gS [] I)) [] I fun x2 I2 => if gc_ne x2 (I2 0 4) = true then (some (.inl none, I2)) else (if gc_ne (I2 0 4) 2 = true then (hX5_nextToken_205 N n114 I2) else (if gc_ge (((I2 0 3) - (I2 0 5))) 3 = true then (hX5_nextToken_170 N n114 0 I2) else (hX5_nextToken_170 N n114 1 I2)))) := rfl
theorem eX5_nextToken_114z (N : Nat) (I : gM) : hX5_nextToken_114 N 0 I = none := rfl
theorem eX5_nextToken_205 (N : Nat) (n114 : Nat) (I : gM) : hX5_nextToken_205 N n114 I =
  hX5_nextToken_114 N n114 (gU I 0 3 (((I 0 3) + 1))) := rfl
theorem eX5_nextToken_170 (N : Nat) (n114 : Nat) (s0 : Int32) (I : gM) : hX5_nextToken_170 N n114 s0 I =
  if gz_eq s0 = true then (hX5_nextToken_202 N n114 1000 I) else (ck 700 (I 0 3) <| hX5_nextToken_202 N n114 ((((((10 * (I 0 6))) + ((I 1 ((nn (I 0 3))))))) - 48)) I) := rfl
theorem eX5_nextToken_202 (N : Nat) (n114 : Nat) (s1 : Int32) (I : gM) : hX5_nextToken_202 N n114 s1 I =
  hX5_nextToken_205 N n114 (gU I 0 6 s1) := rfl
theorem eX5_nextToken (N : Nat) (I : gM) : fX5_nextToken N [.ref 0] I = hX5_nextToken_0 N N I := rfl

def hX5_isSemicolon_0 (N : Nat) (I : gM) : gO := fX5_isSemicolon_k0 N [some (.ref 0)] [] I
theorem eX5_isSemicolon_0 (N : Nat) (I : gM) : hX5_isSemicolon_0 N I =
  if gc_ne (I 0 4) 3 = true then (some (.inl (some (.int 0)), I)) else (if gc_ne (I 0 6) 59 = true then (some (.inl (some (.int 0)), I)) else (some (.inl (some (.int 1)), I))) := rfl
theorem eX5_isSemicolon (N : Nat) (I : gM) : fX5_isSemicolon N [.ref 0] I = hX5_isSemicolon_0 N I := rfl

def hX5_isNumber_0 (N : Nat) (v1 : Int32) (v2 : Int32) (I : gM) : gO := fX5_isNumber_k0 N [some (.ref 0), some (.int v1), some (.int v2)] [] I
theorem eX5_isNumber_0 (N : Nat) (v1 : Int32) (v2 : Int32) (I : gM) : hX5_isNumber_0 N v1 v2 I =
  if gc_ne (I 0 4) 2 = true then (some (.inl (some (.int 0)), I)) else (if gc_lt (I 0 6) v1 = true then (some (.inl (some (.int 0)), I)) else (if gc_gt (I 0 6) v2 = true then (some (.inl (some (.int 0)), I)) else (some (.inl (some (.int 1)), I)))) := rfl
theorem eX5_isNumber (N : Nat) (v1 : Int32) (v2 : Int32) (I : gM) : fX5_isNumber N [.ref 0, .int v1, .int v2] I = hX5_isNumber_0 N v1 v2 I := rfl

def hX5_readNodes_0 (N : Nat) (I : gM) : gO := fX5_readNodes_k0 N [some (.ref 0)] [] I
theorem eX5_readNodes_0 (N : Nat) (I : gM) : hX5_readNodes_0 N I =
  hI (fX5_isWord N [.ref 0, .ref 1000] (gS (rg 0 11) I)) (rg 0 11) I fun x1 I1 => if gz_ne x1 = true then (hV (fX5_nextToken N [.ref 0] (gS (rg 0 11) I1)) (rg 0 11) I1 fun I2 => hI (fX5_isNumber N [.ref 0, .int 2, .int 10] (gS (rg 0 11) I2)) (rg 0 11) I2 fun x3 I3 => if gz_ne x3 = true then (hV (fX2_clear N [.ref 0, .int (I3 0 6)] (gS (rg 2 9) I3)) (rg 2 9) I3 fun I4 => hV (fX5_nextToken N [.ref 0] (gS (rg 0 11) I4)) (rg 0 11) I4 fun I5 => some (.inl (some (.int 1)), I5)) else (some (.inl (some (.int 0)), I3))) else (some (.inl (some (.int 0)), I1)) := rfl
theorem eX5_readNodes (N : Nat) (I : gM) : fX5_readNodes N [.ref 0] I = hX5_readNodes_0 N I := rfl

def hX5_readLink_0 (N : Nat) (I : gM) : gO := fX5_readLink_k0 N [some (.ref 0), none, none] [] I
theorem eX5_readLink_0 (N : Nat) (I : gM) : hX5_readLink_0 N I =
  if gc_lt (I 2 1) 14 = true then (hV (fX5_nextToken N [.ref 0] (gS (rg 0 11) I)) (rg 0 11) I fun I1 => hI (fX5_isNumber N [.ref 0, .int 0, .int (((I1 2 0) - 1))] (gS (rg 0 11) I1)) (rg 0 11) I1 fun x2 I2 => if gz_ne x2 = true then (hV (fX5_nextToken N [.ref 0] (gS (rg 0 11) I2)) (rg 0 11) I2 fun I3 => hI (fX5_isNumber N [.ref 0, .int 0, .int (((I3 2 0) - 1))] (gS (rg 0 11) I3)) (rg 0 11) I3 fun x4 I4 => if gz_eq x4 = true then (some (.inl (some (.int 0)), I4)) else (if gc_eq (I4 0 6) (I2 0 6) = true then (some (.inl (some (.int 0)), I4)) else (hI (fX2_findLink N [.ref 0, .int (I2 0 6), .int (I4 0 6)] (gS (rg 2 9) I4)) (rg 2 9) I4 fun x5 I5 => if gc_eq x5 (-1) = true then (hV (fX5_nextToken N [.ref 0] (gS (rg 0 11) I5)) (rg 0 11) I5 fun I6 => hI (fX5_isNumber N [.ref 0, .int 1, .int 5] (gS (rg 0 11) I6)) (rg 0 11) I6 fun x7 I7 => if gz_ne x7 = true then (hV (fX2_putLink N [.ref 0, .int (I2 0 6), .int (I5 0 6), .int (I7 0 6)] (gS (rg 2 9) I7)) (rg 2 9) I7 fun I8 => hV (fX5_nextToken N [.ref 0] (gS (rg 0 11) I8)) (rg 0 11) I8 fun I9 => some (.inl (some (.int 1)), I9)) else (some (.inl (some (.int 0)), I7))) else (some (.inl (some (.int 0)), I5))))) else (some (.inl (some (.int 0)), I2))) else (some (.inl (some (.int 0)), I)) := rfl
theorem eX5_readLink (N : Nat) (I : gM) : fX5_readLink N [.ref 0] I = hX5_readLink_0 N I := rfl

def hX5_readConflict_0 (N : Nat) (I : gM) : gO := fX5_readConflict_k0 N [some (.ref 0), none] [] I
theorem eX5_readConflict_0 (N : Nat) (I : gM) : hX5_readConflict_0 N I =
  if gc_ge (I 0 7) 40 = true then (some (.inl (some (.int 0)), I)) else (if gc_ge (I 2 1) 2 = true then (hV (fX5_nextToken N [.ref 0] (gS (rg 0 11) (gU I 0 7 (((I 0 7) + 1))))) (rg 0 11) (gU I 0 7 (((I 0 7) + 1))) fun I1 => hI (fX5_isNumber N [.ref 0, .int 0, .int (((I1 2 1) - 1))] (gS (rg 0 11) I1)) (rg 0 11) I1 fun x2 I2 => if gz_ne x2 = true then (hV (fX5_nextToken N [.ref 0] (gS (rg 0 11) I2)) (rg 0 11) I2 fun I3 => hI (fX5_isNumber N [.ref 0, .int 0, .int (((I3 2 1) - 1))] (gS (rg 0 11) I3)) (rg 0 11) I3 fun x4 I4 => if gz_eq x4 = true then (some (.inl (some (.int 0)), I4)) else (if gc_eq (I4 0 6) (I2 0 6) = true then (some (.inl (some (.int 0)), I4)) else (hI (fX2_inConflict N [.ref 0, .int (I2 0 6), .int (I4 0 6)] (gS (rg 2 9) I4)) (rg 2 9) I4 fun x5 I5 => if gz_eq x5 = true then (hV (fX2_putConflict N [.ref 0, .int (I2 0 6), .int (I5 0 6), .int 1] (gS (rg 2 9) I5)) (rg 2 9) I5 fun I6 => hV (fX5_nextToken N [.ref 0] (gS (rg 0 11) I6)) (rg 0 11) I6 fun I7 => some (.inl (some (.int 1)), I7)) else (some (.inl (some (.int 0)), I5))))) else (some (.inl (some (.int 0)), I2))) else (some (.inl (some (.int 0)), I))) := rfl
theorem eX5_readConflict (N : Nat) (I : gM) : fX5_readConflict N [.ref 0] I = hX5_readConflict_0 N I := rfl

def hX5_readBudget_0 (N : Nat) (v1 : Int32) (I : gM) : gO := fX5_readBudget_k0 N [some (.ref 0), some (.int v1)] [] I
theorem eX5_readBudget_0 (N : Nat) (v1 : Int32) (I : gM) : hX5_readBudget_0 N v1 I =
  hV (fX5_nextToken N [.ref 0] (gS (rg 0 11) I)) (rg 0 11) I fun I1 => hI (fX5_isNumber N [.ref 0, .int 0, .int 200] (gS (rg 0 11) I1)) (rg 0 11) I1 fun x2 I2 => if gz_ne x2 = true then (hV (fX2_putNumber N [.ref 0, .int v1, .int 3, .int (I2 0 6)] (gS (rg 2 9) I2)) (rg 2 9) I2 fun I3 => hV (fX5_nextToken N [.ref 0] (gS (rg 0 11) I3)) (rg 0 11) I3 fun I4 => some (.inl (some (.int 1)), I4)) else (some (.inl (some (.int 0)), I2)) := rfl
theorem eX5_readBudget (N : Nat) (v1 : Int32) (I : gM) : fX5_readBudget N [.ref 0, .int v1] I = hX5_readBudget_0 N v1 I := rfl

def hX5_readFlow_0 (N : Nat) (I : gM) : gO := fX5_readFlow_k0 N [some (.ref 0), none, none, none] [] I
def hX5_readFlow_138 (N : Nat) (I : gM) : gO := fX5_readFlow_k138 N [none, none, none, none] [] I
theorem eX5_readFlow_0 (N : Nat) (I : gM) : hX5_readFlow_0 N I =
  if gc_lt (I 2 2) 6 = true then (hV (fX5_nextToken N [.ref 0] (gS (rg 0 11) I)) (rg 0 11) I fun I1 => hI (fX5_isNumber N [.ref 0, .int 0, .int (((I1 2 0) - 1))] (gS (rg 0 11) I1)) (rg 0 11) I1 fun x2 I2 => if gz_ne x2 = true then (hV (fX5_nextToken N [.ref 0] (gS (rg 0 11) I2)) (rg 0 11) I2 fun I3 => hI (fX5_isNumber N [.ref 0, .int 0, .int (((I3 2 0) - 1))] (gS (rg 0 11) I3)) (rg 0 11) I3 fun x4 I4 => if gz_eq x4 = true then (some (.inl (some (.int 0)), I4)) else (if gc_ne (I4 0 6) (I2 0 6) = true then (hV (fX5_nextToken N [.ref 0] (gS (rg 0 11) I4)) (rg 0 11) I4 fun I5 => hI (fX5_isNumber N [.ref 0, .int 0, .int 300] (gS (rg 0 11) I5)) (rg 0 11) I5 fun x6 I6 => if gz_ne x6 = true then (hV (fX2_putFlow N [.ref 0, .int (I2 0 6), .int (I4 0 6), .int (I6 0 6), .int 0] (gS (rg 2 9) I6)) (rg 2 9) I6 fun I7 => hV (fX5_nextToken N [.ref 0] (gS (rg 0 11) I7)) (rg 0 11) I7 fun I8 => hI (fX5_isWord N [.ref 0, .ref 1004] (gS (rg 0 11) I8)) (rg 0 11) I8 fun x9 I9 => if gz_eq x9 = true then (hX5_readFlow_138 N I9) else (hI (fX5_readBudget N [.ref 0, .int (I6 2 2)] (gS (rg 0 11) I9)) (rg 0 11) I9 fun x10 I10 => if gz_eq x10 = true then (some (.inl (some (.int 0)), I10)) else (hX5_readFlow_138 N I10))) else (some (.inl (some (.int 0)), I6))) else (some (.inl (some (.int 0)), I4)))) else (some (.inl (some (.int 0)), I2))) else (some (.inl (some (.int 0)), I)) := rfl
theorem eX5_readFlow_138 (N : Nat) (I : gM) : hX5_readFlow_138 N I =
  some (.inl (some (.int 1)), I) := rfl
theorem eX5_readFlow (N : Nat) (I : gM) : fX5_readFlow N [.ref 0] I = hX5_readFlow_0 N I := rfl

def hX5_beginSetting_0 (N : Nat) (v1 : Int32) (I : gM) : gO := fX5_beginSetting_k0 N [some (.ref 0), some (.int v1)] [] I
theorem eX5_beginSetting_0 (N : Nat) (v1 : Int32) (I : gM) : hX5_beginSetting_0 N v1 I =
  if gc_ne ((((gb_shr (I 0 8) v1)) &&& 1)) 1 = true then (hV (fX5_nextToken N [.ref 0] (gS (rg 0 11) (gU I 0 8 (((I 0 8) ||| (gb_shl 1 v1)))))) (rg 0 11) (gU I 0 8 (((I 0 8) ||| (gb_shl 1 v1)))) fun I1 => some (.inl (some (.int 1)), I1)) else (some (.inl (some (.int 0)), I)) := rfl
theorem eX5_beginSetting (N : Nat) (v1 : Int32) (I : gM) : fX5_beginSetting N [.ref 0, .int v1] I = hX5_beginSetting_0 N v1 I := rfl

def hX5_readChoice_0 (N : Nat) (v1 : Int32) (p2 : Nat) (p3 : Nat) (I : gM) : gO := fX5_readChoice_k0 N [some (.ref 0), some (.int v1), some (.ref p2), some (.ref p3)] [] I
def hX5_readChoice_26 (N : Nat) (v1 : Int32) (p3 : Nat) (I : gM) : gO := fX5_readChoice_k26 N [some (.ref 0), some (.int v1), none, some (.ref p3)] [] I
def hX5_readChoice_47 (N : Nat) (s1 : Int32) (s2 : Int32) (I : gM) : gO := fX5_readChoice_k47 N [some (.ref 0), none, none, none] [.int s2, .int s1, .ref 8] I
theorem eX5_readChoice_0 (N : Nat) (v1 : Int32) (p2 : Nat) (p3 : Nat) (I : gM) : hX5_readChoice_0 N v1 p2 p3 I =
  hI (fX5_beginSetting N [.ref 0, .int v1] (gS (rg 0 11) I)) (rg 0 11) I fun x1 I1 => if gz_eq x1 = true then (some (.inl (some (.int 0)), I1)) else (hI (fX5_isWord N [.ref 0, .ref p2] (gS (rg 0 11) I1)) (rg 0 11) I1 fun x2 I2 => if gz_ne x2 = true then (hX5_readChoice_26 N v1 p3 I2) else (hI (fX5_isWord N [.ref 0, .ref p3] (gS (rg 0 11) I2)) (rg 0 11) I2 fun x3 I3 => if gz_ne x3 = true then (hX5_readChoice_26 N v1 p3 I3) else (some (.inl (some (.int 0)), I3)))) := rfl
theorem eX5_readChoice_26 (N : Nat) (v1 : Int32) (p3 : Nat) (I : gM) : hX5_readChoice_26 N v1 p3 I =
  hI (fX5_isWord N [.ref 0, .ref p3] (gS (rg 0 11) I)) (rg 0 11) I fun x4 I4 => if gz_eq x4 = true then (hX5_readChoice_47 N v1 0 I4) else (hX5_readChoice_47 N v1 1 I4) := rfl
theorem eX5_readChoice_47 (N : Nat) (s1 : Int32) (s2 : Int32) (I : gM) : hX5_readChoice_47 N s1 s2 I =
  ck 4 s1 <| hV (fX5_nextToken N [.ref 0] (gS (rg 0 11) (gU I 8 (nn s1) s2))) (rg 0 11) (gU I 8 (nn s1) s2) fun I5 => some (.inl (some (.int 1)), I5) := rfl
theorem eX5_readChoice (N : Nat) (v1 : Int32) (p2 : Nat) (p3 : Nat) (I : gM) : fX5_readChoice N [.ref 0, .int v1, .ref p2, .ref p3] I = hX5_readChoice_0 N v1 p2 p3 I := rfl

def hX5_readSetting_0 (N : Nat) (v1 : Int32) (I : gM) : gO := fX5_readSetting_k0 N [some (.ref 0), some (.int v1)] [] I
theorem eX5_readSetting_0 (N : Nat) (v1 : Int32) (I : gM) : hX5_readSetting_0 N v1 I =
  hI (fX5_beginSetting N [.ref 0, .int v1] (gS (rg 0 11) I)) (rg 0 11) I fun x1 I1 => if gz_eq x1 = true then (some (.inl (some (.int 0)), I1)) else (if gRng 1200 1201 1200 ∧ ¬ (v1 < 0 ∨ 4 ≤ (v1).toNatClampNeg) then hI (fX5_isNumber N [.ref 0, .int 0, .int ((gGS.getD (v1).toNatClampNeg 0))] (gS (rg 0 11) I1)) (rg 0 11) I1 fun x2 I2 => if gz_ne x2 = true then (ck 4 v1 <| hV (fX5_nextToken N [.ref 0] (gS (rg 0 11) (gU I2 8 (nn v1) (I2 0 6)))) (rg 0 11) (gU I2 8 (nn v1) (I2 0 6)) fun I3 => some (.inl (some (.int 1)), I3)) else (some (.inl (some (.int 0)), I2)) else none) := rfl
theorem eX5_readSetting (N : Nat) (v1 : Int32) (I : gM) : fX5_readSetting N [.ref 0, .int v1] I = hX5_readSetting_0 N v1 I := rfl

def hX5_readStatement_0 (N : Nat) (I : gM) : gO := fX5_readStatement_k0 N [some (.ref 0)] [] I
theorem eX5_readStatement_0 (N : Nat) (I : gM) : hX5_readStatement_0 N I =
  hI (fX5_isWord N [.ref 0, .ref 1001] (gS (rg 0 11) I)) (rg 0 11) I fun x1 I1 => if gz_eq x1 = true then (hI (fX5_isWord N [.ref 0, .ref 1002] (gS (rg 0 11) I1)) (rg 0 11) I1 fun x2 I2 => if gz_eq x2 = true then (hI (fX5_isWord N [.ref 0, .ref 1003] (gS (rg 0 11) I2)) (rg 0 11) I2 fun x3 I3 => if gz_eq x3 = true then (hI (fX5_isWord N [.ref 0, .ref 1005] (gS (rg 0 11) I3)) (rg 0 11) I3 fun x4 I4 => if gz_eq x4 = true then (hI (fX5_isWord N [.ref 0, .ref 1008] (gS (rg 0 11) I4)) (rg 0 11) I4 fun x5 I5 => if gz_eq x5 = true then (hI (fX5_isWord N [.ref 0, .ref 1009] (gS (rg 0 11) I5)) (rg 0 11) I5 fun x6 I6 => if gz_eq x6 = true then (hI (fX5_isWord N [.ref 0, .ref 1010] (gS (rg 0 11) I6)) (rg 0 11) I6 fun x7 I7 => if gz_eq x7 = true then (some (.inl (some (.int 0)), I7)) else (hI (fX5_readChoice N [.ref 0, .int 3, .ref 1011, .ref 1012] (gS (rg 0 11) I7)) (rg 0 11) I7 fun x8 I8 => if x8 = 0 ∨ x8 = 1 then some (.inl (some (.int x8)), I8) else none)) else (hI (fX5_readSetting N [.ref 0, .int 2] (gS (rg 0 11) I6)) (rg 0 11) I6 fun x9 I9 => if x9 = 0 ∨ x9 = 1 then some (.inl (some (.int x9)), I9) else none)) else (hI (fX5_readSetting N [.ref 0, .int 1] (gS (rg 0 11) I5)) (rg 0 11) I5 fun x10 I10 => if x10 = 0 ∨ x10 = 1 then some (.inl (some (.int x10)), I10) else none)) else (hI (fX5_readChoice N [.ref 0, .int 0, .ref 1006, .ref 1007] (gS (rg 0 11) I4)) (rg 0 11) I4 fun x11 I11 => if x11 = 0 ∨ x11 = 1 then some (.inl (some (.int x11)), I11) else none)) else (hI (fX5_readFlow N [.ref 0] (gS (rg 0 11) I3)) (rg 0 11) I3 fun x12 I12 => if x12 = 0 ∨ x12 = 1 then some (.inl (some (.int x12)), I12) else none)) else (hI (fX5_readConflict N [.ref 0] (gS (rg 0 11) I2)) (rg 0 11) I2 fun x13 I13 => if x13 = 0 ∨ x13 = 1 then some (.inl (some (.int x13)), I13) else none)) else (hI (fX5_readLink N [.ref 0] (gS (rg 0 11) I1)) (rg 0 11) I1 fun x14 I14 => if x14 = 0 ∨ x14 = 1 then some (.inl (some (.int x14)), I14) else none) := rfl
theorem eX5_readStatement (N : Nat) (I : gM) : fX5_readStatement N [.ref 0] I = hX5_readStatement_0 N I := rfl

def hX5_read_0 (N : Nat) (I : gM) : gO := fX5_read_k0 N [some (.ref 0), none] [] I
def hX5_read_33 (N : Nat) (n33 : Nat) (v1 : Int32) (I : gM) : gO := s_lp (fX5_read_b33 N) n33 [some (.ref 0), some (.int v1)] [] I
def hX5_read_69 (N : Nat) (I : gM) : gO := fX5_read_k69 N [some (.ref 0), none] [] I
theorem eX5_read_0 (N : Nat) (I : gM) : hX5_read_0 N I =
  hV (fX5_nextToken N [.ref 0] (gS (rg 0 11) (gU (gU (gU I 0 3 0) 0 7 0) 0 8 0))) (rg 0 11) (gU (gU (gU I 0 3 0) 0 7 0) 0 8 0) fun I1 => hI (fX5_readNodes N [.ref 0] (gS (rg 0 11) I1)) (rg 0 11) I1 fun x2 I2 => if gz_ne x2 = true then (hX5_read_33 N N 0 I2) else (some (.inl (some (.int (I2 0 5))), I2)) := rfl
theorem eX5_read_33 (N : Nat) (n33 : Nat) (v1 : Int32) (I : gM) : hX5_read_33 N (n33 + 1) v1 I =
  if gc_ge v1 700 = true then (hX5_read_69 N I) else (hI (fX5_isSemicolon N [.ref 0] (gS (rg 0 11) I)) (rg 0 11) I fun x3 I3 => if gz_eq x3 = true then (hX5_read_69 N I3) else (hV (fX5_nextToken N [.ref 0] (gS (rg 0 11) I3)) (rg 0 11) I3 fun I4 => hI (fX5_readStatement N [.ref 0] (gS (rg 0 11) I4)) (rg 0 11) I4 fun x5 I5 => if gz_ne x5 = true then (hX5_read_33 N n33 (v1 + 1) I5) else (some (.inl (some (.int (I5 0 5))), I5)))) := rfl
theorem eX5_read_33z (N : Nat) (v1 : Int32) (I : gM) : hX5_read_33 N 0 v1 I = none := rfl
theorem eX5_read_69 (N : Nat) (I : gM) : hX5_read_69 N I =
  if gz_ne (I 0 4) = true then (some (.inl (some (.int (I 0 5))), I)) else (some (.inl (some (.int (-1))), I)) := rfl
theorem eX5_read (N : Nat) (I : gM) : fX5_read N [.ref 0] I = hX5_read_0 N I := rfl

def hX0_reachOver_0 (N : Nat) (v2 : Int32) (v3 : Int32) (I : gM) : gO := fX0_reachOver_k0 N [some (.ref 0), some (.ref 3), some (.int v2), some (.int v3), none, none, none, none] [] I
def hX0_reachOver_31 (N : Nat) (v2 : Int32) (v3 : Int32) (v4 : Int32) (v5 : Int32) (s0 : Int32) (I : gM) : gO := fX0_reachOver_k31 N [some (.ref 0), some (.ref 3), some (.int v2), some (.int v3), some (.int v4), some (.int v5), none, none] [.int s0] I
def hX0_reachOver_48 (N : Nat) (v2 : Int32) (v4 : Int32) (v5 : Int32) (v6 : Int32) (s0 : Int32) (I : gM) : gO := fX0_reachOver_k48 N [some (.ref 0), some (.ref 3), some (.int v2), none, some (.int v4), some (.int v5), some (.int v6), none] [.int s0] I
def hX0_reachOver_88 (N : Nat) (v2 : Int32) (v4 : Int32) (v6 : Int32) (v7 : Int32) (I : gM) : gO := fX0_reachOver_k88 N [some (.ref 0), none, some (.int v2), none, some (.int v4), none, some (.int v6), some (.int v7)] [] I
theorem eX0_reachOver_0 (N : Nat) (v2 : Int32) (v3 : Int32) (I : gM) : hX0_reachOver_0 N v2 v3 I =
  ck 14 v2 <| ck 14 v2 <| if gc_ne ((((gb_shr v3 ((I 4 (nn v2))))) &&& 1)) 1 = true then (hX0_reachOver_31 N v2 v3 ((I 4 (nn v2))) ((I 5 (nn v2))) 0 I) else (hX0_reachOver_31 N v2 v3 ((I 4 (nn v2))) ((I 5 (nn v2))) 1 I) := rfl
theorem eX0_reachOver_31 (N : Nat) (v2 : Int32) (v3 : Int32) (v4 : Int32) (v5 : Int32) (s0 : Int32) (I : gM) : hX0_reachOver_31 N v2 v3 v4 v5 s0 I =
  if gc_ne (((gb_shr v3 v5) &&& 1)) 1 = true then (hX0_reachOver_48 N v2 v4 v5 s0 0 I) else (hX0_reachOver_48 N v2 v4 v5 s0 1 I) := rfl
theorem eX0_reachOver_48 (N : Nat) (v2 : Int32) (v4 : Int32) (v5 : Int32) (v6 : Int32) (s0 : Int32) (I : gM) : hX0_reachOver_48 N v2 v4 v5 v6 s0 I =
  if gz_eq v6 = true then (hX0_reachOver_88 N v2 v4 v6 s0 I) else (if gz_ne s0 = true then (hX0_reachOver_88 N v2 v4 v6 s0 I) else (ck 14 v2 <| ck 14 v2 <| if gc_ge ((I 1 (nn v2))) ((I 6 (nn v2))) = true then (hX0_reachOver_88 N v2 v4 v6 s0 I) else (ck 10 v5 <| some (.inl (some (.int (gb_shl 1 v5))), (gU I 2 (nn v5) v2))))) := rfl
theorem eX0_reachOver_88 (N : Nat) (v2 : Int32) (v4 : Int32) (v6 : Int32) (v7 : Int32) (I : gM) : hX0_reachOver_88 N v2 v4 v6 v7 I =
  if gz_eq v7 = true then (some (.inl (some (.int 0)), I)) else (if gz_ne v6 = true then (some (.inl (some (.int 0)), I)) else (ck 14 v2 <| if gz_le ((I 1 (nn v2))) = true then (some (.inl (some (.int 0)), I)) else (ck 10 v4 <| some (.inl (some (.int (gb_shl 1 v4))), (gU I 2 (nn v4) v2))))) := rfl
theorem eX0_reachOver (N : Nat) (v2 : Int32) (v3 : Int32) (I : gM) : fX0_reachOver N [.ref 0, .ref 3, .int v2, .int v3] I = hX0_reachOver_0 N v2 v3 I := rfl

def hX0_reach_0 (N : Nat) (v2 : Int32) (I : gM) : gO := fX0_reach_k0 N [some (.ref 0), some (.ref 3), some (.int v2), none, none, none] [] I
def hX0_reach_7 (N : Nat) (n7 : Nat) (v3 : Int32) (v4 : Int32) (I : gM) : gO := s_lp (fX0_reach_b7 N) n7 [some (.ref 0), some (.ref 3), none, some (.int v3), some (.int v4), none] [] I
def hX0_reach_19 (N : Nat) (n7 : Nat) (n19 : Nat) (v3 : Int32) (v4 : Int32) (v5 : Int32) (I : gM) : gO := s_lp (fX0_reach_b19 N (s_lp (fX0_reach_b7 N) n7)) n19 [some (.ref 0), some (.ref 3), none, some (.int v3), some (.int v4), some (.int v5)] [] I
theorem eX0_reach_0 (N : Nat) (v2 : Int32) (I : gM) : hX0_reach_0 N v2 I =
  hX0_reach_7 N N (gb_shl 1 v2) 1 I := rfl
theorem eX0_reach_7 (N : Nat) (n7 : Nat) (v3 : Int32) (v4 : Int32) (I : gM) : hX0_reach_7 N (n7 + 1) v3 v4 I =
  if gc_ge v4 (I 3 0) = true then (some (.inl (some (.int v3)), I)) else (hX0_reach_19 N n7 N v3 v4 0 I) := rfl
theorem eX0_reach_7z (N : Nat) (v3 : Int32) (v4 : Int32) (I : gM) : hX0_reach_7 N 0 v3 v4 I = none := rfl
theorem eX0_reach_19 (N : Nat) (n7 : Nat) (n19 : Nat) (v3 : Int32) (v4 : Int32) (v5 : Int32) (I : gM) : hX0_reach_19 N n7 (n19 + 1) v3 v4 v5 I =
  if gc_ge v5 (I 3 1) = true then (hX0_reach_7 N n7 v3 (v4 + 1) I) else (hI (fX0_reachOver N [.ref 0, .ref 3, .int v5, .int v3] (gS (rg 0 12) I)) (rg 0 12) I fun x1 I1 => hX0_reach_19 N n7 n19 (v3 ||| x1) v4 (v5 + 1) I1) := rfl
theorem eX0_reach_19z (N : Nat) (n7 : Nat) (v3 : Int32) (v4 : Int32) (v5 : Int32) (I : gM) : hX0_reach_19 N n7 0 v3 v4 v5 I = none := rfl
theorem eX0_reach (N : Nat) (v2 : Int32) (I : gM) : fX0_reach N [.ref 0, .ref 3, .int v2] I = hX0_reach_0 N v2 I := rfl

def hX0_sendOne_0 (N : Nat) (v2 : Int32) (v3 : Int32) (I : gM) : gO := fX0_sendOne_k0 N [some (.ref 0), some (.ref 3), some (.int v2), some (.int v3), none, none, none] [] I
def hX0_sendOne_6 (N : Nat) (n6 : Nat) (v2 : Int32) (v4 : Int32) (v5 : Int32) (I : gM) : gO := s_lp (fX0_sendOne_b6 N) n6 [some (.ref 0), some (.ref 3), some (.int v2), none, some (.int v4), some (.int v5), none] [] I
def hX0_sendOne_83 (N : Nat) (n6 : Nat) (v2 : Int32) (v4 : Int32) (v5 : Int32) (I : gM) : gO := fX0_sendOne_k83 N (s_lp (fX0_sendOne_b6 N) n6) [some (.ref 0), some (.ref 3), some (.int v2), none, some (.int v4), some (.int v5), none] [] I
theorem eX0_sendOne_0 (N : Nat) (v2 : Int32) (v3 : Int32) (I : gM) : hX0_sendOne_0 N v2 v3 I =
  hX0_sendOne_6 N N v2 v3 0 I := rfl
theorem eX0_sendOne_6 (N : Nat) (n6 : Nat) (v2 : Int32) (v4 : Int32) (v5 : Int32) (I : gM) : hX0_sendOne_6 N (n6 + 1) v2 v4 v5 I =
  if gc_ge v5 10 = true then (some (.inl none, I)) else (if gc_eq v4 v2 = true then (some (.inl none, I)) else (ck 10 v4 <| ck 14 ((I 2 (nn v4))) <| if gc_ne ((I 5 ((nn ((I 2 (nn v4))))))) v4 = true then (ck 14 ((I 2 (nn v4))) <| ck 14 ((I 2 (nn v4))) <| ck 14 ((I 2 (nn v4))) <| hX0_sendOne_83 N n6 v2 ((I 5 ((nn ((I 2 (nn v4))))))) v5 (gU I 1 ((nn ((I 2 (nn v4))))) ((((I 1 ((nn ((I 2 (nn v4))))))) - 1)))) else (ck 14 ((I 2 (nn v4))) <| ck 14 ((I 2 (nn v4))) <| ck 14 ((I 2 (nn v4))) <| hX0_sendOne_83 N n6 v2 ((I 4 ((nn ((I 2 (nn v4))))))) v5 (gU I 1 ((nn ((I 2 (nn v4))))) ((((I 1 ((nn ((I 2 (nn v4))))))) + 1)))))) := rfl
theorem eX0_sendOne_6z (N : Nat) (v2 : Int32) (v4 : Int32) (v5 : Int32) (I : gM) : hX0_sendOne_6 N 0 v2 v4 v5 I = none := rfl
theorem eX0_sendOne_83 (N : Nat) (n6 : Nat) (v2 : Int32) (v4 : Int32) (v5 : Int32) (I : gM) : hX0_sendOne_83 N n6 v2 v4 v5 I =
  hX0_sendOne_6 N n6 v2 v4 (v5 + 1) I := rfl
theorem eX0_sendOne (N : Nat) (v2 : Int32) (v3 : Int32) (I : gM) : fX0_sendOne N [.ref 0, .ref 3, .int v2, .int v3] I = hX0_sendOne_0 N v2 v3 I := rfl

def hX0_find_0 (N : Nat) (v2 : Int32) (v3 : Int32) (I : gM) : gO := fX0_find_k0 N [some (.ref 0), some (.ref 3), some (.int v2), some (.int v3), none] [] I
def hX0_find_26 (N : Nat) (n26 : Nat) (v2 : Int32) (v3 : Int32) (v4 : Int32) (I : gM) : gO := s_lp (fX0_find_b26 N) n26 [some (.ref 0), some (.ref 3), some (.int v2), some (.int v3), some (.int v4)] [] I
theorem eX0_find_0 (N : Nat) (v2 : Int32) (v3 : Int32) (I : gM) : hX0_find_0 N v2 v3 I =
  hV (fJF_fill N 14 [.ref 0, .int 0] (gS [1] I)) [1] I fun I1 => hI (fX0_reach N [.ref 0, .ref 3, .int v2] (gS (rg 0 12) (gU I1 0 2 0))) (rg 0 12) (gU I1 0 2 0) fun x2 I2 => hX0_find_26 N N v2 v3 0 (gU I2 0 3 x2) := rfl
theorem eX0_find_26 (N : Nat) (n26 : Nat) (v2 : Int32) (v3 : Int32) (v4 : Int32) (I : gM) : hX0_find_26 N (n26 + 1) v2 v3 v4 I =
  if gc_ge v4 70 = true then (some (.inl none, I)) else (if gc_ne ((((gb_shr (I 0 3) v3)) &&& 1)) 1 = true then (some (.inl none, I)) else (hV (fX0_sendOne N [.ref 0, .ref 3, .int v2, .int v3] (gS (rg 0 12) I)) (rg 0 12) I fun I3 => hI (fX0_reach N [.ref 0, .ref 3, .int v2] (gS (rg 0 12) (gU I3 0 2 (((I3 0 2) + 1))))) (rg 0 12) (gU I3 0 2 (((I3 0 2) + 1))) fun x4 I4 => hX0_find_26 N n26 v2 v3 (v4 + 1) (gU I4 0 3 x4))) := rfl
theorem eX0_find_26z (N : Nat) (v2 : Int32) (v3 : Int32) (v4 : Int32) (I : gM) : hX0_find_26 N 0 v2 v3 v4 I = none := rfl
theorem eX0_find (N : Nat) (v2 : Int32) (v3 : Int32) (I : gM) : fX0_find N [.ref 0, .ref 3, .int v2, .int v3] I = hX0_find_0 N v2 v3 I := rfl

def hX3_heaviest_0 (N : Nat) (g : List Value → gM → Option (gR × gM)) (v0 : Int32) (v1 : Int32) (I : gM) : gO := fX3_heaviest_k0 N g [some (.int v0), some (.int v1), some (.ref 0), some (.ref 1), none, none, none, none] [] I
theorem eX3_heaviest_0 (N : Nat) (g : List Value → gM → Option (gR × gM)) (v0 : Int32) (v1 : Int32) (I : gM) : hX3_heaviest_0 N g v0 v1 I =
  if gz_eq v0 = true then (some (.inl (some (.int 0)), I)) else (if gz_lt v1 = true then (some (.inl (some (.int 0)), I)) else (if gc_lt v1 14 = true then (if gc_ne ((v0 &&& (((gb_shl 1 v1) ^^^ (-1))))) v0 = true then (ck 14 v1 <| hI (g [.int ((((v0 &&& (((gb_shl 1 v1) ^^^ (-1))))) &&& ((((I 1 (nn v1))) ^^^ (-1))))), .int (v1 - 1), .ref 0, .ref 1] (gS (rg 0 2) I)) (rg 0 2) I fun x1 I1 => if gc_ne ((((v0 &&& (((gb_shl 1 v1) ^^^ (-1))))) &&& ((((I 1 (nn v1))) ^^^ (-1))))) ((v0 &&& (((gb_shl 1 v1) ^^^ (-1))))) = true then (hI (g [.int ((v0 &&& (((gb_shl 1 v1) ^^^ (-1))))), .int (v1 - 1), .ref 0, .ref 1] (gS (rg 0 2) I1)) (rg 0 2) I1 fun x2 I2 => hI (fX3_sumOfWeights N [.int (((gb_shl 1 v1) ||| x1)), .ref 0] (gS [0] I2)) [0] I2 fun x3 I3 => hI (fX3_sumOfWeights N [.int x2, .ref 0] (gS [0] I3)) [0] I3 fun x4 I4 => if gc_le x3 x4 = true then (some (.inl (some (.int x2)), I4)) else (some (.inl (some (.int (((gb_shl 1 v1) ||| x1)))), I4))) else (some (.inl (some (.int (((gb_shl 1 v1) ||| x1)))), I1))) else (hI (g [.int ((v0 &&& (((gb_shl 1 v1) ^^^ (-1))))), .int (v1 - 1), .ref 0, .ref 1] (gS (rg 0 2) I)) (rg 0 2) I fun x5 I5 => some (.inl (some (.int x5)), I5))) else (some (.inl (some (.int 0)), I)))) := rfl
theorem eX3_heaviest (N d : Nat) (v0 : Int32) (v1 : Int32) (I : gM) : fX3_heaviest N (d + 1) [.int v0, .int v1, .ref 0, .ref 1] I = hX3_heaviest_0 N (fX3_heaviest N d) v0 v1 I := rfl

def hX3_choose_0 (N : Nat) (v2 : Int32) (I : gM) : gO := fX3_choose_k0 N [some (.ref 0), some (.ref 3), some (.int v2), none, none] [] I
def hX3_choose_5 (N : Nat) (n5 : Nat) (v2 : Int32) (v3 : Int32) (v4 : Int32) (I : gM) : gO := s_lp (fX3_choose_b5 N) n5 [some (.ref 0), some (.ref 3), some (.int v2), some (.int v3), some (.int v4)] [] I
def hX3_choose_41 (N : Nat) (n5 : Nat) (v2 : Int32) (v3 : Int32) (v4 : Int32) (I : gM) : gO := fX3_choose_k41 N (s_lp (fX3_choose_b5 N) n5) [some (.ref 0), some (.ref 3), some (.int v2), some (.int v3), some (.int v4)] [] I
theorem eX3_choose_0 (N : Nat) (v2 : Int32) (I : gM) : hX3_choose_0 N v2 I =
  hX3_choose_5 N N v2 0 0 I := rfl
theorem eX3_choose_5 (N : Nat) (n5 : Nat) (v2 : Int32) (v3 : Int32) (v4 : Int32) (I : gM) : hX3_choose_5 N (n5 + 1) v2 v3 v4 I =
  if gc_ge v4 (I 4 1) = true then (if gz_ne v2 = true then (hI (fX3_heaviest N 16 [.int v3, .int 13, .ref 0, .ref 1] (gS [2, 9] I)) [2, 9] I fun x1 I1 => some (.inl (some (.int x1)), I1)) else (hI (fX3_greediest N [.ref 0, .int v3, .ref 3] (gS (rg 0 3 ++ rg 4 9) I)) (rg 0 3 ++ rg 4 9) I fun x2 I2 => some (.inl (some (.int x2)), I2))) else (hV (fX3_weigh N [.ref 0, .ref 3, .int v4] (gS (rg 0 23) I)) (rg 0 23) I fun I3 => ck 14 v4 <| if gz_le ((I3 2 (nn v4))) = true then (hX3_choose_41 N n5 v2 v3 v4 I3) else (hX3_choose_41 N n5 v2 ((v3 ||| (gb_shl 1 v4))) v4 I3)) := rfl
theorem eX3_choose_5z (N : Nat) (v2 : Int32) (v3 : Int32) (v4 : Int32) (I : gM) : hX3_choose_5 N 0 v2 v3 v4 I = none := rfl
theorem eX3_choose_41 (N : Nat) (n5 : Nat) (v2 : Int32) (v3 : Int32) (v4 : Int32) (I : gM) : hX3_choose_41 N n5 v2 v3 v4 I =
  hX3_choose_5 N n5 v2 v3 (v4 + 1) I := rfl
theorem eX3_choose (N : Nat) (v2 : Int32) (I : gM) : fX3_choose N [.ref 0, .ref 3, .int v2] I = hX3_choose_0 N v2 I := rfl

def hX6_passSlot_0 (N : Nat) (I : gM) : gO := fX6_passSlot_k0 N [some (.ref 0), some (.ref 7), none] [] I
def hX6_passSlot_2 (N : Nat) (n2 : Nat) (v2 : Int32) (I : gM) : gO := s_lp (fX6_passSlot_b2 N) n2 [some (.ref 0), some (.ref 7), some (.int v2)] [] I
theorem eX6_passSlot_0 (N : Nat) (I : gM) : hX6_passSlot_0 N I =
  hX6_passSlot_2 N N 0 I := rfl
theorem eX6_passSlot_2 (N : Nat) (n2 : Nat) (v2 : Int32) (I : gM) : hX6_passSlot_2 N (n2 + 1) v2 I =
  if gc_ge v2 (I 8 2) = true then (ck 4 3 <| hI (fX3_choose N [.ref 0, .ref 3, .int ((I 14 (nn 3)))] (gS (rg 1 3 ++ rg 7 20) I)) (rg 1 3 ++ rg 7 20) I fun x1 I1 => hV (fX6_transmit N [.ref 0, .ref 7, .int x1] (gS (rg 0 27) I1)) (rg 0 27) I1 fun I2 => hV (fX7_expireAll N [.ref 0] (gS (rg 7 20) I2)) (rg 7 20) I2 fun I3 => some (.inl none, (gU (gU I3 7 2 (((I3 7 2) + 1))) 7 3 ((gj_max (I3 7 3) (I3 17 11)))))) else (hV (fX6_letArrive N [.ref 0, .int v2] (gS (rg 7 20) I)) (rg 7 20) I fun I4 => hX6_passSlot_2 N n2 (v2 + 1) I4) := rfl
theorem eX6_passSlot_2z (N : Nat) (v2 : Int32) (I : gM) : hX6_passSlot_2 N 0 v2 I = none := rfl
theorem eX6_passSlot (N : Nat) (I : gM) : fX6_passSlot N [.ref 0, .ref 7] I = hX6_passSlot_0 N I := rfl

def hX6_passSlots_0 (N : Nat) (v2 : Int32) (I : gM) : gO := fX6_passSlots_k0 N [some (.ref 0), some (.ref 7), some (.int v2), none] [] I
def hX6_passSlots_2 (N : Nat) (n2 : Nat) (v2 : Int32) (v3 : Int32) (I : gM) : gO := s_lp (fX6_passSlots_b2 N) n2 [some (.ref 0), some (.ref 7), some (.int v2), some (.int v3)] [] I
theorem eX6_passSlots_0 (N : Nat) (v2 : Int32) (I : gM) : hX6_passSlots_0 N v2 I =
  hX6_passSlots_2 N N v2 0 I := rfl
theorem eX6_passSlots_2 (N : Nat) (n2 : Nat) (v2 : Int32) (v3 : Int32) (I : gM) : hX6_passSlots_2 N (n2 + 1) v2 v3 I =
  if gc_ge v3 v2 = true then (some (.inl none, I)) else (hV (fX6_passSlot N [.ref 0, .ref 7] (gS (rg 0 27) I)) (rg 0 27) I fun I1 => hX6_passSlots_2 N n2 v2 (v3 + 1) I1) := rfl
theorem eX6_passSlots_2z (N : Nat) (v2 : Int32) (v3 : Int32) (I : gM) : hX6_passSlots_2 N 0 v2 v3 I = none := rfl
theorem eX6_passSlots (N : Nat) (v2 : Int32) (I : gM) : fX6_passSlots N [.ref 0, .ref 7, .int v2] I = hX6_passSlots_0 N v2 I := rfl

def hX1_remember_0 (N : Nat) (I : gM) : gO := fX1_remember_k0 N [some (.ref 0), some (.ref 122), none, none] [] I
def hX1_remember_56 (N : Nat) (I : gM) : gO := fX1_remember_k56 N [some (.ref 0), some (.ref 122), none, none] [] I
def hX1_remember_18 (N : Nat) (n18 : Nat) (p2 : Nat) (v3 : Int32) (I : gM) : gO := s_lp (fX1_remember_b18 N) n18 [some (.ref 0), some (.ref 122), some (.ref p2), some (.int v3)] [] I
theorem eX1_remember_0 (N : Nat) (I : gM) : hX1_remember_0 N I =
  if gc_lt (I 0 1) 6 = true then (hX1_remember_56 N I) else (if 0 < 0 ∨ 6 ≤ (0 : Int32).toNatClampNeg then none else hQ [2, 22, 42, 62, 82, 102] (I 1 (nn 0)) fun q101 => hX1_remember_18 N N q101 1 I) := rfl
theorem eX1_remember_56 (N : Nat) (I : gM) : hX1_remember_56 N I =
  if (I 0 1) < 0 ∨ 6 ≤ ((I 0 1)).toNatClampNeg then none else hQ [2, 22, 42, 62, 82, 102] (I 1 ((nn (I 0 1)))) fun q102 => hD q102 [(2, hV (fX7_copyFrom N [.ref 0, .ref 20] (gS (rg 2 20 ++ rg 122 20) I)) (rg 2 20 ++ rg 122 20) I fun I3 => some (.inl none, (gU I3 0 1 (((I3 0 1) + 1))))), (22, hV (fX7_copyFrom N [.ref 0, .ref 20] (gS (rg 22 20 ++ rg 122 20) I)) (rg 22 20 ++ rg 122 20) I fun I4 => some (.inl none, (gU I4 0 1 (((I4 0 1) + 1))))), (42, hV (fX7_copyFrom N [.ref 0, .ref 20] (gS (rg 42 20 ++ rg 122 20) I)) (rg 42 20 ++ rg 122 20) I fun I5 => some (.inl none, (gU I5 0 1 (((I5 0 1) + 1))))), (62, hV (fX7_copyFrom N [.ref 0, .ref 20] (gS (rg 62 20 ++ rg 122 20) I)) (rg 62 20 ++ rg 122 20) I fun I6 => some (.inl none, (gU I6 0 1 (((I6 0 1) + 1))))), (82, hV (fX7_copyFrom N [.ref 0, .ref 20] (gS (rg 82 20 ++ rg 122 20) I)) (rg 82 20 ++ rg 122 20) I fun I7 => some (.inl none, (gU I7 0 1 (((I7 0 1) + 1))))), (102, hV (fX7_copyFrom N [.ref 0, .ref 20] (gS (rg 102 40) I)) (rg 102 40) I fun I8 => some (.inl none, (gU I8 0 1 (((I8 0 1) + 1)))))] := rfl
theorem eX1_remember_18 (N : Nat) (n18 : Nat) (p2 : Nat) (v3 : Int32) (I : gM) : hX1_remember_18 N (n18 + 1) p2 v3 I =
  if gc_ge v3 6 = true then (s_qst gyH (fun _ _ J9 => hX1_remember_56 N (gU J9 0 1 5)) [] [.ref p2, .int 5, .ref 1] I) else (if v3 < 0 ∨ 6 ≤ (v3).toNatClampNeg then none else hQ [2, 22, 42, 62, 82, 102] (I 1 (nn v3)) fun q110 => s_qst gyH (fun _ _ J11 => hX1_remember_18 N n18 p2 (v3 + 1) J11) [] [.ref q110, .int (v3 - 1), .ref 1] I) := rfl
theorem eX1_remember_18z (N : Nat) (p2 : Nat) (v3 : Int32) (I : gM) : hX1_remember_18 N 0 p2 v3 I = none := rfl
theorem eX1_remember (N : Nat) (I : gM) : fX1_remember N [.ref 0, .ref 122] I = hX1_remember_0 N I := rfl

def hX1_takeBack_0 (N : Nat) (I : gM) : gO := fX1_takeBack_k0 N [some (.ref 0), some (.ref 122)] [] I
theorem eX1_takeBack_0 (N : Nat) (I : gM) : hX1_takeBack_0 N I =
  if gz_le (I 0 1) = true then (some (.inl none, I)) else (if ((I 0 1) - 1) < 0 ∨ 6 ≤ (((I 0 1) - 1)).toNatClampNeg then none else hQ [2, 22, 42, 62, 82, 102] (I 1 ((nn (((I 0 1) - 1))))) fun q101 => hD q101 [(2, hV (fX7_copyFrom N [.ref 0, .ref 20] (gS (rg 122 20 ++ rg 2 20) (gU I 0 1 (((I 0 1) - 1))))) (rg 122 20 ++ rg 2 20) (gU I 0 1 (((I 0 1) - 1))) fun I2 => some (.inl none, I2)), (22, hV (fX7_copyFrom N [.ref 0, .ref 20] (gS (rg 122 20 ++ rg 22 20) (gU I 0 1 (((I 0 1) - 1))))) (rg 122 20 ++ rg 22 20) (gU I 0 1 (((I 0 1) - 1))) fun I3 => some (.inl none, I3)), (42, hV (fX7_copyFrom N [.ref 0, .ref 20] (gS (rg 122 20 ++ rg 42 20) (gU I 0 1 (((I 0 1) - 1))))) (rg 122 20 ++ rg 42 20) (gU I 0 1 (((I 0 1) - 1))) fun I4 => some (.inl none, I4)), (62, hV (fX7_copyFrom N [.ref 0, .ref 20] (gS (rg 122 20 ++ rg 62 20) (gU I 0 1 (((I 0 1) - 1))))) (rg 122 20 ++ rg 62 20) (gU I 0 1 (((I 0 1) - 1))) fun I5 => some (.inl none, I5)), (82, hV (fX7_copyFrom N [.ref 0, .ref 20] (gS (rg 122 20 ++ rg 82 20) (gU I 0 1 (((I 0 1) - 1))))) (rg 122 20 ++ rg 82 20) (gU I 0 1 (((I 0 1) - 1))) fun I6 => some (.inl none, I6)), (102, hV (fX7_copyFrom N [.ref 0, .ref 20] (gS (rg 122 20 ++ rg 102 20) (gU I 0 1 (((I 0 1) - 1))))) (rg 122 20 ++ rg 102 20) (gU I 0 1 (((I 0 1) - 1))) fun I7 => some (.inl none, I7))]) := rfl
theorem eX1_takeBack (N : Nat) (I : gM) : fX1_takeBack N [.ref 0, .ref 122] I = hX1_takeBack_0 N I := rfl

