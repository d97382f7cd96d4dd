/-! ===== the same functions, read straight: no stack, no locals ===== -/
abbrev gO : Type := Option (gR × gM)
/-- a callee's world in the caller's -/
def gS (ρ : List Nat) (I : gM) : gM := fun j => I (gr ρ j)
def rg : Nat → Nat → List Nat
  | _, 0 => []
  | b, n + 1 => b :: rg (b + 1) n
/-- an index into a row of n -/
def ck (n : Nat) (i : Int32) (X : gO) : gO := if i < 0 ∨ n ≤ i.toNatClampNeg then none else X
def hI (o : gO) (ρ : List Nat) (I : gM) (k : Int32 → gM → gO) : gO := match o with
  | some (.inl (some (.int x)), J) => k x (gMg ρ I J)
  | _ => none
def hV (o : gO) (ρ : List Nat) (I : gM) (k : gM → gO) : gO := match o with
  | some (.inl none, J) => k (gMg ρ I J)
  | _ => none
def hJ (o : gO) (ρ : List Nat) (I : gM) (k : Int64 → gM → gO) : gO := match o with
  | some (.inl (some (.long x)), J) => k x (gMg ρ I J)
  | _ => none
def hXI (o : gO) (ρ : List Nat) (I : gM) (k : Int32 → gM → gO) : gO := match o with
  | some (.inl (some (.int x)), J) => k x (gMg ρ I J)
  | some (.inr En, J) => some (.inr En, gMg ρ I J)
  | _ => none
def hXV (o : gO) (ρ : List Nat) (I : gM) (k : gM → gO) : gO := match o with
  | some (.inl none, J) => k (gMg ρ I J)
  | some (.inr En, J) => some (.inr En, gMg ρ I J)
  | _ => none
def hXJ (o : gO) (ρ : List Nat) (I : gM) (k : Int64 → gM → gO) : gO := match o with
  | some (.inl (some (.long x)), J) => k x (gMg ρ I J)
  | some (.inr En, J) => some (.inr En, gMg ρ I J)
  | _ => none
abbrev gGy : Type := List Nat → gK → List (Option Value) → List Value → gM → gO → gO
def gI : gGy := fun ρ k L t I o => hI o ρ I (fun x J => k L (.int x :: t) J)
def gV : gGy := fun ρ k L t I o => hV o ρ I (fun J => k L t J)
def gJ : gGy := fun ρ k L t I o => hJ o ρ I (fun x J => k L (.long x :: t) J)
def gXI : gGy := fun ρ k L t I o => hXI o ρ I (fun x J => k L (.int x :: t) J)
def gXV : gGy := fun ρ k L t I o => hXV o ρ I (fun J => k L t J)
def gXJ : gGy := fun ρ k L t I o => hXJ o ρ I (fun x J => k L (.long x :: t) J)
theorem gI_sub : ∀ (ρ : List Nat) (k : gK) (L : List (Option Value)) (t : List Value) (I : gM) (o : gO) (z : gR × gM), gI ρ k L t I o = some z → gGo ρ k L t I o = some z := by
  intro ρ k L t I o z h
  unfold gI hI at h
  split at h
  · exact h
  · cases h
theorem gV_sub : ∀ (ρ : List Nat) (k : gK) (L : List (Option Value)) (t : List Value) (I : gM) (o : gO) (z : gR × gM), gV ρ k L t I o = some z → gGo ρ k L t I o = some z := by
  intro ρ k L t I o z h
  unfold gV hV at h
  split at h
  · exact h
  · cases h
theorem gJ_sub : ∀ (ρ : List Nat) (k : gK) (L : List (Option Value)) (t : List Value) (I : gM) (o : gO) (z : gR × gM), gJ ρ k L t I o = some z → gGo ρ k L t I o = some z := by
  intro ρ k L t I o z h
  unfold gJ hJ at h
  split at h
  · exact h
  · cases h
theorem gXI_sub : ∀ (ρ : List Nat) (k : gK) (L : List (Option Value)) (t : List Value) (I : gM) (o : gO) (z : gR × gM), gXI ρ k L t I o = some z → gGoX ρ k L t I o = some z := by
  intro ρ k L t I o z h
  unfold gXI hXI at h
  split at h
  · exact h
  · exact h
  · cases h
theorem gXV_sub : ∀ (ρ : List Nat) (k : gK) (L : List (Option Value)) (t : List Value) (I : gM) (o : gO) (z : gR × gM), gXV ρ k L t I o = some z → gGoX ρ k L t I o = some z := by
  intro ρ k L t I o z h
  unfold gXV hXV at h
  split at h
  · exact h
  · exact h
  · cases h
theorem gXJ_sub : ∀ (ρ : List Nat) (k : gK) (L : List (Option Value)) (t : List Value) (I : gM) (o : gO) (z : gR × gM), gXJ ρ k L t I o = some z → gGoX ρ k L t I o = some z := by
  intro ρ k L t I o z h
  unfold gXJ hXJ at h
  split at h
  · exact h
  · exact h
  · cases h
def s_ca (g : gGy) (f : List Value → gM → gO) (n : Nat) (ρ : List Nat) (k : gK) : gK := fun L st I =>
  if ((st.drop n).map Value.category).sum ≤ 8 ∧ n ≤ st.length then match gBk ρ (st.take n).reverse with
    | some av => g ρ k L (st.drop n) I (f av (gS ρ I))
    | none => none
  else none
def s_cav (g : gGy) (f : List Value → gM → gO) (n : Nat) (ρ : List Nat) (k : gK) : gK := fun L st I =>
  if ((st.drop n).map Value.category).sum ≤ 8 ∧ n ≤ st.length then match gBk ρ (st.take n).reverse with
    | some (.ref 0 :: av) => g ρ k L (st.drop n) I (f (.ref 0 :: av) (gS ρ I))
    | _ => none
  else none
def s_cae (g : gGy) (f : List Value → gM → gO) (n : Nat) (k : gK) : gK := fun L st I =>
  if ((st.drop n).map Value.category).sum ≤ 8 ∧ n ≤ st.length then match gBk [] (st.take n).reverse with
    | some (.ref q :: av) => if gRng 1000 1026 q then g [] k L (st.drop n) I (f (.ref q :: av) (gS [] I)) else none
    | _ => none
  else none
theorem ca_sub {g : gGy} (hg : ∀ (ρ : List Nat) (k : gK) (L : List (Option Value)) (t : List Value) (I : gM) (o : gO) (z : gR × gM), g ρ k L t I o = some z → gGo ρ k L t I o = some z) {f : List Value → gM → gO} {n : Nat} {ρ : List Nat} {k : gK} : ∀ (L : List (Option Value)) (st : List Value) (I : gM) (z : gR × gM), s_ca g f n ρ k L st I = some z → s_call f n ρ k L st I = some z := by
  intro L st I z h
  unfold s_ca at h
  unfold s_call
  split at h
  · rename_i hc
    rw [if_pos hc]
    split at h
    · rename_i heq
      simp only [heq]
      exact hg _ _ _ _ _ _ _ h
    · cases h
  · cases h
theorem cav_sub {g : gGy} (hg : ∀ (ρ : List Nat) (k : gK) (L : List (Option Value)) (t : List Value) (I : gM) (o : gO) (z : gR × gM), g ρ k L t I o = some z → gGo ρ k L t I o = some z) {f : List Value → gM → gO} {n : Nat} {ρ : List Nat} {k : gK} : ∀ (L : List (Option Value)) (st : List Value) (I : gM) (z : gR × gM), s_cav g f n ρ k L st I = some z → s_callv f n ρ k L st I = some z := by
  intro L st I z h
  unfold s_cav at h
  unfold s_callv
  split at h
  · rename_i hc
    rw [if_pos hc]
    split at h
    · rename_i heq
      simp only [heq]
      exact hg _ _ _ _ _ _ _ h
    · cases h
  · cases h
theorem xca_sub {g : gGy} (hg : ∀ (ρ : List Nat) (k : gK) (L : List (Option Value)) (t : List Value) (I : gM) (o : gO) (z : gR × gM), g ρ k L t I o = some z → gGoX ρ k L t I o = some z) {f : List Value → gM → gO} {n : Nat} {ρ : List Nat} {k : gK} : ∀ (L : List (Option Value)) (st : List Value) (I : gM) (z : gR × gM), s_ca g f n ρ k L st I = some z → s_xcall f n ρ k L st I = some z := by
  intro L st I z h
  unfold s_ca at h
  unfold s_xcall
  split at h
  · rename_i hc
    rw [if_pos hc]
    split at h
    · rename_i heq
      simp only [heq]
      exact hg _ _ _ _ _ _ _ h
    · cases h
  · cases h
theorem xcav_sub {g : gGy} (hg : ∀ (ρ : List Nat) (k : gK) (L : List (Option Value)) (t : List Value) (I : gM) (o : gO) (z : gR × gM), g ρ k L t I o = some z → gGoX ρ k L t I o = some z) {f : List Value → gM → gO} {n : Nat} {ρ : List Nat} {k : gK} : ∀ (L : List (Option Value)) (st : List Value) (I : gM) (z : gR × gM), s_cav g f n ρ k L st I = some z → s_xcallv f n ρ k L st I = some z := by
  intro L st I z h
  unfold s_cav at h
  unfold s_xcallv
  split at h
  · rename_i hc
    rw [if_pos hc]
    split at h
    · rename_i heq
      simp only [heq]
      exact hg _ _ _ _ _ _ _ h
    · cases h
  · cases h
theorem cae_sub {g : gGy} (hg : ∀ (ρ : List Nat) (k : gK) (L : List (Option Value)) (t : List Value) (I : gM) (o : gO) (z : gR × gM), g ρ k L t I o = some z → gGo ρ k L t I o = some z) {f : List Value → gM → gO} {n : Nat} {k : gK} : ∀ (L : List (Option Value)) (st : List Value) (I : gM) (z : gR × gM), s_cae g f n k L st I = some z → s_calle f n k L st I = some z := by
  intro L st I z h
  unfold s_cae at h
  unfold s_calle
  split at h
  · rename_i hc
    rw [if_pos hc]
    split at h
    · rename_i heq
      simp only [heq]
      split at h
      · rename_i hq
        rw [if_pos hq]
        exact hg _ _ _ _ _ _ _ h
      · cases h
    · cases h
  · cases h
theorem sm_mono {γ : gG} {cs ss pc : Nat} {k k' : gK} (hs : ∀ (L : List (Option Value)) (st : List Value) (I : gM) (z : gR × gM), k' L st I = some z → k L st I = some z) (h : gSm γ cs ss pc k) : gSm γ cs ss pc k' := by
  obtain ⟨⟨p, l, e, R, s, m, args, below, meth, c, Q⟩, A, D, cA, ad, lay, fin, cc, own, E, n0, ra⟩ := γ
  intro L st I H locs ls hl hn hP hS hk hcs hss
  exact h L st I H locs ls hl hn hP hS (hs _ _ _ _ hk) hcs hss
/-! tables and places that are known only when it runs -/
def hT (x : Int32) (lo hi : Int) (d : gO) (bs : List gO) : gO := if x.toInt < lo ∨ hi < x.toInt then d else match bs[(x.toInt - lo).toNat]? with
  | some b => b
  | none => none
def s_tab (lo hi : Int) (kd : gK) (ks : List gK) : gK := fun L st I => match st with
  | .int x :: t => hT x lo hi (kd L t I) (ks.map (fun k => k L t I))
  | _ => none
theorem tab_sub {lo hi : Int} {kd : gK} {ks : List gK} : ∀ (L : List (Option Value)) (st : List Value) (I : gM) (z : gR × gM), s_tab lo hi kd ks L st I = some z → s_table lo hi kd ks L st I = some z := by
  intro L st I z h
  unfold s_tab at h
  unfold s_table
  split at h
  · unfold hT at h
    split at h
    · rename_i hc
      simp only [if_pos hc]
      exact h
    · rename_i hc
      simp only [if_neg hc]
      rw [List.getElem?_map] at h
      cases hk : ks[(_ - lo).toNat]? with
      | none => rw [hk] at h; cases h
      | some k => rw [hk] at h; exact h
  · cases h
def hD (q : Nat) (tbl : List (Nat × gO)) : gO := match tbl.lookup q with
  | some b => b
  | none => none
def s_dy (d : Nat) (tbl : List (Nat × gK)) : gK := fun L st I => match st[d]? with
  | some (.ref q) => hD q (tbl.map (fun x => (x.1, x.2 L (st.set d (.ref x.1)) I)))
  | _ => none
theorem hD_map {q : Nat} {F : Nat → gK → gO} {z : gR × gM} : ∀ tbl : List (Nat × gK), hD q (tbl.map (fun x => (x.1, F x.1 x.2))) = some z → ∃ k, tbl.lookup q = some k ∧ F q k = some z
  | [], h => by cases h
  | (a, k) :: t, h => by
    unfold hD at h
    rw [List.map_cons, List.lookup_cons] at h
    by_cases e : q = a
    · subst e
      simp only [beq_self_eq_true] at h
      exact ⟨k, by rw [List.lookup_cons, beq_self_eq_true], h⟩
    · have e2 : (q == a) = false := beq_eq_false_iff_ne.mpr e
      rw [e2] at h
      obtain ⟨k2, h1, h2⟩ := hD_map t h
      exact ⟨k2, by rw [List.lookup_cons, e2]; exact h1, h2⟩
theorem dy_sub {d : Nat} {tbl : List (Nat × gK)} : ∀ (L : List (Option Value)) (st : List Value) (I : gM) (z : gR × gM), s_dy d tbl L st I = some z → s_dyn d tbl L st I = some z := by
  intro L st I z h
  unfold s_dy at h
  unfold s_dyn
  split at h
  · rename_i q hq
    obtain ⟨k, h1, h2⟩ := hD_map (F := fun a k => k L (st.set d (.ref a)) I) tbl h
    simp only [hq, h1]
    have e : st.set d (.ref q) = st := by
      obtain ⟨hl, e1⟩ := List.getElem?_eq_some_iff.mp hq
      rw [← e1]
      exact List.set_getElem_self hl
    have h3 : k L (st.set d (.ref q)) I = some z := h2
    rw [e] at h3
    exact h3
  · cases h
