/-! ===== the law: a call of both sides, from its own place ===== -/
def RO : List Nat := rg 0 204 ++ [222]
section TLK
variable {k : gK} {L : List (Option Value)} {st t : List Value} {I : gM} {r : gO}
theorem tl_arg {SL i j : Nat} {SX : Nat → Int32} {c : Int32} (h0 : L[0]? = some (some (.ref 1400))) (h4 : L[4]? = some (some (.int (nI i)))) (hc : c = nI j) (hi : i + j < SL) (hs : SL ≤ 3072) (e : k L (.int (SX (i + j)) :: st) I = r) : (s_aload 0 <| s_iload 4 <| s_const c <| s_bin gb_add <| s_sld SL SX <| k) L st I = r := by
  subst hc
  refine tt_aload h0 ?_
  refine tt_iload h4 ?_
  refine tt_const ?_
  refine tt_bin ?_
  have ea : gb_add (nI i) (nI j) = nI (i + j) := nI_add _ _
  rw [ea]
  have hn : (nI (i + j)).toNatClampNeg = i + j := nI_clamp (by omega)
  refine (tt_sld (k := k) (r := r) (by rw [hn]; exact e)).trans ?_
  rw [hn, if_neg (fun z => by
    rcases z with z | z
    · exact nI_pos (by omega) z
    · omega)]
theorem tl_ca {f : List Value → gM → gO} {n : Nat} {ρ ρ2 : List Nat} {av : List Value} {x : Int32} {D : gM} (h1 : ((st.drop n).map Value.category).sum ≤ 8 ∧ n ≤ st.length) (h2 : gBk ρ2 (st.take n).reverse = some av) (hd : st.drop n = t) (hρ : ρ = ρ2) (hf : f av (gS ρ2 I) = some (.inl (some (.int x)), D)) (e : k L (.int x :: t) (gMg ρ2 I D) = r) : s_ca gI f n ρ k L st I = r := by
  subst hρ
  unfold s_ca
  rw [if_pos h1, h2]
  show gI ρ k L (st.drop n) I (f av (gS ρ I)) = r
  rw [hf, hd]
  exact e
theorem tl_cav {f : List Value → gM → gO} {n : Nat} {ρ ρ2 : List Nat} {av : List Value} {x : Int32} {D : gM} (h1 : ((st.drop n).map Value.category).sum ≤ 8 ∧ n ≤ st.length) (h2 : gBk ρ2 (st.take n).reverse = some (.ref 0 :: av)) (hd : st.drop n = t) (hρ : ρ = ρ2) (hf : f (.ref 0 :: av) (gS ρ2 I) = some (.inl (some (.int x)), D)) (e : k L (.int x :: t) (gMg ρ2 I D) = r) : s_cav gI f n ρ k L st I = r := by
  subst hρ
  unfold s_cav
  rw [if_pos h1, h2]
  show gI ρ k L (st.drop n) I (f (.ref 0 :: av) (gS ρ I)) = r
  rw [hf, hd]
  exact e
theorem tl_cavJ {f : List Value → gM → gO} {n : Nat} {ρ ρ2 : List Nat} {av : List Value} {x : Int64} {D : gM} (h1 : ((st.drop n).map Value.category).sum ≤ 8 ∧ n ≤ st.length) (h2 : gBk ρ2 (st.take n).reverse = some (.ref 0 :: av)) (hd : st.drop n = t) (hρ : ρ = ρ2) (hf : f (.ref 0 :: av) (gS ρ2 I) = some (.inl (some (.long x)), D)) (e : k L (.long x :: t) (gMg ρ2 I D) = r) : s_cav gJ f n ρ k L st I = r := by
  subst hρ
  unfold s_cav
  rw [if_pos h1, h2]
  show gJ ρ k L (st.drop n) I (f (.ref 0 :: av) (gS ρ I)) = r
  rw [hf, hd]
  exact e
theorem tl_if01 {x : Int32} (e : k L (.int (b2 (decide (x ≠ 0))) :: t) I = r) : s_if gz_eq (s_const 0 k) (s_const 1 k) L (.int x :: t) I = r := by
  show (if gz_eq x = true then k L (.int 0 :: t) I else k L (.int 1 :: t) I) = r
  by_cases h : x = 0
  · rw [if_pos (decide_eq_true h)]
    rw [decide_eq_false (fun z => z h)] at e
    exact e
  · rw [if_neg (fun z => h (of_decide_eq_true z))]
    rw [decide_eq_true h] at e
    exact e
def bl (x : Int32) : Int64 := if x = 0 then 0 else 1
theorem tl_ifl {x : Int32} (e : k L (.long (bl x) :: t) I = r) : s_if gz_eq (s_lconst 0 k) (s_lconst 1 k) L (.int x :: t) I = r := by
  show (if gz_eq x = true then k L (.long 0 :: t) I else k L (.long 1 :: t) I) = r
  unfold bl at e
  by_cases h : x = 0
  · rw [if_pos (decide_eq_true h)]
    rw [if_pos h] at e
    exact e
  · rw [if_neg (fun z => h (of_decide_eq_true z))]
    rw [if_neg h] at e
    exact e
end TLK
/-- what a helper of the law and the reference then answer; the answer is put down as cv has it -/
def HQ (cv : Int32 → Int64) (a : AB) (oh : gO) (om : gM → gO) : Prop := ∃ kk D, oh = some (.inl (some (.int kk)), D) ∧ ∀ M', INm M' a → ∃ w E a', om M' = some (.inl (some (.int w)), E) ∧ E 0 0 = kk ∧ (kk = 0 → D 204 0 = gLo (cv w) ∧ D 204 1 = gHi (cv w)) ∧ INc D a' ∧ INm E a' ∧ INw a'
def HQJ (a : AB) (oh : gO) (om : gM → gO) : Prop := ∃ kk D, oh = some (.inl (some (.int kk)), D) ∧ ∀ M', INm M' a → ∃ w E a', om M' = some (.inl (some (.long w)), E) ∧ E 0 0 = kk ∧ (kk = 0 → D 204 0 = gLo w ∧ D 204 1 = gHi w) ∧ INc D a' ∧ INm E a' ∧ INw a'
theorem INc.up {I D : gM} {a : AB} (h : INc I a) (e : ∀ k, k < 204 → D k = I k) : INc D a := h.congr (by rw [e 0 (by decide)]) (fun k _ hk => e k (by omega)) (by rw [e 183 (by decide)])
def putL (J : gM) (x : Int64) : gM := gU (gU J 204 0 (gLo x)) 204 1 (gHi x)
theorem putL_o {J : gM} {x : Int64} {k : Nat} (hk : k < 204) : putL J x k = J k := by
  unfold putL
  rw [gU_ok (by omega), gU_ok (by omega)]
theorem putL_r {J : gM} {x : Int64} : putL J x 204 0 = gLo x ∧ putL J x 204 1 = gHi x := by
  unfold putL
  exact ⟨by rw [gU_un (Or.inr (by decide)), gU_us], gU_us⟩
theorem m204 {M I : gM} {k : Nat} (hk : k < 204) : gMg (rg 0 204) M I k = I k := by
  have e := gMg_rgi (b := 0) (n := 204) (I := M) (J := I) hk
  rwa [Nat.zero_add] at e
theorem kk_ne {i : Nat} (h : i < 3) : nI (i + 1) ≠ 0 := fun z => by
  have : i + 1 = 0 := (nI_eq (a := i + 1) (b := 0) (by omega) (by decide)).mp z
  omega
theorem hq_of {exs : List String} {hs : List (String × Int32)} {cv : Int32 → Int64} {a : AB} {oc : gO} {om : gM → gO} {M M0 : gM} (hl : exs.length ≤ 3) (hlk : ∀ (i : Nat) (En : String), exs[i]? = some En → hs.lookup En = some (nI (i + 1))) (h0 : INm M0 a) (hA : ∀ M', INm M' a → AG exs oc (om M')) : HQ cv a (hTI oc (rg 0 204) M hs (fun x J => some (.inl (some (.int 0)), putL J (cv x)))) om := by
  rcases hA M0 h0 with ⟨v, I', J', c1, c2, c3, c4⟩ | ⟨i, En, w0, I', J', c0, c1, c2, c3, c4⟩
  · refine ⟨0, putL (gMg (rg 0 204) M I') (cv v), by rw [c1]; rfl, fun M' hM' => ?_⟩
    rcases hA M' hM' with ⟨v2, I2, J2, d1, d2, d3, a', d4⟩ | ⟨i, En, w0, I2, J2, d0, d1, d2, d3, d4⟩
    · rw [c1] at d1
      cases d1
      exact ⟨v, J2, a', d2, d3, fun _ => putL_r, d4.1.up (fun k hk => by rw [putL_o hk, m204 hk]), d4.2.1, d4.2.2⟩
    · rw [c1] at d1; cases d1
  · have hi : i < 3 := by have := (List.getElem?_eq_some_iff.mp c0).1; omega
    have hk := hlk i En c0
    refine ⟨nI (i + 1), gMg (rg 0 204) M I', ?_, fun M' hM' => ?_⟩
    · rw [c1]
      show (match hs.lookup En with
        | some cv => (some (.inl (some (.int cv)), gMg (rg 0 204) M I') : gO)
        | none => none) = _
      rw [hk]
    · rcases hA M' hM' with ⟨v2, I2, J2, d1, d2, d3, a', d4⟩ | ⟨i2, En2, w2, I2, J2, d0, d1, d2, d3, a', d4⟩
      · rw [c1] at d1; cases d1
      · rw [c1] at d1
        cases d1
        have hk2 := hlk i2 En d0
        have e : nI (i2 + 1) = nI (i + 1) := Option.some.inj (hk2.symm.trans hk)
        exact ⟨w2, J2, a', d2, d3.trans e, fun z => absurd z (kk_ne hi), d4.1.up (fun k hk => m204 hk), d4.2.1, d4.2.2⟩
theorem hqj_of {exs : List String} {hs : List (String × Int32)} {a : AB} {oc : gO} {om : gM → gO} {M M0 : gM} (hl : exs.length ≤ 3) (hlk : ∀ (i : Nat) (En : String), exs[i]? = some En → hs.lookup En = some (nI (i + 1))) (h0 : INm M0 a) (hA : ∀ M', INm M' a → AGJ exs oc (om M')) : HQJ a (hTJ oc (rg 0 204) M hs (fun x J => some (.inl (some (.int 0)), putL J x))) om := by
  rcases hA M0 h0 with ⟨v, I', J', c1, c2, c3, c4⟩ | ⟨i, En, w0, I', J', c0, c1, c2, c3, c4⟩
  · refine ⟨0, putL (gMg (rg 0 204) M I') v, by rw [c1]; rfl, fun M' hM' => ?_⟩
    rcases hA M' hM' with ⟨v2, I2, J2, d1, d2, d3, a', d4⟩ | ⟨i, En, w0, I2, J2, d0, d1, d2, d3, d4⟩
    · rw [c1] at d1
      cases d1
      exact ⟨v, J2, a', d2, d3, fun _ => putL_r, d4.1.up (fun k hk => by rw [putL_o hk, m204 hk]), d4.2.1, d4.2.2⟩
    · rw [c1] at d1; cases d1
  · have hi : i < 3 := by have := (List.getElem?_eq_some_iff.mp c0).1; omega
    have hk := hlk i En c0
    refine ⟨nI (i + 1), gMg (rg 0 204) M I', ?_, fun M' hM' => ?_⟩
    · rw [c1]
      show (match hs.lookup En with
        | some cv => (some (.inl (some (.int cv)), gMg (rg 0 204) M I') : gO)
        | none => none) = _
      rw [hk]
    · rcases hA M' hM' with ⟨v2, I2, J2, d1, d2, d3, a', d4⟩ | ⟨i2, En2, w2, I2, J2, d0, d1, d2, d3, a', d4⟩
      · rw [c1] at d1; cases d1
      · rw [c1] at d1
        cases d1
        have hk2 := hlk i2 En d0
        have e : nI (i2 + 1) = nI (i + 1) := Option.some.inj (hk2.symm.trans hk)
        exact ⟨w2, J2, a', d2, d3.trans e, fun z => absurd z (kk_ne hi), d4.1.up (fun k hk => m204 hk), d4.2.1, d4.2.2⟩
/-- where nothing is thrown -/
theorem nq_of {a : AB} {oc : gO} {om : gM → gO} {M0 : gM} (h0 : INm M0 a) (hA : ∀ M', INm M' a → AG [] oc (om M')) : ∃ v D, oc = some (.inl (some (.int v)), D) ∧ ∀ M', INm M' a → ∃ E a', om M' = some (.inl (some (.int v)), E) ∧ INc D a' ∧ INm E a' ∧ INw a' := by
  rcases hA M0 h0 with ⟨v, I', J', c1, c2, c3, c4⟩ | ⟨i, En, w0, I', J', c0, c1, c2, c3, c4⟩
  · refine ⟨v, I', c1, fun M' hM' => ?_⟩
    rcases hA M' hM' with ⟨v2, I2, J2, d1, d2, d3, a', d4⟩ | ⟨i, En, w0, I2, J2, d0, d1, d2, d3, d4⟩
    · rw [c1] at d1
      cases d1
      exact ⟨J2, a', d2, d4.1, d4.2.1, d4.2.2⟩
    · rw [c1] at d1; cases d1
  · cases c0
/-! the handlers' numbers -/
theorem lk_1 {e1 : String} : ∀ (i : Nat) (En : String), ([e1] : List String)[i]? = some En → ([(e1, 1)] : List (String × Int32)).lookup En = some (nI (i + 1))
  | 0, En, h => by cases h; simp [List.lookup]; rfl
  | i + 1, En, h => by cases h
theorem lk_2 {e1 e2 : String} (h12 : e2 ≠ e1) : ∀ (i : Nat) (En : String), ([e1, e2] : List String)[i]? = some En → ([(e1, 1), (e2, 2)] : List (String × Int32)).lookup En = some (nI (i + 1))
  | 0, En, h => by cases h; simp [List.lookup]; rfl
  | 1, En, h => by
    cases h
    have e : (e2 == e1) = false := beq_eq_false_iff_ne.mpr h12
    simp [List.lookup, e]; rfl
  | i + 2, En, h => by cases h
theorem lk_3 {e1 e2 e3 : String} (h12 : e2 ≠ e1) (h13 : e3 ≠ e1) (h23 : e3 ≠ e2) : ∀ (i : Nat) (En : String), ([e1, e2, e3] : List String)[i]? = some En → ([(e1, 1), (e2, 2), (e3, 3)] : List (String × Int32)).lookup En = some (nI (i + 1))
  | 0, En, h => by cases h; simp [List.lookup]; rfl
  | 1, En, h => by
    cases h
    have e : (e2 == e1) = false := beq_eq_false_iff_ne.mpr h12
    simp [List.lookup, e]; rfl
  | 2, En, h => by
    cases h
    have e : (e3 == e1) = false := beq_eq_false_iff_ne.mpr h13
    have e' : (e3 == e2) = false := beq_eq_false_iff_ne.mpr h23
    simp [List.lookup, e, e']; rfl
  | i + 3, En, h => by cases h
/-! ===== the law's memory ===== -/
def QJ (J : gM) : Prop := ∃ a, INc J a ∧ INm (gS (rg 204 18) J) a ∧ INw a
theorem s18 {J : gM} {k : Nat} (hk : k < 18) : gS (rg 204 18) J k = J (204 + k) := gS_b hk (by decide)
theorem sRO {J : gM} {k : Nat} (hk : k < 204) : gS RO J k = J k := by
  have e : gS (rg 0 204 ++ [222]) J k = J (0 + k) := gS_at (by
    rw [List.getElem?_append_left (by rw [rg_len]; exact hk)]
    exact rg_get 204 0 k hk) (by omega)
  rw [Nat.zero_add] at e
  exact e
theorem RO_ix {p : Nat} : gIx RO p = if p < 204 then some p else if p = 222 then some 204 else none := by
  unfold RO
  rw [gIx_app, gIx_rg]
  by_cases h : p < 204
  · rw [if_pos (by omega), if_pos h, Nat.sub_zero]
  · rw [if_neg (by omega), if_neg h]
    by_cases h2 : p = 222
    · rw [if_pos h2, h2]; rfl
    · rw [if_neg h2]
      have : gIx [222] p = none := if_neg (fun z => h2 z.symm)
      rw [this]
theorem bk0 {t t2 : List Value} (ht : gBk RO t = some t2) : gBk RO (.ref 0 :: t) = some (.ref 0 :: t2) := gBk_c (by decide) (by rw [RO_ix]; rfl) (by decide) ht
theorem bkO {t t2 : List Value} (ht : gBk RO t = some t2) : gBk RO (.ref 222 :: t) = some (.ref 204 :: t2) := gBk_c (by decide) (by rw [RO_ix]; rfl) (by decide) ht
theorem bkC {t t2 : List Value} (ht : gBk (rg 0 204) t = some t2) : gBk (rg 0 204) (.ref 0 :: t) = some (.ref 0 :: t2) := gBk_c (by decide) (by rw [gIx_rg]; rfl) (by decide) ht
theorem bkM {t t2 : List Value} (ht : gBk (rg 204 18) t = some t2) : gBk (rg 204 18) (.ref 204 :: t) = some (.ref 0 :: t2) := gBk_c (by decide) (by rw [gIx_rg]; rfl) (by decide) ht
theorem mRO {J D : gM} {k : Nat} (hk : k < 204) : gMg RO J D k = D k := by
  unfold gMg
  rw [RO_ix, if_pos hk]
theorem mRO2 {J D : gM} : gMg RO J D 222 = D 204 := by
  unfold gMg
  rw [RO_ix, if_neg (by decide), if_pos rfl]
theorem mROo {J D : gM} {k : Nat} (hk : 204 ≤ k) (h2 : k ≠ 222) : gMg RO J D k = J k := by
  unfold gMg
  rw [RO_ix, if_neg (by omega), if_neg h2]
theorem m18a {J E : gM} {k : Nat} (hk : k < 18) : gMg (rg 204 18) J E (204 + k) = E k := gMg_rgi hk
theorem m18b {J E : gM} {k : Nat} (hk : k < 204 ∨ 222 ≤ k) : gMg (rg 204 18) J E k = J k := gMg_rgo (by omega)
theorem INm.at18 {J : gM} {M : gM} {a : AB} (h : INm M a) (e : ∀ k, k < 18 → J k = M k) : INm J a := h.congr (fun j _ => by rw [e 0 (by decide)]) (fun k hk => e k (by omega))
/-- the reference's place stands still while the class works -/
theorem QJ.mid {J D : gM} {a : AB} (h : INm (gS (rg 204 18) J) a) : INm (gS (rg 204 18) (gMg RO J D)) a := h.at18 (fun k hk => by rw [s18 hk, s18 hk, mROo (by omega) (by omega)])
theorem QJ.mid0 {J D : gM} {a : AB} (h : INm (gS (rg 204 18) J) a) : INm (gS (rg 204 18) (gMg (rg 0 204) J D)) a := h.at18 (fun k hk => by rw [s18 hk, s18 hk]; exact gMg_rgo (Or.inr (by omega)))
theorem QJ.end {J D E : gM} {a : AB} (hc : INc D a) (hm : INm E a) (hw : INw a) : QJ (gMg (rg 204 18) (gMg RO J D) E) := ⟨a, hc.up (fun k hk => by rw [m18b (Or.inl hk), mRO hk]), hm.at18 (fun k hk => by rw [s18 hk, m18a hk]), hw⟩
theorem QJ.end0 {J D E : gM} {a : AB} (hc : INc D a) (hm : INm E a) (hw : INw a) : QJ (gMg (rg 204 18) (gMg (rg 0 204) J D) E) := ⟨a, hc.up (fun k hk => by rw [m18b (Or.inl hk), m204 hk]), hm.at18 (fun k hk => by rw [s18 hk, m18a hk]), hw⟩
theorem QJ.out {J D E : gM} {j : Nat} : gMg (rg 204 18) (gMg RO J D) E 222 j = D 204 j := by rw [m18b (Or.inr (by decide)), mRO2]
theorem QJ.cls {J : gM} {a : AB} (h : INc J a) : INc (gS (rg 0 204) (gS RO J)) a := h.up (fun k hk => by rw [gS204 hk, sRO hk])
theorem QJ.cls0 {J : gM} {a : AB} (h : INc J a) : INc (gS (rg 0 204) J) a := h.up (fun k hk => gS204 hk)
theorem m18s (J : gM) : gMg (rg 204 18) J (gS (rg 204 18) J) = J := gMg_same J (by decide)
def Ls (i : Nat) : List (Option Value) := [some (.ref 1400), some (.ref 0), some (.ref 204), some (.ref 222), some (.int (nI i)), none, none, none]
def Lk (i : Nat) (kk : Int32) : List (Option Value) := [some (.ref 1400), some (.ref 0), some (.ref 204), some (.ref 222), some (.int (nI i)), some (.int kk), none, none]
def Lw (i : Nat) (kk w : Int32) : List (Option Value) := [some (.ref 1400), some (.ref 0), some (.ref 204), some (.ref 222), some (.int (nI i)), some (.int kk), some (.int w), none]
def Lx (i : Nat) (kk : Int32) (w : Int64) : List (Option Value) := [some (.ref 1400), some (.ref 0), some (.ref 204), some (.ref 222), some (.int (nI i)), some (.int kk), some (.long w), none]
theorem tl_back {N SL i : Nat} {SX : Nat → Int32} {K23 : gK} {J : gM} : fL_law_k2794 N SL SX K23 (Ls i) [] J = K23 (Ls (i + 6)) [] J := by
  unfold fL_law_k2794
  have e6 : nI i + 6 = nI (i + 6) := nI_add i 6
  refine tt_iinc (L2 := Ls (i + 6)) (x := nI i) rfl ?_ ?_
  · rw [e6]; rfl
  · exact tt_mask rfl rfl
/-- a step of the law's loop -/
def CSt (SL : Nat) (K23 : gK) (k : gK) : Prop := ∀ (i : Nat) (J : gM), i + 6 ≤ SL → QJ J → ∃ J', QJ J' ∧ k (Ls i) [] J = K23 (Ls (i + 6)) [] J'
theorem lg0 (x : Int64) : lg_cmp x x = 0 := (lg_cmp_eq x x).mpr rfl
theorem tl_int {i : Nat} {K23 kE : gK} {J : gM} {kk w : Int32} (hE : kE (Ls i) [] J = K23 (Ls (i + 6)) [] J) (ho : kk = 0 → J 222 0 = gLo w.toInt64 ∧ J 222 1 = gHi w.toInt64) : (s_iload 5 <| s_cmp gc_eq (s_iload 5 <| s_if gz_ne (s_mask [true, true, true, true, true, false, false, false] <| kE) (s_aload 3 <| s_const 0 <| s_lald gyL <| s_iload 6 <| s_i2l <| s_lcmp <| s_if gz_eq (s_mask [true, true, true, true, true, false, false, false] <| kE) (s_const 0 <| s_zret))) (s_const 0 <| s_zret)) (Lw i kk w) [.int kk] J = K23 (Ls (i + 6)) [] J := by
  refine tt_iload (x := kk) rfl ?_
  refine (tt_cmp rfl rfl).trans ?_
  rw [if_pos (c := gc_eq kk kk = true) (decide_eq_true rfl)]
  refine tt_iload (x := kk) rfl ?_
  refine (tt_if rfl rfl).trans ?_
  by_cases hk : kk = 0
  · obtain ⟨o0, o1⟩ := ho hk
    rw [if_neg (c := gz_ne kk = true) (fun z => absurd hk (of_decide_eq_true z))]
    refine tt_aload rfl ?_
    refine tt_const ?_
    refine (tt_lald (n := 1) (x := w.toInt64) rfl ?_ ?_ : _ = ck 1 0 (K23 (Ls (i + 6)) [] J)).trans ?_
    · rw [t_0]
      show gLg (J 222 0) (J 222 1) = _
      rw [o0, o1, gLg_halves]
    · refine tt_iload (x := w) rfl ?_
      refine tt_i2l ?_
      refine tt_lcmp ?_
      rw [lg0]
      refine (tt_if rfl rfl).trans ?_
      rw [if_pos (c := gz_eq 0 = true) (by decide)]
      exact tt_mask rfl hE
    · exact if_neg (by decide)
  · rw [if_pos (c := gz_ne kk = true) (decide_eq_true hk)]
    exact tt_mask rfl hE
theorem tl_long {i : Nat} {K23 kE : gK} {J : gM} {kk : Int32} {w : Int64} (hE : kE (Ls i) [] J = K23 (Ls (i + 6)) [] J) (ho : kk = 0 → J 222 0 = gLo w ∧ J 222 1 = gHi w) : (s_iload 5 <| s_cmp gc_eq (s_iload 5 <| s_if gz_ne (s_mask [true, true, true, true, true, false, false, false] <| kE) (s_aload 3 <| s_const 0 <| s_lald gyL <| s_lload 6 <| s_lcmp <| s_if gz_eq (s_mask [true, true, true, true, true, false, false, false] <| kE) (s_const 0 <| s_zret))) (s_const 0 <| s_zret)) (Lx i kk w) [.int kk] J = K23 (Ls (i + 6)) [] J := by
  refine tt_iload (x := kk) rfl ?_
  refine (tt_cmp rfl rfl).trans ?_
  rw [if_pos (c := gc_eq kk kk = true) (decide_eq_true rfl)]
  refine tt_iload (x := kk) rfl ?_
  refine (tt_if rfl rfl).trans ?_
  by_cases hk : kk = 0
  · obtain ⟨o0, o1⟩ := ho hk
    rw [if_neg (c := gz_ne kk = true) (fun z => absurd hk (of_decide_eq_true z))]
    refine tt_aload rfl ?_
    refine tt_const ?_
    refine (tt_lald (n := 1) (x := w) rfl ?_ ?_ : _ = ck 1 0 (K23 (Ls (i + 6)) [] J)).trans ?_
    · rw [t_0]
      show gLg (J 222 0) (J 222 1) = _
      rw [o0, o1, gLg_halves]
    · refine tt_lload (xl := w) rfl ?_
      refine tt_lcmp ?_
      rw [lg0]
      refine (tt_if rfl rfl).trans ?_
      rw [if_pos (c := gz_eq 0 = true) (by decide)]
      exact tt_mask rfl hE
    · exact if_neg (by decide)
  · rw [if_pos (c := gz_ne kk = true) (decide_eq_true hk)]
    exact tt_mask rfl hE
theorem tl_bool {i : Nat} {K23 kE kF : gK} {J : gM} {kk : Int32} {w : Int32} (hF : kF = (s_lcmp <| s_if gz_eq (s_mask [true, true, true, true, true, false, false, false] <| kE) (s_const 0 <| s_zret))) (hE : kE (Ls i) [] J = K23 (Ls (i + 6)) [] J) (ho : kk = 0 → J 222 0 = gLo (bl w) ∧ J 222 1 = gHi (bl w)) : (s_iload 5 <| s_cmp gc_eq (s_iload 5 <| s_if gz_ne (s_mask [true, true, true, true, true, false, false, false] <| kE) (s_aload 3 <| s_const 0 <| s_lald gyL <| s_iload 6 <| s_if gz_eq (s_lconst 0 <| s_mask [true, true, true, true, true, false, false, false] <| kF) (s_lconst 1 <| s_mask [true, true, true, true, true, false, false, false] <| kF))) (s_const 0 <| s_zret)) (Lw i kk w) [.int kk] J = K23 (Ls (i + 6)) [] J := by
  subst hF
  refine tt_iload (x := kk) rfl ?_
  refine (tt_cmp rfl rfl).trans ?_
  rw [if_pos (c := gc_eq kk kk = true) (decide_eq_true rfl)]
  refine tt_iload (x := kk) rfl ?_
  refine (tt_if rfl rfl).trans ?_
  by_cases hk : kk = 0
  · obtain ⟨o0, o1⟩ := ho hk
    rw [if_neg (c := gz_ne kk = true) (fun z => absurd hk (of_decide_eq_true z))]
    refine tt_aload rfl ?_
    refine tt_const ?_
    refine (tt_lald (n := 1) (x := bl w) rfl ?_ ?_ : _ = ck 1 0 (K23 (Ls (i + 6)) [] J)).trans ?_
    · rw [t_0]
      show gLg (J 222 0) (J 222 1) = _
      rw [o0, o1, gLg_halves]
    · refine tt_iload (x := w) rfl ?_
      refine tl_ifl ?_
      refine tt_mask (L2 := Ls i) rfl ?_
      refine tt_lcmp ?_
      rw [lg0]
      refine (tt_if rfl rfl).trans ?_
      rw [if_pos (c := gz_eq 0 = true) (by decide)]
      exact tt_mask (L2 := Ls i) rfl hE
    · exact if_neg (by decide)
  · rw [if_pos (c := gz_ne kk = true) (decide_eq_true hk)]
    exact tt_mask (L2 := Ls i) rfl hE
theorem tl_thrown {N : Nat} {J : gM} {kk : Int32} (h : J 204 0 = kk) : fX9_thrown N [.ref 0] (gS (rg 204 18) J) = some (.inl (some (.int kk)), gS (rg 204 18) J) := by
  rw [pX9_thrown, s18 (by decide)]
  show some (Sum.inl (some (Value.int (J 204 0))), gS (rg 204 18) J) = _
  rw [h]
