/-! ===== words: what the class and the reference compare ===== -/
section TW
variable {k kt kf : gK} {L L2 : List (Option Value)} {st t : List Value} {I : gM} {r : gO} {x : Int32}
theorem tt_sval {q : Nat} (hq : gRng 1000 1026 q) (e : k L (.ref (q + 100) :: t) I = r) : s_sval k L (.ref q :: t) I = r := (if_pos hq).trans e
theorem tt_scod {q : Nat} (hq : gRng 1000 1026 q) (e : k L (.int 0 :: t) I = r) : s_scod k L (.ref q :: t) I = r := (if_pos hq).trans e
theorem tt_elen {q : Nat} (hq : gRng 1100 1126 q) (e : k L (.int (Int32.ofNat (gSb (q - 1100)).length) :: t) I = r) : s_elen k L (.ref q :: t) I = r := (if_pos hq).trans e
theorem tt_eald {q : Nat} {i : Int32} (hq : gRng 1100 1126 q ∧ ¬ (i < 0 ∨ (gSb (q - 1100)).length ≤ i.toNatClampNeg)) (e : k L (.int ((gSb (q - 1100)).getD i.toNatClampNeg 0) :: t) I = r) : s_eald k L (.int i :: .ref q :: t) I = r := (if_pos hq).trans e
theorem tt_caeI {f : List Value → gM → gO} {n q : Nat} {av : List Value} (h1 : ((st.drop n).map Value.category).sum ≤ 8 ∧ n ≤ st.length) (h2 : gBk [] (st.take n).reverse = some (.ref q :: av)) (hq : gRng 1000 1026 q) (hd : st.drop n = t) (hf : f (.ref q :: av) (gS [] I) = some (.inl (some (.int x)), gS [] I)) (e : k L (.int x :: t) I = r) : s_cae gI f n k L st I = r := by
  unfold s_cae
  rw [if_pos h1, h2]
  show (if gRng 1000 1026 q then gI [] k L (st.drop n) I (f (.ref q :: av) (gS [] I)) else none) = r
  rw [if_pos hq, hf, hd]
  exact e
theorem tt_caI1 {f : List Value → gM → gO} {n : Nat} {av : List Value} (h1 : ((st.drop n).map Value.category).sum ≤ 8 ∧ n ≤ st.length) (h2 : gBk [] (st.take n).reverse = some av) (hd : st.drop n = t) (hf : f av (gS [] I) = some (.inl (some (.int x)), gS [] I)) (e : k L (.int x :: t) I = r) : s_ca gI f n [] k L st I = r := by
  unfold s_ca
  rw [if_pos h1, h2]
  show gI [] k L (st.drop n) I (f av (gS [] I)) = r
  rw [hf, hd]
  exact e
theorem tt_caV1 {f : List Value → gM → gO} {n : Nat} {av : List Value} (h1 : ((st.drop n).map Value.category).sum ≤ 8 ∧ n ≤ st.length) (h2 : gBk [] (st.take n).reverse = some av) (hd : st.drop n = t) (hf : f av (gS [] I) = some (.inl none, gS [] I)) (e : k L t I = r) : s_ca gV f n [] k L st I = r := by
  unfold s_ca
  rw [if_pos h1, h2]
  show gV [] k L (st.drop n) I (f av (gS [] I)) = r
  rw [hf, hd]
  exact e
end TW
def wdN (i : Nat) : List Nat := (gSb i).map Int32.toNatClampNeg
theorem wdN_len (i : Nat) : (wdN i).length = (gSb i).length := List.length_map _
theorem wd_ok : ∀ i, i < 26 → (gSb i).length ≤ 9 ∧ ∀ k, k < (gSb i).length → (gSb i).getD k 0 = nI ((wdN i).getD k 0) ∧ (wdN i).getD k 0 < 256 := by decide +kernel
theorem ch_ok : ∀ c, c < 256 → gb_and (nI c) 255 = nI c ∧ ((nI c).toUInt32 % 65536).toInt32 = nI c := by decide +kernel
theorem pJS_coder {N i : Nat} {I : gM} (hi : i < 26) : fJS_coder N [.ref (1000 + i)] I = some (.inl (some (.int 0)), I) := by
  unfold fJS_coder fJS_coder_k0
  refine (tt_fn (L := [some (.ref (1000 + i))]) rfl rfl).trans ?_
  refine tt_const ?_
  refine (tt_if rfl rfl).trans ?_
  rw [if_neg (by decide)]
  refine tt_aload rfl ?_
  refine tt_scod ⟨by omega, by omega⟩ ?_
  show (if (0 : Int32).toInt8.toInt32 = 0 then some (Sum.inl (some (Value.int 0)), I) else none) = _
  exact if_pos (by decide)
theorem pJS_length {N i : Nat} {I : gM} (hi : i < 26) : fJS_length N [.ref (1000 + i)] I = some (.inl (some (.int (nI (wdN i).length))), I) := by
  unfold fJS_length fJS_length_k0
  refine (tt_fn (L := [some (.ref (1000 + i))]) rfl rfl).trans ?_
  refine tt_aload rfl ?_
  refine tt_sval ⟨by omega, by omega⟩ ?_
  refine tt_elen ⟨by omega, by omega⟩ ?_
  refine tt_aload rfl ?_
  refine tt_caeI (q := 1000 + i) (av := []) (x := 0) ⟨Nat.le_of_ble_eq_true rfl, Nat.le_of_ble_eq_true rfl⟩ (gBk_p (by omega) rfl) ⟨by omega, by omega⟩ rfl (pJS_coder hi) ?_
  refine tt_bin ?_
  have e : 1000 + i + 100 - 1100 = i := by omega
  have e2 : gb_shr (nI (gSb i).length) (nI 0) = nI ((gSb i).length / 2 ^ 0) := shrI (by decide) (by have := (wd_ok i hi).1; omega)
  rw [e, wdN_len]
  rw [Nat.pow_zero, Nat.div_one] at e2
  have e3 : gb_shr (Int32.ofNat (gSb i).length) 0 = nI (gSb i).length := e2
  rw [e3]
  rfl
theorem pJS_isLatin1 {N i : Nat} {I : gM} (hi : i < 26) : fJS_isLatin1 N [.ref (1000 + i)] I = some (.inl (some (.int 1)), I) := by
  unfold fJS_isLatin1 fJS_isLatin1_k0
  refine (tt_fn (L := [some (.ref (1000 + i))]) rfl rfl).trans ?_
  refine tt_const ?_
  refine (tt_if rfl rfl).trans ?_
  rw [if_neg (by decide)]
  refine tt_aload rfl ?_
  refine tt_scod ⟨by omega, by omega⟩ ?_
  refine (tt_if rfl rfl).trans ?_
  rw [if_neg (by decide)]
  refine tt_const ?_
  exact tt_zret (Or.inr rfl)
theorem pJS_checkIndex {N k n : Nat} {I : gM} (hk : k < n) (hn : n < 2 ^ 31) : fJS_checkIndex N [.int (nI k), .int (nI n)] I = some (.inl none, I) := by
  unfold fJS_checkIndex fJS_checkIndex_k0
  refine (tt_fn (L := [some (.int (nI k)), some (.int (nI n))]) rfl rfl).trans ?_
  refine tt_iload rfl ?_
  refine tt_iload rfl ?_
  exact if_pos ⟨nI_pos' (by omega), (nI_ltI (by omega) hn).mpr hk⟩
theorem pJL_charAt {N i k : Nat} {I : gM} (hi : i < 26) (hk : k < (wdN i).length) : fJL_charAt N [.ref (1000 + i + 100), .int (nI k)] I = some (.inl (some (.int (nI ((wdN i).getD k 0)))), I) := by
  rw [wdN_len] at hk
  obtain ⟨h9, hw⟩ := wd_ok i hi
  obtain ⟨h1, h2⟩ := hw k hk
  obtain ⟨c1, c2⟩ := ch_ok _ h2
  have e : 1000 + i + 100 - 1100 = i := by omega
  have hc : (nI k).toNatClampNeg = k := nI_clamp (by omega)
  unfold fJL_charAt fJL_charAt_k0
  refine (tt_fn (L := [some (.ref (1000 + i + 100)), some (.int (nI k))]) rfl rfl).trans ?_
  refine tt_iload rfl ?_
  refine tt_aload rfl ?_
  refine tt_elen ⟨by omega, by omega⟩ ?_
  rw [e]
  refine tt_caV1 (av := [.int (nI k), .int (Int32.ofNat (gSb i).length)]) ⟨Nat.le_of_ble_eq_true rfl, Nat.le_of_ble_eq_true rfl⟩ rfl rfl (pJS_checkIndex (n := (gSb i).length) hk (by omega)) ?_
  refine tt_aload rfl ?_
  refine tt_iload rfl ?_
  have hne : ¬ (nI k < 0 ∨ (gSb (1000 + i + 100 - 1100)).length ≤ (nI k).toNatClampNeg) := by
    rw [e, hc]
    intro z
    rcases z with z | z
    · exact nI_pos (by omega) z
    · omega
  refine tt_eald ⟨⟨by omega, by omega⟩, hne⟩ ?_
  rw [e, hc, h1]
  refine tt_const ?_
  refine tt_bin ?_
  rw [c1]
  refine tt_i2c ?_
  rw [c2]
  exact if_pos c2
theorem pJS_charAt {N i k : Nat} {I : gM} (hi : i < 26) (hk : k < (wdN i).length) : fJS_charAt N [.ref (1000 + i), .int (nI k)] I = some (.inl (some (.int (nI ((wdN i).getD k 0)))), I) := by
  have hk' := hk
  rw [wdN_len] at hk'
  have c2 := (ch_ok _ ((wd_ok i hi).2 k hk').2).2
  unfold fJS_charAt fJS_charAt_k0
  refine (tt_fn (L := [some (.ref (1000 + i)), some (.int (nI k))]) rfl rfl).trans ?_
  refine tt_aload rfl ?_
  refine tt_caeI (q := 1000 + i) (av := []) (x := 1) ⟨Nat.le_of_ble_eq_true rfl, Nat.le_of_ble_eq_true rfl⟩ (gBk_p (by omega) rfl) ⟨by omega, by omega⟩ rfl (pJS_isLatin1 hi) ?_
  refine (tt_if rfl rfl).trans ?_
  rw [if_neg (by decide)]
  refine tt_aload rfl ?_
  refine tt_sval ⟨by omega, by omega⟩ ?_
  refine tt_iload rfl ?_
  refine tt_caI1 (av := [.ref (1000 + i + 100), .int (nI k)]) (x := nI ((wdN i).getD k 0)) ⟨Nat.le_of_ble_eq_true rfl, Nat.le_of_ble_eq_true rfl⟩ (gBk_p (by omega) (gBk_i rfl)) rfl (pJL_charAt hi hk) ?_
  exact if_pos c2
/-- from the k-th byte on the text holds the word -/
def twM (l : List Nat) (s : Nat) (w : List Nat) (k : Nat) : Bool := decide (∀ j, j < w.length → k ≤ j → l.getD (s + j) 0 = w.getD j 0)
theorem twM_end {l : List Nat} {s k : Nat} {w : List Nat} (h : w.length ≤ k) : twM l s w k = true := decide_eq_true (fun j hj hk => by omega)
theorem twM_go {l : List Nat} {s k : Nat} {w : List Nat} (hk : k < w.length) (h : l.getD (s + k) 0 = w.getD k 0) : twM l s w k = twM l s w (k + 1) := by
  unfold twM
  rw [Bool.eq_iff_iff, decide_eq_true_eq, decide_eq_true_eq]
  refine ⟨fun z j hj hkj => z j hj (by omega), fun z j hj hkj => ?_⟩
  by_cases e : j = k
  · rw [e]; exact h
  · exact z j hj (by omega)
theorem twM_no {l : List Nat} {s k : Nat} {w : List Nat} (hk : k < w.length) (h : l.getD (s + k) 0 ≠ w.getD k 0) : twM l s w k = false := decide_eq_false (fun z => h (z k hk (Nat.le_refl _)))
/-- the token at s is this word -/
def twW (l : List Nat) (s : Nat) (w : List Nat) : Bool := decide (tzC l s = 1) && (decide (tzE l s - s = w.length) && twM l s w 0)
theorem eX5_isWord_28 {N m i : Nat} {v ch : Int32} {I : gM} (hi : i < 26) (hch : v < nI (wdN i).length → fJS_charAt N [.ref (1000 + i), .int v] (gS [] I) = some (.inl (some (.int ch)), gS [] I)) : s_lp (fX5_isWord_b28 N) (m + 1) [some (.ref 0), some (.ref (1000 + i)), some (.int v)] [] I =
  if gc_ge v (nI (wdN i).length) = true then some (.inl (some (.int 1)), I) else if gc_ge (gb_add (I 0 5) v) (I 0 2) = true then some (.inl (some (.int 1)), I) else ck 700 (gb_add (I 0 5) v) <| if gc_eq (I 1 (Int32.toNatClampNeg (gb_add (I 0 5) v))) ch = true then s_lp (fX5_isWord_b28 N) m [some (.ref 0), some (.ref (1000 + i)), some (.int (v + 1))] [] I else some (.inl (some (.int 0)), I) := by
  show (fX5_isWord_b28 N (s_lp (fX5_isWord_b28 N) m)) [some (.ref 0), some (.ref (1000 + i)), some (.int v)] [] I = _
  unfold fX5_isWord_b28
  refine tt_iload rfl ?_
  refine tt_aload rfl ?_
  refine tt_caeI (q := 1000 + i) (av := []) (x := nI (wdN i).length) ⟨Nat.le_of_ble_eq_true rfl, Nat.le_of_ble_eq_true rfl⟩ (gBk_p (by omega) rfl) ⟨by omega, by omega⟩ rfl (pJS_length hi) ?_
  by_cases hv : gc_ge v (nI (wdN i).length) = true
  · rw [if_pos hv]
    refine (tt_cmp rfl rfl).trans ?_
    rw [if_pos hv]
    refine tt_const ?_
    exact tt_zret (Or.inr rfl)
  · have hlt : v < nI (wdN i).length := Int32.not_le.mp (fun z => hv (decide_eq_true z))
    rw [if_neg hv]
    refine (tt_cmp rfl rfl).trans ?_
    rw [if_neg hv]
    refine tt_aload rfl ?_
    refine tt_get (x := I 0 5) rfl rfl rfl ?_
    refine tt_iload rfl ?_
    refine tt_bin ?_
    refine tt_aload rfl ?_
    refine tt_get (x := I 0 2) rfl rfl rfl ?_
    refine tt_cmp ?_ ?_
    · refine tt_const ?_
      exact tt_zret (Or.inr rfl)
    · refine tt_aload rfl ?_
      refine tt_getr (q := 1) rfl rfl ?_
      refine tt_aload rfl ?_
      refine tt_get (x := I 0 5) rfl rfl rfl ?_
      refine tt_iload rfl ?_
      refine tt_bin ?_
      refine tt_ald (x := I 1 (Int32.toNatClampNeg (gb_add (I 0 5) v))) rfl rfl ?_
      refine tt_aload rfl ?_
      refine tt_iload rfl ?_
      refine tt_caeI (q := 1000 + i) (av := [.int v]) (x := ch) ⟨Nat.le_of_ble_eq_true rfl, Nat.le_of_ble_eq_true rfl⟩ (gBk_p (by omega) (gBk_i rfl)) ⟨by omega, by omega⟩ rfl (hch hlt) ?_
      refine tt_cmp ?_ ?_
      · refine tt_iinc (L2 := [some (.ref 0), some (.ref (1000 + i)), some (.int (v + 1))]) rfl rfl ?_
        refine tt_mask rfl ?_
        exact rfl
      · refine tt_const ?_
        exact tt_zret (Or.inl rfl)
theorem TXT.get {I : gM} {l : List Nat} (hT : TXT l) (hB : BFx I l) {p : Nat} (hp : p < l.length) : p < 700 ∧ I 1 p = nI (l.getD p 0) ∧ l.getD p 0 < 256 := by
  obtain ⟨c, hc⟩ := get_s hp
  obtain ⟨h7, h2⟩ := hT.at hc
  rw [List.getD_eq_getElem?_getD, hc]
  exact ⟨h7, hB.2 p c hc, h2⟩
theorem cw_loop {N i s : Nat} {l : List Nat} {I : gM} (hT : TXT l) (hB : BFx I l) (hi : i < 26) (h5 : I 0 5 = nI s) (hs : s + (wdN i).length ≤ l.length) : ∀ m k : Nat, k ≤ (wdN i).length → (wdN i).length - k < m → s_lp (fX5_isWord_b28 N) m [some (.ref 0), some (.ref (1000 + i)), some (.int (nI k))] [] I = some (.inl (some (.int (b2 (twM l s (wdN i) k)))), I) := by
  have hT1 := hT.1
  have h9 := (wd_ok i hi).1
  rw [← wdN_len] at h9
  intro m
  induction m with
  | zero => intro k _ h; omega
  | succ m ih =>
    intro k hk hm
    rw [eX5_isWord_28 (ch := nI ((wdN i).getD k 0)) hi (fun h => pJS_charAt hi ((nI_ltI (by omega) (by omega)).mp h))]
    by_cases hin : k = (wdN i).length
    · rw [if_pos ((cge (by omega) (by omega)).mpr (by omega)), twM_end (by omega)]; rfl
    · have hkl : k < (wdN i).length := by omega
      obtain ⟨p7, g1, g2⟩ := hT.get hB (show s + k < l.length by omega)
      have hk2 : k < (gSb i).length := by rw [← wdN_len]; exact hkl
      have hw := ((wd_ok i hi).2 k hk2).2
      have ea : gb_add (nI s) (nI k) = nI (s + k) := nI_add _ _
      rw [if_neg (fun z => by have := (cge (a := k) (b := (wdN i).length) (by omega) (by omega)).mp z; omega), h5, ea, hB.1, if_neg (fun z => by have := (cge (a := s + k) (b := l.length) (by omega) (by omega)).mp z; omega), ckI p7 (by decide), nI_clamp (by omega), g1]
      by_cases e : l.getD (s + k) 0 = (wdN i).getD k 0
      · rw [if_pos ((ceq (by omega) (by omega)).mpr e), nI_s, ih (k + 1) (by omega) (by omega), twM_go hkl e]
      · rw [if_neg (fun z => e ((ceq (by omega) (by omega)).mp z)), twM_no hkl e]; rfl
theorem pX5_isWord {N i s : Nat} {l : List Nat} {I : gM} (hT : TXT l) (hB : BFx I l) (hN : 20 ≤ N) (hi : i < 26) (hs : s ≤ l.length) (h3 : I 0 3 = nI (tzE l s)) (h4 : I 0 4 = nI (tzC l s)) (h5 : I 0 5 = nI s) : fX5_isWord N [.ref 0, .ref (1000 + i)] I = some (.inl (some (.int (b2 (twW l s (wdN i))))), I) := by
  have hT1 := hT.1
  have h9 := (wd_ok i hi).1
  rw [← wdN_len] at h9
  have hC : tzC l s ≤ 3 := by
    unfold tzC
    cases l[s]? with
    | none => decide
    | some c => exact (tzK_le c).2
  have hE := tzE_le hs
  have hG := tzE_ge l s
  unfold fX5_isWord fX5_isWord_k0
  refine (tt_fn (L := [some (.ref 0), some (.ref (1000 + i)), none]) rfl rfl).trans ?_
  refine tt_aload rfl ?_
  refine tt_get (x := nI (tzC l s)) rfl rfl h4 ?_
  refine tt_const ?_
  refine (tt_cmp rfl rfl).trans ?_
  unfold twW
  have l1 : (1 : Int32) = nI 1 := rfl
  rw [l1]
  by_cases c1 : tzC l s = 1
  · rw [if_neg (fun z => (cne (a := tzC l s) (b := 1) (by omega) (by decide)).mp z c1), decide_eq_true c1, Bool.true_and]
    refine tt_aload rfl ?_
    refine tt_get (x := nI (tzE l s)) rfl rfl h3 ?_
    refine tt_aload rfl ?_
    refine tt_get (x := nI s) rfl rfl h5 ?_
    refine tt_bin ?_
    refine tt_aload rfl ?_
    refine tt_caeI (q := 1000 + i) (av := []) (x := nI (wdN i).length) ⟨Nat.le_of_ble_eq_true rfl, Nat.le_of_ble_eq_true rfl⟩ (gBk_p (by omega) rfl) ⟨by omega, by omega⟩ rfl (pJS_length hi) ?_
    have es : gb_sub (nI (tzE l s)) (nI s) = nI (tzE l s - s) := pk_sub hG
    rw [es]
    refine (tt_cmp rfl rfl).trans ?_
    by_cases c2 : tzE l s - s = (wdN i).length
    · rw [if_pos ((ceq (by omega) (by omega)).mpr c2), decide_eq_true c2, Bool.true_and]
      refine tt_const ?_
      refine tt_istore (L2 := [some (.ref 0), some (.ref (1000 + i)), some (.int 0)]) (tt_lt rfl) rfl ?_
      refine tt_mask rfl ?_
      exact cw_loop hT hB hi h5 (by omega) N 0 (Nat.zero_le _) (by omega)
    · rw [if_neg (fun z => c2 ((ceq (by omega) (by omega)).mp z)), decide_eq_false c2, Bool.false_and]
      refine tt_const ?_
      exact tt_zret (Or.inl rfl)
  · rw [if_pos ((cne (a := tzC l s) (b := 1) (by omega) (by decide)).mpr c1), decide_eq_false c1, Bool.false_and]
    refine tt_const ?_
    exact tt_zret (Or.inl rfl)
/-! ===== the reference compares ===== -/
def gdI (g : Option Nat) : Int32 := match g with
  | none => mI
  | some e => nI e
theorem pX9_isGood {N : Nat} {g : Option Nat} {I : gM} (h7 : I 0 7 = gdI g) (hg : ∀ e, g = some e → e < 2 ^ 31) : fX9_isGood N [.ref 0] I = some (.inl (some (.int (b2 g.isNone))), I) := by
  rw [eX9_isGood, eX9_isGood_0, h7]
  cases g with
  | none => exact if_neg (show ¬ gz_ge mI = true by decide)
  | some e => exact if_pos ((zge (hg e rfl)).mpr True.intro)
theorem m_good {N : Nat} {g : Option Nat} {I : gM} {K : Int32 → gM → gO} (h7 : I 0 7 = gdI g) (hg : ∀ e, g = some e → e < 2 ^ 31) : hI (fX9_isGood N [.ref 0] (gS (rg 0 18) I)) (rg 0 18) I K = K (b2 g.isNone) I := by
  rw [pX9_isGood (g := g) (by rw [gSm18 (by decide)]; exact h7) hg, hI_mk, gMm18]
theorem eX9_isWord_39z {N m i : Nat} {v : Int32} {I : gM} : s_lp (fX9_isWord_b39 N) (m + 1) [some (.ref 0), some (.ref (1000 + i)), some (.int 0), some (.int v)] [] I = some (.inl (some (.int 0)), I) := by
  show (fX9_isWord_b39 N (s_lp (fX9_isWord_b39 N) m)) [some (.ref 0), some (.ref (1000 + i)), some (.int 0), some (.int v)] [] I = _
  unfold fX9_isWord_b39
  refine tt_iload rfl ?_
  refine (tt_if rfl rfl).trans ?_
  rw [if_pos (by decide)]
  refine tt_iload rfl ?_
  exact tt_zret (Or.inl rfl)
theorem eX9_isWord_39 {N m i : Nat} {v ch : Int32} {I : gM} (hi : i < 26) (hch : v < nI (wdN i).length → fJS_charAt N [.ref (1000 + i), .int v] (gS [] I) = some (.inl (some (.int ch)), gS [] I)) : s_lp (fX9_isWord_b39 N) (m + 1) [some (.ref 0), some (.ref (1000 + i)), some (.int 1), some (.int v)] [] I =
  if gc_ge v (nI (wdN i).length) = true then some (.inl (some (.int 1)), I) else ck 700 (gb_add (I 0 4) v) <| if gc_ne (I 1 (Int32.toNatClampNeg (gb_add (I 0 4) v))) ch = true then s_lp (fX9_isWord_b39 N) m [some (.ref 0), some (.ref (1000 + i)), some (.int 0), some (.int (v + 1))] [] I else s_lp (fX9_isWord_b39 N) m [some (.ref 0), some (.ref (1000 + i)), some (.int 1), some (.int (v + 1))] [] I := by
  show (fX9_isWord_b39 N (s_lp (fX9_isWord_b39 N) m)) [some (.ref 0), some (.ref (1000 + i)), some (.int 1), some (.int v)] [] I = _
  unfold fX9_isWord_b39
  refine tt_iload rfl ?_
  refine (tt_if rfl rfl).trans ?_
  rw [if_neg (by decide)]
  refine tt_iload rfl ?_
  refine tt_aload rfl ?_
  refine tt_caeI (q := 1000 + i) (av := []) (x := nI (wdN i).length) ⟨Nat.le_of_ble_eq_true rfl, Nat.le_of_ble_eq_true rfl⟩ (gBk_p (by omega) rfl) ⟨by omega, by omega⟩ rfl (pJS_length hi) ?_
  by_cases hv : gc_ge v (nI (wdN i).length) = true
  · rw [if_pos hv]
    refine (tt_cmp rfl rfl).trans ?_
    rw [if_pos hv]
    refine tt_iload rfl ?_
    exact tt_zret (Or.inr rfl)
  · have hlt : v < nI (wdN i).length := Int32.not_le.mp (fun z => hv (decide_eq_true z))
    rw [if_neg hv]
    refine (tt_cmp rfl rfl).trans ?_
    rw [if_neg hv]
    refine tt_aload rfl ?_
    refine tt_getr (q := 1) rfl rfl ?_
    refine tt_aload rfl ?_
    refine tt_get (x := I 0 4) rfl rfl rfl ?_
    refine tt_iload rfl ?_
    refine tt_bin ?_
    refine tt_ald (x := I 1 (Int32.toNatClampNeg (gb_add (I 0 4) v))) rfl rfl ?_
    refine tt_aload rfl ?_
    refine tt_iload rfl ?_
    refine tt_caeI (q := 1000 + i) (av := [.int v]) (x := ch) ⟨Nat.le_of_ble_eq_true rfl, Nat.le_of_ble_eq_true rfl⟩ (gBk_p (by omega) (gBk_i rfl)) ⟨by omega, by omega⟩ rfl (hch hlt) ?_
    refine tt_cmp ?_ ?_
    · refine tt_const ?_
      refine tt_mask rfl ?_
      unfold fX9_isWord_k75
      refine tt_istore (L2 := [some (.ref 0), some (.ref (1000 + i)), some (.int 0), some (.int v)]) (tt_lt rfl) rfl ?_
      refine tt_iinc (L2 := [some (.ref 0), some (.ref (1000 + i)), some (.int 0), some (.int (v + 1))]) rfl rfl ?_
      refine tt_mask rfl ?_
      exact rfl
    · refine tt_const ?_
      refine tt_mask rfl ?_
      unfold fX9_isWord_k75
      refine tt_istore (L2 := [some (.ref 0), some (.ref (1000 + i)), some (.int 1), some (.int v)]) (tt_lt rfl) rfl ?_
      refine tt_iinc (L2 := [some (.ref 0), some (.ref (1000 + i)), some (.int 1), some (.int (v + 1))]) rfl rfl ?_
      refine tt_mask rfl ?_
      exact rfl
theorem rw_loop {N i s : Nat} {l : List Nat} {I : gM} (hT : TXT l) (hB : BFx I l) (hi : i < 26) (h4 : I 0 4 = nI s) (hs : s + (wdN i).length ≤ l.length) : ∀ m k : Nat, k ≤ (wdN i).length → (wdN i).length - k + 1 < m → s_lp (fX9_isWord_b39 N) m [some (.ref 0), some (.ref (1000 + i)), some (.int 1), some (.int (nI k))] [] I = some (.inl (some (.int (b2 (twM l s (wdN i) k)))), I) := by
  have hT1 := hT.1
  have h9 := (wd_ok i hi).1
  rw [← wdN_len] at h9
  intro m
  induction m with
  | zero => intro k _ h; omega
  | succ m ih =>
    intro k hk hm
    rw [eX9_isWord_39 (ch := nI ((wdN i).getD k 0)) hi (fun h => pJS_charAt hi ((nI_ltI (by omega) (by omega)).mp h))]
    by_cases hin : k = (wdN i).length
    · rw [if_pos ((cge (by omega) (by omega)).mpr (by omega)), twM_end (by omega)]; rfl
    · have hkl : k < (wdN i).length := by omega
      obtain ⟨p7, g1, g2⟩ := hT.get hB (show s + k < l.length by omega)
      have hk2 : k < (gSb i).length := by rw [← wdN_len]; exact hkl
      have hw := ((wd_ok i hi).2 k hk2).2
      have ea : gb_add (nI s) (nI k) = nI (s + k) := nI_add _ _
      rw [if_neg (fun z => by have := (cge (a := k) (b := (wdN i).length) (by omega) (by omega)).mp z; omega), h4, ea, ckI p7 (by decide), nI_clamp (by omega), g1]
      by_cases e : l.getD (s + k) 0 = (wdN i).getD k 0
      · rw [if_neg (fun z => (cne (by omega) (by omega)).mp z e), nI_s, ih (k + 1) (by omega) (by omega), twM_go hkl e]
      · obtain ⟨m, rfl⟩ : ∃ n, m = n + 1 := ⟨m - 1, by omega⟩
        rw [if_pos ((cne (by omega) (by omega)).mpr e), eX9_isWord_39z, twM_no hkl e]; rfl
theorem pX9_isWord {N i s : Nat} {g : Option Nat} {l : List Nat} {I : gM} (hT : TXT l) (hB : BFx I l) (hN : 20 ≤ N) (hi : i < 26) (hs : s ≤ l.length) (h7 : I 0 7 = gdI g) (hg : ∀ e, g = some e → e < 2 ^ 31) (h3 : g = none → I 0 3 = nI (tzE l s)) (h5 : g = none → I 0 5 = nI (tzC l s)) (h4 : g = none → I 0 4 = nI s) : fX9_isWord N [.ref 0, .ref (1000 + i)] I = some (.inl (some (.int (b2 (g.isNone && twW l s (wdN i))))), I) := by
  have hT1 := hT.1
  have h9 := (wd_ok i hi).1
  rw [← wdN_len] at h9
  have hC : tzC l s ≤ 3 := by
    unfold tzC
    cases l[s]? with
    | none => decide
    | some c => exact (tzK_le c).2
  have hE := tzE_le hs
  have hG := tzE_ge l s
  obtain ⟨n, hn⟩ : ∃ n, N = n + 1 := ⟨N - 1, by omega⟩
  have e35 : fX9_isWord_k35 N [some (.ref 0), some (.ref (1000 + i)), none, none] [] I = some (.inl (some (.int 0)), I) := by
    unfold fX9_isWord_k35
    refine tt_const ?_
    refine tt_mask rfl ?_
    unfold fX9_isWord_k36
    refine tt_istore (L2 := [some (.ref 0), some (.ref (1000 + i)), some (.int 0), none]) (tt_lt rfl) rfl ?_
    refine tt_const ?_
    refine tt_istore (L2 := [some (.ref 0), some (.ref (1000 + i)), some (.int 0), some (.int 0)]) (tt_lt rfl) rfl ?_
    refine tt_mask rfl ?_
    unfold fX9_isWord_k39
    have h := eX9_isWord_39z (N := N) (m := n) (i := i) (v := 0) (I := I)
    rw [← hn] at h
    exact h
  unfold fX9_isWord fX9_isWord_k0
  refine (tt_fn (L := [some (.ref 0), some (.ref (1000 + i)), none, none]) rfl rfl).trans ?_
  refine tt_aload rfl ?_
  refine (tt_cavI (t := []) (ρ2 := rg 0 18) ⟨Nat.le_of_ble_eq_true rfl, Nat.le_of_ble_eq_true rfl⟩ rfl rfl rfl (fun x J => rfl)).trans ?_
  rw [m_good h7 hg]
  refine (tt_if rfl rfl).trans ?_
  cases g with
  | some e =>
    rw [if_pos (show gz_eq (b2 (some e).isNone) = true from (show gz_eq (b2 false) = true by decide))]
    refine tt_mask rfl ?_
    exact e35
  | none =>
    rw [if_neg (show ¬ gz_eq (b2 (none : Option Nat).isNone) = true by decide)]
    have l1 : (1 : Int32) = nI 1 := rfl
    refine tt_aload rfl ?_
    refine tt_get (x := nI (tzC l s)) rfl rfl (h5 rfl) ?_
    refine tt_const ?_
    refine (tt_cmp rfl rfl).trans ?_
    rw [l1]
    have et : ((none : Option Nat).isNone && twW l s (wdN i)) = twW l s (wdN i) := Bool.true_and _
    rw [et]
    unfold twW
    by_cases c1 : tzC l s = 1
    · rw [if_neg (fun z => (cne (a := tzC l s) (b := 1) (by omega) (by decide)).mp z c1), decide_eq_true c1, Bool.true_and]
      refine tt_aload rfl ?_
      refine tt_get (x := nI (tzE l s)) rfl rfl (h3 rfl) ?_
      refine tt_aload rfl ?_
      refine tt_get (x := nI s) rfl rfl (h4 rfl) ?_
      refine tt_bin ?_
      refine tt_aload rfl ?_
      refine tt_caeI (q := 1000 + i) (av := []) (x := nI (wdN i).length) ⟨Nat.le_of_ble_eq_true rfl, Nat.le_of_ble_eq_true rfl⟩ (gBk_p (by omega) rfl) ⟨by omega, by omega⟩ rfl (pJS_length hi) ?_
      have es : gb_sub (nI (tzE l s)) (nI s) = nI (tzE l s - s) := pk_sub hG
      rw [es]
      refine (tt_cmp rfl rfl).trans ?_
      by_cases c2 : tzE l s - s = (wdN i).length
      · rw [if_neg (fun z => (cne (by omega) (by omega)).mp z c2), decide_eq_true c2, Bool.true_and]
        refine tt_const ?_
        refine tt_mask rfl ?_
        unfold fX9_isWord_k36
        refine tt_istore (L2 := [some (.ref 0), some (.ref (1000 + i)), some (.int 1), none]) (tt_lt rfl) rfl ?_
        refine tt_const ?_
        refine tt_istore (L2 := [some (.ref 0), some (.ref (1000 + i)), some (.int 1), some (.int 0)]) (tt_lt rfl) rfl ?_
        refine tt_mask rfl ?_
        exact rw_loop hT hB hi (h4 rfl) (by omega) N 0 (Nat.zero_le _) (by omega)
      · rw [if_pos ((cne (by omega) (by omega)).mpr c2), decide_eq_false c2, Bool.false_and]
        refine tt_mask rfl ?_
        exact e35
    · rw [if_pos ((cne (a := tzC l s) (b := 1) (by omega) (by decide)).mpr c1), decide_eq_false c1, Bool.false_and]
      refine tt_mask rfl ?_
      exact e35
