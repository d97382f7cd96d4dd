/-! ===== append: both sides joined ===== -/
def lst (w : Nat → Int32) : Nat → List Nat
  | 0 => []
  | i + 1 => lst w i ++ bys (w (i / 4)) (24 - 8 * (i % 4))
theorem lst_20 (v1 v2 v3 v4 v5 : Int32) : lst (wOf v1 v2 v3 v4 v5) 20 = byA v1 ++ (byA v2 ++ (byA v3 ++ (byA v4 ++ byA v5))) := by
  have h4 : ∀ j, lst (wOf v1 v2 v3 v4 v5) (4 * j + 4) = lst (wOf v1 v2 v3 v4 v5) (4 * j) ++ byA (wOf v1 v2 v3 v4 v5 j) := fun j => by
    show (((lst (wOf v1 v2 v3 v4 v5) (4 * j) ++ bys (wOf v1 v2 v3 v4 v5 ((4 * j) / 4)) (24 - 8 * ((4 * j) % 4))) ++ bys (wOf v1 v2 v3 v4 v5 ((4 * j + 1) / 4)) (24 - 8 * ((4 * j + 1) % 4))) ++ bys (wOf v1 v2 v3 v4 v5 ((4 * j + 2) / 4)) (24 - 8 * ((4 * j + 2) % 4))) ++ bys (wOf v1 v2 v3 v4 v5 ((4 * j + 3) / 4)) (24 - 8 * ((4 * j + 3) % 4)) = _
    rw [show 4 * j / 4 = j by omega, show (4 * j + 1) / 4 = j by omega, show (4 * j + 2) / 4 = j by omega, show (4 * j + 3) / 4 = j by omega, show 4 * j % 4 = 0 by omega, show (4 * j + 1) % 4 = 1 by omega, show (4 * j + 2) % 4 = 2 by omega, show (4 * j + 3) % 4 = 3 by omega]
    unfold byA
    rw [List.append_assoc, List.append_assoc, List.append_assoc]
  have e0 : lst (wOf v1 v2 v3 v4 v5) (4 * 0) = [] := rfl
  rw [show 20 = 4 * 4 + 4 from rfl, h4 4, show 4 * 4 = 4 * 3 + 4 from rfl, h4 3, show 4 * 3 = 4 * 2 + 4 from rfl, h4 2, show 4 * 2 = 4 * 1 + 4 from rfl, h4 1, show 4 * 1 = 4 * 0 + 4 from rfl, h4 0, e0, List.nil_append, List.append_assoc, List.append_assoc, List.append_assoc]
  rfl
theorem lst_mem (w : Nat → Int32) : ∀ i, ∀ x ∈ lst w i, 1 ≤ x ∧ x < 256
  | 0, x, h => absurd h List.not_mem_nil
  | i + 1, x, h => by
    have h' : x ∈ lst w i ++ bys (w (i / 4)) (24 - 8 * (i % 4)) := h
    rcases List.mem_append.mp h' with h | h
    · exact lst_mem w i x h
    · unfold bys at h
      split at h
      · exact absurd h List.not_mem_nil
      · rename_i hz
        have := List.mem_singleton.mp h
        have hb := byt_lt (w (i / 4)) (24 - 8 * (i % 4))
        omega
theorem lst_len (w : Nat → Int32) : ∀ i, (lst w i).length ≤ i
  | 0 => Nat.le_refl _
  | i + 1 => by
    show (lst w i ++ bys (w (i / 4)) (24 - 8 * (i % 4))).length ≤ _
    rw [List.length_append, bys_len]
    have := lst_len w i
    split <;> omega
theorem lst_mono (w : Nat → Int32) (i : Nat) : ∀ d, (lst w i).length ≤ (lst w (i + d)).length
  | 0 => Nat.le_refl _
  | d + 1 => by
    have h := lst_mono w i d
    show _ ≤ (lst w (i + d) ++ bys (w ((i + d) / 4)) (24 - 8 * ((i + d) % 4))).length
    rw [List.length_append]; omega
theorem INc.buf {I J : gM} {a : AB} {l : List Nat} (h : INc I a) (e : ∀ k, k < 183 → J k = I k) (hb : BFc J l) : INc J (a.1, a.2.1, a.2.2.1, l) :=
  ⟨h.1.congr (fun q hq => by rw [gS_b hq (by decide), gS_b hq (by decide), e _ (by omega)]), h.2.1.congr (fun q hq => by rw [gS_b hq (by decide), gS_b hq (by decide), e _ (by omega)]), ⟨by rw [e 0 (by decide)]; exact h.2.2.1.1, fun τ hτ => (h.2.2.1.2 τ hτ).congr (fun q hq => by rw [gS_b hq (by decide), gS_b hq (by decide), e _ (by omega)])⟩, hb⟩
theorem INm.buf {I J : gM} {a : AB} {l : List Nat} (h : INm I a) (e0 : ∀ j, j ≠ 2 → J 0 j = I 0 j) (e : ∀ q, q ≠ 0 → q ≠ 1 → J q = I q) (hb : BFm J l) : INm J (a.1, a.2.1, a.2.2.1, l) :=
  ⟨by rw [e 3 (by decide) (by decide)]; exact h.1, ⟨by rw [e0 13 (by decide)]; exact h.2.1.1, fun i τ hτ => by rw [e 6 (by decide) (by decide)]; exact h.2.1.2 i τ hτ⟩, ⟨by rw [e0 16 (by decide)]; exact h.2.2.1.1, fun τ hτ => by rw [e 5 (by decide) (by decide)]; exact h.2.2.1.2 τ hτ⟩, hb⟩
theorem l_put {N : Nat} {v : Int32} {I : gM} {l : List Nat} (h : BFc I l) (hl : (l ++ byA v).length ≤ 700) (hN : 1000 ≤ N) : ∃ J, (∀ K : gM → gO, hV (fX5_putBytes N [.ref 0, .int v] (gS (rg 183 11) I)) (rg 183 11) I K = K J) ∧ BFc J (l ++ byA v) ∧ ∀ k, k < 183 → J k = I k := by
  obtain ⟨J, j0, j1, j2, j3⟩ := pX5_putBytes (N := N) (v := v) (I := gS (rg 183 11) I) (l := l) ⟨by rw [gS_b (by decide) (by decide)]; exact h.1, fun j x hx => by rw [gS_b (by decide) (by decide)]; exact h.2 j x hx⟩ hl hN
  have g0 : gMg (rg 183 11) I J 183 = J 0 := gMg_rgi (b := 183) (j := 0) (by decide)
  have g1 : gMg (rg 183 11) I J 184 = J 1 := gMg_rgi (b := 183) (j := 1) (by decide)
  exact ⟨gMg (rg 183 11) I J, fun K => by rw [j0, hV_mk], ⟨by rw [g0]; exact j1.1, fun j x hx => by rw [g1]; exact j1.2 j x hx⟩, fun k hk => gMg_rgo (by omega)⟩
theorem app_count {N : Nat} {v1 v2 v3 v4 v5 : Int32} {I : gM} : ∀ m i : Nat, i ≤ 20 → 20 - i < m → hX9_append_11 N m v1 v2 v3 v4 v5 (nI (lst (wOf v1 v2 v3 v4 v5) i).length) (nI i) I = if gc_gt (gb_add (I 0 2) (nI (lst (wOf v1 v2 v3 v4 v5) 20).length)) 700 = true then hX9_append_68 N v1 v2 v3 v4 v5 0 I else hX9_append_68 N v1 v2 v3 v4 v5 1 I := by
  have l20 : (20 : Int32) = nI 20 := rfl
  intro m
  induction m with
  | zero => intro i _ h; omega
  | succ m ih =>
    intro i hi hm
    by_cases hin : i = 20
    · rw [eX9_append_11, l20, if_pos ((cge (by omega) (by decide)).mpr (by omega)), hin]
    · have hb := byt_lt (wOf v1 v2 v3 v4 v5 (i / 4)) (24 - 8 * (i % 4))
      have hnx := ih (i + 1) (by omega) (by omega)
      have e : (lst (wOf v1 v2 v3 v4 v5) (i + 1)).length = (lst (wOf v1 v2 v3 v4 v5) i).length + if byt (wOf v1 v2 v3 v4 v5 (i / 4)) (24 - 8 * (i % 4)) = 0 then 0 else 1 := by
        show (lst (wOf v1 v2 v3 v4 v5) i ++ bys (wOf v1 v2 v3 v4 v5 (i / 4)) (24 - 8 * (i % 4))).length = _
        rw [List.length_append, bys_len]
      rw [e] at hnx
      rw [eX9_append_11, l20, if_neg (fun z => by have := (cge (a := i) (b := 20) (by omega) (by decide)).mp z; omega), pX9_byteOf (by omega), hI_mk, gS_nil]
      by_cases hz : byt (wOf v1 v2 v3 v4 v5 (i / 4)) (24 - 8 * (i % 4)) = 0
      · rw [if_pos hz] at hnx
        rw [if_pos ((zeq (by omega)).mpr hz), eX9_append_40, nI_s, show gb_add (nI (lst (wOf v1 v2 v3 v4 v5) i).length) 0 = nI ((lst (wOf v1 v2 v3 v4 v5) i).length + 0) from nI_add _ 0]
        exact hnx
      · rw [if_neg hz] at hnx
        rw [if_neg (fun z => hz ((zeq (by omega)).mp z)), eX9_append_40, nI_s, show gb_add (nI (lst (wOf v1 v2 v3 v4 v5) i).length) 1 = nI ((lst (wOf v1 v2 v3 v4 v5) i).length + 1) from nI_add _ 1]
        exact hnx
theorem app_put {N : Nat} {v1 v2 v3 v4 v5 : Int32} {buf : List Nat} (h700 : (buf ++ lst (wOf v1 v2 v3 v4 v5) 20).length ≤ 700) : ∀ m i : Nat, i ≤ 20 → 20 - i < m → ∀ K : gM, BFm K (buf ++ lst (wOf v1 v2 v3 v4 v5) i) → ∃ J, hX9_append_80 N m v1 v2 v3 v4 v5 (nI i) K = some (.inl (some (.int (nI (buf ++ lst (wOf v1 v2 v3 v4 v5) 20).length))), J) ∧ BFm J (buf ++ lst (wOf v1 v2 v3 v4 v5) 20) ∧ (∀ q, q ≠ 0 → q ≠ 1 → J q = K q) ∧ ∀ j, j ≠ 2 → J 0 j = K 0 j := by
  have l20 : (20 : Int32) = nI 20 := rfl
  intro m
  induction m with
  | zero => intro i _ h; omega
  | succ m ih =>
    intro i hi hm K hK
    by_cases hin : i = 20
    · subst hin
      rw [eX9_append_80, l20, if_pos (by decide), hK.1]
      exact ⟨K, rfl, hK, fun _ _ _ => rfl, fun _ _ => rfl⟩
    · have hb := byt_lt (wOf v1 v2 v3 v4 v5 (i / 4)) (24 - 8 * (i % 4))
      have e : lst (wOf v1 v2 v3 v4 v5) (i + 1) = lst (wOf v1 v2 v3 v4 v5) i ++ bys (wOf v1 v2 v3 v4 v5 (i / 4)) (24 - 8 * (i % 4)) := rfl
      rw [eX9_append_80, l20, if_neg (fun z => by have := (cge (a := i) (b := 20) (by omega) (by decide)).mp z; omega), pX9_byteOf (by omega), hI_mk, gS_nil]
      by_cases hz : byt (wOf v1 v2 v3 v4 v5 (i / 4)) (24 - 8 * (i % 4)) = 0
      · have e2 : bys (wOf v1 v2 v3 v4 v5 (i / 4)) (24 - 8 * (i % 4)) = [] := if_pos hz
        rw [e2, List.append_nil] at e
        rw [if_pos ((zeq (by omega)).mpr hz), eX9_append_127, nI_s]
        exact ih (i + 1) (by omega) (by omega) K (by rw [e]; exact hK)
      · have e2 : bys (wOf v1 v2 v3 v4 v5 (i / 4)) (24 - 8 * (i % 4)) = [byt (wOf v1 v2 v3 v4 v5 (i / 4)) (24 - 8 * (i % 4))] := if_neg hz
        rw [e2] at e
        have hlen : (buf ++ lst (wOf v1 v2 v3 v4 v5) i).length < 700 := by
          have m1 := lst_mono (wOf v1 v2 v3 v4 v5) (i + 1) (20 - (i + 1))
          rw [show i + 1 + (20 - (i + 1)) = 20 by omega, e, List.length_append] at m1
          have m2 : ∀ x : Nat, [x].length = 1 := fun _ => rfl
          rw [m2] at m1
          rw [List.length_append] at h700 ⊢
          omega
        have ea : gb_add (nI (buf ++ lst (wOf v1 v2 v3 v4 v5) i).length) 1 = nI ((buf ++ lst (wOf v1 v2 v3 v4 v5) i).length + 1) := nI_add _ 1
        have hp : BFm (gU (gU K 1 (buf ++ lst (wOf v1 v2 v3 v4 v5) i).length (nI (byt (wOf v1 v2 v3 v4 v5 (i / 4)) (24 - 8 * (i % 4))))) 0 2 (nI ((buf ++ lst (wOf v1 v2 v3 v4 v5) i).length + 1))) (buf ++ lst (wOf v1 v2 v3 v4 v5) (i + 1)) := by
          rw [e, ← List.append_assoc]
          exact BFx.push hK
        rw [if_neg (fun z => hz ((zeq (by omega)).mp z)), hK.1, ckI (by omega) (by decide), nI_clamp (by omega), ea, eX9_append_127, nI_s]
        obtain ⟨J, j0, j1, j2, j3⟩ := ih (i + 1) (by omega) (by omega) _ hp
        exact ⟨J, j0, j1, fun q h0 h1 => by rw [j2 q h0 h1, gU_ok h0, gU_ok h1], fun j hj => by rw [j3 j hj, gU_un (Or.inr hj), gU_ok (by decide)]⟩
theorem j_append {N : Nat} {v1 v2 v3 v4 v5 : Int32} {I J : gM} {a : AB} (h : IN I J a) (hN : 20000 ≤ N) : AG [eIS] (fX8_append N [.ref 0, .int v1, .int v2, .int v3, .int v4, .int v5] I) (fX9_append N [.ref 0, .int v1, .int v2, .int v3, .int v4, .int v5] J) := by
  obtain ⟨hc, hm, hw⟩ := h
  have hm' := hm.thr (x := 0)
  have l700 : (700 : Int32) = nI 700 := rfl
  obtain ⟨σ, past, sv, buf⟩ := a
  have e1 : I 183 2 = nI buf.length := hc.2.2.2.1
  have e2 : gU J 0 0 0 0 2 = nI buf.length := hm'.2.2.2.1
  have hb : buf.length ≤ 700 := hw.2.2.2.1
  have e20 := lst_20 v1 v2 v3 v4 v5
  have h20 := lst_len (wOf v1 v2 v3 v4 v5) 20
  have cnt := app_count (N := N) (v1 := v1) (v2 := v2) (v3 := v3) (v4 := v4) (v5 := v5) (I := gU J 0 0 0) N 0 (Nat.zero_le _) (by omega)
  have cnt' : hX9_append_11 N N v1 v2 v3 v4 v5 0 0 (gU J 0 0 0) = _ := cnt
  have el : (lst (wOf v1 v2 v3 v4 v5) 20).length = (byA v1).length + (byA v2).length + (byA v3).length + (byA v4).length + (byA v5).length := by
    rw [e20, List.length_append, List.length_append, List.length_append, List.length_append]; omega
  have ea : gb_add (nI buf.length) (gb_add (gb_add (gb_add (gb_add (nI (byA v1).length) (nI (byA v2).length)) (nI (byA v3).length)) (nI (byA v4).length)) (nI (byA v5).length)) = nI (buf.length + (lst (wOf v1 v2 v3 v4 v5) 20).length) := by
    simp only [gb_add, nI_add]
    rw [el]
  have eb : gb_add (nI buf.length) (nI (lst (wOf v1 v2 v3 v4 v5) 20).length) = nI (buf.length + (lst (wOf v1 v2 v3 v4 v5) 20).length) := nI_add _ _
  rw [eX8_append, eX8_append_0, pX8_countBytes (by omega), hI_mk, gS_nil, pX8_countBytes (by omega), hI_mk, gS_nil, pX8_countBytes (by omega), hI_mk, gS_nil, eX8_append_13, pX8_countBytes (by omega), hI_mk, gS_nil, pX8_countBytes (by omega), hI_mk, gS_nil, e1, ea, l700, eX9_append, eX9_append_0, cnt', e2, eb, l700]
  by_cases hfit : buf.length + (lst (wOf v1 v2 v3 v4 v5) 20).length ≤ 700
  · have hL : (buf ++ lst (wOf v1 v2 v3 v4 v5) 20).length ≤ 700 := by rw [List.length_append]; exact hfit
    obtain ⟨J2, p0, p1, p2, p3⟩ := app_put (N := N) (v1 := v1) (v2 := v2) (v3 := v3) (v4 := v4) (v5 := v5) hL N 0 (Nat.zero_le _) (by omega) (gU J 0 0 0) (by
      show BFm _ (buf ++ [])
      rw [List.append_nil]; exact hm'.2.2.2)
    have p0' : hX9_append_80 N N v1 v2 v3 v4 v5 0 (gU J 0 0 0) = some (.inl (some (.int (nI (buf ++ lst (wOf v1 v2 v3 v4 v5) 20).length))), J2) := p0
    obtain ⟨I1, a1, b1, c1⟩ := l_put (N := N) (v := v1) (l := buf) hc.2.2.2 (by rw [List.length_append]; omega) (by omega)
    obtain ⟨I2, a2, b2', c2⟩ := l_put (N := N) (v := v2) b1 (by rw [List.length_append, List.length_append]; omega) (by omega)
    obtain ⟨I3, a3, b3, c3⟩ := l_put (N := N) (v := v3) b2' (by rw [List.length_append, List.length_append, List.length_append]; omega) (by omega)
    obtain ⟨I4, a4, b4, c4⟩ := l_put (N := N) (v := v4) b3 (by rw [List.length_append, List.length_append, List.length_append, List.length_append]; omega) (by omega)
    obtain ⟨I5, a5, b5, c5⟩ := l_put (N := N) (v := v5) b4 (by rw [List.length_append, List.length_append, List.length_append, List.length_append, List.length_append]; omega) (by omega)
    have eL : buf ++ byA v1 ++ byA v2 ++ byA v3 ++ byA v4 ++ byA v5 = buf ++ lst (wOf v1 v2 v3 v4 v5) 20 := by
      rw [e20, List.append_assoc, List.append_assoc, List.append_assoc, List.append_assoc]
    rw [eL] at b5
    rw [if_pos ((cle (by omega) (by decide)).mpr hfit), if_neg (fun z => by have := (cgt (a := buf.length + (lst (wOf v1 v2 v3 v4 v5) 20).length) (b := 700) (by omega) (by decide)).mp z; omega), eX9_append_68, m_f1, i_e0, p0', a1, eX8_append_62, a2, a3, a4, eX8_append_87, a5, b5.1]
    refine AG.ok rfl rfl (by rw [p3 0 (by decide)]; exact gU_us) (a := (σ, past, sv, buf ++ lst (wOf v1 v2 v3 v4 v5) 20)) ⟨INc.buf hc (fun k hk => by rw [c5 k hk, c4 k hk, c3 k hk, c2 k hk, c1 k hk]) b5, INm.buf hm' p3 p2 p1, hw.1, hw.2.1, hw.2.2.1, hL, hw.2.2.2.2.1, fun x hx => ?_⟩
    rcases List.mem_append.mp hx with h | h
    · exact hw.2.2.2.2.2 x h
    · exact lst_mem _ 20 x h
  · rw [if_neg (fun z => hfit ((cle (by omega) (by decide)).mp z)), if_pos ((cgt (by omega) (by decide)).mpr (by omega)), eX9_append_68, m_f0, i_e1]
    exact AG.ex 0 rfl rfl rfl gU_us ⟨hc, hm'.thr, hw⟩
