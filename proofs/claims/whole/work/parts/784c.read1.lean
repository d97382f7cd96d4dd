/-! ===== answers of both sides ===== -/
def QN (I J : gM) : Prop := ∃ a, IN I J a
def AG (exs : List String) (oc om : gO) : Prop := (∃ v I J, oc = some (.inl (some (.int v)), I) ∧ om = some (.inl (some (.int v)), J) ∧ J 0 0 = nI 0 ∧ QN I J) ∨ ∃ i En w I J, exs[i]? = some En ∧ oc = some (.inr En, I) ∧ om = some (.inl (some (.int w)), J) ∧ J 0 0 = nI (i + 1) ∧ QN I J
theorem AG.ok {exs : List String} {oc om : gO} {v : Int32} {I J : gM} {a : AB} (h1 : oc = some (.inl (some (.int v)), I)) (h2 : om = some (.inl (some (.int v)), J)) (h0 : J 0 0 = nI 0) (h : IN I J a) : AG exs oc om := Or.inl ⟨v, I, J, h1, h2, h0, a, h⟩
theorem AG.ex {exs : List String} {oc om : gO} {En : String} {w : Int32} {I J : gM} {a : AB} (i : Nat) (hi : exs[i]? = some En) (h1 : oc = some (.inr En, I)) (h2 : om = some (.inl (some (.int w)), J)) (h0 : J 0 0 = nI (i + 1)) (h : IN I J a) : AG exs oc om := Or.inr ⟨i, En, w, I, J, hi, h1, h2, h0, a, h⟩
theorem INm.thr {J : gM} {a : AB} {x : Int32} (h : INm J a) : INm (gU J 0 0 x) a := h.congr (fun j hj => by rw [gU_un (Or.inr (by omega))]) (fun k hk => by rw [gU_ok (by omega)])
theorem m_ft {N : Nat} {w : Int32} {I : gM} {K : Int32 → gM → gO} : hI (fX9_fails N [.ref 0, .int (b2 true), .int w] (gS (rg 0 18) I)) (rg 0 18) I K = K 0 I := m_fails (g := true)
theorem m_ff {N : Nat} {w : Int32} {I : gM} {K : Int32 → gM → gO} : hI (fX9_fails N [.ref 0, .int (b2 false), .int w] (gS (rg 0 18) I)) (rg 0 18) I K = K 1 (gU I 0 0 w) := m_fails (g := false)
theorem m_f1 {N : Nat} {w : Int32} {I : gM} {K : Int32 → gM → gO} : hI (fX9_fails N [.ref 0, .int 1, .int w] (gS (rg 0 18) I)) (rg 0 18) I K = K 0 I := m_fails (g := true)
theorem m_f0 {N : Nat} {w : Int32} {I : gM} {K : Int32 → gM → gO} : hI (fX9_fails N [.ref 0, .int 0, .int w] (gS (rg 0 18) I)) (rg 0 18) I K = K 1 (gU I 0 0 w) := m_fails (g := false)
theorem m_fz {N : Nat} {w : Int32} {I : gM} {K : Int32 → gM → gO} : hI (fX9_fails N [.ref 0, .int (nI 0), .int w] (gS (rg 0 18) I)) (rg 0 18) I K = K 1 (gU I 0 0 w) := m_fails (g := false)
theorem i_n0 {X Y : gO} : (if gz_ne 0 = true then X else Y) = Y := if_neg (by decide)
theorem i_n1 {X Y : gO} : (if gz_ne 1 = true then X else Y) = X := if_pos (by decide)
theorem i_e0 {X Y : gO} : (if gz_eq 0 = true then X else Y) = X := if_pos (by decide)
theorem i_e1 {X Y : gO} : (if gz_eq 1 = true then X else Y) = Y := if_neg (by decide)
theorem i_t {X Y : gO} : (if true = true then X else Y) = X := if_pos rfl
theorem i_f {X Y : gO} : (if false = true then X else Y) = Y := if_neg (by decide)
theorem ge0 : (gz_eq 0 = true) = True := eq_true (by decide)
theorem ge1 : (gz_eq 1 = true) = False := eq_false (by decide)
theorem gn0 : (gz_ne 0 = true) = False := eq_false (by decide)
theorem gn1 : (gz_ne 1 = true) = True := eq_true (by decide)
/-! what the class holds, place by place -/
theorem INc.lk {I : gM} {a : AB} (h : INc I a) {k : Nat} (hk : k < a.1.1 1) : I 3 k = nI (lkp a.1.1 k 0) ∧ I 4 k = nI (lkp a.1.1 k 1) ∧ I 5 k = nI (lkp a.1.1 k 2) ∧ I 6 k = nI (lkp a.1.1 k 3) ∧ I 7 k = nI (cfp a.1.1 k) := by
  have := h.1.1.2.1 k hk
  rw [gS_b (by decide) (by decide), gS_b (by decide) (by decide), gS_b (by decide) (by decide), gS_b (by decide) (by decide), gS_b (by decide) (by decide)] at this
  exact this
theorem INc.st {I : gM} {a : AB} (h : INc I a) {i : Nat} (hi : i < 4) : I 8 i = nI (a.1.1 (3 + i)) := by
  have := h.1.1.2.2.1 i hi
  rw [gS_b (by decide) (by decide)] at this; exact this
theorem INc.fl {I : gM} {a : AB} (h : INc I a) {f w : Nat} (hf : f < a.1.1 2) (hw : w < 11) : I 9 (f * 11 + w) = nI (flp a.1.1 f w) := by
  have := h.1.1.2.2.2.1 f w hf hw
  rw [gS_b (by decide) (by decide)] at this; exact this
theorem INc.ds {I : gM} {a : AB} (h : INc I a) {x g : Nat} (hx : x < a.1.1 0) (hg : g < a.1.1 0) : ∃ d, isD a.1.1 x g d ∧ I 10 (x * 10 + g) = nI d := by
  obtain ⟨d, d1, d2⟩ := h.1.1.2.2.2.2 x g hx hg
  rw [gS_b (by decide) (by decide)] at d2; exact ⟨d, d1, d2⟩
theorem INc.sl {I : gM} {a : AB} (h : INc I a) : I 1 2 = nI (a.1.1 7) ∧ I 1 3 = nI (a.1.1 8) := by
  have h1 := h.1.2.1.1
  have h2 := h.1.2.1.2.1
  rw [gS_b (by decide) (by decide)] at h1 h2; exact ⟨h1, h2⟩
theorem INc.sh {I : gM} {a : AB} (h : INc I a) {q : Nat} (hq : q < 100) : I 15 q = nI (a.1.1 (145 + q)) := by
  have h1 := h.1.2.1.2.2 q hq
  rw [gS_b (by decide) (by decide)] at h1; exact h1
theorem INc.ln {I : gM} {a : AB} (h : INc I a) {q : Nat} (hq : q < 100) : I 14 q = nI (qsq a.1 q).length ∧ (qsq a.1 q).length ≤ 500 := by
  have h1 := h.1.2.2.toq.len hq
  rw [gS10 (by decide), gS_b (by decide) (by decide)] at h1; exact h1
theorem INc.pk {I : gM} {a : AB} (h : INc I a) : I 11 11 = nI a.1.2.length := by
  have h1 := h.1.2.2.toq.P.1
  rw [gS10 (by decide), gS_b (by decide) (by decide)] at h1; exact h1
def eIO : String := "java/lang/IndexOutOfBoundsException"
def eIA : String := "java/lang/IllegalArgumentException"
def eIS : String := "java/lang/IllegalStateException"
def eNS : String := "java/util/NoSuchElementException"
theorem j_conflicts {N : Nat} {v : Int32} {I J : gM} {a : AB} (h : IN I J a) : AG [eIO] (fX8_conflicts N [.ref 0, .int v] I) (fX9_conflicts N [.ref 0, .int v] J) := by
  obtain ⟨hc, hm, hw⟩ := h
  have hm' := hm.thr (x := nI 0)
  have l0 : (0 : Int32) = nI 0 := rfl
  have l1 : (1 : Int32) = nI 1 := rfl
  have l131 : (131 : Int32) = nI 131 := rfl
  obtain ⟨w0, w1, w2⟩ := hw.lt
  rw [eX8_conflicts, eX8_conflicts_0, x_link hc hw, eX9_conflicts, eX9_conflicts_0, l0, m_link hm'.1]
  cases hv : ndb v (a.1.1 1) with
  | false =>
    rw [m_ff, i_f, i_e1]
    exact AG.ex 0 rfl rfl rfl gU_us ⟨hc, hm'.thr, hw⟩
  | true =>
    obtain ⟨k, k1, k2⟩ := ndb_t (by omega) hv
    subst k2
    have ea : gb_add (nI 131) (nI k) = nI (131 + k) := nI_add _ _
    rw [m_ft, i_t, i_e0, ckI (by omega) (by decide), l131, ea, ckI (by omega) (by decide), nI_clamp (by omega), nI_clamp (by omega), (hc.lk k1).2.2.2.2, hm'.1.1 _ (by omega)]
    exact AG.ok rfl rfl gU_us ⟨hc, hm', hw⟩
theorem j_undoCount {N : Nat} {I J : gM} {a : AB} (h : IN I J a) : AG [] (fX8_undoCount N [.ref 0] I) (fX9_undoCount N [.ref 0] J) := by
  obtain ⟨hc, hm, hw⟩ := h
  have l0 : (0 : Int32) = nI 0 := rfl
  have e1 : I 61 1 = nI a.2.1.length := by
    have := hc.2.1.2.1
    rw [gS_b (by decide) (by decide)] at this; exact this
  rw [eX8_undoCount, eX8_undoCount_0, eX9_undoCount, eX9_undoCount_0, l0, e1, hm.2.1.1]
  exact AG.ok rfl rfl gU_us ⟨hc, hm.thr, hw⟩
theorem j_flow {N : Nat} {v u : Int32} {I J : gM} {a : AB} (h : IN I J a) : AG [eIO, eIA] (fX8_flow N [.ref 0, .int v, .int u] I) (fX9_flow N [.ref 0, .int v, .int u] J) := by
  obtain ⟨hc, hm, hw⟩ := h
  have hm' := hm.thr (x := nI 0)
  have l0 : (0 : Int32) = nI 0 := rfl
  have l10 : (10 : Int32) = nI 10 := rfl
  have d0 : (0 : Int64) = (nI 0).toInt64 := by decide
  have d10 : (10 : Int64) = (nI 10).toInt64 := by decide
  obtain ⟨w0, w1, w2⟩ := hw.lt
  rw [eX8_flow, eX8_flow_0, x_flow hc hw, eX9_flow, eX9_flow_0, l0, m_flow hm'.1]
  cases hv : ndb v (a.1.1 2) with
  | false =>
    rw [m_ff, i_f, i_n1]
    exact AG.ex 0 rfl rfl rfl gU_us ⟨hc, hm'.thr, hw⟩
  | true =>
    obtain ⟨k, k1, k2⟩ := ndb_t (by omega) hv
    subst k2
    rw [m_ft, i_t, i_n0, l10, x_range, d0, d10, m_in, eX9_flow_28]
    cases hu : rgb u (nI 0) (nI 10) with
    | false =>
      rw [m_ff, i_f, i_e1]
      exact AG.ex 1 rfl rfl rfl gU_us ⟨hc, hm'.thr, hw⟩
    | true =>
      obtain ⟨w, -, u1, u2⟩ := rgb_t (by decide) (by decide) hu
      subst u2
      have e := hc.fl k1 (show w < 11 by omega)
      rw [m_ft, i_t, i_e0, r_flow (by omega), pX2_getNumber N _ (by omega), hI_mk, gMg_same _ (by decide), gS_b (by decide) (by decide), e, hm'.1.1 _ (by omega)]
      exact AG.ok rfl rfl gU_us ⟨hc, hm', hw⟩
theorem x_two {N : Nat} {v u : Int32} {I : gM} {a : AB} {K : gM → gO} (h : INc I a) (hw : INw a) : hXV (fX8_checkTwoNodes N [.ref 0, .int v, .int u] (gS (rg 0 204) I)) (rg 0 204) I K = if (ndb v (a.1.1 0) && ndb u (a.1.1 0)) = true then (if gc_ne v u = true then K I else some (.inr "java/lang/IllegalArgumentException", I)) else some (.inr "java/lang/IndexOutOfBoundsException", I) := by
  have h' : INc (gS (rg 0 204) I) a := h.congr (by rw [gS204 (by decide)]) (fun k _ hk => by rw [gS204 (by omega)]) (by rw [gS204 (by decide)])
  rw [eX8_checkTwoNodes, eX8_checkTwoNodes_0, x_node h' hw]
  cases hv : ndb v (a.1.1 0) with
  | false =>
    rw [Bool.false_and, i_f, i_f, hXV_ex, gM204s]
  | true =>
    rw [i_t, Bool.true_and, x_node h' hw]
    cases hu : ndb u (a.1.1 0) with
    | false => rw [i_f, i_f, hXV_ex, gM204s]
    | true =>
      rw [i_t, i_t]
      by_cases hne : gc_ne v u = true
      · rw [if_pos hne, if_pos hne, hXV_mk, gM204s]
      · rw [if_neg hne, if_neg hne, hXV_ex, gM204s]
theorem and_t {x y : Bool} (h : (x && y) = true) : x = true ∧ y = true := by
  rwa [Bool.and_eq_true] at h
theorem j_hops {N : Nat} {v u : Int32} {I J : gM} {a : AB} (h : IN I J a) (hN : 20000 ≤ N) : AG [eIO] (fX8_hops N [.ref 0, .int v, .int u] I) (fX9_hops N [.ref 0, .int v, .int u] J) := by
  obtain ⟨hc, hm, hw⟩ := h
  have hm' := hm.thr (x := nI 0)
  have l0 : (0 : Int32) = nI 0 := rfl
  obtain ⟨w0, w1, w2⟩ := hw.lt
  rw [eX8_hops, eX8_hops_0, x_node hc hw, eX9_hops, eX9_hops_0, l0, m_nodes hm'.1]
  cases hv : ndb v (a.1.1 0) with
  | false =>
    rw [Bool.false_and, m_ff, i_f, i_e1]
    exact AG.ex 0 rfl rfl rfl gU_us ⟨hc, hm'.thr, hw⟩
  | true =>
    rw [if_pos rfl, x_node hc hw]
    cases hu : ndb u (a.1.1 0) with
    | false =>
      rw [Bool.and_false, m_ff, i_f, i_e1]
      exact AG.ex 0 rfl rfl rfl gU_us ⟨hc, hm'.thr, hw⟩
    | true =>
      obtain ⟨k, k1, k2⟩ := ndb_t (by omega) hv
      obtain ⟨g, g1, g2⟩ := ndb_t (by omega) hu
      subst k2; subst g2
      obtain ⟨H, h0, h1, h2⟩ := pX9_layHops (N := N) (σ := a.1) (M := gS (rg 0 18) (gU J 0 0 (nI 0))) (by rw [gSm18 (by decide)]; exact hm'.1) hw.1.1.1 (by omega)
      obtain ⟨d, d1, d2⟩ := hc.ds k1 g1
      obtain ⟨d', e1, e2⟩ := h1 k g k1 g1
      have ed := isD.one d1 e1
      rw [Bool.and_true, m_ft, i_t, i_e0, h0, hV_mk, eX9_hops_25, idx10, ckI (by omega) (by decide), nI_clamp (by omega), gM18 (by decide), e2, s_pair, ckI (by omega) (by decide), nI_clamp (by omega), d2, ed]
      have hr := rlift (I := gU J 0 0 (nI 0)) (J := H) (t := fun k => k = 8) h2
      exact AG.ok rfl rfl (by rw [hr 0 (by decide)]; exact gU_us) ⟨hc, hm'.congr (fun j _ => by rw [hr 0 (by decide)]) (fun k hk => hr k (by omega)), hw⟩
theorem j_queue {N : Nat} {v u : Int32} {I J : gM} {a : AB} (h : IN I J a) (hN : 20000 ≤ N) : AG [eIO, eIA] (fX8_queue N [.ref 0, .int v, .int u] I) (fX9_queue N [.ref 0, .int v, .int u] J) := by
  obtain ⟨hc, hm, hw⟩ := h
  have hm' := hm.thr (x := nI 0)
  have l0 : (0 : Int32) = nI 0 := rfl
  obtain ⟨w0, w1, w2⟩ := hw.lt
  rw [eX8_queue, eX8_queue_0, x_two hc hw, eX9_queue, eX9_queue_0, l0, m_nodes hm'.1]
  cases hv : (ndb v (a.1.1 0) && ndb u (a.1.1 0)) with
  | false =>
    rw [m_ff, i_f, i_n1, eX9_queue_37]
    exact AG.ex 0 rfl rfl rfl gU_us ⟨hc, hm'.thr, hw⟩
  | true =>
    obtain ⟨hv1, hv2⟩ := and_t hv
    obtain ⟨k, k1, k2⟩ := ndb_t (by omega) hv1
    obtain ⟨g, g1, g2⟩ := ndb_t (by omega) hv2
    subst k2; subst g2
    rw [m_ft, i_t, i_n0]
    by_cases e : k = g
    · rw [if_neg (fun z => (cne (by omega) (by omega)).mp z e), if_pos ((ceq (by omega) (by omega)).mpr e), eX9_queue_30, m_fz, i_e1, eX9_queue_37]
      exact AG.ex 1 rfl rfl rfl gU_us ⟨hc, hm'.thr, hw⟩
    · have hq : fX9_queued N [.ref 0, .int (nI k), .int (nI g)] (gS (rg 0 18) (gU J 0 0 (nI 0))) = some (.inl (some (.int (nI (qln a.1 k g)))), gS (rg 0 18) (gU J 0 0 (nI 0))) := pX9_queued (N := N) (σ := a.1) (by rw [gSm18 (by decide)]; exact hm'.1) hw.1.1.1 (by omega) (by omega) (by omega)
      have e14 := (hc.ln (q := k * 10 + g) (by omega)).1
      rw [qsq_at a.1 (show g < 10 by omega)] at e14
      rw [if_pos ((cne (by omega) (by omega)).mpr e), if_neg (fun z => e ((ceq (by omega) (by omega)).mp z)), eX9_queue_30, m_f1, i_e0, hq, hI_mk, gMm18, s_pair, ckI (by omega) (by decide), nI_clamp (by omega), e14]
      exact AG.ok rfl rfl gU_us ⟨hc, hm', hw⟩
theorem j_shadow {N : Nat} {v u : Int32} {I J : gM} {a : AB} (h : IN I J a) (hN : 20000 ≤ N) : AG [eIO, eIA] (fX8_shadow N [.ref 0, .int v, .int u] I) (fX9_shadow N [.ref 0, .int v, .int u] J) := by
  obtain ⟨hc, hm, hw⟩ := h
  have hm' := hm.thr (x := nI 0)
  have l0 : (0 : Int32) = nI 0 := rfl
  obtain ⟨w0, w1, w2⟩ := hw.lt
  rw [eX8_shadow, eX8_shadow_0, x_two hc hw, eX9_shadow, eX9_shadow_0, l0, m_nodes hm'.1]
  cases hv : (ndb v (a.1.1 0) && ndb u (a.1.1 0)) with
  | false =>
    rw [m_ff, i_f, i_n1, eX9_shadow_37]
    exact AG.ex 0 rfl rfl rfl gU_us ⟨hc, hm'.thr, hw⟩
  | true =>
    obtain ⟨hv1, hv2⟩ := and_t hv
    obtain ⟨k, k1, k2⟩ := ndb_t (by omega) hv1
    obtain ⟨g, g1, g2⟩ := ndb_t (by omega) hv2
    subst k2; subst g2
    rw [m_ft, i_t, i_n0]
    by_cases e : k = g
    · rw [if_neg (fun z => (cne (by omega) (by omega)).mp z e), if_pos ((ceq (by omega) (by omega)).mpr e), eX9_shadow_30, m_fz, i_e1, eX9_shadow_37]
      exact AG.ex 1 rfl rfl rfl gU_us ⟨hc, hm'.thr, hw⟩
    · have e15 := hc.sh (q := k * 10 + g) (by omega)
      rw [if_pos ((cne (by omega) (by omega)).mpr e), if_neg (fun z => e ((ceq (by omega) (by omega)).mp z)), eX9_shadow_30, m_f1, i_e0, pX9_shadowOf N _ (by omega), hI_mk, gMm18, gSm18 (by decide), hm'.1.1 _ (by omega), s_pair, ckI (by omega) (by decide), nI_clamp (by omega), e15, show 145 + (k * 10 + g) = 145 + 10 * k + g by omega]
      exact AG.ok rfl rfl gU_us ⟨hc, hm', hw⟩
