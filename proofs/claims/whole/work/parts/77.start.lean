/-! ===== THE START: what the Statement gives, as the contracts take it ===== -/
def gFl : List Cond := flatC (Jvm.Cond.and given_1 narrow_1)
def gTm (i : Nat) : Term := match gSR[i]? with
  | some q => .string q.1 q.2.1
  | none => .int 0
/-- where the words of the i-th text begin -/
def gBs : List Nat := [70, 77, 85, 97, 105, 115, 123, 132, 142, 152, 160, 173, 183, 769, 777, 786, 799, 808, 819, 828, 838, 849, 860, 869, 883, 894, 192, 230, 261, 292, 317, 343, 396, 421, 461, 489, 514, 545, 575, 601, 628, 652, 688, 715]
def gChkS (i : Nat) : Bool :=
  let b := gBs.getD i 0
  let v : Term := .field (gTm i) "java/lang/String" "value" "[B"
  decide (gFl[b]? = some (Cond.exactly (gTm i) "java/lang/String")) && (decide (i ≥ 26) || (decide (gFl[b + 1]? = some (.eq (.field (gTm i) "java/lang/String" "coder" "B") (.int 0))) && (decide (gFl[b + 2]? = some (.arrayOf v .byte)) && (decide (gFl[b + 3]? = some (.eq (.length v) (.int (Int32.ofNat (gSb i).length)))) && (List.range (gSb i).length).all (fun j => decide (gFl[b + 4 + j]? = some (.eq (.elem v (.int (Int32.ofNat j))) (.int ((gSb i).getD j 0)))))))))
set_option maxRecDepth 100000 in
theorem gChkS_ok : (List.range 44).all gChkS = true := by decide +kernel
set_option maxRecDepth 100000 in
theorem gSR_tbl : gSR.all (fun q => decide (Cond.stringRef q.1 q.2.1 q.2.2.1 ∈ tables_1)) = true := by decide +kernel
set_option maxRecDepth 100000 in
theorem gNc_fl : gNc.all (fun q => decide (Cond.not (.castable q.1 q.2) ∈ gFl)) = true := by decide +kernel
def gGt : Term := .static "PressureNet" "GREATEST_SETTING" "[I"
def gChkG : Bool := decide (Cond.eq (.static "java/lang/String" "COMPACT_STRINGS" "Z") (.int 1) ∈ gFl) && (decide (Cond.isRef (.static "jdk/internal/util/Preconditions" "SIOOBE_FORMATTER" "Ljava/util/function/BiFunction;") ∈ gFl) && (decide (Cond.isRef (.static Bundle.tN "UNASSIGNED_STACK" Bundle.steD) ∈ gFl) && (decide (Cond.isRef (.static Bundle.tN "SUPPRESSED_SENTINEL" Bundle.listD) ∈ gFl) && (decide (Cond.arrayOf gGt .int ∈ gFl) && (decide (Cond.eq (.length gGt) (.int (Int32.ofNat 4)) ∈ gFl) && (List.range 4).all (fun j => decide (Cond.eq (.elem gGt (.int (Int32.ofNat j))) (.int (gGS.getD j 0)) ∈ gFl)))))))
set_option maxRecDepth 100000 in
theorem gChkG_ok : gChkG = true := by decide +kernel
def gChkT : Bool := decide (Cond.laysStatic "java/lang/String" "COMPACT_STRINGS" "Z" ∈ tables_1) && (decide (Cond.laysStatic "jdk/internal/util/Preconditions" "SIOOBE_FORMATTER" "Ljava/util/function/BiFunction;" ∈ tables_1) && (decide (Cond.laysStatic Bundle.tN "UNASSIGNED_STACK" Bundle.steD ∈ tables_1) && (decide (Cond.laysStatic Bundle.tN "SUPPRESSED_SENTINEL" Bundle.listD ∈ tables_1) && (decide (Cond.laysStatic "PressureNet" "GREATEST_SETTING" "[I" ∈ tables_1) && (decide (Cond.initialized "java/lang/String" ∈ tables_1) && (decide (Cond.initialized "jdk/internal/util/Preconditions" ∈ tables_1) && (decide (Cond.initialized Bundle.tN ∈ tables_1) && (decide (Cond.initialized "PressureNet" ∈ tables_1) && (decide (Cond.arrayOver (.object "PressureNet$State") ∈ tables_1) && (decide (Cond.arrayClass .int ∈ tables_1) && (decide (Cond.arrayClass .boolean ∈ tables_1) && decide (Cond.arrayClass .long ∈ tables_1))))))))))))
set_option maxRecDepth 100000 in
theorem gChkT_ok : gChkT = true := by decide +kernel
theorem gand {a b : Bool} (h : (a && b) = true) : a = true ∧ b = true := by rwa [Bool.and_eq_true] at h

/-- texts: their objects, their bytes -/
theorem gTexts {args : Array Value} {s : State} {A : Nat → Prop} (hgv : ∀ w ∈ gFl, w.before args s = true) (hA : ∀ a : Nat, a < s.heap.size → ¬ A a) : ∃ ak av : Nat → Nat,
    (∀ i : Nat, i < 44 → (gTm i).eval args s none [] s = some (.ref (ak i))) ∧
    ∀ i : Nat, i < 26 → va_O "java/lang/String" (ak i) A s s.heap ∧ va_OF "java/lang/String" "coder" "B" (.int 0) (ak i) A s s.heap ∧ va_OF "java/lang/String" "value" "[B" (.ref (av i)) (ak i) A s s.heap ∧ va_T .byte (av i) (gSb i).length (fun j => .int ((gSb i).getD j 0)) A s s.heap := by
  have hmem : ∀ (k : Nat) (w : Cond), gFl[k]? = some w → w.before args s = true := fun k w h => hgv w (List.mem_of_getElem? h)
  have hc : ∀ i : Nat, i < 44 → gChkS i = true := fun i hi => List.all_eq_true.mp gChkS_ok i (List.mem_range.mpr hi)
  have h0 : ∀ i : Nat, ∃ q : Nat × Nat, (i < 44 → (gTm i).eval args s none [] s = some (.ref q.1)) ∧ (i < 26 → va_O "java/lang/String" q.1 A s s.heap ∧ va_OF "java/lang/String" "coder" "B" (.int 0) q.1 A s s.heap ∧ va_OF "java/lang/String" "value" "[B" (.ref q.2) q.1 A s s.heap ∧ va_T .byte q.2 (gSb i).length (fun j => .int ((gSb i).getD j 0)) A s s.heap) := by
    intro i
    by_cases hi : i < 44
    · have h1 := hc i hi
      unfold gChkS at h1
      obtain ⟨hex, hrest⟩ := gand h1
      have hex := hmem _ _ (of_decide_eq_true hex)
      obtain ⟨a, c, cA, kA, q1, q2, q3, q4, q5, q6, -⟩ := Cond.exactly_spec (args := args) (first := s) (o := none) (s := s) (idx := []) (t := gTm i) (cls := "java/lang/String") hex
      by_cases h26 : i < 26
      · rcases Bool.or_eq_true_iff.mp hrest with h | h
        · exact absurd (of_decide_eq_true h) (by omega)
        · obtain ⟨hco, h⟩ := gand h
          obtain ⟨har, h⟩ := gand h
          obtain ⟨hle, hel⟩ := gand h
          have hco := hmem _ _ (of_decide_eq_true hco)
          have har := hmem _ _ (of_decide_eq_true har)
          have hle := hmem _ _ (of_decide_eq_true hle)
          have hL : (gSb i).length < 2 ^ 31 := by
            have : ∀ i : Nat, i < 26 → (gSb i).length < 2 ^ 31 := by decide +kernel
            exact this i h26
          obtain ⟨t, ht, hT⟩ := va_Tof (f := fun j => .int ((gSb i).getD j 0)) (A := A) hL har (va_eqt hle) (fun j hj => va_eqt (hmem _ _ (of_decide_eq_true (List.all_eq_true.mp hel j (List.mem_range.mpr hj))))) hA
          exact ⟨(a, t), fun _ => q1, fun _ => ⟨⟨cA, q3, q5, by rw [q6]; exact q2, hA a (Array.getElem?_eq_some_iff.mp q3).1⟩, vk_OFof q1 (va_eqt hco) hA, vk_OFof q1 ht hA, hT⟩⟩
      · exact ⟨(a, 0), fun _ => q1, fun h => absurd h h26⟩
    · exact ⟨(0, 0), fun h => absurd h hi, fun h => absurd (Nat.lt_trans h (by decide)) hi⟩
  obtain ⟨ad, had⟩ := Classical.axiomOfChoice h0
  exact ⟨fun i => (ad i).1, fun i => (ad i).2, fun i hi => (had i).1 hi, fun i hi => (had i).2 hi⟩
/-- everyone's places -/
def gRa (ak av : Nat → Nat) (gs b : Nat) : Nat → Nat := fun k => if k < 26 then ak k else if k < 100 then 0 else if k < 126 then av (k - 100) else if k = 200 then gs else if k < 300 then 0 else if k < 318 then ak (k - 300 + 26) else if k = 400 then b else 0
theorem gRa_sr (ak av : Nat → Nat) (gs b : Nat) : ∀ (i : Nat) (q : String × Nat × String × Nat), gSR[i]? = some q → gRa ak av gs b q.2.2.2 = ak i := by
  intro i q h
  have hp : ∀ i : Nat, i < 44 → (gSR[i]?.map (fun q => q.2.2.2)) = some (if i < 26 then i else i - 26 + 300) := by decide +kernel
  have hl : i < 44 := (List.getElem?_eq_some_iff.mp h).1
  have h1 := hp i hl
  rw [h] at h1
  have h2 : q.2.2.2 = if i < 26 then i else i - 26 + 300 := Option.some.inj h1
  rw [h2]
  unfold gRa
  by_cases h26 : i < 26
  · rw [if_pos h26, if_pos h26]
  · rw [if_neg h26, if_neg (by omega), if_neg (by omega), if_neg (by omega), if_neg (by omega), if_neg (by omega), if_pos (by omega)]
    congr 1; omega
theorem gFct_start {args : Array Value} {s : State} (hts : ∀ w ∈ tables_1, w.before args s = true) (hgv : ∀ w ∈ gFl, w.before args s = true) (b : Nat) : ∃ ra : Nat → Nat, ra 400 = b ∧ gFct s.heap.size ra s := by
  have hA : ∀ a : Nat, a < s.heap.size → ¬ gBel s.heap.size a := fun a ha => Nat.not_le.mpr ha
  obtain ⟨ak, av, h1, h2⟩ := gTexts (A := gBel s.heap.size) hgv hA
  have hG := gChkG_ok
  unfold gChkG at hG
  obtain ⟨g1, hG⟩ := gand hG
  obtain ⟨g2, hG⟩ := gand hG
  obtain ⟨g3, hG⟩ := gand hG
  obtain ⟨g4, hG⟩ := gand hG
  obtain ⟨g5, hG⟩ := gand hG
  obtain ⟨g6, g7⟩ := gand hG
  have hT := gChkT_ok
  unfold gChkT at hT
  obtain ⟨t1, hT⟩ := gand hT
  obtain ⟨t2, hT⟩ := gand hT
  obtain ⟨t3, hT⟩ := gand hT
  obtain ⟨t4, hT⟩ := gand hT
  obtain ⟨t5, hT⟩ := gand hT
  obtain ⟨t6, hT⟩ := gand hT
  obtain ⟨t7, hT⟩ := gand hT
  obtain ⟨t8, hT⟩ := gand hT
  obtain ⟨t9, hT⟩ := gand hT
  obtain ⟨t10, -⟩ := gand hT
  obtain ⟨gs, hgs, hgT⟩ := va_Tof (f := fun j => .int (gGS.getD j 0)) (A := gBel s.heap.size) (tm := gGt) (ty := .int) (N := 4) (by decide) (hgv _ (of_decide_eq_true g5)) (va_eqt (hgv _ (of_decide_eq_true g6))) (fun j hj => va_eqt (hgv _ (of_decide_eq_true (List.all_eq_true.mp g7 j (List.mem_range.mpr hj))))) hA
  refine ⟨gRa ak av gs b, rfl, ?_, ?_, ?_, ?_, ?_, ?_, ?_, ?_, ?_⟩
  · intro q hq
    obtain ⟨i, hi⟩ := List.getElem?_of_mem hq
    rw [gRa_sr ak av gs b i q hi]
    have hl : i < 44 := (List.getElem?_eq_some_iff.mp hi).1
    have he := h1 i hl
    unfold gTm at he
    rw [hi] at he
    exact vk_R.of (hts _ (of_decide_eq_true (List.all_eq_true.mp gSR_tbl q hq))) he
  · intro i hi
    have e1 : gRa ak av gs b i = ak i := if_pos hi
    have e2 : gRa ak av gs b (100 + i) = av i := by
      unfold gRa
      rw [if_neg (by omega), if_neg (by omega), if_pos (by omega), Nat.add_sub_cancel_left]
    rw [e1, e2]
    exact h2 i hi
  · exact va_Zof (hts _ (of_decide_eq_true t1)) (hts _ (of_decide_eq_true t6)) (va_eqt (hgv _ (of_decide_eq_true g1))) hA
  · exact (vx_Zqof (hts _ (of_decide_eq_true t2)) (hts _ (of_decide_eq_true t7)) (hgv _ (of_decide_eq_true g2)) hA).1
  · exact va_Zof (hts _ (of_decide_eq_true t5)) (hts _ (of_decide_eq_true t9)) hgs hA
  · exact hgT
  · exact vx_Zqof (hts _ (of_decide_eq_true t3)) (hts _ (of_decide_eq_true t8)) (hgv _ (of_decide_eq_true g3)) hA
  · exact vx_Zqof (hts _ (of_decide_eq_true t4)) (hts _ (of_decide_eq_true t8)) (hgv _ (of_decide_eq_true g4)) hA
  · exact va_AO.of (hts _ (of_decide_eq_true t10))
theorem gFct_stab {n0 : Nat} {ra : Nat → Nat} {U U' : State} (hW : U.WarmedH U'.vm) (hq : ∀ q : Nat, q < n0 → U'.heap[q]? = U.heap[q]?) (h : gFct n0 ra U) : gFct n0 ra U' := by
  have hk : ∀ a : Nat, a < U.heap.size → ¬ gBel n0 a → U'.heap[a]? = U.heap[a]? := fun a _ h2 => hq a (Nat.not_le.mp h2)
  have hv := hW.alike
  obtain ⟨h1, h2, h3, h4, h5, h6, h7, h8, h9⟩ := h
  exact ⟨fun q hq => vk_R.warm hW (h1 q hq), fun i hi => ⟨va_O.moved hv ((h2 i hi).1.kept hk), va_OF.moved hv ((h2 i hi).2.1.kept hk), va_OF.moved hv ((h2 i hi).2.2.1.kept hk), va_T.moved hv ((h2 i hi).2.2.2.kept hk)⟩,
    va_Z.moved hv (h3.kept hk), va_Zq.moved hv (h4.kept hk), va_Z.moved hv (h5.kept hk), va_T.moved hv (h6.kept hk), vx_Zq.moved hv (h7.kept hk), vx_Zq.moved hv (h8.kept hk), va_AO.moved hv h9⟩
/-- what holds of the state at any time of the law -/
def gEL (n0 : Nat) (ra : Nat → Nat) (L : Nat) (xs : Nat → Int32) (U : State) : Prop := gFct n0 ra U ∧ (∀ q ∈ gNc, va_Nc q.1 q.2 U) ∧ va_X (ra 400) L xs U U.heap
theorem gEL_env {l : Launch} (hl : l.stackTraces = false) {n0 L : Nat} {ra : Nat → Nat} {xs : Nat → Int32} {D : va_G} {cA : Nat → ClassId} (hb : ra 400 < n0) : gEnvL (l, gEL n0 ra L xs, n0, D, cA, ra) ∧ gSc (l, gEL n0 ra L xs, n0, D, cA, ra) L xs := by
  refine ⟨⟨⟨fun U U' hW hq h => ⟨gFct_stab hW hq h.1, fun q hq2 => va_Nc.moved hW.alike (h.2.1 q hq2), va_X.moved hW.alike (h.2.2.kept (hq _ hb))⟩, fun U h => h.1, hl⟩, fun U h => h.2.1⟩, hb, fun U h => h.2.2⟩

theorem gKn_start {args : Array Value} {s : State} (hts : ∀ w ∈ gTb, w.before args s = true) (ht : ∀ w ∈ tables_1, w.before args s = true) : ∃ (D : va_G) (cA : Nat → ClassId), va_K D vwCl (gTy cA) s := by
  obtain ⟨c0, i0, h0⟩ := u_known (C := RX0) (T := TX0) (N := 4) (n := 4) hts gin_0 (ht _ (List.mem_of_getElem? (i := 294) (by decide +kernel)))
  obtain ⟨c1, i1, h1⟩ := u_known (C := RX1) (T := TX1) (N := 2) (n := 2) hts gin_1 (ht _ (List.mem_of_getElem? (i := 203) (by decide +kernel)))
  obtain ⟨c2, i2, h2⟩ := u_known (C := RX2) (T := TX2) (N := 11) (n := 11) hts gin_2 (ht _ (List.mem_of_getElem? (i := 40) (by decide +kernel)))
  obtain ⟨c3, i3, h3⟩ := u_known (C := RX3) (T := TX3) (N := 2) (n := 2) hts gin_3 (ht _ (List.mem_of_getElem? (i := 264) (by decide +kernel)))
  obtain ⟨c4, i4, h4⟩ := u_known (C := RX4) (T := TX4) (N := 12) (n := 12) hts gin_4 (ht _ (List.mem_of_getElem? (i := 115) (by decide +kernel)))
  obtain ⟨c5, i5, h5⟩ := u_known (C := RX5) (T := TX5) (N := 9) (n := 9) hts gin_5 (ht _ (List.mem_of_getElem? (i := 220) (by decide +kernel)))
  obtain ⟨c6, i6, h6⟩ := u_known (C := RX6) (T := TX6) (N := 4) (n := 4) hts gin_6 (ht _ (List.mem_of_getElem? (i := 258) (by decide +kernel)))
  obtain ⟨c7, i7, h7⟩ := u_known (C := RX7) (T := TX7) (N := 4) (n := 4) hts gin_7 (ht _ (List.mem_of_getElem? (i := 34) (by decide +kernel)))
  obtain ⟨c8, i8, h8⟩ := u_known (C := RX8) (T := TX8) (N := 8) (n := 8) hts gin_8 (ht _ (List.mem_of_getElem? (i := 26) (by decide +kernel)))
  obtain ⟨c9, i9, h9⟩ := u_known (C := RX9) (T := TX9) (N := 32) (n := 32) hts gin_9 (ht _ (List.mem_of_getElem? (i := 1174) (by decide +kernel)))
  have hT := gChkT_ok
  unfold gChkT at hT
  obtain ⟨t1, hT⟩ := gand hT
  obtain ⟨t2, hT⟩ := gand hT
  obtain ⟨t3, hT⟩ := gand hT
  obtain ⟨t4, hT⟩ := gand hT
  obtain ⟨t5, hT⟩ := gand hT
  obtain ⟨t6, hT⟩ := gand hT
  obtain ⟨t7, hT⟩ := gand hT
  obtain ⟨t8, hT⟩ := gand hT
  obtain ⟨t9, hT⟩ := gand hT
  obtain ⟨t10, hT⟩ := gand hT
  obtain ⟨t11, hT⟩ := gand hT
  obtain ⟨t12, t13⟩ := gand hT
  obtain ⟨a0, k0, p0, q01, q02, q03⟩ := Cond.arrayClass_spec (args := args) (first := s) (o := none) (s := s) (idx := []) (ht _ (of_decide_eq_true t11))
  obtain ⟨a1, k1, p1, q11, q12, q13⟩ := Cond.arrayClass_spec (args := args) (first := s) (o := none) (s := s) (idx := []) (ht _ (of_decide_eq_true t12))
  obtain ⟨a2, k2, p2, q21, q22, q23⟩ := Cond.arrayClass_spec (args := args) (first := s) (o := none) (s := s) (idx := []) (ht _ (of_decide_eq_true t13))
  obtain ⟨p3, a3, k3, q31, -, q32, q33, q34⟩ := Cond.arrayOver_spec (args := args) (first := s) (o := none) (s := s) (idx := []) (ht _ (of_decide_eq_true t10))
  refine ⟨(fun k => [c0, c1, c2, c3, c4, c5, c6, c7, c8, c9].getD k c0, fun k => ([i0, i1, i2, i3, i4, i5, i6, i7, i8, i9] : List (Nat → Nat)).getD k i0), fun k => [a0, a1, a2, a3].getD k a0, ?_, ?_⟩
  · intro k q hq
    match k, hq with
    | 0, hq => cases hq; exact h0
    | 1, hq => cases hq; exact h1
    | 2, hq => cases hq; exact h2
    | 3, hq => cases hq; exact h3
    | 4, hq => cases hq; exact h4
    | 5, hq => cases hq; exact h5
    | 6, hq => cases hq; exact h6
    | 7, hq => cases hq; exact h7
    | 8, hq => cases hq; exact h8
    | 9, hq => cases hq; exact h9
    | k + 10, hq => cases hq
  · intro k q hq
    match k, hq with
    | 0, hq => cases hq; exact ⟨fun n z => ⟨(fun k h => by cases h), k0, q02, p0, q03⟩, q01⟩
    | 1, hq => cases hq; exact ⟨fun n z => ⟨(fun k h => by cases h), k1, q12, p1, q13⟩, q11⟩
    | 2, hq => cases hq; exact ⟨fun n z => ⟨(fun k h => by cases h), k2, q22, p2, q23⟩, q21⟩
    | 3, hq => cases hq; exact ⟨fun n z => ⟨(fun k h => by cases h), k3, q32, p3, q33⟩, k3, p3, q32, q33, q31, q34⟩
    | k + 4, hq => cases hq
