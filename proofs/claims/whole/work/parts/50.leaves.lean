set_option maxRecDepth 100000 in
set_option maxHeartbeats 4000000 in
theorem fJF_fill_s5 {γ : gG} {cs ss : Nat} {ε : gE5} (N : Nat) (n1 : Nat) (G : gOK γ) (hb : gcc γ = prog_28_method_103_code) (ho : gow γ = "java/util/Arrays") (hy : gly γ = (gyR1 n1)) (hR : grm γ = { frames := 0, cells := 0, slots := 0, locals := 0 }) (he : genv γ = ε) (hr : grt γ = none) (hE : gEnv ε) : gSm γ cs ss 5 (fJF_fill_k5 N n1) := by
  unfold fJF_fill_k5
  refine sm_lp (fun K5 h5 => ?_) N
  unfold fJF_fill_b5
  refine sm_iload_n (pc := 5) G hb (by decide +kernel : decode prog_28_method_103_code 5 = .ok (.iload_n 2, 1)) rfl ?_
  refine sm_iload_n (pc := 6) G hb (by decide +kernel : decode prog_28_method_103_code 6 = .ok (.iload_n 3, 1)) rfl ?_
  refine sm_icmp_ge (pc := 7) (tgt := 20) G hb (by decide +kernel : decode prog_28_method_103_code 7 = .ok (.if_icmp .ge 13, 3)) (by decide) ?_ ?_
  · skip
    exact sm_vret (pc := 20) G hb (by decide +kernel : decode prog_28_method_103_code 20 = .ok (.return_, 1)) hr
  · skip
    refine sm_aload_n (pc := 10) G hb (by decide +kernel : decode prog_28_method_103_code 10 = .ok (.aload_n 0, 1)) rfl ?_
    refine sm_iload_n (pc := 11) G hb (by decide +kernel : decode prog_28_method_103_code 11 = .ok (.iload_n 2, 1)) rfl ?_
    refine sm_iload_n (pc := 12) G hb (by decide +kernel : decode prog_28_method_103_code 12 = .ok (.iload_n 1, 1)) rfl ?_
    refine sm_iast (pc := 13) G hb hy (by decide +kernel : decode prog_28_method_103_code 13 = .ok (.iastore, 1)) ?_
    refine sm_iinc (pc := 14) G hb (by decide +kernel : decode prog_28_method_103_code 14 = .ok (.iinc 2 1, 3)) (by decide) ?_
    refine sm_goto (pc := 17) (tgt := 5) G hb (by decide +kernel : decode prog_28_method_103_code 17 = .ok (.goto (-12), 3)) (by decide) ?_
    refine sm_mask ?_
    exact h5
set_option maxRecDepth 100000 in
set_option maxHeartbeats 4000000 in
theorem fJF_fill_s0 {γ : gG} {cs ss : Nat} {ε : gE5} (N : Nat) (n1 : Nat) (G : gOK γ) (hb : gcc γ = prog_28_method_103_code) (ho : gow γ = "java/util/Arrays") (hy : gly γ = (gyR1 n1)) (hR : grm γ = { frames := 0, cells := 0, slots := 0, locals := 0 }) (he : genv γ = ε) (hr : grt γ = none) (hE : gEnv ε) : gSm γ cs ss 0 (fJF_fill_k0 N n1) := by
  unfold fJF_fill_k0
  refine sm_iconst (pc := 0) G hb (by decide +kernel : decode prog_28_method_103_code 0 = .ok (.iconst 0, 1)) (by decide) ?_
  refine sm_istore_n (pc := 1) G hb (by decide +kernel : decode prog_28_method_103_code 1 = .ok (.istore_n 2, 1)) rfl ?_
  refine sm_aload_n (pc := 2) G hb (by decide +kernel : decode prog_28_method_103_code 2 = .ok (.aload_n 0, 1)) rfl ?_
  refine sm_alen (pc := 3) G hb hy (by decide +kernel : decode prog_28_method_103_code 3 = .ok (.arraylength, 1)) ?_
  refine sm_istore_n (pc := 4) G hb (by decide +kernel : decode prog_28_method_103_code 4 = .ok (.istore_n 3, 1)) rfl ?_
  refine sm_mask ?_
  exact fJF_fill_s5 N n1 G hb ho hy hR he hr hE
theorem kJF_fill {ε : gE5} (hE : gEnv ε) (N : Nat) (n1 : Nat) : gCtr ε (⟨"java/util/Arrays", "fill", "([II)V"⟩ : MethodName) prog_28_method_103_code 4 none 0 0 (gyR1 n1) (fJF_fill N n1) :=
  gCtr_of hE.1 (by decide) (fun γ G hb ho hy hR he hr => fJF_fill_s0 N n1 G hb ho hy hR he hr hE)

set_option maxRecDepth 100000 in
set_option maxHeartbeats 4000000 in
theorem fX8_copyRow_s0 {γ : gG} {cs ss : Nat} {ε : gE5} (N : Nat) (n1 n2 : Nat) (G : gOK γ) (hb : gcc γ = cX8_copyRow) (ho : gow γ = RX8) (hy : gly γ = (gyR2 n1 n2)) (hR : grm γ = { frames := 1, cells := 0, slots := 0, locals := 26 }) (he : genv γ = ε) (hr : grt γ = none) (hE : gEnv ε) : gSm γ cs ss 0 (fX8_copyRow_k0 N n1 n2) := by
  unfold fX8_copyRow_k0
  refine sm_aload_n (pc := 0) G hb (by decide +kernel : decode cX8_copyRow 0 = .ok (.aload_n 0, 1)) rfl ?_
  refine sm_iconst (pc := 1) G hb (by decide +kernel : decode cX8_copyRow 1 = .ok (.iconst 0, 1)) (by decide) ?_
  refine sm_aload_n (pc := 2) G hb (by decide +kernel : decode cX8_copyRow 2 = .ok (.aload_n 1, 1)) rfl ?_
  refine sm_iconst (pc := 3) G hb (by decide +kernel : decode cX8_copyRow 3 = .ok (.iconst 0, 1)) (by decide) ?_
  refine sm_iload_n (pc := 4) G hb (by decide +kernel : decode cX8_copyRow 4 = .ok (.iload_n 2, 1)) rfl ?_
  refine sm_copy (pc := 5) G hb ho hy (by rw [hR]; exact ⟨by decide, by decide⟩) gw3_47 gw3_49 gw3_48 gw1_22 (by decide +kernel : decode cX8_copyRow 5 = .ok (.invokestatic 347, 3)) ?_
  exact sm_vret (pc := 8) G hb (by decide +kernel : decode cX8_copyRow 8 = .ok (.return_, 1)) hr
theorem kX8_copyRow {ε : gE5} (hE : gEnv ε) (N : Nat) (n1 n2 : Nat) : gCtr ε yX8_copyRow cX8_copyRow 3 none 1 26 (gyR2 n1 n2) (fX8_copyRow N n1 n2) :=
  gCtr_of hE.1 (by decide) (fun γ G hb ho hy hR he hr => fX8_copyRow_s0 N n1 n2 G hb ho hy hR he hr hE)

set_option maxRecDepth 100000 in
set_option maxHeartbeats 4000000 in
theorem fX8_pair_s0 {γ : gG} {cs ss : Nat} {ε : gE5} (N : Nat) (G : gOK γ) (hb : gcc γ = cX8_pair) (ho : gow γ = RX8) (hy : gly γ = gy0) (hR : grm γ = { frames := 0, cells := 0, slots := 0, locals := 0 }) (he : genv γ = ε) (hr : grt γ = (some .int)) (hE : gEnv ε) : gSm γ cs ss 0 (fX8_pair_k0 N) := by
  unfold fX8_pair_k0
  refine sm_iload_n (pc := 0) G hb (by decide +kernel : decode cX8_pair 0 = .ok (.iload_n 0, 1)) rfl ?_
  refine sm_bipush (pc := 1) G hb (by decide +kernel : decode cX8_pair 1 = .ok (.bipush 10, 2)) (by decide) ?_
  refine sm_imul (pc := 3) G hb (by decide +kernel : decode cX8_pair 3 = .ok (.imul, 1)) ?_
  refine sm_iload_n (pc := 4) G hb (by decide +kernel : decode cX8_pair 4 = .ok (.iload_n 1, 1)) rfl ?_
  refine sm_iadd (pc := 5) G hb (by decide +kernel : decode cX8_pair 5 = .ok (.iadd, 1)) ?_
  exact sm_iret (pc := 6) G hb (by decide +kernel : decode cX8_pair 6 = .ok (.ireturn, 1)) hr
theorem kX8_pair {ε : gE5} (hE : gEnv ε) (N : Nat) : gCtr ε yX8_pair cX8_pair 2 (some .int) 0 0 gy0 (fX8_pair N) :=
  gCtr_of hE.1 (by decide) (fun γ G hb ho hy hR he hr => fX8_pair_s0 N G hb ho hy hR he hr hE)

set_option maxRecDepth 100000 in
set_option maxHeartbeats 4000000 in
theorem fX8_sum_s11 {γ : gG} {cs ss : Nat} {ε : gE5} (N : Nat) (G : gOK γ) (hb : gcc γ = cX8_sum) (ho : gow γ = RX8) (hy : gly γ = gyA100) (hR : grm γ = { frames := 0, cells := 0, slots := 0, locals := 0 }) (he : genv γ = ε) (hr : grt γ = (some .long)) (hE : gEnv ε) : gSm γ cs ss 11 (fX8_sum_k11 N) := by
  unfold fX8_sum_k11
  refine sm_lp (fun K11 h11 => ?_) N
  unfold fX8_sum_b11
  refine sm_iload (pc := 11) G hb (by decide +kernel : decode cX8_sum 11 = .ok (.iload 5, 2)) ?_
  refine sm_iload (pc := 13) G hb (by decide +kernel : decode cX8_sum 13 = .ok (.iload 4, 2)) ?_
  refine sm_icmp_ge (pc := 15) (tgt := 36) G hb (by decide +kernel : decode cX8_sum 15 = .ok (.if_icmp .ge 21, 3)) (by decide) ?_ ?_
  · skip
    refine sm_lload_n (pc := 36) G hb (by decide +kernel : decode cX8_sum 36 = .ok (.lload_n 1, 1)) rfl ?_
    exact sm_lret (pc := 37) G hb (by decide +kernel : decode cX8_sum 37 = .ok (.lreturn, 1)) hr
  · skip
    refine sm_aload_n (pc := 18) G hb (by decide +kernel : decode cX8_sum 18 = .ok (.aload_n 3, 1)) rfl ?_
    refine sm_iload (pc := 19) G hb (by decide +kernel : decode cX8_sum 19 = .ok (.iload 5, 2)) ?_
    refine sm_iald (pc := 21) G hb hy (by decide +kernel : decode cX8_sum 21 = .ok (.iaload, 1)) ?_
    refine sm_istore (pc := 22) G hb (by decide +kernel : decode cX8_sum 22 = .ok (.istore 6, 2)) ?_
    refine sm_lload_n (pc := 24) G hb (by decide +kernel : decode cX8_sum 24 = .ok (.lload_n 1, 1)) rfl ?_
    refine sm_iload (pc := 25) G hb (by decide +kernel : decode cX8_sum 25 = .ok (.iload 6, 2)) ?_
    refine sm_i2l (pc := 27) G hb (by decide +kernel : decode cX8_sum 27 = .ok (.i2l, 1)) ?_
    refine sm_ladd (pc := 28) G hb (by decide +kernel : decode cX8_sum 28 = .ok (.ladd, 1)) ?_
    refine sm_lstore_n (pc := 29) G hb (by decide +kernel : decode cX8_sum 29 = .ok (.lstore_n 1, 1)) rfl ?_
    refine sm_iinc (pc := 30) G hb (by decide +kernel : decode cX8_sum 30 = .ok (.iinc 5 1, 3)) (by decide) ?_
    refine sm_goto (pc := 33) (tgt := 11) G hb (by decide +kernel : decode cX8_sum 33 = .ok (.goto (-22), 3)) (by decide) ?_
    refine sm_mask ?_
    exact h11
set_option maxRecDepth 100000 in
set_option maxHeartbeats 4000000 in
theorem fX8_sum_s0 {γ : gG} {cs ss : Nat} {ε : gE5} (N : Nat) (G : gOK γ) (hb : gcc γ = cX8_sum) (ho : gow γ = RX8) (hy : gly γ = gyA100) (hR : grm γ = { frames := 0, cells := 0, slots := 0, locals := 0 }) (he : genv γ = ε) (hr : grt γ = (some .long)) (hE : gEnv ε) : gSm γ cs ss 0 (fX8_sum_k0 N) := by
  unfold fX8_sum_k0
  refine sm_lconst (pc := 0) G hb (by decide +kernel : decode cX8_sum 0 = .ok (.lconst 0, 1)) (by decide) ?_
  refine sm_lstore_n (pc := 1) G hb (by decide +kernel : decode cX8_sum 1 = .ok (.lstore_n 1, 1)) rfl ?_
  refine sm_aload_n (pc := 2) G hb (by decide +kernel : decode cX8_sum 2 = .ok (.aload_n 0, 1)) rfl ?_
  refine sm_astore_n (pc := 3) G hb (by decide +kernel : decode cX8_sum 3 = .ok (.astore_n 3, 1)) rfl ?_
  refine sm_aload_n (pc := 4) G hb (by decide +kernel : decode cX8_sum 4 = .ok (.aload_n 3, 1)) rfl ?_
  refine sm_alen (pc := 5) G hb hy (by decide +kernel : decode cX8_sum 5 = .ok (.arraylength, 1)) ?_
  refine sm_istore (pc := 6) G hb (by decide +kernel : decode cX8_sum 6 = .ok (.istore 4, 2)) ?_
  refine sm_iconst (pc := 8) G hb (by decide +kernel : decode cX8_sum 8 = .ok (.iconst 0, 1)) (by decide) ?_
  refine sm_istore (pc := 9) G hb (by decide +kernel : decode cX8_sum 9 = .ok (.istore 5, 2)) ?_
  refine sm_mask ?_
  exact fX8_sum_s11 N G hb ho hy hR he hr hE
theorem kX8_sum {ε : gE5} (hE : gEnv ε) (N : Nat) : gCtr ε yX8_sum cX8_sum 7 (some .long) 0 0 gyA100 (fX8_sum N) :=
  gCtr_of hE.1 (by decide) (fun γ G hb ho hy hR he hr => fX8_sum_s0 N G hb ho hy hR he hr hE)

set_option maxRecDepth 100000 in
set_option maxHeartbeats 4000000 in
theorem fX8_sumOfSquares_s11 {γ : gG} {cs ss : Nat} {ε : gE5} (N : Nat) (G : gOK γ) (hb : gcc γ = cX8_sumOfSquares) (ho : gow γ = RX8) (hy : gly γ = gyA100) (hR : grm γ = { frames := 0, cells := 0, slots := 0, locals := 0 }) (he : genv γ = ε) (hr : grt γ = (some .long)) (hE : gEnv ε) : gSm γ cs ss 11 (fX8_sumOfSquares_k11 N) := by
  unfold fX8_sumOfSquares_k11
  refine sm_lp (fun K11 h11 => ?_) N
  unfold fX8_sumOfSquares_b11
  refine sm_iload (pc := 11) G hb (by decide +kernel : decode cX8_sumOfSquares 11 = .ok (.iload 5, 2)) ?_
  refine sm_iload (pc := 13) G hb (by decide +kernel : decode cX8_sumOfSquares 13 = .ok (.iload 4, 2)) ?_
  refine sm_icmp_ge (pc := 15) (tgt := 40) G hb (by decide +kernel : decode cX8_sumOfSquares 15 = .ok (.if_icmp .ge 25, 3)) (by decide) ?_ ?_
  · skip
    refine sm_lload_n (pc := 40) G hb (by decide +kernel : decode cX8_sumOfSquares 40 = .ok (.lload_n 1, 1)) rfl ?_
    exact sm_lret (pc := 41) G hb (by decide +kernel : decode cX8_sumOfSquares 41 = .ok (.lreturn, 1)) hr
  · skip
    refine sm_aload_n (pc := 18) G hb (by decide +kernel : decode cX8_sumOfSquares 18 = .ok (.aload_n 3, 1)) rfl ?_
    refine sm_iload (pc := 19) G hb (by decide +kernel : decode cX8_sumOfSquares 19 = .ok (.iload 5, 2)) ?_
    refine sm_iald (pc := 21) G hb hy (by decide +kernel : decode cX8_sumOfSquares 21 = .ok (.iaload, 1)) ?_
    refine sm_istore (pc := 22) G hb (by decide +kernel : decode cX8_sumOfSquares 22 = .ok (.istore 6, 2)) ?_
    refine sm_lload_n (pc := 24) G hb (by decide +kernel : decode cX8_sumOfSquares 24 = .ok (.lload_n 1, 1)) rfl ?_
    refine sm_iload (pc := 25) G hb (by decide +kernel : decode cX8_sumOfSquares 25 = .ok (.iload 6, 2)) ?_
    refine sm_i2l (pc := 27) G hb (by decide +kernel : decode cX8_sumOfSquares 27 = .ok (.i2l, 1)) ?_
    refine sm_iload (pc := 28) G hb (by decide +kernel : decode cX8_sumOfSquares 28 = .ok (.iload 6, 2)) ?_
    refine sm_i2l (pc := 30) G hb (by decide +kernel : decode cX8_sumOfSquares 30 = .ok (.i2l, 1)) ?_
    refine sm_lmul (pc := 31) G hb (by decide +kernel : decode cX8_sumOfSquares 31 = .ok (.lmul, 1)) ?_
    refine sm_ladd (pc := 32) G hb (by decide +kernel : decode cX8_sumOfSquares 32 = .ok (.ladd, 1)) ?_
    refine sm_lstore_n (pc := 33) G hb (by decide +kernel : decode cX8_sumOfSquares 33 = .ok (.lstore_n 1, 1)) rfl ?_
    refine sm_iinc (pc := 34) G hb (by decide +kernel : decode cX8_sumOfSquares 34 = .ok (.iinc 5 1, 3)) (by decide) ?_
    refine sm_goto (pc := 37) (tgt := 11) G hb (by decide +kernel : decode cX8_sumOfSquares 37 = .ok (.goto (-26), 3)) (by decide) ?_
    refine sm_mask ?_
    exact h11
set_option maxRecDepth 100000 in
set_option maxHeartbeats 4000000 in
theorem fX8_sumOfSquares_s0 {γ : gG} {cs ss : Nat} {ε : gE5} (N : Nat) (G : gOK γ) (hb : gcc γ = cX8_sumOfSquares) (ho : gow γ = RX8) (hy : gly γ = gyA100) (hR : grm γ = { frames := 0, cells := 0, slots := 0, locals := 0 }) (he : genv γ = ε) (hr : grt γ = (some .long)) (hE : gEnv ε) : gSm γ cs ss 0 (fX8_sumOfSquares_k0 N) := by
  unfold fX8_sumOfSquares_k0
  refine sm_lconst (pc := 0) G hb (by decide +kernel : decode cX8_sumOfSquares 0 = .ok (.lconst 0, 1)) (by decide) ?_
  refine sm_lstore_n (pc := 1) G hb (by decide +kernel : decode cX8_sumOfSquares 1 = .ok (.lstore_n 1, 1)) rfl ?_
  refine sm_aload_n (pc := 2) G hb (by decide +kernel : decode cX8_sumOfSquares 2 = .ok (.aload_n 0, 1)) rfl ?_
  refine sm_astore_n (pc := 3) G hb (by decide +kernel : decode cX8_sumOfSquares 3 = .ok (.astore_n 3, 1)) rfl ?_
  refine sm_aload_n (pc := 4) G hb (by decide +kernel : decode cX8_sumOfSquares 4 = .ok (.aload_n 3, 1)) rfl ?_
  refine sm_alen (pc := 5) G hb hy (by decide +kernel : decode cX8_sumOfSquares 5 = .ok (.arraylength, 1)) ?_
  refine sm_istore (pc := 6) G hb (by decide +kernel : decode cX8_sumOfSquares 6 = .ok (.istore 4, 2)) ?_
  refine sm_iconst (pc := 8) G hb (by decide +kernel : decode cX8_sumOfSquares 8 = .ok (.iconst 0, 1)) (by decide) ?_
  refine sm_istore (pc := 9) G hb (by decide +kernel : decode cX8_sumOfSquares 9 = .ok (.istore 5, 2)) ?_
  refine sm_mask ?_
  exact fX8_sumOfSquares_s11 N G hb ho hy hR he hr hE
theorem kX8_sumOfSquares {ε : gE5} (hE : gEnv ε) (N : Nat) : gCtr ε yX8_sumOfSquares cX8_sumOfSquares 7 (some .long) 0 0 gyA100 (fX8_sumOfSquares N) :=
  gCtr_of hE.1 (by decide) (fun γ G hb ho hy hR he hr => fX8_sumOfSquares_s0 N G hb ho hy hR he hr hE)

set_option maxRecDepth 100000 in
set_option maxHeartbeats 4000000 in
theorem fX8_countBytes_s22 {γ : gG} {cs ss : Nat} {ε : gE5} (N : Nat) (G : gOK γ) (hb : gcc γ = cX8_countBytes) (ho : gow γ = RX8) (hy : gly γ = gy0) (hR : grm γ = { frames := 0, cells := 0, slots := 0, locals := 0 }) (he : genv γ = ε) (hr : grt γ = (some .int)) (hE : gEnv ε) (K5 : gK) (h5 : gSm γ cs ss 5 K5) : gSm γ cs ss 22 (fX8_countBytes_k22 N K5) := by
  unfold fX8_countBytes_k22
  refine sm_iinc (pc := 22) G hb (by decide +kernel : decode cX8_countBytes 22 = .ok (.iinc 2 (-8), 3)) (by decide) ?_
  refine sm_goto (pc := 25) (tgt := 5) G hb (by decide +kernel : decode cX8_countBytes 25 = .ok (.goto (-20), 3)) (by decide) ?_
  refine sm_mask ?_
  exact h5
set_option maxRecDepth 100000 in
set_option maxHeartbeats 4000000 in
theorem fX8_countBytes_s5 {γ : gG} {cs ss : Nat} {ε : gE5} (N : Nat) (G : gOK γ) (hb : gcc γ = cX8_countBytes) (ho : gow γ = RX8) (hy : gly γ = gy0) (hR : grm γ = { frames := 0, cells := 0, slots := 0, locals := 0 }) (he : genv γ = ε) (hr : grt γ = (some .int)) (hE : gEnv ε) : gSm γ cs ss 5 (fX8_countBytes_k5 N) := by
  unfold fX8_countBytes_k5
  refine sm_lp (fun K5 h5 => ?_) N
  unfold fX8_countBytes_b5
  refine sm_iload_n (pc := 5) G hb (by decide +kernel : decode cX8_countBytes 5 = .ok (.iload_n 2, 1)) rfl ?_
  refine sm_if_lt (pc := 6) (tgt := 28) G hb (by decide +kernel : decode cX8_countBytes 6 = .ok (.ifCond .lt 22, 3)) (by decide) ?_ ?_
  · skip
    refine sm_iload_n (pc := 28) G hb (by decide +kernel : decode cX8_countBytes 28 = .ok (.iload_n 1, 1)) rfl ?_
    exact sm_iret (pc := 29) G hb (by decide +kernel : decode cX8_countBytes 29 = .ok (.ireturn, 1)) hr
  · skip
    refine sm_iload_n (pc := 9) G hb (by decide +kernel : decode cX8_countBytes 9 = .ok (.iload_n 0, 1)) rfl ?_
    refine sm_iload_n (pc := 10) G hb (by decide +kernel : decode cX8_countBytes 10 = .ok (.iload_n 2, 1)) rfl ?_
    refine sm_iushr (pc := 11) G hb (by decide +kernel : decode cX8_countBytes 11 = .ok (.iushr, 1)) ?_
    refine sm_sipush (pc := 12) G hb (by decide +kernel : decode cX8_countBytes 12 = .ok (.sipush 255, 3)) (by decide) ?_
    refine sm_iand (pc := 15) G hb (by decide +kernel : decode cX8_countBytes 15 = .ok (.iand, 1)) ?_
    refine sm_if_eq (pc := 16) (tgt := 22) G hb (by decide +kernel : decode cX8_countBytes 16 = .ok (.ifCond .eq 6, 3)) (by decide) ?_ ?_
    · skip
      refine sm_mask ?_
      exact fX8_countBytes_s22 N G hb ho hy hR he hr hE K5 h5
    · skip
      refine sm_iinc (pc := 19) G hb (by decide +kernel : decode cX8_countBytes 19 = .ok (.iinc 1 1, 3)) (by decide) ?_
      refine sm_mask ?_
      exact fX8_countBytes_s22 N G hb ho hy hR he hr hE K5 h5
set_option maxRecDepth 100000 in
set_option maxHeartbeats 4000000 in
theorem fX8_countBytes_s0 {γ : gG} {cs ss : Nat} {ε : gE5} (N : Nat) (G : gOK γ) (hb : gcc γ = cX8_countBytes) (ho : gow γ = RX8) (hy : gly γ = gy0) (hR : grm γ = { frames := 0, cells := 0, slots := 0, locals := 0 }) (he : genv γ = ε) (hr : grt γ = (some .int)) (hE : gEnv ε) : gSm γ cs ss 0 (fX8_countBytes_k0 N) := by
  unfold fX8_countBytes_k0
  refine sm_iconst (pc := 0) G hb (by decide +kernel : decode cX8_countBytes 0 = .ok (.iconst 0, 1)) (by decide) ?_
  refine sm_istore_n (pc := 1) G hb (by decide +kernel : decode cX8_countBytes 1 = .ok (.istore_n 1, 1)) rfl ?_
  refine sm_bipush (pc := 2) G hb (by decide +kernel : decode cX8_countBytes 2 = .ok (.bipush 24, 2)) (by decide) ?_
  refine sm_istore_n (pc := 4) G hb (by decide +kernel : decode cX8_countBytes 4 = .ok (.istore_n 2, 1)) rfl ?_
  refine sm_mask ?_
  exact fX8_countBytes_s5 N G hb ho hy hR he hr hE
theorem kX8_countBytes {ε : gE5} (hE : gEnv ε) (N : Nat) : gCtr ε yX8_countBytes cX8_countBytes 3 (some .int) 0 0 gy0 (fX8_countBytes N) :=
  gCtr_of hE.1 (by decide) (fun γ G hb ho hy hR he hr => fX8_countBytes_s0 N G hb ho hy hR he hr hE)

set_option maxRecDepth 100000 in
set_option maxHeartbeats 4000000 in
theorem fX8_commonDivisor_s7 {γ : gG} {cs ss : Nat} {ε : gE5} (N : Nat) (G : gOK γ) (hb : gcc γ = cX8_commonDivisor) (ho : gow γ = RX8) (hy : gly γ = gy0) (hR : grm γ = { frames := 0, cells := 0, slots := 0, locals := 0 }) (he : genv γ = ε) (hr : grt γ = (some .int)) (hE : gEnv ε) : gSm γ cs ss 7 (fX8_commonDivisor_k7 N) := by
  unfold fX8_commonDivisor_k7
  refine sm_lp (fun K7 h7 => ?_) N
  unfold fX8_commonDivisor_b7
  refine sm_iload (pc := 7) G hb (by decide +kernel : decode cX8_commonDivisor 7 = .ok (.iload 4, 2)) ?_
  refine sm_bipush (pc := 9) G hb (by decide +kernel : decode cX8_commonDivisor 9 = .ok (.bipush 100, 2)) (by decide) ?_
  refine sm_icmp_ge (pc := 11) (tgt := 34) G hb (by decide +kernel : decode cX8_commonDivisor 11 = .ok (.if_icmp .ge 23, 3)) (by decide) ?_ ?_
  · skip
    refine sm_iload_n (pc := 34) G hb (by decide +kernel : decode cX8_commonDivisor 34 = .ok (.iload_n 2, 1)) rfl ?_
    exact sm_iret (pc := 35) G hb (by decide +kernel : decode cX8_commonDivisor 35 = .ok (.ireturn, 1)) hr
  · skip
    refine sm_iload_n (pc := 14) G hb (by decide +kernel : decode cX8_commonDivisor 14 = .ok (.iload_n 3, 1)) rfl ?_
    refine sm_if_eq (pc := 15) (tgt := 34) G hb (by decide +kernel : decode cX8_commonDivisor 15 = .ok (.ifCond .eq 19, 3)) (by decide) ?_ ?_
    · skip
      refine sm_iload_n (pc := 34) G hb (by decide +kernel : decode cX8_commonDivisor 34 = .ok (.iload_n 2, 1)) rfl ?_
      exact sm_iret (pc := 35) G hb (by decide +kernel : decode cX8_commonDivisor 35 = .ok (.ireturn, 1)) hr
    · skip
      refine sm_iload_n (pc := 18) G hb (by decide +kernel : decode cX8_commonDivisor 18 = .ok (.iload_n 2, 1)) rfl ?_
      refine sm_iload_n (pc := 19) G hb (by decide +kernel : decode cX8_commonDivisor 19 = .ok (.iload_n 3, 1)) rfl ?_
      refine sm_irem (pc := 20) G hb (by decide +kernel : decode cX8_commonDivisor 20 = .ok (.irem, 1)) ?_
      refine sm_istore (pc := 21) G hb (by decide +kernel : decode cX8_commonDivisor 21 = .ok (.istore 5, 2)) ?_
      refine sm_iload_n (pc := 23) G hb (by decide +kernel : decode cX8_commonDivisor 23 = .ok (.iload_n 3, 1)) rfl ?_
      refine sm_istore_n (pc := 24) G hb (by decide +kernel : decode cX8_commonDivisor 24 = .ok (.istore_n 2, 1)) rfl ?_
      refine sm_iload (pc := 25) G hb (by decide +kernel : decode cX8_commonDivisor 25 = .ok (.iload 5, 2)) ?_
      refine sm_istore_n (pc := 27) G hb (by decide +kernel : decode cX8_commonDivisor 27 = .ok (.istore_n 3, 1)) rfl ?_
      refine sm_iinc (pc := 28) G hb (by decide +kernel : decode cX8_commonDivisor 28 = .ok (.iinc 4 1, 3)) (by decide) ?_
      refine sm_goto (pc := 31) (tgt := 7) G hb (by decide +kernel : decode cX8_commonDivisor 31 = .ok (.goto (-24), 3)) (by decide) ?_
      refine sm_mask ?_
      exact h7
set_option maxRecDepth 100000 in
set_option maxHeartbeats 4000000 in
theorem fX8_commonDivisor_s0 {γ : gG} {cs ss : Nat} {ε : gE5} (N : Nat) (G : gOK γ) (hb : gcc γ = cX8_commonDivisor) (ho : gow γ = RX8) (hy : gly γ = gy0) (hR : grm γ = { frames := 0, cells := 0, slots := 0, locals := 0 }) (he : genv γ = ε) (hr : grt γ = (some .int)) (hE : gEnv ε) : gSm γ cs ss 0 (fX8_commonDivisor_k0 N) := by
  unfold fX8_commonDivisor_k0
  refine sm_iload_n (pc := 0) G hb (by decide +kernel : decode cX8_commonDivisor 0 = .ok (.iload_n 0, 1)) rfl ?_
  refine sm_istore_n (pc := 1) G hb (by decide +kernel : decode cX8_commonDivisor 1 = .ok (.istore_n 2, 1)) rfl ?_
  refine sm_iload_n (pc := 2) G hb (by decide +kernel : decode cX8_commonDivisor 2 = .ok (.iload_n 1, 1)) rfl ?_
  refine sm_istore_n (pc := 3) G hb (by decide +kernel : decode cX8_commonDivisor 3 = .ok (.istore_n 3, 1)) rfl ?_
  refine sm_iconst (pc := 4) G hb (by decide +kernel : decode cX8_commonDivisor 4 = .ok (.iconst 0, 1)) (by decide) ?_
  refine sm_istore (pc := 5) G hb (by decide +kernel : decode cX8_commonDivisor 5 = .ok (.istore 4, 2)) ?_
  refine sm_mask ?_
  exact fX8_commonDivisor_s7 N G hb ho hy hR he hr hE
theorem kX8_commonDivisor {ε : gE5} (hE : gEnv ε) (N : Nat) : gCtr ε yX8_commonDivisor cX8_commonDivisor 6 (some .int) 0 0 gy0 (fX8_commonDivisor N) :=
  gCtr_of hE.1 (by decide) (fun γ G hb ho hy hR he hr => fX8_commonDivisor_s0 N G hb ho hy hR he hr hE)
