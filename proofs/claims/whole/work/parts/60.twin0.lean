set_option maxRecDepth 100000 in
set_option maxHeartbeats 4000000 in
theorem fX9_thrown_s0 {γ : gG} {cs ss : Nat} {ε : gE5} (N : Nat) (G : gOK γ) (hb : gcc γ = cX9_thrown) (ho : gow γ = RX9) (hy : gly γ = gyM) (hR : grm γ = { frames := 0, cells := 0, slots := 0, locals := 0 }) (he : genv γ = ε) (hr : grt γ = (some .int)) (hE : gEnv ε) : gSm γ cs ss 0 (fX9_thrown_k0 N) := by
  unfold fX9_thrown_k0
  refine sm_aload_n (pc := 0) G hb (by decide +kernel : decode cX9_thrown 0 = .ok (.aload_n 0, 1)) rfl ?_
  refine sm_get (pc := 1) (ci := 9) (j := 0) (N := 32) (T := TX9) G hb ho hy rfl (by decide) gin_9 gw5_236 (by decide +kernel : decode cX9_thrown 1 = .ok (.getfield 76, 3)) ?_
  exact sm_iret (pc := 4) G hb (by decide +kernel : decode cX9_thrown 4 = .ok (.ireturn, 1)) hr
theorem kX9_thrown {ε : gE5} (hE : gEnv ε) (N : Nat) : gCtr ε yX9_thrown cX9_thrown 1 (some .int) 0 0 gyM (fX9_thrown N) :=
  gCtr_of hE.1 (by decide) (fun γ G hb ho hy hR he hr => fX9_thrown_s0 N G hb ho hy hR he hr hE)

set_option maxRecDepth 100000 in
set_option maxHeartbeats 4000000 in
theorem fX9_in_s0 {γ : gG} {cs ss : Nat} {ε : gE5} (N : Nat) (G : gOK γ) (hb : gcc γ = cX9_in) (ho : gow γ = RX9) (hy : gly γ = gy0) (hR : grm γ = { frames := 0, cells := 0, slots := 0, locals := 0 }) (he : genv γ = ε) (hr : grt γ = (some .boolean)) (hE : gEnv ε) : gSm γ cs ss 0 (fX9_in_k0 N) := by
  unfold fX9_in_k0
  refine sm_lload_n (pc := 0) G hb (by decide +kernel : decode cX9_in 0 = .ok (.lload_n 0, 1)) rfl ?_
  refine sm_lload_n (pc := 1) G hb (by decide +kernel : decode cX9_in 1 = .ok (.lload_n 2, 1)) rfl ?_
  refine sm_lcmp (pc := 2) G hb (by decide +kernel : decode cX9_in 2 = .ok (.lcmp, 1)) ?_
  refine sm_if_lt (pc := 3) (tgt := 17) G hb (by decide +kernel : decode cX9_in 3 = .ok (.ifCond .lt 14, 3)) (by decide) ?_ ?_
  · skip
    refine sm_iconst (pc := 17) G hb (by decide +kernel : decode cX9_in 17 = .ok (.iconst 0, 1)) (by decide) ?_
    exact sm_zret (pc := 18) G hb (by decide +kernel : decode cX9_in 18 = .ok (.ireturn, 1)) hr
  · skip
    refine sm_lload_n (pc := 6) G hb (by decide +kernel : decode cX9_in 6 = .ok (.lload_n 0, 1)) rfl ?_
    refine sm_lload (pc := 7) G hb (by decide +kernel : decode cX9_in 7 = .ok (.lload 4, 2)) ?_
    refine sm_lcmp (pc := 9) G hb (by decide +kernel : decode cX9_in 9 = .ok (.lcmp, 1)) ?_
    refine sm_if_gt (pc := 10) (tgt := 17) G hb (by decide +kernel : decode cX9_in 10 = .ok (.ifCond .gt 7, 3)) (by decide) ?_ ?_
    · skip
      refine sm_iconst (pc := 17) G hb (by decide +kernel : decode cX9_in 17 = .ok (.iconst 0, 1)) (by decide) ?_
      exact sm_zret (pc := 18) G hb (by decide +kernel : decode cX9_in 18 = .ok (.ireturn, 1)) hr
    · skip
      refine sm_iconst (pc := 13) G hb (by decide +kernel : decode cX9_in 13 = .ok (.iconst 1, 1)) (by decide) ?_
      refine sm_goto (pc := 14) (tgt := 18) G hb (by decide +kernel : decode cX9_in 14 = .ok (.goto 4, 3)) (by decide) ?_
      exact sm_zret (pc := 18) G hb (by decide +kernel : decode cX9_in 18 = .ok (.ireturn, 1)) hr
theorem kX9_in {ε : gE5} (hE : gEnv ε) (N : Nat) : gCtr ε yX9_in cX9_in 6 (some .boolean) 0 0 gy0 (fX9_in N) :=
  gCtr_of hE.1 (by decide) (fun γ G hb ho hy hR he hr => fX9_in_s0 N G hb ho hy hR he hr hE)

set_option maxRecDepth 100000 in
set_option maxHeartbeats 4000000 in
theorem fX9_fails_s9 {γ : gG} {cs ss : Nat} {ε : gE5} (N : Nat) (G : gOK γ) (hb : gcc γ = cX9_fails) (ho : gow γ = RX9) (hy : gly γ = gyM) (hR : grm γ = { frames := 0, cells := 0, slots := 0, locals := 0 }) (he : genv γ = ε) (hr : grt γ = (some .boolean)) (hE : gEnv ε) : gSm γ cs ss 9 (fX9_fails_k9 N) := by
  unfold fX9_fails_k9
  refine sm_iload_n (pc := 9) G hb (by decide +kernel : decode cX9_fails 9 = .ok (.iload_n 1, 1)) rfl ?_
  refine sm_if_ne (pc := 10) (tgt := 17) G hb (by decide +kernel : decode cX9_fails 10 = .ok (.ifCond .ne 7, 3)) (by decide) ?_ ?_
  · skip
    refine sm_iconst (pc := 17) G hb (by decide +kernel : decode cX9_fails 17 = .ok (.iconst 0, 1)) (by decide) ?_
    exact sm_zret (pc := 18) G hb (by decide +kernel : decode cX9_fails 18 = .ok (.ireturn, 1)) hr
  · skip
    refine sm_iconst (pc := 13) G hb (by decide +kernel : decode cX9_fails 13 = .ok (.iconst 1, 1)) (by decide) ?_
    refine sm_goto (pc := 14) (tgt := 18) G hb (by decide +kernel : decode cX9_fails 14 = .ok (.goto 4, 3)) (by decide) ?_
    exact sm_zret (pc := 18) G hb (by decide +kernel : decode cX9_fails 18 = .ok (.ireturn, 1)) hr
set_option maxRecDepth 100000 in
set_option maxHeartbeats 4000000 in
theorem fX9_fails_s0 {γ : gG} {cs ss : Nat} {ε : gE5} (N : Nat) (G : gOK γ) (hb : gcc γ = cX9_fails) (ho : gow γ = RX9) (hy : gly γ = gyM) (hR : grm γ = { frames := 0, cells := 0, slots := 0, locals := 0 }) (he : genv γ = ε) (hr : grt γ = (some .boolean)) (hE : gEnv ε) : gSm γ cs ss 0 (fX9_fails_k0 N) := by
  unfold fX9_fails_k0
  refine sm_iload_n (pc := 0) G hb (by decide +kernel : decode cX9_fails 0 = .ok (.iload_n 1, 1)) rfl ?_
  refine sm_if_ne (pc := 1) (tgt := 9) G hb (by decide +kernel : decode cX9_fails 1 = .ok (.ifCond .ne 8, 3)) (by decide) ?_ ?_
  · skip
    refine sm_mask ?_
    exact fX9_fails_s9 N G hb ho hy hR he hr hE
  · skip
    refine sm_aload_n (pc := 4) G hb (by decide +kernel : decode cX9_fails 4 = .ok (.aload_n 0, 1)) rfl ?_
    refine sm_iload_n (pc := 5) G hb (by decide +kernel : decode cX9_fails 5 = .ok (.iload_n 2, 1)) rfl ?_
    refine sm_put (pc := 6) (ci := 9) (j := 0) (N := 32) (T := TX9) G hb ho hy tyX9 tyX9_ok nmX9 rfl (by decide) gin_9 gw5_236 rfl rfl (by decide +kernel : decode cX9_fails 6 = .ok (.putfield 76, 3)) ?_
    refine sm_mask ?_
    exact fX9_fails_s9 N G hb ho hy hR he hr hE
theorem kX9_fails {ε : gE5} (hE : gEnv ε) (N : Nat) : gCtr ε yX9_fails cX9_fails 3 (some .boolean) 0 0 gyM (fX9_fails N) :=
  gCtr_of hE.1 (by decide) (fun γ G hb ho hy hR he hr => fX9_fails_s0 N G hb ho hy hR he hr hE)

set_option maxRecDepth 100000 in
set_option maxHeartbeats 4000000 in
theorem fX9_has_s0 {γ : gG} {cs ss : Nat} {ε : gE5} (N : Nat) (G : gOK γ) (hb : gcc γ = cX9_has) (ho : gow γ = RX9) (hy : gly γ = gy0) (hR : grm γ = { frames := 0, cells := 0, slots := 0, locals := 0 }) (he : genv γ = ε) (hr : grt γ = (some .boolean)) (hE : gEnv ε) : gSm γ cs ss 0 (fX9_has_k0 N) := by
  unfold fX9_has_k0
  refine sm_iload_n (pc := 0) G hb (by decide +kernel : decode cX9_has 0 = .ok (.iload_n 0, 1)) rfl ?_
  refine sm_iload_n (pc := 1) G hb (by decide +kernel : decode cX9_has 1 = .ok (.iload_n 1, 1)) rfl ?_
  refine sm_ishr (pc := 2) G hb (by decide +kernel : decode cX9_has 2 = .ok (.ishr, 1)) ?_
  refine sm_iconst (pc := 3) G hb (by decide +kernel : decode cX9_has 3 = .ok (.iconst 1, 1)) (by decide) ?_
  refine sm_iand (pc := 4) G hb (by decide +kernel : decode cX9_has 4 = .ok (.iand, 1)) ?_
  refine sm_iconst (pc := 5) G hb (by decide +kernel : decode cX9_has 5 = .ok (.iconst 1, 1)) (by decide) ?_
  refine sm_icmp_ne (pc := 6) (tgt := 13) G hb (by decide +kernel : decode cX9_has 6 = .ok (.if_icmp .ne 7, 3)) (by decide) ?_ ?_
  · skip
    refine sm_iconst (pc := 13) G hb (by decide +kernel : decode cX9_has 13 = .ok (.iconst 0, 1)) (by decide) ?_
    exact sm_zret (pc := 14) G hb (by decide +kernel : decode cX9_has 14 = .ok (.ireturn, 1)) hr
  · skip
    refine sm_iconst (pc := 9) G hb (by decide +kernel : decode cX9_has 9 = .ok (.iconst 1, 1)) (by decide) ?_
    refine sm_goto (pc := 10) (tgt := 14) G hb (by decide +kernel : decode cX9_has 10 = .ok (.goto 4, 3)) (by decide) ?_
    exact sm_zret (pc := 14) G hb (by decide +kernel : decode cX9_has 14 = .ok (.ireturn, 1)) hr
theorem kX9_has {ε : gE5} (hE : gEnv ε) (N : Nat) : gCtr ε yX9_has cX9_has 2 (some .boolean) 0 0 gy0 (fX9_has N) :=
  gCtr_of hE.1 (by decide) (fun γ G hb ho hy hR he hr => fX9_has_s0 N G hb ho hy hR he hr hE)

set_option maxRecDepth 100000 in
set_option maxHeartbeats 4000000 in
theorem fX9_byteOf_s45 {γ : gG} {cs ss : Nat} {ε : gE5} (N : Nat) (G : gOK γ) (hb : gcc γ = cX9_byteOf) (ho : gow γ = RX9) (hy : gly γ = gy0) (hR : grm γ = { frames := 0, cells := 0, slots := 0, locals := 0 }) (he : genv γ = ε) (hr : grt γ = (some .int)) (hE : gEnv ε) : gSm γ cs ss 45 (fX9_byteOf_k45 N) := by
  unfold fX9_byteOf_k45
  refine sm_istore (pc := 45) G hb (by decide +kernel : decode cX9_byteOf 45 = .ok (.istore 6, 2)) ?_
  refine sm_iload (pc := 47) G hb (by decide +kernel : decode cX9_byteOf 47 = .ok (.iload 6, 2)) ?_
  refine sm_bipush (pc := 49) G hb (by decide +kernel : decode cX9_byteOf 49 = .ok (.bipush 24, 2)) (by decide) ?_
  refine sm_bipush (pc := 51) G hb (by decide +kernel : decode cX9_byteOf 51 = .ok (.bipush 8, 2)) (by decide) ?_
  refine sm_iload (pc := 53) G hb (by decide +kernel : decode cX9_byteOf 53 = .ok (.iload 5, 2)) ?_
  refine sm_iconst (pc := 55) G hb (by decide +kernel : decode cX9_byteOf 55 = .ok (.iconst 4, 1)) (by decide) ?_
  refine sm_irem (pc := 56) G hb (by decide +kernel : decode cX9_byteOf 56 = .ok (.irem, 1)) ?_
  refine sm_imul (pc := 57) G hb (by decide +kernel : decode cX9_byteOf 57 = .ok (.imul, 1)) ?_
  refine sm_isub (pc := 58) G hb (by decide +kernel : decode cX9_byteOf 58 = .ok (.isub, 1)) ?_
  refine sm_ishr (pc := 59) G hb (by decide +kernel : decode cX9_byteOf 59 = .ok (.ishr, 1)) ?_
  refine sm_sipush (pc := 60) G hb (by decide +kernel : decode cX9_byteOf 60 = .ok (.sipush 255, 3)) (by decide) ?_
  refine sm_iand (pc := 63) G hb (by decide +kernel : decode cX9_byteOf 63 = .ok (.iand, 1)) ?_
  exact sm_iret (pc := 64) G hb (by decide +kernel : decode cX9_byteOf 64 = .ok (.ireturn, 1)) hr
set_option maxRecDepth 100000 in
set_option maxHeartbeats 4000000 in
theorem fX9_byteOf_s0 {γ : gG} {cs ss : Nat} {ε : gE5} (N : Nat) (G : gOK γ) (hb : gcc γ = cX9_byteOf) (ho : gow γ = RX9) (hy : gly γ = gy0) (hR : grm γ = { frames := 0, cells := 0, slots := 0, locals := 0 }) (he : genv γ = ε) (hr : grt γ = (some .int)) (hE : gEnv ε) : gSm γ cs ss 0 (fX9_byteOf_k0 N) := by
  unfold fX9_byteOf_k0
  refine sm_iload (pc := 0) G hb (by decide +kernel : decode cX9_byteOf 0 = .ok (.iload 5, 2)) ?_
  refine sm_iconst (pc := 2) G hb (by decide +kernel : decode cX9_byteOf 2 = .ok (.iconst 4, 1)) (by decide) ?_
  refine sm_icmp_ge (pc := 3) (tgt := 10) G hb (by decide +kernel : decode cX9_byteOf 3 = .ok (.if_icmp .ge 7, 3)) (by decide) ?_ ?_
  · skip
    refine sm_iload (pc := 10) G hb (by decide +kernel : decode cX9_byteOf 10 = .ok (.iload 5, 2)) ?_
    refine sm_bipush (pc := 12) G hb (by decide +kernel : decode cX9_byteOf 12 = .ok (.bipush 8, 2)) (by decide) ?_
    refine sm_icmp_ge (pc := 14) (tgt := 21) G hb (by decide +kernel : decode cX9_byteOf 14 = .ok (.if_icmp .ge 7, 3)) (by decide) ?_ ?_
    · skip
      refine sm_iload (pc := 21) G hb (by decide +kernel : decode cX9_byteOf 21 = .ok (.iload 5, 2)) ?_
      refine sm_bipush (pc := 23) G hb (by decide +kernel : decode cX9_byteOf 23 = .ok (.bipush 12, 2)) (by decide) ?_
      refine sm_icmp_ge (pc := 25) (tgt := 32) G hb (by decide +kernel : decode cX9_byteOf 25 = .ok (.if_icmp .ge 7, 3)) (by decide) ?_ ?_
      · skip
        refine sm_iload (pc := 32) G hb (by decide +kernel : decode cX9_byteOf 32 = .ok (.iload 5, 2)) ?_
        refine sm_bipush (pc := 34) G hb (by decide +kernel : decode cX9_byteOf 34 = .ok (.bipush 16, 2)) (by decide) ?_
        refine sm_icmp_ge (pc := 36) (tgt := 43) G hb (by decide +kernel : decode cX9_byteOf 36 = .ok (.if_icmp .ge 7, 3)) (by decide) ?_ ?_
        · skip
          refine sm_iload (pc := 43) G hb (by decide +kernel : decode cX9_byteOf 43 = .ok (.iload 4, 2)) ?_
          refine sm_mask ?_
          exact fX9_byteOf_s45 N G hb ho hy hR he hr hE
        · skip
          refine sm_iload_n (pc := 39) G hb (by decide +kernel : decode cX9_byteOf 39 = .ok (.iload_n 3, 1)) rfl ?_
          refine sm_goto (pc := 40) (tgt := 45) G hb (by decide +kernel : decode cX9_byteOf 40 = .ok (.goto 5, 3)) (by decide) ?_
          refine sm_mask ?_
          exact fX9_byteOf_s45 N G hb ho hy hR he hr hE
      · skip
        refine sm_iload_n (pc := 28) G hb (by decide +kernel : decode cX9_byteOf 28 = .ok (.iload_n 2, 1)) rfl ?_
        refine sm_goto (pc := 29) (tgt := 45) G hb (by decide +kernel : decode cX9_byteOf 29 = .ok (.goto 16, 3)) (by decide) ?_
        refine sm_mask ?_
        exact fX9_byteOf_s45 N G hb ho hy hR he hr hE
    · skip
      refine sm_iload_n (pc := 17) G hb (by decide +kernel : decode cX9_byteOf 17 = .ok (.iload_n 1, 1)) rfl ?_
      refine sm_goto (pc := 18) (tgt := 45) G hb (by decide +kernel : decode cX9_byteOf 18 = .ok (.goto 27, 3)) (by decide) ?_
      refine sm_mask ?_
      exact fX9_byteOf_s45 N G hb ho hy hR he hr hE
  · skip
    refine sm_iload_n (pc := 6) G hb (by decide +kernel : decode cX9_byteOf 6 = .ok (.iload_n 0, 1)) rfl ?_
    refine sm_goto (pc := 7) (tgt := 45) G hb (by decide +kernel : decode cX9_byteOf 7 = .ok (.goto 38, 3)) (by decide) ?_
    refine sm_mask ?_
    exact fX9_byteOf_s45 N G hb ho hy hR he hr hE
theorem kX9_byteOf {ε : gE5} (hE : gEnv ε) (N : Nat) : gCtr ε yX9_byteOf cX9_byteOf 7 (some .int) 0 0 gy0 (fX9_byteOf N) :=
  gCtr_of hE.1 (by decide) (fun γ G hb ho hy hR he hr => fX9_byteOf_s0 N G hb ho hy hR he hr hE)

set_option maxRecDepth 100000 in
set_option maxHeartbeats 4000000 in
theorem fX9_append_s127 {γ : gG} {cs ss : Nat} {ε : gE5} (N : Nat) (G : gOK γ) (hb : gcc γ = cX9_append) (ho : gow γ = RX9) (hy : gly γ = gyM) (hR : grm γ = { frames := 1, cells := 0, slots := 0, locals := 26 }) (he : genv γ = ε) (hr : grt γ = (some .int)) (hE : gEnv ε) (K80 : gK) (h80 : gSm γ cs ss 80 K80) : gSm γ cs ss 127 (fX9_append_k127 N K80) := by
  unfold fX9_append_k127
  refine sm_iinc (pc := 127) G hb (by decide +kernel : decode cX9_append 127 = .ok (.iinc 7 1, 3)) (by decide) ?_
  refine sm_goto (pc := 130) (tgt := 80) G hb (by decide +kernel : decode cX9_append 130 = .ok (.goto (-50), 3)) (by decide) ?_
  refine sm_mask ?_
  exact h80
set_option maxRecDepth 100000 in
set_option maxHeartbeats 4000000 in
theorem fX9_append_s80 {γ : gG} {cs ss : Nat} {ε : gE5} (N : Nat) (G : gOK γ) (hb : gcc γ = cX9_append) (ho : gow γ = RX9) (hy : gly γ = gyM) (hR : grm γ = { frames := 1, cells := 0, slots := 0, locals := 26 }) (he : genv γ = ε) (hr : grt γ = (some .int)) (hE : gEnv ε) : gSm γ cs ss 80 (fX9_append_k80 N) := by
  unfold fX9_append_k80
  refine sm_lp (fun K80 h80 => ?_) N
  unfold fX9_append_b80
  refine sm_iload (pc := 80) G hb (by decide +kernel : decode cX9_append 80 = .ok (.iload 7, 2)) ?_
  refine sm_bipush (pc := 82) G hb (by decide +kernel : decode cX9_append 82 = .ok (.bipush 20, 2)) (by decide) ?_
  refine sm_icmp_ge (pc := 84) (tgt := 133) G hb (by decide +kernel : decode cX9_append 84 = .ok (.if_icmp .ge 49, 3)) (by decide) ?_ ?_
  · skip
    refine sm_aload_n (pc := 133) G hb (by decide +kernel : decode cX9_append 133 = .ok (.aload_n 0, 1)) rfl ?_
    refine sm_get (pc := 134) (ci := 9) (j := 2) (N := 32) (T := TX9) G hb ho hy rfl (by decide) gin_9 gw5_238 (by decide +kernel : decode cX9_append 134 = .ok (.getfield 84, 3)) ?_
    exact sm_iret (pc := 137) G hb (by decide +kernel : decode cX9_append 137 = .ok (.ireturn, 1)) hr
  · skip
    refine sm_iload_n (pc := 87) G hb (by decide +kernel : decode cX9_append 87 = .ok (.iload_n 1, 1)) rfl ?_
    refine sm_iload_n (pc := 88) G hb (by decide +kernel : decode cX9_append 88 = .ok (.iload_n 2, 1)) rfl ?_
    refine sm_iload_n (pc := 89) G hb (by decide +kernel : decode cX9_append 89 = .ok (.iload_n 3, 1)) rfl ?_
    refine sm_iload (pc := 90) G hb (by decide +kernel : decode cX9_append 90 = .ok (.iload 4, 2)) ?_
    refine sm_iload (pc := 92) G hb (by decide +kernel : decode cX9_append 92 = .ok (.iload 5, 2)) ?_
    refine sm_iload (pc := 94) G hb (by decide +kernel : decode cX9_append 94 = .ok (.iload 7, 2)) ?_
    refine sm_mono (ca_sub gI_sub) (sm_callS (pc := 96) G hb ho hy he hE.1 6 [] (kX9_byteOf hE N) (gCo_of (by decide +kernel)) (by rw [hR]; exact ⟨by decide, by decide⟩) (by decide +kernel) gw6_102 gw6_103 gw1_11 gw6_104 (by decide +kernel : decode cX9_append 96 = .ok (.invokestatic 80, 3)) ?_)
    refine sm_istore (pc := 99) G hb (by decide +kernel : decode cX9_append 99 = .ok (.istore 8, 2)) ?_
    refine sm_iload (pc := 101) G hb (by decide +kernel : decode cX9_append 101 = .ok (.iload 8, 2)) ?_
    refine sm_if_eq (pc := 103) (tgt := 127) G hb (by decide +kernel : decode cX9_append 103 = .ok (.ifCond .eq 24, 3)) (by decide) ?_ ?_
    · skip
      refine sm_mask ?_
      exact fX9_append_s127 N G hb ho hy hR he hr hE K80 h80
    · skip
      refine sm_aload_n (pc := 106) G hb (by decide +kernel : decode cX9_append 106 = .ok (.aload_n 0, 1)) rfl ?_
      refine sm_get (pc := 107) (ci := 9) (j := 1) (N := 32) (T := TX9) G hb ho hy rfl (by decide) gin_9 gw5_237 (by decide +kernel : decode cX9_append 107 = .ok (.getfield 9, 3)) ?_
      refine sm_aload_n (pc := 110) G hb (by decide +kernel : decode cX9_append 110 = .ok (.aload_n 0, 1)) rfl ?_
      refine sm_get (pc := 111) (ci := 9) (j := 2) (N := 32) (T := TX9) G hb ho hy rfl (by decide) gin_9 gw5_238 (by decide +kernel : decode cX9_append 111 = .ok (.getfield 84, 3)) ?_
      refine sm_iload (pc := 114) G hb (by decide +kernel : decode cX9_append 114 = .ok (.iload 8, 2)) ?_
      refine sm_iast (pc := 116) G hb hy (by decide +kernel : decode cX9_append 116 = .ok (.iastore, 1)) ?_
      refine sm_aload_n (pc := 117) G hb (by decide +kernel : decode cX9_append 117 = .ok (.aload_n 0, 1)) rfl ?_
      refine sm_dup (pc := 118) G hb (by decide +kernel : decode cX9_append 118 = .ok (.dup, 1)) ?_
      refine sm_get (pc := 119) (ci := 9) (j := 2) (N := 32) (T := TX9) G hb ho hy rfl (by decide) gin_9 gw5_238 (by decide +kernel : decode cX9_append 119 = .ok (.getfield 84, 3)) ?_
      refine sm_iconst (pc := 122) G hb (by decide +kernel : decode cX9_append 122 = .ok (.iconst 1, 1)) (by decide) ?_
      refine sm_iadd (pc := 123) G hb (by decide +kernel : decode cX9_append 123 = .ok (.iadd, 1)) ?_
      refine sm_put (pc := 124) (ci := 9) (j := 2) (N := 32) (T := TX9) G hb ho hy tyX9 tyX9_ok nmX9 rfl (by decide) gin_9 gw5_238 rfl rfl (by decide +kernel : decode cX9_append 124 = .ok (.putfield 84, 3)) ?_
      refine sm_mask ?_
      exact fX9_append_s127 N G hb ho hy hR he hr hE K80 h80
set_option maxRecDepth 100000 in
set_option maxHeartbeats 4000000 in
theorem fX9_append_s68 {γ : gG} {cs ss : Nat} {ε : gE5} (N : Nat) (G : gOK γ) (hb : gcc γ = cX9_append) (ho : gow γ = RX9) (hy : gly γ = gyM) (hR : grm γ = { frames := 1, cells := 0, slots := 0, locals := 26 }) (he : genv γ = ε) (hr : grt γ = (some .int)) (hE : gEnv ε) : gSm γ cs ss 68 (fX9_append_k68 N) := by
  unfold fX9_append_k68
  refine sm_iconst (pc := 68) G hb (by decide +kernel : decode cX9_append 68 = .ok (.iconst 1, 1)) (by decide) ?_
  refine sm_mono (cav_sub gI_sub) (sm_callV (pc := 69) (N := 32) (T := TX9) (C := RX9) G hb ho hy he hE.1 3 [0, 1, 2, 3, 4, 5, 6, 7, 8, 9, 10, 11, 12, 13, 14, 15, 16, 17] (kX9_fails hE N) (gCo_of (by decide +kernel)) (by rw [hR]; exact ⟨by decide, by decide⟩) rfl rfl (by decide +kernel) gw6_105 gw6_107 gw0_34 gw1_11 gw6_108 (by decide +kernel : decode cX9_append 69 = .ok (.invokevirtual 87, 3)) ?_)
  refine sm_if_eq (pc := 72) (tgt := 77) G hb (by decide +kernel : decode cX9_append 72 = .ok (.ifCond .eq 5, 3)) (by decide) ?_ ?_
  · skip
    refine sm_iconst (pc := 77) G hb (by decide +kernel : decode cX9_append 77 = .ok (.iconst 0, 1)) (by decide) ?_
    refine sm_istore (pc := 78) G hb (by decide +kernel : decode cX9_append 78 = .ok (.istore 7, 2)) ?_
    refine sm_mask ?_
    exact fX9_append_s80 N G hb ho hy hR he hr hE
  · skip
    refine sm_iconst (pc := 75) G hb (by decide +kernel : decode cX9_append 75 = .ok (.iconst 0, 1)) (by decide) ?_
    exact sm_iret (pc := 76) G hb (by decide +kernel : decode cX9_append 76 = .ok (.ireturn, 1)) hr
set_option maxRecDepth 100000 in
set_option maxHeartbeats 4000000 in
theorem fX9_append_s40 {γ : gG} {cs ss : Nat} {ε : gE5} (N : Nat) (G : gOK γ) (hb : gcc γ = cX9_append) (ho : gow γ = RX9) (hy : gly γ = gyM) (hR : grm γ = { frames := 1, cells := 0, slots := 0, locals := 26 }) (he : genv γ = ε) (hr : grt γ = (some .int)) (hE : gEnv ε) (K11 : gK) (h11 : gSm γ cs ss 11 K11) : gSm γ cs ss 40 (fX9_append_k40 N K11) := by
  unfold fX9_append_k40
  refine sm_iadd (pc := 40) G hb (by decide +kernel : decode cX9_append 40 = .ok (.iadd, 1)) ?_
  refine sm_istore (pc := 41) G hb (by decide +kernel : decode cX9_append 41 = .ok (.istore 6, 2)) ?_
  refine sm_iinc (pc := 43) G hb (by decide +kernel : decode cX9_append 43 = .ok (.iinc 7 1, 3)) (by decide) ?_
  refine sm_goto (pc := 46) (tgt := 11) G hb (by decide +kernel : decode cX9_append 46 = .ok (.goto (-35), 3)) (by decide) ?_
  refine sm_mask ?_
  exact h11
set_option maxRecDepth 100000 in
set_option maxHeartbeats 4000000 in
theorem fX9_append_s11 {γ : gG} {cs ss : Nat} {ε : gE5} (N : Nat) (G : gOK γ) (hb : gcc γ = cX9_append) (ho : gow γ = RX9) (hy : gly γ = gyM) (hR : grm γ = { frames := 1, cells := 0, slots := 0, locals := 26 }) (he : genv γ = ε) (hr : grt γ = (some .int)) (hE : gEnv ε) : gSm γ cs ss 11 (fX9_append_k11 N) := by
  unfold fX9_append_k11
  refine sm_lp (fun K11 h11 => ?_) N
  unfold fX9_append_b11
  refine sm_iload (pc := 11) G hb (by decide +kernel : decode cX9_append 11 = .ok (.iload 7, 2)) ?_
  refine sm_bipush (pc := 13) G hb (by decide +kernel : decode cX9_append 13 = .ok (.bipush 20, 2)) (by decide) ?_
  refine sm_icmp_ge (pc := 15) (tgt := 49) G hb (by decide +kernel : decode cX9_append 15 = .ok (.if_icmp .ge 34, 3)) (by decide) ?_ ?_
  · skip
    refine sm_aload_n (pc := 49) G hb (by decide +kernel : decode cX9_append 49 = .ok (.aload_n 0, 1)) rfl ?_
    refine sm_aload_n (pc := 50) G hb (by decide +kernel : decode cX9_append 50 = .ok (.aload_n 0, 1)) rfl ?_
    refine sm_get (pc := 51) (ci := 9) (j := 2) (N := 32) (T := TX9) G hb ho hy rfl (by decide) gin_9 gw5_238 (by decide +kernel : decode cX9_append 51 = .ok (.getfield 84, 3)) ?_
    refine sm_iload (pc := 54) G hb (by decide +kernel : decode cX9_append 54 = .ok (.iload 6, 2)) ?_
    refine sm_iadd (pc := 56) G hb (by decide +kernel : decode cX9_append 56 = .ok (.iadd, 1)) ?_
    refine sm_sipush (pc := 57) G hb (by decide +kernel : decode cX9_append 57 = .ok (.sipush 700, 3)) (by decide) ?_
    refine sm_icmp_gt (pc := 60) (tgt := 67) G hb (by decide +kernel : decode cX9_append 60 = .ok (.if_icmp .gt 7, 3)) (by decide) ?_ ?_
    · skip
      refine sm_iconst (pc := 67) G hb (by decide +kernel : decode cX9_append 67 = .ok (.iconst 0, 1)) (by decide) ?_
      refine sm_mask ?_
      exact fX9_append_s68 N G hb ho hy hR he hr hE
    · skip
      refine sm_iconst (pc := 63) G hb (by decide +kernel : decode cX9_append 63 = .ok (.iconst 1, 1)) (by decide) ?_
      refine sm_goto (pc := 64) (tgt := 68) G hb (by decide +kernel : decode cX9_append 64 = .ok (.goto 4, 3)) (by decide) ?_
      refine sm_mask ?_
      exact fX9_append_s68 N G hb ho hy hR he hr hE
  · skip
    refine sm_iload (pc := 18) G hb (by decide +kernel : decode cX9_append 18 = .ok (.iload 6, 2)) ?_
    refine sm_iload_n (pc := 20) G hb (by decide +kernel : decode cX9_append 20 = .ok (.iload_n 1, 1)) rfl ?_
    refine sm_iload_n (pc := 21) G hb (by decide +kernel : decode cX9_append 21 = .ok (.iload_n 2, 1)) rfl ?_
    refine sm_iload_n (pc := 22) G hb (by decide +kernel : decode cX9_append 22 = .ok (.iload_n 3, 1)) rfl ?_
    refine sm_iload (pc := 23) G hb (by decide +kernel : decode cX9_append 23 = .ok (.iload 4, 2)) ?_
    refine sm_iload (pc := 25) G hb (by decide +kernel : decode cX9_append 25 = .ok (.iload 5, 2)) ?_
    refine sm_iload (pc := 27) G hb (by decide +kernel : decode cX9_append 27 = .ok (.iload 7, 2)) ?_
    refine sm_mono (ca_sub gI_sub) (sm_callS (pc := 29) G hb ho hy he hE.1 6 [] (kX9_byteOf hE N) (gCo_of (by decide +kernel)) (by rw [hR]; exact ⟨by decide, by decide⟩) (by decide +kernel) gw6_102 gw6_103 gw1_11 gw6_104 (by decide +kernel : decode cX9_append 29 = .ok (.invokestatic 80, 3)) ?_)
    refine sm_if_eq (pc := 32) (tgt := 39) G hb (by decide +kernel : decode cX9_append 32 = .ok (.ifCond .eq 7, 3)) (by decide) ?_ ?_
    · skip
      refine sm_iconst (pc := 39) G hb (by decide +kernel : decode cX9_append 39 = .ok (.iconst 0, 1)) (by decide) ?_
      refine sm_mask ?_
      exact fX9_append_s40 N G hb ho hy hR he hr hE K11 h11
    · skip
      refine sm_iconst (pc := 35) G hb (by decide +kernel : decode cX9_append 35 = .ok (.iconst 1, 1)) (by decide) ?_
      refine sm_goto (pc := 36) (tgt := 40) G hb (by decide +kernel : decode cX9_append 36 = .ok (.goto 4, 3)) (by decide) ?_
      refine sm_mask ?_
      exact fX9_append_s40 N G hb ho hy hR he hr hE K11 h11
set_option maxRecDepth 100000 in
set_option maxHeartbeats 4000000 in
theorem fX9_append_s0 {γ : gG} {cs ss : Nat} {ε : gE5} (N : Nat) (G : gOK γ) (hb : gcc γ = cX9_append) (ho : gow γ = RX9) (hy : gly γ = gyM) (hR : grm γ = { frames := 1, cells := 0, slots := 0, locals := 26 }) (he : genv γ = ε) (hr : grt γ = (some .int)) (hE : gEnv ε) : gSm γ cs ss 0 (fX9_append_k0 N) := by
  unfold fX9_append_k0
  refine sm_aload_n (pc := 0) G hb (by decide +kernel : decode cX9_append 0 = .ok (.aload_n 0, 1)) rfl ?_
  refine sm_iconst (pc := 1) G hb (by decide +kernel : decode cX9_append 1 = .ok (.iconst 0, 1)) (by decide) ?_
  refine sm_put (pc := 2) (ci := 9) (j := 0) (N := 32) (T := TX9) G hb ho hy tyX9 tyX9_ok nmX9 rfl (by decide) gin_9 gw5_236 rfl rfl (by decide +kernel : decode cX9_append 2 = .ok (.putfield 76, 3)) ?_
  refine sm_iconst (pc := 5) G hb (by decide +kernel : decode cX9_append 5 = .ok (.iconst 0, 1)) (by decide) ?_
  refine sm_istore (pc := 6) G hb (by decide +kernel : decode cX9_append 6 = .ok (.istore 6, 2)) ?_
  refine sm_iconst (pc := 8) G hb (by decide +kernel : decode cX9_append 8 = .ok (.iconst 0, 1)) (by decide) ?_
  refine sm_istore (pc := 9) G hb (by decide +kernel : decode cX9_append 9 = .ok (.istore 7, 2)) ?_
  refine sm_mask ?_
  exact fX9_append_s11 N G hb ho hy hR he hr hE
theorem kX9_append {ε : gE5} (hE : gEnv ε) (N : Nat) : gCtr ε yX9_append cX9_append 9 (some .int) 1 26 gyM (fX9_append N) :=
  gCtr_of hE.1 (by decide) (fun γ G hb ho hy hR he hr => fX9_append_s0 N G hb ho hy hR he hr hE)

set_option maxRecDepth 100000 in
set_option maxHeartbeats 4000000 in
theorem fX9_truncate_s0 {γ : gG} {cs ss : Nat} {ε : gE5} (N : Nat) (G : gOK γ) (hb : gcc γ = cX9_truncate) (ho : gow γ = RX9) (hy : gly γ = gyM) (hR : grm γ = { frames := 1, cells := 0, slots := 0, locals := 25 }) (he : genv γ = ε) (hr : grt γ = (some .int)) (hE : gEnv ε) : gSm γ cs ss 0 (fX9_truncate_k0 N) := by
  unfold fX9_truncate_k0
  refine sm_aload_n (pc := 0) G hb (by decide +kernel : decode cX9_truncate 0 = .ok (.aload_n 0, 1)) rfl ?_
  refine sm_iconst (pc := 1) G hb (by decide +kernel : decode cX9_truncate 1 = .ok (.iconst 0, 1)) (by decide) ?_
  refine sm_put (pc := 2) (ci := 9) (j := 0) (N := 32) (T := TX9) G hb ho hy tyX9 tyX9_ok nmX9 rfl (by decide) gin_9 gw5_236 rfl rfl (by decide +kernel : decode cX9_truncate 2 = .ok (.putfield 76, 3)) ?_
  refine sm_aload_n (pc := 5) G hb (by decide +kernel : decode cX9_truncate 5 = .ok (.aload_n 0, 1)) rfl ?_
  refine sm_iload_n (pc := 6) G hb (by decide +kernel : decode cX9_truncate 6 = .ok (.iload_n 1, 1)) rfl ?_
  refine sm_i2l (pc := 7) G hb (by decide +kernel : decode cX9_truncate 7 = .ok (.i2l, 1)) ?_
  refine sm_lconst (pc := 8) G hb (by decide +kernel : decode cX9_truncate 8 = .ok (.lconst 0, 1)) (by decide) ?_
  refine sm_aload_n (pc := 9) G hb (by decide +kernel : decode cX9_truncate 9 = .ok (.aload_n 0, 1)) rfl ?_
  refine sm_get (pc := 10) (ci := 9) (j := 2) (N := 32) (T := TX9) G hb ho hy rfl (by decide) gin_9 gw5_238 (by decide +kernel : decode cX9_truncate 10 = .ok (.getfield 84, 3)) ?_
  refine sm_i2l (pc := 13) G hb (by decide +kernel : decode cX9_truncate 13 = .ok (.i2l, 1)) ?_
  refine sm_mono (ca_sub gI_sub) (sm_callS (pc := 14) G hb ho hy he hE.1 3 [] (kX9_in hE N) (gCo_of (by decide +kernel)) (by rw [hR]; exact ⟨by decide, by decide⟩) (by decide +kernel) gw6_113 gw6_114 gw1_11 gw6_115 (by decide +kernel : decode cX9_truncate 14 = .ok (.invokestatic 91, 3)) ?_)
  refine sm_iconst (pc := 17) G hb (by decide +kernel : decode cX9_truncate 17 = .ok (.iconst 1, 1)) (by decide) ?_
  refine sm_mono (cav_sub gI_sub) (sm_callV (pc := 18) (N := 32) (T := TX9) (C := RX9) G hb ho hy he hE.1 3 [0, 1, 2, 3, 4, 5, 6, 7, 8, 9, 10, 11, 12, 13, 14, 15, 16, 17] (kX9_fails hE N) (gCo_of (by decide +kernel)) (by rw [hR]; exact ⟨by decide, by decide⟩) rfl rfl (by decide +kernel) gw6_105 gw6_107 gw0_34 gw1_11 gw6_108 (by decide +kernel : decode cX9_truncate 18 = .ok (.invokevirtual 87, 3)) ?_)
  refine sm_if_eq (pc := 21) (tgt := 26) G hb (by decide +kernel : decode cX9_truncate 21 = .ok (.ifCond .eq 5, 3)) (by decide) ?_ ?_
  · skip
    refine sm_aload_n (pc := 26) G hb (by decide +kernel : decode cX9_truncate 26 = .ok (.aload_n 0, 1)) rfl ?_
    refine sm_iload_n (pc := 27) G hb (by decide +kernel : decode cX9_truncate 27 = .ok (.iload_n 1, 1)) rfl ?_
    refine sm_put (pc := 28) (ci := 9) (j := 2) (N := 32) (T := TX9) G hb ho hy tyX9 tyX9_ok nmX9 rfl (by decide) gin_9 gw5_238 rfl rfl (by decide +kernel : decode cX9_truncate 28 = .ok (.putfield 84, 3)) ?_
    refine sm_iload_n (pc := 31) G hb (by decide +kernel : decode cX9_truncate 31 = .ok (.iload_n 1, 1)) rfl ?_
    exact sm_iret (pc := 32) G hb (by decide +kernel : decode cX9_truncate 32 = .ok (.ireturn, 1)) hr
  · skip
    refine sm_iconst (pc := 24) G hb (by decide +kernel : decode cX9_truncate 24 = .ok (.iconst 0, 1)) (by decide) ?_
    exact sm_iret (pc := 25) G hb (by decide +kernel : decode cX9_truncate 25 = .ok (.ireturn, 1)) hr
theorem kX9_truncate {ε : gE5} (hE : gEnv ε) (N : Nat) : gCtr ε yX9_truncate cX9_truncate 2 (some .int) 1 25 gyM (fX9_truncate N) :=
  gCtr_of hE.1 (by decide) (fun γ G hb ho hy hR he hr => fX9_truncate_s0 N G hb ho hy hR he hr hE)

set_option maxRecDepth 100000 in
set_option maxHeartbeats 4000000 in
theorem fX9_peek_s0 {γ : gG} {cs ss : Nat} {ε : gE5} (N : Nat) (G : gOK γ) (hb : gcc γ = cX9_peek) (ho : gow γ = RX9) (hy : gly γ = gyM) (hR : grm γ = { frames := 0, cells := 0, slots := 0, locals := 0 }) (he : genv γ = ε) (hr : grt γ = (some .int)) (hE : gEnv ε) : gSm γ cs ss 0 (fX9_peek_k0 N) := by
  unfold fX9_peek_k0
  refine sm_iload_n (pc := 0) G hb (by decide +kernel : decode cX9_peek 0 = .ok (.iload_n 1, 1)) rfl ?_
  refine sm_aload_n (pc := 1) G hb (by decide +kernel : decode cX9_peek 1 = .ok (.aload_n 0, 1)) rfl ?_
  refine sm_get (pc := 2) (ci := 9) (j := 2) (N := 32) (T := TX9) G hb ho hy rfl (by decide) gin_9 gw5_238 (by decide +kernel : decode cX9_peek 2 = .ok (.getfield 84, 3)) ?_
  refine sm_icmp_ge (pc := 5) (tgt := 17) G hb (by decide +kernel : decode cX9_peek 5 = .ok (.if_icmp .ge 12, 3)) (by decide) ?_ ?_
  · skip
    refine sm_iconst (pc := 17) G hb (by decide +kernel : decode cX9_peek 17 = .ok (.iconst (-1), 1)) (by decide) ?_
    exact sm_iret (pc := 18) G hb (by decide +kernel : decode cX9_peek 18 = .ok (.ireturn, 1)) hr
  · skip
    refine sm_aload_n (pc := 8) G hb (by decide +kernel : decode cX9_peek 8 = .ok (.aload_n 0, 1)) rfl ?_
    refine sm_get (pc := 9) (ci := 9) (j := 1) (N := 32) (T := TX9) G hb ho hy rfl (by decide) gin_9 gw5_237 (by decide +kernel : decode cX9_peek 9 = .ok (.getfield 9, 3)) ?_
    refine sm_iload_n (pc := 12) G hb (by decide +kernel : decode cX9_peek 12 = .ok (.iload_n 1, 1)) rfl ?_
    refine sm_iald (pc := 13) G hb hy (by decide +kernel : decode cX9_peek 13 = .ok (.iaload, 1)) ?_
    refine sm_goto (pc := 14) (tgt := 18) G hb (by decide +kernel : decode cX9_peek 14 = .ok (.goto 4, 3)) (by decide) ?_
    exact sm_iret (pc := 18) G hb (by decide +kernel : decode cX9_peek 18 = .ok (.ireturn, 1)) hr
theorem kX9_peek {ε : gE5} (hE : gEnv ε) (N : Nat) : gCtr ε yX9_peek cX9_peek 2 (some .int) 0 0 gyM (fX9_peek N) :=
  gCtr_of hE.1 (by decide) (fun γ G hb ho hy hR he hr => fX9_peek_s0 N G hb ho hy hR he hr hE)

set_option maxRecDepth 100000 in
set_option maxHeartbeats 4000000 in
theorem fX9_isLetter_s0 {γ : gG} {cs ss : Nat} {ε : gE5} (N : Nat) (G : gOK γ) (hb : gcc γ = cX9_isLetter) (ho : gow γ = RX9) (hy : gly γ = gy0) (hR : grm γ = { frames := 0, cells := 0, slots := 0, locals := 0 }) (he : genv γ = ε) (hr : grt γ = (some .boolean)) (hE : gEnv ε) : gSm γ cs ss 0 (fX9_isLetter_k0 N) := by
  unfold fX9_isLetter_k0
  refine sm_iload_n (pc := 0) G hb (by decide +kernel : decode cX9_isLetter 0 = .ok (.iload_n 0, 1)) rfl ?_
  refine sm_bipush (pc := 1) G hb (by decide +kernel : decode cX9_isLetter 1 = .ok (.bipush 97, 2)) (by decide) ?_
  refine sm_icmp_lt (pc := 3) (tgt := 16) G hb (by decide +kernel : decode cX9_isLetter 3 = .ok (.if_icmp .lt 13, 3)) (by decide) ?_ ?_
  · skip
    refine sm_iconst (pc := 16) G hb (by decide +kernel : decode cX9_isLetter 16 = .ok (.iconst 0, 1)) (by decide) ?_
    exact sm_zret (pc := 17) G hb (by decide +kernel : decode cX9_isLetter 17 = .ok (.ireturn, 1)) hr
  · skip
    refine sm_iload_n (pc := 6) G hb (by decide +kernel : decode cX9_isLetter 6 = .ok (.iload_n 0, 1)) rfl ?_
    refine sm_bipush (pc := 7) G hb (by decide +kernel : decode cX9_isLetter 7 = .ok (.bipush 122, 2)) (by decide) ?_
    refine sm_icmp_gt (pc := 9) (tgt := 16) G hb (by decide +kernel : decode cX9_isLetter 9 = .ok (.if_icmp .gt 7, 3)) (by decide) ?_ ?_
    · skip
      refine sm_iconst (pc := 16) G hb (by decide +kernel : decode cX9_isLetter 16 = .ok (.iconst 0, 1)) (by decide) ?_
      exact sm_zret (pc := 17) G hb (by decide +kernel : decode cX9_isLetter 17 = .ok (.ireturn, 1)) hr
    · skip
      refine sm_iconst (pc := 12) G hb (by decide +kernel : decode cX9_isLetter 12 = .ok (.iconst 1, 1)) (by decide) ?_
      refine sm_goto (pc := 13) (tgt := 17) G hb (by decide +kernel : decode cX9_isLetter 13 = .ok (.goto 4, 3)) (by decide) ?_
      exact sm_zret (pc := 17) G hb (by decide +kernel : decode cX9_isLetter 17 = .ok (.ireturn, 1)) hr
theorem kX9_isLetter {ε : gE5} (hE : gEnv ε) (N : Nat) : gCtr ε yX9_isLetter cX9_isLetter 1 (some .boolean) 0 0 gy0 (fX9_isLetter N) :=
  gCtr_of hE.1 (by decide) (fun γ G hb ho hy hR he hr => fX9_isLetter_s0 N G hb ho hy hR he hr hE)

set_option maxRecDepth 100000 in
set_option maxHeartbeats 4000000 in
theorem fX9_isDigit_s0 {γ : gG} {cs ss : Nat} {ε : gE5} (N : Nat) (G : gOK γ) (hb : gcc γ = cX9_isDigit) (ho : gow γ = RX9) (hy : gly γ = gy0) (hR : grm γ = { frames := 0, cells := 0, slots := 0, locals := 0 }) (he : genv γ = ε) (hr : grt γ = (some .boolean)) (hE : gEnv ε) : gSm γ cs ss 0 (fX9_isDigit_k0 N) := by
  unfold fX9_isDigit_k0
  refine sm_iload_n (pc := 0) G hb (by decide +kernel : decode cX9_isDigit 0 = .ok (.iload_n 0, 1)) rfl ?_
  refine sm_bipush (pc := 1) G hb (by decide +kernel : decode cX9_isDigit 1 = .ok (.bipush 48, 2)) (by decide) ?_
  refine sm_icmp_lt (pc := 3) (tgt := 16) G hb (by decide +kernel : decode cX9_isDigit 3 = .ok (.if_icmp .lt 13, 3)) (by decide) ?_ ?_
  · skip
    refine sm_iconst (pc := 16) G hb (by decide +kernel : decode cX9_isDigit 16 = .ok (.iconst 0, 1)) (by decide) ?_
    exact sm_zret (pc := 17) G hb (by decide +kernel : decode cX9_isDigit 17 = .ok (.ireturn, 1)) hr
  · skip
    refine sm_iload_n (pc := 6) G hb (by decide +kernel : decode cX9_isDigit 6 = .ok (.iload_n 0, 1)) rfl ?_
    refine sm_bipush (pc := 7) G hb (by decide +kernel : decode cX9_isDigit 7 = .ok (.bipush 57, 2)) (by decide) ?_
    refine sm_icmp_gt (pc := 9) (tgt := 16) G hb (by decide +kernel : decode cX9_isDigit 9 = .ok (.if_icmp .gt 7, 3)) (by decide) ?_ ?_
    · skip
      refine sm_iconst (pc := 16) G hb (by decide +kernel : decode cX9_isDigit 16 = .ok (.iconst 0, 1)) (by decide) ?_
      exact sm_zret (pc := 17) G hb (by decide +kernel : decode cX9_isDigit 17 = .ok (.ireturn, 1)) hr
    · skip
      refine sm_iconst (pc := 12) G hb (by decide +kernel : decode cX9_isDigit 12 = .ok (.iconst 1, 1)) (by decide) ?_
      refine sm_goto (pc := 13) (tgt := 17) G hb (by decide +kernel : decode cX9_isDigit 13 = .ok (.goto 4, 3)) (by decide) ?_
      exact sm_zret (pc := 17) G hb (by decide +kernel : decode cX9_isDigit 17 = .ok (.ireturn, 1)) hr
theorem kX9_isDigit {ε : gE5} (hE : gEnv ε) (N : Nat) : gCtr ε yX9_isDigit cX9_isDigit 1 (some .boolean) 0 0 gy0 (fX9_isDigit N) :=
  gCtr_of hE.1 (by decide) (fun γ G hb ho hy hR he hr => fX9_isDigit_s0 N G hb ho hy hR he hr hE)

set_option maxRecDepth 100000 in
set_option maxHeartbeats 4000000 in
theorem fX9_step_s177 {γ : gG} {cs ss : Nat} {ε : gE5} (N : Nat) (G : gOK γ) (hb : gcc γ = cX9_step) (ho : gow γ = RX9) (hy : gly γ = gyM) (hR : grm γ = { frames := 1, cells := 0, slots := 0, locals := 21 }) (he : genv γ = ε) (hr : grt γ = none) (hE : gEnv ε) (K136 : gK) (h136 : gSm γ cs ss 136 K136) : gSm γ cs ss 177 (fX9_step_k177 N K136) := by
  unfold fX9_step_k177
  refine sm_iadd (pc := 177) G hb (by decide +kernel : decode cX9_step 177 = .ok (.iadd, 1)) ?_
  refine sm_bipush (pc := 178) G hb (by decide +kernel : decode cX9_step 178 = .ok (.bipush 48, 2)) (by decide) ?_
  refine sm_isub (pc := 180) G hb (by decide +kernel : decode cX9_step 180 = .ok (.isub, 1)) ?_
  refine sm_jmin (pc := 181) G hb ho (by rw [hR]; exact ⟨by decide, by decide⟩) gw6_138 gw4_178 gw1_21 gw4_179 (by decide +kernel : decode cX9_step 181 = .ok (.invokestatic 118, 3)) ?_
  refine sm_put (pc := 184) (ci := 9) (j := 6) (N := 32) (T := TX9) G hb ho hy tyX9 tyX9_ok nmX9 rfl (by decide) gin_9 gw6_2 rfl rfl (by decide +kernel : decode cX9_step 184 = .ok (.putfield 115, 3)) ?_
  refine sm_aload_n (pc := 187) G hb (by decide +kernel : decode cX9_step 187 = .ok (.aload_n 0, 1)) rfl ?_
  refine sm_dup (pc := 188) G hb (by decide +kernel : decode cX9_step 188 = .ok (.dup, 1)) ?_
  refine sm_get (pc := 189) (ci := 9) (j := 3) (N := 32) (T := TX9) G hb ho hy rfl (by decide) gin_9 gw5_239 (by decide +kernel : decode cX9_step 189 = .ok (.getfield 95, 3)) ?_
  refine sm_iconst (pc := 192) G hb (by decide +kernel : decode cX9_step 192 = .ok (.iconst 1, 1)) (by decide) ?_
  refine sm_iadd (pc := 193) G hb (by decide +kernel : decode cX9_step 193 = .ok (.iadd, 1)) ?_
  refine sm_put (pc := 194) (ci := 9) (j := 3) (N := 32) (T := TX9) G hb ho hy tyX9 tyX9_ok nmX9 rfl (by decide) gin_9 gw5_239 rfl rfl (by decide +kernel : decode cX9_step 194 = .ok (.putfield 95, 3)) ?_
  refine sm_goto (pc := 197) (tgt := 136) G hb (by decide +kernel : decode cX9_step 197 = .ok (.goto (-61), 3)) (by decide) ?_
  refine sm_mask ?_
  exact h136
set_option maxRecDepth 100000 in
set_option maxHeartbeats 4000000 in
theorem fX9_step_s136 {γ : gG} {cs ss : Nat} {ε : gE5} (N : Nat) (G : gOK γ) (hb : gcc γ = cX9_step) (ho : gow γ = RX9) (hy : gly γ = gyM) (hR : grm γ = { frames := 1, cells := 0, slots := 0, locals := 21 }) (he : genv γ = ε) (hr : grt γ = none) (hE : gEnv ε) : gSm γ cs ss 136 (fX9_step_k136 N) := by
  unfold fX9_step_k136
  refine sm_lp (fun K136 h136 => ?_) N
  unfold fX9_step_b136
  refine sm_aload_n (pc := 136) G hb (by decide +kernel : decode cX9_step 136 = .ok (.aload_n 0, 1)) rfl ?_
  refine sm_get (pc := 137) (ci := 9) (j := 5) (N := 32) (T := TX9) G hb ho hy rfl (by decide) gin_9 gw6_1 (by decide +kernel : decode cX9_step 137 = .ok (.getfield 112, 3)) ?_
  refine sm_iconst (pc := 140) G hb (by decide +kernel : decode cX9_step 140 = .ok (.iconst 2, 1)) (by decide) ?_
  refine sm_icmp_ne (pc := 141) (tgt := 200) G hb (by decide +kernel : decode cX9_step 141 = .ok (.if_icmp .ne 59, 3)) (by decide) ?_ ?_
  · skip
    exact sm_vret (pc := 200) G hb (by decide +kernel : decode cX9_step 200 = .ok (.return_, 1)) hr
  · skip
    refine sm_aload_n (pc := 144) G hb (by decide +kernel : decode cX9_step 144 = .ok (.aload_n 0, 1)) rfl ?_
    refine sm_aload_n (pc := 145) G hb (by decide +kernel : decode cX9_step 145 = .ok (.aload_n 0, 1)) rfl ?_
    refine sm_get (pc := 146) (ci := 9) (j := 3) (N := 32) (T := TX9) G hb ho hy rfl (by decide) gin_9 gw5_239 (by decide +kernel : decode cX9_step 146 = .ok (.getfield 95, 3)) ?_
    refine sm_mono (cav_sub gI_sub) (sm_callV (pc := 149) (N := 32) (T := TX9) (C := RX9) G hb ho hy he hE.1 2 [0, 1, 2, 3, 4, 5, 6, 7, 8, 9, 10, 11, 12, 13, 14, 15, 16, 17] (kX9_peek hE N) (gCo_of (by decide +kernel)) (by rw [hR]; exact ⟨by decide, by decide⟩) rfl rfl (by decide +kernel) gw6_128 gw6_130 gw0_37 gw1_11 gw6_131 (by decide +kernel : decode cX9_step 149 = .ok (.invokevirtual 98, 3)) ?_)
    refine sm_mono (ca_sub gI_sub) (sm_callS (pc := 152) G hb ho hy he hE.1 1 [] (kX9_isDigit hE N) (gCo_of (by decide +kernel)) (by rw [hR]; exact ⟨by decide, by decide⟩) (by decide +kernel) gw6_135 gw6_136 gw1_11 gw6_137 (by decide +kernel : decode cX9_step 152 = .ok (.invokestatic 109, 3)) ?_)
    refine sm_if_eq (pc := 155) (tgt := 200) G hb (by decide +kernel : decode cX9_step 155 = .ok (.ifCond .eq 45, 3)) (by decide) ?_ ?_
    · skip
      exact sm_vret (pc := 200) G hb (by decide +kernel : decode cX9_step 200 = .ok (.return_, 1)) hr
    · skip
      refine sm_aload_n (pc := 158) G hb (by decide +kernel : decode cX9_step 158 = .ok (.aload_n 0, 1)) rfl ?_
      refine sm_sipush (pc := 159) G hb (by decide +kernel : decode cX9_step 159 = .ok (.sipush 10000, 3)) (by decide) ?_
      refine sm_bipush (pc := 162) G hb (by decide +kernel : decode cX9_step 162 = .ok (.bipush 10, 2)) (by decide) ?_
      refine sm_aload_n (pc := 164) G hb (by decide +kernel : decode cX9_step 164 = .ok (.aload_n 0, 1)) rfl ?_
      refine sm_get (pc := 165) (ci := 9) (j := 6) (N := 32) (T := TX9) G hb ho hy rfl (by decide) gin_9 gw6_2 (by decide +kernel : decode cX9_step 165 = .ok (.getfield 115, 3)) ?_
      refine sm_imul (pc := 168) G hb (by decide +kernel : decode cX9_step 168 = .ok (.imul, 1)) ?_
      refine sm_aload_n (pc := 169) G hb (by decide +kernel : decode cX9_step 169 = .ok (.aload_n 0, 1)) rfl ?_
      refine sm_aload_n (pc := 170) G hb (by decide +kernel : decode cX9_step 170 = .ok (.aload_n 0, 1)) rfl ?_
      refine sm_get (pc := 171) (ci := 9) (j := 3) (N := 32) (T := TX9) G hb ho hy rfl (by decide) gin_9 gw5_239 (by decide +kernel : decode cX9_step 171 = .ok (.getfield 95, 3)) ?_
      refine sm_mono (cav_sub gI_sub) (sm_callV (pc := 174) (N := 32) (T := TX9) (C := RX9) G hb ho hy he hE.1 2 [0, 1, 2, 3, 4, 5, 6, 7, 8, 9, 10, 11, 12, 13, 14, 15, 16, 17] (kX9_peek hE N) (gCo_of (by decide +kernel)) (by rw [hR]; exact ⟨by decide, by decide⟩) rfl rfl (by decide +kernel) gw6_128 gw6_130 gw0_37 gw1_11 gw6_131 (by decide +kernel : decode cX9_step 174 = .ok (.invokevirtual 98, 3)) ?_)
      refine sm_mask ?_
      exact fX9_step_s177 N G hb ho hy hR he hr hE K136 h136
set_option maxRecDepth 100000 in
set_option maxHeartbeats 4000000 in
theorem fX9_step_s101 {γ : gG} {cs ss : Nat} {ε : gE5} (N : Nat) (G : gOK γ) (hb : gcc γ = cX9_step) (ho : gow γ = RX9) (hy : gly γ = gyM) (hR : grm γ = { frames := 1, cells := 0, slots := 0, locals := 21 }) (he : genv γ = ε) (hr : grt γ = none) (hE : gEnv ε) : gSm γ cs ss 101 (fX9_step_k101 N) := by
  unfold fX9_step_k101
  refine sm_lp (fun K101 h101 => ?_) N
  unfold fX9_step_b101
  refine sm_aload_n (pc := 101) G hb (by decide +kernel : decode cX9_step 101 = .ok (.aload_n 0, 1)) rfl ?_
  refine sm_get (pc := 102) (ci := 9) (j := 5) (N := 32) (T := TX9) G hb ho hy rfl (by decide) gin_9 gw6_1 (by decide +kernel : decode cX9_step 102 = .ok (.getfield 112, 3)) ?_
  refine sm_iconst (pc := 105) G hb (by decide +kernel : decode cX9_step 105 = .ok (.iconst 1, 1)) (by decide) ?_
  refine sm_icmp_ne (pc := 106) (tgt := 136) G hb (by decide +kernel : decode cX9_step 106 = .ok (.if_icmp .ne 30, 3)) (by decide) ?_ ?_
  · skip
    refine sm_mask ?_
    exact fX9_step_s136 N G hb ho hy hR he hr hE
  · skip
    refine sm_aload_n (pc := 109) G hb (by decide +kernel : decode cX9_step 109 = .ok (.aload_n 0, 1)) rfl ?_
    refine sm_aload_n (pc := 110) G hb (by decide +kernel : decode cX9_step 110 = .ok (.aload_n 0, 1)) rfl ?_
    refine sm_get (pc := 111) (ci := 9) (j := 3) (N := 32) (T := TX9) G hb ho hy rfl (by decide) gin_9 gw5_239 (by decide +kernel : decode cX9_step 111 = .ok (.getfield 95, 3)) ?_
    refine sm_mono (cav_sub gI_sub) (sm_callV (pc := 114) (N := 32) (T := TX9) (C := RX9) G hb ho hy he hE.1 2 [0, 1, 2, 3, 4, 5, 6, 7, 8, 9, 10, 11, 12, 13, 14, 15, 16, 17] (kX9_peek hE N) (gCo_of (by decide +kernel)) (by rw [hR]; exact ⟨by decide, by decide⟩) rfl rfl (by decide +kernel) gw6_128 gw6_130 gw0_37 gw1_11 gw6_131 (by decide +kernel : decode cX9_step 114 = .ok (.invokevirtual 98, 3)) ?_)
    refine sm_mono (ca_sub gI_sub) (sm_callS (pc := 117) G hb ho hy he hE.1 1 [] (kX9_isLetter hE N) (gCo_of (by decide +kernel)) (by rw [hR]; exact ⟨by decide, by decide⟩) (by decide +kernel) gw6_132 gw6_133 gw1_11 gw6_134 (by decide +kernel : decode cX9_step 117 = .ok (.invokestatic 105, 3)) ?_)
    refine sm_if_eq (pc := 120) (tgt := 136) G hb (by decide +kernel : decode cX9_step 120 = .ok (.ifCond .eq 16, 3)) (by decide) ?_ ?_
    · skip
      refine sm_mask ?_
      exact fX9_step_s136 N G hb ho hy hR he hr hE
    · skip
      refine sm_aload_n (pc := 123) G hb (by decide +kernel : decode cX9_step 123 = .ok (.aload_n 0, 1)) rfl ?_
      refine sm_dup (pc := 124) G hb (by decide +kernel : decode cX9_step 124 = .ok (.dup, 1)) ?_
      refine sm_get (pc := 125) (ci := 9) (j := 3) (N := 32) (T := TX9) G hb ho hy rfl (by decide) gin_9 gw5_239 (by decide +kernel : decode cX9_step 125 = .ok (.getfield 95, 3)) ?_
      refine sm_iconst (pc := 128) G hb (by decide +kernel : decode cX9_step 128 = .ok (.iconst 1, 1)) (by decide) ?_
      refine sm_iadd (pc := 129) G hb (by decide +kernel : decode cX9_step 129 = .ok (.iadd, 1)) ?_
      refine sm_put (pc := 130) (ci := 9) (j := 3) (N := 32) (T := TX9) G hb ho hy tyX9 tyX9_ok nmX9 rfl (by decide) gin_9 gw5_239 rfl rfl (by decide +kernel : decode cX9_step 130 = .ok (.putfield 95, 3)) ?_
      refine sm_goto (pc := 133) (tgt := 101) G hb (by decide +kernel : decode cX9_step 133 = .ok (.goto (-32), 3)) (by decide) ?_
      refine sm_mask ?_
      exact h101
set_option maxRecDepth 100000 in
set_option maxHeartbeats 4000000 in
theorem fX9_step_s75 {γ : gG} {cs ss : Nat} {ε : gE5} (N : Nat) (G : gOK γ) (hb : gcc γ = cX9_step) (ho : gow γ = RX9) (hy : gly γ = gyM) (hR : grm γ = { frames := 1, cells := 0, slots := 0, locals := 21 }) (he : genv γ = ε) (hr : grt γ = none) (hE : gEnv ε) : gSm γ cs ss 75 (fX9_step_k75 N) := by
  unfold fX9_step_k75
  refine sm_put (pc := 75) (ci := 9) (j := 5) (N := 32) (T := TX9) G hb ho hy tyX9 tyX9_ok nmX9 rfl (by decide) gin_9 gw6_1 rfl rfl (by decide +kernel : decode cX9_step 75 = .ok (.putfield 112, 3)) ?_
  refine sm_aload_n (pc := 78) G hb (by decide +kernel : decode cX9_step 78 = .ok (.aload_n 0, 1)) rfl ?_
  refine sm_iconst (pc := 79) G hb (by decide +kernel : decode cX9_step 79 = .ok (.iconst 0, 1)) (by decide) ?_
  refine sm_put (pc := 80) (ci := 9) (j := 6) (N := 32) (T := TX9) G hb ho hy tyX9 tyX9_ok nmX9 rfl (by decide) gin_9 gw6_2 rfl rfl (by decide +kernel : decode cX9_step 80 = .ok (.putfield 115, 3)) ?_
  refine sm_aload_n (pc := 83) G hb (by decide +kernel : decode cX9_step 83 = .ok (.aload_n 0, 1)) rfl ?_
  refine sm_get (pc := 84) (ci := 9) (j := 5) (N := 32) (T := TX9) G hb ho hy rfl (by decide) gin_9 gw6_1 (by decide +kernel : decode cX9_step 84 = .ok (.getfield 112, 3)) ?_
  refine sm_iconst (pc := 87) G hb (by decide +kernel : decode cX9_step 87 = .ok (.iconst 3, 1)) (by decide) ?_
  refine sm_icmp_ne (pc := 88) (tgt := 101) G hb (by decide +kernel : decode cX9_step 88 = .ok (.if_icmp .ne 13, 3)) (by decide) ?_ ?_
  · skip
    refine sm_mask ?_
    exact fX9_step_s101 N G hb ho hy hR he hr hE
  · skip
    refine sm_aload_n (pc := 91) G hb (by decide +kernel : decode cX9_step 91 = .ok (.aload_n 0, 1)) rfl ?_
    refine sm_dup (pc := 92) G hb (by decide +kernel : decode cX9_step 92 = .ok (.dup, 1)) ?_
    refine sm_get (pc := 93) (ci := 9) (j := 3) (N := 32) (T := TX9) G hb ho hy rfl (by decide) gin_9 gw5_239 (by decide +kernel : decode cX9_step 93 = .ok (.getfield 95, 3)) ?_
    refine sm_iconst (pc := 96) G hb (by decide +kernel : decode cX9_step 96 = .ok (.iconst 1, 1)) (by decide) ?_
    refine sm_iadd (pc := 97) G hb (by decide +kernel : decode cX9_step 97 = .ok (.iadd, 1)) ?_
    refine sm_put (pc := 98) (ci := 9) (j := 3) (N := 32) (T := TX9) G hb ho hy tyX9 tyX9_ok nmX9 rfl (by decide) gin_9 gw5_239 rfl rfl (by decide +kernel : decode cX9_step 98 = .ok (.putfield 95, 3)) ?_
    refine sm_mask ?_
    exact fX9_step_s101 N G hb ho hy hR he hr hE
set_option maxRecDepth 100000 in
set_option maxHeartbeats 4000000 in
theorem fX9_step_s56 {γ : gG} {cs ss : Nat} {ε : gE5} (N : Nat) (G : gOK γ) (hb : gcc γ = cX9_step) (ho : gow γ = RX9) (hy : gly γ = gyM) (hR : grm γ = { frames := 1, cells := 0, slots := 0, locals := 21 }) (he : genv γ = ε) (hr : grt γ = none) (hE : gEnv ε) : gSm γ cs ss 56 (fX9_step_k56 N) := by
  unfold fX9_step_k56
  refine sm_if_eq (pc := 56) (tgt := 63) G hb (by decide +kernel : decode cX9_step 56 = .ok (.ifCond .eq 7, 3)) (by decide) ?_ ?_
  · skip
    refine sm_iload_n (pc := 63) G hb (by decide +kernel : decode cX9_step 63 = .ok (.iload_n 1, 1)) rfl ?_
    refine sm_mono (ca_sub gI_sub) (sm_callS (pc := 64) G hb ho hy he hE.1 1 [] (kX9_isDigit hE N) (gCo_of (by decide +kernel)) (by rw [hR]; exact ⟨by decide, by decide⟩) (by decide +kernel) gw6_135 gw6_136 gw1_11 gw6_137 (by decide +kernel : decode cX9_step 64 = .ok (.invokestatic 109, 3)) ?_)
    refine sm_if_eq (pc := 67) (tgt := 74) G hb (by decide +kernel : decode cX9_step 67 = .ok (.ifCond .eq 7, 3)) (by decide) ?_ ?_
    · skip
      refine sm_iconst (pc := 74) G hb (by decide +kernel : decode cX9_step 74 = .ok (.iconst 3, 1)) (by decide) ?_
      refine sm_mask ?_
      exact fX9_step_s75 N G hb ho hy hR he hr hE
    · skip
      refine sm_iconst (pc := 70) G hb (by decide +kernel : decode cX9_step 70 = .ok (.iconst 2, 1)) (by decide) ?_
      refine sm_goto (pc := 71) (tgt := 75) G hb (by decide +kernel : decode cX9_step 71 = .ok (.goto 4, 3)) (by decide) ?_
      refine sm_mask ?_
      exact fX9_step_s75 N G hb ho hy hR he hr hE
  · skip
    refine sm_iconst (pc := 59) G hb (by decide +kernel : decode cX9_step 59 = .ok (.iconst 1, 1)) (by decide) ?_
    refine sm_goto (pc := 60) (tgt := 75) G hb (by decide +kernel : decode cX9_step 60 = .ok (.goto 15, 3)) (by decide) ?_
    refine sm_mask ?_
    exact fX9_step_s75 N G hb ho hy hR he hr hE
set_option maxRecDepth 100000 in
set_option maxHeartbeats 4000000 in
theorem fX9_step_s0 {γ : gG} {cs ss : Nat} {ε : gE5} (N : Nat) (G : gOK γ) (hb : gcc γ = cX9_step) (ho : gow γ = RX9) (hy : gly γ = gyM) (hR : grm γ = { frames := 1, cells := 0, slots := 0, locals := 21 }) (he : genv γ = ε) (hr : grt γ = none) (hE : gEnv ε) : gSm γ cs ss 0 (fX9_step_k0 N) := by
  unfold fX9_step_k0
  refine sm_lp (fun K0 h0 => ?_) N
  unfold fX9_step_b0
  refine sm_aload_n (pc := 0) G hb (by decide +kernel : decode cX9_step 0 = .ok (.aload_n 0, 1)) rfl ?_
  refine sm_aload_n (pc := 1) G hb (by decide +kernel : decode cX9_step 1 = .ok (.aload_n 0, 1)) rfl ?_
  refine sm_get (pc := 2) (ci := 9) (j := 3) (N := 32) (T := TX9) G hb ho hy rfl (by decide) gin_9 gw5_239 (by decide +kernel : decode cX9_step 2 = .ok (.getfield 95, 3)) ?_
  refine sm_mono (cav_sub gI_sub) (sm_callV (pc := 5) (N := 32) (T := TX9) (C := RX9) G hb ho hy he hE.1 2 [0, 1, 2, 3, 4, 5, 6, 7, 8, 9, 10, 11, 12, 13, 14, 15, 16, 17] (kX9_peek hE N) (gCo_of (by decide +kernel)) (by rw [hR]; exact ⟨by decide, by decide⟩) rfl rfl (by decide +kernel) gw6_128 gw6_130 gw0_37 gw1_11 gw6_131 (by decide +kernel : decode cX9_step 5 = .ok (.invokevirtual 98, 3)) ?_)
  refine sm_bipush (pc := 8) G hb (by decide +kernel : decode cX9_step 8 = .ok (.bipush 32, 2)) (by decide) ?_
  refine sm_icmp_ne (pc := 10) (tgt := 26) G hb (by decide +kernel : decode cX9_step 10 = .ok (.if_icmp .ne 16, 3)) (by decide) ?_ ?_
  · skip
    refine sm_aload_n (pc := 26) G hb (by decide +kernel : decode cX9_step 26 = .ok (.aload_n 0, 1)) rfl ?_
    refine sm_aload_n (pc := 27) G hb (by decide +kernel : decode cX9_step 27 = .ok (.aload_n 0, 1)) rfl ?_
    refine sm_get (pc := 28) (ci := 9) (j := 3) (N := 32) (T := TX9) G hb ho hy rfl (by decide) gin_9 gw5_239 (by decide +kernel : decode cX9_step 28 = .ok (.getfield 95, 3)) ?_
    refine sm_put (pc := 31) (ci := 9) (j := 4) (N := 32) (T := TX9) G hb ho hy tyX9 tyX9_ok nmX9 rfl (by decide) gin_9 gw6_0 rfl rfl (by decide +kernel : decode cX9_step 31 = .ok (.putfield 102, 3)) ?_
    refine sm_aload_n (pc := 34) G hb (by decide +kernel : decode cX9_step 34 = .ok (.aload_n 0, 1)) rfl ?_
    refine sm_aload_n (pc := 35) G hb (by decide +kernel : decode cX9_step 35 = .ok (.aload_n 0, 1)) rfl ?_
    refine sm_get (pc := 36) (ci := 9) (j := 3) (N := 32) (T := TX9) G hb ho hy rfl (by decide) gin_9 gw5_239 (by decide +kernel : decode cX9_step 36 = .ok (.getfield 95, 3)) ?_
    refine sm_mono (cav_sub gI_sub) (sm_callV (pc := 39) (N := 32) (T := TX9) (C := RX9) G hb ho hy he hE.1 2 [0, 1, 2, 3, 4, 5, 6, 7, 8, 9, 10, 11, 12, 13, 14, 15, 16, 17] (kX9_peek hE N) (gCo_of (by decide +kernel)) (by rw [hR]; exact ⟨by decide, by decide⟩) rfl rfl (by decide +kernel) gw6_128 gw6_130 gw0_37 gw1_11 gw6_131 (by decide +kernel : decode cX9_step 39 = .ok (.invokevirtual 98, 3)) ?_)
    refine sm_istore_n (pc := 42) G hb (by decide +kernel : decode cX9_step 42 = .ok (.istore_n 1, 1)) rfl ?_
    refine sm_aload_n (pc := 43) G hb (by decide +kernel : decode cX9_step 43 = .ok (.aload_n 0, 1)) rfl ?_
    refine sm_iload_n (pc := 44) G hb (by decide +kernel : decode cX9_step 44 = .ok (.iload_n 1, 1)) rfl ?_
    refine sm_if_ge (pc := 45) (tgt := 52) G hb (by decide +kernel : decode cX9_step 45 = .ok (.ifCond .ge 7, 3)) (by decide) ?_ ?_
    · skip
      refine sm_iload_n (pc := 52) G hb (by decide +kernel : decode cX9_step 52 = .ok (.iload_n 1, 1)) rfl ?_
      refine sm_mono (ca_sub gI_sub) (sm_callS (pc := 53) G hb ho hy he hE.1 1 [] (kX9_isLetter hE N) (gCo_of (by decide +kernel)) (by rw [hR]; exact ⟨by decide, by decide⟩) (by decide +kernel) gw6_132 gw6_133 gw1_11 gw6_134 (by decide +kernel : decode cX9_step 53 = .ok (.invokestatic 105, 3)) ?_)
      refine sm_mask ?_
      exact fX9_step_s56 N G hb ho hy hR he hr hE
    · skip
      refine sm_iconst (pc := 48) G hb (by decide +kernel : decode cX9_step 48 = .ok (.iconst 0, 1)) (by decide) ?_
      refine sm_goto (pc := 49) (tgt := 75) G hb (by decide +kernel : decode cX9_step 49 = .ok (.goto 26, 3)) (by decide) ?_
      refine sm_mask ?_
      exact fX9_step_s75 N G hb ho hy hR he hr hE
  · skip
    refine sm_aload_n (pc := 13) G hb (by decide +kernel : decode cX9_step 13 = .ok (.aload_n 0, 1)) rfl ?_
    refine sm_dup (pc := 14) G hb (by decide +kernel : decode cX9_step 14 = .ok (.dup, 1)) ?_
    refine sm_get (pc := 15) (ci := 9) (j := 3) (N := 32) (T := TX9) G hb ho hy rfl (by decide) gin_9 gw5_239 (by decide +kernel : decode cX9_step 15 = .ok (.getfield 95, 3)) ?_
    refine sm_iconst (pc := 18) G hb (by decide +kernel : decode cX9_step 18 = .ok (.iconst 1, 1)) (by decide) ?_
    refine sm_iadd (pc := 19) G hb (by decide +kernel : decode cX9_step 19 = .ok (.iadd, 1)) ?_
    refine sm_put (pc := 20) (ci := 9) (j := 3) (N := 32) (T := TX9) G hb ho hy tyX9 tyX9_ok nmX9 rfl (by decide) gin_9 gw5_239 rfl rfl (by decide +kernel : decode cX9_step 20 = .ok (.putfield 95, 3)) ?_
    refine sm_goto (pc := 23) (tgt := 0) G hb (by decide +kernel : decode cX9_step 23 = .ok (.goto (-23), 3)) (by decide) ?_
    refine sm_mask ?_
    exact h0
theorem kX9_step {ε : gE5} (hE : gEnv ε) (N : Nat) : gCtr ε yX9_step cX9_step 2 none 1 21 gyM (fX9_step N) :=
  gCtr_of hE.1 (by decide) (fun γ G hb ho hy hR he hr => fX9_step_s0 N G hb ho hy hR he hr hE)

set_option maxRecDepth 100000 in
set_option maxHeartbeats 4000000 in
theorem fX9_fail_s0 {γ : gG} {cs ss : Nat} {ε : gE5} (N : Nat) (G : gOK γ) (hb : gcc γ = cX9_fail) (ho : gow γ = RX9) (hy : gly γ = gyM) (hR : grm γ = { frames := 0, cells := 0, slots := 0, locals := 0 }) (he : genv γ = ε) (hr : grt γ = none) (hE : gEnv ε) : gSm γ cs ss 0 (fX9_fail_k0 N) := by
  unfold fX9_fail_k0
  refine sm_aload_n (pc := 0) G hb (by decide +kernel : decode cX9_fail 0 = .ok (.aload_n 0, 1)) rfl ?_
  refine sm_aload_n (pc := 1) G hb (by decide +kernel : decode cX9_fail 1 = .ok (.aload_n 0, 1)) rfl ?_
  refine sm_get (pc := 2) (ci := 9) (j := 7) (N := 32) (T := TX9) G hb ho hy rfl (by decide) gin_9 gw6_3 (by decide +kernel : decode cX9_fail 2 = .ok (.getfield 124, 3)) ?_
  refine sm_if_ge (pc := 5) (tgt := 15) G hb (by decide +kernel : decode cX9_fail 5 = .ok (.ifCond .ge 10, 3)) (by decide) ?_ ?_
  · skip
    refine sm_aload_n (pc := 15) G hb (by decide +kernel : decode cX9_fail 15 = .ok (.aload_n 0, 1)) rfl ?_
    refine sm_get (pc := 16) (ci := 9) (j := 7) (N := 32) (T := TX9) G hb ho hy rfl (by decide) gin_9 gw6_3 (by decide +kernel : decode cX9_fail 16 = .ok (.getfield 124, 3)) ?_
    refine sm_put (pc := 19) (ci := 9) (j := 7) (N := 32) (T := TX9) G hb ho hy tyX9 tyX9_ok nmX9 rfl (by decide) gin_9 gw6_3 rfl rfl (by decide +kernel : decode cX9_fail 19 = .ok (.putfield 124, 3)) ?_
    exact sm_vret (pc := 22) G hb (by decide +kernel : decode cX9_fail 22 = .ok (.return_, 1)) hr
  · skip
    refine sm_aload_n (pc := 8) G hb (by decide +kernel : decode cX9_fail 8 = .ok (.aload_n 0, 1)) rfl ?_
    refine sm_get (pc := 9) (ci := 9) (j := 4) (N := 32) (T := TX9) G hb ho hy rfl (by decide) gin_9 gw6_0 (by decide +kernel : decode cX9_fail 9 = .ok (.getfield 102, 3)) ?_
    refine sm_goto (pc := 12) (tgt := 19) G hb (by decide +kernel : decode cX9_fail 12 = .ok (.goto 7, 3)) (by decide) ?_
    refine sm_put (pc := 19) (ci := 9) (j := 7) (N := 32) (T := TX9) G hb ho hy tyX9 tyX9_ok nmX9 rfl (by decide) gin_9 gw6_3 rfl rfl (by decide +kernel : decode cX9_fail 19 = .ok (.putfield 124, 3)) ?_
    exact sm_vret (pc := 22) G hb (by decide +kernel : decode cX9_fail 22 = .ok (.return_, 1)) hr
theorem kX9_fail {ε : gE5} (hE : gEnv ε) (N : Nat) : gCtr ε yX9_fail cX9_fail 1 none 0 0 gyM (fX9_fail N) :=
  gCtr_of hE.1 (by decide) (fun γ G hb ho hy hR he hr => fX9_fail_s0 N G hb ho hy hR he hr hE)

set_option maxRecDepth 100000 in
set_option maxHeartbeats 4000000 in
theorem fX9_isGood_s0 {γ : gG} {cs ss : Nat} {ε : gE5} (N : Nat) (G : gOK γ) (hb : gcc γ = cX9_isGood) (ho : gow γ = RX9) (hy : gly γ = gyM) (hR : grm γ = { frames := 0, cells := 0, slots := 0, locals := 0 }) (he : genv γ = ε) (hr : grt γ = (some .boolean)) (hE : gEnv ε) : gSm γ cs ss 0 (fX9_isGood_k0 N) := by
  unfold fX9_isGood_k0
  refine sm_aload_n (pc := 0) G hb (by decide +kernel : decode cX9_isGood 0 = .ok (.aload_n 0, 1)) rfl ?_
  refine sm_get (pc := 1) (ci := 9) (j := 7) (N := 32) (T := TX9) G hb ho hy rfl (by decide) gin_9 gw6_3 (by decide +kernel : decode cX9_isGood 1 = .ok (.getfield 124, 3)) ?_
  refine sm_if_ge (pc := 4) (tgt := 11) G hb (by decide +kernel : decode cX9_isGood 4 = .ok (.ifCond .ge 7, 3)) (by decide) ?_ ?_
  · skip
    refine sm_iconst (pc := 11) G hb (by decide +kernel : decode cX9_isGood 11 = .ok (.iconst 0, 1)) (by decide) ?_
    exact sm_zret (pc := 12) G hb (by decide +kernel : decode cX9_isGood 12 = .ok (.ireturn, 1)) hr
  · skip
    refine sm_iconst (pc := 7) G hb (by decide +kernel : decode cX9_isGood 7 = .ok (.iconst 1, 1)) (by decide) ?_
    refine sm_goto (pc := 8) (tgt := 12) G hb (by decide +kernel : decode cX9_isGood 8 = .ok (.goto 4, 3)) (by decide) ?_
    exact sm_zret (pc := 12) G hb (by decide +kernel : decode cX9_isGood 12 = .ok (.ireturn, 1)) hr
theorem kX9_isGood {ε : gE5} (hE : gEnv ε) (N : Nat) : gCtr ε yX9_isGood cX9_isGood 1 (some .boolean) 0 0 gyM (fX9_isGood N) :=
  gCtr_of hE.1 (by decide) (fun γ G hb ho hy hR he hr => fX9_isGood_s0 N G hb ho hy hR he hr hE)

set_option maxRecDepth 100000 in
set_option maxHeartbeats 4000000 in
theorem fX9_isWord_s75 {γ : gG} {cs ss : Nat} {ε : gE5} (N : Nat) (G : gOK γ) (hb : gcc γ = cX9_isWord) (ho : gow γ = RX9) (hy : gly γ = gyM) (hR : grm γ = { frames := 4, cells := 0, slots := 0, locals := 85 }) (he : genv γ = ε) (hr : grt γ = (some .boolean)) (hE : gEnv ε) (K39 : gK) (h39 : gSm γ cs ss 39 K39) : gSm γ cs ss 75 (fX9_isWord_k75 N K39) := by
  unfold fX9_isWord_k75
  refine sm_istore_n (pc := 75) G hb (by decide +kernel : decode cX9_isWord 75 = .ok (.istore_n 2, 1)) rfl ?_
  refine sm_iinc (pc := 76) G hb (by decide +kernel : decode cX9_isWord 76 = .ok (.iinc 3 1, 3)) (by decide) ?_
  refine sm_goto (pc := 79) (tgt := 39) G hb (by decide +kernel : decode cX9_isWord 79 = .ok (.goto (-40), 3)) (by decide) ?_
  refine sm_mask ?_
  exact h39
set_option maxRecDepth 100000 in
set_option maxHeartbeats 4000000 in
theorem fX9_isWord_s39 {γ : gG} {cs ss : Nat} {ε : gE5} (N : Nat) (G : gOK γ) (hb : gcc γ = cX9_isWord) (ho : gow γ = RX9) (hy : gly γ = gyM) (hR : grm γ = { frames := 4, cells := 0, slots := 0, locals := 85 }) (he : genv γ = ε) (hr : grt γ = (some .boolean)) (hE : gEnv ε) : gSm γ cs ss 39 (fX9_isWord_k39 N) := by
  unfold fX9_isWord_k39
  refine sm_lp (fun K39 h39 => ?_) N
  unfold fX9_isWord_b39
  refine sm_iload_n (pc := 39) G hb (by decide +kernel : decode cX9_isWord 39 = .ok (.iload_n 2, 1)) rfl ?_
  refine sm_if_eq (pc := 40) (tgt := 82) G hb (by decide +kernel : decode cX9_isWord 40 = .ok (.ifCond .eq 42, 3)) (by decide) ?_ ?_
  · skip
    refine sm_iload_n (pc := 82) G hb (by decide +kernel : decode cX9_isWord 82 = .ok (.iload_n 2, 1)) rfl ?_
    exact sm_zret (pc := 83) G hb (by decide +kernel : decode cX9_isWord 83 = .ok (.ireturn, 1)) hr
  · skip
    refine sm_iload_n (pc := 43) G hb (by decide +kernel : decode cX9_isWord 43 = .ok (.iload_n 3, 1)) rfl ?_
    refine sm_aload_n (pc := 44) G hb (by decide +kernel : decode cX9_isWord 44 = .ok (.aload_n 1, 1)) rfl ?_
    refine sm_mono (cae_sub gI_sub) (sm_calle (pc := 45) G hb ho he hE 1 (kJS_length hE N) (by rw [hR]; exact ⟨by decide, by decide⟩) (by decide +kernel) gw6_148 gw2_150 gw2_151 gw1_17 gw2_152 (by decide +kernel : decode cX9_isWord 45 = .ok (.invokevirtual 131, 3)) ?_)
    refine sm_icmp_ge (pc := 48) (tgt := 82) G hb (by decide +kernel : decode cX9_isWord 48 = .ok (.if_icmp .ge 34, 3)) (by decide) ?_ ?_
    · skip
      refine sm_iload_n (pc := 82) G hb (by decide +kernel : decode cX9_isWord 82 = .ok (.iload_n 2, 1)) rfl ?_
      exact sm_zret (pc := 83) G hb (by decide +kernel : decode cX9_isWord 83 = .ok (.ireturn, 1)) hr
    · skip
      refine sm_aload_n (pc := 51) G hb (by decide +kernel : decode cX9_isWord 51 = .ok (.aload_n 0, 1)) rfl ?_
      refine sm_get (pc := 52) (ci := 9) (j := 1) (N := 32) (T := TX9) G hb ho hy rfl (by decide) gin_9 gw5_237 (by decide +kernel : decode cX9_isWord 52 = .ok (.getfield 9, 3)) ?_
      refine sm_aload_n (pc := 55) G hb (by decide +kernel : decode cX9_isWord 55 = .ok (.aload_n 0, 1)) rfl ?_
      refine sm_get (pc := 56) (ci := 9) (j := 4) (N := 32) (T := TX9) G hb ho hy rfl (by decide) gin_9 gw6_0 (by decide +kernel : decode cX9_isWord 56 = .ok (.getfield 102, 3)) ?_
      refine sm_iload_n (pc := 59) G hb (by decide +kernel : decode cX9_isWord 59 = .ok (.iload_n 3, 1)) rfl ?_
      refine sm_iadd (pc := 60) G hb (by decide +kernel : decode cX9_isWord 60 = .ok (.iadd, 1)) ?_
      refine sm_iald (pc := 61) G hb hy (by decide +kernel : decode cX9_isWord 61 = .ok (.iaload, 1)) ?_
      refine sm_aload_n (pc := 62) G hb (by decide +kernel : decode cX9_isWord 62 = .ok (.aload_n 1, 1)) rfl ?_
      refine sm_iload_n (pc := 63) G hb (by decide +kernel : decode cX9_isWord 63 = .ok (.iload_n 3, 1)) rfl ?_
      refine sm_mono (cae_sub gI_sub) (sm_calle (pc := 64) G hb ho he hE 2 (kJS_charAt hE N) (by rw [hR]; exact ⟨by decide, by decide⟩) (by decide +kernel) gw6_149 gw2_160 gw2_161 gw1_17 gw2_162 (by decide +kernel : decode cX9_isWord 64 = .ok (.invokevirtual 136, 3)) ?_)
      refine sm_icmp_ne (pc := 67) (tgt := 74) G hb (by decide +kernel : decode cX9_isWord 67 = .ok (.if_icmp .ne 7, 3)) (by decide) ?_ ?_
      · skip
        refine sm_iconst (pc := 74) G hb (by decide +kernel : decode cX9_isWord 74 = .ok (.iconst 0, 1)) (by decide) ?_
        refine sm_mask ?_
        exact fX9_isWord_s75 N G hb ho hy hR he hr hE K39 h39
      · skip
        refine sm_iconst (pc := 70) G hb (by decide +kernel : decode cX9_isWord 70 = .ok (.iconst 1, 1)) (by decide) ?_
        refine sm_goto (pc := 71) (tgt := 75) G hb (by decide +kernel : decode cX9_isWord 71 = .ok (.goto 4, 3)) (by decide) ?_
        refine sm_mask ?_
        exact fX9_isWord_s75 N G hb ho hy hR he hr hE K39 h39
set_option maxRecDepth 100000 in
set_option maxHeartbeats 4000000 in
theorem fX9_isWord_s36 {γ : gG} {cs ss : Nat} {ε : gE5} (N : Nat) (G : gOK γ) (hb : gcc γ = cX9_isWord) (ho : gow γ = RX9) (hy : gly γ = gyM) (hR : grm γ = { frames := 4, cells := 0, slots := 0, locals := 85 }) (he : genv γ = ε) (hr : grt γ = (some .boolean)) (hE : gEnv ε) : gSm γ cs ss 36 (fX9_isWord_k36 N) := by
  unfold fX9_isWord_k36
  refine sm_istore_n (pc := 36) G hb (by decide +kernel : decode cX9_isWord 36 = .ok (.istore_n 2, 1)) rfl ?_
  refine sm_iconst (pc := 37) G hb (by decide +kernel : decode cX9_isWord 37 = .ok (.iconst 0, 1)) (by decide) ?_
  refine sm_istore_n (pc := 38) G hb (by decide +kernel : decode cX9_isWord 38 = .ok (.istore_n 3, 1)) rfl ?_
  refine sm_mask ?_
  exact fX9_isWord_s39 N G hb ho hy hR he hr hE
set_option maxRecDepth 100000 in
set_option maxHeartbeats 4000000 in
theorem fX9_isWord_s35 {γ : gG} {cs ss : Nat} {ε : gE5} (N : Nat) (G : gOK γ) (hb : gcc γ = cX9_isWord) (ho : gow γ = RX9) (hy : gly γ = gyM) (hR : grm γ = { frames := 4, cells := 0, slots := 0, locals := 85 }) (he : genv γ = ε) (hr : grt γ = (some .boolean)) (hE : gEnv ε) : gSm γ cs ss 35 (fX9_isWord_k35 N) := by
  unfold fX9_isWord_k35
  refine sm_iconst (pc := 35) G hb (by decide +kernel : decode cX9_isWord 35 = .ok (.iconst 0, 1)) (by decide) ?_
  refine sm_mask ?_
  exact fX9_isWord_s36 N G hb ho hy hR he hr hE
set_option maxRecDepth 100000 in
set_option maxHeartbeats 4000000 in
theorem fX9_isWord_s0 {γ : gG} {cs ss : Nat} {ε : gE5} (N : Nat) (G : gOK γ) (hb : gcc γ = cX9_isWord) (ho : gow γ = RX9) (hy : gly γ = gyM) (hR : grm γ = { frames := 4, cells := 0, slots := 0, locals := 85 }) (he : genv γ = ε) (hr : grt γ = (some .boolean)) (hE : gEnv ε) : gSm γ cs ss 0 (fX9_isWord_k0 N) := by
  unfold fX9_isWord_k0
  refine sm_aload_n (pc := 0) G hb (by decide +kernel : decode cX9_isWord 0 = .ok (.aload_n 0, 1)) rfl ?_
  refine sm_mono (cav_sub gI_sub) (sm_callV (pc := 1) (N := 32) (T := TX9) (C := RX9) G hb ho hy he hE.1 1 [0, 1, 2, 3, 4, 5, 6, 7, 8, 9, 10, 11, 12, 13, 14, 15, 16, 17] (kX9_isGood hE N) (gCo_of (by decide +kernel)) (by rw [hR]; exact ⟨by decide, by decide⟩) rfl rfl (by decide +kernel) gw6_144 gw6_146 gw0_39 gw1_11 gw6_147 (by decide +kernel : decode cX9_isWord 1 = .ok (.invokevirtual 127, 3)) ?_)
  refine sm_if_eq (pc := 4) (tgt := 35) G hb (by decide +kernel : decode cX9_isWord 4 = .ok (.ifCond .eq 31, 3)) (by decide) ?_ ?_
  · skip
    refine sm_mask ?_
    exact fX9_isWord_s35 N G hb ho hy hR he hr hE
  · skip
    refine sm_aload_n (pc := 7) G hb (by decide +kernel : decode cX9_isWord 7 = .ok (.aload_n 0, 1)) rfl ?_
    refine sm_get (pc := 8) (ci := 9) (j := 5) (N := 32) (T := TX9) G hb ho hy rfl (by decide) gin_9 gw6_1 (by decide +kernel : decode cX9_isWord 8 = .ok (.getfield 112, 3)) ?_
    refine sm_iconst (pc := 11) G hb (by decide +kernel : decode cX9_isWord 11 = .ok (.iconst 1, 1)) (by decide) ?_
    refine sm_icmp_ne (pc := 12) (tgt := 35) G hb (by decide +kernel : decode cX9_isWord 12 = .ok (.if_icmp .ne 23, 3)) (by decide) ?_ ?_
    · skip
      refine sm_mask ?_
      exact fX9_isWord_s35 N G hb ho hy hR he hr hE
    · skip
      refine sm_aload_n (pc := 15) G hb (by decide +kernel : decode cX9_isWord 15 = .ok (.aload_n 0, 1)) rfl ?_
      refine sm_get (pc := 16) (ci := 9) (j := 3) (N := 32) (T := TX9) G hb ho hy rfl (by decide) gin_9 gw5_239 (by decide +kernel : decode cX9_isWord 16 = .ok (.getfield 95, 3)) ?_
      refine sm_aload_n (pc := 19) G hb (by decide +kernel : decode cX9_isWord 19 = .ok (.aload_n 0, 1)) rfl ?_
      refine sm_get (pc := 20) (ci := 9) (j := 4) (N := 32) (T := TX9) G hb ho hy rfl (by decide) gin_9 gw6_0 (by decide +kernel : decode cX9_isWord 20 = .ok (.getfield 102, 3)) ?_
      refine sm_isub (pc := 23) G hb (by decide +kernel : decode cX9_isWord 23 = .ok (.isub, 1)) ?_
      refine sm_aload_n (pc := 24) G hb (by decide +kernel : decode cX9_isWord 24 = .ok (.aload_n 1, 1)) rfl ?_
      refine sm_mono (cae_sub gI_sub) (sm_calle (pc := 25) G hb ho he hE 1 (kJS_length hE N) (by rw [hR]; exact ⟨by decide, by decide⟩) (by decide +kernel) gw6_148 gw2_150 gw2_151 gw1_17 gw2_152 (by decide +kernel : decode cX9_isWord 25 = .ok (.invokevirtual 131, 3)) ?_)
      refine sm_icmp_ne (pc := 28) (tgt := 35) G hb (by decide +kernel : decode cX9_isWord 28 = .ok (.if_icmp .ne 7, 3)) (by decide) ?_ ?_
      · skip
        refine sm_mask ?_
        exact fX9_isWord_s35 N G hb ho hy hR he hr hE
      · skip
        refine sm_iconst (pc := 31) G hb (by decide +kernel : decode cX9_isWord 31 = .ok (.iconst 1, 1)) (by decide) ?_
        refine sm_goto (pc := 32) (tgt := 36) G hb (by decide +kernel : decode cX9_isWord 32 = .ok (.goto 4, 3)) (by decide) ?_
        refine sm_mask ?_
        exact fX9_isWord_s36 N G hb ho hy hR he hr hE
theorem kX9_isWord {ε : gE5} (hE : gEnv ε) (N : Nat) : gCtr ε yX9_isWord cX9_isWord 4 (some .boolean) 4 85 gyM (fX9_isWord N) :=
  gCtr_of hE.1 (by decide) (fun γ G hb ho hy hR he hr => fX9_isWord_s0 N G hb ho hy hR he hr hE)

set_option maxRecDepth 100000 in
set_option maxHeartbeats 4000000 in
theorem fX9_isNumber_s0 {γ : gG} {cs ss : Nat} {ε : gE5} (N : Nat) (G : gOK γ) (hb : gcc γ = cX9_isNumber) (ho : gow γ = RX9) (hy : gly γ = gyM) (hR : grm γ = { frames := 1, cells := 0, slots := 0, locals := 25 }) (he : genv γ = ε) (hr : grt γ = (some .boolean)) (hE : gEnv ε) : gSm γ cs ss 0 (fX9_isNumber_k0 N) := by
  unfold fX9_isNumber_k0
  refine sm_aload_n (pc := 0) G hb (by decide +kernel : decode cX9_isNumber 0 = .ok (.aload_n 0, 1)) rfl ?_
  refine sm_mono (cav_sub gI_sub) (sm_callV (pc := 1) (N := 32) (T := TX9) (C := RX9) G hb ho hy he hE.1 1 [0, 1, 2, 3, 4, 5, 6, 7, 8, 9, 10, 11, 12, 13, 14, 15, 16, 17] (kX9_isGood hE N) (gCo_of (by decide +kernel)) (by rw [hR]; exact ⟨by decide, by decide⟩) rfl rfl (by decide +kernel) gw6_144 gw6_146 gw0_39 gw1_11 gw6_147 (by decide +kernel : decode cX9_isNumber 1 = .ok (.invokevirtual 127, 3)) ?_)
  refine sm_if_eq (pc := 4) (tgt := 47) G hb (by decide +kernel : decode cX9_isNumber 4 = .ok (.ifCond .eq 43, 3)) (by decide) ?_ ?_
  · skip
    refine sm_iconst (pc := 47) G hb (by decide +kernel : decode cX9_isNumber 47 = .ok (.iconst 0, 1)) (by decide) ?_
    exact sm_zret (pc := 48) G hb (by decide +kernel : decode cX9_isNumber 48 = .ok (.ireturn, 1)) hr
  · skip
    refine sm_aload_n (pc := 7) G hb (by decide +kernel : decode cX9_isNumber 7 = .ok (.aload_n 0, 1)) rfl ?_
    refine sm_get (pc := 8) (ci := 9) (j := 5) (N := 32) (T := TX9) G hb ho hy rfl (by decide) gin_9 gw6_1 (by decide +kernel : decode cX9_isNumber 8 = .ok (.getfield 112, 3)) ?_
    refine sm_iconst (pc := 11) G hb (by decide +kernel : decode cX9_isNumber 11 = .ok (.iconst 2, 1)) (by decide) ?_
    refine sm_icmp_ne (pc := 12) (tgt := 47) G hb (by decide +kernel : decode cX9_isNumber 12 = .ok (.if_icmp .ne 35, 3)) (by decide) ?_ ?_
    · skip
      refine sm_iconst (pc := 47) G hb (by decide +kernel : decode cX9_isNumber 47 = .ok (.iconst 0, 1)) (by decide) ?_
      exact sm_zret (pc := 48) G hb (by decide +kernel : decode cX9_isNumber 48 = .ok (.ireturn, 1)) hr
    · skip
      refine sm_aload_n (pc := 15) G hb (by decide +kernel : decode cX9_isNumber 15 = .ok (.aload_n 0, 1)) rfl ?_
      refine sm_get (pc := 16) (ci := 9) (j := 3) (N := 32) (T := TX9) G hb ho hy rfl (by decide) gin_9 gw5_239 (by decide +kernel : decode cX9_isNumber 16 = .ok (.getfield 95, 3)) ?_
      refine sm_aload_n (pc := 19) G hb (by decide +kernel : decode cX9_isNumber 19 = .ok (.aload_n 0, 1)) rfl ?_
      refine sm_get (pc := 20) (ci := 9) (j := 4) (N := 32) (T := TX9) G hb ho hy rfl (by decide) gin_9 gw6_0 (by decide +kernel : decode cX9_isNumber 20 = .ok (.getfield 102, 3)) ?_
      refine sm_isub (pc := 23) G hb (by decide +kernel : decode cX9_isNumber 23 = .ok (.isub, 1)) ?_
      refine sm_iconst (pc := 24) G hb (by decide +kernel : decode cX9_isNumber 24 = .ok (.iconst 3, 1)) (by decide) ?_
      refine sm_icmp_gt (pc := 25) (tgt := 47) G hb (by decide +kernel : decode cX9_isNumber 25 = .ok (.if_icmp .gt 22, 3)) (by decide) ?_ ?_
      · skip
        refine sm_iconst (pc := 47) G hb (by decide +kernel : decode cX9_isNumber 47 = .ok (.iconst 0, 1)) (by decide) ?_
        exact sm_zret (pc := 48) G hb (by decide +kernel : decode cX9_isNumber 48 = .ok (.ireturn, 1)) hr
      · skip
        refine sm_aload_n (pc := 28) G hb (by decide +kernel : decode cX9_isNumber 28 = .ok (.aload_n 0, 1)) rfl ?_
        refine sm_get (pc := 29) (ci := 9) (j := 6) (N := 32) (T := TX9) G hb ho hy rfl (by decide) gin_9 gw6_2 (by decide +kernel : decode cX9_isNumber 29 = .ok (.getfield 115, 3)) ?_
        refine sm_i2l (pc := 32) G hb (by decide +kernel : decode cX9_isNumber 32 = .ok (.i2l, 1)) ?_
        refine sm_iload_n (pc := 33) G hb (by decide +kernel : decode cX9_isNumber 33 = .ok (.iload_n 1, 1)) rfl ?_
        refine sm_i2l (pc := 34) G hb (by decide +kernel : decode cX9_isNumber 34 = .ok (.i2l, 1)) ?_
        refine sm_iload_n (pc := 35) G hb (by decide +kernel : decode cX9_isNumber 35 = .ok (.iload_n 2, 1)) rfl ?_
        refine sm_i2l (pc := 36) G hb (by decide +kernel : decode cX9_isNumber 36 = .ok (.i2l, 1)) ?_
        refine sm_mono (ca_sub gI_sub) (sm_callS (pc := 37) G hb ho hy he hE.1 3 [] (kX9_in hE N) (gCo_of (by decide +kernel)) (by rw [hR]; exact ⟨by decide, by decide⟩) (by decide +kernel) gw6_113 gw6_114 gw1_11 gw6_115 (by decide +kernel : decode cX9_isNumber 37 = .ok (.invokestatic 91, 3)) ?_)
        refine sm_if_eq (pc := 40) (tgt := 47) G hb (by decide +kernel : decode cX9_isNumber 40 = .ok (.ifCond .eq 7, 3)) (by decide) ?_ ?_
        · skip
          refine sm_iconst (pc := 47) G hb (by decide +kernel : decode cX9_isNumber 47 = .ok (.iconst 0, 1)) (by decide) ?_
          exact sm_zret (pc := 48) G hb (by decide +kernel : decode cX9_isNumber 48 = .ok (.ireturn, 1)) hr
        · skip
          refine sm_iconst (pc := 43) G hb (by decide +kernel : decode cX9_isNumber 43 = .ok (.iconst 1, 1)) (by decide) ?_
          refine sm_goto (pc := 44) (tgt := 48) G hb (by decide +kernel : decode cX9_isNumber 44 = .ok (.goto 4, 3)) (by decide) ?_
          exact sm_zret (pc := 48) G hb (by decide +kernel : decode cX9_isNumber 48 = .ok (.ireturn, 1)) hr
theorem kX9_isNumber {ε : gE5} (hE : gEnv ε) (N : Nat) : gCtr ε yX9_isNumber cX9_isNumber 3 (some .boolean) 1 25 gyM (fX9_isNumber N) :=
  gCtr_of hE.1 (by decide) (fun γ G hb ho hy hR he hr => fX9_isNumber_s0 N G hb ho hy hR he hr hE)

set_option maxRecDepth 100000 in
set_option maxHeartbeats 4000000 in
theorem fX9_takeNumber_s0 {γ : gG} {cs ss : Nat} {ε : gE5} (N : Nat) (G : gOK γ) (hb : gcc γ = cX9_takeNumber) (ho : gow γ = RX9) (hy : gly γ = gyM) (hR : grm γ = { frames := 2, cells := 0, slots := 0, locals := 47 }) (he : genv γ = ε) (hr : grt γ = (some .int)) (hE : gEnv ε) : gSm γ cs ss 0 (fX9_takeNumber_k0 N) := by
  unfold fX9_takeNumber_k0
  refine sm_aload_n (pc := 0) G hb (by decide +kernel : decode cX9_takeNumber 0 = .ok (.aload_n 0, 1)) rfl ?_
  refine sm_iload_n (pc := 1) G hb (by decide +kernel : decode cX9_takeNumber 1 = .ok (.iload_n 1, 1)) rfl ?_
  refine sm_iload_n (pc := 2) G hb (by decide +kernel : decode cX9_takeNumber 2 = .ok (.iload_n 2, 1)) rfl ?_
  refine sm_mono (cav_sub gI_sub) (sm_callV (pc := 3) (N := 32) (T := TX9) (C := RX9) G hb ho hy he hE.1 3 [0, 1, 2, 3, 4, 5, 6, 7, 8, 9, 10, 11, 12, 13, 14, 15, 16, 17] (kX9_isNumber hE N) (gCo_of (by decide +kernel)) (by rw [hR]; exact ⟨by decide, by decide⟩) rfl rfl (by decide +kernel) gw6_154 gw6_156 gw0_41 gw1_11 gw6_157 (by decide +kernel : decode cX9_takeNumber 3 = .ok (.invokevirtual 140, 3)) ?_)
  refine sm_if_ne (pc := 6) (tgt := 15) G hb (by decide +kernel : decode cX9_takeNumber 6 = .ok (.ifCond .ne 9, 3)) (by decide) ?_ ?_
  · skip
    refine sm_aload_n (pc := 15) G hb (by decide +kernel : decode cX9_takeNumber 15 = .ok (.aload_n 0, 1)) rfl ?_
    refine sm_get (pc := 16) (ci := 9) (j := 6) (N := 32) (T := TX9) G hb ho hy rfl (by decide) gin_9 gw6_2 (by decide +kernel : decode cX9_takeNumber 16 = .ok (.getfield 115, 3)) ?_
    refine sm_istore_n (pc := 19) G hb (by decide +kernel : decode cX9_takeNumber 19 = .ok (.istore_n 3, 1)) rfl ?_
    refine sm_aload_n (pc := 20) G hb (by decide +kernel : decode cX9_takeNumber 20 = .ok (.aload_n 0, 1)) rfl ?_
    refine sm_mono (cav_sub gV_sub) (sm_callV (pc := 21) (N := 32) (T := TX9) (C := RX9) G hb ho hy he hE.1 1 [0, 1, 2, 3, 4, 5, 6, 7, 8, 9, 10, 11, 12, 13, 14, 15, 16, 17] (kX9_step hE N) (gCo_of (by decide +kernel)) (by rw [hR]; exact ⟨by decide, by decide⟩) rfl rfl (by decide +kernel) gw6_124 gw6_126 gw0_36 gw1_11 gw6_127 (by decide +kernel : decode cX9_takeNumber 21 = .ok (.invokevirtual 147, 3)) ?_)
    refine sm_iload_n (pc := 24) G hb (by decide +kernel : decode cX9_takeNumber 24 = .ok (.iload_n 3, 1)) rfl ?_
    exact sm_iret (pc := 25) G hb (by decide +kernel : decode cX9_takeNumber 25 = .ok (.ireturn, 1)) hr
  · skip
    refine sm_aload_n (pc := 9) G hb (by decide +kernel : decode cX9_takeNumber 9 = .ok (.aload_n 0, 1)) rfl ?_
    refine sm_mono (cav_sub gV_sub) (sm_callV (pc := 10) (N := 32) (T := TX9) (C := RX9) G hb ho hy he hE.1 1 [0, 1, 2, 3, 4, 5, 6, 7, 8, 9, 10, 11, 12, 13, 14, 15, 16, 17] (kX9_fail hE N) (gCo_of (by decide +kernel)) (by rw [hR]; exact ⟨by decide, by decide⟩) rfl rfl (by decide +kernel) gw6_158 gw6_160 gw0_42 gw1_11 gw6_161 (by decide +kernel : decode cX9_takeNumber 10 = .ok (.invokevirtual 144, 3)) ?_)
    refine sm_iload_n (pc := 13) G hb (by decide +kernel : decode cX9_takeNumber 13 = .ok (.iload_n 1, 1)) rfl ?_
    exact sm_iret (pc := 14) G hb (by decide +kernel : decode cX9_takeNumber 14 = .ok (.ireturn, 1)) hr
theorem kX9_takeNumber {ε : gE5} (hE : gEnv ε) (N : Nat) : gCtr ε yX9_takeNumber cX9_takeNumber 4 (some .int) 2 47 gyM (fX9_takeNumber N) :=
  gCtr_of hE.1 (by decide) (fun γ G hb ho hy hR he hr => fX9_takeNumber_s0 N G hb ho hy hR he hr hE)

set_option maxRecDepth 100000 in
set_option maxHeartbeats 4000000 in
theorem fX9_begin_s2 {γ : gG} {cs ss : Nat} {ε : gE5} (N : Nat) (G : gOK γ) (hb : gcc γ = cX9_begin) (ho : gow γ = RX9) (hy : gly γ = gyM) (hR : grm γ = { frames := 0, cells := 0, slots := 0, locals := 0 }) (he : genv γ = ε) (hr : grt γ = none) (hE : gEnv ε) : gSm γ cs ss 2 (fX9_begin_k2 N) := by
  unfold fX9_begin_k2
  refine sm_lp (fun K2 h2 => ?_) N
  unfold fX9_begin_b2
  refine sm_iload_n (pc := 2) G hb (by decide +kernel : decode cX9_begin 2 = .ok (.iload_n 1, 1)) rfl ?_
  refine sm_sipush (pc := 3) G hb (by decide +kernel : decode cX9_begin 3 = .ok (.sipush 2746, 3)) (by decide) ?_
  refine sm_icmp_ge (pc := 6) (tgt := 22) G hb (by decide +kernel : decode cX9_begin 6 = .ok (.if_icmp .ge 16, 3)) (by decide) ?_ ?_
  · skip
    refine sm_aload_n (pc := 22) G hb (by decide +kernel : decode cX9_begin 22 = .ok (.aload_n 0, 1)) rfl ?_
    refine sm_get (pc := 23) (ci := 9) (j := 8) (N := 32) (T := TX9) G hb ho hy rfl (by decide) gin_9 gw6_4 (by decide +kernel : decode cX9_begin 23 = .ok (.getfield 13, 3)) ?_
    refine sm_iconst (pc := 26) G hb (by decide +kernel : decode cX9_begin 26 = .ok (.iconst 4, 1)) (by decide) ?_
    refine sm_bipush (pc := 27) G hb (by decide +kernel : decode cX9_begin 27 = .ok (.bipush 10, 2)) (by decide) ?_
    refine sm_iast (pc := 29) G hb hy (by decide +kernel : decode cX9_begin 29 = .ok (.iastore, 1)) ?_
    refine sm_aload_n (pc := 30) G hb (by decide +kernel : decode cX9_begin 30 = .ok (.aload_n 0, 1)) rfl ?_
    refine sm_iconst (pc := 31) G hb (by decide +kernel : decode cX9_begin 31 = .ok (.iconst 0, 1)) (by decide) ?_
    refine sm_put (pc := 32) (ci := 9) (j := 14) (N := 32) (T := TX9) G hb ho hy tyX9 tyX9_ok nmX9 rfl (by decide) gin_9 gw6_10 rfl rfl (by decide +kernel : decode cX9_begin 32 = .ok (.putfield 150, 3)) ?_
    refine sm_aload_n (pc := 35) G hb (by decide +kernel : decode cX9_begin 35 = .ok (.aload_n 0, 1)) rfl ?_
    refine sm_iconst (pc := 36) G hb (by decide +kernel : decode cX9_begin 36 = .ok (.iconst 0, 1)) (by decide) ?_
    refine sm_put (pc := 37) (ci := 9) (j := 15) (N := 32) (T := TX9) G hb ho hy tyX9 tyX9_ok nmX9 rfl (by decide) gin_9 gw6_11 rfl rfl (by decide +kernel : decode cX9_begin 37 = .ok (.putfield 153, 3)) ?_
    exact sm_vret (pc := 40) G hb (by decide +kernel : decode cX9_begin 40 = .ok (.return_, 1)) hr
  · skip
    refine sm_aload_n (pc := 9) G hb (by decide +kernel : decode cX9_begin 9 = .ok (.aload_n 0, 1)) rfl ?_
    refine sm_get (pc := 10) (ci := 9) (j := 8) (N := 32) (T := TX9) G hb ho hy rfl (by decide) gin_9 gw6_4 (by decide +kernel : decode cX9_begin 10 = .ok (.getfield 13, 3)) ?_
    refine sm_iload_n (pc := 13) G hb (by decide +kernel : decode cX9_begin 13 = .ok (.iload_n 1, 1)) rfl ?_
    refine sm_iconst (pc := 14) G hb (by decide +kernel : decode cX9_begin 14 = .ok (.iconst 0, 1)) (by decide) ?_
    refine sm_iast (pc := 15) G hb hy (by decide +kernel : decode cX9_begin 15 = .ok (.iastore, 1)) ?_
    refine sm_iinc (pc := 16) G hb (by decide +kernel : decode cX9_begin 16 = .ok (.iinc 1 1, 3)) (by decide) ?_
    refine sm_goto (pc := 19) (tgt := 2) G hb (by decide +kernel : decode cX9_begin 19 = .ok (.goto (-17), 3)) (by decide) ?_
    refine sm_mask ?_
    exact h2
set_option maxRecDepth 100000 in
set_option maxHeartbeats 4000000 in
theorem fX9_begin_s0 {γ : gG} {cs ss : Nat} {ε : gE5} (N : Nat) (G : gOK γ) (hb : gcc γ = cX9_begin) (ho : gow γ = RX9) (hy : gly γ = gyM) (hR : grm γ = { frames := 0, cells := 0, slots := 0, locals := 0 }) (he : genv γ = ε) (hr : grt γ = none) (hE : gEnv ε) : gSm γ cs ss 0 (fX9_begin_k0 N) := by
  unfold fX9_begin_k0
  refine sm_iconst (pc := 0) G hb (by decide +kernel : decode cX9_begin 0 = .ok (.iconst 0, 1)) (by decide) ?_
  refine sm_istore_n (pc := 1) G hb (by decide +kernel : decode cX9_begin 1 = .ok (.istore_n 1, 1)) rfl ?_
  refine sm_mask ?_
  exact fX9_begin_s2 N G hb ho hy hR he hr hE
theorem kX9_begin {ε : gE5} (hE : gEnv ε) (N : Nat) : gCtr ε yX9_begin cX9_begin 2 none 0 0 gyM (fX9_begin N) :=
  gCtr_of hE.1 (by decide) (fun γ G hb ho hy hR he hr => fX9_begin_s0 N G hb ho hy hR he hr hE)

set_option maxRecDepth 100000 in
set_option maxHeartbeats 4000000 in
theorem fX9_linkIn_s39 {γ : gG} {cs ss : Nat} {ε : gE5} (N : Nat) (G : gOK γ) (hb : gcc γ = cX9_linkIn) (ho : gow γ = RX9) (hy : gly γ = gyMrow) (hR : grm γ = { frames := 0, cells := 0, slots := 0, locals := 0 }) (he : genv γ = ε) (hr : grt γ = (some .int)) (hE : gEnv ε) (K2 : gK) (h2 : gSm γ cs ss 2 K2) : gSm γ cs ss 39 (fX9_linkIn_k39 N K2) := by
  unfold fX9_linkIn_k39
  refine sm_iinc (pc := 39) G hb (by decide +kernel : decode cX9_linkIn 39 = .ok (.iinc 3 1, 3)) (by decide) ?_
  refine sm_goto (pc := 42) (tgt := 2) G hb (by decide +kernel : decode cX9_linkIn 42 = .ok (.goto (-40), 3)) (by decide) ?_
  refine sm_mask ?_
  exact h2
set_option maxRecDepth 100000 in
set_option maxHeartbeats 4000000 in
theorem fX9_linkIn_s2 {γ : gG} {cs ss : Nat} {ε : gE5} (N : Nat) (G : gOK γ) (hb : gcc γ = cX9_linkIn) (ho : gow γ = RX9) (hy : gly γ = gyMrow) (hR : grm γ = { frames := 0, cells := 0, slots := 0, locals := 0 }) (he : genv γ = ε) (hr : grt γ = (some .int)) (hE : gEnv ε) : gSm γ cs ss 2 (fX9_linkIn_k2 N) := by
  unfold fX9_linkIn_k2
  refine sm_lp (fun K2 h2 => ?_) N
  unfold fX9_linkIn_b2
  refine sm_iload_n (pc := 2) G hb (by decide +kernel : decode cX9_linkIn 2 = .ok (.iload_n 3, 1)) rfl ?_
  refine sm_aload_n (pc := 3) G hb (by decide +kernel : decode cX9_linkIn 3 = .ok (.aload_n 0, 1)) rfl ?_
  refine sm_iconst (pc := 4) G hb (by decide +kernel : decode cX9_linkIn 4 = .ok (.iconst 1, 1)) (by decide) ?_
  refine sm_iald (pc := 5) G hb hy (by decide +kernel : decode cX9_linkIn 5 = .ok (.iaload, 1)) ?_
  refine sm_icmp_ge (pc := 6) (tgt := 45) G hb (by decide +kernel : decode cX9_linkIn 6 = .ok (.if_icmp .ge 39, 3)) (by decide) ?_ ?_
  · skip
    refine sm_iconst (pc := 45) G hb (by decide +kernel : decode cX9_linkIn 45 = .ok (.iconst (-1), 1)) (by decide) ?_
    exact sm_iret (pc := 46) G hb (by decide +kernel : decode cX9_linkIn 46 = .ok (.ireturn, 1)) hr
  · skip
    refine sm_aload_n (pc := 9) G hb (by decide +kernel : decode cX9_linkIn 9 = .ok (.aload_n 0, 1)) rfl ?_
    refine sm_bipush (pc := 10) G hb (by decide +kernel : decode cX9_linkIn 10 = .ok (.bipush 9, 2)) (by decide) ?_
    refine sm_iconst (pc := 12) G hb (by decide +kernel : decode cX9_linkIn 12 = .ok (.iconst 4, 1)) (by decide) ?_
    refine sm_iload_n (pc := 13) G hb (by decide +kernel : decode cX9_linkIn 13 = .ok (.iload_n 3, 1)) rfl ?_
    refine sm_imul (pc := 14) G hb (by decide +kernel : decode cX9_linkIn 14 = .ok (.imul, 1)) ?_
    refine sm_iadd (pc := 15) G hb (by decide +kernel : decode cX9_linkIn 15 = .ok (.iadd, 1)) ?_
    refine sm_iconst (pc := 16) G hb (by decide +kernel : decode cX9_linkIn 16 = .ok (.iconst 0, 1)) (by decide) ?_
    refine sm_iadd (pc := 17) G hb (by decide +kernel : decode cX9_linkIn 17 = .ok (.iadd, 1)) ?_
    refine sm_iald (pc := 18) G hb hy (by decide +kernel : decode cX9_linkIn 18 = .ok (.iaload, 1)) ?_
    refine sm_iload_n (pc := 19) G hb (by decide +kernel : decode cX9_linkIn 19 = .ok (.iload_n 1, 1)) rfl ?_
    refine sm_icmp_ne (pc := 20) (tgt := 39) G hb (by decide +kernel : decode cX9_linkIn 20 = .ok (.if_icmp .ne 19, 3)) (by decide) ?_ ?_
    · skip
      refine sm_mask ?_
      exact fX9_linkIn_s39 N G hb ho hy hR he hr hE K2 h2
    · skip
      refine sm_aload_n (pc := 23) G hb (by decide +kernel : decode cX9_linkIn 23 = .ok (.aload_n 0, 1)) rfl ?_
      refine sm_bipush (pc := 24) G hb (by decide +kernel : decode cX9_linkIn 24 = .ok (.bipush 9, 2)) (by decide) ?_
      refine sm_iconst (pc := 26) G hb (by decide +kernel : decode cX9_linkIn 26 = .ok (.iconst 4, 1)) (by decide) ?_
      refine sm_iload_n (pc := 27) G hb (by decide +kernel : decode cX9_linkIn 27 = .ok (.iload_n 3, 1)) rfl ?_
      refine sm_imul (pc := 28) G hb (by decide +kernel : decode cX9_linkIn 28 = .ok (.imul, 1)) ?_
      refine sm_iadd (pc := 29) G hb (by decide +kernel : decode cX9_linkIn 29 = .ok (.iadd, 1)) ?_
      refine sm_iconst (pc := 30) G hb (by decide +kernel : decode cX9_linkIn 30 = .ok (.iconst 1, 1)) (by decide) ?_
      refine sm_iadd (pc := 31) G hb (by decide +kernel : decode cX9_linkIn 31 = .ok (.iadd, 1)) ?_
      refine sm_iald (pc := 32) G hb hy (by decide +kernel : decode cX9_linkIn 32 = .ok (.iaload, 1)) ?_
      refine sm_iload_n (pc := 33) G hb (by decide +kernel : decode cX9_linkIn 33 = .ok (.iload_n 2, 1)) rfl ?_
      refine sm_icmp_ne (pc := 34) (tgt := 39) G hb (by decide +kernel : decode cX9_linkIn 34 = .ok (.if_icmp .ne 5, 3)) (by decide) ?_ ?_
      · skip
        refine sm_mask ?_
        exact fX9_linkIn_s39 N G hb ho hy hR he hr hE K2 h2
      · skip
        refine sm_iload_n (pc := 37) G hb (by decide +kernel : decode cX9_linkIn 37 = .ok (.iload_n 3, 1)) rfl ?_
        exact sm_iret (pc := 38) G hb (by decide +kernel : decode cX9_linkIn 38 = .ok (.ireturn, 1)) hr
set_option maxRecDepth 100000 in
set_option maxHeartbeats 4000000 in
theorem fX9_linkIn_s0 {γ : gG} {cs ss : Nat} {ε : gE5} (N : Nat) (G : gOK γ) (hb : gcc γ = cX9_linkIn) (ho : gow γ = RX9) (hy : gly γ = gyMrow) (hR : grm γ = { frames := 0, cells := 0, slots := 0, locals := 0 }) (he : genv γ = ε) (hr : grt γ = (some .int)) (hE : gEnv ε) : gSm γ cs ss 0 (fX9_linkIn_k0 N) := by
  unfold fX9_linkIn_k0
  refine sm_iconst (pc := 0) G hb (by decide +kernel : decode cX9_linkIn 0 = .ok (.iconst 0, 1)) (by decide) ?_
  refine sm_istore_n (pc := 1) G hb (by decide +kernel : decode cX9_linkIn 1 = .ok (.istore_n 3, 1)) rfl ?_
  refine sm_mask ?_
  exact fX9_linkIn_s2 N G hb ho hy hR he hr hE
theorem kX9_linkIn {ε : gE5} (hE : gEnv ε) (N : Nat) : gCtr ε yX9_linkIn cX9_linkIn 4 (some .int) 0 0 gyMrow (fX9_linkIn N) :=
  gCtr_of hE.1 (by decide) (fun γ G hb ho hy hR he hr => fX9_linkIn_s0 N G hb ho hy hR he hr hE)

set_option maxRecDepth 100000 in
set_option maxHeartbeats 4000000 in
theorem fX9_layLink_s0 {γ : gG} {cs ss : Nat} {ε : gE5} (N : Nat) (G : gOK γ) (hb : gcc γ = cX9_layLink) (ho : gow γ = RX9) (hy : gly γ = gyMrow) (hR : grm γ = { frames := 0, cells := 0, slots := 0, locals := 0 }) (he : genv γ = ε) (hr : grt γ = none) (hE : gEnv ε) : gSm γ cs ss 0 (fX9_layLink_k0 N) := by
  unfold fX9_layLink_k0
  refine sm_bipush (pc := 0) G hb (by decide +kernel : decode cX9_layLink 0 = .ok (.bipush 9, 2)) (by decide) ?_
  refine sm_iconst (pc := 2) G hb (by decide +kernel : decode cX9_layLink 2 = .ok (.iconst 4, 1)) (by decide) ?_
  refine sm_aload_n (pc := 3) G hb (by decide +kernel : decode cX9_layLink 3 = .ok (.aload_n 0, 1)) rfl ?_
  refine sm_iconst (pc := 4) G hb (by decide +kernel : decode cX9_layLink 4 = .ok (.iconst 1, 1)) (by decide) ?_
  refine sm_iald (pc := 5) G hb hy (by decide +kernel : decode cX9_layLink 5 = .ok (.iaload, 1)) ?_
  refine sm_imul (pc := 6) G hb (by decide +kernel : decode cX9_layLink 6 = .ok (.imul, 1)) ?_
  refine sm_iadd (pc := 7) G hb (by decide +kernel : decode cX9_layLink 7 = .ok (.iadd, 1)) ?_
  refine sm_istore (pc := 8) G hb (by decide +kernel : decode cX9_layLink 8 = .ok (.istore 4, 2)) ?_
  refine sm_aload_n (pc := 10) G hb (by decide +kernel : decode cX9_layLink 10 = .ok (.aload_n 0, 1)) rfl ?_
  refine sm_iload (pc := 11) G hb (by decide +kernel : decode cX9_layLink 11 = .ok (.iload 4, 2)) ?_
  refine sm_iconst (pc := 13) G hb (by decide +kernel : decode cX9_layLink 13 = .ok (.iconst 0, 1)) (by decide) ?_
  refine sm_iadd (pc := 14) G hb (by decide +kernel : decode cX9_layLink 14 = .ok (.iadd, 1)) ?_
  refine sm_iload_n (pc := 15) G hb (by decide +kernel : decode cX9_layLink 15 = .ok (.iload_n 1, 1)) rfl ?_
  refine sm_iast (pc := 16) G hb hy (by decide +kernel : decode cX9_layLink 16 = .ok (.iastore, 1)) ?_
  refine sm_aload_n (pc := 17) G hb (by decide +kernel : decode cX9_layLink 17 = .ok (.aload_n 0, 1)) rfl ?_
  refine sm_iload (pc := 18) G hb (by decide +kernel : decode cX9_layLink 18 = .ok (.iload 4, 2)) ?_
  refine sm_iconst (pc := 20) G hb (by decide +kernel : decode cX9_layLink 20 = .ok (.iconst 1, 1)) (by decide) ?_
  refine sm_iadd (pc := 21) G hb (by decide +kernel : decode cX9_layLink 21 = .ok (.iadd, 1)) ?_
  refine sm_iload_n (pc := 22) G hb (by decide +kernel : decode cX9_layLink 22 = .ok (.iload_n 2, 1)) rfl ?_
  refine sm_iast (pc := 23) G hb hy (by decide +kernel : decode cX9_layLink 23 = .ok (.iastore, 1)) ?_
  refine sm_aload_n (pc := 24) G hb (by decide +kernel : decode cX9_layLink 24 = .ok (.aload_n 0, 1)) rfl ?_
  refine sm_iload (pc := 25) G hb (by decide +kernel : decode cX9_layLink 25 = .ok (.iload 4, 2)) ?_
  refine sm_iconst (pc := 27) G hb (by decide +kernel : decode cX9_layLink 27 = .ok (.iconst 2, 1)) (by decide) ?_
  refine sm_iadd (pc := 28) G hb (by decide +kernel : decode cX9_layLink 28 = .ok (.iadd, 1)) ?_
  refine sm_iload_n (pc := 29) G hb (by decide +kernel : decode cX9_layLink 29 = .ok (.iload_n 3, 1)) rfl ?_
  refine sm_iast (pc := 30) G hb hy (by decide +kernel : decode cX9_layLink 30 = .ok (.iastore, 1)) ?_
  refine sm_aload_n (pc := 31) G hb (by decide +kernel : decode cX9_layLink 31 = .ok (.aload_n 0, 1)) rfl ?_
  refine sm_iload (pc := 32) G hb (by decide +kernel : decode cX9_layLink 32 = .ok (.iload 4, 2)) ?_
  refine sm_iconst (pc := 34) G hb (by decide +kernel : decode cX9_layLink 34 = .ok (.iconst 3, 1)) (by decide) ?_
  refine sm_iadd (pc := 35) G hb (by decide +kernel : decode cX9_layLink 35 = .ok (.iadd, 1)) ?_
  refine sm_iconst (pc := 36) G hb (by decide +kernel : decode cX9_layLink 36 = .ok (.iconst 0, 1)) (by decide) ?_
  refine sm_iast (pc := 37) G hb hy (by decide +kernel : decode cX9_layLink 37 = .ok (.iastore, 1)) ?_
  refine sm_aload_n (pc := 38) G hb (by decide +kernel : decode cX9_layLink 38 = .ok (.aload_n 0, 1)) rfl ?_
  refine sm_sipush (pc := 39) G hb (by decide +kernel : decode cX9_layLink 39 = .ok (.sipush 131, 3)) (by decide) ?_
  refine sm_aload_n (pc := 42) G hb (by decide +kernel : decode cX9_layLink 42 = .ok (.aload_n 0, 1)) rfl ?_
  refine sm_iconst (pc := 43) G hb (by decide +kernel : decode cX9_layLink 43 = .ok (.iconst 1, 1)) (by decide) ?_
  refine sm_iald (pc := 44) G hb hy (by decide +kernel : decode cX9_layLink 44 = .ok (.iaload, 1)) ?_
  refine sm_iadd (pc := 45) G hb (by decide +kernel : decode cX9_layLink 45 = .ok (.iadd, 1)) ?_
  refine sm_iconst (pc := 46) G hb (by decide +kernel : decode cX9_layLink 46 = .ok (.iconst 0, 1)) (by decide) ?_
  refine sm_iast (pc := 47) G hb hy (by decide +kernel : decode cX9_layLink 47 = .ok (.iastore, 1)) ?_
  refine sm_aload_n (pc := 48) G hb (by decide +kernel : decode cX9_layLink 48 = .ok (.aload_n 0, 1)) rfl ?_
  refine sm_iconst (pc := 49) G hb (by decide +kernel : decode cX9_layLink 49 = .ok (.iconst 1, 1)) (by decide) ?_
  refine sm_dup2 (pc := 50) G hb (by decide +kernel : decode cX9_layLink 50 = .ok (.dup2, 1)) ?_
  refine sm_iald (pc := 51) G hb hy (by decide +kernel : decode cX9_layLink 51 = .ok (.iaload, 1)) ?_
  refine sm_iconst (pc := 52) G hb (by decide +kernel : decode cX9_layLink 52 = .ok (.iconst 1, 1)) (by decide) ?_
  refine sm_iadd (pc := 53) G hb (by decide +kernel : decode cX9_layLink 53 = .ok (.iadd, 1)) ?_
  refine sm_iast (pc := 54) G hb hy (by decide +kernel : decode cX9_layLink 54 = .ok (.iastore, 1)) ?_
  exact sm_vret (pc := 55) G hb (by decide +kernel : decode cX9_layLink 55 = .ok (.return_, 1)) hr
theorem kX9_layLink {ε : gE5} (hE : gEnv ε) (N : Nat) : gCtr ε yX9_layLink cX9_layLink 5 none 0 0 gyMrow (fX9_layLink N) :=
  gCtr_of hE.1 (by decide) (fun γ G hb ho hy hR he hr => fX9_layLink_s0 N G hb ho hy hR he hr hE)

set_option maxRecDepth 100000 in
set_option maxHeartbeats 4000000 in
theorem fX9_layFlow_s14 {γ : gG} {cs ss : Nat} {ε : gE5} (N : Nat) (G : gOK γ) (hb : gcc γ = cX9_layFlow) (ho : gow γ = RX9) (hy : gly γ = gyMrow) (hR : grm γ = { frames := 0, cells := 0, slots := 0, locals := 0 }) (he : genv γ = ε) (hr : grt γ = none) (hE : gEnv ε) : gSm γ cs ss 14 (fX9_layFlow_k14 N) := by
  unfold fX9_layFlow_k14
  refine sm_lp (fun K14 h14 => ?_) N
  unfold fX9_layFlow_b14
  refine sm_iload (pc := 14) G hb (by decide +kernel : decode cX9_layFlow 14 = .ok (.iload 6, 2)) ?_
  refine sm_bipush (pc := 16) G hb (by decide +kernel : decode cX9_layFlow 16 = .ok (.bipush 11, 2)) (by decide) ?_
  refine sm_icmp_ge (pc := 18) (tgt := 35) G hb (by decide +kernel : decode cX9_layFlow 18 = .ok (.if_icmp .ge 17, 3)) (by decide) ?_ ?_
  · skip
    refine sm_aload_n (pc := 35) G hb (by decide +kernel : decode cX9_layFlow 35 = .ok (.aload_n 0, 1)) rfl ?_
    refine sm_iload (pc := 36) G hb (by decide +kernel : decode cX9_layFlow 36 = .ok (.iload 5, 2)) ?_
    refine sm_iconst (pc := 38) G hb (by decide +kernel : decode cX9_layFlow 38 = .ok (.iconst 0, 1)) (by decide) ?_
    refine sm_iadd (pc := 39) G hb (by decide +kernel : decode cX9_layFlow 39 = .ok (.iadd, 1)) ?_
    refine sm_iload_n (pc := 40) G hb (by decide +kernel : decode cX9_layFlow 40 = .ok (.iload_n 1, 1)) rfl ?_
    refine sm_iast (pc := 41) G hb hy (by decide +kernel : decode cX9_layFlow 41 = .ok (.iastore, 1)) ?_
    refine sm_aload_n (pc := 42) G hb (by decide +kernel : decode cX9_layFlow 42 = .ok (.aload_n 0, 1)) rfl ?_
    refine sm_iload (pc := 43) G hb (by decide +kernel : decode cX9_layFlow 43 = .ok (.iload 5, 2)) ?_
    refine sm_iconst (pc := 45) G hb (by decide +kernel : decode cX9_layFlow 45 = .ok (.iconst 1, 1)) (by decide) ?_
    refine sm_iadd (pc := 46) G hb (by decide +kernel : decode cX9_layFlow 46 = .ok (.iadd, 1)) ?_
    refine sm_iload_n (pc := 47) G hb (by decide +kernel : decode cX9_layFlow 47 = .ok (.iload_n 2, 1)) rfl ?_
    refine sm_iast (pc := 48) G hb hy (by decide +kernel : decode cX9_layFlow 48 = .ok (.iastore, 1)) ?_
    refine sm_aload_n (pc := 49) G hb (by decide +kernel : decode cX9_layFlow 49 = .ok (.aload_n 0, 1)) rfl ?_
    refine sm_iload (pc := 50) G hb (by decide +kernel : decode cX9_layFlow 50 = .ok (.iload 5, 2)) ?_
    refine sm_iconst (pc := 52) G hb (by decide +kernel : decode cX9_layFlow 52 = .ok (.iconst 2, 1)) (by decide) ?_
    refine sm_iadd (pc := 53) G hb (by decide +kernel : decode cX9_layFlow 53 = .ok (.iadd, 1)) ?_
    refine sm_iload_n (pc := 54) G hb (by decide +kernel : decode cX9_layFlow 54 = .ok (.iload_n 3, 1)) rfl ?_
    refine sm_iast (pc := 55) G hb hy (by decide +kernel : decode cX9_layFlow 55 = .ok (.iastore, 1)) ?_
    refine sm_aload_n (pc := 56) G hb (by decide +kernel : decode cX9_layFlow 56 = .ok (.aload_n 0, 1)) rfl ?_
    refine sm_iload (pc := 57) G hb (by decide +kernel : decode cX9_layFlow 57 = .ok (.iload 5, 2)) ?_
    refine sm_iconst (pc := 59) G hb (by decide +kernel : decode cX9_layFlow 59 = .ok (.iconst 3, 1)) (by decide) ?_
    refine sm_iadd (pc := 60) G hb (by decide +kernel : decode cX9_layFlow 60 = .ok (.iadd, 1)) ?_
    refine sm_iload (pc := 61) G hb (by decide +kernel : decode cX9_layFlow 61 = .ok (.iload 4, 2)) ?_
    refine sm_iast (pc := 63) G hb hy (by decide +kernel : decode cX9_layFlow 63 = .ok (.iastore, 1)) ?_
    refine sm_aload_n (pc := 64) G hb (by decide +kernel : decode cX9_layFlow 64 = .ok (.aload_n 0, 1)) rfl ?_
    refine sm_iconst (pc := 65) G hb (by decide +kernel : decode cX9_layFlow 65 = .ok (.iconst 2, 1)) (by decide) ?_
    refine sm_dup2 (pc := 66) G hb (by decide +kernel : decode cX9_layFlow 66 = .ok (.dup2, 1)) ?_
    refine sm_iald (pc := 67) G hb hy (by decide +kernel : decode cX9_layFlow 67 = .ok (.iaload, 1)) ?_
    refine sm_iconst (pc := 68) G hb (by decide +kernel : decode cX9_layFlow 68 = .ok (.iconst 1, 1)) (by decide) ?_
    refine sm_iadd (pc := 69) G hb (by decide +kernel : decode cX9_layFlow 69 = .ok (.iadd, 1)) ?_
    refine sm_iast (pc := 70) G hb hy (by decide +kernel : decode cX9_layFlow 70 = .ok (.iastore, 1)) ?_
    exact sm_vret (pc := 71) G hb (by decide +kernel : decode cX9_layFlow 71 = .ok (.return_, 1)) hr
  · skip
    refine sm_aload_n (pc := 21) G hb (by decide +kernel : decode cX9_layFlow 21 = .ok (.aload_n 0, 1)) rfl ?_
    refine sm_iload (pc := 22) G hb (by decide +kernel : decode cX9_layFlow 22 = .ok (.iload 5, 2)) ?_
    refine sm_iload (pc := 24) G hb (by decide +kernel : decode cX9_layFlow 24 = .ok (.iload 6, 2)) ?_
    refine sm_iadd (pc := 26) G hb (by decide +kernel : decode cX9_layFlow 26 = .ok (.iadd, 1)) ?_
    refine sm_iconst (pc := 27) G hb (by decide +kernel : decode cX9_layFlow 27 = .ok (.iconst 0, 1)) (by decide) ?_
    refine sm_iast (pc := 28) G hb hy (by decide +kernel : decode cX9_layFlow 28 = .ok (.iastore, 1)) ?_
    refine sm_iinc (pc := 29) G hb (by decide +kernel : decode cX9_layFlow 29 = .ok (.iinc 6 1, 3)) (by decide) ?_
    refine sm_goto (pc := 32) (tgt := 14) G hb (by decide +kernel : decode cX9_layFlow 32 = .ok (.goto (-18), 3)) (by decide) ?_
    refine sm_mask ?_
    exact h14
set_option maxRecDepth 100000 in
set_option maxHeartbeats 4000000 in
theorem fX9_layFlow_s0 {γ : gG} {cs ss : Nat} {ε : gE5} (N : Nat) (G : gOK γ) (hb : gcc γ = cX9_layFlow) (ho : gow γ = RX9) (hy : gly γ = gyMrow) (hR : grm γ = { frames := 0, cells := 0, slots := 0, locals := 0 }) (he : genv γ = ε) (hr : grt γ = none) (hE : gEnv ε) : gSm γ cs ss 0 (fX9_layFlow_k0 N) := by
  unfold fX9_layFlow_k0
  refine sm_bipush (pc := 0) G hb (by decide +kernel : decode cX9_layFlow 0 = .ok (.bipush 65, 2)) (by decide) ?_
  refine sm_bipush (pc := 2) G hb (by decide +kernel : decode cX9_layFlow 2 = .ok (.bipush 11, 2)) (by decide) ?_
  refine sm_aload_n (pc := 4) G hb (by decide +kernel : decode cX9_layFlow 4 = .ok (.aload_n 0, 1)) rfl ?_
  refine sm_iconst (pc := 5) G hb (by decide +kernel : decode cX9_layFlow 5 = .ok (.iconst 2, 1)) (by decide) ?_
  refine sm_iald (pc := 6) G hb hy (by decide +kernel : decode cX9_layFlow 6 = .ok (.iaload, 1)) ?_
  refine sm_imul (pc := 7) G hb (by decide +kernel : decode cX9_layFlow 7 = .ok (.imul, 1)) ?_
  refine sm_iadd (pc := 8) G hb (by decide +kernel : decode cX9_layFlow 8 = .ok (.iadd, 1)) ?_
  refine sm_istore (pc := 9) G hb (by decide +kernel : decode cX9_layFlow 9 = .ok (.istore 5, 2)) ?_
  refine sm_iconst (pc := 11) G hb (by decide +kernel : decode cX9_layFlow 11 = .ok (.iconst 0, 1)) (by decide) ?_
  refine sm_istore (pc := 12) G hb (by decide +kernel : decode cX9_layFlow 12 = .ok (.istore 6, 2)) ?_
  refine sm_mask ?_
  exact fX9_layFlow_s14 N G hb ho hy hR he hr hE
theorem kX9_layFlow {ε : gE5} (hE : gEnv ε) (N : Nat) : gCtr ε yX9_layFlow cX9_layFlow 7 none 0 0 gyMrow (fX9_layFlow N) :=
  gCtr_of hE.1 (by decide) (fun γ G hb ho hy hR he hr => fX9_layFlow_s0 N G hb ho hy hR he hr hE)

set_option maxRecDepth 100000 in
set_option maxHeartbeats 4000000 in
theorem fX9_takeOther_s21 {γ : gG} {cs ss : Nat} {ε : gE5} (N : Nat) (G : gOK γ) (hb : gcc γ = cX9_takeOther) (ho : gow γ = RX9) (hy : gly γ = gyM) (hR : grm γ = { frames := 3, cells := 0, slots := 0, locals := 70 }) (he : genv γ = ε) (hr : grt γ = (some .int)) (hE : gEnv ε) : gSm γ cs ss 21 (fX9_takeOther_k21 N) := by
  unfold fX9_takeOther_k21
  refine sm_aload_n (pc := 21) G hb (by decide +kernel : decode cX9_takeOther 21 = .ok (.aload_n 0, 1)) rfl ?_
  refine sm_iload_n (pc := 22) G hb (by decide +kernel : decode cX9_takeOther 22 = .ok (.iload_n 1, 1)) rfl ?_
  refine sm_iload_n (pc := 23) G hb (by decide +kernel : decode cX9_takeOther 23 = .ok (.iload_n 2, 1)) rfl ?_
  refine sm_mono (cav_sub gI_sub) (sm_callV (pc := 24) (N := 32) (T := TX9) (C := RX9) G hb ho hy he hE.1 3 [0, 1, 2, 3, 4, 5, 6, 7, 8, 9, 10, 11, 12, 13, 14, 15, 16, 17] (kX9_takeNumber hE N) (gCo_of (by decide +kernel)) (by rw [hR]; exact ⟨by decide, by decide⟩) rfl rfl (by decide +kernel) gw6_150 gw6_152 gw0_40 gw1_11 gw6_153 (by decide +kernel : decode cX9_takeOther 24 = .ok (.invokevirtual 156, 3)) ?_)
  exact sm_iret (pc := 27) G hb (by decide +kernel : decode cX9_takeOther 27 = .ok (.ireturn, 1)) hr
set_option maxRecDepth 100000 in
set_option maxHeartbeats 4000000 in
theorem fX9_takeOther_s0 {γ : gG} {cs ss : Nat} {ε : gE5} (N : Nat) (G : gOK γ) (hb : gcc γ = cX9_takeOther) (ho : gow γ = RX9) (hy : gly γ = gyM) (hR : grm γ = { frames := 3, cells := 0, slots := 0, locals := 70 }) (he : genv γ = ε) (hr : grt γ = (some .int)) (hE : gEnv ε) : gSm γ cs ss 0 (fX9_takeOther_k0 N) := by
  unfold fX9_takeOther_k0
  refine sm_aload_n (pc := 0) G hb (by decide +kernel : decode cX9_takeOther 0 = .ok (.aload_n 0, 1)) rfl ?_
  refine sm_iload_n (pc := 1) G hb (by decide +kernel : decode cX9_takeOther 1 = .ok (.iload_n 1, 1)) rfl ?_
  refine sm_iload_n (pc := 2) G hb (by decide +kernel : decode cX9_takeOther 2 = .ok (.iload_n 2, 1)) rfl ?_
  refine sm_mono (cav_sub gI_sub) (sm_callV (pc := 3) (N := 32) (T := TX9) (C := RX9) G hb ho hy he hE.1 3 [0, 1, 2, 3, 4, 5, 6, 7, 8, 9, 10, 11, 12, 13, 14, 15, 16, 17] (kX9_isNumber hE N) (gCo_of (by decide +kernel)) (by rw [hR]; exact ⟨by decide, by decide⟩) rfl rfl (by decide +kernel) gw6_154 gw6_156 gw0_41 gw1_11 gw6_157 (by decide +kernel : decode cX9_takeOther 3 = .ok (.invokevirtual 140, 3)) ?_)
  refine sm_if_eq (pc := 6) (tgt := 21) G hb (by decide +kernel : decode cX9_takeOther 6 = .ok (.ifCond .eq 15, 3)) (by decide) ?_ ?_
  · skip
    refine sm_mask ?_
    exact fX9_takeOther_s21 N G hb ho hy hR he hr hE
  · skip
    refine sm_aload_n (pc := 9) G hb (by decide +kernel : decode cX9_takeOther 9 = .ok (.aload_n 0, 1)) rfl ?_
    refine sm_get (pc := 10) (ci := 9) (j := 6) (N := 32) (T := TX9) G hb ho hy rfl (by decide) gin_9 gw6_2 (by decide +kernel : decode cX9_takeOther 10 = .ok (.getfield 115, 3)) ?_
    refine sm_iload_n (pc := 13) G hb (by decide +kernel : decode cX9_takeOther 13 = .ok (.iload_n 3, 1)) rfl ?_
    refine sm_icmp_ne (pc := 14) (tgt := 21) G hb (by decide +kernel : decode cX9_takeOther 14 = .ok (.if_icmp .ne 7, 3)) (by decide) ?_ ?_
    · skip
      refine sm_mask ?_
      exact fX9_takeOther_s21 N G hb ho hy hR he hr hE
    · skip
      refine sm_aload_n (pc := 17) G hb (by decide +kernel : decode cX9_takeOther 17 = .ok (.aload_n 0, 1)) rfl ?_
      refine sm_mono (cav_sub gV_sub) (sm_callV (pc := 18) (N := 32) (T := TX9) (C := RX9) G hb ho hy he hE.1 1 [0, 1, 2, 3, 4, 5, 6, 7, 8, 9, 10, 11, 12, 13, 14, 15, 16, 17] (kX9_fail hE N) (gCo_of (by decide +kernel)) (by rw [hR]; exact ⟨by decide, by decide⟩) rfl rfl (by decide +kernel) gw6_158 gw6_160 gw0_42 gw1_11 gw6_161 (by decide +kernel : decode cX9_takeOther 18 = .ok (.invokevirtual 144, 3)) ?_)
      refine sm_mask ?_
      exact fX9_takeOther_s21 N G hb ho hy hR he hr hE
theorem kX9_takeOther {ε : gE5} (hE : gEnv ε) (N : Nat) : gCtr ε yX9_takeOther cX9_takeOther 4 (some .int) 3 70 gyM (fX9_takeOther N) :=
  gCtr_of hE.1 (by decide) (fun γ G hb ho hy hR he hr => fX9_takeOther_s0 N G hb ho hy hR he hr hE)

set_option maxRecDepth 100000 in
set_option maxHeartbeats 4000000 in
theorem fX9_takeNode_s0 {γ : gG} {cs ss : Nat} {ε : gE5} (N : Nat) (G : gOK γ) (hb : gcc γ = cX9_takeNode) (ho : gow γ = RX9) (hy : gly γ = gyM) (hR : grm γ = { frames := 3, cells := 0, slots := 0, locals := 70 }) (he : genv γ = ε) (hr : grt γ = (some .int)) (hE : gEnv ε) : gSm γ cs ss 0 (fX9_takeNode_k0 N) := by
  unfold fX9_takeNode_k0
  refine sm_aload_n (pc := 0) G hb (by decide +kernel : decode cX9_takeNode 0 = .ok (.aload_n 0, 1)) rfl ?_
  refine sm_iconst (pc := 1) G hb (by decide +kernel : decode cX9_takeNode 1 = .ok (.iconst 0, 1)) (by decide) ?_
  refine sm_aload_n (pc := 2) G hb (by decide +kernel : decode cX9_takeNode 2 = .ok (.aload_n 0, 1)) rfl ?_
  refine sm_get (pc := 3) (ci := 9) (j := 8) (N := 32) (T := TX9) G hb ho hy rfl (by decide) gin_9 gw6_4 (by decide +kernel : decode cX9_takeNode 3 = .ok (.getfield 13, 3)) ?_
  refine sm_iconst (pc := 6) G hb (by decide +kernel : decode cX9_takeNode 6 = .ok (.iconst 0, 1)) (by decide) ?_
  refine sm_iald (pc := 7) G hb hy (by decide +kernel : decode cX9_takeNode 7 = .ok (.iaload, 1)) ?_
  refine sm_iconst (pc := 8) G hb (by decide +kernel : decode cX9_takeNode 8 = .ok (.iconst 1, 1)) (by decide) ?_
  refine sm_isub (pc := 9) G hb (by decide +kernel : decode cX9_takeNode 9 = .ok (.isub, 1)) ?_
  refine sm_mono (cav_sub gI_sub) (sm_callV (pc := 10) (N := 32) (T := TX9) (C := RX9) G hb ho hy he hE.1 3 [0, 1, 2, 3, 4, 5, 6, 7, 8, 9, 10, 11, 12, 13, 14, 15, 16, 17] (kX9_takeNumber hE N) (gCo_of (by decide +kernel)) (by rw [hR]; exact ⟨by decide, by decide⟩) rfl rfl (by decide +kernel) gw6_150 gw6_152 gw0_40 gw1_11 gw6_153 (by decide +kernel : decode cX9_takeNode 10 = .ok (.invokevirtual 156, 3)) ?_)
  exact sm_iret (pc := 13) G hb (by decide +kernel : decode cX9_takeNode 13 = .ok (.ireturn, 1)) hr
theorem kX9_takeNode {ε : gE5} (hE : gEnv ε) (N : Nat) : gCtr ε yX9_takeNode cX9_takeNode 1 (some .int) 3 70 gyM (fX9_takeNode N) :=
  gCtr_of hE.1 (by decide) (fun γ G hb ho hy hR he hr => fX9_takeNode_s0 N G hb ho hy hR he hr hE)
