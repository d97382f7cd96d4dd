set_option maxRecDepth 100000 in
set_option maxHeartbeats 4000000 in
theorem fX9_queued_s35 {γ : gG} {cs ss : Nat} {ε : gE5} (N : Nat) (G : gOK γ) (hb : gcc γ = cX9_queued) (ho : gow γ = RX9) (hy : gly γ = gyM) (hR : grm γ = { frames := 3, cells := 0, slots := 0, locals := 66 }) (he : genv γ = ε) (hr : grt γ = (some .int)) (hE : gEnv ε) (K5 : gK) (h5 : gSm γ cs ss 5 K5) : gSm γ cs ss 35 (fX9_queued_k35 N K5) := by
  unfold fX9_queued_k35
  refine sm_iadd (pc := 35) G hb (by decide +kernel : decode cX9_queued 35 = .ok (.iadd, 1)) ?_
  refine sm_istore_n (pc := 36) G hb (by decide +kernel : decode cX9_queued 36 = .ok (.istore_n 3, 1)) rfl ?_
  refine sm_iinc (pc := 37) G hb (by decide +kernel : decode cX9_queued 37 = .ok (.iinc 4 1, 3)) (by decide) ?_
  refine sm_goto (pc := 40) (tgt := 5) G hb (by decide +kernel : decode cX9_queued 40 = .ok (.goto (-35), 3)) (by decide) ?_
  refine sm_mask ?_
  exact h5
set_option maxRecDepth 100000 in
set_option maxHeartbeats 4000000 in
theorem fX9_queued_s5 {γ : gG} {cs ss : Nat} {ε : gE5} (N : Nat) (G : gOK γ) (hb : gcc γ = cX9_queued) (ho : gow γ = RX9) (hy : gly γ = gyM) (hR : grm γ = { frames := 3, cells := 0, slots := 0, locals := 66 }) (he : genv γ = ε) (hr : grt γ = (some .int)) (hE : gEnv ε) : gSm γ cs ss 5 (fX9_queued_k5 N) := by
  unfold fX9_queued_k5
  refine sm_lp (fun K5 h5 => ?_) N
  unfold fX9_queued_b5
  refine sm_iload (pc := 5) G hb (by decide +kernel : decode cX9_queued 5 = .ok (.iload 4, 2)) ?_
  refine sm_aload_n (pc := 7) G hb (by decide +kernel : decode cX9_queued 7 = .ok (.aload_n 0, 1)) rfl ?_
  refine sm_get (pc := 8) (ci := 9) (j := 9) (N := 32) (T := TX9) G hb ho hy rfl (by decide) gin_9 gw6_5 (by decide +kernel : decode cX9_queued 8 = .ok (.getfield 16, 3)) ?_
  refine sm_sipush (pc := 11) G hb (by decide +kernel : decode cX9_queued 11 = .ok (.sipush 245, 3)) (by decide) ?_
  refine sm_iald (pc := 14) G hb hy (by decide +kernel : decode cX9_queued 14 = .ok (.iaload, 1)) ?_
  refine sm_icmp_ge (pc := 15) (tgt := 43) G hb (by decide +kernel : decode cX9_queued 15 = .ok (.if_icmp .ge 28, 3)) (by decide) ?_ ?_
  · skip
    refine sm_iload_n (pc := 43) G hb (by decide +kernel : decode cX9_queued 43 = .ok (.iload_n 3, 1)) rfl ?_
    exact sm_iret (pc := 44) G hb (by decide +kernel : decode cX9_queued 44 = .ok (.ireturn, 1)) hr
  · skip
    refine sm_iload_n (pc := 18) G hb (by decide +kernel : decode cX9_queued 18 = .ok (.iload_n 3, 1)) rfl ?_
    refine sm_aload_n (pc := 19) G hb (by decide +kernel : decode cX9_queued 19 = .ok (.aload_n 0, 1)) rfl ?_
    refine sm_iload (pc := 20) G hb (by decide +kernel : decode cX9_queued 20 = .ok (.iload 4, 2)) ?_
    refine sm_iload_n (pc := 22) G hb (by decide +kernel : decode cX9_queued 22 = .ok (.iload_n 1, 1)) rfl ?_
    refine sm_iload_n (pc := 23) G hb (by decide +kernel : decode cX9_queued 23 = .ok (.iload_n 2, 1)) rfl ?_
    refine sm_mono (cav_sub gI_sub) (sm_callV (pc := 24) (N := 32) (T := TX9) (C := RX9) G hb ho hy he hE.1 4 [0, 1, 2, 3, 4, 5, 6, 7, 8, 9, 10, 11, 12, 13, 14, 15, 16, 17] (kX9_isQueued hE N) (gCo_of (by decide +kernel)) (by rw [hR]; exact ⟨by decide, by decide⟩) rfl rfl (by decide +kernel) gw7_80 gw7_82 gw0_62 gw1_11 gw7_83 (by decide +kernel : decode cX9_queued 24 = .ok (.invokevirtual 246, 3)) ?_)
    refine sm_if_eq (pc := 27) (tgt := 34) G hb (by decide +kernel : decode cX9_queued 27 = .ok (.ifCond .eq 7, 3)) (by decide) ?_ ?_
    · skip
      refine sm_iconst (pc := 34) G hb (by decide +kernel : decode cX9_queued 34 = .ok (.iconst 0, 1)) (by decide) ?_
      refine sm_mask ?_
      exact fX9_queued_s35 N G hb ho hy hR he hr hE K5 h5
    · skip
      refine sm_iconst (pc := 30) G hb (by decide +kernel : decode cX9_queued 30 = .ok (.iconst 1, 1)) (by decide) ?_
      refine sm_goto (pc := 31) (tgt := 35) G hb (by decide +kernel : decode cX9_queued 31 = .ok (.goto 4, 3)) (by decide) ?_
      refine sm_mask ?_
      exact fX9_queued_s35 N G hb ho hy hR he hr hE K5 h5
set_option maxRecDepth 100000 in
set_option maxHeartbeats 4000000 in
theorem fX9_queued_s0 {γ : gG} {cs ss : Nat} {ε : gE5} (N : Nat) (G : gOK γ) (hb : gcc γ = cX9_queued) (ho : gow γ = RX9) (hy : gly γ = gyM) (hR : grm γ = { frames := 3, cells := 0, slots := 0, locals := 66 }) (he : genv γ = ε) (hr : grt γ = (some .int)) (hE : gEnv ε) : gSm γ cs ss 0 (fX9_queued_k0 N) := by
  unfold fX9_queued_k0
  refine sm_iconst (pc := 0) G hb (by decide +kernel : decode cX9_queued 0 = .ok (.iconst 0, 1)) (by decide) ?_
  refine sm_istore_n (pc := 1) G hb (by decide +kernel : decode cX9_queued 1 = .ok (.istore_n 3, 1)) rfl ?_
  refine sm_iconst (pc := 2) G hb (by decide +kernel : decode cX9_queued 2 = .ok (.iconst 0, 1)) (by decide) ?_
  refine sm_istore (pc := 3) G hb (by decide +kernel : decode cX9_queued 3 = .ok (.istore 4, 2)) ?_
  refine sm_mask ?_
  exact fX9_queued_s5 N G hb ho hy hR he hr hE
theorem kX9_queued {ε : gE5} (hE : gEnv ε) (N : Nat) : gCtr ε yX9_queued cX9_queued 5 (some .int) 3 66 gyM (fX9_queued N) :=
  gCtr_of hE.1 (by decide) (fun γ G hb ho hy hR he hr => fX9_queued_s0 N G hb ho hy hR he hr hE)

set_option maxRecDepth 100000 in
set_option maxHeartbeats 4000000 in
theorem fX9_shadowOf_s0 {γ : gG} {cs ss : Nat} {ε : gE5} (N : Nat) (G : gOK γ) (hb : gcc γ = cX9_shadowOf) (ho : gow γ = RX9) (hy : gly γ = gyM) (hR : grm γ = { frames := 0, cells := 0, slots := 0, locals := 0 }) (he : genv γ = ε) (hr : grt γ = (some .int)) (hE : gEnv ε) : gSm γ cs ss 0 (fX9_shadowOf_k0 N) := by
  unfold fX9_shadowOf_k0
  refine sm_aload_n (pc := 0) G hb (by decide +kernel : decode cX9_shadowOf 0 = .ok (.aload_n 0, 1)) rfl ?_
  refine sm_get (pc := 1) (ci := 9) (j := 9) (N := 32) (T := TX9) G hb ho hy rfl (by decide) gin_9 gw6_5 (by decide +kernel : decode cX9_shadowOf 1 = .ok (.getfield 16, 3)) ?_
  refine sm_sipush (pc := 4) G hb (by decide +kernel : decode cX9_shadowOf 4 = .ok (.sipush 145, 3)) (by decide) ?_
  refine sm_bipush (pc := 7) G hb (by decide +kernel : decode cX9_shadowOf 7 = .ok (.bipush 10, 2)) (by decide) ?_
  refine sm_iload_n (pc := 9) G hb (by decide +kernel : decode cX9_shadowOf 9 = .ok (.iload_n 1, 1)) rfl ?_
  refine sm_imul (pc := 10) G hb (by decide +kernel : decode cX9_shadowOf 10 = .ok (.imul, 1)) ?_
  refine sm_iadd (pc := 11) G hb (by decide +kernel : decode cX9_shadowOf 11 = .ok (.iadd, 1)) ?_
  refine sm_iload_n (pc := 12) G hb (by decide +kernel : decode cX9_shadowOf 12 = .ok (.iload_n 2, 1)) rfl ?_
  refine sm_iadd (pc := 13) G hb (by decide +kernel : decode cX9_shadowOf 13 = .ok (.iadd, 1)) ?_
  refine sm_iald (pc := 14) G hb hy (by decide +kernel : decode cX9_shadowOf 14 = .ok (.iaload, 1)) ?_
  exact sm_iret (pc := 15) G hb (by decide +kernel : decode cX9_shadowOf 15 = .ok (.ireturn, 1)) hr
theorem kX9_shadowOf {ε : gE5} (hE : gEnv ε) (N : Nat) : gCtr ε yX9_shadowOf cX9_shadowOf 3 (some .int) 0 0 gyM (fX9_shadowOf N) :=
  gCtr_of hE.1 (by decide) (fun γ G hb ho hy hR he hr => fX9_shadowOf_s0 N G hb ho hy hR he hr hE)

set_option maxRecDepth 100000 in
set_option maxHeartbeats 4000000 in
theorem fX9_stayAll_s2 {γ : gG} {cs ss : Nat} {ε : gE5} (N : Nat) (G : gOK γ) (hb : gcc γ = cX9_stayAll) (ho : gow γ = RX9) (hy : gly γ = gyM) (hR : grm γ = { frames := 0, cells := 0, slots := 0, locals := 0 }) (he : genv γ = ε) (hr : grt γ = none) (hE : gEnv ε) : gSm γ cs ss 2 (fX9_stayAll_k2 N) := by
  unfold fX9_stayAll_k2
  refine sm_lp (fun K2 h2 => ?_) N
  unfold fX9_stayAll_b2
  refine sm_iload_n (pc := 2) G hb (by decide +kernel : decode cX9_stayAll 2 = .ok (.iload_n 1, 1)) rfl ?_
  refine sm_sipush (pc := 3) G hb (by decide +kernel : decode cX9_stayAll 3 = .ok (.sipush 500, 3)) (by decide) ?_
  refine sm_icmp_ge (pc := 6) (tgt := 22) G hb (by decide +kernel : decode cX9_stayAll 6 = .ok (.if_icmp .ge 16, 3)) (by decide) ?_ ?_
  · skip
    exact sm_vret (pc := 22) G hb (by decide +kernel : decode cX9_stayAll 22 = .ok (.return_, 1)) hr
  · skip
    refine sm_aload_n (pc := 9) G hb (by decide +kernel : decode cX9_stayAll 9 = .ok (.aload_n 0, 1)) rfl ?_
    refine sm_get (pc := 10) (ci := 9) (j := 17) (N := 32) (T := TX9) G hb ho hy rfl (by decide) gin_9 gw6_13 (by decide +kernel : decode cX9_stayAll 10 = .ok (.getfield 28, 3)) ?_
    refine sm_iload_n (pc := 13) G hb (by decide +kernel : decode cX9_stayAll 13 = .ok (.iload_n 1, 1)) rfl ?_
    refine sm_iconst (pc := 14) G hb (by decide +kernel : decode cX9_stayAll 14 = .ok (.iconst 0, 1)) (by decide) ?_
    refine sm_zast (pc := 15) G hb hy (by decide +kernel : decode cX9_stayAll 15 = .ok (.bastore, 1)) ?_
    refine sm_iinc (pc := 16) G hb (by decide +kernel : decode cX9_stayAll 16 = .ok (.iinc 1 1, 3)) (by decide) ?_
    refine sm_goto (pc := 19) (tgt := 2) G hb (by decide +kernel : decode cX9_stayAll 19 = .ok (.goto (-17), 3)) (by decide) ?_
    refine sm_mask ?_
    exact h2
set_option maxRecDepth 100000 in
set_option maxHeartbeats 4000000 in
theorem fX9_stayAll_s0 {γ : gG} {cs ss : Nat} {ε : gE5} (N : Nat) (G : gOK γ) (hb : gcc γ = cX9_stayAll) (ho : gow γ = RX9) (hy : gly γ = gyM) (hR : grm γ = { frames := 0, cells := 0, slots := 0, locals := 0 }) (he : genv γ = ε) (hr : grt γ = none) (hE : gEnv ε) : gSm γ cs ss 0 (fX9_stayAll_k0 N) := by
  unfold fX9_stayAll_k0
  refine sm_iconst (pc := 0) G hb (by decide +kernel : decode cX9_stayAll 0 = .ok (.iconst 0, 1)) (by decide) ?_
  refine sm_istore_n (pc := 1) G hb (by decide +kernel : decode cX9_stayAll 1 = .ok (.istore_n 1, 1)) rfl ?_
  refine sm_mask ?_
  exact fX9_stayAll_s2 N G hb ho hy hR he hr hE
theorem kX9_stayAll {ε : gE5} (hE : gEnv ε) (N : Nat) : gCtr ε yX9_stayAll cX9_stayAll 2 none 0 0 gyM (fX9_stayAll N) :=
  gCtr_of hE.1 (by decide) (fun γ G hb ho hy hR he hr => fX9_stayAll_s0 N G hb ho hy hR he hr hE)

set_option maxRecDepth 100000 in
set_option maxHeartbeats 4000000 in
theorem fX9_closeUp_s73 {γ : gG} {cs ss : Nat} {ε : gE5} (N : Nat) (G : gOK γ) (hb : gcc γ = cX9_closeUp) (ho : gow γ = RX9) (hy : gly γ = gyM) (hR : grm γ = { frames := 1, cells := 0, slots := 0, locals := 22 }) (he : genv γ = ε) (hr : grt γ = (some .int)) (hE : gEnv ε) (K4 : gK) (h4 : gSm γ cs ss 4 K4) : gSm γ cs ss 73 (fX9_closeUp_k73 N K4) := by
  unfold fX9_closeUp_k73
  refine sm_iadd (pc := 73) G hb (by decide +kernel : decode cX9_closeUp 73 = .ok (.iadd, 1)) ?_
  refine sm_istore_n (pc := 74) G hb (by decide +kernel : decode cX9_closeUp 74 = .ok (.istore_n 1, 1)) rfl ?_
  refine sm_iinc (pc := 75) G hb (by decide +kernel : decode cX9_closeUp 75 = .ok (.iinc 2 1, 3)) (by decide) ?_
  refine sm_goto (pc := 78) (tgt := 4) G hb (by decide +kernel : decode cX9_closeUp 78 = .ok (.goto (-74), 3)) (by decide) ?_
  refine sm_mask ?_
  exact h4
set_option maxRecDepth 100000 in
set_option maxHeartbeats 4000000 in
theorem fX9_closeUp_s58 {γ : gG} {cs ss : Nat} {ε : gE5} (N : Nat) (G : gOK γ) (hb : gcc γ = cX9_closeUp) (ho : gow γ = RX9) (hy : gly γ = gyM) (hR : grm γ = { frames := 1, cells := 0, slots := 0, locals := 22 }) (he : genv γ = ε) (hr : grt γ = (some .int)) (hE : gEnv ε) (K4 : gK) (h4 : gSm γ cs ss 4 K4) : gSm γ cs ss 58 (fX9_closeUp_k58 N K4) := by
  unfold fX9_closeUp_k58
  refine sm_iload_n (pc := 58) G hb (by decide +kernel : decode cX9_closeUp 58 = .ok (.iload_n 1, 1)) rfl ?_
  refine sm_aload_n (pc := 59) G hb (by decide +kernel : decode cX9_closeUp 59 = .ok (.aload_n 0, 1)) rfl ?_
  refine sm_get (pc := 60) (ci := 9) (j := 17) (N := 32) (T := TX9) G hb ho hy rfl (by decide) gin_9 gw6_13 (by decide +kernel : decode cX9_closeUp 60 = .ok (.getfield 28, 3)) ?_
  refine sm_iload_n (pc := 63) G hb (by decide +kernel : decode cX9_closeUp 63 = .ok (.iload_n 2, 1)) rfl ?_
  refine sm_zald (pc := 64) G hb hy (by decide +kernel : decode cX9_closeUp 64 = .ok (.baload, 1)) ?_
  refine sm_if_eq (pc := 65) (tgt := 72) G hb (by decide +kernel : decode cX9_closeUp 65 = .ok (.ifCond .eq 7, 3)) (by decide) ?_ ?_
  · skip
    refine sm_iconst (pc := 72) G hb (by decide +kernel : decode cX9_closeUp 72 = .ok (.iconst 1, 1)) (by decide) ?_
    refine sm_mask ?_
    exact fX9_closeUp_s73 N G hb ho hy hR he hr hE K4 h4
  · skip
    refine sm_iconst (pc := 68) G hb (by decide +kernel : decode cX9_closeUp 68 = .ok (.iconst 0, 1)) (by decide) ?_
    refine sm_goto (pc := 69) (tgt := 73) G hb (by decide +kernel : decode cX9_closeUp 69 = .ok (.goto 4, 3)) (by decide) ?_
    refine sm_mask ?_
    exact fX9_closeUp_s73 N G hb ho hy hR he hr hE K4 h4
set_option maxRecDepth 100000 in
set_option maxHeartbeats 4000000 in
theorem fX9_closeUp_s18 {γ : gG} {cs ss : Nat} {ε : gE5} (N : Nat) (G : gOK γ) (hb : gcc γ = cX9_closeUp) (ho : gow γ = RX9) (hy : gly γ = gyM) (hR : grm γ = { frames := 1, cells := 0, slots := 0, locals := 22 }) (he : genv γ = ε) (hr : grt γ = (some .int)) (hE : gEnv ε) (K4 : gK) (h4 : gSm γ cs ss 4 K4) : gSm γ cs ss 18 (fX9_closeUp_k18 N K4) := by
  unfold fX9_closeUp_k18
  refine sm_lp (fun K18 h18 => ?_) N
  unfold fX9_closeUp_b18
  refine sm_iload_n (pc := 18) G hb (by decide +kernel : decode cX9_closeUp 18 = .ok (.iload_n 3, 1)) rfl ?_
  refine sm_iconst (pc := 19) G hb (by decide +kernel : decode cX9_closeUp 19 = .ok (.iconst 5, 1)) (by decide) ?_
  refine sm_icmp_ge (pc := 20) (tgt := 58) G hb (by decide +kernel : decode cX9_closeUp 20 = .ok (.if_icmp .ge 38, 3)) (by decide) ?_ ?_
  · skip
    refine sm_mask ?_
    exact fX9_closeUp_s58 N G hb ho hy hR he hr hE K4 h4
  · skip
    refine sm_aload_n (pc := 23) G hb (by decide +kernel : decode cX9_closeUp 23 = .ok (.aload_n 0, 1)) rfl ?_
    refine sm_get (pc := 24) (ci := 9) (j := 17) (N := 32) (T := TX9) G hb ho hy rfl (by decide) gin_9 gw6_13 (by decide +kernel : decode cX9_closeUp 24 = .ok (.getfield 28, 3)) ?_
    refine sm_iload_n (pc := 27) G hb (by decide +kernel : decode cX9_closeUp 27 = .ok (.iload_n 2, 1)) rfl ?_
    refine sm_zald (pc := 28) G hb hy (by decide +kernel : decode cX9_closeUp 28 = .ok (.baload, 1)) ?_
    refine sm_if_ne (pc := 29) (tgt := 58) G hb (by decide +kernel : decode cX9_closeUp 29 = .ok (.ifCond .ne 29, 3)) (by decide) ?_ ?_
    · skip
      refine sm_mask ?_
      exact fX9_closeUp_s58 N G hb ho hy hR he hr hE K4 h4
    · skip
      refine sm_aload_n (pc := 32) G hb (by decide +kernel : decode cX9_closeUp 32 = .ok (.aload_n 0, 1)) rfl ?_
      refine sm_get (pc := 33) (ci := 9) (j := 9) (N := 32) (T := TX9) G hb ho hy rfl (by decide) gin_9 gw6_5 (by decide +kernel : decode cX9_closeUp 33 = .ok (.getfield 16, 3)) ?_
      refine sm_sipush (pc := 36) G hb (by decide +kernel : decode cX9_closeUp 36 = .ok (.sipush 246, 3)) (by decide) ?_
      refine sm_iconst (pc := 39) G hb (by decide +kernel : decode cX9_closeUp 39 = .ok (.iconst 5, 1)) (by decide) ?_
      refine sm_iload_n (pc := 40) G hb (by decide +kernel : decode cX9_closeUp 40 = .ok (.iload_n 1, 1)) rfl ?_
      refine sm_imul (pc := 41) G hb (by decide +kernel : decode cX9_closeUp 41 = .ok (.imul, 1)) ?_
      refine sm_iadd (pc := 42) G hb (by decide +kernel : decode cX9_closeUp 42 = .ok (.iadd, 1)) ?_
      refine sm_iload_n (pc := 43) G hb (by decide +kernel : decode cX9_closeUp 43 = .ok (.iload_n 3, 1)) rfl ?_
      refine sm_iadd (pc := 44) G hb (by decide +kernel : decode cX9_closeUp 44 = .ok (.iadd, 1)) ?_
      refine sm_aload_n (pc := 45) G hb (by decide +kernel : decode cX9_closeUp 45 = .ok (.aload_n 0, 1)) rfl ?_
      refine sm_iload_n (pc := 46) G hb (by decide +kernel : decode cX9_closeUp 46 = .ok (.iload_n 2, 1)) rfl ?_
      refine sm_iload_n (pc := 47) G hb (by decide +kernel : decode cX9_closeUp 47 = .ok (.iload_n 3, 1)) rfl ?_
      refine sm_mono (cav_sub gI_sub) (sm_callV (pc := 48) (N := 32) (T := TX9) (C := RX9) G hb ho hy he hE.1 3 [0, 1, 2, 3, 4, 5, 6, 7, 8, 9, 10, 11, 12, 13, 14, 15, 16, 17] (kX9_packetPart hE N) (gCo_of (by decide +kernel)) (by rw [hR]; exact ⟨by decide, by decide⟩) rfl rfl (by decide +kernel) gw7_84 gw7_86 gw0_63 gw1_11 gw7_87 (by decide +kernel : decode cX9_closeUp 48 = .ok (.invokevirtual 237, 3)) ?_)
      refine sm_iast (pc := 51) G hb hy (by decide +kernel : decode cX9_closeUp 51 = .ok (.iastore, 1)) ?_
      refine sm_iinc (pc := 52) G hb (by decide +kernel : decode cX9_closeUp 52 = .ok (.iinc 3 1, 3)) (by decide) ?_
      refine sm_goto (pc := 55) (tgt := 18) G hb (by decide +kernel : decode cX9_closeUp 55 = .ok (.goto (-37), 3)) (by decide) ?_
      refine sm_mask ?_
      exact h18
set_option maxRecDepth 100000 in
set_option maxHeartbeats 4000000 in
theorem fX9_closeUp_s4 {γ : gG} {cs ss : Nat} {ε : gE5} (N : Nat) (G : gOK γ) (hb : gcc γ = cX9_closeUp) (ho : gow γ = RX9) (hy : gly γ = gyM) (hR : grm γ = { frames := 1, cells := 0, slots := 0, locals := 22 }) (he : genv γ = ε) (hr : grt γ = (some .int)) (hE : gEnv ε) : gSm γ cs ss 4 (fX9_closeUp_k4 N) := by
  unfold fX9_closeUp_k4
  refine sm_lp (fun K4 h4 => ?_) N
  unfold fX9_closeUp_b4
  refine sm_iload_n (pc := 4) G hb (by decide +kernel : decode cX9_closeUp 4 = .ok (.iload_n 2, 1)) rfl ?_
  refine sm_aload_n (pc := 5) G hb (by decide +kernel : decode cX9_closeUp 5 = .ok (.aload_n 0, 1)) rfl ?_
  refine sm_get (pc := 6) (ci := 9) (j := 9) (N := 32) (T := TX9) G hb ho hy rfl (by decide) gin_9 gw6_5 (by decide +kernel : decode cX9_closeUp 6 = .ok (.getfield 16, 3)) ?_
  refine sm_sipush (pc := 9) G hb (by decide +kernel : decode cX9_closeUp 9 = .ok (.sipush 245, 3)) (by decide) ?_
  refine sm_iald (pc := 12) G hb hy (by decide +kernel : decode cX9_closeUp 12 = .ok (.iaload, 1)) ?_
  refine sm_icmp_ge (pc := 13) (tgt := 81) G hb (by decide +kernel : decode cX9_closeUp 13 = .ok (.if_icmp .ge 68, 3)) (by decide) ?_ ?_
  · skip
    refine sm_aload_n (pc := 81) G hb (by decide +kernel : decode cX9_closeUp 81 = .ok (.aload_n 0, 1)) rfl ?_
    refine sm_get (pc := 82) (ci := 9) (j := 9) (N := 32) (T := TX9) G hb ho hy rfl (by decide) gin_9 gw6_5 (by decide +kernel : decode cX9_closeUp 82 = .ok (.getfield 16, 3)) ?_
    refine sm_sipush (pc := 85) G hb (by decide +kernel : decode cX9_closeUp 85 = .ok (.sipush 245, 3)) (by decide) ?_
    refine sm_iald (pc := 88) G hb hy (by decide +kernel : decode cX9_closeUp 88 = .ok (.iaload, 1)) ?_
    refine sm_iload_n (pc := 89) G hb (by decide +kernel : decode cX9_closeUp 89 = .ok (.iload_n 1, 1)) rfl ?_
    refine sm_isub (pc := 90) G hb (by decide +kernel : decode cX9_closeUp 90 = .ok (.isub, 1)) ?_
    refine sm_istore_n (pc := 91) G hb (by decide +kernel : decode cX9_closeUp 91 = .ok (.istore_n 2, 1)) rfl ?_
    refine sm_aload_n (pc := 92) G hb (by decide +kernel : decode cX9_closeUp 92 = .ok (.aload_n 0, 1)) rfl ?_
    refine sm_get (pc := 93) (ci := 9) (j := 9) (N := 32) (T := TX9) G hb ho hy rfl (by decide) gin_9 gw6_5 (by decide +kernel : decode cX9_closeUp 93 = .ok (.getfield 16, 3)) ?_
    refine sm_sipush (pc := 96) G hb (by decide +kernel : decode cX9_closeUp 96 = .ok (.sipush 245, 3)) (by decide) ?_
    refine sm_iload_n (pc := 99) G hb (by decide +kernel : decode cX9_closeUp 99 = .ok (.iload_n 1, 1)) rfl ?_
    refine sm_iast (pc := 100) G hb hy (by decide +kernel : decode cX9_closeUp 100 = .ok (.iastore, 1)) ?_
    refine sm_iload_n (pc := 101) G hb (by decide +kernel : decode cX9_closeUp 101 = .ok (.iload_n 2, 1)) rfl ?_
    exact sm_iret (pc := 102) G hb (by decide +kernel : decode cX9_closeUp 102 = .ok (.ireturn, 1)) hr
  · skip
    refine sm_iconst (pc := 16) G hb (by decide +kernel : decode cX9_closeUp 16 = .ok (.iconst 0, 1)) (by decide) ?_
    refine sm_istore_n (pc := 17) G hb (by decide +kernel : decode cX9_closeUp 17 = .ok (.istore_n 3, 1)) rfl ?_
    refine sm_mask ?_
    exact fX9_closeUp_s18 N G hb ho hy hR he hr hE K4 h4
set_option maxRecDepth 100000 in
set_option maxHeartbeats 4000000 in
theorem fX9_closeUp_s0 {γ : gG} {cs ss : Nat} {ε : gE5} (N : Nat) (G : gOK γ) (hb : gcc γ = cX9_closeUp) (ho : gow γ = RX9) (hy : gly γ = gyM) (hR : grm γ = { frames := 1, cells := 0, slots := 0, locals := 22 }) (he : genv γ = ε) (hr : grt γ = (some .int)) (hE : gEnv ε) : gSm γ cs ss 0 (fX9_closeUp_k0 N) := by
  unfold fX9_closeUp_k0
  refine sm_iconst (pc := 0) G hb (by decide +kernel : decode cX9_closeUp 0 = .ok (.iconst 0, 1)) (by decide) ?_
  refine sm_istore_n (pc := 1) G hb (by decide +kernel : decode cX9_closeUp 1 = .ok (.istore_n 1, 1)) rfl ?_
  refine sm_iconst (pc := 2) G hb (by decide +kernel : decode cX9_closeUp 2 = .ok (.iconst 0, 1)) (by decide) ?_
  refine sm_istore_n (pc := 3) G hb (by decide +kernel : decode cX9_closeUp 3 = .ok (.istore_n 2, 1)) rfl ?_
  refine sm_mask ?_
  exact fX9_closeUp_s4 N G hb ho hy hR he hr hE
theorem kX9_closeUp {ε : gE5} (hE : gEnv ε) (N : Nat) : gCtr ε yX9_closeUp cX9_closeUp 4 (some .int) 1 22 gyM (fX9_closeUp N) :=
  gCtr_of hE.1 (by decide) (fun γ G hb ho hy hR he hr => fX9_closeUp_s0 N G hb ho hy hR he hr hE)

set_option maxRecDepth 100000 in
set_option maxHeartbeats 4000000 in
theorem fX9_come_s0 {γ : gG} {cs ss : Nat} {ε : gE5} (N : Nat) (G : gOK γ) (hb : gcc γ = cX9_come) (ho : gow γ = RX9) (hy : gly γ = gyM) (hR : grm γ = { frames := 0, cells := 0, slots := 0, locals := 0 }) (he : genv γ = ε) (hr : grt γ = none) (hE : gEnv ε) : gSm γ cs ss 0 (fX9_come_k0 N) := by
  unfold fX9_come_k0
  refine sm_sipush (pc := 0) G hb (by decide +kernel : decode cX9_come 0 = .ok (.sipush 246, 3)) (by decide) ?_
  refine sm_iconst (pc := 3) G hb (by decide +kernel : decode cX9_come 3 = .ok (.iconst 5, 1)) (by decide) ?_
  refine sm_aload_n (pc := 4) G hb (by decide +kernel : decode cX9_come 4 = .ok (.aload_n 0, 1)) rfl ?_
  refine sm_get (pc := 5) (ci := 9) (j := 9) (N := 32) (T := TX9) G hb ho hy rfl (by decide) gin_9 gw6_5 (by decide +kernel : decode cX9_come 5 = .ok (.getfield 16, 3)) ?_
  refine sm_sipush (pc := 8) G hb (by decide +kernel : decode cX9_come 8 = .ok (.sipush 245, 3)) (by decide) ?_
  refine sm_iald (pc := 11) G hb hy (by decide +kernel : decode cX9_come 11 = .ok (.iaload, 1)) ?_
  refine sm_imul (pc := 12) G hb (by decide +kernel : decode cX9_come 12 = .ok (.imul, 1)) ?_
  refine sm_iadd (pc := 13) G hb (by decide +kernel : decode cX9_come 13 = .ok (.iadd, 1)) ?_
  refine sm_istore (pc := 14) G hb (by decide +kernel : decode cX9_come 14 = .ok (.istore 6, 2)) ?_
  refine sm_aload_n (pc := 16) G hb (by decide +kernel : decode cX9_come 16 = .ok (.aload_n 0, 1)) rfl ?_
  refine sm_get (pc := 17) (ci := 9) (j := 9) (N := 32) (T := TX9) G hb ho hy rfl (by decide) gin_9 gw6_5 (by decide +kernel : decode cX9_come 17 = .ok (.getfield 16, 3)) ?_
  refine sm_iload (pc := 20) G hb (by decide +kernel : decode cX9_come 20 = .ok (.iload 6, 2)) ?_
  refine sm_iconst (pc := 22) G hb (by decide +kernel : decode cX9_come 22 = .ok (.iconst 0, 1)) (by decide) ?_
  refine sm_iadd (pc := 23) G hb (by decide +kernel : decode cX9_come 23 = .ok (.iadd, 1)) ?_
  refine sm_iload_n (pc := 24) G hb (by decide +kernel : decode cX9_come 24 = .ok (.iload_n 1, 1)) rfl ?_
  refine sm_iast (pc := 25) G hb hy (by decide +kernel : decode cX9_come 25 = .ok (.iastore, 1)) ?_
  refine sm_aload_n (pc := 26) G hb (by decide +kernel : decode cX9_come 26 = .ok (.aload_n 0, 1)) rfl ?_
  refine sm_get (pc := 27) (ci := 9) (j := 9) (N := 32) (T := TX9) G hb ho hy rfl (by decide) gin_9 gw6_5 (by decide +kernel : decode cX9_come 27 = .ok (.getfield 16, 3)) ?_
  refine sm_iload (pc := 30) G hb (by decide +kernel : decode cX9_come 30 = .ok (.iload 6, 2)) ?_
  refine sm_iconst (pc := 32) G hb (by decide +kernel : decode cX9_come 32 = .ok (.iconst 1, 1)) (by decide) ?_
  refine sm_iadd (pc := 33) G hb (by decide +kernel : decode cX9_come 33 = .ok (.iadd, 1)) ?_
  refine sm_iload_n (pc := 34) G hb (by decide +kernel : decode cX9_come 34 = .ok (.iload_n 2, 1)) rfl ?_
  refine sm_iast (pc := 35) G hb hy (by decide +kernel : decode cX9_come 35 = .ok (.iastore, 1)) ?_
  refine sm_aload_n (pc := 36) G hb (by decide +kernel : decode cX9_come 36 = .ok (.aload_n 0, 1)) rfl ?_
  refine sm_get (pc := 37) (ci := 9) (j := 9) (N := 32) (T := TX9) G hb ho hy rfl (by decide) gin_9 gw6_5 (by decide +kernel : decode cX9_come 37 = .ok (.getfield 16, 3)) ?_
  refine sm_iload (pc := 40) G hb (by decide +kernel : decode cX9_come 40 = .ok (.iload 6, 2)) ?_
  refine sm_iconst (pc := 42) G hb (by decide +kernel : decode cX9_come 42 = .ok (.iconst 2, 1)) (by decide) ?_
  refine sm_iadd (pc := 43) G hb (by decide +kernel : decode cX9_come 43 = .ok (.iadd, 1)) ?_
  refine sm_iload_n (pc := 44) G hb (by decide +kernel : decode cX9_come 44 = .ok (.iload_n 3, 1)) rfl ?_
  refine sm_iast (pc := 45) G hb hy (by decide +kernel : decode cX9_come 45 = .ok (.iastore, 1)) ?_
  refine sm_aload_n (pc := 46) G hb (by decide +kernel : decode cX9_come 46 = .ok (.aload_n 0, 1)) rfl ?_
  refine sm_get (pc := 47) (ci := 9) (j := 9) (N := 32) (T := TX9) G hb ho hy rfl (by decide) gin_9 gw6_5 (by decide +kernel : decode cX9_come 47 = .ok (.getfield 16, 3)) ?_
  refine sm_iload (pc := 50) G hb (by decide +kernel : decode cX9_come 50 = .ok (.iload 6, 2)) ?_
  refine sm_iconst (pc := 52) G hb (by decide +kernel : decode cX9_come 52 = .ok (.iconst 3, 1)) (by decide) ?_
  refine sm_iadd (pc := 53) G hb (by decide +kernel : decode cX9_come 53 = .ok (.iadd, 1)) ?_
  refine sm_iload (pc := 54) G hb (by decide +kernel : decode cX9_come 54 = .ok (.iload 4, 2)) ?_
  refine sm_iast (pc := 56) G hb hy (by decide +kernel : decode cX9_come 56 = .ok (.iastore, 1)) ?_
  refine sm_aload_n (pc := 57) G hb (by decide +kernel : decode cX9_come 57 = .ok (.aload_n 0, 1)) rfl ?_
  refine sm_get (pc := 58) (ci := 9) (j := 9) (N := 32) (T := TX9) G hb ho hy rfl (by decide) gin_9 gw6_5 (by decide +kernel : decode cX9_come 58 = .ok (.getfield 16, 3)) ?_
  refine sm_iload (pc := 61) G hb (by decide +kernel : decode cX9_come 61 = .ok (.iload 6, 2)) ?_
  refine sm_iconst (pc := 63) G hb (by decide +kernel : decode cX9_come 63 = .ok (.iconst 4, 1)) (by decide) ?_
  refine sm_iadd (pc := 64) G hb (by decide +kernel : decode cX9_come 64 = .ok (.iadd, 1)) ?_
  refine sm_iload (pc := 65) G hb (by decide +kernel : decode cX9_come 65 = .ok (.iload 5, 2)) ?_
  refine sm_iast (pc := 67) G hb hy (by decide +kernel : decode cX9_come 67 = .ok (.iastore, 1)) ?_
  refine sm_aload_n (pc := 68) G hb (by decide +kernel : decode cX9_come 68 = .ok (.aload_n 0, 1)) rfl ?_
  refine sm_get (pc := 69) (ci := 9) (j := 9) (N := 32) (T := TX9) G hb ho hy rfl (by decide) gin_9 gw6_5 (by decide +kernel : decode cX9_come 69 = .ok (.getfield 16, 3)) ?_
  refine sm_sipush (pc := 72) G hb (by decide +kernel : decode cX9_come 72 = .ok (.sipush 245, 3)) (by decide) ?_
  refine sm_dup2 (pc := 75) G hb (by decide +kernel : decode cX9_come 75 = .ok (.dup2, 1)) ?_
  refine sm_iald (pc := 76) G hb hy (by decide +kernel : decode cX9_come 76 = .ok (.iaload, 1)) ?_
  refine sm_iconst (pc := 77) G hb (by decide +kernel : decode cX9_come 77 = .ok (.iconst 1, 1)) (by decide) ?_
  refine sm_iadd (pc := 78) G hb (by decide +kernel : decode cX9_come 78 = .ok (.iadd, 1)) ?_
  refine sm_iast (pc := 79) G hb hy (by decide +kernel : decode cX9_come 79 = .ok (.iastore, 1)) ?_
  exact sm_vret (pc := 80) G hb (by decide +kernel : decode cX9_come 80 = .ok (.return_, 1)) hr
theorem kX9_come {ε : gE5} (hE : gEnv ε) (N : Nat) : gCtr ε yX9_come cX9_come 7 none 0 0 gyM (fX9_come N) :=
  gCtr_of hE.1 (by decide) (fun γ G hb ho hy hR he hr => fX9_come_s0 N G hb ho hy hR he hr hE)

set_option maxRecDepth 100000 in
set_option maxHeartbeats 4000000 in
theorem fX9_layHops_s65 {γ : gG} {cs ss : Nat} {ε : gE5} (N : Nat) (G : gOK γ) (hb : gcc γ = cX9_layHops) (ho : gow γ = RX9) (hy : gly γ = gyM) (hR : grm γ = { frames := 1, cells := 0, slots := 0, locals := 22 }) (he : genv γ = ε) (hr : grt γ = none) (hE : gEnv ε) (K45 : gK) (h45 : gSm γ cs ss 45 K45) (K52 : gK) (h52 : gSm γ cs ss 52 K52) : gSm γ cs ss 65 (fX9_layHops_k65 N K45 K52) := by
  unfold fX9_layHops_k65
  refine sm_lp (fun K65 h65 => ?_) N
  unfold fX9_layHops_b65
  refine sm_iload (pc := 65) G hb (by decide +kernel : decode cX9_layHops 65 = .ok (.iload 4, 2)) ?_
  refine sm_iload_n (pc := 67) G hb (by decide +kernel : decode cX9_layHops 67 = .ok (.iload_n 1, 1)) rfl ?_
  refine sm_icmp_ge (pc := 68) (tgt := 131) G hb (by decide +kernel : decode cX9_layHops 68 = .ok (.if_icmp .ge 63, 3)) (by decide) ?_ ?_
  · skip
    refine sm_iinc (pc := 131) G hb (by decide +kernel : decode cX9_layHops 131 = .ok (.iinc 3 1, 3)) (by decide) ?_
    refine sm_goto (pc := 134) (tgt := 52) G hb (by decide +kernel : decode cX9_layHops 134 = .ok (.goto (-82), 3)) (by decide) ?_
    refine sm_mask ?_
    exact h52
  · skip
    refine sm_aload_n (pc := 71) G hb (by decide +kernel : decode cX9_layHops 71 = .ok (.aload_n 0, 1)) rfl ?_
    refine sm_get (pc := 72) (ci := 9) (j := 18) (N := 32) (T := TX9) G hb ho hy rfl (by decide) gin_9 gw6_14 (by decide +kernel : decode cX9_layHops 72 = .ok (.getfield 32, 3)) ?_
    refine sm_bipush (pc := 75) G hb (by decide +kernel : decode cX9_layHops 75 = .ok (.bipush 10, 2)) (by decide) ?_
    refine sm_aload_n (pc := 77) G hb (by decide +kernel : decode cX9_layHops 77 = .ok (.aload_n 0, 1)) rfl ?_
    refine sm_iload_n (pc := 78) G hb (by decide +kernel : decode cX9_layHops 78 = .ok (.iload_n 3, 1)) rfl ?_
    refine sm_iconst (pc := 79) G hb (by decide +kernel : decode cX9_layHops 79 = .ok (.iconst 1, 1)) (by decide) ?_
    refine sm_mono (cav_sub gI_sub) (sm_callV (pc := 80) (N := 32) (T := TX9) (C := RX9) G hb ho hy he hE.1 3 [0, 1, 2, 3, 4, 5, 6, 7, 8, 9, 10, 11, 12, 13, 14, 15, 16, 17] (kX9_linkPart hE N) (gCo_of (by decide +kernel)) (by rw [hR]; exact ⟨by decide, by decide⟩) rfl rfl (by decide +kernel) gw7_143 gw7_145 gw0_74 gw1_11 gw7_146 (by decide +kernel : decode cX9_layHops 80 = .ok (.invokevirtual 250, 3)) ?_)
    refine sm_imul (pc := 83) G hb (by decide +kernel : decode cX9_layHops 83 = .ok (.imul, 1)) ?_
    refine sm_iload (pc := 84) G hb (by decide +kernel : decode cX9_layHops 84 = .ok (.iload 4, 2)) ?_
    refine sm_iadd (pc := 86) G hb (by decide +kernel : decode cX9_layHops 86 = .ok (.iadd, 1)) ?_
    refine sm_iald (pc := 87) G hb hy (by decide +kernel : decode cX9_layHops 87 = .ok (.iaload, 1)) ?_
    refine sm_iconst (pc := 88) G hb (by decide +kernel : decode cX9_layHops 88 = .ok (.iconst 1, 1)) (by decide) ?_
    refine sm_iadd (pc := 89) G hb (by decide +kernel : decode cX9_layHops 89 = .ok (.iadd, 1)) ?_
    refine sm_istore (pc := 90) G hb (by decide +kernel : decode cX9_layHops 90 = .ok (.istore 5, 2)) ?_
    refine sm_bipush (pc := 92) G hb (by decide +kernel : decode cX9_layHops 92 = .ok (.bipush 10, 2)) (by decide) ?_
    refine sm_aload_n (pc := 94) G hb (by decide +kernel : decode cX9_layHops 94 = .ok (.aload_n 0, 1)) rfl ?_
    refine sm_iload_n (pc := 95) G hb (by decide +kernel : decode cX9_layHops 95 = .ok (.iload_n 3, 1)) rfl ?_
    refine sm_iconst (pc := 96) G hb (by decide +kernel : decode cX9_layHops 96 = .ok (.iconst 0, 1)) (by decide) ?_
    refine sm_mono (cav_sub gI_sub) (sm_callV (pc := 97) (N := 32) (T := TX9) (C := RX9) G hb ho hy he hE.1 3 [0, 1, 2, 3, 4, 5, 6, 7, 8, 9, 10, 11, 12, 13, 14, 15, 16, 17] (kX9_linkPart hE N) (gCo_of (by decide +kernel)) (by rw [hR]; exact ⟨by decide, by decide⟩) rfl rfl (by decide +kernel) gw7_143 gw7_145 gw0_74 gw1_11 gw7_146 (by decide +kernel : decode cX9_layHops 97 = .ok (.invokevirtual 250, 3)) ?_)
    refine sm_imul (pc := 100) G hb (by decide +kernel : decode cX9_layHops 100 = .ok (.imul, 1)) ?_
    refine sm_iload (pc := 101) G hb (by decide +kernel : decode cX9_layHops 101 = .ok (.iload 4, 2)) ?_
    refine sm_iadd (pc := 103) G hb (by decide +kernel : decode cX9_layHops 103 = .ok (.iadd, 1)) ?_
    refine sm_istore (pc := 104) G hb (by decide +kernel : decode cX9_layHops 104 = .ok (.istore 6, 2)) ?_
    refine sm_aload_n (pc := 106) G hb (by decide +kernel : decode cX9_layHops 106 = .ok (.aload_n 0, 1)) rfl ?_
    refine sm_get (pc := 107) (ci := 9) (j := 18) (N := 32) (T := TX9) G hb ho hy rfl (by decide) gin_9 gw6_14 (by decide +kernel : decode cX9_layHops 107 = .ok (.getfield 32, 3)) ?_
    refine sm_iload (pc := 110) G hb (by decide +kernel : decode cX9_layHops 110 = .ok (.iload 6, 2)) ?_
    refine sm_aload_n (pc := 112) G hb (by decide +kernel : decode cX9_layHops 112 = .ok (.aload_n 0, 1)) rfl ?_
    refine sm_get (pc := 113) (ci := 9) (j := 18) (N := 32) (T := TX9) G hb ho hy rfl (by decide) gin_9 gw6_14 (by decide +kernel : decode cX9_layHops 113 = .ok (.getfield 32, 3)) ?_
    refine sm_iload (pc := 116) G hb (by decide +kernel : decode cX9_layHops 116 = .ok (.iload 6, 2)) ?_
    refine sm_iald (pc := 118) G hb hy (by decide +kernel : decode cX9_layHops 118 = .ok (.iaload, 1)) ?_
    refine sm_iload (pc := 119) G hb (by decide +kernel : decode cX9_layHops 119 = .ok (.iload 5, 2)) ?_
    refine sm_jmin (pc := 121) G hb ho (by rw [hR]; exact ⟨by decide, by decide⟩) gw6_138 gw4_178 gw1_21 gw4_179 (by decide +kernel : decode cX9_layHops 121 = .ok (.invokestatic 118, 3)) ?_
    refine sm_iast (pc := 124) G hb hy (by decide +kernel : decode cX9_layHops 124 = .ok (.iastore, 1)) ?_
    refine sm_iinc (pc := 125) G hb (by decide +kernel : decode cX9_layHops 125 = .ok (.iinc 4 1, 3)) (by decide) ?_
    refine sm_goto (pc := 128) (tgt := 65) G hb (by decide +kernel : decode cX9_layHops 128 = .ok (.goto (-63), 3)) (by decide) ?_
    refine sm_mask ?_
    exact h65
set_option maxRecDepth 100000 in
set_option maxHeartbeats 4000000 in
theorem fX9_layHops_s52 {γ : gG} {cs ss : Nat} {ε : gE5} (N : Nat) (G : gOK γ) (hb : gcc γ = cX9_layHops) (ho : gow γ = RX9) (hy : gly γ = gyM) (hR : grm γ = { frames := 1, cells := 0, slots := 0, locals := 22 }) (he : genv γ = ε) (hr : grt γ = none) (hE : gEnv ε) (K45 : gK) (h45 : gSm γ cs ss 45 K45) : gSm γ cs ss 52 (fX9_layHops_k52 N K45) := by
  unfold fX9_layHops_k52
  refine sm_lp (fun K52 h52 => ?_) N
  unfold fX9_layHops_b52
  refine sm_iload_n (pc := 52) G hb (by decide +kernel : decode cX9_layHops 52 = .ok (.iload_n 3, 1)) rfl ?_
  refine sm_aload_n (pc := 53) G hb (by decide +kernel : decode cX9_layHops 53 = .ok (.aload_n 0, 1)) rfl ?_
  refine sm_get (pc := 54) (ci := 9) (j := 9) (N := 32) (T := TX9) G hb ho hy rfl (by decide) gin_9 gw6_5 (by decide +kernel : decode cX9_layHops 54 = .ok (.getfield 16, 3)) ?_
  refine sm_iconst (pc := 57) G hb (by decide +kernel : decode cX9_layHops 57 = .ok (.iconst 1, 1)) (by decide) ?_
  refine sm_iald (pc := 58) G hb hy (by decide +kernel : decode cX9_layHops 58 = .ok (.iaload, 1)) ?_
  refine sm_icmp_ge (pc := 59) (tgt := 137) G hb (by decide +kernel : decode cX9_layHops 59 = .ok (.if_icmp .ge 78, 3)) (by decide) ?_ ?_
  · skip
    refine sm_iinc (pc := 137) G hb (by decide +kernel : decode cX9_layHops 137 = .ok (.iinc 2 1, 3)) (by decide) ?_
    refine sm_goto (pc := 140) (tgt := 45) G hb (by decide +kernel : decode cX9_layHops 140 = .ok (.goto (-95), 3)) (by decide) ?_
    refine sm_mask ?_
    exact h45
  · skip
    refine sm_iconst (pc := 62) G hb (by decide +kernel : decode cX9_layHops 62 = .ok (.iconst 0, 1)) (by decide) ?_
    refine sm_istore (pc := 63) G hb (by decide +kernel : decode cX9_layHops 63 = .ok (.istore 4, 2)) ?_
    refine sm_mask ?_
    exact fX9_layHops_s65 N G hb ho hy hR he hr hE K45 h45 K52 h52
set_option maxRecDepth 100000 in
set_option maxHeartbeats 4000000 in
theorem fX9_layHops_s45 {γ : gG} {cs ss : Nat} {ε : gE5} (N : Nat) (G : gOK γ) (hb : gcc γ = cX9_layHops) (ho : gow γ = RX9) (hy : gly γ = gyM) (hR : grm γ = { frames := 1, cells := 0, slots := 0, locals := 22 }) (he : genv γ = ε) (hr : grt γ = none) (hE : gEnv ε) : gSm γ cs ss 45 (fX9_layHops_k45 N) := by
  unfold fX9_layHops_k45
  refine sm_lp (fun K45 h45 => ?_) N
  unfold fX9_layHops_b45
  refine sm_iload_n (pc := 45) G hb (by decide +kernel : decode cX9_layHops 45 = .ok (.iload_n 2, 1)) rfl ?_
  refine sm_iload_n (pc := 46) G hb (by decide +kernel : decode cX9_layHops 46 = .ok (.iload_n 1, 1)) rfl ?_
  refine sm_icmp_ge (pc := 47) (tgt := 143) G hb (by decide +kernel : decode cX9_layHops 47 = .ok (.if_icmp .ge 96, 3)) (by decide) ?_ ?_
  · skip
    exact sm_vret (pc := 143) G hb (by decide +kernel : decode cX9_layHops 143 = .ok (.return_, 1)) hr
  · skip
    refine sm_iconst (pc := 50) G hb (by decide +kernel : decode cX9_layHops 50 = .ok (.iconst 0, 1)) (by decide) ?_
    refine sm_istore_n (pc := 51) G hb (by decide +kernel : decode cX9_layHops 51 = .ok (.istore_n 3, 1)) rfl ?_
    refine sm_mask ?_
    exact fX9_layHops_s52 N G hb ho hy hR he hr hE K45 h45
set_option maxRecDepth 100000 in
set_option maxHeartbeats 4000000 in
theorem fX9_layHops_s36 {γ : gG} {cs ss : Nat} {ε : gE5} (N : Nat) (G : gOK γ) (hb : gcc γ = cX9_layHops) (ho : gow γ = RX9) (hy : gly γ = gyM) (hR : grm γ = { frames := 1, cells := 0, slots := 0, locals := 22 }) (he : genv γ = ε) (hr : grt γ = none) (hE : gEnv ε) (K9 : gK) (h9 : gSm γ cs ss 9 K9) : gSm γ cs ss 36 (fX9_layHops_k36 N K9) := by
  unfold fX9_layHops_k36
  refine sm_iast (pc := 36) G hb hy (by decide +kernel : decode cX9_layHops 36 = .ok (.iastore, 1)) ?_
  refine sm_iinc (pc := 37) G hb (by decide +kernel : decode cX9_layHops 37 = .ok (.iinc 2 1, 3)) (by decide) ?_
  refine sm_goto (pc := 40) (tgt := 9) G hb (by decide +kernel : decode cX9_layHops 40 = .ok (.goto (-31), 3)) (by decide) ?_
  refine sm_mask ?_
  exact h9
set_option maxRecDepth 100000 in
set_option maxHeartbeats 4000000 in
theorem fX9_layHops_s9 {γ : gG} {cs ss : Nat} {ε : gE5} (N : Nat) (G : gOK γ) (hb : gcc γ = cX9_layHops) (ho : gow γ = RX9) (hy : gly γ = gyM) (hR : grm γ = { frames := 1, cells := 0, slots := 0, locals := 22 }) (he : genv γ = ε) (hr : grt γ = none) (hE : gEnv ε) : gSm γ cs ss 9 (fX9_layHops_k9 N) := by
  unfold fX9_layHops_k9
  refine sm_lp (fun K9 h9 => ?_) N
  unfold fX9_layHops_b9
  refine sm_iload_n (pc := 9) G hb (by decide +kernel : decode cX9_layHops 9 = .ok (.iload_n 2, 1)) rfl ?_
  refine sm_bipush (pc := 10) G hb (by decide +kernel : decode cX9_layHops 10 = .ok (.bipush 100, 2)) (by decide) ?_
  refine sm_icmp_ge (pc := 12) (tgt := 43) G hb (by decide +kernel : decode cX9_layHops 12 = .ok (.if_icmp .ge 31, 3)) (by decide) ?_ ?_
  · skip
    refine sm_iconst (pc := 43) G hb (by decide +kernel : decode cX9_layHops 43 = .ok (.iconst 0, 1)) (by decide) ?_
    refine sm_istore_n (pc := 44) G hb (by decide +kernel : decode cX9_layHops 44 = .ok (.istore_n 2, 1)) rfl ?_
    refine sm_mask ?_
    exact fX9_layHops_s45 N G hb ho hy hR he hr hE
  · skip
    refine sm_aload_n (pc := 15) G hb (by decide +kernel : decode cX9_layHops 15 = .ok (.aload_n 0, 1)) rfl ?_
    refine sm_get (pc := 16) (ci := 9) (j := 18) (N := 32) (T := TX9) G hb ho hy rfl (by decide) gin_9 gw6_14 (by decide +kernel : decode cX9_layHops 16 = .ok (.getfield 32, 3)) ?_
    refine sm_iload_n (pc := 19) G hb (by decide +kernel : decode cX9_layHops 19 = .ok (.iload_n 2, 1)) rfl ?_
    refine sm_iload_n (pc := 20) G hb (by decide +kernel : decode cX9_layHops 20 = .ok (.iload_n 2, 1)) rfl ?_
    refine sm_bipush (pc := 21) G hb (by decide +kernel : decode cX9_layHops 21 = .ok (.bipush 10, 2)) (by decide) ?_
    refine sm_idiv (pc := 23) G hb (by decide +kernel : decode cX9_layHops 23 = .ok (.idiv, 1)) ?_
    refine sm_iload_n (pc := 24) G hb (by decide +kernel : decode cX9_layHops 24 = .ok (.iload_n 2, 1)) rfl ?_
    refine sm_bipush (pc := 25) G hb (by decide +kernel : decode cX9_layHops 25 = .ok (.bipush 10, 2)) (by decide) ?_
    refine sm_irem (pc := 27) G hb (by decide +kernel : decode cX9_layHops 27 = .ok (.irem, 1)) ?_
    refine sm_icmp_ne (pc := 28) (tgt := 35) G hb (by decide +kernel : decode cX9_layHops 28 = .ok (.if_icmp .ne 7, 3)) (by decide) ?_ ?_
    · skip
      refine sm_iload_n (pc := 35) G hb (by decide +kernel : decode cX9_layHops 35 = .ok (.iload_n 1, 1)) rfl ?_
      refine sm_mask ?_
      exact fX9_layHops_s36 N G hb ho hy hR he hr hE K9 h9
    · skip
      refine sm_iconst (pc := 31) G hb (by decide +kernel : decode cX9_layHops 31 = .ok (.iconst 0, 1)) (by decide) ?_
      refine sm_goto (pc := 32) (tgt := 36) G hb (by decide +kernel : decode cX9_layHops 32 = .ok (.goto 4, 3)) (by decide) ?_
      refine sm_mask ?_
      exact fX9_layHops_s36 N G hb ho hy hR he hr hE K9 h9
set_option maxRecDepth 100000 in
set_option maxHeartbeats 4000000 in
theorem fX9_layHops_s0 {γ : gG} {cs ss : Nat} {ε : gE5} (N : Nat) (G : gOK γ) (hb : gcc γ = cX9_layHops) (ho : gow γ = RX9) (hy : gly γ = gyM) (hR : grm γ = { frames := 1, cells := 0, slots := 0, locals := 22 }) (he : genv γ = ε) (hr : grt γ = none) (hE : gEnv ε) : gSm γ cs ss 0 (fX9_layHops_k0 N) := by
  unfold fX9_layHops_k0
  refine sm_aload_n (pc := 0) G hb (by decide +kernel : decode cX9_layHops 0 = .ok (.aload_n 0, 1)) rfl ?_
  refine sm_get (pc := 1) (ci := 9) (j := 9) (N := 32) (T := TX9) G hb ho hy rfl (by decide) gin_9 gw6_5 (by decide +kernel : decode cX9_layHops 1 = .ok (.getfield 16, 3)) ?_
  refine sm_iconst (pc := 4) G hb (by decide +kernel : decode cX9_layHops 4 = .ok (.iconst 0, 1)) (by decide) ?_
  refine sm_iald (pc := 5) G hb hy (by decide +kernel : decode cX9_layHops 5 = .ok (.iaload, 1)) ?_
  refine sm_istore_n (pc := 6) G hb (by decide +kernel : decode cX9_layHops 6 = .ok (.istore_n 1, 1)) rfl ?_
  refine sm_iconst (pc := 7) G hb (by decide +kernel : decode cX9_layHops 7 = .ok (.iconst 0, 1)) (by decide) ?_
  refine sm_istore_n (pc := 8) G hb (by decide +kernel : decode cX9_layHops 8 = .ok (.istore_n 2, 1)) rfl ?_
  refine sm_mask ?_
  exact fX9_layHops_s9 N G hb ho hy hR he hr hE
theorem kX9_layHops {ε : gE5} (hE : gEnv ε) (N : Nat) : gCtr ε yX9_layHops cX9_layHops 7 none 1 22 gyM (fX9_layHops N) :=
  gCtr_of hE.1 (by decide) (fun γ G hb ho hy hR he hr => fX9_layHops_s0 N G hb ho hy hR he hr hE)

set_option maxRecDepth 100000 in
set_option maxHeartbeats 4000000 in
theorem fX9_layPressures_s141 {γ : gG} {cs ss : Nat} {ε : gE5} (N : Nat) (G : gOK γ) (hb : gcc γ = cX9_layPressures) (ho : gow γ = RX9) (hy : gly γ = gyM) (hR : grm γ = { frames := 2, cells := 0, slots := 0, locals := 48 }) (he : genv γ = ε) (hr : grt γ = none) (hE : gEnv ε) (K71 : gK) (h71 : gSm γ cs ss 71 K71) : gSm γ cs ss 141 (fX9_layPressures_k141 N K71) := by
  unfold fX9_layPressures_k141
  refine sm_iast (pc := 141) G hb hy (by decide +kernel : decode cX9_layPressures 141 = .ok (.iastore, 1)) ?_
  refine sm_iinc (pc := 142) G hb (by decide +kernel : decode cX9_layPressures 142 = .ok (.iinc 1 1, 3)) (by decide) ?_
  refine sm_goto (pc := 145) (tgt := 71) G hb (by decide +kernel : decode cX9_layPressures 145 = .ok (.goto (-74), 3)) (by decide) ?_
  refine sm_mask ?_
  exact h71
set_option maxRecDepth 100000 in
set_option maxHeartbeats 4000000 in
theorem fX9_layPressures_s105 {γ : gG} {cs ss : Nat} {ε : gE5} (N : Nat) (G : gOK γ) (hb : gcc γ = cX9_layPressures) (ho : gow γ = RX9) (hy : gly γ = gyM) (hR : grm γ = { frames := 2, cells := 0, slots := 0, locals := 48 }) (he : genv γ = ε) (hr : grt γ = none) (hE : gEnv ε) (K71 : gK) (h71 : gSm γ cs ss 71 K71) : gSm γ cs ss 105 (fX9_layPressures_k105 N K71) := by
  unfold fX9_layPressures_k105
  refine sm_istore_n (pc := 105) G hb (by decide +kernel : decode cX9_layPressures 105 = .ok (.istore_n 2, 1)) rfl ?_
  refine sm_aload_n (pc := 106) G hb (by decide +kernel : decode cX9_layPressures 106 = .ok (.aload_n 0, 1)) rfl ?_
  refine sm_get (pc := 107) (ci := 9) (j := 19) (N := 32) (T := TX9) G hb ho hy rfl (by decide) gin_9 gw6_15 (by decide +kernel : decode cX9_layPressures 107 = .ok (.getfield 35, 3)) ?_
  refine sm_iload_n (pc := 110) G hb (by decide +kernel : decode cX9_layPressures 110 = .ok (.iload_n 1, 1)) rfl ?_
  refine sm_iload_n (pc := 111) G hb (by decide +kernel : decode cX9_layPressures 111 = .ok (.iload_n 1, 1)) rfl ?_
  refine sm_bipush (pc := 112) G hb (by decide +kernel : decode cX9_layPressures 112 = .ok (.bipush 10, 2)) (by decide) ?_
  refine sm_idiv (pc := 114) G hb (by decide +kernel : decode cX9_layPressures 114 = .ok (.idiv, 1)) ?_
  refine sm_iload_n (pc := 115) G hb (by decide +kernel : decode cX9_layPressures 115 = .ok (.iload_n 1, 1)) rfl ?_
  refine sm_bipush (pc := 116) G hb (by decide +kernel : decode cX9_layPressures 116 = .ok (.bipush 10, 2)) (by decide) ?_
  refine sm_irem (pc := 118) G hb (by decide +kernel : decode cX9_layPressures 118 = .ok (.irem, 1)) ?_
  refine sm_icmp_ne (pc := 119) (tgt := 126) G hb (by decide +kernel : decode cX9_layPressures 119 = .ok (.if_icmp .ne 7, 3)) (by decide) ?_ ?_
  · skip
    refine sm_iload_n (pc := 126) G hb (by decide +kernel : decode cX9_layPressures 126 = .ok (.iload_n 2, 1)) rfl ?_
    refine sm_aload_n (pc := 127) G hb (by decide +kernel : decode cX9_layPressures 127 = .ok (.aload_n 0, 1)) rfl ?_
    refine sm_get (pc := 128) (ci := 9) (j := 9) (N := 32) (T := TX9) G hb ho hy rfl (by decide) gin_9 gw6_5 (by decide +kernel : decode cX9_layPressures 128 = .ok (.getfield 16, 3)) ?_
    refine sm_iconst (pc := 131) G hb (by decide +kernel : decode cX9_layPressures 131 = .ok (.iconst 5, 1)) (by decide) ?_
    refine sm_iald (pc := 132) G hb hy (by decide +kernel : decode cX9_layPressures 132 = .ok (.iaload, 1)) ?_
    refine sm_aload_n (pc := 133) G hb (by decide +kernel : decode cX9_layPressures 133 = .ok (.aload_n 0, 1)) rfl ?_
    refine sm_get (pc := 134) (ci := 9) (j := 18) (N := 32) (T := TX9) G hb ho hy rfl (by decide) gin_9 gw6_14 (by decide +kernel : decode cX9_layPressures 134 = .ok (.getfield 32, 3)) ?_
    refine sm_iload_n (pc := 137) G hb (by decide +kernel : decode cX9_layPressures 137 = .ok (.iload_n 1, 1)) rfl ?_
    refine sm_iald (pc := 138) G hb hy (by decide +kernel : decode cX9_layPressures 138 = .ok (.iaload, 1)) ?_
    refine sm_imul (pc := 139) G hb (by decide +kernel : decode cX9_layPressures 139 = .ok (.imul, 1)) ?_
    refine sm_iadd (pc := 140) G hb (by decide +kernel : decode cX9_layPressures 140 = .ok (.iadd, 1)) ?_
    refine sm_mask ?_
    exact fX9_layPressures_s141 N G hb ho hy hR he hr hE K71 h71
  · skip
    refine sm_iconst (pc := 122) G hb (by decide +kernel : decode cX9_layPressures 122 = .ok (.iconst 0, 1)) (by decide) ?_
    refine sm_goto (pc := 123) (tgt := 141) G hb (by decide +kernel : decode cX9_layPressures 123 = .ok (.goto 18, 3)) (by decide) ?_
    refine sm_mask ?_
    exact fX9_layPressures_s141 N G hb ho hy hR he hr hE K71 h71
set_option maxRecDepth 100000 in
set_option maxHeartbeats 4000000 in
theorem fX9_layPressures_s71 {γ : gG} {cs ss : Nat} {ε : gE5} (N : Nat) (G : gOK γ) (hb : gcc γ = cX9_layPressures) (ho : gow γ = RX9) (hy : gly γ = gyM) (hR : grm γ = { frames := 2, cells := 0, slots := 0, locals := 48 }) (he : genv γ = ε) (hr : grt γ = none) (hE : gEnv ε) : gSm γ cs ss 71 (fX9_layPressures_k71 N) := by
  unfold fX9_layPressures_k71
  refine sm_lp (fun K71 h71 => ?_) N
  unfold fX9_layPressures_b71
  refine sm_iload_n (pc := 71) G hb (by decide +kernel : decode cX9_layPressures 71 = .ok (.iload_n 1, 1)) rfl ?_
  refine sm_bipush (pc := 72) G hb (by decide +kernel : decode cX9_layPressures 72 = .ok (.bipush 100, 2)) (by decide) ?_
  refine sm_icmp_ge (pc := 74) (tgt := 148) G hb (by decide +kernel : decode cX9_layPressures 74 = .ok (.if_icmp .ge 74, 3)) (by decide) ?_ ?_
  · skip
    exact sm_vret (pc := 148) G hb (by decide +kernel : decode cX9_layPressures 148 = .ok (.return_, 1)) hr
  · skip
    refine sm_aload_n (pc := 77) G hb (by decide +kernel : decode cX9_layPressures 77 = .ok (.aload_n 0, 1)) rfl ?_
    refine sm_get (pc := 78) (ci := 9) (j := 9) (N := 32) (T := TX9) G hb ho hy rfl (by decide) gin_9 gw6_5 (by decide +kernel : decode cX9_layPressures 78 = .ok (.getfield 16, 3)) ?_
    refine sm_iconst (pc := 81) G hb (by decide +kernel : decode cX9_layPressures 81 = .ok (.iconst 3, 1)) (by decide) ?_
    refine sm_iald (pc := 82) G hb hy (by decide +kernel : decode cX9_layPressures 82 = .ok (.iaload, 1)) ?_
    refine sm_if_ne (pc := 83) (tgt := 95) G hb (by decide +kernel : decode cX9_layPressures 83 = .ok (.ifCond .ne 12, 3)) (by decide) ?_ ?_
    · skip
      refine sm_aload_n (pc := 95) G hb (by decide +kernel : decode cX9_layPressures 95 = .ok (.aload_n 0, 1)) rfl ?_
      refine sm_get (pc := 96) (ci := 9) (j := 9) (N := 32) (T := TX9) G hb ho hy rfl (by decide) gin_9 gw6_5 (by decide +kernel : decode cX9_layPressures 96 = .ok (.getfield 16, 3)) ?_
      refine sm_sipush (pc := 99) G hb (by decide +kernel : decode cX9_layPressures 99 = .ok (.sipush 145, 3)) (by decide) ?_
      refine sm_iload_n (pc := 102) G hb (by decide +kernel : decode cX9_layPressures 102 = .ok (.iload_n 1, 1)) rfl ?_
      refine sm_iadd (pc := 103) G hb (by decide +kernel : decode cX9_layPressures 103 = .ok (.iadd, 1)) ?_
      refine sm_iald (pc := 104) G hb hy (by decide +kernel : decode cX9_layPressures 104 = .ok (.iaload, 1)) ?_
      refine sm_mask ?_
      exact fX9_layPressures_s105 N G hb ho hy hR he hr hE K71 h71
    · skip
      refine sm_aload_n (pc := 86) G hb (by decide +kernel : decode cX9_layPressures 86 = .ok (.aload_n 0, 1)) rfl ?_
      refine sm_get (pc := 87) (ci := 9) (j := 20) (N := 32) (T := TX9) G hb ho hy rfl (by decide) gin_9 gw6_16 (by decide +kernel : decode cX9_layPressures 87 = .ok (.getfield 38, 3)) ?_
      refine sm_iload_n (pc := 90) G hb (by decide +kernel : decode cX9_layPressures 90 = .ok (.iload_n 1, 1)) rfl ?_
      refine sm_iald (pc := 91) G hb hy (by decide +kernel : decode cX9_layPressures 91 = .ok (.iaload, 1)) ?_
      refine sm_goto (pc := 92) (tgt := 105) G hb (by decide +kernel : decode cX9_layPressures 92 = .ok (.goto 13, 3)) (by decide) ?_
      refine sm_mask ?_
      exact fX9_layPressures_s105 N G hb ho hy hR he hr hE K71 h71
set_option maxRecDepth 100000 in
set_option maxHeartbeats 4000000 in
theorem fX9_layPressures_s27 {γ : gG} {cs ss : Nat} {ε : gE5} (N : Nat) (G : gOK γ) (hb : gcc γ = cX9_layPressures) (ho : gow γ = RX9) (hy : gly γ = gyM) (hR : grm γ = { frames := 2, cells := 0, slots := 0, locals := 48 }) (he : genv γ = ε) (hr : grt γ = none) (hE : gEnv ε) : gSm γ cs ss 27 (fX9_layPressures_k27 N) := by
  unfold fX9_layPressures_k27
  refine sm_lp (fun K27 h27 => ?_) N
  unfold fX9_layPressures_b27
  refine sm_iload_n (pc := 27) G hb (by decide +kernel : decode cX9_layPressures 27 = .ok (.iload_n 1, 1)) rfl ?_
  refine sm_aload_n (pc := 28) G hb (by decide +kernel : decode cX9_layPressures 28 = .ok (.aload_n 0, 1)) rfl ?_
  refine sm_get (pc := 29) (ci := 9) (j := 9) (N := 32) (T := TX9) G hb ho hy rfl (by decide) gin_9 gw6_5 (by decide +kernel : decode cX9_layPressures 29 = .ok (.getfield 16, 3)) ?_
  refine sm_sipush (pc := 32) G hb (by decide +kernel : decode cX9_layPressures 32 = .ok (.sipush 245, 3)) (by decide) ?_
  refine sm_iald (pc := 35) G hb hy (by decide +kernel : decode cX9_layPressures 35 = .ok (.iaload, 1)) ?_
  refine sm_icmp_ge (pc := 36) (tgt := 69) G hb (by decide +kernel : decode cX9_layPressures 36 = .ok (.if_icmp .ge 33, 3)) (by decide) ?_ ?_
  · skip
    refine sm_iconst (pc := 69) G hb (by decide +kernel : decode cX9_layPressures 69 = .ok (.iconst 0, 1)) (by decide) ?_
    refine sm_istore_n (pc := 70) G hb (by decide +kernel : decode cX9_layPressures 70 = .ok (.istore_n 1, 1)) rfl ?_
    refine sm_mask ?_
    exact fX9_layPressures_s71 N G hb ho hy hR he hr hE
  · skip
    refine sm_aload_n (pc := 39) G hb (by decide +kernel : decode cX9_layPressures 39 = .ok (.aload_n 0, 1)) rfl ?_
    refine sm_get (pc := 40) (ci := 9) (j := 20) (N := 32) (T := TX9) G hb ho hy rfl (by decide) gin_9 gw6_16 (by decide +kernel : decode cX9_layPressures 40 = .ok (.getfield 38, 3)) ?_
    refine sm_bipush (pc := 43) G hb (by decide +kernel : decode cX9_layPressures 43 = .ok (.bipush 10, 2)) (by decide) ?_
    refine sm_aload_n (pc := 45) G hb (by decide +kernel : decode cX9_layPressures 45 = .ok (.aload_n 0, 1)) rfl ?_
    refine sm_iload_n (pc := 46) G hb (by decide +kernel : decode cX9_layPressures 46 = .ok (.iload_n 1, 1)) rfl ?_
    refine sm_iconst (pc := 47) G hb (by decide +kernel : decode cX9_layPressures 47 = .ok (.iconst 4, 1)) (by decide) ?_
    refine sm_mono (cav_sub gI_sub) (sm_callV (pc := 48) (N := 32) (T := TX9) (C := RX9) G hb ho hy he hE.1 3 [0, 1, 2, 3, 4, 5, 6, 7, 8, 9, 10, 11, 12, 13, 14, 15, 16, 17] (kX9_packetPart hE N) (gCo_of (by decide +kernel)) (by rw [hR]; exact ⟨by decide, by decide⟩) rfl rfl (by decide +kernel) gw7_84 gw7_86 gw0_63 gw1_11 gw7_87 (by decide +kernel : decode cX9_layPressures 48 = .ok (.invokevirtual 237, 3)) ?_)
    refine sm_imul (pc := 51) G hb (by decide +kernel : decode cX9_layPressures 51 = .ok (.imul, 1)) ?_
    refine sm_aload_n (pc := 52) G hb (by decide +kernel : decode cX9_layPressures 52 = .ok (.aload_n 0, 1)) rfl ?_
    refine sm_iload_n (pc := 53) G hb (by decide +kernel : decode cX9_layPressures 53 = .ok (.iload_n 1, 1)) rfl ?_
    refine sm_mono (cav_sub gI_sub) (sm_callV (pc := 54) (N := 32) (T := TX9) (C := RX9) G hb ho hy he hE.1 2 [0, 1, 2, 3, 4, 5, 6, 7, 8, 9, 10, 11, 12, 13, 14, 15, 16, 17] (kX9_goalOf hE N) (gCo_of (by decide +kernel)) (by rw [hR]; exact ⟨by decide, by decide⟩) rfl rfl (by decide +kernel) gw7_88 gw7_90 gw0_64 gw1_11 gw7_91 (by decide +kernel : decode cX9_layPressures 54 = .ok (.invokevirtual 243, 3)) ?_)
    refine sm_iadd (pc := 57) G hb (by decide +kernel : decode cX9_layPressures 57 = .ok (.iadd, 1)) ?_
    refine sm_dup2 (pc := 58) G hb (by decide +kernel : decode cX9_layPressures 58 = .ok (.dup2, 1)) ?_
    refine sm_iald (pc := 59) G hb hy (by decide +kernel : decode cX9_layPressures 59 = .ok (.iaload, 1)) ?_
    refine sm_iconst (pc := 60) G hb (by decide +kernel : decode cX9_layPressures 60 = .ok (.iconst 1, 1)) (by decide) ?_
    refine sm_iadd (pc := 61) G hb (by decide +kernel : decode cX9_layPressures 61 = .ok (.iadd, 1)) ?_
    refine sm_iast (pc := 62) G hb hy (by decide +kernel : decode cX9_layPressures 62 = .ok (.iastore, 1)) ?_
    refine sm_iinc (pc := 63) G hb (by decide +kernel : decode cX9_layPressures 63 = .ok (.iinc 1 1, 3)) (by decide) ?_
    refine sm_goto (pc := 66) (tgt := 27) G hb (by decide +kernel : decode cX9_layPressures 66 = .ok (.goto (-39), 3)) (by decide) ?_
    refine sm_mask ?_
    exact h27
set_option maxRecDepth 100000 in
set_option maxHeartbeats 4000000 in
theorem fX9_layPressures_s6 {γ : gG} {cs ss : Nat} {ε : gE5} (N : Nat) (G : gOK γ) (hb : gcc γ = cX9_layPressures) (ho : gow γ = RX9) (hy : gly γ = gyM) (hR : grm γ = { frames := 2, cells := 0, slots := 0, locals := 48 }) (he : genv γ = ε) (hr : grt γ = none) (hE : gEnv ε) : gSm γ cs ss 6 (fX9_layPressures_k6 N) := by
  unfold fX9_layPressures_k6
  refine sm_lp (fun K6 h6 => ?_) N
  unfold fX9_layPressures_b6
  refine sm_iload_n (pc := 6) G hb (by decide +kernel : decode cX9_layPressures 6 = .ok (.iload_n 1, 1)) rfl ?_
  refine sm_bipush (pc := 7) G hb (by decide +kernel : decode cX9_layPressures 7 = .ok (.bipush 100, 2)) (by decide) ?_
  refine sm_icmp_ge (pc := 9) (tgt := 25) G hb (by decide +kernel : decode cX9_layPressures 9 = .ok (.if_icmp .ge 16, 3)) (by decide) ?_ ?_
  · skip
    refine sm_iconst (pc := 25) G hb (by decide +kernel : decode cX9_layPressures 25 = .ok (.iconst 0, 1)) (by decide) ?_
    refine sm_istore_n (pc := 26) G hb (by decide +kernel : decode cX9_layPressures 26 = .ok (.istore_n 1, 1)) rfl ?_
    refine sm_mask ?_
    exact fX9_layPressures_s27 N G hb ho hy hR he hr hE
  · skip
    refine sm_aload_n (pc := 12) G hb (by decide +kernel : decode cX9_layPressures 12 = .ok (.aload_n 0, 1)) rfl ?_
    refine sm_get (pc := 13) (ci := 9) (j := 20) (N := 32) (T := TX9) G hb ho hy rfl (by decide) gin_9 gw6_16 (by decide +kernel : decode cX9_layPressures 13 = .ok (.getfield 38, 3)) ?_
    refine sm_iload_n (pc := 16) G hb (by decide +kernel : decode cX9_layPressures 16 = .ok (.iload_n 1, 1)) rfl ?_
    refine sm_iconst (pc := 17) G hb (by decide +kernel : decode cX9_layPressures 17 = .ok (.iconst 0, 1)) (by decide) ?_
    refine sm_iast (pc := 18) G hb hy (by decide +kernel : decode cX9_layPressures 18 = .ok (.iastore, 1)) ?_
    refine sm_iinc (pc := 19) G hb (by decide +kernel : decode cX9_layPressures 19 = .ok (.iinc 1 1, 3)) (by decide) ?_
    refine sm_goto (pc := 22) (tgt := 6) G hb (by decide +kernel : decode cX9_layPressures 22 = .ok (.goto (-16), 3)) (by decide) ?_
    refine sm_mask ?_
    exact h6
set_option maxRecDepth 100000 in
set_option maxHeartbeats 4000000 in
theorem fX9_layPressures_s0 {γ : gG} {cs ss : Nat} {ε : gE5} (N : Nat) (G : gOK γ) (hb : gcc γ = cX9_layPressures) (ho : gow γ = RX9) (hy : gly γ = gyM) (hR : grm γ = { frames := 2, cells := 0, slots := 0, locals := 48 }) (he : genv γ = ε) (hr : grt γ = none) (hE : gEnv ε) : gSm γ cs ss 0 (fX9_layPressures_k0 N) := by
  unfold fX9_layPressures_k0
  refine sm_aload_n (pc := 0) G hb (by decide +kernel : decode cX9_layPressures 0 = .ok (.aload_n 0, 1)) rfl ?_
  refine sm_mono (cav_sub gV_sub) (sm_callV (pc := 1) (N := 32) (T := TX9) (C := RX9) G hb ho hy he hE.1 1 [0, 1, 2, 3, 4, 5, 6, 7, 8, 9, 10, 11, 12, 13, 14, 15, 16, 17] (kX9_layHops hE N) (gCo_of (by decide +kernel)) (by rw [hR]; exact ⟨by decide, by decide⟩) rfl rfl (by decide +kernel) gw7_139 gw7_141 gw0_73 gw1_11 gw7_142 (by decide +kernel : decode cX9_layPressures 1 = .ok (.invokevirtual 253, 3)) ?_)
  refine sm_iconst (pc := 4) G hb (by decide +kernel : decode cX9_layPressures 4 = .ok (.iconst 0, 1)) (by decide) ?_
  refine sm_istore_n (pc := 5) G hb (by decide +kernel : decode cX9_layPressures 5 = .ok (.istore_n 1, 1)) rfl ?_
  refine sm_mask ?_
  exact fX9_layPressures_s6 N G hb ho hy hR he hr hE
theorem kX9_layPressures {ε : gE5} (hE : gEnv ε) (N : Nat) : gCtr ε yX9_layPressures cX9_layPressures 3 none 2 48 gyM (fX9_layPressures N) :=
  gCtr_of hE.1 (by decide) (fun γ G hb ho hy hR he hr => fX9_layPressures_s0 N G hb ho hy hR he hr hE)

set_option maxRecDepth 100000 in
set_option maxHeartbeats 4000000 in
theorem fX9_isPossible_s46 {γ : gG} {cs ss : Nat} {ε : gE5} (N : Nat) (G : gOK γ) (hb : gcc γ = cX9_isPossible) (ho : gow γ = RX9) (hy : gly γ = gyM) (hR : grm γ = { frames := 0, cells := 0, slots := 0, locals := 0 }) (he : genv γ = ε) (hr : grt γ = (some .boolean)) (hE : gEnv ε) : gSm γ cs ss 46 (fX9_isPossible_k46 N) := by
  unfold fX9_isPossible_k46
  refine sm_iconst (pc := 46) G hb (by decide +kernel : decode cX9_isPossible 46 = .ok (.iconst 1, 1)) (by decide) ?_
  refine sm_goto (pc := 47) (tgt := 51) G hb (by decide +kernel : decode cX9_isPossible 47 = .ok (.goto 4, 3)) (by decide) ?_
  exact sm_zret (pc := 51) G hb (by decide +kernel : decode cX9_isPossible 51 = .ok (.ireturn, 1)) hr
set_option maxRecDepth 100000 in
set_option maxHeartbeats 4000000 in
theorem fX9_isPossible_s0 {γ : gG} {cs ss : Nat} {ε : gE5} (N : Nat) (G : gOK γ) (hb : gcc γ = cX9_isPossible) (ho : gow γ = RX9) (hy : gly γ = gyM) (hR : grm γ = { frames := 0, cells := 0, slots := 0, locals := 0 }) (he : genv γ = ε) (hr : grt γ = (some .boolean)) (hE : gEnv ε) : gSm γ cs ss 0 (fX9_isPossible_k0 N) := by
  unfold fX9_isPossible_k0
  refine sm_bipush (pc := 0) G hb (by decide +kernel : decode cX9_isPossible 0 = .ok (.bipush 10, 2)) (by decide) ?_
  refine sm_iload_n (pc := 2) G hb (by decide +kernel : decode cX9_isPossible 2 = .ok (.iload_n 1, 1)) rfl ?_
  refine sm_imul (pc := 3) G hb (by decide +kernel : decode cX9_isPossible 3 = .ok (.imul, 1)) ?_
  refine sm_iload_n (pc := 4) G hb (by decide +kernel : decode cX9_isPossible 4 = .ok (.iload_n 2, 1)) rfl ?_
  refine sm_iadd (pc := 5) G hb (by decide +kernel : decode cX9_isPossible 5 = .ok (.iadd, 1)) ?_
  refine sm_istore_n (pc := 6) G hb (by decide +kernel : decode cX9_isPossible 6 = .ok (.istore_n 3, 1)) rfl ?_
  refine sm_iload_n (pc := 7) G hb (by decide +kernel : decode cX9_isPossible 7 = .ok (.iload_n 2, 1)) rfl ?_
  refine sm_iload_n (pc := 8) G hb (by decide +kernel : decode cX9_isPossible 8 = .ok (.iload_n 1, 1)) rfl ?_
  refine sm_icmp_eq (pc := 9) (tgt := 50) G hb (by decide +kernel : decode cX9_isPossible 9 = .ok (.if_icmp .eq 41, 3)) (by decide) ?_ ?_
  · skip
    refine sm_iconst (pc := 50) G hb (by decide +kernel : decode cX9_isPossible 50 = .ok (.iconst 0, 1)) (by decide) ?_
    exact sm_zret (pc := 51) G hb (by decide +kernel : decode cX9_isPossible 51 = .ok (.ireturn, 1)) hr
  · skip
    refine sm_aload_n (pc := 12) G hb (by decide +kernel : decode cX9_isPossible 12 = .ok (.aload_n 0, 1)) rfl ?_
    refine sm_get (pc := 13) (ci := 9) (j := 9) (N := 32) (T := TX9) G hb ho hy rfl (by decide) gin_9 gw6_5 (by decide +kernel : decode cX9_isPossible 13 = .ok (.getfield 16, 3)) ?_
    refine sm_iconst (pc := 16) G hb (by decide +kernel : decode cX9_isPossible 16 = .ok (.iconst 3, 1)) (by decide) ?_
    refine sm_iald (pc := 17) G hb hy (by decide +kernel : decode cX9_isPossible 17 = .ok (.iaload, 1)) ?_
    refine sm_if_ne (pc := 18) (tgt := 33) G hb (by decide +kernel : decode cX9_isPossible 18 = .ok (.ifCond .ne 15, 3)) (by decide) ?_ ?_
    · skip
      refine sm_aload_n (pc := 33) G hb (by decide +kernel : decode cX9_isPossible 33 = .ok (.aload_n 0, 1)) rfl ?_
      refine sm_get (pc := 34) (ci := 9) (j := 9) (N := 32) (T := TX9) G hb ho hy rfl (by decide) gin_9 gw6_5 (by decide +kernel : decode cX9_isPossible 34 = .ok (.getfield 16, 3)) ?_
      refine sm_sipush (pc := 37) G hb (by decide +kernel : decode cX9_isPossible 37 = .ok (.sipush 145, 3)) (by decide) ?_
      refine sm_iload_n (pc := 40) G hb (by decide +kernel : decode cX9_isPossible 40 = .ok (.iload_n 3, 1)) rfl ?_
      refine sm_iadd (pc := 41) G hb (by decide +kernel : decode cX9_isPossible 41 = .ok (.iadd, 1)) ?_
      refine sm_iald (pc := 42) G hb hy (by decide +kernel : decode cX9_isPossible 42 = .ok (.iaload, 1)) ?_
      refine sm_if_le (pc := 43) (tgt := 50) G hb (by decide +kernel : decode cX9_isPossible 43 = .ok (.ifCond .le 7, 3)) (by decide) ?_ ?_
      · skip
        refine sm_iconst (pc := 50) G hb (by decide +kernel : decode cX9_isPossible 50 = .ok (.iconst 0, 1)) (by decide) ?_
        exact sm_zret (pc := 51) G hb (by decide +kernel : decode cX9_isPossible 51 = .ok (.ireturn, 1)) hr
      · skip
        refine sm_mask ?_
        exact fX9_isPossible_s46 N G hb ho hy hR he hr hE
    · skip
      refine sm_aload_n (pc := 21) G hb (by decide +kernel : decode cX9_isPossible 21 = .ok (.aload_n 0, 1)) rfl ?_
      refine sm_get (pc := 22) (ci := 9) (j := 20) (N := 32) (T := TX9) G hb ho hy rfl (by decide) gin_9 gw6_16 (by decide +kernel : decode cX9_isPossible 22 = .ok (.getfield 38, 3)) ?_
      refine sm_iload_n (pc := 25) G hb (by decide +kernel : decode cX9_isPossible 25 = .ok (.iload_n 3, 1)) rfl ?_
      refine sm_iald (pc := 26) G hb hy (by decide +kernel : decode cX9_isPossible 26 = .ok (.iaload, 1)) ?_
      refine sm_if_le (pc := 27) (tgt := 50) G hb (by decide +kernel : decode cX9_isPossible 27 = .ok (.ifCond .le 23, 3)) (by decide) ?_ ?_
      · skip
        refine sm_iconst (pc := 50) G hb (by decide +kernel : decode cX9_isPossible 50 = .ok (.iconst 0, 1)) (by decide) ?_
        exact sm_zret (pc := 51) G hb (by decide +kernel : decode cX9_isPossible 51 = .ok (.ireturn, 1)) hr
      · skip
        refine sm_goto (pc := 30) (tgt := 46) G hb (by decide +kernel : decode cX9_isPossible 30 = .ok (.goto 16, 3)) (by decide) ?_
        refine sm_mask ?_
        exact fX9_isPossible_s46 N G hb ho hy hR he hr hE
theorem kX9_isPossible {ε : gE5} (hE : gEnv ε) (N : Nat) : gCtr ε yX9_isPossible cX9_isPossible 4 (some .boolean) 0 0 gyM (fX9_isPossible N) :=
  gCtr_of hE.1 (by decide) (fun γ G hb ho hy hR he hr => fX9_isPossible_s0 N G hb ho hy hR he hr hE)

set_option maxRecDepth 100000 in
set_option maxHeartbeats 4000000 in
theorem fX9_layWeight_s92 {γ : gG} {cs ss : Nat} {ε : gE5} (N : Nat) (G : gOK γ) (hb : gcc γ = cX9_layWeight) (ho : gow γ = RX9) (hy : gly γ = gyM) (hR : grm γ = { frames := 1, cells := 0, slots := 0, locals := 23 }) (he : genv γ = ε) (hr : grt γ = none) (hE : gEnv ε) (K23 : gK) (h23 : gSm γ cs ss 23 K23) : gSm γ cs ss 92 (fX9_layWeight_k92 N K23) := by
  unfold fX9_layWeight_k92
  refine sm_iinc (pc := 92) G hb (by decide +kernel : decode cX9_layWeight 92 = .ok (.iinc 6 1, 3)) (by decide) ?_
  refine sm_goto (pc := 95) (tgt := 23) G hb (by decide +kernel : decode cX9_layWeight 95 = .ok (.goto (-72), 3)) (by decide) ?_
  refine sm_mask ?_
  exact h23
set_option maxRecDepth 100000 in
set_option maxHeartbeats 4000000 in
theorem fX9_layWeight_s84 {γ : gG} {cs ss : Nat} {ε : gE5} (N : Nat) (G : gOK γ) (hb : gcc γ = cX9_layWeight) (ho : gow γ = RX9) (hy : gly γ = gyM) (hR : grm γ = { frames := 1, cells := 0, slots := 0, locals := 23 }) (he : genv γ = ε) (hr : grt γ = none) (hE : gEnv ε) (K23 : gK) (h23 : gSm γ cs ss 23 K23) : gSm γ cs ss 84 (fX9_layWeight_k84 N K23) := by
  unfold fX9_layWeight_k84
  refine sm_iload (pc := 84) G hb (by decide +kernel : decode cX9_layWeight 84 = .ok (.iload 6, 2)) ?_
  refine sm_istore (pc := 86) G hb (by decide +kernel : decode cX9_layWeight 86 = .ok (.istore 4, 2)) ?_
  refine sm_iload (pc := 88) G hb (by decide +kernel : decode cX9_layWeight 88 = .ok (.iload 7, 2)) ?_
  refine sm_istore (pc := 90) G hb (by decide +kernel : decode cX9_layWeight 90 = .ok (.istore 5, 2)) ?_
  refine sm_mask ?_
  exact fX9_layWeight_s92 N G hb ho hy hR he hr hE K23 h23
set_option maxRecDepth 100000 in
set_option maxHeartbeats 4000000 in
theorem fX9_layWeight_s23 {γ : gG} {cs ss : Nat} {ε : gE5} (N : Nat) (G : gOK γ) (hb : gcc γ = cX9_layWeight) (ho : gow γ = RX9) (hy : gly γ = gyM) (hR : grm γ = { frames := 1, cells := 0, slots := 0, locals := 23 }) (he : genv γ = ε) (hr : grt γ = none) (hE : gEnv ε) : gSm γ cs ss 23 (fX9_layWeight_k23 N) := by
  unfold fX9_layWeight_k23
  refine sm_lp (fun K23 h23 => ?_) N
  unfold fX9_layWeight_b23
  refine sm_iload (pc := 23) G hb (by decide +kernel : decode cX9_layWeight 23 = .ok (.iload 6, 2)) ?_
  refine sm_aload_n (pc := 25) G hb (by decide +kernel : decode cX9_layWeight 25 = .ok (.aload_n 0, 1)) rfl ?_
  refine sm_get (pc := 26) (ci := 9) (j := 9) (N := 32) (T := TX9) G hb ho hy rfl (by decide) gin_9 gw6_5 (by decide +kernel : decode cX9_layWeight 26 = .ok (.getfield 16, 3)) ?_
  refine sm_iconst (pc := 29) G hb (by decide +kernel : decode cX9_layWeight 29 = .ok (.iconst 0, 1)) (by decide) ?_
  refine sm_iald (pc := 30) G hb hy (by decide +kernel : decode cX9_layWeight 30 = .ok (.iaload, 1)) ?_
  refine sm_icmp_ge (pc := 31) (tgt := 98) G hb (by decide +kernel : decode cX9_layWeight 31 = .ok (.if_icmp .ge 67, 3)) (by decide) ?_ ?_
  · skip
    refine sm_aload_n (pc := 98) G hb (by decide +kernel : decode cX9_layWeight 98 = .ok (.aload_n 0, 1)) rfl ?_
    refine sm_get (pc := 99) (ci := 9) (j := 21) (N := 32) (T := TX9) G hb ho hy rfl (by decide) gin_9 gw6_17 (by decide +kernel : decode cX9_layWeight 99 = .ok (.getfield 41, 3)) ?_
    refine sm_iload_n (pc := 102) G hb (by decide +kernel : decode cX9_layWeight 102 = .ok (.iload_n 1, 1)) rfl ?_
    refine sm_iload (pc := 103) G hb (by decide +kernel : decode cX9_layWeight 103 = .ok (.iload 4, 2)) ?_
    refine sm_iast (pc := 105) G hb hy (by decide +kernel : decode cX9_layWeight 105 = .ok (.iastore, 1)) ?_
    refine sm_aload_n (pc := 106) G hb (by decide +kernel : decode cX9_layWeight 106 = .ok (.aload_n 0, 1)) rfl ?_
    refine sm_get (pc := 107) (ci := 9) (j := 22) (N := 32) (T := TX9) G hb ho hy rfl (by decide) gin_9 gw6_18 (by decide +kernel : decode cX9_layWeight 107 = .ok (.getfield 44, 3)) ?_
    refine sm_iload_n (pc := 110) G hb (by decide +kernel : decode cX9_layWeight 110 = .ok (.iload_n 1, 1)) rfl ?_
    refine sm_iload (pc := 111) G hb (by decide +kernel : decode cX9_layWeight 111 = .ok (.iload 4, 2)) ?_
    refine sm_iconst (pc := 113) G hb (by decide +kernel : decode cX9_layWeight 113 = .ok (.iconst (-1), 1)) (by decide) ?_
    refine sm_icmp_ne (pc := 114) (tgt := 121) G hb (by decide +kernel : decode cX9_layWeight 114 = .ok (.if_icmp .ne 7, 3)) (by decide) ?_ ?_
    · skip
      refine sm_iconst (pc := 121) G hb (by decide +kernel : decode cX9_layWeight 121 = .ok (.iconst 0, 1)) (by decide) ?_
      refine sm_aload_n (pc := 122) G hb (by decide +kernel : decode cX9_layWeight 122 = .ok (.aload_n 0, 1)) rfl ?_
      refine sm_iload_n (pc := 123) G hb (by decide +kernel : decode cX9_layWeight 123 = .ok (.iload_n 1, 1)) rfl ?_
      refine sm_iconst (pc := 124) G hb (by decide +kernel : decode cX9_layWeight 124 = .ok (.iconst 2, 1)) (by decide) ?_
      refine sm_mono (cav_sub gI_sub) (sm_callV (pc := 125) (N := 32) (T := TX9) (C := RX9) G hb ho hy he hE.1 3 [0, 1, 2, 3, 4, 5, 6, 7, 8, 9, 10, 11, 12, 13, 14, 15, 16, 17] (kX9_linkPart hE N) (gCo_of (by decide +kernel)) (by rw [hR]; exact ⟨by decide, by decide⟩) rfl rfl (by decide +kernel) gw7_143 gw7_145 gw0_74 gw1_11 gw7_146 (by decide +kernel : decode cX9_layWeight 125 = .ok (.invokevirtual 250, 3)) ?_)
      refine sm_iload (pc := 128) G hb (by decide +kernel : decode cX9_layWeight 128 = .ok (.iload 5, 2)) ?_
      refine sm_imul (pc := 130) G hb (by decide +kernel : decode cX9_layWeight 130 = .ok (.imul, 1)) ?_
      refine sm_jmax (pc := 131) G hb ho (by rw [hR]; exact ⟨by decide, by decide⟩) gw7_155 gw4_157 gw1_21 gw4_158 (by decide +kernel : decode cX9_layWeight 131 = .ok (.invokestatic 259, 3)) ?_
      refine sm_iast (pc := 134) G hb hy (by decide +kernel : decode cX9_layWeight 134 = .ok (.iastore, 1)) ?_
      exact sm_vret (pc := 135) G hb (by decide +kernel : decode cX9_layWeight 135 = .ok (.return_, 1)) hr
    · skip
      refine sm_iconst (pc := 117) G hb (by decide +kernel : decode cX9_layWeight 117 = .ok (.iconst 0, 1)) (by decide) ?_
      refine sm_goto (pc := 118) (tgt := 134) G hb (by decide +kernel : decode cX9_layWeight 118 = .ok (.goto 16, 3)) (by decide) ?_
      refine sm_iast (pc := 134) G hb hy (by decide +kernel : decode cX9_layWeight 134 = .ok (.iastore, 1)) ?_
      exact sm_vret (pc := 135) G hb (by decide +kernel : decode cX9_layWeight 135 = .ok (.return_, 1)) hr
  · skip
    refine sm_aload_n (pc := 34) G hb (by decide +kernel : decode cX9_layWeight 34 = .ok (.aload_n 0, 1)) rfl ?_
    refine sm_get (pc := 35) (ci := 9) (j := 19) (N := 32) (T := TX9) G hb ho hy rfl (by decide) gin_9 gw6_15 (by decide +kernel : decode cX9_layWeight 35 = .ok (.getfield 35, 3)) ?_
    refine sm_bipush (pc := 38) G hb (by decide +kernel : decode cX9_layWeight 38 = .ok (.bipush 10, 2)) (by decide) ?_
    refine sm_iload_n (pc := 40) G hb (by decide +kernel : decode cX9_layWeight 40 = .ok (.iload_n 2, 1)) rfl ?_
    refine sm_imul (pc := 41) G hb (by decide +kernel : decode cX9_layWeight 41 = .ok (.imul, 1)) ?_
    refine sm_iload (pc := 42) G hb (by decide +kernel : decode cX9_layWeight 42 = .ok (.iload 6, 2)) ?_
    refine sm_iadd (pc := 44) G hb (by decide +kernel : decode cX9_layWeight 44 = .ok (.iadd, 1)) ?_
    refine sm_iald (pc := 45) G hb hy (by decide +kernel : decode cX9_layWeight 45 = .ok (.iaload, 1)) ?_
    refine sm_aload_n (pc := 46) G hb (by decide +kernel : decode cX9_layWeight 46 = .ok (.aload_n 0, 1)) rfl ?_
    refine sm_get (pc := 47) (ci := 9) (j := 19) (N := 32) (T := TX9) G hb ho hy rfl (by decide) gin_9 gw6_15 (by decide +kernel : decode cX9_layWeight 47 = .ok (.getfield 35, 3)) ?_
    refine sm_bipush (pc := 50) G hb (by decide +kernel : decode cX9_layWeight 50 = .ok (.bipush 10, 2)) (by decide) ?_
    refine sm_iload_n (pc := 52) G hb (by decide +kernel : decode cX9_layWeight 52 = .ok (.iload_n 3, 1)) rfl ?_
    refine sm_imul (pc := 53) G hb (by decide +kernel : decode cX9_layWeight 53 = .ok (.imul, 1)) ?_
    refine sm_iload (pc := 54) G hb (by decide +kernel : decode cX9_layWeight 54 = .ok (.iload 6, 2)) ?_
    refine sm_iadd (pc := 56) G hb (by decide +kernel : decode cX9_layWeight 56 = .ok (.iadd, 1)) ?_
    refine sm_iald (pc := 57) G hb hy (by decide +kernel : decode cX9_layWeight 57 = .ok (.iaload, 1)) ?_
    refine sm_isub (pc := 58) G hb (by decide +kernel : decode cX9_layWeight 58 = .ok (.isub, 1)) ?_
    refine sm_istore (pc := 59) G hb (by decide +kernel : decode cX9_layWeight 59 = .ok (.istore 7, 2)) ?_
    refine sm_aload_n (pc := 61) G hb (by decide +kernel : decode cX9_layWeight 61 = .ok (.aload_n 0, 1)) rfl ?_
    refine sm_iload_n (pc := 62) G hb (by decide +kernel : decode cX9_layWeight 62 = .ok (.iload_n 2, 1)) rfl ?_
    refine sm_iload (pc := 63) G hb (by decide +kernel : decode cX9_layWeight 63 = .ok (.iload 6, 2)) ?_
    refine sm_mono (cav_sub gI_sub) (sm_callV (pc := 65) (N := 32) (T := TX9) (C := RX9) G hb ho hy he hE.1 3 [0, 1, 2, 3, 4, 5, 6, 7, 8, 9, 10, 11, 12, 13, 14, 15, 16, 17] (kX9_isPossible hE N) (gCo_of (by decide +kernel)) (by rw [hR]; exact ⟨by decide, by decide⟩) rfl rfl (by decide +kernel) gw7_151 gw7_153 gw0_76 gw1_11 gw7_154 (by decide +kernel : decode cX9_layWeight 65 = .ok (.invokevirtual 256, 3)) ?_)
    refine sm_if_eq (pc := 68) (tgt := 92) G hb (by decide +kernel : decode cX9_layWeight 68 = .ok (.ifCond .eq 24, 3)) (by decide) ?_ ?_
    · skip
      refine sm_mask ?_
      exact fX9_layWeight_s92 N G hb ho hy hR he hr hE K23 h23
    · skip
      refine sm_iload (pc := 71) G hb (by decide +kernel : decode cX9_layWeight 71 = .ok (.iload 4, 2)) ?_
      refine sm_iconst (pc := 73) G hb (by decide +kernel : decode cX9_layWeight 73 = .ok (.iconst (-1), 1)) (by decide) ?_
      refine sm_icmp_eq (pc := 74) (tgt := 84) G hb (by decide +kernel : decode cX9_layWeight 74 = .ok (.if_icmp .eq 10, 3)) (by decide) ?_ ?_
      · skip
        refine sm_mask ?_
        exact fX9_layWeight_s84 N G hb ho hy hR he hr hE K23 h23
      · skip
        refine sm_iload (pc := 77) G hb (by decide +kernel : decode cX9_layWeight 77 = .ok (.iload 7, 2)) ?_
        refine sm_iload (pc := 79) G hb (by decide +kernel : decode cX9_layWeight 79 = .ok (.iload 5, 2)) ?_
        refine sm_icmp_le (pc := 81) (tgt := 92) G hb (by decide +kernel : decode cX9_layWeight 81 = .ok (.if_icmp .le 11, 3)) (by decide) ?_ ?_
        · skip
          refine sm_mask ?_
          exact fX9_layWeight_s92 N G hb ho hy hR he hr hE K23 h23
        · skip
          refine sm_mask ?_
          exact fX9_layWeight_s84 N G hb ho hy hR he hr hE K23 h23
set_option maxRecDepth 100000 in
set_option maxHeartbeats 4000000 in
theorem fX9_layWeight_s0 {γ : gG} {cs ss : Nat} {ε : gE5} (N : Nat) (G : gOK γ) (hb : gcc γ = cX9_layWeight) (ho : gow γ = RX9) (hy : gly γ = gyM) (hR : grm γ = { frames := 1, cells := 0, slots := 0, locals := 23 }) (he : genv γ = ε) (hr : grt γ = none) (hE : gEnv ε) : gSm γ cs ss 0 (fX9_layWeight_k0 N) := by
  unfold fX9_layWeight_k0
  refine sm_aload_n (pc := 0) G hb (by decide +kernel : decode cX9_layWeight 0 = .ok (.aload_n 0, 1)) rfl ?_
  refine sm_iload_n (pc := 1) G hb (by decide +kernel : decode cX9_layWeight 1 = .ok (.iload_n 1, 1)) rfl ?_
  refine sm_iconst (pc := 2) G hb (by decide +kernel : decode cX9_layWeight 2 = .ok (.iconst 0, 1)) (by decide) ?_
  refine sm_mono (cav_sub gI_sub) (sm_callV (pc := 3) (N := 32) (T := TX9) (C := RX9) G hb ho hy he hE.1 3 [0, 1, 2, 3, 4, 5, 6, 7, 8, 9, 10, 11, 12, 13, 14, 15, 16, 17] (kX9_linkPart hE N) (gCo_of (by decide +kernel)) (by rw [hR]; exact ⟨by decide, by decide⟩) rfl rfl (by decide +kernel) gw7_143 gw7_145 gw0_74 gw1_11 gw7_146 (by decide +kernel : decode cX9_layWeight 3 = .ok (.invokevirtual 250, 3)) ?_)
  refine sm_istore_n (pc := 6) G hb (by decide +kernel : decode cX9_layWeight 6 = .ok (.istore_n 2, 1)) rfl ?_
  refine sm_aload_n (pc := 7) G hb (by decide +kernel : decode cX9_layWeight 7 = .ok (.aload_n 0, 1)) rfl ?_
  refine sm_iload_n (pc := 8) G hb (by decide +kernel : decode cX9_layWeight 8 = .ok (.iload_n 1, 1)) rfl ?_
  refine sm_iconst (pc := 9) G hb (by decide +kernel : decode cX9_layWeight 9 = .ok (.iconst 1, 1)) (by decide) ?_
  refine sm_mono (cav_sub gI_sub) (sm_callV (pc := 10) (N := 32) (T := TX9) (C := RX9) G hb ho hy he hE.1 3 [0, 1, 2, 3, 4, 5, 6, 7, 8, 9, 10, 11, 12, 13, 14, 15, 16, 17] (kX9_linkPart hE N) (gCo_of (by decide +kernel)) (by rw [hR]; exact ⟨by decide, by decide⟩) rfl rfl (by decide +kernel) gw7_143 gw7_145 gw0_74 gw1_11 gw7_146 (by decide +kernel : decode cX9_layWeight 10 = .ok (.invokevirtual 250, 3)) ?_)
  refine sm_istore_n (pc := 13) G hb (by decide +kernel : decode cX9_layWeight 13 = .ok (.istore_n 3, 1)) rfl ?_
  refine sm_iconst (pc := 14) G hb (by decide +kernel : decode cX9_layWeight 14 = .ok (.iconst (-1), 1)) (by decide) ?_
  refine sm_istore (pc := 15) G hb (by decide +kernel : decode cX9_layWeight 15 = .ok (.istore 4, 2)) ?_
  refine sm_iconst (pc := 17) G hb (by decide +kernel : decode cX9_layWeight 17 = .ok (.iconst 0, 1)) (by decide) ?_
  refine sm_istore (pc := 18) G hb (by decide +kernel : decode cX9_layWeight 18 = .ok (.istore 5, 2)) ?_
  refine sm_iconst (pc := 20) G hb (by decide +kernel : decode cX9_layWeight 20 = .ok (.iconst 0, 1)) (by decide) ?_
  refine sm_istore (pc := 21) G hb (by decide +kernel : decode cX9_layWeight 21 = .ok (.istore 6, 2)) ?_
  refine sm_mask ?_
  exact fX9_layWeight_s23 N G hb ho hy hR he hr hE
theorem kX9_layWeight {ε : gE5} (hE : gEnv ε) (N : Nat) : gCtr ε yX9_layWeight cX9_layWeight 8 none 1 23 gyM (fX9_layWeight N) :=
  gCtr_of hE.1 (by decide) (fun γ G hb ho hy hR he hr => fX9_layWeight_s0 N G hb ho hy hR he hr hE)

set_option maxRecDepth 100000 in
set_option maxHeartbeats 4000000 in
theorem fX9_layWeights_s6 {γ : gG} {cs ss : Nat} {ε : gE5} (N : Nat) (G : gOK γ) (hb : gcc γ = cX9_layWeights) (ho : gow γ = RX9) (hy : gly γ = gyM) (hR : grm γ = { frames := 3, cells := 0, slots := 0, locals := 70 }) (he : genv γ = ε) (hr : grt γ = none) (hE : gEnv ε) : gSm γ cs ss 6 (fX9_layWeights_k6 N) := by
  unfold fX9_layWeights_k6
  refine sm_lp (fun K6 h6 => ?_) N
  unfold fX9_layWeights_b6
  refine sm_iload_n (pc := 6) G hb (by decide +kernel : decode cX9_layWeights 6 = .ok (.iload_n 1, 1)) rfl ?_
  refine sm_aload_n (pc := 7) G hb (by decide +kernel : decode cX9_layWeights 7 = .ok (.aload_n 0, 1)) rfl ?_
  refine sm_get (pc := 8) (ci := 9) (j := 9) (N := 32) (T := TX9) G hb ho hy rfl (by decide) gin_9 gw6_5 (by decide +kernel : decode cX9_layWeights 8 = .ok (.getfield 16, 3)) ?_
  refine sm_iconst (pc := 11) G hb (by decide +kernel : decode cX9_layWeights 11 = .ok (.iconst 1, 1)) (by decide) ?_
  refine sm_iald (pc := 12) G hb hy (by decide +kernel : decode cX9_layWeights 12 = .ok (.iaload, 1)) ?_
  refine sm_icmp_ge (pc := 13) (tgt := 27) G hb (by decide +kernel : decode cX9_layWeights 13 = .ok (.if_icmp .ge 14, 3)) (by decide) ?_ ?_
  · skip
    exact sm_vret (pc := 27) G hb (by decide +kernel : decode cX9_layWeights 27 = .ok (.return_, 1)) hr
  · skip
    refine sm_aload_n (pc := 16) G hb (by decide +kernel : decode cX9_layWeights 16 = .ok (.aload_n 0, 1)) rfl ?_
    refine sm_iload_n (pc := 17) G hb (by decide +kernel : decode cX9_layWeights 17 = .ok (.iload_n 1, 1)) rfl ?_
    refine sm_mono (cav_sub gV_sub) (sm_callV (pc := 18) (N := 32) (T := TX9) (C := RX9) G hb ho hy he hE.1 2 [0, 1, 2, 3, 4, 5, 6, 7, 8, 9, 10, 11, 12, 13, 14, 15, 16, 17] (kX9_layWeight hE N) (gCo_of (by decide +kernel)) (by rw [hR]; exact ⟨by decide, by decide⟩) rfl rfl (by decide +kernel) gw7_147 gw7_149 gw0_75 gw1_11 gw7_150 (by decide +kernel : decode cX9_layWeights 18 = .ok (.invokevirtual 265, 3)) ?_)
    refine sm_iinc (pc := 21) G hb (by decide +kernel : decode cX9_layWeights 21 = .ok (.iinc 1 1, 3)) (by decide) ?_
    refine sm_goto (pc := 24) (tgt := 6) G hb (by decide +kernel : decode cX9_layWeights 24 = .ok (.goto (-18), 3)) (by decide) ?_
    refine sm_mask ?_
    exact h6
set_option maxRecDepth 100000 in
set_option maxHeartbeats 4000000 in
theorem fX9_layWeights_s0 {γ : gG} {cs ss : Nat} {ε : gE5} (N : Nat) (G : gOK γ) (hb : gcc γ = cX9_layWeights) (ho : gow γ = RX9) (hy : gly γ = gyM) (hR : grm γ = { frames := 3, cells := 0, slots := 0, locals := 70 }) (he : genv γ = ε) (hr : grt γ = none) (hE : gEnv ε) : gSm γ cs ss 0 (fX9_layWeights_k0 N) := by
  unfold fX9_layWeights_k0
  refine sm_aload_n (pc := 0) G hb (by decide +kernel : decode cX9_layWeights 0 = .ok (.aload_n 0, 1)) rfl ?_
  refine sm_mono (cav_sub gV_sub) (sm_callV (pc := 1) (N := 32) (T := TX9) (C := RX9) G hb ho hy he hE.1 1 [0, 1, 2, 3, 4, 5, 6, 7, 8, 9, 10, 11, 12, 13, 14, 15, 16, 17] (kX9_layPressures hE N) (gCo_of (by decide +kernel)) (by rw [hR]; exact ⟨by decide, by decide⟩) rfl rfl (by decide +kernel) gw7_135 gw7_137 gw0_72 gw1_11 gw7_138 (by decide +kernel : decode cX9_layWeights 1 = .ok (.invokevirtual 262, 3)) ?_)
  refine sm_iconst (pc := 4) G hb (by decide +kernel : decode cX9_layWeights 4 = .ok (.iconst 0, 1)) (by decide) ?_
  refine sm_istore_n (pc := 5) G hb (by decide +kernel : decode cX9_layWeights 5 = .ok (.istore_n 1, 1)) rfl ?_
  refine sm_mask ?_
  exact fX9_layWeights_s6 N G hb ho hy hR he hr hE
theorem kX9_layWeights {ε : gE5} (hE : gEnv ε) (N : Nat) : gCtr ε yX9_layWeights cX9_layWeights 2 none 3 70 gyM (fX9_layWeights N) :=
  gCtr_of hE.1 (by decide) (fun γ G hb ho hy hR he hr => fX9_layWeights_s0 N G hb ho hy hR he hr hE)

set_option maxRecDepth 100000 in
set_option maxHeartbeats 4000000 in
theorem fX9_greedy_s120 {γ : gG} {cs ss : Nat} {ε : gE5} (N : Nat) (G : gOK γ) (hb : gcc γ = cX9_greedy) (ho : gow γ = RX9) (hy : gly γ = gyM) (hR : grm γ = { frames := 1, cells := 0, slots := 0, locals := 21 }) (he : genv γ = ε) (hr : grt γ = (some .int)) (hE : gEnv ε) (K6 : gK) (h6 : gSm γ cs ss 6 K6) : gSm γ cs ss 120 (fX9_greedy_k120 N K6) := by
  unfold fX9_greedy_k120
  refine sm_iinc (pc := 120) G hb (by decide +kernel : decode cX9_greedy 120 = .ok (.iinc 3 1, 3)) (by decide) ?_
  refine sm_goto (pc := 123) (tgt := 6) G hb (by decide +kernel : decode cX9_greedy 123 = .ok (.goto (-117), 3)) (by decide) ?_
  refine sm_mask ?_
  exact h6
set_option maxRecDepth 100000 in
set_option maxHeartbeats 4000000 in
theorem fX9_greedy_s72 {γ : gG} {cs ss : Nat} {ε : gE5} (N : Nat) (G : gOK γ) (hb : gcc γ = cX9_greedy) (ho : gow γ = RX9) (hy : gly γ = gyM) (hR : grm γ = { frames := 1, cells := 0, slots := 0, locals := 21 }) (he : genv γ = ε) (hr : grt γ = (some .int)) (hE : gEnv ε) (K6 : gK) (h6 : gSm γ cs ss 6 K6) (K22 : gK) (h22 : gSm γ cs ss 22 K22) : gSm γ cs ss 72 (fX9_greedy_k72 N K6 K22) := by
  unfold fX9_greedy_k72
  refine sm_istore (pc := 72) G hb (by decide +kernel : decode cX9_greedy 72 = .ok (.istore 4, 2)) ?_
  refine sm_iinc (pc := 74) G hb (by decide +kernel : decode cX9_greedy 74 = .ok (.iinc 5 1, 3)) (by decide) ?_
  refine sm_goto (pc := 77) (tgt := 22) G hb (by decide +kernel : decode cX9_greedy 77 = .ok (.goto (-55), 3)) (by decide) ?_
  refine sm_mask ?_
  exact h22
set_option maxRecDepth 100000 in
set_option maxHeartbeats 4000000 in
theorem fX9_greedy_s70 {γ : gG} {cs ss : Nat} {ε : gE5} (N : Nat) (G : gOK γ) (hb : gcc γ = cX9_greedy) (ho : gow γ = RX9) (hy : gly γ = gyM) (hR : grm γ = { frames := 1, cells := 0, slots := 0, locals := 21 }) (he : genv γ = ε) (hr : grt γ = (some .int)) (hE : gEnv ε) (K6 : gK) (h6 : gSm γ cs ss 6 K6) (K22 : gK) (h22 : gSm γ cs ss 22 K22) : gSm γ cs ss 70 (fX9_greedy_k70 N K6 K22) := by
  unfold fX9_greedy_k70
  refine sm_iload (pc := 70) G hb (by decide +kernel : decode cX9_greedy 70 = .ok (.iload 4, 2)) ?_
  refine sm_mask ?_
  exact fX9_greedy_s72 N G hb ho hy hR he hr hE K6 h6 K22 h22
set_option maxRecDepth 100000 in
set_option maxHeartbeats 4000000 in
theorem fX9_greedy_s65 {γ : gG} {cs ss : Nat} {ε : gE5} (N : Nat) (G : gOK γ) (hb : gcc γ = cX9_greedy) (ho : gow γ = RX9) (hy : gly γ = gyM) (hR : grm γ = { frames := 1, cells := 0, slots := 0, locals := 21 }) (he : genv γ = ε) (hr : grt γ = (some .int)) (hE : gEnv ε) (K6 : gK) (h6 : gSm γ cs ss 6 K6) (K22 : gK) (h22 : gSm γ cs ss 22 K22) : gSm γ cs ss 65 (fX9_greedy_k65 N K6 K22) := by
  unfold fX9_greedy_k65
  refine sm_iload (pc := 65) G hb (by decide +kernel : decode cX9_greedy 65 = .ok (.iload 5, 2)) ?_
  refine sm_goto (pc := 67) (tgt := 72) G hb (by decide +kernel : decode cX9_greedy 67 = .ok (.goto 5, 3)) (by decide) ?_
  refine sm_mask ?_
  exact fX9_greedy_s72 N G hb ho hy hR he hr hE K6 h6 K22 h22
set_option maxRecDepth 100000 in
set_option maxHeartbeats 4000000 in
theorem fX9_greedy_s22 {γ : gG} {cs ss : Nat} {ε : gE5} (N : Nat) (G : gOK γ) (hb : gcc γ = cX9_greedy) (ho : gow γ = RX9) (hy : gly γ = gyM) (hR : grm γ = { frames := 1, cells := 0, slots := 0, locals := 21 }) (he : genv γ = ε) (hr : grt γ = (some .int)) (hE : gEnv ε) (K6 : gK) (h6 : gSm γ cs ss 6 K6) : gSm γ cs ss 22 (fX9_greedy_k22 N K6) := by
  unfold fX9_greedy_k22
  refine sm_lp (fun K22 h22 => ?_) N
  unfold fX9_greedy_b22
  refine sm_iload (pc := 22) G hb (by decide +kernel : decode cX9_greedy 22 = .ok (.iload 5, 2)) ?_
  refine sm_aload_n (pc := 24) G hb (by decide +kernel : decode cX9_greedy 24 = .ok (.aload_n 0, 1)) rfl ?_
  refine sm_get (pc := 25) (ci := 9) (j := 9) (N := 32) (T := TX9) G hb ho hy rfl (by decide) gin_9 gw6_5 (by decide +kernel : decode cX9_greedy 25 = .ok (.getfield 16, 3)) ?_
  refine sm_iconst (pc := 28) G hb (by decide +kernel : decode cX9_greedy 28 = .ok (.iconst 1, 1)) (by decide) ?_
  refine sm_iald (pc := 29) G hb hy (by decide +kernel : decode cX9_greedy 29 = .ok (.iaload, 1)) ?_
  refine sm_icmp_ge (pc := 30) (tgt := 80) G hb (by decide +kernel : decode cX9_greedy 30 = .ok (.if_icmp .ge 50, 3)) (by decide) ?_ ?_
  · skip
    refine sm_iload_n (pc := 80) G hb (by decide +kernel : decode cX9_greedy 80 = .ok (.iload_n 2, 1)) rfl ?_
    refine sm_iconst (pc := 81) G hb (by decide +kernel : decode cX9_greedy 81 = .ok (.iconst 1, 1)) (by decide) ?_
    refine sm_iload (pc := 82) G hb (by decide +kernel : decode cX9_greedy 82 = .ok (.iload 4, 2)) ?_
    refine sm_ishl (pc := 84) G hb (by decide +kernel : decode cX9_greedy 84 = .ok (.ishl, 1)) ?_
    refine sm_ior (pc := 85) G hb (by decide +kernel : decode cX9_greedy 85 = .ok (.ior, 1)) ?_
    refine sm_istore_n (pc := 86) G hb (by decide +kernel : decode cX9_greedy 86 = .ok (.istore_n 2, 1)) rfl ?_
    refine sm_aload_n (pc := 87) G hb (by decide +kernel : decode cX9_greedy 87 = .ok (.aload_n 0, 1)) rfl ?_
    refine sm_get (pc := 88) (ci := 9) (j := 22) (N := 32) (T := TX9) G hb ho hy rfl (by decide) gin_9 gw6_18 (by decide +kernel : decode cX9_greedy 88 = .ok (.getfield 44, 3)) ?_
    refine sm_iload (pc := 91) G hb (by decide +kernel : decode cX9_greedy 91 = .ok (.iload 4, 2)) ?_
    refine sm_iald (pc := 93) G hb hy (by decide +kernel : decode cX9_greedy 93 = .ok (.iaload, 1)) ?_
    refine sm_if_le (pc := 94) (tgt := 120) G hb (by decide +kernel : decode cX9_greedy 94 = .ok (.ifCond .le 26, 3)) (by decide) ?_ ?_
    · skip
      refine sm_mask ?_
      exact fX9_greedy_s120 N G hb ho hy hR he hr hE K6 h6
    · skip
      refine sm_aload_n (pc := 97) G hb (by decide +kernel : decode cX9_greedy 97 = .ok (.aload_n 0, 1)) rfl ?_
      refine sm_get (pc := 98) (ci := 9) (j := 9) (N := 32) (T := TX9) G hb ho hy rfl (by decide) gin_9 gw6_5 (by decide +kernel : decode cX9_greedy 98 = .ok (.getfield 16, 3)) ?_
      refine sm_sipush (pc := 101) G hb (by decide +kernel : decode cX9_greedy 101 = .ok (.sipush 131, 3)) (by decide) ?_
      refine sm_iload (pc := 104) G hb (by decide +kernel : decode cX9_greedy 104 = .ok (.iload 4, 2)) ?_
      refine sm_iadd (pc := 106) G hb (by decide +kernel : decode cX9_greedy 106 = .ok (.iadd, 1)) ?_
      refine sm_iald (pc := 107) G hb hy (by decide +kernel : decode cX9_greedy 107 = .ok (.iaload, 1)) ?_
      refine sm_iload_n (pc := 108) G hb (by decide +kernel : decode cX9_greedy 108 = .ok (.iload_n 1, 1)) rfl ?_
      refine sm_iand (pc := 109) G hb (by decide +kernel : decode cX9_greedy 109 = .ok (.iand, 1)) ?_
      refine sm_if_ne (pc := 110) (tgt := 120) G hb (by decide +kernel : decode cX9_greedy 110 = .ok (.ifCond .ne 10, 3)) (by decide) ?_ ?_
      · skip
        refine sm_mask ?_
        exact fX9_greedy_s120 N G hb ho hy hR he hr hE K6 h6
      · skip
        refine sm_iload_n (pc := 113) G hb (by decide +kernel : decode cX9_greedy 113 = .ok (.iload_n 1, 1)) rfl ?_
        refine sm_iconst (pc := 114) G hb (by decide +kernel : decode cX9_greedy 114 = .ok (.iconst 1, 1)) (by decide) ?_
        refine sm_iload (pc := 115) G hb (by decide +kernel : decode cX9_greedy 115 = .ok (.iload 4, 2)) ?_
        refine sm_ishl (pc := 117) G hb (by decide +kernel : decode cX9_greedy 117 = .ok (.ishl, 1)) ?_
        refine sm_ior (pc := 118) G hb (by decide +kernel : decode cX9_greedy 118 = .ok (.ior, 1)) ?_
        refine sm_istore_n (pc := 119) G hb (by decide +kernel : decode cX9_greedy 119 = .ok (.istore_n 1, 1)) rfl ?_
        refine sm_mask ?_
        exact fX9_greedy_s120 N G hb ho hy hR he hr hE K6 h6
  · skip
    refine sm_iload_n (pc := 33) G hb (by decide +kernel : decode cX9_greedy 33 = .ok (.iload_n 2, 1)) rfl ?_
    refine sm_iload (pc := 34) G hb (by decide +kernel : decode cX9_greedy 34 = .ok (.iload 5, 2)) ?_
    refine sm_mono (ca_sub gI_sub) (sm_callS (pc := 36) G hb ho hy he hE.1 2 [] (kX9_has hE N) (gCo_of (by decide +kernel)) (by rw [hR]; exact ⟨by decide, by decide⟩) (by decide +kernel) gw6_187 gw6_188 gw1_11 gw6_189 (by decide +kernel : decode cX9_greedy 36 = .ok (.invokestatic 170, 3)) ?_)
    refine sm_if_ne (pc := 39) (tgt := 70) G hb (by decide +kernel : decode cX9_greedy 39 = .ok (.ifCond .ne 31, 3)) (by decide) ?_ ?_
    · skip
      refine sm_mask ?_
      exact fX9_greedy_s70 N G hb ho hy hR he hr hE K6 h6 K22 h22
    · skip
      refine sm_iload (pc := 42) G hb (by decide +kernel : decode cX9_greedy 42 = .ok (.iload 4, 2)) ?_
      refine sm_iconst (pc := 44) G hb (by decide +kernel : decode cX9_greedy 44 = .ok (.iconst (-1), 1)) (by decide) ?_
      refine sm_icmp_eq (pc := 45) (tgt := 65) G hb (by decide +kernel : decode cX9_greedy 45 = .ok (.if_icmp .eq 20, 3)) (by decide) ?_ ?_
      · skip
        refine sm_mask ?_
        exact fX9_greedy_s65 N G hb ho hy hR he hr hE K6 h6 K22 h22
      · skip
        refine sm_aload_n (pc := 48) G hb (by decide +kernel : decode cX9_greedy 48 = .ok (.aload_n 0, 1)) rfl ?_
        refine sm_get (pc := 49) (ci := 9) (j := 22) (N := 32) (T := TX9) G hb ho hy rfl (by decide) gin_9 gw6_18 (by decide +kernel : decode cX9_greedy 49 = .ok (.getfield 44, 3)) ?_
        refine sm_iload (pc := 52) G hb (by decide +kernel : decode cX9_greedy 52 = .ok (.iload 5, 2)) ?_
        refine sm_iald (pc := 54) G hb hy (by decide +kernel : decode cX9_greedy 54 = .ok (.iaload, 1)) ?_
        refine sm_aload_n (pc := 55) G hb (by decide +kernel : decode cX9_greedy 55 = .ok (.aload_n 0, 1)) rfl ?_
        refine sm_get (pc := 56) (ci := 9) (j := 22) (N := 32) (T := TX9) G hb ho hy rfl (by decide) gin_9 gw6_18 (by decide +kernel : decode cX9_greedy 56 = .ok (.getfield 44, 3)) ?_
        refine sm_iload (pc := 59) G hb (by decide +kernel : decode cX9_greedy 59 = .ok (.iload 4, 2)) ?_
        refine sm_iald (pc := 61) G hb hy (by decide +kernel : decode cX9_greedy 61 = .ok (.iaload, 1)) ?_
        refine sm_icmp_le (pc := 62) (tgt := 70) G hb (by decide +kernel : decode cX9_greedy 62 = .ok (.if_icmp .le 8, 3)) (by decide) ?_ ?_
        · skip
          refine sm_mask ?_
          exact fX9_greedy_s70 N G hb ho hy hR he hr hE K6 h6 K22 h22
        · skip
          refine sm_mask ?_
          exact fX9_greedy_s65 N G hb ho hy hR he hr hE K6 h6 K22 h22
set_option maxRecDepth 100000 in
set_option maxHeartbeats 4000000 in
theorem fX9_greedy_s6 {γ : gG} {cs ss : Nat} {ε : gE5} (N : Nat) (G : gOK γ) (hb : gcc γ = cX9_greedy) (ho : gow γ = RX9) (hy : gly γ = gyM) (hR : grm γ = { frames := 1, cells := 0, slots := 0, locals := 21 }) (he : genv γ = ε) (hr : grt γ = (some .int)) (hE : gEnv ε) : gSm γ cs ss 6 (fX9_greedy_k6 N) := by
  unfold fX9_greedy_k6
  refine sm_lp (fun K6 h6 => ?_) N
  unfold fX9_greedy_b6
  refine sm_iload_n (pc := 6) G hb (by decide +kernel : decode cX9_greedy 6 = .ok (.iload_n 3, 1)) rfl ?_
  refine sm_aload_n (pc := 7) G hb (by decide +kernel : decode cX9_greedy 7 = .ok (.aload_n 0, 1)) rfl ?_
  refine sm_get (pc := 8) (ci := 9) (j := 9) (N := 32) (T := TX9) G hb ho hy rfl (by decide) gin_9 gw6_5 (by decide +kernel : decode cX9_greedy 8 = .ok (.getfield 16, 3)) ?_
  refine sm_iconst (pc := 11) G hb (by decide +kernel : decode cX9_greedy 11 = .ok (.iconst 1, 1)) (by decide) ?_
  refine sm_iald (pc := 12) G hb hy (by decide +kernel : decode cX9_greedy 12 = .ok (.iaload, 1)) ?_
  refine sm_icmp_ge (pc := 13) (tgt := 126) G hb (by decide +kernel : decode cX9_greedy 13 = .ok (.if_icmp .ge 113, 3)) (by decide) ?_ ?_
  · skip
    refine sm_iload_n (pc := 126) G hb (by decide +kernel : decode cX9_greedy 126 = .ok (.iload_n 1, 1)) rfl ?_
    exact sm_iret (pc := 127) G hb (by decide +kernel : decode cX9_greedy 127 = .ok (.ireturn, 1)) hr
  · skip
    refine sm_iconst (pc := 16) G hb (by decide +kernel : decode cX9_greedy 16 = .ok (.iconst (-1), 1)) (by decide) ?_
    refine sm_istore (pc := 17) G hb (by decide +kernel : decode cX9_greedy 17 = .ok (.istore 4, 2)) ?_
    refine sm_iconst (pc := 19) G hb (by decide +kernel : decode cX9_greedy 19 = .ok (.iconst 0, 1)) (by decide) ?_
    refine sm_istore (pc := 20) G hb (by decide +kernel : decode cX9_greedy 20 = .ok (.istore 5, 2)) ?_
    refine sm_mask ?_
    exact fX9_greedy_s22 N G hb ho hy hR he hr hE K6 h6
set_option maxRecDepth 100000 in
set_option maxHeartbeats 4000000 in
theorem fX9_greedy_s0 {γ : gG} {cs ss : Nat} {ε : gE5} (N : Nat) (G : gOK γ) (hb : gcc γ = cX9_greedy) (ho : gow γ = RX9) (hy : gly γ = gyM) (hR : grm γ = { frames := 1, cells := 0, slots := 0, locals := 21 }) (he : genv γ = ε) (hr : grt γ = (some .int)) (hE : gEnv ε) : gSm γ cs ss 0 (fX9_greedy_k0 N) := by
  unfold fX9_greedy_k0
  refine sm_iconst (pc := 0) G hb (by decide +kernel : decode cX9_greedy 0 = .ok (.iconst 0, 1)) (by decide) ?_
  refine sm_istore_n (pc := 1) G hb (by decide +kernel : decode cX9_greedy 1 = .ok (.istore_n 1, 1)) rfl ?_
  refine sm_iconst (pc := 2) G hb (by decide +kernel : decode cX9_greedy 2 = .ok (.iconst 0, 1)) (by decide) ?_
  refine sm_istore_n (pc := 3) G hb (by decide +kernel : decode cX9_greedy 3 = .ok (.istore_n 2, 1)) rfl ?_
  refine sm_iconst (pc := 4) G hb (by decide +kernel : decode cX9_greedy 4 = .ok (.iconst 0, 1)) (by decide) ?_
  refine sm_istore_n (pc := 5) G hb (by decide +kernel : decode cX9_greedy 5 = .ok (.istore_n 3, 1)) rfl ?_
  refine sm_mask ?_
  exact fX9_greedy_s6 N G hb ho hy hR he hr hE
theorem kX9_greedy {ε : gE5} (hE : gEnv ε) (N : Nat) : gCtr ε yX9_greedy cX9_greedy 6 (some .int) 1 21 gyM (fX9_greedy N) :=
  gCtr_of hE.1 (by decide) (fun γ G hb ho hy hR he hr => fX9_greedy_s0 N G hb ho hy hR he hr hE)

set_option maxRecDepth 100000 in
set_option maxHeartbeats 4000000 in
theorem fX9_hasRival_s46 {γ : gG} {cs ss : Nat} {ε : gE5} (N : Nat) (G : gOK γ) (hb : gcc γ = cX9_hasRival) (ho : gow γ = RX9) (hy : gly γ = gyM) (hR : grm γ = { frames := 1, cells := 0, slots := 0, locals := 21 }) (he : genv γ = ε) (hr : grt γ = (some .boolean)) (hE : gEnv ε) (K4 : gK) (h4 : gSm γ cs ss 4 K4) : gSm γ cs ss 46 (fX9_hasRival_k46 N K4) := by
  unfold fX9_hasRival_k46
  refine sm_ior (pc := 46) G hb (by decide +kernel : decode cX9_hasRival 46 = .ok (.ior, 1)) ?_
  refine sm_istore_n (pc := 47) G hb (by decide +kernel : decode cX9_hasRival 47 = .ok (.istore_n 2, 1)) rfl ?_
  refine sm_iinc (pc := 48) G hb (by decide +kernel : decode cX9_hasRival 48 = .ok (.iinc 3 1, 3)) (by decide) ?_
  refine sm_goto (pc := 51) (tgt := 4) G hb (by decide +kernel : decode cX9_hasRival 51 = .ok (.goto (-47), 3)) (by decide) ?_
  refine sm_mask ?_
  exact h4
set_option maxRecDepth 100000 in
set_option maxHeartbeats 4000000 in
theorem fX9_hasRival_s45 {γ : gG} {cs ss : Nat} {ε : gE5} (N : Nat) (G : gOK γ) (hb : gcc γ = cX9_hasRival) (ho : gow γ = RX9) (hy : gly γ = gyM) (hR : grm γ = { frames := 1, cells := 0, slots := 0, locals := 21 }) (he : genv γ = ε) (hr : grt γ = (some .boolean)) (hE : gEnv ε) (K4 : gK) (h4 : gSm γ cs ss 4 K4) : gSm γ cs ss 45 (fX9_hasRival_k45 N K4) := by
  unfold fX9_hasRival_k45
  refine sm_iconst (pc := 45) G hb (by decide +kernel : decode cX9_hasRival 45 = .ok (.iconst 0, 1)) (by decide) ?_
  refine sm_mask ?_
  exact fX9_hasRival_s46 N G hb ho hy hR he hr hE K4 h4
set_option maxRecDepth 100000 in
set_option maxHeartbeats 4000000 in
theorem fX9_hasRival_s4 {γ : gG} {cs ss : Nat} {ε : gE5} (N : Nat) (G : gOK γ) (hb : gcc γ = cX9_hasRival) (ho : gow γ = RX9) (hy : gly γ = gyM) (hR : grm γ = { frames := 1, cells := 0, slots := 0, locals := 21 }) (he : genv γ = ε) (hr : grt γ = (some .boolean)) (hE : gEnv ε) : gSm γ cs ss 4 (fX9_hasRival_k4 N) := by
  unfold fX9_hasRival_k4
  refine sm_lp (fun K4 h4 => ?_) N
  unfold fX9_hasRival_b4
  refine sm_iload_n (pc := 4) G hb (by decide +kernel : decode cX9_hasRival 4 = .ok (.iload_n 3, 1)) rfl ?_
  refine sm_aload_n (pc := 5) G hb (by decide +kernel : decode cX9_hasRival 5 = .ok (.aload_n 0, 1)) rfl ?_
  refine sm_get (pc := 6) (ci := 9) (j := 9) (N := 32) (T := TX9) G hb ho hy rfl (by decide) gin_9 gw6_5 (by decide +kernel : decode cX9_hasRival 6 = .ok (.getfield 16, 3)) ?_
  refine sm_iconst (pc := 9) G hb (by decide +kernel : decode cX9_hasRival 9 = .ok (.iconst 1, 1)) (by decide) ?_
  refine sm_iald (pc := 10) G hb hy (by decide +kernel : decode cX9_hasRival 10 = .ok (.iaload, 1)) ?_
  refine sm_icmp_ge (pc := 11) (tgt := 54) G hb (by decide +kernel : decode cX9_hasRival 11 = .ok (.if_icmp .ge 43, 3)) (by decide) ?_ ?_
  · skip
    refine sm_iload_n (pc := 54) G hb (by decide +kernel : decode cX9_hasRival 54 = .ok (.iload_n 2, 1)) rfl ?_
    exact sm_zret (pc := 55) G hb (by decide +kernel : decode cX9_hasRival 55 = .ok (.ireturn, 1)) hr
  · skip
    refine sm_iload_n (pc := 14) G hb (by decide +kernel : decode cX9_hasRival 14 = .ok (.iload_n 2, 1)) rfl ?_
    refine sm_aload_n (pc := 15) G hb (by decide +kernel : decode cX9_hasRival 15 = .ok (.aload_n 0, 1)) rfl ?_
    refine sm_get (pc := 16) (ci := 9) (j := 9) (N := 32) (T := TX9) G hb ho hy rfl (by decide) gin_9 gw6_5 (by decide +kernel : decode cX9_hasRival 16 = .ok (.getfield 16, 3)) ?_
    refine sm_sipush (pc := 19) G hb (by decide +kernel : decode cX9_hasRival 19 = .ok (.sipush 131, 3)) (by decide) ?_
    refine sm_iload_n (pc := 22) G hb (by decide +kernel : decode cX9_hasRival 22 = .ok (.iload_n 1, 1)) rfl ?_
    refine sm_iadd (pc := 23) G hb (by decide +kernel : decode cX9_hasRival 23 = .ok (.iadd, 1)) ?_
    refine sm_iald (pc := 24) G hb hy (by decide +kernel : decode cX9_hasRival 24 = .ok (.iaload, 1)) ?_
    refine sm_iload_n (pc := 25) G hb (by decide +kernel : decode cX9_hasRival 25 = .ok (.iload_n 3, 1)) rfl ?_
    refine sm_mono (ca_sub gI_sub) (sm_callS (pc := 26) G hb ho hy he hE.1 2 [] (kX9_has hE N) (gCo_of (by decide +kernel)) (by rw [hR]; exact ⟨by decide, by decide⟩) (by decide +kernel) gw6_187 gw6_188 gw1_11 gw6_189 (by decide +kernel : decode cX9_hasRival 26 = .ok (.invokestatic 170, 3)) ?_)
    refine sm_if_eq (pc := 29) (tgt := 45) G hb (by decide +kernel : decode cX9_hasRival 29 = .ok (.ifCond .eq 16, 3)) (by decide) ?_ ?_
    · skip
      refine sm_mask ?_
      exact fX9_hasRival_s45 N G hb ho hy hR he hr hE K4 h4
    · skip
      refine sm_aload_n (pc := 32) G hb (by decide +kernel : decode cX9_hasRival 32 = .ok (.aload_n 0, 1)) rfl ?_
      refine sm_get (pc := 33) (ci := 9) (j := 22) (N := 32) (T := TX9) G hb ho hy rfl (by decide) gin_9 gw6_18 (by decide +kernel : decode cX9_hasRival 33 = .ok (.getfield 44, 3)) ?_
      refine sm_iload_n (pc := 36) G hb (by decide +kernel : decode cX9_hasRival 36 = .ok (.iload_n 3, 1)) rfl ?_
      refine sm_iald (pc := 37) G hb hy (by decide +kernel : decode cX9_hasRival 37 = .ok (.iaload, 1)) ?_
      refine sm_if_le (pc := 38) (tgt := 45) G hb (by decide +kernel : decode cX9_hasRival 38 = .ok (.ifCond .le 7, 3)) (by decide) ?_ ?_
      · skip
        refine sm_mask ?_
        exact fX9_hasRival_s45 N G hb ho hy hR he hr hE K4 h4
      · skip
        refine sm_iconst (pc := 41) G hb (by decide +kernel : decode cX9_hasRival 41 = .ok (.iconst 1, 1)) (by decide) ?_
        refine sm_goto (pc := 42) (tgt := 46) G hb (by decide +kernel : decode cX9_hasRival 42 = .ok (.goto 4, 3)) (by decide) ?_
        refine sm_mask ?_
        exact fX9_hasRival_s46 N G hb ho hy hR he hr hE K4 h4
set_option maxRecDepth 100000 in
set_option maxHeartbeats 4000000 in
theorem fX9_hasRival_s0 {γ : gG} {cs ss : Nat} {ε : gE5} (N : Nat) (G : gOK γ) (hb : gcc γ = cX9_hasRival) (ho : gow γ = RX9) (hy : gly γ = gyM) (hR : grm γ = { frames := 1, cells := 0, slots := 0, locals := 21 }) (he : genv γ = ε) (hr : grt γ = (some .boolean)) (hE : gEnv ε) : gSm γ cs ss 0 (fX9_hasRival_k0 N) := by
  unfold fX9_hasRival_k0
  refine sm_iconst (pc := 0) G hb (by decide +kernel : decode cX9_hasRival 0 = .ok (.iconst 0, 1)) (by decide) ?_
  refine sm_istore_n (pc := 1) G hb (by decide +kernel : decode cX9_hasRival 1 = .ok (.istore_n 2, 1)) rfl ?_
  refine sm_iconst (pc := 2) G hb (by decide +kernel : decode cX9_hasRival 2 = .ok (.iconst 0, 1)) (by decide) ?_
  refine sm_istore_n (pc := 3) G hb (by decide +kernel : decode cX9_hasRival 3 = .ok (.istore_n 3, 1)) rfl ?_
  refine sm_mask ?_
  exact fX9_hasRival_s4 N G hb ho hy hR he hr hE
theorem kX9_hasRival {ε : gE5} (hE : gEnv ε) (N : Nat) : gCtr ε yX9_hasRival cX9_hasRival 4 (some .boolean) 1 21 gyM (fX9_hasRival N) :=
  gCtr_of hE.1 (by decide) (fun γ G hb ho hy hR he hr => fX9_hasRival_s0 N G hb ho hy hR he hr hE)

set_option maxRecDepth 100000 in
set_option maxHeartbeats 4000000 in
theorem fX9_grown_s0 {γ : gG} {cs ss : Nat} {ε : gE5} (N : Nat) (G : gOK γ) (hb : gcc γ = cX9_grown) (ho : gow γ = RX9) (hy : gly γ = gy0) (hR : grm γ = { frames := 0, cells := 0, slots := 0, locals := 0 }) (he : genv γ = ε) (hr : grt γ = (some .int)) (hE : gEnv ε) : gSm γ cs ss 0 (fX9_grown_k0 N) := by
  unfold fX9_grown_k0
  refine sm_iload_n (pc := 0) G hb (by decide +kernel : decode cX9_grown 0 = .ok (.iload_n 0, 1)) rfl ?_
  refine sm_iconst (pc := 1) G hb (by decide +kernel : decode cX9_grown 1 = .ok (.iconst 1, 1)) (by decide) ?_
  refine sm_iadd (pc := 2) G hb (by decide +kernel : decode cX9_grown 2 = .ok (.iadd, 1)) ?_
  refine sm_iload_n (pc := 3) G hb (by decide +kernel : decode cX9_grown 3 = .ok (.iload_n 1, 1)) rfl ?_
  refine sm_imul (pc := 4) G hb (by decide +kernel : decode cX9_grown 4 = .ok (.imul, 1)) ?_
  refine sm_iload_n (pc := 5) G hb (by decide +kernel : decode cX9_grown 5 = .ok (.iload_n 2, 1)) rfl ?_
  refine sm_idiv (pc := 6) G hb (by decide +kernel : decode cX9_grown 6 = .ok (.idiv, 1)) ?_
  refine sm_iload_n (pc := 7) G hb (by decide +kernel : decode cX9_grown 7 = .ok (.iload_n 0, 1)) rfl ?_
  refine sm_iload_n (pc := 8) G hb (by decide +kernel : decode cX9_grown 8 = .ok (.iload_n 1, 1)) rfl ?_
  refine sm_imul (pc := 9) G hb (by decide +kernel : decode cX9_grown 9 = .ok (.imul, 1)) ?_
  refine sm_iload_n (pc := 10) G hb (by decide +kernel : decode cX9_grown 10 = .ok (.iload_n 2, 1)) rfl ?_
  refine sm_idiv (pc := 11) G hb (by decide +kernel : decode cX9_grown 11 = .ok (.idiv, 1)) ?_
  refine sm_isub (pc := 12) G hb (by decide +kernel : decode cX9_grown 12 = .ok (.isub, 1)) ?_
  exact sm_iret (pc := 13) G hb (by decide +kernel : decode cX9_grown 13 = .ok (.ireturn, 1)) hr
theorem kX9_grown {ε : gE5} (hE : gEnv ε) (N : Nat) : gCtr ε yX9_grown cX9_grown 3 (some .int) 0 0 gy0 (fX9_grown N) :=
  gCtr_of hE.1 (by decide) (fun γ G hb ho hy hR he hr => fX9_grown_s0 N G hb ho hy hR he hr hE)

set_option maxRecDepth 100000 in
set_option maxHeartbeats 4000000 in
theorem fX9_arrive_s72 {γ : gG} {cs ss : Nat} {ε : gE5} (N : Nat) (G : gOK γ) (hb : gcc γ = cX9_arrive) (ho : gow γ = RX9) (hy : gly γ = gyM) (hR : grm γ = { frames := 1, cells := 0, slots := 0, locals := 26 }) (he : genv γ = ε) (hr : grt γ = (some .int)) (hE : gEnv ε) (K5 : gK) (h5 : gSm γ cs ss 5 K5) : gSm γ cs ss 72 (fX9_arrive_k72 N K5) := by
  unfold fX9_arrive_k72
  refine sm_iinc (pc := 72) G hb (by decide +kernel : decode cX9_arrive 72 = .ok (.iinc 4 1, 3)) (by decide) ?_
  refine sm_goto (pc := 75) (tgt := 5) G hb (by decide +kernel : decode cX9_arrive 75 = .ok (.goto (-70), 3)) (by decide) ?_
  refine sm_mask ?_
  exact h5
set_option maxRecDepth 100000 in
set_option maxHeartbeats 4000000 in
theorem fX9_arrive_s59 {γ : gG} {cs ss : Nat} {ε : gE5} (N : Nat) (G : gOK γ) (hb : gcc γ = cX9_arrive) (ho : gow γ = RX9) (hy : gly γ = gyM) (hR : grm γ = { frames := 1, cells := 0, slots := 0, locals := 26 }) (he : genv γ = ε) (hr : grt γ = (some .int)) (hE : gEnv ε) (K5 : gK) (h5 : gSm γ cs ss 5 K5) : gSm γ cs ss 59 (fX9_arrive_k59 N K5) := by
  unfold fX9_arrive_k59
  refine sm_ishl (pc := 59) G hb (by decide +kernel : decode cX9_arrive 59 = .ok (.ishl, 1)) ?_
  refine sm_aload_n (pc := 60) G hb (by decide +kernel : decode cX9_arrive 60 = .ok (.aload_n 0, 1)) rfl ?_
  refine sm_iload_n (pc := 61) G hb (by decide +kernel : decode cX9_arrive 61 = .ok (.iload_n 1, 1)) rfl ?_
  refine sm_iconst (pc := 62) G hb (by decide +kernel : decode cX9_arrive 62 = .ok (.iconst 0, 1)) (by decide) ?_
  refine sm_mono (cav_sub gI_sub) (sm_callV (pc := 63) (N := 32) (T := TX9) (C := RX9) G hb ho hy he hE.1 3 [0, 1, 2, 3, 4, 5, 6, 7, 8, 9, 10, 11, 12, 13, 14, 15, 16, 17] (kX9_flowPart hE N) (gCo_of (by decide +kernel)) (by rw [hR]; exact ⟨by decide, by decide⟩) rfl rfl (by decide +kernel) gw7_64 gw7_66 gw0_59 gw1_11 gw7_67 (by decide +kernel : decode cX9_arrive 63 = .ok (.invokevirtual 240, 3)) ?_)
  refine sm_mono (cav_sub gV_sub) (sm_callV (pc := 66) (N := 32) (T := TX9) (C := RX9) G hb ho hy he hE.1 6 [0, 1, 2, 3, 4, 5, 6, 7, 8, 9, 10, 11, 12, 13, 14, 15, 16, 17] (kX9_come hE N) (gCo_of (by decide +kernel)) (by rw [hR]; exact ⟨by decide, by decide⟩) rfl rfl (by decide +kernel) gw7_68 gw7_70 gw0_60 gw1_11 gw7_71 (by decide +kernel : decode cX9_arrive 66 = .ok (.invokevirtual 293, 3)) ?_)
  refine sm_iinc (pc := 69) G hb (by decide +kernel : decode cX9_arrive 69 = .ok (.iinc 3 1, 3)) (by decide) ?_
  refine sm_mask ?_
  exact fX9_arrive_s72 N G hb ho hy hR he hr hE K5 h5
set_option maxRecDepth 100000 in
set_option maxHeartbeats 4000000 in
theorem fX9_arrive_s5 {γ : gG} {cs ss : Nat} {ε : gE5} (N : Nat) (G : gOK γ) (hb : gcc γ = cX9_arrive) (ho : gow γ = RX9) (hy : gly γ = gyM) (hR : grm γ = { frames := 1, cells := 0, slots := 0, locals := 26 }) (he : genv γ = ε) (hr : grt γ = (some .int)) (hE : gEnv ε) : gSm γ cs ss 5 (fX9_arrive_k5 N) := by
  unfold fX9_arrive_k5
  refine sm_lp (fun K5 h5 => ?_) N
  unfold fX9_arrive_b5
  refine sm_iload (pc := 5) G hb (by decide +kernel : decode cX9_arrive 5 = .ok (.iload 4, 2)) ?_
  refine sm_iload_n (pc := 7) G hb (by decide +kernel : decode cX9_arrive 7 = .ok (.iload_n 2, 1)) rfl ?_
  refine sm_icmp_ge (pc := 8) (tgt := 78) G hb (by decide +kernel : decode cX9_arrive 8 = .ok (.if_icmp .ge 70, 3)) (by decide) ?_ ?_
  · skip
    refine sm_iload_n (pc := 78) G hb (by decide +kernel : decode cX9_arrive 78 = .ok (.iload_n 3, 1)) rfl ?_
    exact sm_iret (pc := 79) G hb (by decide +kernel : decode cX9_arrive 79 = .ok (.ireturn, 1)) hr
  · skip
    refine sm_aload_n (pc := 11) G hb (by decide +kernel : decode cX9_arrive 11 = .ok (.aload_n 0, 1)) rfl ?_
    refine sm_iload_n (pc := 12) G hb (by decide +kernel : decode cX9_arrive 12 = .ok (.iload_n 1, 1)) rfl ?_
    refine sm_iconst (pc := 13) G hb (by decide +kernel : decode cX9_arrive 13 = .ok (.iconst 4, 1)) (by decide) ?_
    refine sm_iconst (pc := 14) G hb (by decide +kernel : decode cX9_arrive 14 = .ok (.iconst 1, 1)) (by decide) ?_
    refine sm_mono (cav_sub gV_sub) (sm_callV (pc := 15) (N := 32) (T := TX9) (C := RX9) G hb ho hy he hE.1 4 [0, 1, 2, 3, 4, 5, 6, 7, 8, 9, 10, 11, 12, 13, 14, 15, 16, 17] (kX9_count hE N) (gCo_of (by decide +kernel)) (by rw [hR]; exact ⟨by decide, by decide⟩) rfl rfl (by decide +kernel) gw7_60 gw7_62 gw0_58 gw1_11 gw7_63 (by decide +kernel : decode cX9_arrive 15 = .ok (.invokevirtual 289, 3)) ?_)
    refine sm_aload_n (pc := 18) G hb (by decide +kernel : decode cX9_arrive 18 = .ok (.aload_n 0, 1)) rfl ?_
    refine sm_get (pc := 19) (ci := 9) (j := 9) (N := 32) (T := TX9) G hb ho hy rfl (by decide) gin_9 gw6_5 (by decide +kernel : decode cX9_arrive 19 = .ok (.getfield 16, 3)) ?_
    refine sm_sipush (pc := 22) G hb (by decide +kernel : decode cX9_arrive 22 = .ok (.sipush 245, 3)) (by decide) ?_
    refine sm_iald (pc := 25) G hb hy (by decide +kernel : decode cX9_arrive 25 = .ok (.iaload, 1)) ?_
    refine sm_sipush (pc := 26) G hb (by decide +kernel : decode cX9_arrive 26 = .ok (.sipush 500, 3)) (by decide) ?_
    refine sm_icmp_ne (pc := 29) (tgt := 42) G hb (by decide +kernel : decode cX9_arrive 29 = .ok (.if_icmp .ne 13, 3)) (by decide) ?_ ?_
    · skip
      refine sm_aload_n (pc := 42) G hb (by decide +kernel : decode cX9_arrive 42 = .ok (.aload_n 0, 1)) rfl ?_
      refine sm_iload_n (pc := 43) G hb (by decide +kernel : decode cX9_arrive 43 = .ok (.iload_n 1, 1)) rfl ?_
      refine sm_aload_n (pc := 44) G hb (by decide +kernel : decode cX9_arrive 44 = .ok (.aload_n 0, 1)) rfl ?_
      refine sm_get (pc := 45) (ci := 9) (j := 9) (N := 32) (T := TX9) G hb ho hy rfl (by decide) gin_9 gw6_5 (by decide +kernel : decode cX9_arrive 45 = .ok (.getfield 16, 3)) ?_
      refine sm_bipush (pc := 48) G hb (by decide +kernel : decode cX9_arrive 48 = .ok (.bipush 7, 2)) (by decide) ?_
      refine sm_iald (pc := 50) G hb hy (by decide +kernel : decode cX9_arrive 50 = .ok (.iaload, 1)) ?_
      refine sm_iconst (pc := 51) G hb (by decide +kernel : decode cX9_arrive 51 = .ok (.iconst 0, 1)) (by decide) ?_
      refine sm_iconst (pc := 52) G hb (by decide +kernel : decode cX9_arrive 52 = .ok (.iconst 1, 1)) (by decide) ?_
      refine sm_aload_n (pc := 53) G hb (by decide +kernel : decode cX9_arrive 53 = .ok (.aload_n 0, 1)) rfl ?_
      refine sm_iload_n (pc := 54) G hb (by decide +kernel : decode cX9_arrive 54 = .ok (.iload_n 1, 1)) rfl ?_
      refine sm_iconst (pc := 55) G hb (by decide +kernel : decode cX9_arrive 55 = .ok (.iconst 0, 1)) (by decide) ?_
      refine sm_mono (cav_sub gI_sub) (sm_callV (pc := 56) (N := 32) (T := TX9) (C := RX9) G hb ho hy he hE.1 3 [0, 1, 2, 3, 4, 5, 6, 7, 8, 9, 10, 11, 12, 13, 14, 15, 16, 17] (kX9_flowPart hE N) (gCo_of (by decide +kernel)) (by rw [hR]; exact ⟨by decide, by decide⟩) rfl rfl (by decide +kernel) gw7_64 gw7_66 gw0_59 gw1_11 gw7_67 (by decide +kernel : decode cX9_arrive 56 = .ok (.invokevirtual 240, 3)) ?_)
      refine sm_mask ?_
      exact fX9_arrive_s59 N G hb ho hy hR he hr hE K5 h5
    · skip
      refine sm_aload_n (pc := 32) G hb (by decide +kernel : decode cX9_arrive 32 = .ok (.aload_n 0, 1)) rfl ?_
      refine sm_iload_n (pc := 33) G hb (by decide +kernel : decode cX9_arrive 33 = .ok (.iload_n 1, 1)) rfl ?_
      refine sm_iconst (pc := 34) G hb (by decide +kernel : decode cX9_arrive 34 = .ok (.iconst 5, 1)) (by decide) ?_
      refine sm_iconst (pc := 35) G hb (by decide +kernel : decode cX9_arrive 35 = .ok (.iconst 1, 1)) (by decide) ?_
      refine sm_mono (cav_sub gV_sub) (sm_callV (pc := 36) (N := 32) (T := TX9) (C := RX9) G hb ho hy he hE.1 4 [0, 1, 2, 3, 4, 5, 6, 7, 8, 9, 10, 11, 12, 13, 14, 15, 16, 17] (kX9_count hE N) (gCo_of (by decide +kernel)) (by rw [hR]; exact ⟨by decide, by decide⟩) rfl rfl (by decide +kernel) gw7_60 gw7_62 gw0_58 gw1_11 gw7_63 (by decide +kernel : decode cX9_arrive 36 = .ok (.invokevirtual 289, 3)) ?_)
      refine sm_goto (pc := 39) (tgt := 72) G hb (by decide +kernel : decode cX9_arrive 39 = .ok (.goto 33, 3)) (by decide) ?_
      refine sm_mask ?_
      exact fX9_arrive_s72 N G hb ho hy hR he hr hE K5 h5
set_option maxRecDepth 100000 in
set_option maxHeartbeats 4000000 in
theorem fX9_arrive_s0 {γ : gG} {cs ss : Nat} {ε : gE5} (N : Nat) (G : gOK γ) (hb : gcc γ = cX9_arrive) (ho : gow γ = RX9) (hy : gly γ = gyM) (hR : grm γ = { frames := 1, cells := 0, slots := 0, locals := 26 }) (he : genv γ = ε) (hr : grt γ = (some .int)) (hE : gEnv ε) : gSm γ cs ss 0 (fX9_arrive_k0 N) := by
  unfold fX9_arrive_k0
  refine sm_iconst (pc := 0) G hb (by decide +kernel : decode cX9_arrive 0 = .ok (.iconst 0, 1)) (by decide) ?_
  refine sm_istore_n (pc := 1) G hb (by decide +kernel : decode cX9_arrive 1 = .ok (.istore_n 3, 1)) rfl ?_
  refine sm_iconst (pc := 2) G hb (by decide +kernel : decode cX9_arrive 2 = .ok (.iconst 0, 1)) (by decide) ?_
  refine sm_istore (pc := 3) G hb (by decide +kernel : decode cX9_arrive 3 = .ok (.istore 4, 2)) ?_
  refine sm_mask ?_
  exact fX9_arrive_s5 N G hb ho hy hR he hr hE
theorem kX9_arrive {ε : gE5} (hE : gEnv ε) (N : Nat) : gCtr ε yX9_arrive cX9_arrive 5 (some .int) 1 26 gyM (fX9_arrive N) :=
  gCtr_of hE.1 (by decide) (fun γ G hb ho hy hR he hr => fX9_arrive_s0 N G hb ho hy hR he hr hE)

set_option maxRecDepth 100000 in
set_option maxHeartbeats 4000000 in
theorem fX9_arrivals_s77 {γ : gG} {cs ss : Nat} {ε : gE5} (N : Nat) (G : gOK γ) (hb : gcc γ = cX9_arrivals) (ho : gow γ = RX9) (hy : gly γ = gyM) (hR : grm γ = { frames := 2, cells := 0, slots := 0, locals := 50 }) (he : genv γ = ε) (hr : grt γ = none) (hE : gEnv ε) (K2 : gK) (h2 : gSm γ cs ss 2 K2) : gSm γ cs ss 77 (fX9_arrivals_k77 N K2) := by
  unfold fX9_arrivals_k77
  refine sm_bipush (pc := 77) G hb (by decide +kernel : decode cX9_arrivals 77 = .ok (.bipush 100, 2)) (by decide) ?_
  refine sm_aload_n (pc := 79) G hb (by decide +kernel : decode cX9_arrivals 79 = .ok (.aload_n 0, 1)) rfl ?_
  refine sm_get (pc := 80) (ci := 9) (j := 9) (N := 32) (T := TX9) G hb ho hy rfl (by decide) gin_9 gw6_5 (by decide +kernel : decode cX9_arrivals 80 = .ok (.getfield 16, 3)) ?_
  refine sm_iconst (pc := 83) G hb (by decide +kernel : decode cX9_arrivals 83 = .ok (.iconst 4, 1)) (by decide) ?_
  refine sm_iald (pc := 84) G hb hy (by decide +kernel : decode cX9_arrivals 84 = .ok (.iaload, 1)) ?_
  refine sm_iadd (pc := 85) G hb (by decide +kernel : decode cX9_arrivals 85 = .ok (.iadd, 1)) ?_
  refine sm_imul (pc := 86) G hb (by decide +kernel : decode cX9_arrivals 86 = .ok (.imul, 1)) ?_
  refine sm_sipush (pc := 87) G hb (by decide +kernel : decode cX9_arrivals 87 = .ok (.sipush 10000, 3)) (by decide) ?_
  refine sm_mono (ca_sub gI_sub) (sm_callS (pc := 90) G hb ho hy he hE.1 3 [] (kX9_grown hE N) (gCo_of (by decide +kernel)) (by rw [hR]; exact ⟨by decide, by decide⟩) (by decide +kernel) gw7_124 gw7_125 gw1_11 gw7_126 (by decide +kernel : decode cX9_arrivals 90 = .ok (.invokestatic 297, 3)) ?_)
  refine sm_iadd (pc := 93) G hb (by decide +kernel : decode cX9_arrivals 93 = .ok (.iadd, 1)) ?_
  refine sm_iast (pc := 94) G hb hy (by decide +kernel : decode cX9_arrivals 94 = .ok (.iastore, 1)) ?_
  refine sm_iinc (pc := 95) G hb (by decide +kernel : decode cX9_arrivals 95 = .ok (.iinc 1 1, 3)) (by decide) ?_
  refine sm_goto (pc := 98) (tgt := 2) G hb (by decide +kernel : decode cX9_arrivals 98 = .ok (.goto (-96), 3)) (by decide) ?_
  refine sm_mask ?_
  exact h2
set_option maxRecDepth 100000 in
set_option maxHeartbeats 4000000 in
theorem fX9_arrivals_s35 {γ : gG} {cs ss : Nat} {ε : gE5} (N : Nat) (G : gOK γ) (hb : gcc γ = cX9_arrivals) (ho : gow γ = RX9) (hy : gly γ = gyM) (hR : grm γ = { frames := 2, cells := 0, slots := 0, locals := 50 }) (he : genv γ = ε) (hr : grt γ = none) (hE : gEnv ε) (K2 : gK) (h2 : gSm γ cs ss 2 K2) : gSm γ cs ss 35 (fX9_arrivals_k35 N K2) := by
  unfold fX9_arrivals_k35
  refine sm_istore_n (pc := 35) G hb (by decide +kernel : decode cX9_arrivals 35 = .ok (.istore_n 2, 1)) rfl ?_
  refine sm_sipush (pc := 36) G hb (by decide +kernel : decode cX9_arrivals 36 = .ok (.sipush 145, 3)) (by decide) ?_
  refine sm_bipush (pc := 39) G hb (by decide +kernel : decode cX9_arrivals 39 = .ok (.bipush 10, 2)) (by decide) ?_
  refine sm_aload_n (pc := 41) G hb (by decide +kernel : decode cX9_arrivals 41 = .ok (.aload_n 0, 1)) rfl ?_
  refine sm_iload_n (pc := 42) G hb (by decide +kernel : decode cX9_arrivals 42 = .ok (.iload_n 1, 1)) rfl ?_
  refine sm_iconst (pc := 43) G hb (by decide +kernel : decode cX9_arrivals 43 = .ok (.iconst 0, 1)) (by decide) ?_
  refine sm_mono (cav_sub gI_sub) (sm_callV (pc := 44) (N := 32) (T := TX9) (C := RX9) G hb ho hy he hE.1 3 [0, 1, 2, 3, 4, 5, 6, 7, 8, 9, 10, 11, 12, 13, 14, 15, 16, 17] (kX9_flowPart hE N) (gCo_of (by decide +kernel)) (by rw [hR]; exact ⟨by decide, by decide⟩) rfl rfl (by decide +kernel) gw7_64 gw7_66 gw0_59 gw1_11 gw7_67 (by decide +kernel : decode cX9_arrivals 44 = .ok (.invokevirtual 240, 3)) ?_)
  refine sm_imul (pc := 47) G hb (by decide +kernel : decode cX9_arrivals 47 = .ok (.imul, 1)) ?_
  refine sm_iadd (pc := 48) G hb (by decide +kernel : decode cX9_arrivals 48 = .ok (.iadd, 1)) ?_
  refine sm_aload_n (pc := 49) G hb (by decide +kernel : decode cX9_arrivals 49 = .ok (.aload_n 0, 1)) rfl ?_
  refine sm_iload_n (pc := 50) G hb (by decide +kernel : decode cX9_arrivals 50 = .ok (.iload_n 1, 1)) rfl ?_
  refine sm_iconst (pc := 51) G hb (by decide +kernel : decode cX9_arrivals 51 = .ok (.iconst 1, 1)) (by decide) ?_
  refine sm_mono (cav_sub gI_sub) (sm_callV (pc := 52) (N := 32) (T := TX9) (C := RX9) G hb ho hy he hE.1 3 [0, 1, 2, 3, 4, 5, 6, 7, 8, 9, 10, 11, 12, 13, 14, 15, 16, 17] (kX9_flowPart hE N) (gCo_of (by decide +kernel)) (by rw [hR]; exact ⟨by decide, by decide⟩) rfl rfl (by decide +kernel) gw7_64 gw7_66 gw0_59 gw1_11 gw7_67 (by decide +kernel : decode cX9_arrivals 52 = .ok (.invokevirtual 240, 3)) ?_)
  refine sm_iadd (pc := 55) G hb (by decide +kernel : decode cX9_arrivals 55 = .ok (.iadd, 1)) ?_
  refine sm_istore_n (pc := 56) G hb (by decide +kernel : decode cX9_arrivals 56 = .ok (.istore_n 3, 1)) rfl ?_
  refine sm_aload_n (pc := 57) G hb (by decide +kernel : decode cX9_arrivals 57 = .ok (.aload_n 0, 1)) rfl ?_
  refine sm_get (pc := 58) (ci := 9) (j := 9) (N := 32) (T := TX9) G hb ho hy rfl (by decide) gin_9 gw6_5 (by decide +kernel : decode cX9_arrivals 58 = .ok (.getfield 16, 3)) ?_
  refine sm_iload_n (pc := 61) G hb (by decide +kernel : decode cX9_arrivals 61 = .ok (.iload_n 3, 1)) rfl ?_
  refine sm_dup2 (pc := 62) G hb (by decide +kernel : decode cX9_arrivals 62 = .ok (.dup2, 1)) ?_
  refine sm_iald (pc := 63) G hb hy (by decide +kernel : decode cX9_arrivals 63 = .ok (.iaload, 1)) ?_
  refine sm_aload_n (pc := 64) G hb (by decide +kernel : decode cX9_arrivals 64 = .ok (.aload_n 0, 1)) rfl ?_
  refine sm_get (pc := 65) (ci := 9) (j := 9) (N := 32) (T := TX9) G hb ho hy rfl (by decide) gin_9 gw6_5 (by decide +kernel : decode cX9_arrivals 65 = .ok (.getfield 16, 3)) ?_
  refine sm_bipush (pc := 68) G hb (by decide +kernel : decode cX9_arrivals 68 = .ok (.bipush 7, 2)) (by decide) ?_
  refine sm_iald (pc := 70) G hb hy (by decide +kernel : decode cX9_arrivals 70 = .ok (.iaload, 1)) ?_
  refine sm_aload_n (pc := 71) G hb (by decide +kernel : decode cX9_arrivals 71 = .ok (.aload_n 0, 1)) rfl ?_
  refine sm_iload_n (pc := 72) G hb (by decide +kernel : decode cX9_arrivals 72 = .ok (.iload_n 1, 1)) rfl ?_
  refine sm_iconst (pc := 73) G hb (by decide +kernel : decode cX9_arrivals 73 = .ok (.iconst 2, 1)) (by decide) ?_
  refine sm_mono (cav_sub gI_sub) (sm_callV (pc := 74) (N := 32) (T := TX9) (C := RX9) G hb ho hy he hE.1 3 [0, 1, 2, 3, 4, 5, 6, 7, 8, 9, 10, 11, 12, 13, 14, 15, 16, 17] (kX9_flowPart hE N) (gCo_of (by decide +kernel)) (by rw [hR]; exact ⟨by decide, by decide⟩) rfl rfl (by decide +kernel) gw7_64 gw7_66 gw0_59 gw1_11 gw7_67 (by decide +kernel : decode cX9_arrivals 74 = .ok (.invokevirtual 240, 3)) ?_)
  refine sm_mask ?_
  exact fX9_arrivals_s77 N G hb ho hy hR he hr hE K2 h2
set_option maxRecDepth 100000 in
set_option maxHeartbeats 4000000 in
theorem fX9_arrivals_s2 {γ : gG} {cs ss : Nat} {ε : gE5} (N : Nat) (G : gOK γ) (hb : gcc γ = cX9_arrivals) (ho : gow γ = RX9) (hy : gly γ = gyM) (hR : grm γ = { frames := 2, cells := 0, slots := 0, locals := 50 }) (he : genv γ = ε) (hr : grt γ = none) (hE : gEnv ε) : gSm γ cs ss 2 (fX9_arrivals_k2 N) := by
  unfold fX9_arrivals_k2
  refine sm_lp (fun K2 h2 => ?_) N
  unfold fX9_arrivals_b2
  refine sm_iload_n (pc := 2) G hb (by decide +kernel : decode cX9_arrivals 2 = .ok (.iload_n 1, 1)) rfl ?_
  refine sm_aload_n (pc := 3) G hb (by decide +kernel : decode cX9_arrivals 3 = .ok (.aload_n 0, 1)) rfl ?_
  refine sm_get (pc := 4) (ci := 9) (j := 9) (N := 32) (T := TX9) G hb ho hy rfl (by decide) gin_9 gw6_5 (by decide +kernel : decode cX9_arrivals 4 = .ok (.getfield 16, 3)) ?_
  refine sm_iconst (pc := 7) G hb (by decide +kernel : decode cX9_arrivals 7 = .ok (.iconst 2, 1)) (by decide) ?_
  refine sm_iald (pc := 8) G hb hy (by decide +kernel : decode cX9_arrivals 8 = .ok (.iaload, 1)) ?_
  refine sm_icmp_ge (pc := 9) (tgt := 101) G hb (by decide +kernel : decode cX9_arrivals 9 = .ok (.if_icmp .ge 92, 3)) (by decide) ?_ ?_
  · skip
    exact sm_vret (pc := 101) G hb (by decide +kernel : decode cX9_arrivals 101 = .ok (.return_, 1)) hr
  · skip
    refine sm_aload_n (pc := 12) G hb (by decide +kernel : decode cX9_arrivals 12 = .ok (.aload_n 0, 1)) rfl ?_
    refine sm_iload_n (pc := 13) G hb (by decide +kernel : decode cX9_arrivals 13 = .ok (.iload_n 1, 1)) rfl ?_
    refine sm_aload_n (pc := 14) G hb (by decide +kernel : decode cX9_arrivals 14 = .ok (.aload_n 0, 1)) rfl ?_
    refine sm_get (pc := 15) (ci := 9) (j := 9) (N := 32) (T := TX9) G hb ho hy rfl (by decide) gin_9 gw6_5 (by decide +kernel : decode cX9_arrivals 15 = .ok (.getfield 16, 3)) ?_
    refine sm_bipush (pc := 18) G hb (by decide +kernel : decode cX9_arrivals 18 = .ok (.bipush 7, 2)) (by decide) ?_
    refine sm_iald (pc := 20) G hb hy (by decide +kernel : decode cX9_arrivals 20 = .ok (.iaload, 1)) ?_
    refine sm_aload_n (pc := 21) G hb (by decide +kernel : decode cX9_arrivals 21 = .ok (.aload_n 0, 1)) rfl ?_
    refine sm_iload_n (pc := 22) G hb (by decide +kernel : decode cX9_arrivals 22 = .ok (.iload_n 1, 1)) rfl ?_
    refine sm_iconst (pc := 23) G hb (by decide +kernel : decode cX9_arrivals 23 = .ok (.iconst 2, 1)) (by decide) ?_
    refine sm_mono (cav_sub gI_sub) (sm_callV (pc := 24) (N := 32) (T := TX9) (C := RX9) G hb ho hy he hE.1 3 [0, 1, 2, 3, 4, 5, 6, 7, 8, 9, 10, 11, 12, 13, 14, 15, 16, 17] (kX9_flowPart hE N) (gCo_of (by decide +kernel)) (by rw [hR]; exact ⟨by decide, by decide⟩) rfl rfl (by decide +kernel) gw7_64 gw7_66 gw0_59 gw1_11 gw7_67 (by decide +kernel : decode cX9_arrivals 24 = .ok (.invokevirtual 240, 3)) ?_)
    refine sm_bipush (pc := 27) G hb (by decide +kernel : decode cX9_arrivals 27 = .ok (.bipush 100, 2)) (by decide) ?_
    refine sm_mono (ca_sub gI_sub) (sm_callS (pc := 29) G hb ho hy he hE.1 3 [] (kX9_grown hE N) (gCo_of (by decide +kernel)) (by rw [hR]; exact ⟨by decide, by decide⟩) (by decide +kernel) gw7_124 gw7_125 gw1_11 gw7_126 (by decide +kernel : decode cX9_arrivals 29 = .ok (.invokestatic 297, 3)) ?_)
    refine sm_mono (cav_sub gI_sub) (sm_callV (pc := 32) (N := 32) (T := TX9) (C := RX9) G hb ho hy he hE.1 3 [0, 1, 2, 3, 4, 5, 6, 7, 8, 9, 10, 11, 12, 13, 14, 15, 16, 17] (kX9_arrive hE N) (gCo_of (by decide +kernel)) (by rw [hR]; exact ⟨by decide, by decide⟩) rfl rfl (by decide +kernel) gw7_56 gw7_58 gw0_57 gw1_11 gw7_59 (by decide +kernel : decode cX9_arrivals 32 = .ok (.invokevirtual 300, 3)) ?_)
    refine sm_mask ?_
    exact fX9_arrivals_s35 N G hb ho hy hR he hr hE K2 h2
set_option maxRecDepth 100000 in
set_option maxHeartbeats 4000000 in
theorem fX9_arrivals_s0 {γ : gG} {cs ss : Nat} {ε : gE5} (N : Nat) (G : gOK γ) (hb : gcc γ = cX9_arrivals) (ho : gow γ = RX9) (hy : gly γ = gyM) (hR : grm γ = { frames := 2, cells := 0, slots := 0, locals := 50 }) (he : genv γ = ε) (hr : grt γ = none) (hE : gEnv ε) : gSm γ cs ss 0 (fX9_arrivals_k0 N) := by
  unfold fX9_arrivals_k0
  refine sm_iconst (pc := 0) G hb (by decide +kernel : decode cX9_arrivals 0 = .ok (.iconst 0, 1)) (by decide) ?_
  refine sm_istore_n (pc := 1) G hb (by decide +kernel : decode cX9_arrivals 1 = .ok (.istore_n 1, 1)) rfl ?_
  refine sm_mask ?_
  exact fX9_arrivals_s2 N G hb ho hy hR he hr hE
theorem kX9_arrivals {ε : gE5} (hE : gEnv ε) (N : Nat) : gCtr ε yX9_arrivals cX9_arrivals 4 none 2 50 gyM (fX9_arrivals N) :=
  gCtr_of hE.1 (by decide) (fun γ G hb ho hy hR he hr => fX9_arrivals_s0 N G hb ho hy hR he hr hE)

set_option maxRecDepth 100000 in
set_option maxHeartbeats 4000000 in
theorem fX9_take_s141 {γ : gG} {cs ss : Nat} {ε : gE5} (N : Nat) (G : gOK γ) (hb : gcc γ = cX9_take) (ho : gow γ = RX9) (hy : gly γ = gyM) (hR : grm γ = { frames := 3, cells := 0, slots := 0, locals := 66 }) (he : genv γ = ε) (hr : grt γ = none) (hE : gEnv ε) : gSm γ cs ss 141 (fX9_take_k141 N) := by
  unfold fX9_take_k141
  refine sm_sipush (pc := 141) G hb (by decide +kernel : decode cX9_take 141 = .ok (.sipush 145, 3)) (by decide) ?_
  refine sm_bipush (pc := 144) G hb (by decide +kernel : decode cX9_take 144 = .ok (.bipush 10, 2)) (by decide) ?_
  refine sm_iload_n (pc := 146) G hb (by decide +kernel : decode cX9_take 146 = .ok (.iload_n 2, 1)) rfl ?_
  refine sm_imul (pc := 147) G hb (by decide +kernel : decode cX9_take 147 = .ok (.imul, 1)) ?_
  refine sm_iadd (pc := 148) G hb (by decide +kernel : decode cX9_take 148 = .ok (.iadd, 1)) ?_
  refine sm_iload_n (pc := 149) G hb (by decide +kernel : decode cX9_take 149 = .ok (.iload_n 3, 1)) rfl ?_
  refine sm_iadd (pc := 150) G hb (by decide +kernel : decode cX9_take 150 = .ok (.iadd, 1)) ?_
  refine sm_istore (pc := 151) G hb (by decide +kernel : decode cX9_take 151 = .ok (.istore 5, 2)) ?_
  refine sm_aload_n (pc := 153) G hb (by decide +kernel : decode cX9_take 153 = .ok (.aload_n 0, 1)) rfl ?_
  refine sm_get (pc := 154) (ci := 9) (j := 27) (N := 32) (T := TX9) G hb ho hy rfl (by decide) gin_9 gw6_23 (by decide +kernel : decode cX9_take 154 = .ok (.getfield 53, 3)) ?_
  refine sm_iload_n (pc := 157) G hb (by decide +kernel : decode cX9_take 157 = .ok (.iload_n 1, 1)) rfl ?_
  refine sm_aload_n (pc := 158) G hb (by decide +kernel : decode cX9_take 158 = .ok (.aload_n 0, 1)) rfl ?_
  refine sm_iload_n (pc := 159) G hb (by decide +kernel : decode cX9_take 159 = .ok (.iload_n 1, 1)) rfl ?_
  refine sm_iconst (pc := 160) G hb (by decide +kernel : decode cX9_take 160 = .ok (.iconst 2, 1)) (by decide) ?_
  refine sm_mono (cav_sub gI_sub) (sm_callV (pc := 161) (N := 32) (T := TX9) (C := RX9) G hb ho hy he hE.1 3 [0, 1, 2, 3, 4, 5, 6, 7, 8, 9, 10, 11, 12, 13, 14, 15, 16, 17] (kX9_linkPart hE N) (gCo_of (by decide +kernel)) (by rw [hR]; exact ⟨by decide, by decide⟩) rfl rfl (by decide +kernel) gw7_143 gw7_145 gw0_74 gw1_11 gw7_146 (by decide +kernel : decode cX9_take 161 = .ok (.invokevirtual 250, 3)) ?_)
  refine sm_aload_n (pc := 164) G hb (by decide +kernel : decode cX9_take 164 = .ok (.aload_n 0, 1)) rfl ?_
  refine sm_get (pc := 165) (ci := 9) (j := 9) (N := 32) (T := TX9) G hb ho hy rfl (by decide) gin_9 gw6_5 (by decide +kernel : decode cX9_take 165 = .ok (.getfield 16, 3)) ?_
  refine sm_iload (pc := 168) G hb (by decide +kernel : decode cX9_take 168 = .ok (.iload 5, 2)) ?_
  refine sm_iald (pc := 170) G hb hy (by decide +kernel : decode cX9_take 170 = .ok (.iaload, 1)) ?_
  refine sm_jmin (pc := 171) G hb ho (by rw [hR]; exact ⟨by decide, by decide⟩) gw6_138 gw4_178 gw1_21 gw4_179 (by decide +kernel : decode cX9_take 171 = .ok (.invokestatic 118, 3)) ?_
  refine sm_iast (pc := 174) G hb hy (by decide +kernel : decode cX9_take 174 = .ok (.iastore, 1)) ?_
  refine sm_aload_n (pc := 175) G hb (by decide +kernel : decode cX9_take 175 = .ok (.aload_n 0, 1)) rfl ?_
  refine sm_get (pc := 176) (ci := 9) (j := 9) (N := 32) (T := TX9) G hb ho hy rfl (by decide) gin_9 gw6_5 (by decide +kernel : decode cX9_take 176 = .ok (.getfield 16, 3)) ?_
  refine sm_iload (pc := 179) G hb (by decide +kernel : decode cX9_take 179 = .ok (.iload 5, 2)) ?_
  refine sm_dup2 (pc := 181) G hb (by decide +kernel : decode cX9_take 181 = .ok (.dup2, 1)) ?_
  refine sm_iald (pc := 182) G hb hy (by decide +kernel : decode cX9_take 182 = .ok (.iaload, 1)) ?_
  refine sm_aload_n (pc := 183) G hb (by decide +kernel : decode cX9_take 183 = .ok (.aload_n 0, 1)) rfl ?_
  refine sm_get (pc := 184) (ci := 9) (j := 27) (N := 32) (T := TX9) G hb ho hy rfl (by decide) gin_9 gw6_23 (by decide +kernel : decode cX9_take 184 = .ok (.getfield 53, 3)) ?_
  refine sm_iload_n (pc := 187) G hb (by decide +kernel : decode cX9_take 187 = .ok (.iload_n 1, 1)) rfl ?_
  refine sm_iald (pc := 188) G hb hy (by decide +kernel : decode cX9_take 188 = .ok (.iaload, 1)) ?_
  refine sm_isub (pc := 189) G hb (by decide +kernel : decode cX9_take 189 = .ok (.isub, 1)) ?_
  refine sm_iast (pc := 190) G hb hy (by decide +kernel : decode cX9_take 190 = .ok (.iastore, 1)) ?_
  exact sm_vret (pc := 191) G hb (by decide +kernel : decode cX9_take 191 = .ok (.return_, 1)) hr
set_option maxRecDepth 100000 in
set_option maxHeartbeats 4000000 in
theorem fX9_take_s135 {γ : gG} {cs ss : Nat} {ε : gE5} (N : Nat) (G : gOK γ) (hb : gcc γ = cX9_take) (ho : gow γ = RX9) (hy : gly γ = gyM) (hR : grm γ = { frames := 3, cells := 0, slots := 0, locals := 66 }) (he : genv γ = ε) (hr : grt γ = none) (hE : gEnv ε) (K25 : gK) (h25 : gSm γ cs ss 25 K25) : gSm γ cs ss 135 (fX9_take_k135 N K25) := by
  unfold fX9_take_k135
  refine sm_iinc (pc := 135) G hb (by decide +kernel : decode cX9_take 135 = .ok (.iinc 5 1, 3)) (by decide) ?_
  refine sm_goto (pc := 138) (tgt := 25) G hb (by decide +kernel : decode cX9_take 138 = .ok (.goto (-113), 3)) (by decide) ?_
  refine sm_mask ?_
  exact h25
set_option maxRecDepth 100000 in
set_option maxHeartbeats 4000000 in
theorem fX9_take_s70 {γ : gG} {cs ss : Nat} {ε : gE5} (N : Nat) (G : gOK γ) (hb : gcc γ = cX9_take) (ho : gow γ = RX9) (hy : gly γ = gyM) (hR : grm γ = { frames := 3, cells := 0, slots := 0, locals := 66 }) (he : genv γ = ε) (hr : grt γ = none) (hE : gEnv ε) (K25 : gK) (h25 : gSm γ cs ss 25 K25) : gSm γ cs ss 70 (fX9_take_k70 N K25) := by
  unfold fX9_take_k70
  refine sm_lp (fun K70 h70 => ?_) N
  unfold fX9_take_b70
  refine sm_iload (pc := 70) G hb (by decide +kernel : decode cX9_take 70 = .ok (.iload 6, 2)) ?_
  refine sm_iconst (pc := 72) G hb (by decide +kernel : decode cX9_take 72 = .ok (.iconst 5, 1)) (by decide) ?_
  refine sm_icmp_ge (pc := 73) (tgt := 104) G hb (by decide +kernel : decode cX9_take 73 = .ok (.if_icmp .ge 31, 3)) (by decide) ?_ ?_
  · skip
    refine sm_aload_n (pc := 104) G hb (by decide +kernel : decode cX9_take 104 = .ok (.aload_n 0, 1)) rfl ?_
    refine sm_get (pc := 105) (ci := 9) (j := 26) (N := 32) (T := TX9) G hb ho hy rfl (by decide) gin_9 gw6_22 (by decide +kernel : decode cX9_take 105 = .ok (.getfield 50, 3)) ?_
    refine sm_aload_n (pc := 108) G hb (by decide +kernel : decode cX9_take 108 = .ok (.aload_n 0, 1)) rfl ?_
    refine sm_get (pc := 109) (ci := 9) (j := 28) (N := 32) (T := TX9) G hb ho hy rfl (by decide) gin_9 gw6_24 (by decide +kernel : decode cX9_take 109 = .ok (.getfield 303, 3)) ?_
    refine sm_iload_n (pc := 112) G hb (by decide +kernel : decode cX9_take 112 = .ok (.iload_n 1, 1)) rfl ?_
    refine sm_iast (pc := 113) G hb hy (by decide +kernel : decode cX9_take 113 = .ok (.iastore, 1)) ?_
    refine sm_aload_n (pc := 114) G hb (by decide +kernel : decode cX9_take 114 = .ok (.aload_n 0, 1)) rfl ?_
    refine sm_dup (pc := 115) G hb (by decide +kernel : decode cX9_take 115 = .ok (.dup, 1)) ?_
    refine sm_get (pc := 116) (ci := 9) (j := 28) (N := 32) (T := TX9) G hb ho hy rfl (by decide) gin_9 gw6_24 (by decide +kernel : decode cX9_take 116 = .ok (.getfield 303, 3)) ?_
    refine sm_iconst (pc := 119) G hb (by decide +kernel : decode cX9_take 119 = .ok (.iconst 1, 1)) (by decide) ?_
    refine sm_iadd (pc := 120) G hb (by decide +kernel : decode cX9_take 120 = .ok (.iadd, 1)) ?_
    refine sm_put (pc := 121) (ci := 9) (j := 28) (N := 32) (T := TX9) G hb ho hy tyX9 tyX9_ok nmX9 rfl (by decide) gin_9 gw6_24 rfl rfl (by decide +kernel : decode cX9_take 121 = .ok (.putfield 303, 3)) ?_
    refine sm_aload_n (pc := 124) G hb (by decide +kernel : decode cX9_take 124 = .ok (.aload_n 0, 1)) rfl ?_
    refine sm_get (pc := 125) (ci := 9) (j := 17) (N := 32) (T := TX9) G hb ho hy rfl (by decide) gin_9 gw6_13 (by decide +kernel : decode cX9_take 125 = .ok (.getfield 28, 3)) ?_
    refine sm_iload (pc := 128) G hb (by decide +kernel : decode cX9_take 128 = .ok (.iload 5, 2)) ?_
    refine sm_iconst (pc := 130) G hb (by decide +kernel : decode cX9_take 130 = .ok (.iconst 1, 1)) (by decide) ?_
    refine sm_zast (pc := 131) G hb hy (by decide +kernel : decode cX9_take 131 = .ok (.bastore, 1)) ?_
    refine sm_iinc (pc := 132) G hb (by decide +kernel : decode cX9_take 132 = .ok (.iinc 4 (-1), 3)) (by decide) ?_
    refine sm_mask ?_
    exact fX9_take_s135 N G hb ho hy hR he hr hE K25 h25
  · skip
    refine sm_aload_n (pc := 76) G hb (by decide +kernel : decode cX9_take 76 = .ok (.aload_n 0, 1)) rfl ?_
    refine sm_get (pc := 77) (ci := 9) (j := 25) (N := 32) (T := TX9) G hb ho hy rfl (by decide) gin_9 gw6_21 (by decide +kernel : decode cX9_take 77 = .ok (.getfield 47, 3)) ?_
    refine sm_iconst (pc := 80) G hb (by decide +kernel : decode cX9_take 80 = .ok (.iconst 5, 1)) (by decide) ?_
    refine sm_aload_n (pc := 81) G hb (by decide +kernel : decode cX9_take 81 = .ok (.aload_n 0, 1)) rfl ?_
    refine sm_get (pc := 82) (ci := 9) (j := 28) (N := 32) (T := TX9) G hb ho hy rfl (by decide) gin_9 gw6_24 (by decide +kernel : decode cX9_take 82 = .ok (.getfield 303, 3)) ?_
    refine sm_imul (pc := 85) G hb (by decide +kernel : decode cX9_take 85 = .ok (.imul, 1)) ?_
    refine sm_iload (pc := 86) G hb (by decide +kernel : decode cX9_take 86 = .ok (.iload 6, 2)) ?_
    refine sm_iadd (pc := 88) G hb (by decide +kernel : decode cX9_take 88 = .ok (.iadd, 1)) ?_
    refine sm_aload_n (pc := 89) G hb (by decide +kernel : decode cX9_take 89 = .ok (.aload_n 0, 1)) rfl ?_
    refine sm_iload (pc := 90) G hb (by decide +kernel : decode cX9_take 90 = .ok (.iload 5, 2)) ?_
    refine sm_iload (pc := 92) G hb (by decide +kernel : decode cX9_take 92 = .ok (.iload 6, 2)) ?_
    refine sm_mono (cav_sub gI_sub) (sm_callV (pc := 94) (N := 32) (T := TX9) (C := RX9) G hb ho hy he hE.1 3 [0, 1, 2, 3, 4, 5, 6, 7, 8, 9, 10, 11, 12, 13, 14, 15, 16, 17] (kX9_packetPart hE N) (gCo_of (by decide +kernel)) (by rw [hR]; exact ⟨by decide, by decide⟩) rfl rfl (by decide +kernel) gw7_84 gw7_86 gw0_63 gw1_11 gw7_87 (by decide +kernel : decode cX9_take 94 = .ok (.invokevirtual 237, 3)) ?_)
    refine sm_iast (pc := 97) G hb hy (by decide +kernel : decode cX9_take 97 = .ok (.iastore, 1)) ?_
    refine sm_iinc (pc := 98) G hb (by decide +kernel : decode cX9_take 98 = .ok (.iinc 6 1, 3)) (by decide) ?_
    refine sm_goto (pc := 101) (tgt := 70) G hb (by decide +kernel : decode cX9_take 101 = .ok (.goto (-31), 3)) (by decide) ?_
    refine sm_mask ?_
    exact h70
set_option maxRecDepth 100000 in
set_option maxHeartbeats 4000000 in
theorem fX9_take_s25 {γ : gG} {cs ss : Nat} {ε : gE5} (N : Nat) (G : gOK γ) (hb : gcc γ = cX9_take) (ho : gow γ = RX9) (hy : gly γ = gyM) (hR : grm γ = { frames := 3, cells := 0, slots := 0, locals := 66 }) (he : genv γ = ε) (hr : grt γ = none) (hE : gEnv ε) : gSm γ cs ss 25 (fX9_take_k25 N) := by
  unfold fX9_take_k25
  refine sm_lp (fun K25 h25 => ?_) N
  unfold fX9_take_b25
  refine sm_iload (pc := 25) G hb (by decide +kernel : decode cX9_take 25 = .ok (.iload 5, 2)) ?_
  refine sm_aload_n (pc := 27) G hb (by decide +kernel : decode cX9_take 27 = .ok (.aload_n 0, 1)) rfl ?_
  refine sm_get (pc := 28) (ci := 9) (j := 9) (N := 32) (T := TX9) G hb ho hy rfl (by decide) gin_9 gw6_5 (by decide +kernel : decode cX9_take 28 = .ok (.getfield 16, 3)) ?_
  refine sm_sipush (pc := 31) G hb (by decide +kernel : decode cX9_take 31 = .ok (.sipush 245, 3)) (by decide) ?_
  refine sm_iald (pc := 34) G hb hy (by decide +kernel : decode cX9_take 34 = .ok (.iaload, 1)) ?_
  refine sm_icmp_ge (pc := 35) (tgt := 141) G hb (by decide +kernel : decode cX9_take 35 = .ok (.if_icmp .ge 106, 3)) (by decide) ?_ ?_
  · skip
    refine sm_mask ?_
    exact fX9_take_s141 N G hb ho hy hR he hr hE
  · skip
    refine sm_iload (pc := 38) G hb (by decide +kernel : decode cX9_take 38 = .ok (.iload 4, 2)) ?_
    refine sm_if_le (pc := 40) (tgt := 141) G hb (by decide +kernel : decode cX9_take 40 = .ok (.ifCond .le 101, 3)) (by decide) ?_ ?_
    · skip
      refine sm_mask ?_
      exact fX9_take_s141 N G hb ho hy hR he hr hE
    · skip
      refine sm_aload_n (pc := 43) G hb (by decide +kernel : decode cX9_take 43 = .ok (.aload_n 0, 1)) rfl ?_
      refine sm_get (pc := 44) (ci := 9) (j := 17) (N := 32) (T := TX9) G hb ho hy rfl (by decide) gin_9 gw6_13 (by decide +kernel : decode cX9_take 44 = .ok (.getfield 28, 3)) ?_
      refine sm_iload (pc := 47) G hb (by decide +kernel : decode cX9_take 47 = .ok (.iload 5, 2)) ?_
      refine sm_zald (pc := 49) G hb hy (by decide +kernel : decode cX9_take 49 = .ok (.baload, 1)) ?_
      refine sm_if_ne (pc := 50) (tgt := 135) G hb (by decide +kernel : decode cX9_take 50 = .ok (.ifCond .ne 85, 3)) (by decide) ?_ ?_
      · skip
        refine sm_mask ?_
        exact fX9_take_s135 N G hb ho hy hR he hr hE K25 h25
      · skip
        refine sm_aload_n (pc := 53) G hb (by decide +kernel : decode cX9_take 53 = .ok (.aload_n 0, 1)) rfl ?_
        refine sm_iload (pc := 54) G hb (by decide +kernel : decode cX9_take 54 = .ok (.iload 5, 2)) ?_
        refine sm_iload_n (pc := 56) G hb (by decide +kernel : decode cX9_take 56 = .ok (.iload_n 2, 1)) rfl ?_
        refine sm_iload_n (pc := 57) G hb (by decide +kernel : decode cX9_take 57 = .ok (.iload_n 3, 1)) rfl ?_
        refine sm_mono (cav_sub gI_sub) (sm_callV (pc := 58) (N := 32) (T := TX9) (C := RX9) G hb ho hy he hE.1 4 [0, 1, 2, 3, 4, 5, 6, 7, 8, 9, 10, 11, 12, 13, 14, 15, 16, 17] (kX9_isQueued hE N) (gCo_of (by decide +kernel)) (by rw [hR]; exact ⟨by decide, by decide⟩) rfl rfl (by decide +kernel) gw7_80 gw7_82 gw0_62 gw1_11 gw7_83 (by decide +kernel : decode cX9_take 58 = .ok (.invokevirtual 246, 3)) ?_)
        refine sm_if_ne (pc := 61) (tgt := 67) G hb (by decide +kernel : decode cX9_take 61 = .ok (.ifCond .ne 6, 3)) (by decide) ?_ ?_
        · skip
          refine sm_iconst (pc := 67) G hb (by decide +kernel : decode cX9_take 67 = .ok (.iconst 0, 1)) (by decide) ?_
          refine sm_istore (pc := 68) G hb (by decide +kernel : decode cX9_take 68 = .ok (.istore 6, 2)) ?_
          refine sm_mask ?_
          exact fX9_take_s70 N G hb ho hy hR he hr hE K25 h25
        · skip
          refine sm_goto (pc := 64) (tgt := 135) G hb (by decide +kernel : decode cX9_take 64 = .ok (.goto 71, 3)) (by decide) ?_
          refine sm_mask ?_
          exact fX9_take_s135 N G hb ho hy hR he hr hE K25 h25
set_option maxRecDepth 100000 in
set_option maxHeartbeats 4000000 in
theorem fX9_take_s0 {γ : gG} {cs ss : Nat} {ε : gE5} (N : Nat) (G : gOK γ) (hb : gcc γ = cX9_take) (ho : gow γ = RX9) (hy : gly γ = gyM) (hR : grm γ = { frames := 3, cells := 0, slots := 0, locals := 66 }) (he : genv γ = ε) (hr : grt γ = none) (hE : gEnv ε) : gSm γ cs ss 0 (fX9_take_k0 N) := by
  unfold fX9_take_k0
  refine sm_aload_n (pc := 0) G hb (by decide +kernel : decode cX9_take 0 = .ok (.aload_n 0, 1)) rfl ?_
  refine sm_iload_n (pc := 1) G hb (by decide +kernel : decode cX9_take 1 = .ok (.iload_n 1, 1)) rfl ?_
  refine sm_iconst (pc := 2) G hb (by decide +kernel : decode cX9_take 2 = .ok (.iconst 0, 1)) (by decide) ?_
  refine sm_mono (cav_sub gI_sub) (sm_callV (pc := 3) (N := 32) (T := TX9) (C := RX9) G hb ho hy he hE.1 3 [0, 1, 2, 3, 4, 5, 6, 7, 8, 9, 10, 11, 12, 13, 14, 15, 16, 17] (kX9_linkPart hE N) (gCo_of (by decide +kernel)) (by rw [hR]; exact ⟨by decide, by decide⟩) rfl rfl (by decide +kernel) gw7_143 gw7_145 gw0_74 gw1_11 gw7_146 (by decide +kernel : decode cX9_take 3 = .ok (.invokevirtual 250, 3)) ?_)
  refine sm_istore_n (pc := 6) G hb (by decide +kernel : decode cX9_take 6 = .ok (.istore_n 2, 1)) rfl ?_
  refine sm_aload_n (pc := 7) G hb (by decide +kernel : decode cX9_take 7 = .ok (.aload_n 0, 1)) rfl ?_
  refine sm_get (pc := 8) (ci := 9) (j := 21) (N := 32) (T := TX9) G hb ho hy rfl (by decide) gin_9 gw6_17 (by decide +kernel : decode cX9_take 8 = .ok (.getfield 41, 3)) ?_
  refine sm_iload_n (pc := 11) G hb (by decide +kernel : decode cX9_take 11 = .ok (.iload_n 1, 1)) rfl ?_
  refine sm_iald (pc := 12) G hb hy (by decide +kernel : decode cX9_take 12 = .ok (.iaload, 1)) ?_
  refine sm_istore_n (pc := 13) G hb (by decide +kernel : decode cX9_take 13 = .ok (.istore_n 3, 1)) rfl ?_
  refine sm_aload_n (pc := 14) G hb (by decide +kernel : decode cX9_take 14 = .ok (.aload_n 0, 1)) rfl ?_
  refine sm_iload_n (pc := 15) G hb (by decide +kernel : decode cX9_take 15 = .ok (.iload_n 1, 1)) rfl ?_
  refine sm_iconst (pc := 16) G hb (by decide +kernel : decode cX9_take 16 = .ok (.iconst 2, 1)) (by decide) ?_
  refine sm_mono (cav_sub gI_sub) (sm_callV (pc := 17) (N := 32) (T := TX9) (C := RX9) G hb ho hy he hE.1 3 [0, 1, 2, 3, 4, 5, 6, 7, 8, 9, 10, 11, 12, 13, 14, 15, 16, 17] (kX9_linkPart hE N) (gCo_of (by decide +kernel)) (by rw [hR]; exact ⟨by decide, by decide⟩) rfl rfl (by decide +kernel) gw7_143 gw7_145 gw0_74 gw1_11 gw7_146 (by decide +kernel : decode cX9_take 17 = .ok (.invokevirtual 250, 3)) ?_)
  refine sm_istore (pc := 20) G hb (by decide +kernel : decode cX9_take 20 = .ok (.istore 4, 2)) ?_
  refine sm_iconst (pc := 22) G hb (by decide +kernel : decode cX9_take 22 = .ok (.iconst 0, 1)) (by decide) ?_
  refine sm_istore (pc := 23) G hb (by decide +kernel : decode cX9_take 23 = .ok (.istore 5, 2)) ?_
  refine sm_mask ?_
  exact fX9_take_s25 N G hb ho hy hR he hr hE
theorem kX9_take {ε : gE5} (hE : gEnv ε) (N : Nat) : gCtr ε yX9_take cX9_take 7 none 3 66 gyM (fX9_take N) :=
  gCtr_of hE.1 (by decide) (fun γ G hb ho hy hR he hr => fX9_take_s0 N G hb ho hy hR he hr hE)

set_option maxRecDepth 100000 in
set_option maxHeartbeats 4000000 in
theorem fX9_deliver_s37 {γ : gG} {cs ss : Nat} {ε : gE5} (N : Nat) (G : gOK γ) (hb : gcc γ = cX9_deliver) (ho : gow γ = RX9) (hy : gly γ = gyM) (hR : grm γ = { frames := 1, cells := 0, slots := 0, locals := 23 }) (he : genv γ = ε) (hr : grt γ = none) (hE : gEnv ε) : gSm γ cs ss 37 (fX9_deliver_k37 N) := by
  unfold fX9_deliver_k37
  refine sm_iload_n (pc := 37) G hb (by decide +kernel : decode cX9_deliver 37 = .ok (.iload_n 2, 1)) rfl ?_
  refine sm_jmax (pc := 38) G hb ho (by rw [hR]; exact ⟨by decide, by decide⟩) gw7_155 gw4_157 gw1_21 gw4_158 (by decide +kernel : decode cX9_deliver 38 = .ok (.invokestatic 259, 3)) ?_
  refine sm_iast (pc := 41) G hb hy (by decide +kernel : decode cX9_deliver 41 = .ok (.iastore, 1)) ?_
  exact sm_vret (pc := 42) G hb (by decide +kernel : decode cX9_deliver 42 = .ok (.return_, 1)) hr
set_option maxRecDepth 100000 in
set_option maxHeartbeats 4000000 in
theorem fX9_deliver_s0 {γ : gG} {cs ss : Nat} {ε : gE5} (N : Nat) (G : gOK γ) (hb : gcc γ = cX9_deliver) (ho : gow γ = RX9) (hy : gly γ = gyM) (hR : grm γ = { frames := 1, cells := 0, slots := 0, locals := 23 }) (he : genv γ = ε) (hr : grt γ = none) (hE : gEnv ε) : gSm γ cs ss 0 (fX9_deliver_k0 N) := by
  unfold fX9_deliver_k0
  refine sm_aload_n (pc := 0) G hb (by decide +kernel : decode cX9_deliver 0 = .ok (.aload_n 0, 1)) rfl ?_
  refine sm_iload_n (pc := 1) G hb (by decide +kernel : decode cX9_deliver 1 = .ok (.iload_n 1, 1)) rfl ?_
  refine sm_bipush (pc := 2) G hb (by decide +kernel : decode cX9_deliver 2 = .ok (.bipush 6, 2)) (by decide) ?_
  refine sm_iconst (pc := 4) G hb (by decide +kernel : decode cX9_deliver 4 = .ok (.iconst 1, 1)) (by decide) ?_
  refine sm_mono (cav_sub gV_sub) (sm_callV (pc := 5) (N := 32) (T := TX9) (C := RX9) G hb ho hy he hE.1 4 [0, 1, 2, 3, 4, 5, 6, 7, 8, 9, 10, 11, 12, 13, 14, 15, 16, 17] (kX9_count hE N) (gCo_of (by decide +kernel)) (by rw [hR]; exact ⟨by decide, by decide⟩) rfl rfl (by decide +kernel) gw7_60 gw7_62 gw0_58 gw1_11 gw7_63 (by decide +kernel : decode cX9_deliver 5 = .ok (.invokevirtual 289, 3)) ?_)
  refine sm_aload_n (pc := 8) G hb (by decide +kernel : decode cX9_deliver 8 = .ok (.aload_n 0, 1)) rfl ?_
  refine sm_iload_n (pc := 9) G hb (by decide +kernel : decode cX9_deliver 9 = .ok (.iload_n 1, 1)) rfl ?_
  refine sm_bipush (pc := 10) G hb (by decide +kernel : decode cX9_deliver 10 = .ok (.bipush 9, 2)) (by decide) ?_
  refine sm_iload_n (pc := 12) G hb (by decide +kernel : decode cX9_deliver 12 = .ok (.iload_n 2, 1)) rfl ?_
  refine sm_mono (cav_sub gV_sub) (sm_callV (pc := 13) (N := 32) (T := TX9) (C := RX9) G hb ho hy he hE.1 4 [0, 1, 2, 3, 4, 5, 6, 7, 8, 9, 10, 11, 12, 13, 14, 15, 16, 17] (kX9_count hE N) (gCo_of (by decide +kernel)) (by rw [hR]; exact ⟨by decide, by decide⟩) rfl rfl (by decide +kernel) gw7_60 gw7_62 gw0_58 gw1_11 gw7_63 (by decide +kernel : decode cX9_deliver 13 = .ok (.invokevirtual 289, 3)) ?_)
  refine sm_aload_n (pc := 16) G hb (by decide +kernel : decode cX9_deliver 16 = .ok (.aload_n 0, 1)) rfl ?_
  refine sm_get (pc := 17) (ci := 9) (j := 9) (N := 32) (T := TX9) G hb ho hy rfl (by decide) gin_9 gw6_5 (by decide +kernel : decode cX9_deliver 17 = .ok (.getfield 16, 3)) ?_
  refine sm_bipush (pc := 20) G hb (by decide +kernel : decode cX9_deliver 20 = .ok (.bipush 65, 2)) (by decide) ?_
  refine sm_bipush (pc := 22) G hb (by decide +kernel : decode cX9_deliver 22 = .ok (.bipush 11, 2)) (by decide) ?_
  refine sm_iload_n (pc := 24) G hb (by decide +kernel : decode cX9_deliver 24 = .ok (.iload_n 1, 1)) rfl ?_
  refine sm_imul (pc := 25) G hb (by decide +kernel : decode cX9_deliver 25 = .ok (.imul, 1)) ?_
  refine sm_iadd (pc := 26) G hb (by decide +kernel : decode cX9_deliver 26 = .ok (.iadd, 1)) ?_
  refine sm_bipush (pc := 27) G hb (by decide +kernel : decode cX9_deliver 27 = .ok (.bipush 10, 2)) (by decide) ?_
  refine sm_iadd (pc := 29) G hb (by decide +kernel : decode cX9_deliver 29 = .ok (.iadd, 1)) ?_
  refine sm_aload_n (pc := 30) G hb (by decide +kernel : decode cX9_deliver 30 = .ok (.aload_n 0, 1)) rfl ?_
  refine sm_iload_n (pc := 31) G hb (by decide +kernel : decode cX9_deliver 31 = .ok (.iload_n 1, 1)) rfl ?_
  refine sm_bipush (pc := 32) G hb (by decide +kernel : decode cX9_deliver 32 = .ok (.bipush 10, 2)) (by decide) ?_
  refine sm_mono (cav_sub gI_sub) (sm_callV (pc := 34) (N := 32) (T := TX9) (C := RX9) G hb ho hy he hE.1 3 [0, 1, 2, 3, 4, 5, 6, 7, 8, 9, 10, 11, 12, 13, 14, 15, 16, 17] (kX9_flowPart hE N) (gCo_of (by decide +kernel)) (by rw [hR]; exact ⟨by decide, by decide⟩) rfl rfl (by decide +kernel) gw7_64 gw7_66 gw0_59 gw1_11 gw7_67 (by decide +kernel : decode cX9_deliver 34 = .ok (.invokevirtual 240, 3)) ?_)
  refine sm_mask ?_
  exact fX9_deliver_s37 N G hb ho hy hR he hr hE
theorem kX9_deliver {ε : gE5} (hE : gEnv ε) (N : Nat) : gCtr ε yX9_deliver cX9_deliver 3 none 1 23 gyM (fX9_deliver N) :=
  gCtr_of hE.1 (by decide) (fun γ G hb ho hy hR he hr => fX9_deliver_s0 N G hb ho hy hR he hr hE)

set_option maxRecDepth 100000 in
set_option maxHeartbeats 4000000 in
theorem fX9_land_s108 {γ : gG} {cs ss : Nat} {ε : gE5} (N : Nat) (G : gOK γ) (hb : gcc γ = cX9_land) (ho : gow γ = RX9) (hy : gly γ = gyM) (hR : grm γ = { frames := 2, cells := 0, slots := 0, locals := 45 }) (he : genv γ = ε) (hr : grt γ = none) (hE : gEnv ε) : gSm γ cs ss 108 (fX9_land_k108 N) := by
  unfold fX9_land_k108
  refine sm_mono (cav_sub gV_sub) (sm_callV (pc := 108) (N := 32) (T := TX9) (C := RX9) G hb ho hy he hE.1 4 [0, 1, 2, 3, 4, 5, 6, 7, 8, 9, 10, 11, 12, 13, 14, 15, 16, 17] (kX9_count hE N) (gCo_of (by decide +kernel)) (by rw [hR]; exact ⟨by decide, by decide⟩) rfl rfl (by decide +kernel) gw7_60 gw7_62 gw0_58 gw1_11 gw7_63 (by decide +kernel : decode cX9_land 108 = .ok (.invokevirtual 289, 3)) ?_)
  refine sm_aload_n (pc := 111) G hb (by decide +kernel : decode cX9_land 111 = .ok (.aload_n 0, 1)) rfl ?_
  refine sm_iload_n (pc := 112) G hb (by decide +kernel : decode cX9_land 112 = .ok (.iload_n 3, 1)) rfl ?_
  refine sm_aload_n (pc := 113) G hb (by decide +kernel : decode cX9_land 113 = .ok (.aload_n 0, 1)) rfl ?_
  refine sm_get (pc := 114) (ci := 9) (j := 25) (N := 32) (T := TX9) G hb ho hy rfl (by decide) gin_9 gw6_21 (by decide +kernel : decode cX9_land 114 = .ok (.getfield 47, 3)) ?_
  refine sm_iload_n (pc := 117) G hb (by decide +kernel : decode cX9_land 117 = .ok (.iload_n 2, 1)) rfl ?_
  refine sm_iconst (pc := 118) G hb (by decide +kernel : decode cX9_land 118 = .ok (.iconst 1, 1)) (by decide) ?_
  refine sm_iadd (pc := 119) G hb (by decide +kernel : decode cX9_land 119 = .ok (.iadd, 1)) ?_
  refine sm_iald (pc := 120) G hb hy (by decide +kernel : decode cX9_land 120 = .ok (.iaload, 1)) ?_
  refine sm_aload_n (pc := 121) G hb (by decide +kernel : decode cX9_land 121 = .ok (.aload_n 0, 1)) rfl ?_
  refine sm_get (pc := 122) (ci := 9) (j := 25) (N := 32) (T := TX9) G hb ho hy rfl (by decide) gin_9 gw6_21 (by decide +kernel : decode cX9_land 122 = .ok (.getfield 47, 3)) ?_
  refine sm_iload_n (pc := 125) G hb (by decide +kernel : decode cX9_land 125 = .ok (.iload_n 2, 1)) rfl ?_
  refine sm_iconst (pc := 126) G hb (by decide +kernel : decode cX9_land 126 = .ok (.iconst 2, 1)) (by decide) ?_
  refine sm_iadd (pc := 127) G hb (by decide +kernel : decode cX9_land 127 = .ok (.iadd, 1)) ?_
  refine sm_iald (pc := 128) G hb hy (by decide +kernel : decode cX9_land 128 = .ok (.iaload, 1)) ?_
  refine sm_iconst (pc := 129) G hb (by decide +kernel : decode cX9_land 129 = .ok (.iconst 1, 1)) (by decide) ?_
  refine sm_iadd (pc := 130) G hb (by decide +kernel : decode cX9_land 130 = .ok (.iadd, 1)) ?_
  refine sm_aload_n (pc := 131) G hb (by decide +kernel : decode cX9_land 131 = .ok (.aload_n 0, 1)) rfl ?_
  refine sm_get (pc := 132) (ci := 9) (j := 25) (N := 32) (T := TX9) G hb ho hy rfl (by decide) gin_9 gw6_21 (by decide +kernel : decode cX9_land 132 = .ok (.getfield 47, 3)) ?_
  refine sm_iload_n (pc := 135) G hb (by decide +kernel : decode cX9_land 135 = .ok (.iload_n 2, 1)) rfl ?_
  refine sm_iconst (pc := 136) G hb (by decide +kernel : decode cX9_land 136 = .ok (.iconst 3, 1)) (by decide) ?_
  refine sm_iadd (pc := 137) G hb (by decide +kernel : decode cX9_land 137 = .ok (.iadd, 1)) ?_
  refine sm_iald (pc := 138) G hb hy (by decide +kernel : decode cX9_land 138 = .ok (.iaload, 1)) ?_
  refine sm_iconst (pc := 139) G hb (by decide +kernel : decode cX9_land 139 = .ok (.iconst 1, 1)) (by decide) ?_
  refine sm_iload (pc := 140) G hb (by decide +kernel : decode cX9_land 140 = .ok (.iload 4, 2)) ?_
  refine sm_ishl (pc := 142) G hb (by decide +kernel : decode cX9_land 142 = .ok (.ishl, 1)) ?_
  refine sm_ior (pc := 143) G hb (by decide +kernel : decode cX9_land 143 = .ok (.ior, 1)) ?_
  refine sm_iload (pc := 144) G hb (by decide +kernel : decode cX9_land 144 = .ok (.iload 4, 2)) ?_
  refine sm_mono (cav_sub gV_sub) (sm_callV (pc := 146) (N := 32) (T := TX9) (C := RX9) G hb ho hy he hE.1 6 [0, 1, 2, 3, 4, 5, 6, 7, 8, 9, 10, 11, 12, 13, 14, 15, 16, 17] (kX9_come hE N) (gCo_of (by decide +kernel)) (by rw [hR]; exact ⟨by decide, by decide⟩) rfl rfl (by decide +kernel) gw7_68 gw7_70 gw0_60 gw1_11 gw7_71 (by decide +kernel : decode cX9_land 146 = .ok (.invokevirtual 293, 3)) ?_)
  exact sm_vret (pc := 149) G hb (by decide +kernel : decode cX9_land 149 = .ok (.return_, 1)) hr
set_option maxRecDepth 100000 in
set_option maxHeartbeats 4000000 in
theorem fX9_land_s100 {γ : gG} {cs ss : Nat} {ε : gE5} (N : Nat) (G : gOK γ) (hb : gcc γ = cX9_land) (ho : gow γ = RX9) (hy : gly γ = gyM) (hR : grm γ = { frames := 2, cells := 0, slots := 0, locals := 45 }) (he : genv γ = ε) (hr : grt γ = none) (hE : gEnv ε) : gSm γ cs ss 100 (fX9_land_k100 N) := by
  unfold fX9_land_k100
  refine sm_if_eq (pc := 100) (tgt := 107) G hb (by decide +kernel : decode cX9_land 100 = .ok (.ifCond .eq 7, 3)) (by decide) ?_ ?_
  · skip
    refine sm_iconst (pc := 107) G hb (by decide +kernel : decode cX9_land 107 = .ok (.iconst 0, 1)) (by decide) ?_
    refine sm_mask ?_
    exact fX9_land_s108 N G hb ho hy hR he hr hE
  · skip
    refine sm_iconst (pc := 103) G hb (by decide +kernel : decode cX9_land 103 = .ok (.iconst 1, 1)) (by decide) ?_
    refine sm_goto (pc := 104) (tgt := 108) G hb (by decide +kernel : decode cX9_land 104 = .ok (.goto 4, 3)) (by decide) ?_
    refine sm_mask ?_
    exact fX9_land_s108 N G hb ho hy hR he hr hE
set_option maxRecDepth 100000 in
set_option maxHeartbeats 4000000 in
theorem fX9_land_s0 {γ : gG} {cs ss : Nat} {ε : gE5} (N : Nat) (G : gOK γ) (hb : gcc γ = cX9_land) (ho : gow γ = RX9) (hy : gly γ = gyM) (hR : grm γ = { frames := 2, cells := 0, slots := 0, locals := 45 }) (he : genv γ = ε) (hr : grt γ = none) (hE : gEnv ε) : gSm γ cs ss 0 (fX9_land_k0 N) := by
  unfold fX9_land_k0
  refine sm_iconst (pc := 0) G hb (by decide +kernel : decode cX9_land 0 = .ok (.iconst 5, 1)) (by decide) ?_
  refine sm_iload_n (pc := 1) G hb (by decide +kernel : decode cX9_land 1 = .ok (.iload_n 1, 1)) rfl ?_
  refine sm_imul (pc := 2) G hb (by decide +kernel : decode cX9_land 2 = .ok (.imul, 1)) ?_
  refine sm_istore_n (pc := 3) G hb (by decide +kernel : decode cX9_land 3 = .ok (.istore_n 2, 1)) rfl ?_
  refine sm_aload_n (pc := 4) G hb (by decide +kernel : decode cX9_land 4 = .ok (.aload_n 0, 1)) rfl ?_
  refine sm_get (pc := 5) (ci := 9) (j := 25) (N := 32) (T := TX9) G hb ho hy rfl (by decide) gin_9 gw6_21 (by decide +kernel : decode cX9_land 5 = .ok (.getfield 47, 3)) ?_
  refine sm_iload_n (pc := 8) G hb (by decide +kernel : decode cX9_land 8 = .ok (.iload_n 2, 1)) rfl ?_
  refine sm_iconst (pc := 9) G hb (by decide +kernel : decode cX9_land 9 = .ok (.iconst 0, 1)) (by decide) ?_
  refine sm_iadd (pc := 10) G hb (by decide +kernel : decode cX9_land 10 = .ok (.iadd, 1)) ?_
  refine sm_iald (pc := 11) G hb hy (by decide +kernel : decode cX9_land 11 = .ok (.iaload, 1)) ?_
  refine sm_istore_n (pc := 12) G hb (by decide +kernel : decode cX9_land 12 = .ok (.istore_n 3, 1)) rfl ?_
  refine sm_aload_n (pc := 13) G hb (by decide +kernel : decode cX9_land 13 = .ok (.aload_n 0, 1)) rfl ?_
  refine sm_aload_n (pc := 14) G hb (by decide +kernel : decode cX9_land 14 = .ok (.aload_n 0, 1)) rfl ?_
  refine sm_get (pc := 15) (ci := 9) (j := 26) (N := 32) (T := TX9) G hb ho hy rfl (by decide) gin_9 gw6_22 (by decide +kernel : decode cX9_land 15 = .ok (.getfield 50, 3)) ?_
  refine sm_iload_n (pc := 18) G hb (by decide +kernel : decode cX9_land 18 = .ok (.iload_n 1, 1)) rfl ?_
  refine sm_iald (pc := 19) G hb hy (by decide +kernel : decode cX9_land 19 = .ok (.iaload, 1)) ?_
  refine sm_iconst (pc := 20) G hb (by decide +kernel : decode cX9_land 20 = .ok (.iconst 1, 1)) (by decide) ?_
  refine sm_mono (cav_sub gI_sub) (sm_callV (pc := 21) (N := 32) (T := TX9) (C := RX9) G hb ho hy he hE.1 3 [0, 1, 2, 3, 4, 5, 6, 7, 8, 9, 10, 11, 12, 13, 14, 15, 16, 17] (kX9_linkPart hE N) (gCo_of (by decide +kernel)) (by rw [hR]; exact ⟨by decide, by decide⟩) rfl rfl (by decide +kernel) gw7_143 gw7_145 gw0_74 gw1_11 gw7_146 (by decide +kernel : decode cX9_land 21 = .ok (.invokevirtual 250, 3)) ?_)
  refine sm_istore (pc := 24) G hb (by decide +kernel : decode cX9_land 24 = .ok (.istore 4, 2)) ?_
  refine sm_aload_n (pc := 26) G hb (by decide +kernel : decode cX9_land 26 = .ok (.aload_n 0, 1)) rfl ?_
  refine sm_get (pc := 27) (ci := 9) (j := 9) (N := 32) (T := TX9) G hb ho hy rfl (by decide) gin_9 gw6_5 (by decide +kernel : decode cX9_land 27 = .ok (.getfield 16, 3)) ?_
  refine sm_bipush (pc := 30) G hb (by decide +kernel : decode cX9_land 30 = .ok (.bipush 9, 2)) (by decide) ?_
  refine sm_iconst (pc := 32) G hb (by decide +kernel : decode cX9_land 32 = .ok (.iconst 4, 1)) (by decide) ?_
  refine sm_aload_n (pc := 33) G hb (by decide +kernel : decode cX9_land 33 = .ok (.aload_n 0, 1)) rfl ?_
  refine sm_get (pc := 34) (ci := 9) (j := 26) (N := 32) (T := TX9) G hb ho hy rfl (by decide) gin_9 gw6_22 (by decide +kernel : decode cX9_land 34 = .ok (.getfield 50, 3)) ?_
  refine sm_iload_n (pc := 37) G hb (by decide +kernel : decode cX9_land 37 = .ok (.iload_n 1, 1)) rfl ?_
  refine sm_iald (pc := 38) G hb hy (by decide +kernel : decode cX9_land 38 = .ok (.iaload, 1)) ?_
  refine sm_imul (pc := 39) G hb (by decide +kernel : decode cX9_land 39 = .ok (.imul, 1)) ?_
  refine sm_iadd (pc := 40) G hb (by decide +kernel : decode cX9_land 40 = .ok (.iadd, 1)) ?_
  refine sm_iconst (pc := 41) G hb (by decide +kernel : decode cX9_land 41 = .ok (.iconst 3, 1)) (by decide) ?_
  refine sm_iadd (pc := 42) G hb (by decide +kernel : decode cX9_land 42 = .ok (.iadd, 1)) ?_
  refine sm_dup2 (pc := 43) G hb (by decide +kernel : decode cX9_land 43 = .ok (.dup2, 1)) ?_
  refine sm_iald (pc := 44) G hb hy (by decide +kernel : decode cX9_land 44 = .ok (.iaload, 1)) ?_
  refine sm_iconst (pc := 45) G hb (by decide +kernel : decode cX9_land 45 = .ok (.iconst 1, 1)) (by decide) ?_
  refine sm_iadd (pc := 46) G hb (by decide +kernel : decode cX9_land 46 = .ok (.iadd, 1)) ?_
  refine sm_iast (pc := 47) G hb hy (by decide +kernel : decode cX9_land 47 = .ok (.iastore, 1)) ?_
  refine sm_iload (pc := 48) G hb (by decide +kernel : decode cX9_land 48 = .ok (.iload 4, 2)) ?_
  refine sm_aload_n (pc := 50) G hb (by decide +kernel : decode cX9_land 50 = .ok (.aload_n 0, 1)) rfl ?_
  refine sm_iload_n (pc := 51) G hb (by decide +kernel : decode cX9_land 51 = .ok (.iload_n 3, 1)) rfl ?_
  refine sm_iconst (pc := 52) G hb (by decide +kernel : decode cX9_land 52 = .ok (.iconst 1, 1)) (by decide) ?_
  refine sm_mono (cav_sub gI_sub) (sm_callV (pc := 53) (N := 32) (T := TX9) (C := RX9) G hb ho hy he hE.1 3 [0, 1, 2, 3, 4, 5, 6, 7, 8, 9, 10, 11, 12, 13, 14, 15, 16, 17] (kX9_flowPart hE N) (gCo_of (by decide +kernel)) (by rw [hR]; exact ⟨by decide, by decide⟩) rfl rfl (by decide +kernel) gw7_64 gw7_66 gw0_59 gw1_11 gw7_67 (by decide +kernel : decode cX9_land 53 = .ok (.invokevirtual 240, 3)) ?_)
  refine sm_icmp_ne (pc := 56) (tgt := 83) G hb (by decide +kernel : decode cX9_land 56 = .ok (.if_icmp .ne 27, 3)) (by decide) ?_ ?_
  · skip
    refine sm_aload_n (pc := 83) G hb (by decide +kernel : decode cX9_land 83 = .ok (.aload_n 0, 1)) rfl ?_
    refine sm_iload_n (pc := 84) G hb (by decide +kernel : decode cX9_land 84 = .ok (.iload_n 3, 1)) rfl ?_
    refine sm_bipush (pc := 85) G hb (by decide +kernel : decode cX9_land 85 = .ok (.bipush 8, 2)) (by decide) ?_
    refine sm_aload_n (pc := 87) G hb (by decide +kernel : decode cX9_land 87 = .ok (.aload_n 0, 1)) rfl ?_
    refine sm_get (pc := 88) (ci := 9) (j := 25) (N := 32) (T := TX9) G hb ho hy rfl (by decide) gin_9 gw6_21 (by decide +kernel : decode cX9_land 88 = .ok (.getfield 47, 3)) ?_
    refine sm_iload_n (pc := 91) G hb (by decide +kernel : decode cX9_land 91 = .ok (.iload_n 2, 1)) rfl ?_
    refine sm_iconst (pc := 92) G hb (by decide +kernel : decode cX9_land 92 = .ok (.iconst 3, 1)) (by decide) ?_
    refine sm_iadd (pc := 93) G hb (by decide +kernel : decode cX9_land 93 = .ok (.iadd, 1)) ?_
    refine sm_iald (pc := 94) G hb hy (by decide +kernel : decode cX9_land 94 = .ok (.iaload, 1)) ?_
    refine sm_iload (pc := 95) G hb (by decide +kernel : decode cX9_land 95 = .ok (.iload 4, 2)) ?_
    refine sm_mono (ca_sub gI_sub) (sm_callS (pc := 97) G hb ho hy he hE.1 2 [] (kX9_has hE N) (gCo_of (by decide +kernel)) (by rw [hR]; exact ⟨by decide, by decide⟩) (by decide +kernel) gw6_187 gw6_188 gw1_11 gw6_189 (by decide +kernel : decode cX9_land 97 = .ok (.invokestatic 170, 3)) ?_)
    refine sm_mask ?_
    exact fX9_land_s100 N G hb ho hy hR he hr hE
  · skip
    refine sm_aload_n (pc := 59) G hb (by decide +kernel : decode cX9_land 59 = .ok (.aload_n 0, 1)) rfl ?_
    refine sm_iload_n (pc := 60) G hb (by decide +kernel : decode cX9_land 60 = .ok (.iload_n 3, 1)) rfl ?_
    refine sm_aload_n (pc := 61) G hb (by decide +kernel : decode cX9_land 61 = .ok (.aload_n 0, 1)) rfl ?_
    refine sm_get (pc := 62) (ci := 9) (j := 9) (N := 32) (T := TX9) G hb ho hy rfl (by decide) gin_9 gw6_5 (by decide +kernel : decode cX9_land 62 = .ok (.getfield 16, 3)) ?_
    refine sm_bipush (pc := 65) G hb (by decide +kernel : decode cX9_land 65 = .ok (.bipush 7, 2)) (by decide) ?_
    refine sm_iald (pc := 67) G hb hy (by decide +kernel : decode cX9_land 67 = .ok (.iaload, 1)) ?_
    refine sm_iconst (pc := 68) G hb (by decide +kernel : decode cX9_land 68 = .ok (.iconst 1, 1)) (by decide) ?_
    refine sm_iadd (pc := 69) G hb (by decide +kernel : decode cX9_land 69 = .ok (.iadd, 1)) ?_
    refine sm_aload_n (pc := 70) G hb (by decide +kernel : decode cX9_land 70 = .ok (.aload_n 0, 1)) rfl ?_
    refine sm_get (pc := 71) (ci := 9) (j := 25) (N := 32) (T := TX9) G hb ho hy rfl (by decide) gin_9 gw6_21 (by decide +kernel : decode cX9_land 71 = .ok (.getfield 47, 3)) ?_
    refine sm_iload_n (pc := 74) G hb (by decide +kernel : decode cX9_land 74 = .ok (.iload_n 2, 1)) rfl ?_
    refine sm_iconst (pc := 75) G hb (by decide +kernel : decode cX9_land 75 = .ok (.iconst 1, 1)) (by decide) ?_
    refine sm_iadd (pc := 76) G hb (by decide +kernel : decode cX9_land 76 = .ok (.iadd, 1)) ?_
    refine sm_iald (pc := 77) G hb hy (by decide +kernel : decode cX9_land 77 = .ok (.iaload, 1)) ?_
    refine sm_isub (pc := 78) G hb (by decide +kernel : decode cX9_land 78 = .ok (.isub, 1)) ?_
    refine sm_mono (cav_sub gV_sub) (sm_callV (pc := 79) (N := 32) (T := TX9) (C := RX9) G hb ho hy he hE.1 3 [0, 1, 2, 3, 4, 5, 6, 7, 8, 9, 10, 11, 12, 13, 14, 15, 16, 17] (kX9_deliver hE N) (gCo_of (by decide +kernel)) (by rw [hR]; exact ⟨by decide, by decide⟩) rfl rfl (by decide +kernel) gw7_184 gw7_186 gw0_84 gw1_11 gw7_187 (by decide +kernel : decode cX9_land 79 = .ok (.invokevirtual 306, 3)) ?_)
    exact sm_vret (pc := 82) G hb (by decide +kernel : decode cX9_land 82 = .ok (.return_, 1)) hr
theorem kX9_land {ε : gE5} (hE : gEnv ε) (N : Nat) : gCtr ε yX9_land cX9_land 5 none 2 45 gyM (fX9_land N) :=
  gCtr_of hE.1 (by decide) (fun γ G hb ho hy hR he hr => fX9_land_s0 N G hb ho hy hR he hr hE)

set_option maxRecDepth 100000 in
set_option maxHeartbeats 4000000 in
theorem fX9_transmit_s135 {γ : gG} {cs ss : Nat} {ε : gE5} (N : Nat) (G : gOK γ) (hb : gcc γ = cX9_transmit) (ho : gow γ = RX9) (hy : gly γ = gyM) (hR : grm γ = { frames := 4, cells := 0, slots := 0, locals := 92 }) (he : genv γ = ε) (hr : grt γ = none) (hE : gEnv ε) (K68 : gK) (h68 : gSm γ cs ss 68 K68) : gSm γ cs ss 135 (fX9_transmit_k135 N K68) := by
  unfold fX9_transmit_k135
  refine sm_iinc (pc := 135) G hb (by decide +kernel : decode cX9_transmit 135 = .ok (.iinc 3 1, 3)) (by decide) ?_
  refine sm_goto (pc := 138) (tgt := 68) G hb (by decide +kernel : decode cX9_transmit 138 = .ok (.goto (-70), 3)) (by decide) ?_
  refine sm_mask ?_
  exact h68
set_option maxRecDepth 100000 in
set_option maxHeartbeats 4000000 in
theorem fX9_transmit_s116 {γ : gG} {cs ss : Nat} {ε : gE5} (N : Nat) (G : gOK γ) (hb : gcc γ = cX9_transmit) (ho : gow γ = RX9) (hy : gly γ = gyM) (hR : grm γ = { frames := 4, cells := 0, slots := 0, locals := 92 }) (he : genv γ = ε) (hr : grt γ = none) (hE : gEnv ε) (K68 : gK) (h68 : gSm γ cs ss 68 K68) : gSm γ cs ss 116 (fX9_transmit_k116 N K68) := by
  unfold fX9_transmit_k116
  refine sm_imul (pc := 116) G hb (by decide +kernel : decode cX9_transmit 116 = .ok (.imul, 1)) ?_
  refine sm_iadd (pc := 117) G hb (by decide +kernel : decode cX9_transmit 117 = .ok (.iadd, 1)) ?_
  refine sm_aload_n (pc := 118) G hb (by decide +kernel : decode cX9_transmit 118 = .ok (.aload_n 0, 1)) rfl ?_
  refine sm_get (pc := 119) (ci := 9) (j := 21) (N := 32) (T := TX9) G hb ho hy rfl (by decide) gin_9 gw6_17 (by decide +kernel : decode cX9_transmit 119 = .ok (.getfield 41, 3)) ?_
  refine sm_iload_n (pc := 122) G hb (by decide +kernel : decode cX9_transmit 122 = .ok (.iload_n 3, 1)) rfl ?_
  refine sm_iald (pc := 123) G hb hy (by decide +kernel : decode cX9_transmit 123 = .ok (.iaload, 1)) ?_
  refine sm_iadd (pc := 124) G hb (by decide +kernel : decode cX9_transmit 124 = .ok (.iadd, 1)) ?_
  refine sm_dup2 (pc := 125) G hb (by decide +kernel : decode cX9_transmit 125 = .ok (.dup2, 1)) ?_
  refine sm_iald (pc := 126) G hb hy (by decide +kernel : decode cX9_transmit 126 = .ok (.iaload, 1)) ?_
  refine sm_aload_n (pc := 127) G hb (by decide +kernel : decode cX9_transmit 127 = .ok (.aload_n 0, 1)) rfl ?_
  refine sm_get (pc := 128) (ci := 9) (j := 27) (N := 32) (T := TX9) G hb ho hy rfl (by decide) gin_9 gw6_23 (by decide +kernel : decode cX9_transmit 128 = .ok (.getfield 53, 3)) ?_
  refine sm_iload_n (pc := 131) G hb (by decide +kernel : decode cX9_transmit 131 = .ok (.iload_n 3, 1)) rfl ?_
  refine sm_iald (pc := 132) G hb hy (by decide +kernel : decode cX9_transmit 132 = .ok (.iaload, 1)) ?_
  refine sm_iadd (pc := 133) G hb (by decide +kernel : decode cX9_transmit 133 = .ok (.iadd, 1)) ?_
  refine sm_iast (pc := 134) G hb hy (by decide +kernel : decode cX9_transmit 134 = .ok (.iastore, 1)) ?_
  refine sm_mask ?_
  exact fX9_transmit_s135 N G hb ho hy hR he hr hE K68 h68
set_option maxRecDepth 100000 in
set_option maxHeartbeats 4000000 in
theorem fX9_transmit_s68 {γ : gG} {cs ss : Nat} {ε : gE5} (N : Nat) (G : gOK γ) (hb : gcc γ = cX9_transmit) (ho : gow γ = RX9) (hy : gly γ = gyM) (hR : grm γ = { frames := 4, cells := 0, slots := 0, locals := 92 }) (he : genv γ = ε) (hr : grt γ = none) (hE : gEnv ε) : gSm γ cs ss 68 (fX9_transmit_k68 N) := by
  unfold fX9_transmit_k68
  refine sm_lp (fun K68 h68 => ?_) N
  unfold fX9_transmit_b68
  refine sm_iload_n (pc := 68) G hb (by decide +kernel : decode cX9_transmit 68 = .ok (.iload_n 3, 1)) rfl ?_
  refine sm_aload_n (pc := 69) G hb (by decide +kernel : decode cX9_transmit 69 = .ok (.aload_n 0, 1)) rfl ?_
  refine sm_get (pc := 70) (ci := 9) (j := 9) (N := 32) (T := TX9) G hb ho hy rfl (by decide) gin_9 gw6_5 (by decide +kernel : decode cX9_transmit 70 = .ok (.getfield 16, 3)) ?_
  refine sm_iconst (pc := 73) G hb (by decide +kernel : decode cX9_transmit 73 = .ok (.iconst 1, 1)) (by decide) ?_
  refine sm_iald (pc := 74) G hb hy (by decide +kernel : decode cX9_transmit 74 = .ok (.iaload, 1)) ?_
  refine sm_icmp_ge (pc := 75) (tgt := 141) G hb (by decide +kernel : decode cX9_transmit 75 = .ok (.if_icmp .ge 66, 3)) (by decide) ?_ ?_
  · skip
    exact sm_vret (pc := 141) G hb (by decide +kernel : decode cX9_transmit 141 = .ok (.return_, 1)) hr
  · skip
    refine sm_iload_n (pc := 78) G hb (by decide +kernel : decode cX9_transmit 78 = .ok (.iload_n 1, 1)) rfl ?_
    refine sm_iload_n (pc := 79) G hb (by decide +kernel : decode cX9_transmit 79 = .ok (.iload_n 3, 1)) rfl ?_
    refine sm_mono (ca_sub gI_sub) (sm_callS (pc := 80) G hb ho hy he hE.1 2 [] (kX9_has hE N) (gCo_of (by decide +kernel)) (by rw [hR]; exact ⟨by decide, by decide⟩) (by decide +kernel) gw6_187 gw6_188 gw1_11 gw6_189 (by decide +kernel : decode cX9_transmit 80 = .ok (.invokestatic 170, 3)) ?_)
    refine sm_if_eq (pc := 83) (tgt := 135) G hb (by decide +kernel : decode cX9_transmit 83 = .ok (.ifCond .eq 52, 3)) (by decide) ?_ ?_
    · skip
      refine sm_mask ?_
      exact fX9_transmit_s135 N G hb ho hy hR he hr hE K68 h68
    · skip
      refine sm_aload_n (pc := 86) G hb (by decide +kernel : decode cX9_transmit 86 = .ok (.aload_n 0, 1)) rfl ?_
      refine sm_iload_n (pc := 87) G hb (by decide +kernel : decode cX9_transmit 87 = .ok (.iload_n 3, 1)) rfl ?_
      refine sm_iconst (pc := 88) G hb (by decide +kernel : decode cX9_transmit 88 = .ok (.iconst 1, 1)) (by decide) ?_
      refine sm_mono (cav_sub gI_sub) (sm_callV (pc := 89) (N := 32) (T := TX9) (C := RX9) G hb ho hy he hE.1 3 [0, 1, 2, 3, 4, 5, 6, 7, 8, 9, 10, 11, 12, 13, 14, 15, 16, 17] (kX9_linkPart hE N) (gCo_of (by decide +kernel)) (by rw [hR]; exact ⟨by decide, by decide⟩) rfl rfl (by decide +kernel) gw7_143 gw7_145 gw0_74 gw1_11 gw7_146 (by decide +kernel : decode cX9_transmit 89 = .ok (.invokevirtual 250, 3)) ?_)
      refine sm_aload_n (pc := 92) G hb (by decide +kernel : decode cX9_transmit 92 = .ok (.aload_n 0, 1)) rfl ?_
      refine sm_get (pc := 93) (ci := 9) (j := 21) (N := 32) (T := TX9) G hb ho hy rfl (by decide) gin_9 gw6_17 (by decide +kernel : decode cX9_transmit 93 = .ok (.getfield 41, 3)) ?_
      refine sm_iload_n (pc := 96) G hb (by decide +kernel : decode cX9_transmit 96 = .ok (.iload_n 3, 1)) rfl ?_
      refine sm_iald (pc := 97) G hb hy (by decide +kernel : decode cX9_transmit 97 = .ok (.iaload, 1)) ?_
      refine sm_icmp_eq (pc := 98) (tgt := 135) G hb (by decide +kernel : decode cX9_transmit 98 = .ok (.if_icmp .eq 37, 3)) (by decide) ?_ ?_
      · skip
        refine sm_mask ?_
        exact fX9_transmit_s135 N G hb ho hy hR he hr hE K68 h68
      · skip
        refine sm_aload_n (pc := 101) G hb (by decide +kernel : decode cX9_transmit 101 = .ok (.aload_n 0, 1)) rfl ?_
        refine sm_get (pc := 102) (ci := 9) (j := 9) (N := 32) (T := TX9) G hb ho hy rfl (by decide) gin_9 gw6_5 (by decide +kernel : decode cX9_transmit 102 = .ok (.getfield 16, 3)) ?_
        refine sm_sipush (pc := 105) G hb (by decide +kernel : decode cX9_transmit 105 = .ok (.sipush 145, 3)) (by decide) ?_
        refine sm_bipush (pc := 108) G hb (by decide +kernel : decode cX9_transmit 108 = .ok (.bipush 10, 2)) (by decide) ?_
        refine sm_aload_n (pc := 110) G hb (by decide +kernel : decode cX9_transmit 110 = .ok (.aload_n 0, 1)) rfl ?_
        refine sm_iload_n (pc := 111) G hb (by decide +kernel : decode cX9_transmit 111 = .ok (.iload_n 3, 1)) rfl ?_
        refine sm_iconst (pc := 112) G hb (by decide +kernel : decode cX9_transmit 112 = .ok (.iconst 1, 1)) (by decide) ?_
        refine sm_mono (cav_sub gI_sub) (sm_callV (pc := 113) (N := 32) (T := TX9) (C := RX9) G hb ho hy he hE.1 3 [0, 1, 2, 3, 4, 5, 6, 7, 8, 9, 10, 11, 12, 13, 14, 15, 16, 17] (kX9_linkPart hE N) (gCo_of (by decide +kernel)) (by rw [hR]; exact ⟨by decide, by decide⟩) rfl rfl (by decide +kernel) gw7_143 gw7_145 gw0_74 gw1_11 gw7_146 (by decide +kernel : decode cX9_transmit 113 = .ok (.invokevirtual 250, 3)) ?_)
        refine sm_mask ?_
        exact fX9_transmit_s116 N G hb ho hy hR he hr hE K68 h68
set_option maxRecDepth 100000 in
set_option maxHeartbeats 4000000 in
theorem fX9_transmit_s47 {γ : gG} {cs ss : Nat} {ε : gE5} (N : Nat) (G : gOK γ) (hb : gcc γ = cX9_transmit) (ho : gow γ = RX9) (hy : gly γ = gyM) (hR : grm γ = { frames := 4, cells := 0, slots := 0, locals := 92 }) (he : genv γ = ε) (hr : grt γ = none) (hE : gEnv ε) : gSm γ cs ss 47 (fX9_transmit_k47 N) := by
  unfold fX9_transmit_k47
  refine sm_lp (fun K47 h47 => ?_) N
  unfold fX9_transmit_b47
  refine sm_iload_n (pc := 47) G hb (by decide +kernel : decode cX9_transmit 47 = .ok (.iload_n 3, 1)) rfl ?_
  refine sm_aload_n (pc := 48) G hb (by decide +kernel : decode cX9_transmit 48 = .ok (.aload_n 0, 1)) rfl ?_
  refine sm_get (pc := 49) (ci := 9) (j := 28) (N := 32) (T := TX9) G hb ho hy rfl (by decide) gin_9 gw6_24 (by decide +kernel : decode cX9_transmit 49 = .ok (.getfield 303, 3)) ?_
  refine sm_icmp_ge (pc := 52) (tgt := 66) G hb (by decide +kernel : decode cX9_transmit 52 = .ok (.if_icmp .ge 14, 3)) (by decide) ?_ ?_
  · skip
    refine sm_iconst (pc := 66) G hb (by decide +kernel : decode cX9_transmit 66 = .ok (.iconst 0, 1)) (by decide) ?_
    refine sm_istore_n (pc := 67) G hb (by decide +kernel : decode cX9_transmit 67 = .ok (.istore_n 3, 1)) rfl ?_
    refine sm_mask ?_
    exact fX9_transmit_s68 N G hb ho hy hR he hr hE
  · skip
    refine sm_aload_n (pc := 55) G hb (by decide +kernel : decode cX9_transmit 55 = .ok (.aload_n 0, 1)) rfl ?_
    refine sm_iload_n (pc := 56) G hb (by decide +kernel : decode cX9_transmit 56 = .ok (.iload_n 3, 1)) rfl ?_
    refine sm_mono (cav_sub gV_sub) (sm_callV (pc := 57) (N := 32) (T := TX9) (C := RX9) G hb ho hy he hE.1 2 [0, 1, 2, 3, 4, 5, 6, 7, 8, 9, 10, 11, 12, 13, 14, 15, 16, 17] (kX9_land hE N) (gCo_of (by decide +kernel)) (by rw [hR]; exact ⟨by decide, by decide⟩) rfl rfl (by decide +kernel) gw7_180 gw7_182 gw0_83 gw1_11 gw7_183 (by decide +kernel : decode cX9_transmit 57 = .ok (.invokevirtual 319, 3)) ?_)
    refine sm_iinc (pc := 60) G hb (by decide +kernel : decode cX9_transmit 60 = .ok (.iinc 3 1, 3)) (by decide) ?_
    refine sm_goto (pc := 63) (tgt := 47) G hb (by decide +kernel : decode cX9_transmit 63 = .ok (.goto (-16), 3)) (by decide) ?_
    refine sm_mask ?_
    exact h47
set_option maxRecDepth 100000 in
set_option maxHeartbeats 4000000 in
theorem fX9_transmit_s34 {γ : gG} {cs ss : Nat} {ε : gE5} (N : Nat) (G : gOK γ) (hb : gcc γ = cX9_transmit) (ho : gow γ = RX9) (hy : gly γ = gyM) (hR : grm γ = { frames := 4, cells := 0, slots := 0, locals := 92 }) (he : genv γ = ε) (hr : grt γ = none) (hE : gEnv ε) (K11 : gK) (h11 : gSm γ cs ss 11 K11) : gSm γ cs ss 34 (fX9_transmit_k34 N K11) := by
  unfold fX9_transmit_k34
  refine sm_iinc (pc := 34) G hb (by decide +kernel : decode cX9_transmit 34 = .ok (.iinc 2 1, 3)) (by decide) ?_
  refine sm_goto (pc := 37) (tgt := 11) G hb (by decide +kernel : decode cX9_transmit 37 = .ok (.goto (-26), 3)) (by decide) ?_
  refine sm_mask ?_
  exact h11
set_option maxRecDepth 100000 in
set_option maxHeartbeats 4000000 in
theorem fX9_transmit_s11 {γ : gG} {cs ss : Nat} {ε : gE5} (N : Nat) (G : gOK γ) (hb : gcc γ = cX9_transmit) (ho : gow γ = RX9) (hy : gly γ = gyM) (hR : grm γ = { frames := 4, cells := 0, slots := 0, locals := 92 }) (he : genv γ = ε) (hr : grt γ = none) (hE : gEnv ε) : gSm γ cs ss 11 (fX9_transmit_k11 N) := by
  unfold fX9_transmit_k11
  refine sm_lp (fun K11 h11 => ?_) N
  unfold fX9_transmit_b11
  refine sm_iload_n (pc := 11) G hb (by decide +kernel : decode cX9_transmit 11 = .ok (.iload_n 2, 1)) rfl ?_
  refine sm_aload_n (pc := 12) G hb (by decide +kernel : decode cX9_transmit 12 = .ok (.aload_n 0, 1)) rfl ?_
  refine sm_get (pc := 13) (ci := 9) (j := 9) (N := 32) (T := TX9) G hb ho hy rfl (by decide) gin_9 gw6_5 (by decide +kernel : decode cX9_transmit 13 = .ok (.getfield 16, 3)) ?_
  refine sm_iconst (pc := 16) G hb (by decide +kernel : decode cX9_transmit 16 = .ok (.iconst 1, 1)) (by decide) ?_
  refine sm_iald (pc := 17) G hb hy (by decide +kernel : decode cX9_transmit 17 = .ok (.iaload, 1)) ?_
  refine sm_icmp_ge (pc := 18) (tgt := 40) G hb (by decide +kernel : decode cX9_transmit 18 = .ok (.if_icmp .ge 22, 3)) (by decide) ?_ ?_
  · skip
    refine sm_aload_n (pc := 40) G hb (by decide +kernel : decode cX9_transmit 40 = .ok (.aload_n 0, 1)) rfl ?_
    refine sm_mono (cav_sub gI_sub) (sm_callV (pc := 41) (N := 32) (T := TX9) (C := RX9) G hb ho hy he hE.1 1 [0, 1, 2, 3, 4, 5, 6, 7, 8, 9, 10, 11, 12, 13, 14, 15, 16, 17] (kX9_closeUp hE N) (gCo_of (by decide +kernel)) (by rw [hR]; exact ⟨by decide, by decide⟩) rfl rfl (by decide +kernel) gw7_92 gw7_94 gw0_65 gw1_11 gw7_95 (by decide +kernel : decode cX9_transmit 41 = .ok (.invokevirtual 316, 3)) ?_)
    refine sm_istore_n (pc := 44) G hb (by decide +kernel : decode cX9_transmit 44 = .ok (.istore_n 2, 1)) rfl ?_
    refine sm_iconst (pc := 45) G hb (by decide +kernel : decode cX9_transmit 45 = .ok (.iconst 0, 1)) (by decide) ?_
    refine sm_istore_n (pc := 46) G hb (by decide +kernel : decode cX9_transmit 46 = .ok (.istore_n 3, 1)) rfl ?_
    refine sm_mask ?_
    exact fX9_transmit_s47 N G hb ho hy hR he hr hE
  · skip
    refine sm_iload_n (pc := 21) G hb (by decide +kernel : decode cX9_transmit 21 = .ok (.iload_n 1, 1)) rfl ?_
    refine sm_iload_n (pc := 22) G hb (by decide +kernel : decode cX9_transmit 22 = .ok (.iload_n 2, 1)) rfl ?_
    refine sm_mono (ca_sub gI_sub) (sm_callS (pc := 23) G hb ho hy he hE.1 2 [] (kX9_has hE N) (gCo_of (by decide +kernel)) (by rw [hR]; exact ⟨by decide, by decide⟩) (by decide +kernel) gw6_187 gw6_188 gw1_11 gw6_189 (by decide +kernel : decode cX9_transmit 23 = .ok (.invokestatic 170, 3)) ?_)
    refine sm_if_eq (pc := 26) (tgt := 34) G hb (by decide +kernel : decode cX9_transmit 26 = .ok (.ifCond .eq 8, 3)) (by decide) ?_ ?_
    · skip
      refine sm_mask ?_
      exact fX9_transmit_s34 N G hb ho hy hR he hr hE K11 h11
    · skip
      refine sm_aload_n (pc := 29) G hb (by decide +kernel : decode cX9_transmit 29 = .ok (.aload_n 0, 1)) rfl ?_
      refine sm_iload_n (pc := 30) G hb (by decide +kernel : decode cX9_transmit 30 = .ok (.iload_n 2, 1)) rfl ?_
      refine sm_mono (cav_sub gV_sub) (sm_callV (pc := 31) (N := 32) (T := TX9) (C := RX9) G hb ho hy he hE.1 2 [0, 1, 2, 3, 4, 5, 6, 7, 8, 9, 10, 11, 12, 13, 14, 15, 16, 17] (kX9_take hE N) (gCo_of (by decide +kernel)) (by rw [hR]; exact ⟨by decide, by decide⟩) rfl rfl (by decide +kernel) gw7_176 gw7_178 gw0_82 gw1_11 gw7_179 (by decide +kernel : decode cX9_transmit 31 = .ok (.invokevirtual 313, 3)) ?_)
      refine sm_mask ?_
      exact fX9_transmit_s34 N G hb ho hy hR he hr hE K11 h11
set_option maxRecDepth 100000 in
set_option maxHeartbeats 4000000 in
theorem fX9_transmit_s0 {γ : gG} {cs ss : Nat} {ε : gE5} (N : Nat) (G : gOK γ) (hb : gcc γ = cX9_transmit) (ho : gow γ = RX9) (hy : gly γ = gyM) (hR : grm γ = { frames := 4, cells := 0, slots := 0, locals := 92 }) (he : genv γ = ε) (hr : grt γ = none) (hE : gEnv ε) : gSm γ cs ss 0 (fX9_transmit_k0 N) := by
  unfold fX9_transmit_k0
  refine sm_aload_n (pc := 0) G hb (by decide +kernel : decode cX9_transmit 0 = .ok (.aload_n 0, 1)) rfl ?_
  refine sm_iconst (pc := 1) G hb (by decide +kernel : decode cX9_transmit 1 = .ok (.iconst 0, 1)) (by decide) ?_
  refine sm_put (pc := 2) (ci := 9) (j := 28) (N := 32) (T := TX9) G hb ho hy tyX9 tyX9_ok nmX9 rfl (by decide) gin_9 gw6_24 rfl rfl (by decide +kernel : decode cX9_transmit 2 = .ok (.putfield 303, 3)) ?_
  refine sm_aload_n (pc := 5) G hb (by decide +kernel : decode cX9_transmit 5 = .ok (.aload_n 0, 1)) rfl ?_
  refine sm_mono (cav_sub gV_sub) (sm_callV (pc := 6) (N := 32) (T := TX9) (C := RX9) G hb ho hy he hE.1 1 [0, 1, 2, 3, 4, 5, 6, 7, 8, 9, 10, 11, 12, 13, 14, 15, 16, 17] (kX9_stayAll hE N) (gCo_of (by decide +kernel)) (by rw [hR]; exact ⟨by decide, by decide⟩) rfl rfl (by decide +kernel) gw7_76 gw7_78 gw0_61 gw1_11 gw7_79 (by decide +kernel : decode cX9_transmit 6 = .ok (.invokevirtual 310, 3)) ?_)
  refine sm_iconst (pc := 9) G hb (by decide +kernel : decode cX9_transmit 9 = .ok (.iconst 0, 1)) (by decide) ?_
  refine sm_istore_n (pc := 10) G hb (by decide +kernel : decode cX9_transmit 10 = .ok (.istore_n 2, 1)) rfl ?_
  refine sm_mask ?_
  exact fX9_transmit_s11 N G hb ho hy hR he hr hE
theorem kX9_transmit {ε : gE5} (hE : gEnv ε) (N : Nat) : gCtr ε yX9_transmit cX9_transmit 4 none 4 92 gyM (fX9_transmit N) :=
  gCtr_of hE.1 (by decide) (fun γ G hb ho hy hR he hr => fX9_transmit_s0 N G hb ho hy hR he hr hE)

set_option maxRecDepth 100000 in
set_option maxHeartbeats 4000000 in
theorem fX9_expire_s85 {γ : gG} {cs ss : Nat} {ε : gE5} (N : Nat) (G : gOK γ) (hb : gcc γ = cX9_expire) (ho : gow γ = RX9) (hy : gly γ = gyM) (hR : grm γ = { frames := 2, cells := 0, slots := 0, locals := 45 }) (he : genv γ = ε) (hr : grt γ = none) (hE : gEnv ε) (K6 : gK) (h6 : gSm γ cs ss 6 K6) : gSm γ cs ss 85 (fX9_expire_k85 N K6) := by
  unfold fX9_expire_k85
  refine sm_mono (cav_sub gV_sub) (sm_callV (pc := 85) (N := 32) (T := TX9) (C := RX9) G hb ho hy he hE.1 4 [0, 1, 2, 3, 4, 5, 6, 7, 8, 9, 10, 11, 12, 13, 14, 15, 16, 17] (kX9_count hE N) (gCo_of (by decide +kernel)) (by rw [hR]; exact ⟨by decide, by decide⟩) rfl rfl (by decide +kernel) gw7_60 gw7_62 gw0_58 gw1_11 gw7_63 (by decide +kernel : decode cX9_expire 85 = .ok (.invokevirtual 289, 3)) ?_)
  refine sm_iinc (pc := 88) G hb (by decide +kernel : decode cX9_expire 88 = .ok (.iinc 1 1, 3)) (by decide) ?_
  refine sm_goto (pc := 91) (tgt := 6) G hb (by decide +kernel : decode cX9_expire 91 = .ok (.goto (-85), 3)) (by decide) ?_
  refine sm_mask ?_
  exact h6
set_option maxRecDepth 100000 in
set_option maxHeartbeats 4000000 in
theorem fX9_expire_s66 {γ : gG} {cs ss : Nat} {ε : gE5} (N : Nat) (G : gOK γ) (hb : gcc γ = cX9_expire) (ho : gow γ = RX9) (hy : gly γ = gyM) (hR : grm γ = { frames := 2, cells := 0, slots := 0, locals := 45 }) (he : genv γ = ε) (hr : grt γ = none) (hE : gEnv ε) (K6 : gK) (h6 : gSm γ cs ss 6 K6) : gSm γ cs ss 66 (fX9_expire_k66 N K6) := by
  unfold fX9_expire_k66
  refine sm_zast (pc := 66) G hb hy (by decide +kernel : decode cX9_expire 66 = .ok (.bastore, 1)) ?_
  refine sm_aload_n (pc := 67) G hb (by decide +kernel : decode cX9_expire 67 = .ok (.aload_n 0, 1)) rfl ?_
  refine sm_iload_n (pc := 68) G hb (by decide +kernel : decode cX9_expire 68 = .ok (.iload_n 2, 1)) rfl ?_
  refine sm_bipush (pc := 69) G hb (by decide +kernel : decode cX9_expire 69 = .ok (.bipush 7, 2)) (by decide) ?_
  refine sm_aload_n (pc := 71) G hb (by decide +kernel : decode cX9_expire 71 = .ok (.aload_n 0, 1)) rfl ?_
  refine sm_get (pc := 72) (ci := 9) (j := 17) (N := 32) (T := TX9) G hb ho hy rfl (by decide) gin_9 gw6_13 (by decide +kernel : decode cX9_expire 72 = .ok (.getfield 28, 3)) ?_
  refine sm_iload_n (pc := 75) G hb (by decide +kernel : decode cX9_expire 75 = .ok (.iload_n 1, 1)) rfl ?_
  refine sm_zald (pc := 76) G hb hy (by decide +kernel : decode cX9_expire 76 = .ok (.baload, 1)) ?_
  refine sm_if_eq (pc := 77) (tgt := 84) G hb (by decide +kernel : decode cX9_expire 77 = .ok (.ifCond .eq 7, 3)) (by decide) ?_ ?_
  · skip
    refine sm_iconst (pc := 84) G hb (by decide +kernel : decode cX9_expire 84 = .ok (.iconst 0, 1)) (by decide) ?_
    refine sm_mask ?_
    exact fX9_expire_s85 N G hb ho hy hR he hr hE K6 h6
  · skip
    refine sm_iconst (pc := 80) G hb (by decide +kernel : decode cX9_expire 80 = .ok (.iconst 1, 1)) (by decide) ?_
    refine sm_goto (pc := 81) (tgt := 85) G hb (by decide +kernel : decode cX9_expire 81 = .ok (.goto 4, 3)) (by decide) ?_
    refine sm_mask ?_
    exact fX9_expire_s85 N G hb ho hy hR he hr hE K6 h6
set_option maxRecDepth 100000 in
set_option maxHeartbeats 4000000 in
theorem fX9_expire_s65 {γ : gG} {cs ss : Nat} {ε : gE5} (N : Nat) (G : gOK γ) (hb : gcc γ = cX9_expire) (ho : gow γ = RX9) (hy : gly γ = gyM) (hR : grm γ = { frames := 2, cells := 0, slots := 0, locals := 45 }) (he : genv γ = ε) (hr : grt γ = none) (hE : gEnv ε) (K6 : gK) (h6 : gSm γ cs ss 6 K6) : gSm γ cs ss 65 (fX9_expire_k65 N K6) := by
  unfold fX9_expire_k65
  refine sm_iconst (pc := 65) G hb (by decide +kernel : decode cX9_expire 65 = .ok (.iconst 0, 1)) (by decide) ?_
  refine sm_mask ?_
  exact fX9_expire_s66 N G hb ho hy hR he hr hE K6 h6
set_option maxRecDepth 100000 in
set_option maxHeartbeats 4000000 in
theorem fX9_expire_s56 {γ : gG} {cs ss : Nat} {ε : gE5} (N : Nat) (G : gOK γ) (hb : gcc γ = cX9_expire) (ho : gow γ = RX9) (hy : gly γ = gyM) (hR : grm γ = { frames := 2, cells := 0, slots := 0, locals := 45 }) (he : genv γ = ε) (hr : grt γ = none) (hE : gEnv ε) (K6 : gK) (h6 : gSm γ cs ss 6 K6) : gSm γ cs ss 56 (fX9_expire_k56 N K6) := by
  unfold fX9_expire_k56
  refine sm_isub (pc := 56) G hb (by decide +kernel : decode cX9_expire 56 = .ok (.isub, 1)) ?_
  refine sm_iload_n (pc := 57) G hb (by decide +kernel : decode cX9_expire 57 = .ok (.iload_n 3, 1)) rfl ?_
  refine sm_icmp_lt (pc := 58) (tgt := 65) G hb (by decide +kernel : decode cX9_expire 58 = .ok (.if_icmp .lt 7, 3)) (by decide) ?_ ?_
  · skip
    refine sm_mask ?_
    exact fX9_expire_s65 N G hb ho hy hR he hr hE K6 h6
  · skip
    refine sm_iconst (pc := 61) G hb (by decide +kernel : decode cX9_expire 61 = .ok (.iconst 1, 1)) (by decide) ?_
    refine sm_goto (pc := 62) (tgt := 66) G hb (by decide +kernel : decode cX9_expire 62 = .ok (.goto 4, 3)) (by decide) ?_
    refine sm_mask ?_
    exact fX9_expire_s66 N G hb ho hy hR he hr hE K6 h6
set_option maxRecDepth 100000 in
set_option maxHeartbeats 4000000 in
theorem fX9_expire_s6 {γ : gG} {cs ss : Nat} {ε : gE5} (N : Nat) (G : gOK γ) (hb : gcc γ = cX9_expire) (ho : gow γ = RX9) (hy : gly γ = gyM) (hR : grm γ = { frames := 2, cells := 0, slots := 0, locals := 45 }) (he : genv γ = ε) (hr : grt γ = none) (hE : gEnv ε) : gSm γ cs ss 6 (fX9_expire_k6 N) := by
  unfold fX9_expire_k6
  refine sm_lp (fun K6 h6 => ?_) N
  unfold fX9_expire_b6
  refine sm_iload_n (pc := 6) G hb (by decide +kernel : decode cX9_expire 6 = .ok (.iload_n 1, 1)) rfl ?_
  refine sm_aload_n (pc := 7) G hb (by decide +kernel : decode cX9_expire 7 = .ok (.aload_n 0, 1)) rfl ?_
  refine sm_get (pc := 8) (ci := 9) (j := 9) (N := 32) (T := TX9) G hb ho hy rfl (by decide) gin_9 gw6_5 (by decide +kernel : decode cX9_expire 8 = .ok (.getfield 16, 3)) ?_
  refine sm_sipush (pc := 11) G hb (by decide +kernel : decode cX9_expire 11 = .ok (.sipush 245, 3)) (by decide) ?_
  refine sm_iald (pc := 14) G hb hy (by decide +kernel : decode cX9_expire 14 = .ok (.iaload, 1)) ?_
  refine sm_icmp_ge (pc := 15) (tgt := 94) G hb (by decide +kernel : decode cX9_expire 15 = .ok (.if_icmp .ge 79, 3)) (by decide) ?_ ?_
  · skip
    refine sm_aload_n (pc := 94) G hb (by decide +kernel : decode cX9_expire 94 = .ok (.aload_n 0, 1)) rfl ?_
    refine sm_mono (cav_sub gI_sub) (sm_callV (pc := 95) (N := 32) (T := TX9) (C := RX9) G hb ho hy he hE.1 1 [0, 1, 2, 3, 4, 5, 6, 7, 8, 9, 10, 11, 12, 13, 14, 15, 16, 17] (kX9_closeUp hE N) (gCo_of (by decide +kernel)) (by rw [hR]; exact ⟨by decide, by decide⟩) rfl rfl (by decide +kernel) gw7_92 gw7_94 gw0_65 gw1_11 gw7_95 (by decide +kernel : decode cX9_expire 95 = .ok (.invokevirtual 316, 3)) ?_)
    refine sm_istore_n (pc := 98) G hb (by decide +kernel : decode cX9_expire 98 = .ok (.istore_n 1, 1)) rfl ?_
    exact sm_vret (pc := 99) G hb (by decide +kernel : decode cX9_expire 99 = .ok (.return_, 1)) hr
  · skip
    refine sm_aload_n (pc := 18) G hb (by decide +kernel : decode cX9_expire 18 = .ok (.aload_n 0, 1)) rfl ?_
    refine sm_iload_n (pc := 19) G hb (by decide +kernel : decode cX9_expire 19 = .ok (.iload_n 1, 1)) rfl ?_
    refine sm_iconst (pc := 20) G hb (by decide +kernel : decode cX9_expire 20 = .ok (.iconst 0, 1)) (by decide) ?_
    refine sm_mono (cav_sub gI_sub) (sm_callV (pc := 21) (N := 32) (T := TX9) (C := RX9) G hb ho hy he hE.1 3 [0, 1, 2, 3, 4, 5, 6, 7, 8, 9, 10, 11, 12, 13, 14, 15, 16, 17] (kX9_packetPart hE N) (gCo_of (by decide +kernel)) (by rw [hR]; exact ⟨by decide, by decide⟩) rfl rfl (by decide +kernel) gw7_84 gw7_86 gw0_63 gw1_11 gw7_87 (by decide +kernel : decode cX9_expire 21 = .ok (.invokevirtual 237, 3)) ?_)
    refine sm_istore_n (pc := 24) G hb (by decide +kernel : decode cX9_expire 24 = .ok (.istore_n 2, 1)) rfl ?_
    refine sm_aload_n (pc := 25) G hb (by decide +kernel : decode cX9_expire 25 = .ok (.aload_n 0, 1)) rfl ?_
    refine sm_iload_n (pc := 26) G hb (by decide +kernel : decode cX9_expire 26 = .ok (.iload_n 2, 1)) rfl ?_
    refine sm_iconst (pc := 27) G hb (by decide +kernel : decode cX9_expire 27 = .ok (.iconst 3, 1)) (by decide) ?_
    refine sm_mono (cav_sub gI_sub) (sm_callV (pc := 28) (N := 32) (T := TX9) (C := RX9) G hb ho hy he hE.1 3 [0, 1, 2, 3, 4, 5, 6, 7, 8, 9, 10, 11, 12, 13, 14, 15, 16, 17] (kX9_flowPart hE N) (gCo_of (by decide +kernel)) (by rw [hR]; exact ⟨by decide, by decide⟩) rfl rfl (by decide +kernel) gw7_64 gw7_66 gw0_59 gw1_11 gw7_67 (by decide +kernel : decode cX9_expire 28 = .ok (.invokevirtual 240, 3)) ?_)
    refine sm_istore_n (pc := 31) G hb (by decide +kernel : decode cX9_expire 31 = .ok (.istore_n 3, 1)) rfl ?_
    refine sm_aload_n (pc := 32) G hb (by decide +kernel : decode cX9_expire 32 = .ok (.aload_n 0, 1)) rfl ?_
    refine sm_get (pc := 33) (ci := 9) (j := 17) (N := 32) (T := TX9) G hb ho hy rfl (by decide) gin_9 gw6_13 (by decide +kernel : decode cX9_expire 33 = .ok (.getfield 28, 3)) ?_
    refine sm_iload_n (pc := 36) G hb (by decide +kernel : decode cX9_expire 36 = .ok (.iload_n 1, 1)) rfl ?_
    refine sm_iload_n (pc := 37) G hb (by decide +kernel : decode cX9_expire 37 = .ok (.iload_n 3, 1)) rfl ?_
    refine sm_if_le (pc := 38) (tgt := 65) G hb (by decide +kernel : decode cX9_expire 38 = .ok (.ifCond .le 27, 3)) (by decide) ?_ ?_
    · skip
      refine sm_mask ?_
      exact fX9_expire_s65 N G hb ho hy hR he hr hE K6 h6
    · skip
      refine sm_aload_n (pc := 41) G hb (by decide +kernel : decode cX9_expire 41 = .ok (.aload_n 0, 1)) rfl ?_
      refine sm_get (pc := 42) (ci := 9) (j := 9) (N := 32) (T := TX9) G hb ho hy rfl (by decide) gin_9 gw6_5 (by decide +kernel : decode cX9_expire 42 = .ok (.getfield 16, 3)) ?_
      refine sm_bipush (pc := 45) G hb (by decide +kernel : decode cX9_expire 45 = .ok (.bipush 7, 2)) (by decide) ?_
      refine sm_iald (pc := 47) G hb hy (by decide +kernel : decode cX9_expire 47 = .ok (.iaload, 1)) ?_
      refine sm_iconst (pc := 48) G hb (by decide +kernel : decode cX9_expire 48 = .ok (.iconst 1, 1)) (by decide) ?_
      refine sm_iadd (pc := 49) G hb (by decide +kernel : decode cX9_expire 49 = .ok (.iadd, 1)) ?_
      refine sm_aload_n (pc := 50) G hb (by decide +kernel : decode cX9_expire 50 = .ok (.aload_n 0, 1)) rfl ?_
      refine sm_iload_n (pc := 51) G hb (by decide +kernel : decode cX9_expire 51 = .ok (.iload_n 1, 1)) rfl ?_
      refine sm_iconst (pc := 52) G hb (by decide +kernel : decode cX9_expire 52 = .ok (.iconst 1, 1)) (by decide) ?_
      refine sm_mono (cav_sub gI_sub) (sm_callV (pc := 53) (N := 32) (T := TX9) (C := RX9) G hb ho hy he hE.1 3 [0, 1, 2, 3, 4, 5, 6, 7, 8, 9, 10, 11, 12, 13, 14, 15, 16, 17] (kX9_packetPart hE N) (gCo_of (by decide +kernel)) (by rw [hR]; exact ⟨by decide, by decide⟩) rfl rfl (by decide +kernel) gw7_84 gw7_86 gw0_63 gw1_11 gw7_87 (by decide +kernel : decode cX9_expire 53 = .ok (.invokevirtual 237, 3)) ?_)
      refine sm_mask ?_
      exact fX9_expire_s56 N G hb ho hy hR he hr hE K6 h6
set_option maxRecDepth 100000 in
set_option maxHeartbeats 4000000 in
theorem fX9_expire_s0 {γ : gG} {cs ss : Nat} {ε : gE5} (N : Nat) (G : gOK γ) (hb : gcc γ = cX9_expire) (ho : gow γ = RX9) (hy : gly γ = gyM) (hR : grm γ = { frames := 2, cells := 0, slots := 0, locals := 45 }) (he : genv γ = ε) (hr : grt γ = none) (hE : gEnv ε) : gSm γ cs ss 0 (fX9_expire_k0 N) := by
  unfold fX9_expire_k0
  refine sm_aload_n (pc := 0) G hb (by decide +kernel : decode cX9_expire 0 = .ok (.aload_n 0, 1)) rfl ?_
  refine sm_mono (cav_sub gV_sub) (sm_callV (pc := 1) (N := 32) (T := TX9) (C := RX9) G hb ho hy he hE.1 1 [0, 1, 2, 3, 4, 5, 6, 7, 8, 9, 10, 11, 12, 13, 14, 15, 16, 17] (kX9_stayAll hE N) (gCo_of (by decide +kernel)) (by rw [hR]; exact ⟨by decide, by decide⟩) rfl rfl (by decide +kernel) gw7_76 gw7_78 gw0_61 gw1_11 gw7_79 (by decide +kernel : decode cX9_expire 1 = .ok (.invokevirtual 310, 3)) ?_)
  refine sm_iconst (pc := 4) G hb (by decide +kernel : decode cX9_expire 4 = .ok (.iconst 0, 1)) (by decide) ?_
  refine sm_istore_n (pc := 5) G hb (by decide +kernel : decode cX9_expire 5 = .ok (.istore_n 1, 1)) rfl ?_
  refine sm_mask ?_
  exact fX9_expire_s6 N G hb ho hy hR he hr hE
theorem kX9_expire {ε : gE5} (hE : gEnv ε) (N : Nat) : gCtr ε yX9_expire cX9_expire 4 none 2 45 gyM (fX9_expire N) :=
  gCtr_of hE.1 (by decide) (fun γ G hb ho hy hR he hr => fX9_expire_s0 N G hb ho hy hR he hr hE)

set_option maxRecDepth 100000 in
set_option maxHeartbeats 4000000 in
theorem fX9_isNode_s0 {γ : gG} {cs ss : Nat} {ε : gE5} (N : Nat) (G : gOK γ) (hb : gcc γ = cX9_isNode) (ho : gow γ = RX9) (hy : gly γ = gyM) (hR : grm γ = { frames := 1, cells := 0, slots := 0, locals := 25 }) (he : genv γ = ε) (hr : grt γ = (some .boolean)) (hE : gEnv ε) : gSm γ cs ss 0 (fX9_isNode_k0 N) := by
  unfold fX9_isNode_k0
  refine sm_iload_n (pc := 0) G hb (by decide +kernel : decode cX9_isNode 0 = .ok (.iload_n 1, 1)) rfl ?_
  refine sm_i2l (pc := 1) G hb (by decide +kernel : decode cX9_isNode 1 = .ok (.i2l, 1)) ?_
  refine sm_lconst (pc := 2) G hb (by decide +kernel : decode cX9_isNode 2 = .ok (.lconst 0, 1)) (by decide) ?_
  refine sm_aload_n (pc := 3) G hb (by decide +kernel : decode cX9_isNode 3 = .ok (.aload_n 0, 1)) rfl ?_
  refine sm_get (pc := 4) (ci := 9) (j := 9) (N := 32) (T := TX9) G hb ho hy rfl (by decide) gin_9 gw6_5 (by decide +kernel : decode cX9_isNode 4 = .ok (.getfield 16, 3)) ?_
  refine sm_iconst (pc := 7) G hb (by decide +kernel : decode cX9_isNode 7 = .ok (.iconst 0, 1)) (by decide) ?_
  refine sm_iald (pc := 8) G hb hy (by decide +kernel : decode cX9_isNode 8 = .ok (.iaload, 1)) ?_
  refine sm_iconst (pc := 9) G hb (by decide +kernel : decode cX9_isNode 9 = .ok (.iconst 1, 1)) (by decide) ?_
  refine sm_isub (pc := 10) G hb (by decide +kernel : decode cX9_isNode 10 = .ok (.isub, 1)) ?_
  refine sm_i2l (pc := 11) G hb (by decide +kernel : decode cX9_isNode 11 = .ok (.i2l, 1)) ?_
  refine sm_mono (ca_sub gI_sub) (sm_callS (pc := 12) G hb ho hy he hE.1 3 [] (kX9_in hE N) (gCo_of (by decide +kernel)) (by rw [hR]; exact ⟨by decide, by decide⟩) (by decide +kernel) gw6_113 gw6_114 gw1_11 gw6_115 (by decide +kernel : decode cX9_isNode 12 = .ok (.invokestatic 91, 3)) ?_)
  exact sm_zret (pc := 15) G hb (by decide +kernel : decode cX9_isNode 15 = .ok (.ireturn, 1)) hr
theorem kX9_isNode {ε : gE5} (hE : gEnv ε) (N : Nat) : gCtr ε yX9_isNode cX9_isNode 2 (some .boolean) 1 25 gyM (fX9_isNode N) :=
  gCtr_of hE.1 (by decide) (fun γ G hb ho hy hR he hr => fX9_isNode_s0 N G hb ho hy hR he hr hE)

set_option maxRecDepth 100000 in
set_option maxHeartbeats 4000000 in
theorem fX9_isLink_s0 {γ : gG} {cs ss : Nat} {ε : gE5} (N : Nat) (G : gOK γ) (hb : gcc γ = cX9_isLink) (ho : gow γ = RX9) (hy : gly γ = gyM) (hR : grm γ = { frames := 1, cells := 0, slots := 0, locals := 25 }) (he : genv γ = ε) (hr : grt γ = (some .boolean)) (hE : gEnv ε) : gSm γ cs ss 0 (fX9_isLink_k0 N) := by
  unfold fX9_isLink_k0
  refine sm_iload_n (pc := 0) G hb (by decide +kernel : decode cX9_isLink 0 = .ok (.iload_n 1, 1)) rfl ?_
  refine sm_i2l (pc := 1) G hb (by decide +kernel : decode cX9_isLink 1 = .ok (.i2l, 1)) ?_
  refine sm_lconst (pc := 2) G hb (by decide +kernel : decode cX9_isLink 2 = .ok (.lconst 0, 1)) (by decide) ?_
  refine sm_aload_n (pc := 3) G hb (by decide +kernel : decode cX9_isLink 3 = .ok (.aload_n 0, 1)) rfl ?_
  refine sm_get (pc := 4) (ci := 9) (j := 9) (N := 32) (T := TX9) G hb ho hy rfl (by decide) gin_9 gw6_5 (by decide +kernel : decode cX9_isLink 4 = .ok (.getfield 16, 3)) ?_
  refine sm_iconst (pc := 7) G hb (by decide +kernel : decode cX9_isLink 7 = .ok (.iconst 1, 1)) (by decide) ?_
  refine sm_iald (pc := 8) G hb hy (by decide +kernel : decode cX9_isLink 8 = .ok (.iaload, 1)) ?_
  refine sm_iconst (pc := 9) G hb (by decide +kernel : decode cX9_isLink 9 = .ok (.iconst 1, 1)) (by decide) ?_
  refine sm_isub (pc := 10) G hb (by decide +kernel : decode cX9_isLink 10 = .ok (.isub, 1)) ?_
  refine sm_i2l (pc := 11) G hb (by decide +kernel : decode cX9_isLink 11 = .ok (.i2l, 1)) ?_
  refine sm_mono (ca_sub gI_sub) (sm_callS (pc := 12) G hb ho hy he hE.1 3 [] (kX9_in hE N) (gCo_of (by decide +kernel)) (by rw [hR]; exact ⟨by decide, by decide⟩) (by decide +kernel) gw6_113 gw6_114 gw1_11 gw6_115 (by decide +kernel : decode cX9_isLink 12 = .ok (.invokestatic 91, 3)) ?_)
  exact sm_zret (pc := 15) G hb (by decide +kernel : decode cX9_isLink 15 = .ok (.ireturn, 1)) hr
theorem kX9_isLink {ε : gE5} (hE : gEnv ε) (N : Nat) : gCtr ε yX9_isLink cX9_isLink 2 (some .boolean) 1 25 gyM (fX9_isLink N) :=
  gCtr_of hE.1 (by decide) (fun γ G hb ho hy hR he hr => fX9_isLink_s0 N G hb ho hy hR he hr hE)
