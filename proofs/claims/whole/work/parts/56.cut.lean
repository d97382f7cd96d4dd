set_option maxRecDepth 100000 in
set_option maxHeartbeats 4000000 in
theorem fX0_reachOver_s88 {γ : gG} {cs ss : Nat} {ε : gE5} (N : Nat) (G : gOK γ) (hb : gcc γ = cX0_reachOver) (ho : gow γ = RX0) (hy : gly γ = gyCN) (hR : grm γ = { frames := 0, cells := 0, slots := 0, locals := 0 }) (he : genv γ = ε) (hr : grt γ = (some .int)) (hE : gEnv ε) : gSm γ cs ss 88 (fX0_reachOver_k88 N) := by
  unfold fX0_reachOver_k88
  refine sm_iload (pc := 88) G hb (by decide +kernel : decode cX0_reachOver 88 = .ok (.iload 7, 2)) ?_
  refine sm_if_eq (pc := 90) (tgt := 120) G hb (by decide +kernel : decode cX0_reachOver 90 = .ok (.ifCond .eq 30, 3)) (by decide) ?_ ?_
  · skip
    refine sm_iconst (pc := 120) G hb (by decide +kernel : decode cX0_reachOver 120 = .ok (.iconst 0, 1)) (by decide) ?_
    exact sm_iret (pc := 121) G hb (by decide +kernel : decode cX0_reachOver 121 = .ok (.ireturn, 1)) hr
  · skip
    refine sm_iload (pc := 93) G hb (by decide +kernel : decode cX0_reachOver 93 = .ok (.iload 6, 2)) ?_
    refine sm_if_ne (pc := 95) (tgt := 120) G hb (by decide +kernel : decode cX0_reachOver 95 = .ok (.ifCond .ne 25, 3)) (by decide) ?_ ?_
    · skip
      refine sm_iconst (pc := 120) G hb (by decide +kernel : decode cX0_reachOver 120 = .ok (.iconst 0, 1)) (by decide) ?_
      exact sm_iret (pc := 121) G hb (by decide +kernel : decode cX0_reachOver 121 = .ok (.ireturn, 1)) hr
    · skip
      refine sm_aload_n (pc := 98) G hb (by decide +kernel : decode cX0_reachOver 98 = .ok (.aload_n 0, 1)) rfl ?_
      refine sm_get (pc := 99) (ci := 0) (j := 0) (N := 4) (T := TX0) G hb ho hy rfl (by decide) gin_0 gw2_59 (by decide +kernel : decode cX0_reachOver 99 = .ok (.getfield 9, 3)) ?_
      refine sm_iload_n (pc := 102) G hb (by decide +kernel : decode cX0_reachOver 102 = .ok (.iload_n 2, 1)) rfl ?_
      refine sm_iald (pc := 103) G hb hy (by decide +kernel : decode cX0_reachOver 103 = .ok (.iaload, 1)) ?_
      refine sm_if_le (pc := 104) (tgt := 120) G hb (by decide +kernel : decode cX0_reachOver 104 = .ok (.ifCond .le 16, 3)) (by decide) ?_ ?_
      · skip
        refine sm_iconst (pc := 120) G hb (by decide +kernel : decode cX0_reachOver 120 = .ok (.iconst 0, 1)) (by decide) ?_
        exact sm_iret (pc := 121) G hb (by decide +kernel : decode cX0_reachOver 121 = .ok (.ireturn, 1)) hr
      · skip
        refine sm_aload_n (pc := 107) G hb (by decide +kernel : decode cX0_reachOver 107 = .ok (.aload_n 0, 1)) rfl ?_
        refine sm_get (pc := 108) (ci := 0) (j := 1) (N := 4) (T := TX0) G hb ho hy rfl (by decide) gin_0 gw2_60 (by decide +kernel : decode cX0_reachOver 108 = .ok (.getfield 15, 3)) ?_
        refine sm_iload (pc := 111) G hb (by decide +kernel : decode cX0_reachOver 111 = .ok (.iload 4, 2)) ?_
        refine sm_iload_n (pc := 113) G hb (by decide +kernel : decode cX0_reachOver 113 = .ok (.iload_n 2, 1)) rfl ?_
        refine sm_iast (pc := 114) G hb hy (by decide +kernel : decode cX0_reachOver 114 = .ok (.iastore, 1)) ?_
        refine sm_iconst (pc := 115) G hb (by decide +kernel : decode cX0_reachOver 115 = .ok (.iconst 1, 1)) (by decide) ?_
        refine sm_iload (pc := 116) G hb (by decide +kernel : decode cX0_reachOver 116 = .ok (.iload 4, 2)) ?_
        refine sm_ishl (pc := 118) G hb (by decide +kernel : decode cX0_reachOver 118 = .ok (.ishl, 1)) ?_
        exact sm_iret (pc := 119) G hb (by decide +kernel : decode cX0_reachOver 119 = .ok (.ireturn, 1)) hr
set_option maxRecDepth 100000 in
set_option maxHeartbeats 4000000 in
theorem fX0_reachOver_s48 {γ : gG} {cs ss : Nat} {ε : gE5} (N : Nat) (G : gOK γ) (hb : gcc γ = cX0_reachOver) (ho : gow γ = RX0) (hy : gly γ = gyCN) (hR : grm γ = { frames := 0, cells := 0, slots := 0, locals := 0 }) (he : genv γ = ε) (hr : grt γ = (some .int)) (hE : gEnv ε) : gSm γ cs ss 48 (fX0_reachOver_k48 N) := by
  unfold fX0_reachOver_k48
  refine sm_istore (pc := 48) G hb (by decide +kernel : decode cX0_reachOver 48 = .ok (.istore 7, 2)) ?_
  refine sm_iload (pc := 50) G hb (by decide +kernel : decode cX0_reachOver 50 = .ok (.iload 6, 2)) ?_
  refine sm_if_eq (pc := 52) (tgt := 88) G hb (by decide +kernel : decode cX0_reachOver 52 = .ok (.ifCond .eq 36, 3)) (by decide) ?_ ?_
  · skip
    refine sm_mask ?_
    exact fX0_reachOver_s88 N G hb ho hy hR he hr hE
  · skip
    refine sm_iload (pc := 55) G hb (by decide +kernel : decode cX0_reachOver 55 = .ok (.iload 7, 2)) ?_
    refine sm_if_ne (pc := 57) (tgt := 88) G hb (by decide +kernel : decode cX0_reachOver 57 = .ok (.ifCond .ne 31, 3)) (by decide) ?_ ?_
    · skip
      refine sm_mask ?_
      exact fX0_reachOver_s88 N G hb ho hy hR he hr hE
    · skip
      refine sm_aload_n (pc := 60) G hb (by decide +kernel : decode cX0_reachOver 60 = .ok (.aload_n 0, 1)) rfl ?_
      refine sm_get (pc := 61) (ci := 0) (j := 0) (N := 4) (T := TX0) G hb ho hy rfl (by decide) gin_0 gw2_59 (by decide +kernel : decode cX0_reachOver 61 = .ok (.getfield 9, 3)) ?_
      refine sm_iload_n (pc := 64) G hb (by decide +kernel : decode cX0_reachOver 64 = .ok (.iload_n 2, 1)) rfl ?_
      refine sm_iald (pc := 65) G hb hy (by decide +kernel : decode cX0_reachOver 65 = .ok (.iaload, 1)) ?_
      refine sm_aload_n (pc := 66) G hb (by decide +kernel : decode cX0_reachOver 66 = .ok (.aload_n 1, 1)) rfl ?_
      refine sm_get (pc := 67) (ci := 2) (j := 5) (N := 11) (T := TX2) G hb ho hy rfl (by decide) gin_2 gw1_72 (by decide +kernel : decode cX0_reachOver 67 = .ok (.getfield 57, 3)) ?_
      refine sm_iload_n (pc := 70) G hb (by decide +kernel : decode cX0_reachOver 70 = .ok (.iload_n 2, 1)) rfl ?_
      refine sm_iald (pc := 71) G hb hy (by decide +kernel : decode cX0_reachOver 71 = .ok (.iaload, 1)) ?_
      refine sm_icmp_ge (pc := 72) (tgt := 88) G hb (by decide +kernel : decode cX0_reachOver 72 = .ok (.if_icmp .ge 16, 3)) (by decide) ?_ ?_
      · skip
        refine sm_mask ?_
        exact fX0_reachOver_s88 N G hb ho hy hR he hr hE
      · skip
        refine sm_aload_n (pc := 75) G hb (by decide +kernel : decode cX0_reachOver 75 = .ok (.aload_n 0, 1)) rfl ?_
        refine sm_get (pc := 76) (ci := 0) (j := 1) (N := 4) (T := TX0) G hb ho hy rfl (by decide) gin_0 gw2_60 (by decide +kernel : decode cX0_reachOver 76 = .ok (.getfield 15, 3)) ?_
        refine sm_iload (pc := 79) G hb (by decide +kernel : decode cX0_reachOver 79 = .ok (.iload 5, 2)) ?_
        refine sm_iload_n (pc := 81) G hb (by decide +kernel : decode cX0_reachOver 81 = .ok (.iload_n 2, 1)) rfl ?_
        refine sm_iast (pc := 82) G hb hy (by decide +kernel : decode cX0_reachOver 82 = .ok (.iastore, 1)) ?_
        refine sm_iconst (pc := 83) G hb (by decide +kernel : decode cX0_reachOver 83 = .ok (.iconst 1, 1)) (by decide) ?_
        refine sm_iload (pc := 84) G hb (by decide +kernel : decode cX0_reachOver 84 = .ok (.iload 5, 2)) ?_
        refine sm_ishl (pc := 86) G hb (by decide +kernel : decode cX0_reachOver 86 = .ok (.ishl, 1)) ?_
        exact sm_iret (pc := 87) G hb (by decide +kernel : decode cX0_reachOver 87 = .ok (.ireturn, 1)) hr
set_option maxRecDepth 100000 in
set_option maxHeartbeats 4000000 in
theorem fX0_reachOver_s31 {γ : gG} {cs ss : Nat} {ε : gE5} (N : Nat) (G : gOK γ) (hb : gcc γ = cX0_reachOver) (ho : gow γ = RX0) (hy : gly γ = gyCN) (hR : grm γ = { frames := 0, cells := 0, slots := 0, locals := 0 }) (he : genv γ = ε) (hr : grt γ = (some .int)) (hE : gEnv ε) : gSm γ cs ss 31 (fX0_reachOver_k31 N) := by
  unfold fX0_reachOver_k31
  refine sm_istore (pc := 31) G hb (by decide +kernel : decode cX0_reachOver 31 = .ok (.istore 6, 2)) ?_
  refine sm_iload_n (pc := 33) G hb (by decide +kernel : decode cX0_reachOver 33 = .ok (.iload_n 3, 1)) rfl ?_
  refine sm_iload (pc := 34) G hb (by decide +kernel : decode cX0_reachOver 34 = .ok (.iload 5, 2)) ?_
  refine sm_ishr (pc := 36) G hb (by decide +kernel : decode cX0_reachOver 36 = .ok (.ishr, 1)) ?_
  refine sm_iconst (pc := 37) G hb (by decide +kernel : decode cX0_reachOver 37 = .ok (.iconst 1, 1)) (by decide) ?_
  refine sm_iand (pc := 38) G hb (by decide +kernel : decode cX0_reachOver 38 = .ok (.iand, 1)) ?_
  refine sm_iconst (pc := 39) G hb (by decide +kernel : decode cX0_reachOver 39 = .ok (.iconst 1, 1)) (by decide) ?_
  refine sm_icmp_ne (pc := 40) (tgt := 47) G hb (by decide +kernel : decode cX0_reachOver 40 = .ok (.if_icmp .ne 7, 3)) (by decide) ?_ ?_
  · skip
    refine sm_iconst (pc := 47) G hb (by decide +kernel : decode cX0_reachOver 47 = .ok (.iconst 0, 1)) (by decide) ?_
    refine sm_mask ?_
    exact fX0_reachOver_s48 N G hb ho hy hR he hr hE
  · skip
    refine sm_iconst (pc := 43) G hb (by decide +kernel : decode cX0_reachOver 43 = .ok (.iconst 1, 1)) (by decide) ?_
    refine sm_goto (pc := 44) (tgt := 48) G hb (by decide +kernel : decode cX0_reachOver 44 = .ok (.goto 4, 3)) (by decide) ?_
    refine sm_mask ?_
    exact fX0_reachOver_s48 N G hb ho hy hR he hr hE
set_option maxRecDepth 100000 in
set_option maxHeartbeats 4000000 in
theorem fX0_reachOver_s0 {γ : gG} {cs ss : Nat} {ε : gE5} (N : Nat) (G : gOK γ) (hb : gcc γ = cX0_reachOver) (ho : gow γ = RX0) (hy : gly γ = gyCN) (hR : grm γ = { frames := 0, cells := 0, slots := 0, locals := 0 }) (he : genv γ = ε) (hr : grt γ = (some .int)) (hE : gEnv ε) : gSm γ cs ss 0 (fX0_reachOver_k0 N) := by
  unfold fX0_reachOver_k0
  refine sm_aload_n (pc := 0) G hb (by decide +kernel : decode cX0_reachOver 0 = .ok (.aload_n 1, 1)) rfl ?_
  refine sm_get (pc := 1) (ci := 2) (j := 3) (N := 11) (T := TX2) G hb ho hy rfl (by decide) gin_2 gw1_62 (by decide +kernel : decode cX0_reachOver 1 = .ok (.getfield 51, 3)) ?_
  refine sm_iload_n (pc := 4) G hb (by decide +kernel : decode cX0_reachOver 4 = .ok (.iload_n 2, 1)) rfl ?_
  refine sm_iald (pc := 5) G hb hy (by decide +kernel : decode cX0_reachOver 5 = .ok (.iaload, 1)) ?_
  refine sm_istore (pc := 6) G hb (by decide +kernel : decode cX0_reachOver 6 = .ok (.istore 4, 2)) ?_
  refine sm_aload_n (pc := 8) G hb (by decide +kernel : decode cX0_reachOver 8 = .ok (.aload_n 1, 1)) rfl ?_
  refine sm_get (pc := 9) (ci := 2) (j := 4) (N := 11) (T := TX2) G hb ho hy rfl (by decide) gin_2 gw1_67 (by decide +kernel : decode cX0_reachOver 9 = .ok (.getfield 54, 3)) ?_
  refine sm_iload_n (pc := 12) G hb (by decide +kernel : decode cX0_reachOver 12 = .ok (.iload_n 2, 1)) rfl ?_
  refine sm_iald (pc := 13) G hb hy (by decide +kernel : decode cX0_reachOver 13 = .ok (.iaload, 1)) ?_
  refine sm_istore (pc := 14) G hb (by decide +kernel : decode cX0_reachOver 14 = .ok (.istore 5, 2)) ?_
  refine sm_iload_n (pc := 16) G hb (by decide +kernel : decode cX0_reachOver 16 = .ok (.iload_n 3, 1)) rfl ?_
  refine sm_iload (pc := 17) G hb (by decide +kernel : decode cX0_reachOver 17 = .ok (.iload 4, 2)) ?_
  refine sm_ishr (pc := 19) G hb (by decide +kernel : decode cX0_reachOver 19 = .ok (.ishr, 1)) ?_
  refine sm_iconst (pc := 20) G hb (by decide +kernel : decode cX0_reachOver 20 = .ok (.iconst 1, 1)) (by decide) ?_
  refine sm_iand (pc := 21) G hb (by decide +kernel : decode cX0_reachOver 21 = .ok (.iand, 1)) ?_
  refine sm_iconst (pc := 22) G hb (by decide +kernel : decode cX0_reachOver 22 = .ok (.iconst 1, 1)) (by decide) ?_
  refine sm_icmp_ne (pc := 23) (tgt := 30) G hb (by decide +kernel : decode cX0_reachOver 23 = .ok (.if_icmp .ne 7, 3)) (by decide) ?_ ?_
  · skip
    refine sm_iconst (pc := 30) G hb (by decide +kernel : decode cX0_reachOver 30 = .ok (.iconst 0, 1)) (by decide) ?_
    refine sm_mask ?_
    exact fX0_reachOver_s31 N G hb ho hy hR he hr hE
  · skip
    refine sm_iconst (pc := 26) G hb (by decide +kernel : decode cX0_reachOver 26 = .ok (.iconst 1, 1)) (by decide) ?_
    refine sm_goto (pc := 27) (tgt := 31) G hb (by decide +kernel : decode cX0_reachOver 27 = .ok (.goto 4, 3)) (by decide) ?_
    refine sm_mask ?_
    exact fX0_reachOver_s31 N G hb ho hy hR he hr hE
theorem kX0_reachOver {ε : gE5} (hE : gEnv ε) (N : Nat) : gCtr ε yX0_reachOver cX0_reachOver 8 (some .int) 0 0 gyCN (fX0_reachOver N) :=
  gCtr_of hE.1 (by decide) (fun γ G hb ho hy hR he hr => fX0_reachOver_s0 N G hb ho hy hR he hr hE)

set_option maxRecDepth 100000 in
set_option maxHeartbeats 4000000 in
theorem fX0_reach_s19 {γ : gG} {cs ss : Nat} {ε : gE5} (N : Nat) (G : gOK γ) (hb : gcc γ = cX0_reach) (ho : gow γ = RX0) (hy : gly γ = gyCN) (hR : grm γ = { frames := 1, cells := 0, slots := 0, locals := 27 }) (he : genv γ = ε) (hr : grt γ = (some .int)) (hE : gEnv ε) (K7 : gK) (h7 : gSm γ cs ss 7 K7) : gSm γ cs ss 19 (fX0_reach_k19 N K7) := by
  unfold fX0_reach_k19
  refine sm_lp (fun K19 h19 => ?_) N
  unfold fX0_reach_b19
  refine sm_iload (pc := 19) G hb (by decide +kernel : decode cX0_reach 19 = .ok (.iload 5, 2)) ?_
  refine sm_aload_n (pc := 21) G hb (by decide +kernel : decode cX0_reach 21 = .ok (.aload_n 1, 1)) rfl ?_
  refine sm_get (pc := 22) (ci := 2) (j := 1) (N := 11) (T := TX2) G hb ho hy rfl (by decide) gin_2 gw1_52 (by decide +kernel : decode cX0_reach 22 = .ok (.getfield 44, 3)) ?_
  refine sm_icmp_ge (pc := 25) (tgt := 45) G hb (by decide +kernel : decode cX0_reach 25 = .ok (.if_icmp .ge 20, 3)) (by decide) ?_ ?_
  · skip
    refine sm_iinc (pc := 45) G hb (by decide +kernel : decode cX0_reach 45 = .ok (.iinc 4 1, 3)) (by decide) ?_
    refine sm_goto (pc := 48) (tgt := 7) G hb (by decide +kernel : decode cX0_reach 48 = .ok (.goto (-41), 3)) (by decide) ?_
    refine sm_mask ?_
    exact h7
  · skip
    refine sm_iload_n (pc := 28) G hb (by decide +kernel : decode cX0_reach 28 = .ok (.iload_n 3, 1)) rfl ?_
    refine sm_aload_n (pc := 29) G hb (by decide +kernel : decode cX0_reach 29 = .ok (.aload_n 0, 1)) rfl ?_
    refine sm_aload_n (pc := 30) G hb (by decide +kernel : decode cX0_reach 30 = .ok (.aload_n 1, 1)) rfl ?_
    refine sm_iload (pc := 31) G hb (by decide +kernel : decode cX0_reach 31 = .ok (.iload 5, 2)) ?_
    refine sm_iload_n (pc := 33) G hb (by decide +kernel : decode cX0_reach 33 = .ok (.iload_n 3, 1)) rfl ?_
    refine sm_mono (cav_sub gI_sub) (sm_callV (pc := 34) (N := 4) (T := TX0) (C := RX0) G hb ho hy he hE.1 4 [0, 1, 2, 3, 4, 5, 6, 7, 8, 9, 10, 11] (kX0_reachOver hE N) (gCo_of (by decide +kernel)) (by rw [hR]; exact ⟨by decide, by decide⟩) rfl rfl (by decide +kernel) gw3_85 gw3_87 gw0_15 gw1_9 gw3_88 (by decide +kernel : decode cX0_reach 34 = .ok (.invokevirtual 47, 3)) ?_)
    refine sm_ior (pc := 37) G hb (by decide +kernel : decode cX0_reach 37 = .ok (.ior, 1)) ?_
    refine sm_istore_n (pc := 38) G hb (by decide +kernel : decode cX0_reach 38 = .ok (.istore_n 3, 1)) rfl ?_
    refine sm_iinc (pc := 39) G hb (by decide +kernel : decode cX0_reach 39 = .ok (.iinc 5 1, 3)) (by decide) ?_
    refine sm_goto (pc := 42) (tgt := 19) G hb (by decide +kernel : decode cX0_reach 42 = .ok (.goto (-23), 3)) (by decide) ?_
    refine sm_mask ?_
    exact h19
set_option maxRecDepth 100000 in
set_option maxHeartbeats 4000000 in
theorem fX0_reach_s7 {γ : gG} {cs ss : Nat} {ε : gE5} (N : Nat) (G : gOK γ) (hb : gcc γ = cX0_reach) (ho : gow γ = RX0) (hy : gly γ = gyCN) (hR : grm γ = { frames := 1, cells := 0, slots := 0, locals := 27 }) (he : genv γ = ε) (hr : grt γ = (some .int)) (hE : gEnv ε) : gSm γ cs ss 7 (fX0_reach_k7 N) := by
  unfold fX0_reach_k7
  refine sm_lp (fun K7 h7 => ?_) N
  unfold fX0_reach_b7
  refine sm_iload (pc := 7) G hb (by decide +kernel : decode cX0_reach 7 = .ok (.iload 4, 2)) ?_
  refine sm_aload_n (pc := 9) G hb (by decide +kernel : decode cX0_reach 9 = .ok (.aload_n 1, 1)) rfl ?_
  refine sm_get (pc := 10) (ci := 2) (j := 0) (N := 11) (T := TX2) G hb ho hy rfl (by decide) gin_2 gw1_46 (by decide +kernel : decode cX0_reach 10 = .ok (.getfield 39, 3)) ?_
  refine sm_icmp_ge (pc := 13) (tgt := 51) G hb (by decide +kernel : decode cX0_reach 13 = .ok (.if_icmp .ge 38, 3)) (by decide) ?_ ?_
  · skip
    refine sm_iload_n (pc := 51) G hb (by decide +kernel : decode cX0_reach 51 = .ok (.iload_n 3, 1)) rfl ?_
    exact sm_iret (pc := 52) G hb (by decide +kernel : decode cX0_reach 52 = .ok (.ireturn, 1)) hr
  · skip
    refine sm_iconst (pc := 16) G hb (by decide +kernel : decode cX0_reach 16 = .ok (.iconst 0, 1)) (by decide) ?_
    refine sm_istore (pc := 17) G hb (by decide +kernel : decode cX0_reach 17 = .ok (.istore 5, 2)) ?_
    refine sm_mask ?_
    exact fX0_reach_s19 N G hb ho hy hR he hr hE K7 h7
set_option maxRecDepth 100000 in
set_option maxHeartbeats 4000000 in
theorem fX0_reach_s0 {γ : gG} {cs ss : Nat} {ε : gE5} (N : Nat) (G : gOK γ) (hb : gcc γ = cX0_reach) (ho : gow γ = RX0) (hy : gly γ = gyCN) (hR : grm γ = { frames := 1, cells := 0, slots := 0, locals := 27 }) (he : genv γ = ε) (hr : grt γ = (some .int)) (hE : gEnv ε) : gSm γ cs ss 0 (fX0_reach_k0 N) := by
  unfold fX0_reach_k0
  refine sm_iconst (pc := 0) G hb (by decide +kernel : decode cX0_reach 0 = .ok (.iconst 1, 1)) (by decide) ?_
  refine sm_iload_n (pc := 1) G hb (by decide +kernel : decode cX0_reach 1 = .ok (.iload_n 2, 1)) rfl ?_
  refine sm_ishl (pc := 2) G hb (by decide +kernel : decode cX0_reach 2 = .ok (.ishl, 1)) ?_
  refine sm_istore_n (pc := 3) G hb (by decide +kernel : decode cX0_reach 3 = .ok (.istore_n 3, 1)) rfl ?_
  refine sm_iconst (pc := 4) G hb (by decide +kernel : decode cX0_reach 4 = .ok (.iconst 1, 1)) (by decide) ?_
  refine sm_istore (pc := 5) G hb (by decide +kernel : decode cX0_reach 5 = .ok (.istore 4, 2)) ?_
  refine sm_mask ?_
  exact fX0_reach_s7 N G hb ho hy hR he hr hE
theorem kX0_reach {ε : gE5} (hE : gEnv ε) (N : Nat) : gCtr ε yX0_reach cX0_reach 6 (some .int) 1 27 gyCN (fX0_reach N) :=
  gCtr_of hE.1 (by decide) (fun γ G hb ho hy hR he hr => fX0_reach_s0 N G hb ho hy hR he hr hE)

set_option maxRecDepth 100000 in
set_option maxHeartbeats 4000000 in
theorem fX0_sendOne_s83 {γ : gG} {cs ss : Nat} {ε : gE5} (N : Nat) (G : gOK γ) (hb : gcc γ = cX0_sendOne) (ho : gow γ = RX0) (hy : gly γ = gyCN) (hR : grm γ = { frames := 0, cells := 0, slots := 0, locals := 0 }) (he : genv γ = ε) (hr : grt γ = none) (hE : gEnv ε) (K6 : gK) (h6 : gSm γ cs ss 6 K6) : gSm γ cs ss 83 (fX0_sendOne_k83 N K6) := by
  unfold fX0_sendOne_k83
  refine sm_iinc (pc := 83) G hb (by decide +kernel : decode cX0_sendOne 83 = .ok (.iinc 5 1, 3)) (by decide) ?_
  refine sm_goto (pc := 86) (tgt := 6) G hb (by decide +kernel : decode cX0_sendOne 86 = .ok (.goto (-80), 3)) (by decide) ?_
  refine sm_mask ?_
  exact h6
set_option maxRecDepth 100000 in
set_option maxHeartbeats 4000000 in
theorem fX0_sendOne_s6 {γ : gG} {cs ss : Nat} {ε : gE5} (N : Nat) (G : gOK γ) (hb : gcc γ = cX0_sendOne) (ho : gow γ = RX0) (hy : gly γ = gyCN) (hR : grm γ = { frames := 0, cells := 0, slots := 0, locals := 0 }) (he : genv γ = ε) (hr : grt γ = none) (hE : gEnv ε) : gSm γ cs ss 6 (fX0_sendOne_k6 N) := by
  unfold fX0_sendOne_k6
  refine sm_lp (fun K6 h6 => ?_) N
  unfold fX0_sendOne_b6
  refine sm_iload (pc := 6) G hb (by decide +kernel : decode cX0_sendOne 6 = .ok (.iload 5, 2)) ?_
  refine sm_bipush (pc := 8) G hb (by decide +kernel : decode cX0_sendOne 8 = .ok (.bipush 10, 2)) (by decide) ?_
  refine sm_icmp_ge (pc := 10) (tgt := 89) G hb (by decide +kernel : decode cX0_sendOne 10 = .ok (.if_icmp .ge 79, 3)) (by decide) ?_ ?_
  · skip
    exact sm_vret (pc := 89) G hb (by decide +kernel : decode cX0_sendOne 89 = .ok (.return_, 1)) hr
  · skip
    refine sm_iload (pc := 13) G hb (by decide +kernel : decode cX0_sendOne 13 = .ok (.iload 4, 2)) ?_
    refine sm_iload_n (pc := 15) G hb (by decide +kernel : decode cX0_sendOne 15 = .ok (.iload_n 2, 1)) rfl ?_
    refine sm_icmp_eq (pc := 16) (tgt := 89) G hb (by decide +kernel : decode cX0_sendOne 16 = .ok (.if_icmp .eq 73, 3)) (by decide) ?_ ?_
    · skip
      exact sm_vret (pc := 89) G hb (by decide +kernel : decode cX0_sendOne 89 = .ok (.return_, 1)) hr
    · skip
      refine sm_aload_n (pc := 19) G hb (by decide +kernel : decode cX0_sendOne 19 = .ok (.aload_n 0, 1)) rfl ?_
      refine sm_get (pc := 20) (ci := 0) (j := 1) (N := 4) (T := TX0) G hb ho hy rfl (by decide) gin_0 gw2_60 (by decide +kernel : decode cX0_sendOne 20 = .ok (.getfield 15, 3)) ?_
      refine sm_iload (pc := 23) G hb (by decide +kernel : decode cX0_sendOne 23 = .ok (.iload 4, 2)) ?_
      refine sm_iald (pc := 25) G hb hy (by decide +kernel : decode cX0_sendOne 25 = .ok (.iaload, 1)) ?_
      refine sm_istore (pc := 26) G hb (by decide +kernel : decode cX0_sendOne 26 = .ok (.istore 6, 2)) ?_
      refine sm_aload_n (pc := 28) G hb (by decide +kernel : decode cX0_sendOne 28 = .ok (.aload_n 1, 1)) rfl ?_
      refine sm_get (pc := 29) (ci := 2) (j := 4) (N := 11) (T := TX2) G hb ho hy rfl (by decide) gin_2 gw1_67 (by decide +kernel : decode cX0_sendOne 29 = .ok (.getfield 54, 3)) ?_
      refine sm_iload (pc := 32) G hb (by decide +kernel : decode cX0_sendOne 32 = .ok (.iload 6, 2)) ?_
      refine sm_iald (pc := 34) G hb hy (by decide +kernel : decode cX0_sendOne 34 = .ok (.iaload, 1)) ?_
      refine sm_iload (pc := 35) G hb (by decide +kernel : decode cX0_sendOne 35 = .ok (.iload 4, 2)) ?_
      refine sm_icmp_ne (pc := 37) (tgt := 63) G hb (by decide +kernel : decode cX0_sendOne 37 = .ok (.if_icmp .ne 26, 3)) (by decide) ?_ ?_
      · skip
        refine sm_aload_n (pc := 63) G hb (by decide +kernel : decode cX0_sendOne 63 = .ok (.aload_n 0, 1)) rfl ?_
        refine sm_get (pc := 64) (ci := 0) (j := 0) (N := 4) (T := TX0) G hb ho hy rfl (by decide) gin_0 gw2_59 (by decide +kernel : decode cX0_sendOne 64 = .ok (.getfield 9, 3)) ?_
        refine sm_iload (pc := 67) G hb (by decide +kernel : decode cX0_sendOne 67 = .ok (.iload 6, 2)) ?_
        refine sm_dup2 (pc := 69) G hb (by decide +kernel : decode cX0_sendOne 69 = .ok (.dup2, 1)) ?_
        refine sm_iald (pc := 70) G hb hy (by decide +kernel : decode cX0_sendOne 70 = .ok (.iaload, 1)) ?_
        refine sm_iconst (pc := 71) G hb (by decide +kernel : decode cX0_sendOne 71 = .ok (.iconst 1, 1)) (by decide) ?_
        refine sm_isub (pc := 72) G hb (by decide +kernel : decode cX0_sendOne 72 = .ok (.isub, 1)) ?_
        refine sm_iast (pc := 73) G hb hy (by decide +kernel : decode cX0_sendOne 73 = .ok (.iastore, 1)) ?_
        refine sm_aload_n (pc := 74) G hb (by decide +kernel : decode cX0_sendOne 74 = .ok (.aload_n 1, 1)) rfl ?_
        refine sm_get (pc := 75) (ci := 2) (j := 4) (N := 11) (T := TX2) G hb ho hy rfl (by decide) gin_2 gw1_67 (by decide +kernel : decode cX0_sendOne 75 = .ok (.getfield 54, 3)) ?_
        refine sm_iload (pc := 78) G hb (by decide +kernel : decode cX0_sendOne 78 = .ok (.iload 6, 2)) ?_
        refine sm_iald (pc := 80) G hb hy (by decide +kernel : decode cX0_sendOne 80 = .ok (.iaload, 1)) ?_
        refine sm_istore (pc := 81) G hb (by decide +kernel : decode cX0_sendOne 81 = .ok (.istore 4, 2)) ?_
        refine sm_mask ?_
        exact fX0_sendOne_s83 N G hb ho hy hR he hr hE K6 h6
      · skip
        refine sm_aload_n (pc := 40) G hb (by decide +kernel : decode cX0_sendOne 40 = .ok (.aload_n 0, 1)) rfl ?_
        refine sm_get (pc := 41) (ci := 0) (j := 0) (N := 4) (T := TX0) G hb ho hy rfl (by decide) gin_0 gw2_59 (by decide +kernel : decode cX0_sendOne 41 = .ok (.getfield 9, 3)) ?_
        refine sm_iload (pc := 44) G hb (by decide +kernel : decode cX0_sendOne 44 = .ok (.iload 6, 2)) ?_
        refine sm_dup2 (pc := 46) G hb (by decide +kernel : decode cX0_sendOne 46 = .ok (.dup2, 1)) ?_
        refine sm_iald (pc := 47) G hb hy (by decide +kernel : decode cX0_sendOne 47 = .ok (.iaload, 1)) ?_
        refine sm_iconst (pc := 48) G hb (by decide +kernel : decode cX0_sendOne 48 = .ok (.iconst 1, 1)) (by decide) ?_
        refine sm_iadd (pc := 49) G hb (by decide +kernel : decode cX0_sendOne 49 = .ok (.iadd, 1)) ?_
        refine sm_iast (pc := 50) G hb hy (by decide +kernel : decode cX0_sendOne 50 = .ok (.iastore, 1)) ?_
        refine sm_aload_n (pc := 51) G hb (by decide +kernel : decode cX0_sendOne 51 = .ok (.aload_n 1, 1)) rfl ?_
        refine sm_get (pc := 52) (ci := 2) (j := 3) (N := 11) (T := TX2) G hb ho hy rfl (by decide) gin_2 gw1_62 (by decide +kernel : decode cX0_sendOne 52 = .ok (.getfield 51, 3)) ?_
        refine sm_iload (pc := 55) G hb (by decide +kernel : decode cX0_sendOne 55 = .ok (.iload 6, 2)) ?_
        refine sm_iald (pc := 57) G hb hy (by decide +kernel : decode cX0_sendOne 57 = .ok (.iaload, 1)) ?_
        refine sm_istore (pc := 58) G hb (by decide +kernel : decode cX0_sendOne 58 = .ok (.istore 4, 2)) ?_
        refine sm_goto (pc := 60) (tgt := 83) G hb (by decide +kernel : decode cX0_sendOne 60 = .ok (.goto 23, 3)) (by decide) ?_
        refine sm_mask ?_
        exact fX0_sendOne_s83 N G hb ho hy hR he hr hE K6 h6
set_option maxRecDepth 100000 in
set_option maxHeartbeats 4000000 in
theorem fX0_sendOne_s0 {γ : gG} {cs ss : Nat} {ε : gE5} (N : Nat) (G : gOK γ) (hb : gcc γ = cX0_sendOne) (ho : gow γ = RX0) (hy : gly γ = gyCN) (hR : grm γ = { frames := 0, cells := 0, slots := 0, locals := 0 }) (he : genv γ = ε) (hr : grt γ = none) (hE : gEnv ε) : gSm γ cs ss 0 (fX0_sendOne_k0 N) := by
  unfold fX0_sendOne_k0
  refine sm_iload_n (pc := 0) G hb (by decide +kernel : decode cX0_sendOne 0 = .ok (.iload_n 3, 1)) rfl ?_
  refine sm_istore (pc := 1) G hb (by decide +kernel : decode cX0_sendOne 1 = .ok (.istore 4, 2)) ?_
  refine sm_iconst (pc := 3) G hb (by decide +kernel : decode cX0_sendOne 3 = .ok (.iconst 0, 1)) (by decide) ?_
  refine sm_istore (pc := 4) G hb (by decide +kernel : decode cX0_sendOne 4 = .ok (.istore 5, 2)) ?_
  refine sm_mask ?_
  exact fX0_sendOne_s6 N G hb ho hy hR he hr hE
theorem kX0_sendOne {ε : gE5} (hE : gEnv ε) (N : Nat) : gCtr ε yX0_sendOne cX0_sendOne 7 none 0 0 gyCN (fX0_sendOne N) :=
  gCtr_of hE.1 (by decide) (fun γ G hb ho hy hR he hr => fX0_sendOne_s0 N G hb ho hy hR he hr hE)

set_option maxRecDepth 100000 in
set_option maxHeartbeats 4000000 in
theorem fX0_find_s26 {γ : gG} {cs ss : Nat} {ε : gE5} (N : Nat) (G : gOK γ) (hb : gcc γ = cX0_find) (ho : gow γ = RX0) (hy : gly γ = gyCN) (hR : grm γ = { frames := 2, cells := 0, slots := 0, locals := 52 }) (he : genv γ = ε) (hr : grt γ = none) (hE : gEnv ε) : gSm γ cs ss 26 (fX0_find_k26 N) := by
  unfold fX0_find_k26
  refine sm_lp (fun K26 h26 => ?_) N
  unfold fX0_find_b26
  refine sm_iload (pc := 26) G hb (by decide +kernel : decode cX0_find 26 = .ok (.iload 4, 2)) ?_
  refine sm_bipush (pc := 28) G hb (by decide +kernel : decode cX0_find 28 = .ok (.bipush 70, 2)) (by decide) ?_
  refine sm_icmp_ge (pc := 30) (tgt := 78) G hb (by decide +kernel : decode cX0_find 30 = .ok (.if_icmp .ge 48, 3)) (by decide) ?_ ?_
  · skip
    exact sm_vret (pc := 78) G hb (by decide +kernel : decode cX0_find 78 = .ok (.return_, 1)) hr
  · skip
    refine sm_aload_n (pc := 33) G hb (by decide +kernel : decode cX0_find 33 = .ok (.aload_n 0, 1)) rfl ?_
    refine sm_get (pc := 34) (ci := 0) (j := 3) (N := 4) (T := TX0) G hb ho hy rfl (by decide) gin_0 gw2_63 (by decide +kernel : decode cX0_find 34 = .ok (.getfield 32, 3)) ?_
    refine sm_iload_n (pc := 37) G hb (by decide +kernel : decode cX0_find 37 = .ok (.iload_n 3, 1)) rfl ?_
    refine sm_ishr (pc := 38) G hb (by decide +kernel : decode cX0_find 38 = .ok (.ishr, 1)) ?_
    refine sm_iconst (pc := 39) G hb (by decide +kernel : decode cX0_find 39 = .ok (.iconst 1, 1)) (by decide) ?_
    refine sm_iand (pc := 40) G hb (by decide +kernel : decode cX0_find 40 = .ok (.iand, 1)) ?_
    refine sm_iconst (pc := 41) G hb (by decide +kernel : decode cX0_find 41 = .ok (.iconst 1, 1)) (by decide) ?_
    refine sm_icmp_ne (pc := 42) (tgt := 78) G hb (by decide +kernel : decode cX0_find 42 = .ok (.if_icmp .ne 36, 3)) (by decide) ?_ ?_
    · skip
      exact sm_vret (pc := 78) G hb (by decide +kernel : decode cX0_find 78 = .ok (.return_, 1)) hr
    · skip
      refine sm_aload_n (pc := 45) G hb (by decide +kernel : decode cX0_find 45 = .ok (.aload_n 0, 1)) rfl ?_
      refine sm_aload_n (pc := 46) G hb (by decide +kernel : decode cX0_find 46 = .ok (.aload_n 1, 1)) rfl ?_
      refine sm_iload_n (pc := 47) G hb (by decide +kernel : decode cX0_find 47 = .ok (.iload_n 2, 1)) rfl ?_
      refine sm_iload_n (pc := 48) G hb (by decide +kernel : decode cX0_find 48 = .ok (.iload_n 3, 1)) rfl ?_
      refine sm_mono (cav_sub gV_sub) (sm_callV (pc := 49) (N := 4) (T := TX0) (C := RX0) G hb ho hy he hE.1 4 [0, 1, 2, 3, 4, 5, 6, 7, 8, 9, 10, 11] (kX0_sendOne hE N) (gCo_of (by decide +kernel)) (by rw [hR]; exact ⟨by decide, by decide⟩) rfl rfl (by decide +kernel) gw3_89 gw3_91 gw0_16 gw1_9 gw3_92 (by decide +kernel : decode cX0_find 49 = .ok (.invokevirtual 35, 3)) ?_)
      refine sm_aload_n (pc := 52) G hb (by decide +kernel : decode cX0_find 52 = .ok (.aload_n 0, 1)) rfl ?_
      refine sm_dup (pc := 53) G hb (by decide +kernel : decode cX0_find 53 = .ok (.dup, 1)) ?_
      refine sm_get (pc := 54) (ci := 0) (j := 2) (N := 4) (T := TX0) G hb ho hy rfl (by decide) gin_0 gw2_61 (by decide +kernel : decode cX0_find 54 = .ok (.getfield 24, 3)) ?_
      refine sm_iconst (pc := 57) G hb (by decide +kernel : decode cX0_find 57 = .ok (.iconst 1, 1)) (by decide) ?_
      refine sm_iadd (pc := 58) G hb (by decide +kernel : decode cX0_find 58 = .ok (.iadd, 1)) ?_
      refine sm_put (pc := 59) (ci := 0) (j := 2) (N := 4) (T := TX0) G hb ho hy tyX0 tyX0_ok nmX0 rfl (by decide) gin_0 gw2_61 rfl rfl (by decide +kernel : decode cX0_find 59 = .ok (.putfield 24, 3)) ?_
      refine sm_aload_n (pc := 62) G hb (by decide +kernel : decode cX0_find 62 = .ok (.aload_n 0, 1)) rfl ?_
      refine sm_aload_n (pc := 63) G hb (by decide +kernel : decode cX0_find 63 = .ok (.aload_n 0, 1)) rfl ?_
      refine sm_aload_n (pc := 64) G hb (by decide +kernel : decode cX0_find 64 = .ok (.aload_n 1, 1)) rfl ?_
      refine sm_iload_n (pc := 65) G hb (by decide +kernel : decode cX0_find 65 = .ok (.iload_n 2, 1)) rfl ?_
      refine sm_mono (cav_sub gI_sub) (sm_callV (pc := 66) (N := 4) (T := TX0) (C := RX0) G hb ho hy he hE.1 3 [0, 1, 2, 3, 4, 5, 6, 7, 8, 9, 10, 11] (kX0_reach hE N) (gCo_of (by decide +kernel)) (by rw [hR]; exact ⟨by decide, by decide⟩) rfl rfl (by decide +kernel) gw3_81 gw3_83 gw0_14 gw1_9 gw3_84 (by decide +kernel : decode cX0_find 66 = .ok (.invokevirtual 28, 3)) ?_)
      refine sm_put (pc := 69) (ci := 0) (j := 3) (N := 4) (T := TX0) G hb ho hy tyX0 tyX0_ok nmX0 rfl (by decide) gin_0 gw2_63 rfl rfl (by decide +kernel : decode cX0_find 69 = .ok (.putfield 32, 3)) ?_
      refine sm_iinc (pc := 72) G hb (by decide +kernel : decode cX0_find 72 = .ok (.iinc 4 1, 3)) (by decide) ?_
      refine sm_goto (pc := 75) (tgt := 26) G hb (by decide +kernel : decode cX0_find 75 = .ok (.goto (-49), 3)) (by decide) ?_
      refine sm_mask ?_
      exact h26
set_option maxRecDepth 100000 in
set_option maxHeartbeats 4000000 in
theorem fX0_find_s0 {γ : gG} {cs ss : Nat} {ε : gE5} (N : Nat) (G : gOK γ) (hb : gcc γ = cX0_find) (ho : gow γ = RX0) (hy : gly γ = gyCN) (hR : grm γ = { frames := 2, cells := 0, slots := 0, locals := 52 }) (he : genv γ = ε) (hr : grt γ = none) (hE : gEnv ε) : gSm γ cs ss 0 (fX0_find_k0 N) := by
  unfold fX0_find_k0
  refine sm_aload_n (pc := 0) G hb (by decide +kernel : decode cX0_find 0 = .ok (.aload_n 0, 1)) rfl ?_
  refine sm_get (pc := 1) (ci := 0) (j := 0) (N := 4) (T := TX0) G hb ho hy rfl (by decide) gin_0 gw2_59 (by decide +kernel : decode cX0_find 1 = .ok (.getfield 9, 3)) ?_
  refine sm_iconst (pc := 4) G hb (by decide +kernel : decode cX0_find 4 = .ok (.iconst 0, 1)) (by decide) ?_
  refine sm_mono (ca_sub gV_sub) (sm_callS (pc := 5) G hb ho hy he hE.1 2 [1] (kJF_fill hE N 14) ⟨rfl, rfl, by decide⟩ (by rw [hR]; exact ⟨by decide, by decide⟩) (by decide +kernel) gw3_80 gw2_79 gw1_10 gw2_80 (by decide +kernel : decode cX0_find 5 = .ok (.invokestatic 18, 3)) ?_)
  refine sm_aload_n (pc := 8) G hb (by decide +kernel : decode cX0_find 8 = .ok (.aload_n 0, 1)) rfl ?_
  refine sm_iconst (pc := 9) G hb (by decide +kernel : decode cX0_find 9 = .ok (.iconst 0, 1)) (by decide) ?_
  refine sm_put (pc := 10) (ci := 0) (j := 2) (N := 4) (T := TX0) G hb ho hy tyX0 tyX0_ok nmX0 rfl (by decide) gin_0 gw2_61 rfl rfl (by decide +kernel : decode cX0_find 10 = .ok (.putfield 24, 3)) ?_
  refine sm_aload_n (pc := 13) G hb (by decide +kernel : decode cX0_find 13 = .ok (.aload_n 0, 1)) rfl ?_
  refine sm_aload_n (pc := 14) G hb (by decide +kernel : decode cX0_find 14 = .ok (.aload_n 0, 1)) rfl ?_
  refine sm_aload_n (pc := 15) G hb (by decide +kernel : decode cX0_find 15 = .ok (.aload_n 1, 1)) rfl ?_
  refine sm_iload_n (pc := 16) G hb (by decide +kernel : decode cX0_find 16 = .ok (.iload_n 2, 1)) rfl ?_
  refine sm_mono (cav_sub gI_sub) (sm_callV (pc := 17) (N := 4) (T := TX0) (C := RX0) G hb ho hy he hE.1 3 [0, 1, 2, 3, 4, 5, 6, 7, 8, 9, 10, 11] (kX0_reach hE N) (gCo_of (by decide +kernel)) (by rw [hR]; exact ⟨by decide, by decide⟩) rfl rfl (by decide +kernel) gw3_81 gw3_83 gw0_14 gw1_9 gw3_84 (by decide +kernel : decode cX0_find 17 = .ok (.invokevirtual 28, 3)) ?_)
  refine sm_put (pc := 20) (ci := 0) (j := 3) (N := 4) (T := TX0) G hb ho hy tyX0 tyX0_ok nmX0 rfl (by decide) gin_0 gw2_63 rfl rfl (by decide +kernel : decode cX0_find 20 = .ok (.putfield 32, 3)) ?_
  refine sm_iconst (pc := 23) G hb (by decide +kernel : decode cX0_find 23 = .ok (.iconst 0, 1)) (by decide) ?_
  refine sm_istore (pc := 24) G hb (by decide +kernel : decode cX0_find 24 = .ok (.istore 4, 2)) ?_
  refine sm_mask ?_
  exact fX0_find_s26 N G hb ho hy hR he hr hE
theorem kX0_find {ε : gE5} (hE : gEnv ε) (N : Nat) : gCtr ε yX0_find cX0_find 5 none 2 52 gyCN (fX0_find N) :=
  gCtr_of hE.1 (by decide) (fun γ G hb ho hy hR he hr => fX0_find_s0 N G hb ho hy hR he hr hE)
