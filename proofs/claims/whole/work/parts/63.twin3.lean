set_option maxRecDepth 100000 in
set_option maxHeartbeats 4000000 in
theorem fX9_isFlow_s0 {γ : gG} {cs ss : Nat} {ε : gE5} (N : Nat) (G : gOK γ) (hb : gcc γ = cX9_isFlow) (ho : gow γ = RX9) (hy : gly γ = gyM) (hR : grm γ = { frames := 1, cells := 0, slots := 0, locals := 25 }) (he : genv γ = ε) (hr : grt γ = (some .boolean)) (hE : gEnv ε) : gSm γ cs ss 0 (fX9_isFlow_k0 N) := by
  unfold fX9_isFlow_k0
  refine sm_iload_n (pc := 0) G hb (by decide +kernel : decode cX9_isFlow 0 = .ok (.iload_n 1, 1)) rfl ?_
  refine sm_i2l (pc := 1) G hb (by decide +kernel : decode cX9_isFlow 1 = .ok (.i2l, 1)) ?_
  refine sm_lconst (pc := 2) G hb (by decide +kernel : decode cX9_isFlow 2 = .ok (.lconst 0, 1)) (by decide) ?_
  refine sm_aload_n (pc := 3) G hb (by decide +kernel : decode cX9_isFlow 3 = .ok (.aload_n 0, 1)) rfl ?_
  refine sm_get (pc := 4) (ci := 9) (j := 9) (N := 32) (T := TX9) G hb ho hy rfl (by decide) gin_9 gw6_5 (by decide +kernel : decode cX9_isFlow 4 = .ok (.getfield 16, 3)) ?_
  refine sm_iconst (pc := 7) G hb (by decide +kernel : decode cX9_isFlow 7 = .ok (.iconst 2, 1)) (by decide) ?_
  refine sm_iald (pc := 8) G hb hy (by decide +kernel : decode cX9_isFlow 8 = .ok (.iaload, 1)) ?_
  refine sm_iconst (pc := 9) G hb (by decide +kernel : decode cX9_isFlow 9 = .ok (.iconst 1, 1)) (by decide) ?_
  refine sm_isub (pc := 10) G hb (by decide +kernel : decode cX9_isFlow 10 = .ok (.isub, 1)) ?_
  refine sm_i2l (pc := 11) G hb (by decide +kernel : decode cX9_isFlow 11 = .ok (.i2l, 1)) ?_
  refine sm_mono (ca_sub gI_sub) (sm_callS (pc := 12) G hb ho hy he hE.1 3 [] (kX9_in hE N) (gCo_of (by decide +kernel)) (by rw [hR]; exact ⟨by decide, by decide⟩) (by decide +kernel) gw6_113 gw6_114 gw1_11 gw6_115 (by decide +kernel : decode cX9_isFlow 12 = .ok (.invokestatic 91, 3)) ?_)
  exact sm_zret (pc := 15) G hb (by decide +kernel : decode cX9_isFlow 15 = .ok (.ireturn, 1)) hr
theorem kX9_isFlow {ε : gE5} (hE : gEnv ε) (N : Nat) : gCtr ε yX9_isFlow cX9_isFlow 2 (some .boolean) 1 25 gyM (fX9_isFlow N) :=
  gCtr_of hE.1 (by decide) (fun γ G hb ho hy hR he hr => fX9_isFlow_s0 N G hb ho hy hR he hr hE)

set_option maxRecDepth 100000 in
set_option maxHeartbeats 4000000 in
theorem fX9_areNodes_s0 {γ : gG} {cs ss : Nat} {ε : gE5} (N : Nat) (G : gOK γ) (hb : gcc γ = cX9_areNodes) (ho : gow γ = RX9) (hy : gly γ = gyM) (hR : grm γ = { frames := 2, cells := 0, slots := 0, locals := 46 }) (he : genv γ = ε) (hr : grt γ = (some .boolean)) (hE : gEnv ε) : gSm γ cs ss 0 (fX9_areNodes_k0 N) := by
  unfold fX9_areNodes_k0
  refine sm_aload_n (pc := 0) G hb (by decide +kernel : decode cX9_areNodes 0 = .ok (.aload_n 0, 1)) rfl ?_
  refine sm_iload_n (pc := 1) G hb (by decide +kernel : decode cX9_areNodes 1 = .ok (.iload_n 1, 1)) rfl ?_
  refine sm_mono (cav_sub gI_sub) (sm_callV (pc := 2) (N := 32) (T := TX9) (C := RX9) G hb ho hy he hE.1 2 [0, 1, 2, 3, 4, 5, 6, 7, 8, 9, 10, 11, 12, 13, 14, 15, 16, 17] (kX9_isNode hE N) (gCo_of (by decide +kernel)) (by rw [hR]; exact ⟨by decide, by decide⟩) rfl rfl (by decide +kernel) gw7_0 gw7_2 gw0_52 gw1_11 gw7_3 (by decide +kernel : decode cX9_areNodes 2 = .ok (.invokevirtual 337, 3)) ?_)
  refine sm_if_eq (pc := 5) (tgt := 20) G hb (by decide +kernel : decode cX9_areNodes 5 = .ok (.ifCond .eq 15, 3)) (by decide) ?_ ?_
  · skip
    refine sm_iconst (pc := 20) G hb (by decide +kernel : decode cX9_areNodes 20 = .ok (.iconst 0, 1)) (by decide) ?_
    exact sm_zret (pc := 21) G hb (by decide +kernel : decode cX9_areNodes 21 = .ok (.ireturn, 1)) hr
  · skip
    refine sm_aload_n (pc := 8) G hb (by decide +kernel : decode cX9_areNodes 8 = .ok (.aload_n 0, 1)) rfl ?_
    refine sm_iload_n (pc := 9) G hb (by decide +kernel : decode cX9_areNodes 9 = .ok (.iload_n 2, 1)) rfl ?_
    refine sm_mono (cav_sub gI_sub) (sm_callV (pc := 10) (N := 32) (T := TX9) (C := RX9) G hb ho hy he hE.1 2 [0, 1, 2, 3, 4, 5, 6, 7, 8, 9, 10, 11, 12, 13, 14, 15, 16, 17] (kX9_isNode hE N) (gCo_of (by decide +kernel)) (by rw [hR]; exact ⟨by decide, by decide⟩) rfl rfl (by decide +kernel) gw7_0 gw7_2 gw0_52 gw1_11 gw7_3 (by decide +kernel : decode cX9_areNodes 10 = .ok (.invokevirtual 337, 3)) ?_)
    refine sm_if_eq (pc := 13) (tgt := 20) G hb (by decide +kernel : decode cX9_areNodes 13 = .ok (.ifCond .eq 7, 3)) (by decide) ?_ ?_
    · skip
      refine sm_iconst (pc := 20) G hb (by decide +kernel : decode cX9_areNodes 20 = .ok (.iconst 0, 1)) (by decide) ?_
      exact sm_zret (pc := 21) G hb (by decide +kernel : decode cX9_areNodes 21 = .ok (.ireturn, 1)) hr
    · skip
      refine sm_iconst (pc := 16) G hb (by decide +kernel : decode cX9_areNodes 16 = .ok (.iconst 1, 1)) (by decide) ?_
      refine sm_goto (pc := 17) (tgt := 21) G hb (by decide +kernel : decode cX9_areNodes 17 = .ok (.goto 4, 3)) (by decide) ?_
      exact sm_zret (pc := 21) G hb (by decide +kernel : decode cX9_areNodes 21 = .ok (.ireturn, 1)) hr
theorem kX9_areNodes {ε : gE5} (hE : gEnv ε) (N : Nat) : gCtr ε yX9_areNodes cX9_areNodes 3 (some .boolean) 2 46 gyM (fX9_areNodes N) :=
  gCtr_of hE.1 (by decide) (fun γ G hb ho hy hR he hr => fX9_areNodes_s0 N G hb ho hy hR he hr hE)

set_option maxRecDepth 100000 in
set_option maxHeartbeats 4000000 in
theorem fX9_addLink_s104 {γ : gG} {cs ss : Nat} {ε : gE5} (N : Nat) (G : gOK γ) (hb : gcc γ = cX9_addLink) (ho : gow γ = RX9) (hy : gly γ = gyM) (hR : grm γ = { frames := 3, cells := 0, slots := 0, locals := 68 }) (he : genv γ = ε) (hr : grt γ = (some .int)) (hE : gEnv ε) : gSm γ cs ss 104 (fX9_addLink_k104 N) := by
  unfold fX9_addLink_k104
  refine sm_aload_n (pc := 104) G hb (by decide +kernel : decode cX9_addLink 104 = .ok (.aload_n 0, 1)) rfl ?_
  refine sm_get (pc := 105) (ci := 9) (j := 9) (N := 32) (T := TX9) G hb ho hy rfl (by decide) gin_9 gw6_5 (by decide +kernel : decode cX9_addLink 105 = .ok (.getfield 16, 3)) ?_
  refine sm_iconst (pc := 108) G hb (by decide +kernel : decode cX9_addLink 108 = .ok (.iconst 1, 1)) (by decide) ?_
  refine sm_iald (pc := 109) G hb hy (by decide +kernel : decode cX9_addLink 109 = .ok (.iaload, 1)) ?_
  refine sm_iconst (pc := 110) G hb (by decide +kernel : decode cX9_addLink 110 = .ok (.iconst 1, 1)) (by decide) ?_
  refine sm_isub (pc := 111) G hb (by decide +kernel : decode cX9_addLink 111 = .ok (.isub, 1)) ?_
  exact sm_iret (pc := 112) G hb (by decide +kernel : decode cX9_addLink 112 = .ok (.ireturn, 1)) hr
set_option maxRecDepth 100000 in
set_option maxHeartbeats 4000000 in
theorem fX9_addLink_s81 {γ : gG} {cs ss : Nat} {ε : gE5} (N : Nat) (G : gOK γ) (hb : gcc γ = cX9_addLink) (ho : gow γ = RX9) (hy : gly γ = gyM) (hR : grm γ = { frames := 3, cells := 0, slots := 0, locals := 68 }) (he : genv γ = ε) (hr : grt γ = (some .int)) (hE : gEnv ε) : gSm γ cs ss 81 (fX9_addLink_k81 N) := by
  unfold fX9_addLink_k81
  refine sm_iconst (pc := 81) G hb (by decide +kernel : decode cX9_addLink 81 = .ok (.iconst 3, 1)) (by decide) ?_
  refine sm_mono (cav_sub gI_sub) (sm_callV (pc := 82) (N := 32) (T := TX9) (C := RX9) G hb ho hy he hE.1 3 [0, 1, 2, 3, 4, 5, 6, 7, 8, 9, 10, 11, 12, 13, 14, 15, 16, 17] (kX9_fails hE N) (gCo_of (by decide +kernel)) (by rw [hR]; exact ⟨by decide, by decide⟩) rfl rfl (by decide +kernel) gw6_105 gw6_107 gw0_34 gw1_11 gw6_108 (by decide +kernel : decode cX9_addLink 82 = .ok (.invokevirtual 87, 3)) ?_)
  refine sm_if_eq (pc := 85) (tgt := 90) G hb (by decide +kernel : decode cX9_addLink 85 = .ok (.ifCond .eq 5, 3)) (by decide) ?_ ?_
  · skip
    refine sm_aload_n (pc := 90) G hb (by decide +kernel : decode cX9_addLink 90 = .ok (.aload_n 0, 1)) rfl ?_
    refine sm_mono (cav_sub gV_sub) (sm_callV (pc := 91) (N := 32) (T := TX9) (C := RX9) G hb ho hy he hE.1 1 [0, 1, 2, 3, 4, 5, 6, 7, 8, 9, 10, 11, 12, 13, 14, 15, 16, 17] (kX9_record hE N) (gCo_of (by decide +kernel)) (by rw [hR]; exact ⟨by decide, by decide⟩) rfl rfl (by decide +kernel) gw7_5 gw7_7 gw0_53 gw1_11 gw7_8 (by decide +kernel : decode cX9_addLink 91 = .ok (.invokevirtual 345, 3)) ?_)
    refine sm_aload_n (pc := 94) G hb (by decide +kernel : decode cX9_addLink 94 = .ok (.aload_n 0, 1)) rfl ?_
    refine sm_get (pc := 95) (ci := 9) (j := 9) (N := 32) (T := TX9) G hb ho hy rfl (by decide) gin_9 gw6_5 (by decide +kernel : decode cX9_addLink 95 = .ok (.getfield 16, 3)) ?_
    refine sm_iload_n (pc := 98) G hb (by decide +kernel : decode cX9_addLink 98 = .ok (.iload_n 1, 1)) rfl ?_
    refine sm_iload_n (pc := 99) G hb (by decide +kernel : decode cX9_addLink 99 = .ok (.iload_n 2, 1)) rfl ?_
    refine sm_iload_n (pc := 100) G hb (by decide +kernel : decode cX9_addLink 100 = .ok (.iload_n 3, 1)) rfl ?_
    refine sm_mono (ca_sub gV_sub) (sm_callS (pc := 101) G hb ho hy he hE.1 4 [3] (kX9_layLink hE N) (gCo_of (by decide +kernel)) (by rw [hR]; exact ⟨by decide, by decide⟩) (by decide +kernel) gw5_223 gw5_224 gw1_11 gw5_225 (by decide +kernel : decode cX9_addLink 101 = .ok (.invokestatic 65, 3)) ?_)
    refine sm_mask ?_
    exact fX9_addLink_s104 N G hb ho hy hR he hr hE
  · skip
    refine sm_iconst (pc := 88) G hb (by decide +kernel : decode cX9_addLink 88 = .ok (.iconst 0, 1)) (by decide) ?_
    exact sm_iret (pc := 89) G hb (by decide +kernel : decode cX9_addLink 89 = .ok (.ireturn, 1)) hr
set_option maxRecDepth 100000 in
set_option maxHeartbeats 4000000 in
theorem fX9_addLink_s80 {γ : gG} {cs ss : Nat} {ε : gE5} (N : Nat) (G : gOK γ) (hb : gcc γ = cX9_addLink) (ho : gow γ = RX9) (hy : gly γ = gyM) (hR : grm γ = { frames := 3, cells := 0, slots := 0, locals := 68 }) (he : genv γ = ε) (hr : grt γ = (some .int)) (hE : gEnv ε) : gSm γ cs ss 80 (fX9_addLink_k80 N) := by
  unfold fX9_addLink_k80
  refine sm_iconst (pc := 80) G hb (by decide +kernel : decode cX9_addLink 80 = .ok (.iconst 0, 1)) (by decide) ?_
  refine sm_mask ?_
  exact fX9_addLink_s81 N G hb ho hy hR he hr hE
set_option maxRecDepth 100000 in
set_option maxHeartbeats 4000000 in
theorem fX9_addLink_s42 {γ : gG} {cs ss : Nat} {ε : gE5} (N : Nat) (G : gOK γ) (hb : gcc γ = cX9_addLink) (ho : gow γ = RX9) (hy : gly γ = gyM) (hR : grm γ = { frames := 3, cells := 0, slots := 0, locals := 68 }) (he : genv γ = ε) (hr : grt γ = (some .int)) (hE : gEnv ε) : gSm γ cs ss 42 (fX9_addLink_k42 N) := by
  unfold fX9_addLink_k42
  refine sm_iconst (pc := 42) G hb (by decide +kernel : decode cX9_addLink 42 = .ok (.iconst 2, 1)) (by decide) ?_
  refine sm_mono (cav_sub gI_sub) (sm_callV (pc := 43) (N := 32) (T := TX9) (C := RX9) G hb ho hy he hE.1 3 [0, 1, 2, 3, 4, 5, 6, 7, 8, 9, 10, 11, 12, 13, 14, 15, 16, 17] (kX9_fails hE N) (gCo_of (by decide +kernel)) (by rw [hR]; exact ⟨by decide, by decide⟩) rfl rfl (by decide +kernel) gw6_105 gw6_107 gw0_34 gw1_11 gw6_108 (by decide +kernel : decode cX9_addLink 43 = .ok (.invokevirtual 87, 3)) ?_)
  refine sm_if_eq (pc := 46) (tgt := 51) G hb (by decide +kernel : decode cX9_addLink 46 = .ok (.ifCond .eq 5, 3)) (by decide) ?_ ?_
  · skip
    refine sm_aload_n (pc := 51) G hb (by decide +kernel : decode cX9_addLink 51 = .ok (.aload_n 0, 1)) rfl ?_
    refine sm_aload_n (pc := 52) G hb (by decide +kernel : decode cX9_addLink 52 = .ok (.aload_n 0, 1)) rfl ?_
    refine sm_get (pc := 53) (ci := 9) (j := 9) (N := 32) (T := TX9) G hb ho hy rfl (by decide) gin_9 gw6_5 (by decide +kernel : decode cX9_addLink 53 = .ok (.getfield 16, 3)) ?_
    refine sm_iload_n (pc := 56) G hb (by decide +kernel : decode cX9_addLink 56 = .ok (.iload_n 1, 1)) rfl ?_
    refine sm_iload_n (pc := 57) G hb (by decide +kernel : decode cX9_addLink 57 = .ok (.iload_n 2, 1)) rfl ?_
    refine sm_mono (ca_sub gI_sub) (sm_callS (pc := 58) G hb ho hy he hE.1 3 [3] (kX9_linkIn hE N) (gCo_of (by decide +kernel)) (by rw [hR]; exact ⟨by decide, by decide⟩) (by decide +kernel) gw6_175 gw6_176 gw1_11 gw6_177 (by decide +kernel : decode cX9_addLink 58 = .ok (.invokestatic 162, 3)) ?_)
    refine sm_iconst (pc := 61) G hb (by decide +kernel : decode cX9_addLink 61 = .ok (.iconst (-1), 1)) (by decide) ?_
    refine sm_icmp_ne (pc := 62) (tgt := 80) G hb (by decide +kernel : decode cX9_addLink 62 = .ok (.if_icmp .ne 18, 3)) (by decide) ?_ ?_
    · skip
      refine sm_mask ?_
      exact fX9_addLink_s80 N G hb ho hy hR he hr hE
    · skip
      refine sm_aload_n (pc := 65) G hb (by decide +kernel : decode cX9_addLink 65 = .ok (.aload_n 0, 1)) rfl ?_
      refine sm_get (pc := 66) (ci := 9) (j := 9) (N := 32) (T := TX9) G hb ho hy rfl (by decide) gin_9 gw6_5 (by decide +kernel : decode cX9_addLink 66 = .ok (.getfield 16, 3)) ?_
      refine sm_iconst (pc := 69) G hb (by decide +kernel : decode cX9_addLink 69 = .ok (.iconst 1, 1)) (by decide) ?_
      refine sm_iald (pc := 70) G hb hy (by decide +kernel : decode cX9_addLink 70 = .ok (.iaload, 1)) ?_
      refine sm_bipush (pc := 71) G hb (by decide +kernel : decode cX9_addLink 71 = .ok (.bipush 14, 2)) (by decide) ?_
      refine sm_icmp_ge (pc := 73) (tgt := 80) G hb (by decide +kernel : decode cX9_addLink 73 = .ok (.if_icmp .ge 7, 3)) (by decide) ?_ ?_
      · skip
        refine sm_mask ?_
        exact fX9_addLink_s80 N G hb ho hy hR he hr hE
      · skip
        refine sm_iconst (pc := 76) G hb (by decide +kernel : decode cX9_addLink 76 = .ok (.iconst 1, 1)) (by decide) ?_
        refine sm_goto (pc := 77) (tgt := 81) G hb (by decide +kernel : decode cX9_addLink 77 = .ok (.goto 4, 3)) (by decide) ?_
        refine sm_mask ?_
        exact fX9_addLink_s81 N G hb ho hy hR he hr hE
  · skip
    refine sm_iconst (pc := 49) G hb (by decide +kernel : decode cX9_addLink 49 = .ok (.iconst 0, 1)) (by decide) ?_
    exact sm_iret (pc := 50) G hb (by decide +kernel : decode cX9_addLink 50 = .ok (.ireturn, 1)) hr
set_option maxRecDepth 100000 in
set_option maxHeartbeats 4000000 in
theorem fX9_addLink_s41 {γ : gG} {cs ss : Nat} {ε : gE5} (N : Nat) (G : gOK γ) (hb : gcc γ = cX9_addLink) (ho : gow γ = RX9) (hy : gly γ = gyM) (hR : grm γ = { frames := 3, cells := 0, slots := 0, locals := 68 }) (he : genv γ = ε) (hr : grt γ = (some .int)) (hE : gEnv ε) : gSm γ cs ss 41 (fX9_addLink_k41 N) := by
  unfold fX9_addLink_k41
  refine sm_iconst (pc := 41) G hb (by decide +kernel : decode cX9_addLink 41 = .ok (.iconst 0, 1)) (by decide) ?_
  refine sm_mask ?_
  exact fX9_addLink_s42 N G hb ho hy hR he hr hE
set_option maxRecDepth 100000 in
set_option maxHeartbeats 4000000 in
theorem fX9_addLink_s34 {γ : gG} {cs ss : Nat} {ε : gE5} (N : Nat) (G : gOK γ) (hb : gcc γ = cX9_addLink) (ho : gow γ = RX9) (hy : gly γ = gyM) (hR : grm γ = { frames := 3, cells := 0, slots := 0, locals := 68 }) (he : genv γ = ε) (hr : grt γ = (some .int)) (hE : gEnv ε) : gSm γ cs ss 34 (fX9_addLink_k34 N) := by
  unfold fX9_addLink_k34
  refine sm_if_eq (pc := 34) (tgt := 41) G hb (by decide +kernel : decode cX9_addLink 34 = .ok (.ifCond .eq 7, 3)) (by decide) ?_ ?_
  · skip
    refine sm_mask ?_
    exact fX9_addLink_s41 N G hb ho hy hR he hr hE
  · skip
    refine sm_iconst (pc := 37) G hb (by decide +kernel : decode cX9_addLink 37 = .ok (.iconst 1, 1)) (by decide) ?_
    refine sm_goto (pc := 38) (tgt := 42) G hb (by decide +kernel : decode cX9_addLink 38 = .ok (.goto 4, 3)) (by decide) ?_
    refine sm_mask ?_
    exact fX9_addLink_s42 N G hb ho hy hR he hr hE
set_option maxRecDepth 100000 in
set_option maxHeartbeats 4000000 in
theorem fX9_addLink_s0 {γ : gG} {cs ss : Nat} {ε : gE5} (N : Nat) (G : gOK γ) (hb : gcc γ = cX9_addLink) (ho : gow γ = RX9) (hy : gly γ = gyM) (hR : grm γ = { frames := 3, cells := 0, slots := 0, locals := 68 }) (he : genv γ = ε) (hr : grt γ = (some .int)) (hE : gEnv ε) : gSm γ cs ss 0 (fX9_addLink_k0 N) := by
  unfold fX9_addLink_k0
  refine sm_aload_n (pc := 0) G hb (by decide +kernel : decode cX9_addLink 0 = .ok (.aload_n 0, 1)) rfl ?_
  refine sm_iconst (pc := 1) G hb (by decide +kernel : decode cX9_addLink 1 = .ok (.iconst 0, 1)) (by decide) ?_
  refine sm_put (pc := 2) (ci := 9) (j := 0) (N := 32) (T := TX9) G hb ho hy tyX9 tyX9_ok nmX9 rfl (by decide) gin_9 gw5_236 rfl rfl (by decide +kernel : decode cX9_addLink 2 = .ok (.putfield 76, 3)) ?_
  refine sm_aload_n (pc := 5) G hb (by decide +kernel : decode cX9_addLink 5 = .ok (.aload_n 0, 1)) rfl ?_
  refine sm_aload_n (pc := 6) G hb (by decide +kernel : decode cX9_addLink 6 = .ok (.aload_n 0, 1)) rfl ?_
  refine sm_iload_n (pc := 7) G hb (by decide +kernel : decode cX9_addLink 7 = .ok (.iload_n 1, 1)) rfl ?_
  refine sm_iload_n (pc := 8) G hb (by decide +kernel : decode cX9_addLink 8 = .ok (.iload_n 2, 1)) rfl ?_
  refine sm_mono (cav_sub gI_sub) (sm_callV (pc := 9) (N := 32) (T := TX9) (C := RX9) G hb ho hy he hE.1 3 [0, 1, 2, 3, 4, 5, 6, 7, 8, 9, 10, 11, 12, 13, 14, 15, 16, 17] (kX9_areNodes hE N) (gCo_of (by decide +kernel)) (by rw [hR]; exact ⟨by decide, by decide⟩) rfl rfl (by decide +kernel) gw6_236 gw6_238 gw0_51 gw1_11 gw6_239 (by decide +kernel : decode cX9_addLink 9 = .ok (.invokevirtual 340, 3)) ?_)
  refine sm_iconst (pc := 12) G hb (by decide +kernel : decode cX9_addLink 12 = .ok (.iconst 1, 1)) (by decide) ?_
  refine sm_mono (cav_sub gI_sub) (sm_callV (pc := 13) (N := 32) (T := TX9) (C := RX9) G hb ho hy he hE.1 3 [0, 1, 2, 3, 4, 5, 6, 7, 8, 9, 10, 11, 12, 13, 14, 15, 16, 17] (kX9_fails hE N) (gCo_of (by decide +kernel)) (by rw [hR]; exact ⟨by decide, by decide⟩) rfl rfl (by decide +kernel) gw6_105 gw6_107 gw0_34 gw1_11 gw6_108 (by decide +kernel : decode cX9_addLink 13 = .ok (.invokevirtual 87, 3)) ?_)
  refine sm_if_ne (pc := 16) (tgt := 49) G hb (by decide +kernel : decode cX9_addLink 16 = .ok (.ifCond .ne 33, 3)) (by decide) ?_ ?_
  · skip
    refine sm_iconst (pc := 49) G hb (by decide +kernel : decode cX9_addLink 49 = .ok (.iconst 0, 1)) (by decide) ?_
    exact sm_iret (pc := 50) G hb (by decide +kernel : decode cX9_addLink 50 = .ok (.ireturn, 1)) hr
  · skip
    refine sm_aload_n (pc := 19) G hb (by decide +kernel : decode cX9_addLink 19 = .ok (.aload_n 0, 1)) rfl ?_
    refine sm_iload_n (pc := 20) G hb (by decide +kernel : decode cX9_addLink 20 = .ok (.iload_n 1, 1)) rfl ?_
    refine sm_iload_n (pc := 21) G hb (by decide +kernel : decode cX9_addLink 21 = .ok (.iload_n 2, 1)) rfl ?_
    refine sm_icmp_eq (pc := 22) (tgt := 41) G hb (by decide +kernel : decode cX9_addLink 22 = .ok (.if_icmp .eq 19, 3)) (by decide) ?_ ?_
    · skip
      refine sm_mask ?_
      exact fX9_addLink_s41 N G hb ho hy hR he hr hE
    · skip
      refine sm_iload_n (pc := 25) G hb (by decide +kernel : decode cX9_addLink 25 = .ok (.iload_n 3, 1)) rfl ?_
      refine sm_i2l (pc := 26) G hb (by decide +kernel : decode cX9_addLink 26 = .ok (.i2l, 1)) ?_
      refine sm_lconst (pc := 27) G hb (by decide +kernel : decode cX9_addLink 27 = .ok (.lconst 1, 1)) (by decide) ?_
      refine sm_ldc2 (pc := 28) G hb ho (by decide +kernel : decode cX9_addLink 28 = .ok (.ldc2_w 343, 3)) gw7_4 ?_
      refine sm_mono (ca_sub gI_sub) (sm_callS (pc := 31) G hb ho hy he hE.1 3 [] (kX9_in hE N) (gCo_of (by decide +kernel)) (by rw [hR]; exact ⟨by decide, by decide⟩) (by decide +kernel) gw6_113 gw6_114 gw1_11 gw6_115 (by decide +kernel : decode cX9_addLink 31 = .ok (.invokestatic 91, 3)) ?_)
      refine sm_mask ?_
      exact fX9_addLink_s34 N G hb ho hy hR he hr hE
theorem kX9_addLink {ε : gE5} (hE : gEnv ε) (N : Nat) : gCtr ε yX9_addLink cX9_addLink 4 (some .int) 3 68 gyM (fX9_addLink N) :=
  gCtr_of hE.1 (by decide) (fun γ G hb ho hy hR he hr => fX9_addLink_s0 N G hb ho hy hR he hr hE)

set_option maxRecDepth 100000 in
set_option maxHeartbeats 4000000 in
theorem fX9_become_s0 {γ : gG} {cs ss : Nat} {ε : gE5} (N : Nat) (G : gOK γ) (hb : gcc γ = cX9_become) (ho : gow γ = RX9) (hy : gly γ = gyM) (hR : grm γ = { frames := 2, cells := 0, slots := 0, locals := 45 }) (he : genv γ = ε) (hr : grt γ = (some .int)) (hE : gEnv ε) : gSm γ cs ss 0 (fX9_become_k0 N) := by
  unfold fX9_become_k0
  refine sm_aload_n (pc := 0) G hb (by decide +kernel : decode cX9_become 0 = .ok (.aload_n 0, 1)) rfl ?_
  refine sm_mono (cav_sub gV_sub) (sm_callV (pc := 1) (N := 32) (T := TX9) (C := RX9) G hb ho hy he hE.1 1 [0, 1, 2, 3, 4, 5, 6, 7, 8, 9, 10, 11, 12, 13, 14, 15, 16, 17] (kX9_record hE N) (gCo_of (by decide +kernel)) (by rw [hR]; exact ⟨by decide, by decide⟩) rfl rfl (by decide +kernel) gw7_5 gw7_7 gw0_53 gw1_11 gw7_8 (by decide +kernel : decode cX9_become 1 = .ok (.invokevirtual 345, 3)) ?_)
  refine sm_aload_n (pc := 4) G hb (by decide +kernel : decode cX9_become 4 = .ok (.aload_n 0, 1)) rfl ?_
  refine sm_get (pc := 5) (ci := 9) (j := 9) (N := 32) (T := TX9) G hb ho hy rfl (by decide) gin_9 gw6_5 (by decide +kernel : decode cX9_become 5 = .ok (.getfield 16, 3)) ?_
  refine sm_iload_n (pc := 8) G hb (by decide +kernel : decode cX9_become 8 = .ok (.iload_n 1, 1)) rfl ?_
  refine sm_iald (pc := 9) G hb hy (by decide +kernel : decode cX9_become 9 = .ok (.iaload, 1)) ?_
  refine sm_istore_n (pc := 10) G hb (by decide +kernel : decode cX9_become 10 = .ok (.istore_n 3, 1)) rfl ?_
  refine sm_aload_n (pc := 11) G hb (by decide +kernel : decode cX9_become 11 = .ok (.aload_n 0, 1)) rfl ?_
  refine sm_get (pc := 12) (ci := 9) (j := 9) (N := 32) (T := TX9) G hb ho hy rfl (by decide) gin_9 gw6_5 (by decide +kernel : decode cX9_become 12 = .ok (.getfield 16, 3)) ?_
  refine sm_iload_n (pc := 15) G hb (by decide +kernel : decode cX9_become 15 = .ok (.iload_n 1, 1)) rfl ?_
  refine sm_iload_n (pc := 16) G hb (by decide +kernel : decode cX9_become 16 = .ok (.iload_n 2, 1)) rfl ?_
  refine sm_iast (pc := 17) G hb hy (by decide +kernel : decode cX9_become 17 = .ok (.iastore, 1)) ?_
  refine sm_iload_n (pc := 18) G hb (by decide +kernel : decode cX9_become 18 = .ok (.iload_n 3, 1)) rfl ?_
  exact sm_iret (pc := 19) G hb (by decide +kernel : decode cX9_become 19 = .ok (.ireturn, 1)) hr
theorem kX9_become {ε : gE5} (hE : gEnv ε) (N : Nat) : gCtr ε yX9_become cX9_become 4 (some .int) 2 45 gyM (fX9_become N) :=
  gCtr_of hE.1 (by decide) (fun γ G hb ho hy hR he hr => fX9_become_s0 N G hb ho hy hR he hr hE)

set_option maxRecDepth 100000 in
set_option maxHeartbeats 4000000 in
theorem fX9_setCapacity_s28 {γ : gG} {cs ss : Nat} {ε : gE5} (N : Nat) (G : gOK γ) (hb : gcc γ = cX9_setCapacity) (ho : gow γ = RX9) (hy : gly γ = gyM) (hR : grm γ = { frames := 3, cells := 0, slots := 0, locals := 68 }) (he : genv γ = ε) (hr : grt γ = (some .int)) (hE : gEnv ε) : gSm γ cs ss 28 (fX9_setCapacity_k28 N) := by
  unfold fX9_setCapacity_k28
  refine sm_iconst (pc := 28) G hb (by decide +kernel : decode cX9_setCapacity 28 = .ok (.iconst 2, 1)) (by decide) ?_
  refine sm_mono (cav_sub gI_sub) (sm_callV (pc := 29) (N := 32) (T := TX9) (C := RX9) G hb ho hy he hE.1 3 [0, 1, 2, 3, 4, 5, 6, 7, 8, 9, 10, 11, 12, 13, 14, 15, 16, 17] (kX9_fails hE N) (gCo_of (by decide +kernel)) (by rw [hR]; exact ⟨by decide, by decide⟩) rfl rfl (by decide +kernel) gw6_105 gw6_107 gw0_34 gw1_11 gw6_108 (by decide +kernel : decode cX9_setCapacity 29 = .ok (.invokevirtual 87, 3)) ?_)
  refine sm_if_eq (pc := 32) (tgt := 37) G hb (by decide +kernel : decode cX9_setCapacity 32 = .ok (.ifCond .eq 5, 3)) (by decide) ?_ ?_
  · skip
    refine sm_aload_n (pc := 37) G hb (by decide +kernel : decode cX9_setCapacity 37 = .ok (.aload_n 0, 1)) rfl ?_
    refine sm_bipush (pc := 38) G hb (by decide +kernel : decode cX9_setCapacity 38 = .ok (.bipush 9, 2)) (by decide) ?_
    refine sm_iconst (pc := 40) G hb (by decide +kernel : decode cX9_setCapacity 40 = .ok (.iconst 4, 1)) (by decide) ?_
    refine sm_iload_n (pc := 41) G hb (by decide +kernel : decode cX9_setCapacity 41 = .ok (.iload_n 1, 1)) rfl ?_
    refine sm_imul (pc := 42) G hb (by decide +kernel : decode cX9_setCapacity 42 = .ok (.imul, 1)) ?_
    refine sm_iadd (pc := 43) G hb (by decide +kernel : decode cX9_setCapacity 43 = .ok (.iadd, 1)) ?_
    refine sm_iconst (pc := 44) G hb (by decide +kernel : decode cX9_setCapacity 44 = .ok (.iconst 2, 1)) (by decide) ?_
    refine sm_iadd (pc := 45) G hb (by decide +kernel : decode cX9_setCapacity 45 = .ok (.iadd, 1)) ?_
    refine sm_iload_n (pc := 46) G hb (by decide +kernel : decode cX9_setCapacity 46 = .ok (.iload_n 2, 1)) rfl ?_
    refine sm_mono (cav_sub gI_sub) (sm_callV (pc := 47) (N := 32) (T := TX9) (C := RX9) G hb ho hy he hE.1 3 [0, 1, 2, 3, 4, 5, 6, 7, 8, 9, 10, 11, 12, 13, 14, 15, 16, 17] (kX9_become hE N) (gCo_of (by decide +kernel)) (by rw [hR]; exact ⟨by decide, by decide⟩) rfl rfl (by decide +kernel) gw7_17 gw7_19 gw0_55 gw1_11 gw7_20 (by decide +kernel : decode cX9_setCapacity 47 = .ok (.invokevirtual 351, 3)) ?_)
    exact sm_iret (pc := 50) G hb (by decide +kernel : decode cX9_setCapacity 50 = .ok (.ireturn, 1)) hr
  · skip
    refine sm_iconst (pc := 35) G hb (by decide +kernel : decode cX9_setCapacity 35 = .ok (.iconst 0, 1)) (by decide) ?_
    exact sm_iret (pc := 36) G hb (by decide +kernel : decode cX9_setCapacity 36 = .ok (.ireturn, 1)) hr
set_option maxRecDepth 100000 in
set_option maxHeartbeats 4000000 in
theorem fX9_setCapacity_s0 {γ : gG} {cs ss : Nat} {ε : gE5} (N : Nat) (G : gOK γ) (hb : gcc γ = cX9_setCapacity) (ho : gow γ = RX9) (hy : gly γ = gyM) (hR : grm γ = { frames := 3, cells := 0, slots := 0, locals := 68 }) (he : genv γ = ε) (hr : grt γ = (some .int)) (hE : gEnv ε) : gSm γ cs ss 0 (fX9_setCapacity_k0 N) := by
  unfold fX9_setCapacity_k0
  refine sm_aload_n (pc := 0) G hb (by decide +kernel : decode cX9_setCapacity 0 = .ok (.aload_n 0, 1)) rfl ?_
  refine sm_iconst (pc := 1) G hb (by decide +kernel : decode cX9_setCapacity 1 = .ok (.iconst 0, 1)) (by decide) ?_
  refine sm_put (pc := 2) (ci := 9) (j := 0) (N := 32) (T := TX9) G hb ho hy tyX9 tyX9_ok nmX9 rfl (by decide) gin_9 gw5_236 rfl rfl (by decide +kernel : decode cX9_setCapacity 2 = .ok (.putfield 76, 3)) ?_
  refine sm_aload_n (pc := 5) G hb (by decide +kernel : decode cX9_setCapacity 5 = .ok (.aload_n 0, 1)) rfl ?_
  refine sm_aload_n (pc := 6) G hb (by decide +kernel : decode cX9_setCapacity 6 = .ok (.aload_n 0, 1)) rfl ?_
  refine sm_iload_n (pc := 7) G hb (by decide +kernel : decode cX9_setCapacity 7 = .ok (.iload_n 1, 1)) rfl ?_
  refine sm_mono (cav_sub gI_sub) (sm_callV (pc := 8) (N := 32) (T := TX9) (C := RX9) G hb ho hy he hE.1 2 [0, 1, 2, 3, 4, 5, 6, 7, 8, 9, 10, 11, 12, 13, 14, 15, 16, 17] (kX9_isLink hE N) (gCo_of (by decide +kernel)) (by rw [hR]; exact ⟨by decide, by decide⟩) rfl rfl (by decide +kernel) gw7_13 gw7_15 gw0_54 gw1_11 gw7_16 (by decide +kernel : decode cX9_setCapacity 8 = .ok (.invokevirtual 348, 3)) ?_)
  refine sm_iconst (pc := 11) G hb (by decide +kernel : decode cX9_setCapacity 11 = .ok (.iconst 1, 1)) (by decide) ?_
  refine sm_mono (cav_sub gI_sub) (sm_callV (pc := 12) (N := 32) (T := TX9) (C := RX9) G hb ho hy he hE.1 3 [0, 1, 2, 3, 4, 5, 6, 7, 8, 9, 10, 11, 12, 13, 14, 15, 16, 17] (kX9_fails hE N) (gCo_of (by decide +kernel)) (by rw [hR]; exact ⟨by decide, by decide⟩) rfl rfl (by decide +kernel) gw6_105 gw6_107 gw0_34 gw1_11 gw6_108 (by decide +kernel : decode cX9_setCapacity 12 = .ok (.invokevirtual 87, 3)) ?_)
  refine sm_if_ne (pc := 15) (tgt := 35) G hb (by decide +kernel : decode cX9_setCapacity 15 = .ok (.ifCond .ne 20, 3)) (by decide) ?_ ?_
  · skip
    refine sm_iconst (pc := 35) G hb (by decide +kernel : decode cX9_setCapacity 35 = .ok (.iconst 0, 1)) (by decide) ?_
    exact sm_iret (pc := 36) G hb (by decide +kernel : decode cX9_setCapacity 36 = .ok (.ireturn, 1)) hr
  · skip
    refine sm_aload_n (pc := 18) G hb (by decide +kernel : decode cX9_setCapacity 18 = .ok (.aload_n 0, 1)) rfl ?_
    refine sm_iload_n (pc := 19) G hb (by decide +kernel : decode cX9_setCapacity 19 = .ok (.iload_n 2, 1)) rfl ?_
    refine sm_i2l (pc := 20) G hb (by decide +kernel : decode cX9_setCapacity 20 = .ok (.i2l, 1)) ?_
    refine sm_lconst (pc := 21) G hb (by decide +kernel : decode cX9_setCapacity 21 = .ok (.lconst 1, 1)) (by decide) ?_
    refine sm_ldc2 (pc := 22) G hb ho (by decide +kernel : decode cX9_setCapacity 22 = .ok (.ldc2_w 343, 3)) gw7_4 ?_
    refine sm_mono (ca_sub gI_sub) (sm_callS (pc := 25) G hb ho hy he hE.1 3 [] (kX9_in hE N) (gCo_of (by decide +kernel)) (by rw [hR]; exact ⟨by decide, by decide⟩) (by decide +kernel) gw6_113 gw6_114 gw1_11 gw6_115 (by decide +kernel : decode cX9_setCapacity 25 = .ok (.invokestatic 91, 3)) ?_)
    refine sm_mask ?_
    exact fX9_setCapacity_s28 N G hb ho hy hR he hr hE
theorem kX9_setCapacity {ε : gE5} (hE : gEnv ε) (N : Nat) : gCtr ε yX9_setCapacity cX9_setCapacity 3 (some .int) 3 68 gyM (fX9_setCapacity N) :=
  gCtr_of hE.1 (by decide) (fun γ G hb ho hy hR he hr => fX9_setCapacity_s0 N G hb ho hy hR he hr hE)

set_option maxRecDepth 100000 in
set_option maxHeartbeats 4000000 in
theorem fX9_setConflict_s72 {γ : gG} {cs ss : Nat} {ε : gE5} (N : Nat) (G : gOK γ) (hb : gcc γ = cX9_setConflict) (ho : gow γ = RX9) (hy : gly γ = gyM) (hR : grm γ = { frames := 2, cells := 0, slots := 0, locals := 46 }) (he : genv γ = ε) (hr : grt γ = (some .boolean)) (hE : gEnv ε) : gSm γ cs ss 72 (fX9_setConflict_k72 N) := by
  unfold fX9_setConflict_k72
  refine sm_istore (pc := 72) G hb (by decide +kernel : decode cX9_setConflict 72 = .ok (.istore 4, 2)) ?_
  refine sm_iconst (pc := 74) G hb (by decide +kernel : decode cX9_setConflict 74 = .ok (.iconst 1, 1)) (by decide) ?_
  refine sm_iload_n (pc := 75) G hb (by decide +kernel : decode cX9_setConflict 75 = .ok (.iload_n 1, 1)) rfl ?_
  refine sm_ishl (pc := 76) G hb (by decide +kernel : decode cX9_setConflict 76 = .ok (.ishl, 1)) ?_
  refine sm_iconst (pc := 77) G hb (by decide +kernel : decode cX9_setConflict 77 = .ok (.iconst 1, 1)) (by decide) ?_
  refine sm_iload_n (pc := 78) G hb (by decide +kernel : decode cX9_setConflict 78 = .ok (.iload_n 2, 1)) rfl ?_
  refine sm_ishl (pc := 79) G hb (by decide +kernel : decode cX9_setConflict 79 = .ok (.ishl, 1)) ?_
  refine sm_ior (pc := 80) G hb (by decide +kernel : decode cX9_setConflict 80 = .ok (.ior, 1)) ?_
  refine sm_istore (pc := 81) G hb (by decide +kernel : decode cX9_setConflict 81 = .ok (.istore 5, 2)) ?_
  refine sm_iload (pc := 83) G hb (by decide +kernel : decode cX9_setConflict 83 = .ok (.iload 4, 2)) ?_
  refine sm_iload_n (pc := 85) G hb (by decide +kernel : decode cX9_setConflict 85 = .ok (.iload_n 3, 1)) rfl ?_
  refine sm_icmp_eq (pc := 86) (tgt := 131) G hb (by decide +kernel : decode cX9_setConflict 86 = .ok (.if_icmp .eq 45, 3)) (by decide) ?_ ?_
  · skip
    refine sm_iload (pc := 131) G hb (by decide +kernel : decode cX9_setConflict 131 = .ok (.iload 4, 2)) ?_
    exact sm_zret (pc := 133) G hb (by decide +kernel : decode cX9_setConflict 133 = .ok (.ireturn, 1)) hr
  · skip
    refine sm_aload_n (pc := 89) G hb (by decide +kernel : decode cX9_setConflict 89 = .ok (.aload_n 0, 1)) rfl ?_
    refine sm_get (pc := 90) (ci := 9) (j := 9) (N := 32) (T := TX9) G hb ho hy rfl (by decide) gin_9 gw6_5 (by decide +kernel : decode cX9_setConflict 90 = .ok (.getfield 16, 3)) ?_
    refine sm_sipush (pc := 93) G hb (by decide +kernel : decode cX9_setConflict 93 = .ok (.sipush 131, 3)) (by decide) ?_
    refine sm_iload_n (pc := 96) G hb (by decide +kernel : decode cX9_setConflict 96 = .ok (.iload_n 1, 1)) rfl ?_
    refine sm_iadd (pc := 97) G hb (by decide +kernel : decode cX9_setConflict 97 = .ok (.iadd, 1)) ?_
    refine sm_dup2 (pc := 98) G hb (by decide +kernel : decode cX9_setConflict 98 = .ok (.dup2, 1)) ?_
    refine sm_iald (pc := 99) G hb hy (by decide +kernel : decode cX9_setConflict 99 = .ok (.iaload, 1)) ?_
    refine sm_iload (pc := 100) G hb (by decide +kernel : decode cX9_setConflict 100 = .ok (.iload 5, 2)) ?_
    refine sm_iconst (pc := 102) G hb (by decide +kernel : decode cX9_setConflict 102 = .ok (.iconst 1, 1)) (by decide) ?_
    refine sm_iload_n (pc := 103) G hb (by decide +kernel : decode cX9_setConflict 103 = .ok (.iload_n 1, 1)) rfl ?_
    refine sm_ishl (pc := 104) G hb (by decide +kernel : decode cX9_setConflict 104 = .ok (.ishl, 1)) ?_
    refine sm_iconst (pc := 105) G hb (by decide +kernel : decode cX9_setConflict 105 = .ok (.iconst (-1), 1)) (by decide) ?_
    refine sm_ixor (pc := 106) G hb (by decide +kernel : decode cX9_setConflict 106 = .ok (.ixor, 1)) ?_
    refine sm_iand (pc := 107) G hb (by decide +kernel : decode cX9_setConflict 107 = .ok (.iand, 1)) ?_
    refine sm_ixor (pc := 108) G hb (by decide +kernel : decode cX9_setConflict 108 = .ok (.ixor, 1)) ?_
    refine sm_iast (pc := 109) G hb hy (by decide +kernel : decode cX9_setConflict 109 = .ok (.iastore, 1)) ?_
    refine sm_aload_n (pc := 110) G hb (by decide +kernel : decode cX9_setConflict 110 = .ok (.aload_n 0, 1)) rfl ?_
    refine sm_get (pc := 111) (ci := 9) (j := 9) (N := 32) (T := TX9) G hb ho hy rfl (by decide) gin_9 gw6_5 (by decide +kernel : decode cX9_setConflict 111 = .ok (.getfield 16, 3)) ?_
    refine sm_sipush (pc := 114) G hb (by decide +kernel : decode cX9_setConflict 114 = .ok (.sipush 131, 3)) (by decide) ?_
    refine sm_iload_n (pc := 117) G hb (by decide +kernel : decode cX9_setConflict 117 = .ok (.iload_n 2, 1)) rfl ?_
    refine sm_iadd (pc := 118) G hb (by decide +kernel : decode cX9_setConflict 118 = .ok (.iadd, 1)) ?_
    refine sm_dup2 (pc := 119) G hb (by decide +kernel : decode cX9_setConflict 119 = .ok (.dup2, 1)) ?_
    refine sm_iald (pc := 120) G hb hy (by decide +kernel : decode cX9_setConflict 120 = .ok (.iaload, 1)) ?_
    refine sm_iload (pc := 121) G hb (by decide +kernel : decode cX9_setConflict 121 = .ok (.iload 5, 2)) ?_
    refine sm_iconst (pc := 123) G hb (by decide +kernel : decode cX9_setConflict 123 = .ok (.iconst 1, 1)) (by decide) ?_
    refine sm_iload_n (pc := 124) G hb (by decide +kernel : decode cX9_setConflict 124 = .ok (.iload_n 2, 1)) rfl ?_
    refine sm_ishl (pc := 125) G hb (by decide +kernel : decode cX9_setConflict 125 = .ok (.ishl, 1)) ?_
    refine sm_iconst (pc := 126) G hb (by decide +kernel : decode cX9_setConflict 126 = .ok (.iconst (-1), 1)) (by decide) ?_
    refine sm_ixor (pc := 127) G hb (by decide +kernel : decode cX9_setConflict 127 = .ok (.ixor, 1)) ?_
    refine sm_iand (pc := 128) G hb (by decide +kernel : decode cX9_setConflict 128 = .ok (.iand, 1)) ?_
    refine sm_ixor (pc := 129) G hb (by decide +kernel : decode cX9_setConflict 129 = .ok (.ixor, 1)) ?_
    refine sm_iast (pc := 130) G hb hy (by decide +kernel : decode cX9_setConflict 130 = .ok (.iastore, 1)) ?_
    refine sm_iload (pc := 131) G hb (by decide +kernel : decode cX9_setConflict 131 = .ok (.iload 4, 2)) ?_
    exact sm_zret (pc := 133) G hb (by decide +kernel : decode cX9_setConflict 133 = .ok (.ireturn, 1)) hr
set_option maxRecDepth 100000 in
set_option maxHeartbeats 4000000 in
theorem fX9_setConflict_s45 {γ : gG} {cs ss : Nat} {ε : gE5} (N : Nat) (G : gOK γ) (hb : gcc γ = cX9_setConflict) (ho : gow γ = RX9) (hy : gly γ = gyM) (hR : grm γ = { frames := 2, cells := 0, slots := 0, locals := 46 }) (he : genv γ = ε) (hr : grt γ = (some .boolean)) (hE : gEnv ε) : gSm γ cs ss 45 (fX9_setConflict_k45 N) := by
  unfold fX9_setConflict_k45
  refine sm_iconst (pc := 45) G hb (by decide +kernel : decode cX9_setConflict 45 = .ok (.iconst 2, 1)) (by decide) ?_
  refine sm_mono (cav_sub gI_sub) (sm_callV (pc := 46) (N := 32) (T := TX9) (C := RX9) G hb ho hy he hE.1 3 [0, 1, 2, 3, 4, 5, 6, 7, 8, 9, 10, 11, 12, 13, 14, 15, 16, 17] (kX9_fails hE N) (gCo_of (by decide +kernel)) (by rw [hR]; exact ⟨by decide, by decide⟩) rfl rfl (by decide +kernel) gw6_105 gw6_107 gw0_34 gw1_11 gw6_108 (by decide +kernel : decode cX9_setConflict 46 = .ok (.invokevirtual 87, 3)) ?_)
  refine sm_if_eq (pc := 49) (tgt := 54) G hb (by decide +kernel : decode cX9_setConflict 49 = .ok (.ifCond .eq 5, 3)) (by decide) ?_ ?_
  · skip
    refine sm_aload_n (pc := 54) G hb (by decide +kernel : decode cX9_setConflict 54 = .ok (.aload_n 0, 1)) rfl ?_
    refine sm_mono (cav_sub gV_sub) (sm_callV (pc := 55) (N := 32) (T := TX9) (C := RX9) G hb ho hy he hE.1 1 [0, 1, 2, 3, 4, 5, 6, 7, 8, 9, 10, 11, 12, 13, 14, 15, 16, 17] (kX9_record hE N) (gCo_of (by decide +kernel)) (by rw [hR]; exact ⟨by decide, by decide⟩) rfl rfl (by decide +kernel) gw7_5 gw7_7 gw0_53 gw1_11 gw7_8 (by decide +kernel : decode cX9_setConflict 55 = .ok (.invokevirtual 345, 3)) ?_)
    refine sm_aload_n (pc := 58) G hb (by decide +kernel : decode cX9_setConflict 58 = .ok (.aload_n 0, 1)) rfl ?_
    refine sm_get (pc := 59) (ci := 9) (j := 9) (N := 32) (T := TX9) G hb ho hy rfl (by decide) gin_9 gw6_5 (by decide +kernel : decode cX9_setConflict 59 = .ok (.getfield 16, 3)) ?_
    refine sm_sipush (pc := 62) G hb (by decide +kernel : decode cX9_setConflict 62 = .ok (.sipush 131, 3)) (by decide) ?_
    refine sm_iload_n (pc := 65) G hb (by decide +kernel : decode cX9_setConflict 65 = .ok (.iload_n 1, 1)) rfl ?_
    refine sm_iadd (pc := 66) G hb (by decide +kernel : decode cX9_setConflict 66 = .ok (.iadd, 1)) ?_
    refine sm_iald (pc := 67) G hb hy (by decide +kernel : decode cX9_setConflict 67 = .ok (.iaload, 1)) ?_
    refine sm_iload_n (pc := 68) G hb (by decide +kernel : decode cX9_setConflict 68 = .ok (.iload_n 2, 1)) rfl ?_
    refine sm_mono (ca_sub gI_sub) (sm_callS (pc := 69) G hb ho hy he hE.1 2 [] (kX9_has hE N) (gCo_of (by decide +kernel)) (by rw [hR]; exact ⟨by decide, by decide⟩) (by decide +kernel) gw6_187 gw6_188 gw1_11 gw6_189 (by decide +kernel : decode cX9_setConflict 69 = .ok (.invokestatic 170, 3)) ?_)
    refine sm_mask ?_
    exact fX9_setConflict_s72 N G hb ho hy hR he hr hE
  · skip
    refine sm_iconst (pc := 52) G hb (by decide +kernel : decode cX9_setConflict 52 = .ok (.iconst 0, 1)) (by decide) ?_
    exact sm_zret (pc := 53) G hb (by decide +kernel : decode cX9_setConflict 53 = .ok (.ireturn, 1)) hr
set_option maxRecDepth 100000 in
set_option maxHeartbeats 4000000 in
theorem fX9_setConflict_s27 {γ : gG} {cs ss : Nat} {ε : gE5} (N : Nat) (G : gOK γ) (hb : gcc γ = cX9_setConflict) (ho : gow γ = RX9) (hy : gly γ = gyM) (hR : grm γ = { frames := 2, cells := 0, slots := 0, locals := 46 }) (he : genv γ = ε) (hr : grt γ = (some .boolean)) (hE : gEnv ε) : gSm γ cs ss 27 (fX9_setConflict_k27 N) := by
  unfold fX9_setConflict_k27
  refine sm_iconst (pc := 27) G hb (by decide +kernel : decode cX9_setConflict 27 = .ok (.iconst 1, 1)) (by decide) ?_
  refine sm_mono (cav_sub gI_sub) (sm_callV (pc := 28) (N := 32) (T := TX9) (C := RX9) G hb ho hy he hE.1 3 [0, 1, 2, 3, 4, 5, 6, 7, 8, 9, 10, 11, 12, 13, 14, 15, 16, 17] (kX9_fails hE N) (gCo_of (by decide +kernel)) (by rw [hR]; exact ⟨by decide, by decide⟩) rfl rfl (by decide +kernel) gw6_105 gw6_107 gw0_34 gw1_11 gw6_108 (by decide +kernel : decode cX9_setConflict 28 = .ok (.invokevirtual 87, 3)) ?_)
  refine sm_if_ne (pc := 31) (tgt := 52) G hb (by decide +kernel : decode cX9_setConflict 31 = .ok (.ifCond .ne 21, 3)) (by decide) ?_ ?_
  · skip
    refine sm_iconst (pc := 52) G hb (by decide +kernel : decode cX9_setConflict 52 = .ok (.iconst 0, 1)) (by decide) ?_
    exact sm_zret (pc := 53) G hb (by decide +kernel : decode cX9_setConflict 53 = .ok (.ireturn, 1)) hr
  · skip
    refine sm_aload_n (pc := 34) G hb (by decide +kernel : decode cX9_setConflict 34 = .ok (.aload_n 0, 1)) rfl ?_
    refine sm_iload_n (pc := 35) G hb (by decide +kernel : decode cX9_setConflict 35 = .ok (.iload_n 1, 1)) rfl ?_
    refine sm_iload_n (pc := 36) G hb (by decide +kernel : decode cX9_setConflict 36 = .ok (.iload_n 2, 1)) rfl ?_
    refine sm_icmp_eq (pc := 37) (tgt := 44) G hb (by decide +kernel : decode cX9_setConflict 37 = .ok (.if_icmp .eq 7, 3)) (by decide) ?_ ?_
    · skip
      refine sm_iconst (pc := 44) G hb (by decide +kernel : decode cX9_setConflict 44 = .ok (.iconst 0, 1)) (by decide) ?_
      refine sm_mask ?_
      exact fX9_setConflict_s45 N G hb ho hy hR he hr hE
    · skip
      refine sm_iconst (pc := 40) G hb (by decide +kernel : decode cX9_setConflict 40 = .ok (.iconst 1, 1)) (by decide) ?_
      refine sm_goto (pc := 41) (tgt := 45) G hb (by decide +kernel : decode cX9_setConflict 41 = .ok (.goto 4, 3)) (by decide) ?_
      refine sm_mask ?_
      exact fX9_setConflict_s45 N G hb ho hy hR he hr hE
set_option maxRecDepth 100000 in
set_option maxHeartbeats 4000000 in
theorem fX9_setConflict_s26 {γ : gG} {cs ss : Nat} {ε : gE5} (N : Nat) (G : gOK γ) (hb : gcc γ = cX9_setConflict) (ho : gow γ = RX9) (hy : gly γ = gyM) (hR : grm γ = { frames := 2, cells := 0, slots := 0, locals := 46 }) (he : genv γ = ε) (hr : grt γ = (some .boolean)) (hE : gEnv ε) : gSm γ cs ss 26 (fX9_setConflict_k26 N) := by
  unfold fX9_setConflict_k26
  refine sm_iconst (pc := 26) G hb (by decide +kernel : decode cX9_setConflict 26 = .ok (.iconst 0, 1)) (by decide) ?_
  refine sm_mask ?_
  exact fX9_setConflict_s27 N G hb ho hy hR he hr hE
set_option maxRecDepth 100000 in
set_option maxHeartbeats 4000000 in
theorem fX9_setConflict_s0 {γ : gG} {cs ss : Nat} {ε : gE5} (N : Nat) (G : gOK γ) (hb : gcc γ = cX9_setConflict) (ho : gow γ = RX9) (hy : gly γ = gyM) (hR : grm γ = { frames := 2, cells := 0, slots := 0, locals := 46 }) (he : genv γ = ε) (hr : grt γ = (some .boolean)) (hE : gEnv ε) : gSm γ cs ss 0 (fX9_setConflict_k0 N) := by
  unfold fX9_setConflict_k0
  refine sm_aload_n (pc := 0) G hb (by decide +kernel : decode cX9_setConflict 0 = .ok (.aload_n 0, 1)) rfl ?_
  refine sm_iconst (pc := 1) G hb (by decide +kernel : decode cX9_setConflict 1 = .ok (.iconst 0, 1)) (by decide) ?_
  refine sm_put (pc := 2) (ci := 9) (j := 0) (N := 32) (T := TX9) G hb ho hy tyX9 tyX9_ok nmX9 rfl (by decide) gin_9 gw5_236 rfl rfl (by decide +kernel : decode cX9_setConflict 2 = .ok (.putfield 76, 3)) ?_
  refine sm_aload_n (pc := 5) G hb (by decide +kernel : decode cX9_setConflict 5 = .ok (.aload_n 0, 1)) rfl ?_
  refine sm_aload_n (pc := 6) G hb (by decide +kernel : decode cX9_setConflict 6 = .ok (.aload_n 0, 1)) rfl ?_
  refine sm_iload_n (pc := 7) G hb (by decide +kernel : decode cX9_setConflict 7 = .ok (.iload_n 1, 1)) rfl ?_
  refine sm_mono (cav_sub gI_sub) (sm_callV (pc := 8) (N := 32) (T := TX9) (C := RX9) G hb ho hy he hE.1 2 [0, 1, 2, 3, 4, 5, 6, 7, 8, 9, 10, 11, 12, 13, 14, 15, 16, 17] (kX9_isLink hE N) (gCo_of (by decide +kernel)) (by rw [hR]; exact ⟨by decide, by decide⟩) rfl rfl (by decide +kernel) gw7_13 gw7_15 gw0_54 gw1_11 gw7_16 (by decide +kernel : decode cX9_setConflict 8 = .ok (.invokevirtual 348, 3)) ?_)
  refine sm_if_eq (pc := 11) (tgt := 26) G hb (by decide +kernel : decode cX9_setConflict 11 = .ok (.ifCond .eq 15, 3)) (by decide) ?_ ?_
  · skip
    refine sm_mask ?_
    exact fX9_setConflict_s26 N G hb ho hy hR he hr hE
  · skip
    refine sm_aload_n (pc := 14) G hb (by decide +kernel : decode cX9_setConflict 14 = .ok (.aload_n 0, 1)) rfl ?_
    refine sm_iload_n (pc := 15) G hb (by decide +kernel : decode cX9_setConflict 15 = .ok (.iload_n 2, 1)) rfl ?_
    refine sm_mono (cav_sub gI_sub) (sm_callV (pc := 16) (N := 32) (T := TX9) (C := RX9) G hb ho hy he hE.1 2 [0, 1, 2, 3, 4, 5, 6, 7, 8, 9, 10, 11, 12, 13, 14, 15, 16, 17] (kX9_isLink hE N) (gCo_of (by decide +kernel)) (by rw [hR]; exact ⟨by decide, by decide⟩) rfl rfl (by decide +kernel) gw7_13 gw7_15 gw0_54 gw1_11 gw7_16 (by decide +kernel : decode cX9_setConflict 16 = .ok (.invokevirtual 348, 3)) ?_)
    refine sm_if_eq (pc := 19) (tgt := 26) G hb (by decide +kernel : decode cX9_setConflict 19 = .ok (.ifCond .eq 7, 3)) (by decide) ?_ ?_
    · skip
      refine sm_mask ?_
      exact fX9_setConflict_s26 N G hb ho hy hR he hr hE
    · skip
      refine sm_iconst (pc := 22) G hb (by decide +kernel : decode cX9_setConflict 22 = .ok (.iconst 1, 1)) (by decide) ?_
      refine sm_goto (pc := 23) (tgt := 27) G hb (by decide +kernel : decode cX9_setConflict 23 = .ok (.goto 4, 3)) (by decide) ?_
      refine sm_mask ?_
      exact fX9_setConflict_s27 N G hb ho hy hR he hr hE
theorem kX9_setConflict {ε : gE5} (hE : gEnv ε) (N : Nat) : gCtr ε yX9_setConflict cX9_setConflict 6 (some .boolean) 2 46 gyM (fX9_setConflict N) :=
  gCtr_of hE.1 (by decide) (fun γ G hb ho hy hR he hr => fX9_setConflict_s0 N G hb ho hy hR he hr hE)

set_option maxRecDepth 100000 in
set_option maxHeartbeats 4000000 in
theorem fX9_addFlow_s106 {γ : gG} {cs ss : Nat} {ε : gE5} (N : Nat) (G : gOK γ) (hb : gcc γ = cX9_addFlow) (ho : gow γ = RX9) (hy : gly γ = gyM) (hR : grm γ = { frames := 3, cells := 0, slots := 0, locals := 68 }) (he : genv γ = ε) (hr : grt γ = (some .int)) (hE : gEnv ε) : gSm γ cs ss 106 (fX9_addFlow_k106 N) := by
  unfold fX9_addFlow_k106
  refine sm_aload_n (pc := 106) G hb (by decide +kernel : decode cX9_addFlow 106 = .ok (.aload_n 0, 1)) rfl ?_
  refine sm_get (pc := 107) (ci := 9) (j := 9) (N := 32) (T := TX9) G hb ho hy rfl (by decide) gin_9 gw6_5 (by decide +kernel : decode cX9_addFlow 107 = .ok (.getfield 16, 3)) ?_
  refine sm_iconst (pc := 110) G hb (by decide +kernel : decode cX9_addFlow 110 = .ok (.iconst 2, 1)) (by decide) ?_
  refine sm_iald (pc := 111) G hb hy (by decide +kernel : decode cX9_addFlow 111 = .ok (.iaload, 1)) ?_
  refine sm_iconst (pc := 112) G hb (by decide +kernel : decode cX9_addFlow 112 = .ok (.iconst 1, 1)) (by decide) ?_
  refine sm_isub (pc := 113) G hb (by decide +kernel : decode cX9_addFlow 113 = .ok (.isub, 1)) ?_
  exact sm_iret (pc := 114) G hb (by decide +kernel : decode cX9_addFlow 114 = .ok (.ireturn, 1)) hr
set_option maxRecDepth 100000 in
set_option maxHeartbeats 4000000 in
theorem fX9_addFlow_s81 {γ : gG} {cs ss : Nat} {ε : gE5} (N : Nat) (G : gOK γ) (hb : gcc γ = cX9_addFlow) (ho : gow γ = RX9) (hy : gly γ = gyM) (hR : grm γ = { frames := 3, cells := 0, slots := 0, locals := 68 }) (he : genv γ = ε) (hr : grt γ = (some .int)) (hE : gEnv ε) : gSm γ cs ss 81 (fX9_addFlow_k81 N) := by
  unfold fX9_addFlow_k81
  refine sm_iconst (pc := 81) G hb (by decide +kernel : decode cX9_addFlow 81 = .ok (.iconst 3, 1)) (by decide) ?_
  refine sm_mono (cav_sub gI_sub) (sm_callV (pc := 82) (N := 32) (T := TX9) (C := RX9) G hb ho hy he hE.1 3 [0, 1, 2, 3, 4, 5, 6, 7, 8, 9, 10, 11, 12, 13, 14, 15, 16, 17] (kX9_fails hE N) (gCo_of (by decide +kernel)) (by rw [hR]; exact ⟨by decide, by decide⟩) rfl rfl (by decide +kernel) gw6_105 gw6_107 gw0_34 gw1_11 gw6_108 (by decide +kernel : decode cX9_addFlow 82 = .ok (.invokevirtual 87, 3)) ?_)
  refine sm_if_eq (pc := 85) (tgt := 90) G hb (by decide +kernel : decode cX9_addFlow 85 = .ok (.ifCond .eq 5, 3)) (by decide) ?_ ?_
  · skip
    refine sm_aload_n (pc := 90) G hb (by decide +kernel : decode cX9_addFlow 90 = .ok (.aload_n 0, 1)) rfl ?_
    refine sm_mono (cav_sub gV_sub) (sm_callV (pc := 91) (N := 32) (T := TX9) (C := RX9) G hb ho hy he hE.1 1 [0, 1, 2, 3, 4, 5, 6, 7, 8, 9, 10, 11, 12, 13, 14, 15, 16, 17] (kX9_record hE N) (gCo_of (by decide +kernel)) (by rw [hR]; exact ⟨by decide, by decide⟩) rfl rfl (by decide +kernel) gw7_5 gw7_7 gw0_53 gw1_11 gw7_8 (by decide +kernel : decode cX9_addFlow 91 = .ok (.invokevirtual 345, 3)) ?_)
    refine sm_aload_n (pc := 94) G hb (by decide +kernel : decode cX9_addFlow 94 = .ok (.aload_n 0, 1)) rfl ?_
    refine sm_get (pc := 95) (ci := 9) (j := 9) (N := 32) (T := TX9) G hb ho hy rfl (by decide) gin_9 gw6_5 (by decide +kernel : decode cX9_addFlow 95 = .ok (.getfield 16, 3)) ?_
    refine sm_iload_n (pc := 98) G hb (by decide +kernel : decode cX9_addFlow 98 = .ok (.iload_n 1, 1)) rfl ?_
    refine sm_iload_n (pc := 99) G hb (by decide +kernel : decode cX9_addFlow 99 = .ok (.iload_n 2, 1)) rfl ?_
    refine sm_iload_n (pc := 100) G hb (by decide +kernel : decode cX9_addFlow 100 = .ok (.iload_n 3, 1)) rfl ?_
    refine sm_iload (pc := 101) G hb (by decide +kernel : decode cX9_addFlow 101 = .ok (.iload 4, 2)) ?_
    refine sm_mono (ca_sub gV_sub) (sm_callS (pc := 103) G hb ho hy he hE.1 5 [3] (kX9_layFlow hE N) (gCo_of (by decide +kernel)) (by rw [hR]; exact ⟨by decide, by decide⟩) (by decide +kernel) gw5_226 gw5_227 gw1_11 gw5_228 (by decide +kernel : decode cX9_addFlow 103 = .ok (.invokestatic 69, 3)) ?_)
    refine sm_mask ?_
    exact fX9_addFlow_s106 N G hb ho hy hR he hr hE
  · skip
    refine sm_iconst (pc := 88) G hb (by decide +kernel : decode cX9_addFlow 88 = .ok (.iconst 0, 1)) (by decide) ?_
    exact sm_iret (pc := 89) G hb (by decide +kernel : decode cX9_addFlow 89 = .ok (.ireturn, 1)) hr
set_option maxRecDepth 100000 in
set_option maxHeartbeats 4000000 in
theorem fX9_addFlow_s57 {γ : gG} {cs ss : Nat} {ε : gE5} (N : Nat) (G : gOK γ) (hb : gcc γ = cX9_addFlow) (ho : gow γ = RX9) (hy : gly γ = gyM) (hR : grm γ = { frames := 3, cells := 0, slots := 0, locals := 68 }) (he : genv γ = ε) (hr : grt γ = (some .int)) (hE : gEnv ε) : gSm γ cs ss 57 (fX9_addFlow_k57 N) := by
  unfold fX9_addFlow_k57
  refine sm_iconst (pc := 57) G hb (by decide +kernel : decode cX9_addFlow 57 = .ok (.iconst 2, 1)) (by decide) ?_
  refine sm_mono (cav_sub gI_sub) (sm_callV (pc := 58) (N := 32) (T := TX9) (C := RX9) G hb ho hy he hE.1 3 [0, 1, 2, 3, 4, 5, 6, 7, 8, 9, 10, 11, 12, 13, 14, 15, 16, 17] (kX9_fails hE N) (gCo_of (by decide +kernel)) (by rw [hR]; exact ⟨by decide, by decide⟩) rfl rfl (by decide +kernel) gw6_105 gw6_107 gw0_34 gw1_11 gw6_108 (by decide +kernel : decode cX9_addFlow 58 = .ok (.invokevirtual 87, 3)) ?_)
  refine sm_if_ne (pc := 61) (tgt := 88) G hb (by decide +kernel : decode cX9_addFlow 61 = .ok (.ifCond .ne 27, 3)) (by decide) ?_ ?_
  · skip
    refine sm_iconst (pc := 88) G hb (by decide +kernel : decode cX9_addFlow 88 = .ok (.iconst 0, 1)) (by decide) ?_
    exact sm_iret (pc := 89) G hb (by decide +kernel : decode cX9_addFlow 89 = .ok (.ireturn, 1)) hr
  · skip
    refine sm_aload_n (pc := 64) G hb (by decide +kernel : decode cX9_addFlow 64 = .ok (.aload_n 0, 1)) rfl ?_
    refine sm_aload_n (pc := 65) G hb (by decide +kernel : decode cX9_addFlow 65 = .ok (.aload_n 0, 1)) rfl ?_
    refine sm_get (pc := 66) (ci := 9) (j := 9) (N := 32) (T := TX9) G hb ho hy rfl (by decide) gin_9 gw6_5 (by decide +kernel : decode cX9_addFlow 66 = .ok (.getfield 16, 3)) ?_
    refine sm_iconst (pc := 69) G hb (by decide +kernel : decode cX9_addFlow 69 = .ok (.iconst 2, 1)) (by decide) ?_
    refine sm_iald (pc := 70) G hb hy (by decide +kernel : decode cX9_addFlow 70 = .ok (.iaload, 1)) ?_
    refine sm_bipush (pc := 71) G hb (by decide +kernel : decode cX9_addFlow 71 = .ok (.bipush 6, 2)) (by decide) ?_
    refine sm_icmp_ge (pc := 73) (tgt := 80) G hb (by decide +kernel : decode cX9_addFlow 73 = .ok (.if_icmp .ge 7, 3)) (by decide) ?_ ?_
    · skip
      refine sm_iconst (pc := 80) G hb (by decide +kernel : decode cX9_addFlow 80 = .ok (.iconst 0, 1)) (by decide) ?_
      refine sm_mask ?_
      exact fX9_addFlow_s81 N G hb ho hy hR he hr hE
    · skip
      refine sm_iconst (pc := 76) G hb (by decide +kernel : decode cX9_addFlow 76 = .ok (.iconst 1, 1)) (by decide) ?_
      refine sm_goto (pc := 77) (tgt := 81) G hb (by decide +kernel : decode cX9_addFlow 77 = .ok (.goto 4, 3)) (by decide) ?_
      refine sm_mask ?_
      exact fX9_addFlow_s81 N G hb ho hy hR he hr hE
set_option maxRecDepth 100000 in
set_option maxHeartbeats 4000000 in
theorem fX9_addFlow_s56 {γ : gG} {cs ss : Nat} {ε : gE5} (N : Nat) (G : gOK γ) (hb : gcc γ = cX9_addFlow) (ho : gow γ = RX9) (hy : gly γ = gyM) (hR : grm γ = { frames := 3, cells := 0, slots := 0, locals := 68 }) (he : genv γ = ε) (hr : grt γ = (some .int)) (hE : gEnv ε) : gSm γ cs ss 56 (fX9_addFlow_k56 N) := by
  unfold fX9_addFlow_k56
  refine sm_iconst (pc := 56) G hb (by decide +kernel : decode cX9_addFlow 56 = .ok (.iconst 0, 1)) (by decide) ?_
  refine sm_mask ?_
  exact fX9_addFlow_s57 N G hb ho hy hR he hr hE
set_option maxRecDepth 100000 in
set_option maxHeartbeats 4000000 in
theorem fX9_addFlow_s36 {γ : gG} {cs ss : Nat} {ε : gE5} (N : Nat) (G : gOK γ) (hb : gcc γ = cX9_addFlow) (ho : gow γ = RX9) (hy : gly γ = gyM) (hR : grm γ = { frames := 3, cells := 0, slots := 0, locals := 68 }) (he : genv γ = ε) (hr : grt γ = (some .int)) (hE : gEnv ε) : gSm γ cs ss 36 (fX9_addFlow_k36 N) := by
  unfold fX9_addFlow_k36
  refine sm_if_eq (pc := 36) (tgt := 56) G hb (by decide +kernel : decode cX9_addFlow 36 = .ok (.ifCond .eq 20, 3)) (by decide) ?_ ?_
  · skip
    refine sm_mask ?_
    exact fX9_addFlow_s56 N G hb ho hy hR he hr hE
  · skip
    refine sm_iload (pc := 39) G hb (by decide +kernel : decode cX9_addFlow 39 = .ok (.iload 4, 2)) ?_
    refine sm_i2l (pc := 41) G hb (by decide +kernel : decode cX9_addFlow 41 = .ok (.i2l, 1)) ?_
    refine sm_lconst (pc := 42) G hb (by decide +kernel : decode cX9_addFlow 42 = .ok (.lconst 0, 1)) (by decide) ?_
    refine sm_ldc2 (pc := 43) G hb ho (by decide +kernel : decode cX9_addFlow 43 = .ok (.ldc2_w 356, 3)) gw7_30 ?_
    refine sm_mono (ca_sub gI_sub) (sm_callS (pc := 46) G hb ho hy he hE.1 3 [] (kX9_in hE N) (gCo_of (by decide +kernel)) (by rw [hR]; exact ⟨by decide, by decide⟩) (by decide +kernel) gw6_113 gw6_114 gw1_11 gw6_115 (by decide +kernel : decode cX9_addFlow 46 = .ok (.invokestatic 91, 3)) ?_)
    refine sm_if_eq (pc := 49) (tgt := 56) G hb (by decide +kernel : decode cX9_addFlow 49 = .ok (.ifCond .eq 7, 3)) (by decide) ?_ ?_
    · skip
      refine sm_mask ?_
      exact fX9_addFlow_s56 N G hb ho hy hR he hr hE
    · skip
      refine sm_iconst (pc := 52) G hb (by decide +kernel : decode cX9_addFlow 52 = .ok (.iconst 1, 1)) (by decide) ?_
      refine sm_goto (pc := 53) (tgt := 57) G hb (by decide +kernel : decode cX9_addFlow 53 = .ok (.goto 4, 3)) (by decide) ?_
      refine sm_mask ?_
      exact fX9_addFlow_s57 N G hb ho hy hR he hr hE
set_option maxRecDepth 100000 in
set_option maxHeartbeats 4000000 in
theorem fX9_addFlow_s0 {γ : gG} {cs ss : Nat} {ε : gE5} (N : Nat) (G : gOK γ) (hb : gcc γ = cX9_addFlow) (ho : gow γ = RX9) (hy : gly γ = gyM) (hR : grm γ = { frames := 3, cells := 0, slots := 0, locals := 68 }) (he : genv γ = ε) (hr : grt γ = (some .int)) (hE : gEnv ε) : gSm γ cs ss 0 (fX9_addFlow_k0 N) := by
  unfold fX9_addFlow_k0
  refine sm_aload_n (pc := 0) G hb (by decide +kernel : decode cX9_addFlow 0 = .ok (.aload_n 0, 1)) rfl ?_
  refine sm_iconst (pc := 1) G hb (by decide +kernel : decode cX9_addFlow 1 = .ok (.iconst 0, 1)) (by decide) ?_
  refine sm_put (pc := 2) (ci := 9) (j := 0) (N := 32) (T := TX9) G hb ho hy tyX9 tyX9_ok nmX9 rfl (by decide) gin_9 gw5_236 rfl rfl (by decide +kernel : decode cX9_addFlow 2 = .ok (.putfield 76, 3)) ?_
  refine sm_aload_n (pc := 5) G hb (by decide +kernel : decode cX9_addFlow 5 = .ok (.aload_n 0, 1)) rfl ?_
  refine sm_aload_n (pc := 6) G hb (by decide +kernel : decode cX9_addFlow 6 = .ok (.aload_n 0, 1)) rfl ?_
  refine sm_iload_n (pc := 7) G hb (by decide +kernel : decode cX9_addFlow 7 = .ok (.iload_n 1, 1)) rfl ?_
  refine sm_iload_n (pc := 8) G hb (by decide +kernel : decode cX9_addFlow 8 = .ok (.iload_n 2, 1)) rfl ?_
  refine sm_mono (cav_sub gI_sub) (sm_callV (pc := 9) (N := 32) (T := TX9) (C := RX9) G hb ho hy he hE.1 3 [0, 1, 2, 3, 4, 5, 6, 7, 8, 9, 10, 11, 12, 13, 14, 15, 16, 17] (kX9_areNodes hE N) (gCo_of (by decide +kernel)) (by rw [hR]; exact ⟨by decide, by decide⟩) rfl rfl (by decide +kernel) gw6_236 gw6_238 gw0_51 gw1_11 gw6_239 (by decide +kernel : decode cX9_addFlow 9 = .ok (.invokevirtual 340, 3)) ?_)
  refine sm_iconst (pc := 12) G hb (by decide +kernel : decode cX9_addFlow 12 = .ok (.iconst 1, 1)) (by decide) ?_
  refine sm_mono (cav_sub gI_sub) (sm_callV (pc := 13) (N := 32) (T := TX9) (C := RX9) G hb ho hy he hE.1 3 [0, 1, 2, 3, 4, 5, 6, 7, 8, 9, 10, 11, 12, 13, 14, 15, 16, 17] (kX9_fails hE N) (gCo_of (by decide +kernel)) (by rw [hR]; exact ⟨by decide, by decide⟩) rfl rfl (by decide +kernel) gw6_105 gw6_107 gw0_34 gw1_11 gw6_108 (by decide +kernel : decode cX9_addFlow 13 = .ok (.invokevirtual 87, 3)) ?_)
  refine sm_if_eq (pc := 16) (tgt := 21) G hb (by decide +kernel : decode cX9_addFlow 16 = .ok (.ifCond .eq 5, 3)) (by decide) ?_ ?_
  · skip
    refine sm_aload_n (pc := 21) G hb (by decide +kernel : decode cX9_addFlow 21 = .ok (.aload_n 0, 1)) rfl ?_
    refine sm_iload_n (pc := 22) G hb (by decide +kernel : decode cX9_addFlow 22 = .ok (.iload_n 1, 1)) rfl ?_
    refine sm_iload_n (pc := 23) G hb (by decide +kernel : decode cX9_addFlow 23 = .ok (.iload_n 2, 1)) rfl ?_
    refine sm_icmp_eq (pc := 24) (tgt := 56) G hb (by decide +kernel : decode cX9_addFlow 24 = .ok (.if_icmp .eq 32, 3)) (by decide) ?_ ?_
    · skip
      refine sm_mask ?_
      exact fX9_addFlow_s56 N G hb ho hy hR he hr hE
    · skip
      refine sm_iload_n (pc := 27) G hb (by decide +kernel : decode cX9_addFlow 27 = .ok (.iload_n 3, 1)) rfl ?_
      refine sm_i2l (pc := 28) G hb (by decide +kernel : decode cX9_addFlow 28 = .ok (.i2l, 1)) ?_
      refine sm_lconst (pc := 29) G hb (by decide +kernel : decode cX9_addFlow 29 = .ok (.lconst 0, 1)) (by decide) ?_
      refine sm_ldc2 (pc := 30) G hb ho (by decide +kernel : decode cX9_addFlow 30 = .ok (.ldc2_w 354, 3)) gw7_29 ?_
      refine sm_mono (ca_sub gI_sub) (sm_callS (pc := 33) G hb ho hy he hE.1 3 [] (kX9_in hE N) (gCo_of (by decide +kernel)) (by rw [hR]; exact ⟨by decide, by decide⟩) (by decide +kernel) gw6_113 gw6_114 gw1_11 gw6_115 (by decide +kernel : decode cX9_addFlow 33 = .ok (.invokestatic 91, 3)) ?_)
      refine sm_mask ?_
      exact fX9_addFlow_s36 N G hb ho hy hR he hr hE
  · skip
    refine sm_iconst (pc := 19) G hb (by decide +kernel : decode cX9_addFlow 19 = .ok (.iconst 0, 1)) (by decide) ?_
    exact sm_iret (pc := 20) G hb (by decide +kernel : decode cX9_addFlow 20 = .ok (.ireturn, 1)) hr
theorem kX9_addFlow {ε : gE5} (hE : gEnv ε) (N : Nat) : gCtr ε yX9_addFlow cX9_addFlow 5 (some .int) 3 68 gyM (fX9_addFlow N) :=
  gCtr_of hE.1 (by decide) (fun γ G hb ho hy hR he hr => fX9_addFlow_s0 N G hb ho hy hR he hr hE)

set_option maxRecDepth 100000 in
set_option maxHeartbeats 4000000 in
theorem fX9_setRate_s28 {γ : gG} {cs ss : Nat} {ε : gE5} (N : Nat) (G : gOK γ) (hb : gcc γ = cX9_setRate) (ho : gow γ = RX9) (hy : gly γ = gyM) (hR : grm γ = { frames := 3, cells := 0, slots := 0, locals := 68 }) (he : genv γ = ε) (hr : grt γ = (some .int)) (hE : gEnv ε) : gSm γ cs ss 28 (fX9_setRate_k28 N) := by
  unfold fX9_setRate_k28
  refine sm_iconst (pc := 28) G hb (by decide +kernel : decode cX9_setRate 28 = .ok (.iconst 2, 1)) (by decide) ?_
  refine sm_mono (cav_sub gI_sub) (sm_callV (pc := 29) (N := 32) (T := TX9) (C := RX9) G hb ho hy he hE.1 3 [0, 1, 2, 3, 4, 5, 6, 7, 8, 9, 10, 11, 12, 13, 14, 15, 16, 17] (kX9_fails hE N) (gCo_of (by decide +kernel)) (by rw [hR]; exact ⟨by decide, by decide⟩) rfl rfl (by decide +kernel) gw6_105 gw6_107 gw0_34 gw1_11 gw6_108 (by decide +kernel : decode cX9_setRate 29 = .ok (.invokevirtual 87, 3)) ?_)
  refine sm_if_eq (pc := 32) (tgt := 37) G hb (by decide +kernel : decode cX9_setRate 32 = .ok (.ifCond .eq 5, 3)) (by decide) ?_ ?_
  · skip
    refine sm_aload_n (pc := 37) G hb (by decide +kernel : decode cX9_setRate 37 = .ok (.aload_n 0, 1)) rfl ?_
    refine sm_bipush (pc := 38) G hb (by decide +kernel : decode cX9_setRate 38 = .ok (.bipush 65, 2)) (by decide) ?_
    refine sm_bipush (pc := 40) G hb (by decide +kernel : decode cX9_setRate 40 = .ok (.bipush 11, 2)) (by decide) ?_
    refine sm_iload_n (pc := 42) G hb (by decide +kernel : decode cX9_setRate 42 = .ok (.iload_n 1, 1)) rfl ?_
    refine sm_imul (pc := 43) G hb (by decide +kernel : decode cX9_setRate 43 = .ok (.imul, 1)) ?_
    refine sm_iadd (pc := 44) G hb (by decide +kernel : decode cX9_setRate 44 = .ok (.iadd, 1)) ?_
    refine sm_iconst (pc := 45) G hb (by decide +kernel : decode cX9_setRate 45 = .ok (.iconst 2, 1)) (by decide) ?_
    refine sm_iadd (pc := 46) G hb (by decide +kernel : decode cX9_setRate 46 = .ok (.iadd, 1)) ?_
    refine sm_iload_n (pc := 47) G hb (by decide +kernel : decode cX9_setRate 47 = .ok (.iload_n 2, 1)) rfl ?_
    refine sm_mono (cav_sub gI_sub) (sm_callV (pc := 48) (N := 32) (T := TX9) (C := RX9) G hb ho hy he hE.1 3 [0, 1, 2, 3, 4, 5, 6, 7, 8, 9, 10, 11, 12, 13, 14, 15, 16, 17] (kX9_become hE N) (gCo_of (by decide +kernel)) (by rw [hR]; exact ⟨by decide, by decide⟩) rfl rfl (by decide +kernel) gw7_17 gw7_19 gw0_55 gw1_11 gw7_20 (by decide +kernel : decode cX9_setRate 48 = .ok (.invokevirtual 351, 3)) ?_)
    exact sm_iret (pc := 51) G hb (by decide +kernel : decode cX9_setRate 51 = .ok (.ireturn, 1)) hr
  · skip
    refine sm_iconst (pc := 35) G hb (by decide +kernel : decode cX9_setRate 35 = .ok (.iconst 0, 1)) (by decide) ?_
    exact sm_iret (pc := 36) G hb (by decide +kernel : decode cX9_setRate 36 = .ok (.ireturn, 1)) hr
set_option maxRecDepth 100000 in
set_option maxHeartbeats 4000000 in
theorem fX9_setRate_s0 {γ : gG} {cs ss : Nat} {ε : gE5} (N : Nat) (G : gOK γ) (hb : gcc γ = cX9_setRate) (ho : gow γ = RX9) (hy : gly γ = gyM) (hR : grm γ = { frames := 3, cells := 0, slots := 0, locals := 68 }) (he : genv γ = ε) (hr : grt γ = (some .int)) (hE : gEnv ε) : gSm γ cs ss 0 (fX9_setRate_k0 N) := by
  unfold fX9_setRate_k0
  refine sm_aload_n (pc := 0) G hb (by decide +kernel : decode cX9_setRate 0 = .ok (.aload_n 0, 1)) rfl ?_
  refine sm_iconst (pc := 1) G hb (by decide +kernel : decode cX9_setRate 1 = .ok (.iconst 0, 1)) (by decide) ?_
  refine sm_put (pc := 2) (ci := 9) (j := 0) (N := 32) (T := TX9) G hb ho hy tyX9 tyX9_ok nmX9 rfl (by decide) gin_9 gw5_236 rfl rfl (by decide +kernel : decode cX9_setRate 2 = .ok (.putfield 76, 3)) ?_
  refine sm_aload_n (pc := 5) G hb (by decide +kernel : decode cX9_setRate 5 = .ok (.aload_n 0, 1)) rfl ?_
  refine sm_aload_n (pc := 6) G hb (by decide +kernel : decode cX9_setRate 6 = .ok (.aload_n 0, 1)) rfl ?_
  refine sm_iload_n (pc := 7) G hb (by decide +kernel : decode cX9_setRate 7 = .ok (.iload_n 1, 1)) rfl ?_
  refine sm_mono (cav_sub gI_sub) (sm_callV (pc := 8) (N := 32) (T := TX9) (C := RX9) G hb ho hy he hE.1 2 [0, 1, 2, 3, 4, 5, 6, 7, 8, 9, 10, 11, 12, 13, 14, 15, 16, 17] (kX9_isFlow hE N) (gCo_of (by decide +kernel)) (by rw [hR]; exact ⟨by decide, by decide⟩) rfl rfl (by decide +kernel) gw7_35 gw7_37 gw0_56 gw1_11 gw7_38 (by decide +kernel : decode cX9_setRate 8 = .ok (.invokevirtual 358, 3)) ?_)
  refine sm_iconst (pc := 11) G hb (by decide +kernel : decode cX9_setRate 11 = .ok (.iconst 1, 1)) (by decide) ?_
  refine sm_mono (cav_sub gI_sub) (sm_callV (pc := 12) (N := 32) (T := TX9) (C := RX9) G hb ho hy he hE.1 3 [0, 1, 2, 3, 4, 5, 6, 7, 8, 9, 10, 11, 12, 13, 14, 15, 16, 17] (kX9_fails hE N) (gCo_of (by decide +kernel)) (by rw [hR]; exact ⟨by decide, by decide⟩) rfl rfl (by decide +kernel) gw6_105 gw6_107 gw0_34 gw1_11 gw6_108 (by decide +kernel : decode cX9_setRate 12 = .ok (.invokevirtual 87, 3)) ?_)
  refine sm_if_ne (pc := 15) (tgt := 35) G hb (by decide +kernel : decode cX9_setRate 15 = .ok (.ifCond .ne 20, 3)) (by decide) ?_ ?_
  · skip
    refine sm_iconst (pc := 35) G hb (by decide +kernel : decode cX9_setRate 35 = .ok (.iconst 0, 1)) (by decide) ?_
    exact sm_iret (pc := 36) G hb (by decide +kernel : decode cX9_setRate 36 = .ok (.ireturn, 1)) hr
  · skip
    refine sm_aload_n (pc := 18) G hb (by decide +kernel : decode cX9_setRate 18 = .ok (.aload_n 0, 1)) rfl ?_
    refine sm_iload_n (pc := 19) G hb (by decide +kernel : decode cX9_setRate 19 = .ok (.iload_n 2, 1)) rfl ?_
    refine sm_i2l (pc := 20) G hb (by decide +kernel : decode cX9_setRate 20 = .ok (.i2l, 1)) ?_
    refine sm_lconst (pc := 21) G hb (by decide +kernel : decode cX9_setRate 21 = .ok (.lconst 0, 1)) (by decide) ?_
    refine sm_ldc2 (pc := 22) G hb ho (by decide +kernel : decode cX9_setRate 22 = .ok (.ldc2_w 354, 3)) gw7_29 ?_
    refine sm_mono (ca_sub gI_sub) (sm_callS (pc := 25) G hb ho hy he hE.1 3 [] (kX9_in hE N) (gCo_of (by decide +kernel)) (by rw [hR]; exact ⟨by decide, by decide⟩) (by decide +kernel) gw6_113 gw6_114 gw1_11 gw6_115 (by decide +kernel : decode cX9_setRate 25 = .ok (.invokestatic 91, 3)) ?_)
    refine sm_mask ?_
    exact fX9_setRate_s28 N G hb ho hy hR he hr hE
theorem kX9_setRate {ε : gE5} (hE : gEnv ε) (N : Nat) : gCtr ε yX9_setRate cX9_setRate 3 (some .int) 3 68 gyM (fX9_setRate N) :=
  gCtr_of hE.1 (by decide) (fun γ G hb ho hy hR he hr => fX9_setRate_s0 N G hb ho hy hR he hr hE)

set_option maxRecDepth 100000 in
set_option maxHeartbeats 4000000 in
theorem fX9_setBudget_s28 {γ : gG} {cs ss : Nat} {ε : gE5} (N : Nat) (G : gOK γ) (hb : gcc γ = cX9_setBudget) (ho : gow γ = RX9) (hy : gly γ = gyM) (hR : grm γ = { frames := 3, cells := 0, slots := 0, locals := 68 }) (he : genv γ = ε) (hr : grt γ = (some .int)) (hE : gEnv ε) : gSm γ cs ss 28 (fX9_setBudget_k28 N) := by
  unfold fX9_setBudget_k28
  refine sm_iconst (pc := 28) G hb (by decide +kernel : decode cX9_setBudget 28 = .ok (.iconst 2, 1)) (by decide) ?_
  refine sm_mono (cav_sub gI_sub) (sm_callV (pc := 29) (N := 32) (T := TX9) (C := RX9) G hb ho hy he hE.1 3 [0, 1, 2, 3, 4, 5, 6, 7, 8, 9, 10, 11, 12, 13, 14, 15, 16, 17] (kX9_fails hE N) (gCo_of (by decide +kernel)) (by rw [hR]; exact ⟨by decide, by decide⟩) rfl rfl (by decide +kernel) gw6_105 gw6_107 gw0_34 gw1_11 gw6_108 (by decide +kernel : decode cX9_setBudget 29 = .ok (.invokevirtual 87, 3)) ?_)
  refine sm_if_eq (pc := 32) (tgt := 37) G hb (by decide +kernel : decode cX9_setBudget 32 = .ok (.ifCond .eq 5, 3)) (by decide) ?_ ?_
  · skip
    refine sm_aload_n (pc := 37) G hb (by decide +kernel : decode cX9_setBudget 37 = .ok (.aload_n 0, 1)) rfl ?_
    refine sm_bipush (pc := 38) G hb (by decide +kernel : decode cX9_setBudget 38 = .ok (.bipush 65, 2)) (by decide) ?_
    refine sm_bipush (pc := 40) G hb (by decide +kernel : decode cX9_setBudget 40 = .ok (.bipush 11, 2)) (by decide) ?_
    refine sm_iload_n (pc := 42) G hb (by decide +kernel : decode cX9_setBudget 42 = .ok (.iload_n 1, 1)) rfl ?_
    refine sm_imul (pc := 43) G hb (by decide +kernel : decode cX9_setBudget 43 = .ok (.imul, 1)) ?_
    refine sm_iadd (pc := 44) G hb (by decide +kernel : decode cX9_setBudget 44 = .ok (.iadd, 1)) ?_
    refine sm_iconst (pc := 45) G hb (by decide +kernel : decode cX9_setBudget 45 = .ok (.iconst 3, 1)) (by decide) ?_
    refine sm_iadd (pc := 46) G hb (by decide +kernel : decode cX9_setBudget 46 = .ok (.iadd, 1)) ?_
    refine sm_iload_n (pc := 47) G hb (by decide +kernel : decode cX9_setBudget 47 = .ok (.iload_n 2, 1)) rfl ?_
    refine sm_mono (cav_sub gI_sub) (sm_callV (pc := 48) (N := 32) (T := TX9) (C := RX9) G hb ho hy he hE.1 3 [0, 1, 2, 3, 4, 5, 6, 7, 8, 9, 10, 11, 12, 13, 14, 15, 16, 17] (kX9_become hE N) (gCo_of (by decide +kernel)) (by rw [hR]; exact ⟨by decide, by decide⟩) rfl rfl (by decide +kernel) gw7_17 gw7_19 gw0_55 gw1_11 gw7_20 (by decide +kernel : decode cX9_setBudget 48 = .ok (.invokevirtual 351, 3)) ?_)
    exact sm_iret (pc := 51) G hb (by decide +kernel : decode cX9_setBudget 51 = .ok (.ireturn, 1)) hr
  · skip
    refine sm_iconst (pc := 35) G hb (by decide +kernel : decode cX9_setBudget 35 = .ok (.iconst 0, 1)) (by decide) ?_
    exact sm_iret (pc := 36) G hb (by decide +kernel : decode cX9_setBudget 36 = .ok (.ireturn, 1)) hr
set_option maxRecDepth 100000 in
set_option maxHeartbeats 4000000 in
theorem fX9_setBudget_s0 {γ : gG} {cs ss : Nat} {ε : gE5} (N : Nat) (G : gOK γ) (hb : gcc γ = cX9_setBudget) (ho : gow γ = RX9) (hy : gly γ = gyM) (hR : grm γ = { frames := 3, cells := 0, slots := 0, locals := 68 }) (he : genv γ = ε) (hr : grt γ = (some .int)) (hE : gEnv ε) : gSm γ cs ss 0 (fX9_setBudget_k0 N) := by
  unfold fX9_setBudget_k0
  refine sm_aload_n (pc := 0) G hb (by decide +kernel : decode cX9_setBudget 0 = .ok (.aload_n 0, 1)) rfl ?_
  refine sm_iconst (pc := 1) G hb (by decide +kernel : decode cX9_setBudget 1 = .ok (.iconst 0, 1)) (by decide) ?_
  refine sm_put (pc := 2) (ci := 9) (j := 0) (N := 32) (T := TX9) G hb ho hy tyX9 tyX9_ok nmX9 rfl (by decide) gin_9 gw5_236 rfl rfl (by decide +kernel : decode cX9_setBudget 2 = .ok (.putfield 76, 3)) ?_
  refine sm_aload_n (pc := 5) G hb (by decide +kernel : decode cX9_setBudget 5 = .ok (.aload_n 0, 1)) rfl ?_
  refine sm_aload_n (pc := 6) G hb (by decide +kernel : decode cX9_setBudget 6 = .ok (.aload_n 0, 1)) rfl ?_
  refine sm_iload_n (pc := 7) G hb (by decide +kernel : decode cX9_setBudget 7 = .ok (.iload_n 1, 1)) rfl ?_
  refine sm_mono (cav_sub gI_sub) (sm_callV (pc := 8) (N := 32) (T := TX9) (C := RX9) G hb ho hy he hE.1 2 [0, 1, 2, 3, 4, 5, 6, 7, 8, 9, 10, 11, 12, 13, 14, 15, 16, 17] (kX9_isFlow hE N) (gCo_of (by decide +kernel)) (by rw [hR]; exact ⟨by decide, by decide⟩) rfl rfl (by decide +kernel) gw7_35 gw7_37 gw0_56 gw1_11 gw7_38 (by decide +kernel : decode cX9_setBudget 8 = .ok (.invokevirtual 358, 3)) ?_)
  refine sm_iconst (pc := 11) G hb (by decide +kernel : decode cX9_setBudget 11 = .ok (.iconst 1, 1)) (by decide) ?_
  refine sm_mono (cav_sub gI_sub) (sm_callV (pc := 12) (N := 32) (T := TX9) (C := RX9) G hb ho hy he hE.1 3 [0, 1, 2, 3, 4, 5, 6, 7, 8, 9, 10, 11, 12, 13, 14, 15, 16, 17] (kX9_fails hE N) (gCo_of (by decide +kernel)) (by rw [hR]; exact ⟨by decide, by decide⟩) rfl rfl (by decide +kernel) gw6_105 gw6_107 gw0_34 gw1_11 gw6_108 (by decide +kernel : decode cX9_setBudget 12 = .ok (.invokevirtual 87, 3)) ?_)
  refine sm_if_ne (pc := 15) (tgt := 35) G hb (by decide +kernel : decode cX9_setBudget 15 = .ok (.ifCond .ne 20, 3)) (by decide) ?_ ?_
  · skip
    refine sm_iconst (pc := 35) G hb (by decide +kernel : decode cX9_setBudget 35 = .ok (.iconst 0, 1)) (by decide) ?_
    exact sm_iret (pc := 36) G hb (by decide +kernel : decode cX9_setBudget 36 = .ok (.ireturn, 1)) hr
  · skip
    refine sm_aload_n (pc := 18) G hb (by decide +kernel : decode cX9_setBudget 18 = .ok (.aload_n 0, 1)) rfl ?_
    refine sm_iload_n (pc := 19) G hb (by decide +kernel : decode cX9_setBudget 19 = .ok (.iload_n 2, 1)) rfl ?_
    refine sm_i2l (pc := 20) G hb (by decide +kernel : decode cX9_setBudget 20 = .ok (.i2l, 1)) ?_
    refine sm_lconst (pc := 21) G hb (by decide +kernel : decode cX9_setBudget 21 = .ok (.lconst 0, 1)) (by decide) ?_
    refine sm_ldc2 (pc := 22) G hb ho (by decide +kernel : decode cX9_setBudget 22 = .ok (.ldc2_w 356, 3)) gw7_30 ?_
    refine sm_mono (ca_sub gI_sub) (sm_callS (pc := 25) G hb ho hy he hE.1 3 [] (kX9_in hE N) (gCo_of (by decide +kernel)) (by rw [hR]; exact ⟨by decide, by decide⟩) (by decide +kernel) gw6_113 gw6_114 gw1_11 gw6_115 (by decide +kernel : decode cX9_setBudget 25 = .ok (.invokestatic 91, 3)) ?_)
    refine sm_mask ?_
    exact fX9_setBudget_s28 N G hb ho hy hR he hr hE
theorem kX9_setBudget {ε : gE5} (hE : gEnv ε) (N : Nat) : gCtr ε yX9_setBudget cX9_setBudget 3 (some .int) 3 68 gyM (fX9_setBudget N) :=
  gCtr_of hE.1 (by decide) (fun γ G hb ho hy hR he hr => fX9_setBudget_s0 N G hb ho hy hR he hr hE)

set_option maxRecDepth 100000 in
set_option maxHeartbeats 4000000 in
theorem fX9_mostOf_s0 {γ : gG} {cs ss : Nat} {ε : gE5} (N : Nat) (G : gOK γ) (hb : gcc γ = cX9_mostOf) (ho : gow γ = RX9) (hy : gly γ = gy0) (hR : grm γ = { frames := 0, cells := 0, slots := 0, locals := 0 }) (he : genv γ = ε) (hr : grt γ = (some .int)) (hE : gEnv ε) : gSm γ cs ss 0 (fX9_mostOf_k0 N) := by
  unfold fX9_mostOf_k0
  refine sm_iload_n (pc := 0) G hb (by decide +kernel : decode cX9_mostOf 0 = .ok (.iload_n 0, 1)) rfl ?_
  refine sm_iconst (pc := 1) G hb (by decide +kernel : decode cX9_mostOf 1 = .ok (.iconst 1, 1)) (by decide) ?_
  refine sm_icmp_ne (pc := 2) (tgt := 10) G hb (by decide +kernel : decode cX9_mostOf 2 = .ok (.if_icmp .ne 8, 3)) (by decide) ?_ ?_
  · skip
    refine sm_iload_n (pc := 10) G hb (by decide +kernel : decode cX9_mostOf 10 = .ok (.iload_n 0, 1)) rfl ?_
    refine sm_iconst (pc := 11) G hb (by decide +kernel : decode cX9_mostOf 11 = .ok (.iconst 2, 1)) (by decide) ?_
    refine sm_icmp_ne (pc := 12) (tgt := 20) G hb (by decide +kernel : decode cX9_mostOf 12 = .ok (.if_icmp .ne 8, 3)) (by decide) ?_ ?_
    · skip
      refine sm_iconst (pc := 20) G hb (by decide +kernel : decode cX9_mostOf 20 = .ok (.iconst 1, 1)) (by decide) ?_
      exact sm_iret (pc := 21) G hb (by decide +kernel : decode cX9_mostOf 21 = .ok (.ireturn, 1)) hr
    · skip
      refine sm_bipush (pc := 15) G hb (by decide +kernel : decode cX9_mostOf 15 = .ok (.bipush 20, 2)) (by decide) ?_
      refine sm_goto (pc := 17) (tgt := 21) G hb (by decide +kernel : decode cX9_mostOf 17 = .ok (.goto 4, 3)) (by decide) ?_
      exact sm_iret (pc := 21) G hb (by decide +kernel : decode cX9_mostOf 21 = .ok (.ireturn, 1)) hr
  · skip
    refine sm_bipush (pc := 5) G hb (by decide +kernel : decode cX9_mostOf 5 = .ok (.bipush 50, 2)) (by decide) ?_
    refine sm_goto (pc := 7) (tgt := 21) G hb (by decide +kernel : decode cX9_mostOf 7 = .ok (.goto 14, 3)) (by decide) ?_
    exact sm_iret (pc := 21) G hb (by decide +kernel : decode cX9_mostOf 21 = .ok (.ireturn, 1)) hr
theorem kX9_mostOf {ε : gE5} (hE : gEnv ε) (N : Nat) : gCtr ε yX9_mostOf cX9_mostOf 1 (some .int) 0 0 gy0 (fX9_mostOf N) :=
  gCtr_of hE.1 (by decide) (fun γ G hb ho hy hR he hr => fX9_mostOf_s0 N G hb ho hy hR he hr hE)

set_option maxRecDepth 100000 in
set_option maxHeartbeats 4000000 in
theorem fX9_set_s37 {γ : gG} {cs ss : Nat} {ε : gE5} (N : Nat) (G : gOK γ) (hb : gcc γ = cX9_set) (ho : gow γ = RX9) (hy : gly γ = gyM) (hR : grm γ = { frames := 3, cells := 0, slots := 0, locals := 68 }) (he : genv γ = ε) (hr : grt γ = (some .int)) (hE : gEnv ε) : gSm γ cs ss 37 (fX9_set_k37 N) := by
  unfold fX9_set_k37
  refine sm_iconst (pc := 37) G hb (by decide +kernel : decode cX9_set 37 = .ok (.iconst 1, 1)) (by decide) ?_
  refine sm_mono (cav_sub gI_sub) (sm_callV (pc := 38) (N := 32) (T := TX9) (C := RX9) G hb ho hy he hE.1 3 [0, 1, 2, 3, 4, 5, 6, 7, 8, 9, 10, 11, 12, 13, 14, 15, 16, 17] (kX9_fails hE N) (gCo_of (by decide +kernel)) (by rw [hR]; exact ⟨by decide, by decide⟩) rfl rfl (by decide +kernel) gw6_105 gw6_107 gw0_34 gw1_11 gw6_108 (by decide +kernel : decode cX9_set 38 = .ok (.invokevirtual 87, 3)) ?_)
  refine sm_if_eq (pc := 41) (tgt := 48) G hb (by decide +kernel : decode cX9_set 41 = .ok (.ifCond .eq 7, 3)) (by decide) ?_ ?_
  · skip
    refine sm_aload_n (pc := 48) G hb (by decide +kernel : decode cX9_set 48 = .ok (.aload_n 0, 1)) rfl ?_
    refine sm_iconst (pc := 49) G hb (by decide +kernel : decode cX9_set 49 = .ok (.iconst 3, 1)) (by decide) ?_
    refine sm_iload_n (pc := 50) G hb (by decide +kernel : decode cX9_set 50 = .ok (.iload_n 1, 1)) rfl ?_
    refine sm_iadd (pc := 51) G hb (by decide +kernel : decode cX9_set 51 = .ok (.iadd, 1)) ?_
    refine sm_iload_n (pc := 52) G hb (by decide +kernel : decode cX9_set 52 = .ok (.iload_n 2, 1)) rfl ?_
    refine sm_mono (cav_sub gI_sub) (sm_callV (pc := 53) (N := 32) (T := TX9) (C := RX9) G hb ho hy he hE.1 3 [0, 1, 2, 3, 4, 5, 6, 7, 8, 9, 10, 11, 12, 13, 14, 15, 16, 17] (kX9_become hE N) (gCo_of (by decide +kernel)) (by rw [hR]; exact ⟨by decide, by decide⟩) rfl rfl (by decide +kernel) gw7_17 gw7_19 gw0_55 gw1_11 gw7_20 (by decide +kernel : decode cX9_set 53 = .ok (.invokevirtual 351, 3)) ?_)
    exact sm_iret (pc := 56) G hb (by decide +kernel : decode cX9_set 56 = .ok (.ireturn, 1)) hr
  · skip
    refine sm_iconst (pc := 44) G hb (by decide +kernel : decode cX9_set 44 = .ok (.iconst 0, 1)) (by decide) ?_
    refine sm_goto (pc := 45) (tgt := 56) G hb (by decide +kernel : decode cX9_set 45 = .ok (.goto 11, 3)) (by decide) ?_
    exact sm_iret (pc := 56) G hb (by decide +kernel : decode cX9_set 56 = .ok (.ireturn, 1)) hr
set_option maxRecDepth 100000 in
set_option maxHeartbeats 4000000 in
theorem fX9_set_s36 {γ : gG} {cs ss : Nat} {ε : gE5} (N : Nat) (G : gOK γ) (hb : gcc γ = cX9_set) (ho : gow γ = RX9) (hy : gly γ = gyM) (hR : grm γ = { frames := 3, cells := 0, slots := 0, locals := 68 }) (he : genv γ = ε) (hr : grt γ = (some .int)) (hE : gEnv ε) : gSm γ cs ss 36 (fX9_set_k36 N) := by
  unfold fX9_set_k36
  refine sm_iconst (pc := 36) G hb (by decide +kernel : decode cX9_set 36 = .ok (.iconst 0, 1)) (by decide) ?_
  refine sm_mask ?_
  exact fX9_set_s37 N G hb ho hy hR he hr hE
set_option maxRecDepth 100000 in
set_option maxHeartbeats 4000000 in
theorem fX9_set_s29 {γ : gG} {cs ss : Nat} {ε : gE5} (N : Nat) (G : gOK γ) (hb : gcc γ = cX9_set) (ho : gow γ = RX9) (hy : gly γ = gyM) (hR : grm γ = { frames := 3, cells := 0, slots := 0, locals := 68 }) (he : genv γ = ε) (hr : grt γ = (some .int)) (hE : gEnv ε) : gSm γ cs ss 29 (fX9_set_k29 N) := by
  unfold fX9_set_k29
  refine sm_if_eq (pc := 29) (tgt := 36) G hb (by decide +kernel : decode cX9_set 29 = .ok (.ifCond .eq 7, 3)) (by decide) ?_ ?_
  · skip
    refine sm_mask ?_
    exact fX9_set_s36 N G hb ho hy hR he hr hE
  · skip
    refine sm_iconst (pc := 32) G hb (by decide +kernel : decode cX9_set 32 = .ok (.iconst 1, 1)) (by decide) ?_
    refine sm_goto (pc := 33) (tgt := 37) G hb (by decide +kernel : decode cX9_set 33 = .ok (.goto 4, 3)) (by decide) ?_
    refine sm_mask ?_
    exact fX9_set_s37 N G hb ho hy hR he hr hE
set_option maxRecDepth 100000 in
set_option maxHeartbeats 4000000 in
theorem fX9_set_s0 {γ : gG} {cs ss : Nat} {ε : gE5} (N : Nat) (G : gOK γ) (hb : gcc γ = cX9_set) (ho : gow γ = RX9) (hy : gly γ = gyM) (hR : grm γ = { frames := 3, cells := 0, slots := 0, locals := 68 }) (he : genv γ = ε) (hr : grt γ = (some .int)) (hE : gEnv ε) : gSm γ cs ss 0 (fX9_set_k0 N) := by
  unfold fX9_set_k0
  refine sm_aload_n (pc := 0) G hb (by decide +kernel : decode cX9_set 0 = .ok (.aload_n 0, 1)) rfl ?_
  refine sm_iconst (pc := 1) G hb (by decide +kernel : decode cX9_set 1 = .ok (.iconst 0, 1)) (by decide) ?_
  refine sm_put (pc := 2) (ci := 9) (j := 0) (N := 32) (T := TX9) G hb ho hy tyX9 tyX9_ok nmX9 rfl (by decide) gin_9 gw5_236 rfl rfl (by decide +kernel : decode cX9_set 2 = .ok (.putfield 76, 3)) ?_
  refine sm_aload_n (pc := 5) G hb (by decide +kernel : decode cX9_set 5 = .ok (.aload_n 0, 1)) rfl ?_
  refine sm_iload_n (pc := 6) G hb (by decide +kernel : decode cX9_set 6 = .ok (.iload_n 1, 1)) rfl ?_
  refine sm_i2l (pc := 7) G hb (by decide +kernel : decode cX9_set 7 = .ok (.i2l, 1)) ?_
  refine sm_lconst (pc := 8) G hb (by decide +kernel : decode cX9_set 8 = .ok (.lconst 0, 1)) (by decide) ?_
  refine sm_ldc2 (pc := 9) G hb ho (by decide +kernel : decode cX9_set 9 = .ok (.ldc2_w 361, 3)) gw7_47 ?_
  refine sm_mono (ca_sub gI_sub) (sm_callS (pc := 12) G hb ho hy he hE.1 3 [] (kX9_in hE N) (gCo_of (by decide +kernel)) (by rw [hR]; exact ⟨by decide, by decide⟩) (by decide +kernel) gw6_113 gw6_114 gw1_11 gw6_115 (by decide +kernel : decode cX9_set 12 = .ok (.invokestatic 91, 3)) ?_)
  refine sm_if_eq (pc := 15) (tgt := 36) G hb (by decide +kernel : decode cX9_set 15 = .ok (.ifCond .eq 21, 3)) (by decide) ?_ ?_
  · skip
    refine sm_mask ?_
    exact fX9_set_s36 N G hb ho hy hR he hr hE
  · skip
    refine sm_iload_n (pc := 18) G hb (by decide +kernel : decode cX9_set 18 = .ok (.iload_n 2, 1)) rfl ?_
    refine sm_i2l (pc := 19) G hb (by decide +kernel : decode cX9_set 19 = .ok (.i2l, 1)) ?_
    refine sm_lconst (pc := 20) G hb (by decide +kernel : decode cX9_set 20 = .ok (.lconst 0, 1)) (by decide) ?_
    refine sm_iload_n (pc := 21) G hb (by decide +kernel : decode cX9_set 21 = .ok (.iload_n 1, 1)) rfl ?_
    refine sm_mono (ca_sub gI_sub) (sm_callS (pc := 22) G hb ho hy he hE.1 1 [] (kX9_mostOf hE N) (gCo_of (by decide +kernel)) (by rw [hR]; exact ⟨by decide, by decide⟩) (by decide +kernel) gw7_48 gw7_49 gw1_11 gw7_50 (by decide +kernel : decode cX9_set 22 = .ok (.invokestatic 363, 3)) ?_)
    refine sm_i2l (pc := 25) G hb (by decide +kernel : decode cX9_set 25 = .ok (.i2l, 1)) ?_
    refine sm_mono (ca_sub gI_sub) (sm_callS (pc := 26) G hb ho hy he hE.1 3 [] (kX9_in hE N) (gCo_of (by decide +kernel)) (by rw [hR]; exact ⟨by decide, by decide⟩) (by decide +kernel) gw6_113 gw6_114 gw1_11 gw6_115 (by decide +kernel : decode cX9_set 26 = .ok (.invokestatic 91, 3)) ?_)
    refine sm_mask ?_
    exact fX9_set_s29 N G hb ho hy hR he hr hE
theorem kX9_set {ε : gE5} (hE : gEnv ε) (N : Nat) : gCtr ε yX9_set cX9_set 3 (some .int) 3 68 gyM (fX9_set N) :=
  gCtr_of hE.1 (by decide) (fun γ G hb ho hy hR he hr => fX9_set_s0 N G hb ho hy hR he hr hE)

set_option maxRecDepth 100000 in
set_option maxHeartbeats 4000000 in
theorem fX9_inject_s28 {γ : gG} {cs ss : Nat} {ε : gE5} (N : Nat) (G : gOK γ) (hb : gcc γ = cX9_inject) (ho : gow γ = RX9) (hy : gly γ = gyM) (hR : grm γ = { frames := 2, cells := 0, slots := 0, locals := 50 }) (he : genv γ = ε) (hr : grt γ = (some .int)) (hE : gEnv ε) : gSm γ cs ss 28 (fX9_inject_k28 N) := by
  unfold fX9_inject_k28
  refine sm_iconst (pc := 28) G hb (by decide +kernel : decode cX9_inject 28 = .ok (.iconst 2, 1)) (by decide) ?_
  refine sm_mono (cav_sub gI_sub) (sm_callV (pc := 29) (N := 32) (T := TX9) (C := RX9) G hb ho hy he hE.1 3 [0, 1, 2, 3, 4, 5, 6, 7, 8, 9, 10, 11, 12, 13, 14, 15, 16, 17] (kX9_fails hE N) (gCo_of (by decide +kernel)) (by rw [hR]; exact ⟨by decide, by decide⟩) rfl rfl (by decide +kernel) gw6_105 gw6_107 gw0_34 gw1_11 gw6_108 (by decide +kernel : decode cX9_inject 29 = .ok (.invokevirtual 87, 3)) ?_)
  refine sm_if_eq (pc := 32) (tgt := 37) G hb (by decide +kernel : decode cX9_inject 32 = .ok (.ifCond .eq 5, 3)) (by decide) ?_ ?_
  · skip
    refine sm_aload_n (pc := 37) G hb (by decide +kernel : decode cX9_inject 37 = .ok (.aload_n 0, 1)) rfl ?_
    refine sm_mono (cav_sub gV_sub) (sm_callV (pc := 38) (N := 32) (T := TX9) (C := RX9) G hb ho hy he hE.1 1 [0, 1, 2, 3, 4, 5, 6, 7, 8, 9, 10, 11, 12, 13, 14, 15, 16, 17] (kX9_record hE N) (gCo_of (by decide +kernel)) (by rw [hR]; exact ⟨by decide, by decide⟩) rfl rfl (by decide +kernel) gw7_5 gw7_7 gw0_53 gw1_11 gw7_8 (by decide +kernel : decode cX9_inject 38 = .ok (.invokevirtual 345, 3)) ?_)
    refine sm_aload_n (pc := 41) G hb (by decide +kernel : decode cX9_inject 41 = .ok (.aload_n 0, 1)) rfl ?_
    refine sm_iload_n (pc := 42) G hb (by decide +kernel : decode cX9_inject 42 = .ok (.iload_n 1, 1)) rfl ?_
    refine sm_iload_n (pc := 43) G hb (by decide +kernel : decode cX9_inject 43 = .ok (.iload_n 2, 1)) rfl ?_
    refine sm_mono (cav_sub gI_sub) (sm_callV (pc := 44) (N := 32) (T := TX9) (C := RX9) G hb ho hy he hE.1 3 [0, 1, 2, 3, 4, 5, 6, 7, 8, 9, 10, 11, 12, 13, 14, 15, 16, 17] (kX9_arrive hE N) (gCo_of (by decide +kernel)) (by rw [hR]; exact ⟨by decide, by decide⟩) rfl rfl (by decide +kernel) gw7_56 gw7_58 gw0_57 gw1_11 gw7_59 (by decide +kernel : decode cX9_inject 44 = .ok (.invokevirtual 300, 3)) ?_)
    exact sm_iret (pc := 47) G hb (by decide +kernel : decode cX9_inject 47 = .ok (.ireturn, 1)) hr
  · skip
    refine sm_iconst (pc := 35) G hb (by decide +kernel : decode cX9_inject 35 = .ok (.iconst 0, 1)) (by decide) ?_
    exact sm_iret (pc := 36) G hb (by decide +kernel : decode cX9_inject 36 = .ok (.ireturn, 1)) hr
set_option maxRecDepth 100000 in
set_option maxHeartbeats 4000000 in
theorem fX9_inject_s0 {γ : gG} {cs ss : Nat} {ε : gE5} (N : Nat) (G : gOK γ) (hb : gcc γ = cX9_inject) (ho : gow γ = RX9) (hy : gly γ = gyM) (hR : grm γ = { frames := 2, cells := 0, slots := 0, locals := 50 }) (he : genv γ = ε) (hr : grt γ = (some .int)) (hE : gEnv ε) : gSm γ cs ss 0 (fX9_inject_k0 N) := by
  unfold fX9_inject_k0
  refine sm_aload_n (pc := 0) G hb (by decide +kernel : decode cX9_inject 0 = .ok (.aload_n 0, 1)) rfl ?_
  refine sm_iconst (pc := 1) G hb (by decide +kernel : decode cX9_inject 1 = .ok (.iconst 0, 1)) (by decide) ?_
  refine sm_put (pc := 2) (ci := 9) (j := 0) (N := 32) (T := TX9) G hb ho hy tyX9 tyX9_ok nmX9 rfl (by decide) gin_9 gw5_236 rfl rfl (by decide +kernel : decode cX9_inject 2 = .ok (.putfield 76, 3)) ?_
  refine sm_aload_n (pc := 5) G hb (by decide +kernel : decode cX9_inject 5 = .ok (.aload_n 0, 1)) rfl ?_
  refine sm_aload_n (pc := 6) G hb (by decide +kernel : decode cX9_inject 6 = .ok (.aload_n 0, 1)) rfl ?_
  refine sm_iload_n (pc := 7) G hb (by decide +kernel : decode cX9_inject 7 = .ok (.iload_n 1, 1)) rfl ?_
  refine sm_mono (cav_sub gI_sub) (sm_callV (pc := 8) (N := 32) (T := TX9) (C := RX9) G hb ho hy he hE.1 2 [0, 1, 2, 3, 4, 5, 6, 7, 8, 9, 10, 11, 12, 13, 14, 15, 16, 17] (kX9_isFlow hE N) (gCo_of (by decide +kernel)) (by rw [hR]; exact ⟨by decide, by decide⟩) rfl rfl (by decide +kernel) gw7_35 gw7_37 gw0_56 gw1_11 gw7_38 (by decide +kernel : decode cX9_inject 8 = .ok (.invokevirtual 358, 3)) ?_)
  refine sm_iconst (pc := 11) G hb (by decide +kernel : decode cX9_inject 11 = .ok (.iconst 1, 1)) (by decide) ?_
  refine sm_mono (cav_sub gI_sub) (sm_callV (pc := 12) (N := 32) (T := TX9) (C := RX9) G hb ho hy he hE.1 3 [0, 1, 2, 3, 4, 5, 6, 7, 8, 9, 10, 11, 12, 13, 14, 15, 16, 17] (kX9_fails hE N) (gCo_of (by decide +kernel)) (by rw [hR]; exact ⟨by decide, by decide⟩) rfl rfl (by decide +kernel) gw6_105 gw6_107 gw0_34 gw1_11 gw6_108 (by decide +kernel : decode cX9_inject 12 = .ok (.invokevirtual 87, 3)) ?_)
  refine sm_if_ne (pc := 15) (tgt := 35) G hb (by decide +kernel : decode cX9_inject 15 = .ok (.ifCond .ne 20, 3)) (by decide) ?_ ?_
  · skip
    refine sm_iconst (pc := 35) G hb (by decide +kernel : decode cX9_inject 35 = .ok (.iconst 0, 1)) (by decide) ?_
    exact sm_iret (pc := 36) G hb (by decide +kernel : decode cX9_inject 36 = .ok (.ireturn, 1)) hr
  · skip
    refine sm_aload_n (pc := 18) G hb (by decide +kernel : decode cX9_inject 18 = .ok (.aload_n 0, 1)) rfl ?_
    refine sm_iload_n (pc := 19) G hb (by decide +kernel : decode cX9_inject 19 = .ok (.iload_n 2, 1)) rfl ?_
    refine sm_i2l (pc := 20) G hb (by decide +kernel : decode cX9_inject 20 = .ok (.i2l, 1)) ?_
    refine sm_lconst (pc := 21) G hb (by decide +kernel : decode cX9_inject 21 = .ok (.lconst 1, 1)) (by decide) ?_
    refine sm_ldc2 (pc := 22) G hb ho (by decide +kernel : decode cX9_inject 22 = .ok (.ldc2_w 366, 3)) gw7_55 ?_
    refine sm_mono (ca_sub gI_sub) (sm_callS (pc := 25) G hb ho hy he hE.1 3 [] (kX9_in hE N) (gCo_of (by decide +kernel)) (by rw [hR]; exact ⟨by decide, by decide⟩) (by decide +kernel) gw6_113 gw6_114 gw1_11 gw6_115 (by decide +kernel : decode cX9_inject 25 = .ok (.invokestatic 91, 3)) ?_)
    refine sm_mask ?_
    exact fX9_inject_s28 N G hb ho hy hR he hr hE
theorem kX9_inject {ε : gE5} (hE : gEnv ε) (N : Nat) : gCtr ε yX9_inject cX9_inject 3 (some .int) 2 50 gyM (fX9_inject N) :=
  gCtr_of hE.1 (by decide) (fun γ G hb ho hy hR he hr => fX9_inject_s0 N G hb ho hy hR he hr hE)

set_option maxRecDepth 100000 in
set_option maxHeartbeats 4000000 in
theorem fX9_flush_s96 {γ : gG} {cs ss : Nat} {ε : gE5} (N : Nat) (G : gOK γ) (hb : gcc γ = cX9_flush) (ho : gow γ = RX9) (hy : gly γ = gyM) (hR : grm γ = { frames := 3, cells := 0, slots := 0, locals := 68 }) (he : genv γ = ε) (hr : grt γ = (some .int)) (hE : gEnv ε) (K49 : gK) (h49 : gSm γ cs ss 49 K49) : gSm γ cs ss 96 (fX9_flush_k96 N K49) := by
  unfold fX9_flush_k96
  refine sm_mono (cav_sub gV_sub) (sm_callV (pc := 96) (N := 32) (T := TX9) (C := RX9) G hb ho hy he hE.1 4 [0, 1, 2, 3, 4, 5, 6, 7, 8, 9, 10, 11, 12, 13, 14, 15, 16, 17] (kX9_count hE N) (gCo_of (by decide +kernel)) (by rw [hR]; exact ⟨by decide, by decide⟩) rfl rfl (by decide +kernel) gw7_60 gw7_62 gw0_58 gw1_11 gw7_63 (by decide +kernel : decode cX9_flush 96 = .ok (.invokevirtual 289, 3)) ?_)
  refine sm_iinc (pc := 99) G hb (by decide +kernel : decode cX9_flush 99 = .ok (.iinc 3 1, 3)) (by decide) ?_
  refine sm_goto (pc := 102) (tgt := 49) G hb (by decide +kernel : decode cX9_flush 102 = .ok (.goto (-53), 3)) (by decide) ?_
  refine sm_mask ?_
  exact h49
set_option maxRecDepth 100000 in
set_option maxHeartbeats 4000000 in
theorem fX9_flush_s49 {γ : gG} {cs ss : Nat} {ε : gE5} (N : Nat) (G : gOK γ) (hb : gcc γ = cX9_flush) (ho : gow γ = RX9) (hy : gly γ = gyM) (hR : grm γ = { frames := 3, cells := 0, slots := 0, locals := 68 }) (he : genv γ = ε) (hr : grt γ = (some .int)) (hE : gEnv ε) : gSm γ cs ss 49 (fX9_flush_k49 N) := by
  unfold fX9_flush_k49
  refine sm_lp (fun K49 h49 => ?_) N
  unfold fX9_flush_b49
  refine sm_iload_n (pc := 49) G hb (by decide +kernel : decode cX9_flush 49 = .ok (.iload_n 3, 1)) rfl ?_
  refine sm_aload_n (pc := 50) G hb (by decide +kernel : decode cX9_flush 50 = .ok (.aload_n 0, 1)) rfl ?_
  refine sm_get (pc := 51) (ci := 9) (j := 9) (N := 32) (T := TX9) G hb ho hy rfl (by decide) gin_9 gw6_5 (by decide +kernel : decode cX9_flush 51 = .ok (.getfield 16, 3)) ?_
  refine sm_sipush (pc := 54) G hb (by decide +kernel : decode cX9_flush 54 = .ok (.sipush 245, 3)) (by decide) ?_
  refine sm_iald (pc := 57) G hb hy (by decide +kernel : decode cX9_flush 57 = .ok (.iaload, 1)) ?_
  refine sm_icmp_ge (pc := 58) (tgt := 105) G hb (by decide +kernel : decode cX9_flush 58 = .ok (.if_icmp .ge 47, 3)) (by decide) ?_ ?_
  · skip
    refine sm_aload_n (pc := 105) G hb (by decide +kernel : decode cX9_flush 105 = .ok (.aload_n 0, 1)) rfl ?_
    refine sm_mono (cav_sub gI_sub) (sm_callV (pc := 106) (N := 32) (T := TX9) (C := RX9) G hb ho hy he hE.1 1 [0, 1, 2, 3, 4, 5, 6, 7, 8, 9, 10, 11, 12, 13, 14, 15, 16, 17] (kX9_closeUp hE N) (gCo_of (by decide +kernel)) (by rw [hR]; exact ⟨by decide, by decide⟩) rfl rfl (by decide +kernel) gw7_92 gw7_94 gw0_65 gw1_11 gw7_95 (by decide +kernel : decode cX9_flush 106 = .ok (.invokevirtual 316, 3)) ?_)
    exact sm_iret (pc := 109) G hb (by decide +kernel : decode cX9_flush 109 = .ok (.ireturn, 1)) hr
  · skip
    refine sm_aload_n (pc := 61) G hb (by decide +kernel : decode cX9_flush 61 = .ok (.aload_n 0, 1)) rfl ?_
    refine sm_get (pc := 62) (ci := 9) (j := 17) (N := 32) (T := TX9) G hb ho hy rfl (by decide) gin_9 gw6_13 (by decide +kernel : decode cX9_flush 62 = .ok (.getfield 28, 3)) ?_
    refine sm_iload_n (pc := 65) G hb (by decide +kernel : decode cX9_flush 65 = .ok (.iload_n 3, 1)) rfl ?_
    refine sm_aload_n (pc := 66) G hb (by decide +kernel : decode cX9_flush 66 = .ok (.aload_n 0, 1)) rfl ?_
    refine sm_iload_n (pc := 67) G hb (by decide +kernel : decode cX9_flush 67 = .ok (.iload_n 3, 1)) rfl ?_
    refine sm_iload_n (pc := 68) G hb (by decide +kernel : decode cX9_flush 68 = .ok (.iload_n 1, 1)) rfl ?_
    refine sm_iload_n (pc := 69) G hb (by decide +kernel : decode cX9_flush 69 = .ok (.iload_n 2, 1)) rfl ?_
    refine sm_mono (cav_sub gI_sub) (sm_callV (pc := 70) (N := 32) (T := TX9) (C := RX9) G hb ho hy he hE.1 4 [0, 1, 2, 3, 4, 5, 6, 7, 8, 9, 10, 11, 12, 13, 14, 15, 16, 17] (kX9_isQueued hE N) (gCo_of (by decide +kernel)) (by rw [hR]; exact ⟨by decide, by decide⟩) rfl rfl (by decide +kernel) gw7_80 gw7_82 gw0_62 gw1_11 gw7_83 (by decide +kernel : decode cX9_flush 70 = .ok (.invokevirtual 246, 3)) ?_)
    refine sm_zast (pc := 73) G hb hy (by decide +kernel : decode cX9_flush 73 = .ok (.bastore, 1)) ?_
    refine sm_aload_n (pc := 74) G hb (by decide +kernel : decode cX9_flush 74 = .ok (.aload_n 0, 1)) rfl ?_
    refine sm_aload_n (pc := 75) G hb (by decide +kernel : decode cX9_flush 75 = .ok (.aload_n 0, 1)) rfl ?_
    refine sm_iload_n (pc := 76) G hb (by decide +kernel : decode cX9_flush 76 = .ok (.iload_n 3, 1)) rfl ?_
    refine sm_iconst (pc := 77) G hb (by decide +kernel : decode cX9_flush 77 = .ok (.iconst 0, 1)) (by decide) ?_
    refine sm_mono (cav_sub gI_sub) (sm_callV (pc := 78) (N := 32) (T := TX9) (C := RX9) G hb ho hy he hE.1 3 [0, 1, 2, 3, 4, 5, 6, 7, 8, 9, 10, 11, 12, 13, 14, 15, 16, 17] (kX9_packetPart hE N) (gCo_of (by decide +kernel)) (by rw [hR]; exact ⟨by decide, by decide⟩) rfl rfl (by decide +kernel) gw7_84 gw7_86 gw0_63 gw1_11 gw7_87 (by decide +kernel : decode cX9_flush 78 = .ok (.invokevirtual 237, 3)) ?_)
    refine sm_iconst (pc := 81) G hb (by decide +kernel : decode cX9_flush 81 = .ok (.iconst 5, 1)) (by decide) ?_
    refine sm_aload_n (pc := 82) G hb (by decide +kernel : decode cX9_flush 82 = .ok (.aload_n 0, 1)) rfl ?_
    refine sm_get (pc := 83) (ci := 9) (j := 17) (N := 32) (T := TX9) G hb ho hy rfl (by decide) gin_9 gw6_13 (by decide +kernel : decode cX9_flush 83 = .ok (.getfield 28, 3)) ?_
    refine sm_iload_n (pc := 86) G hb (by decide +kernel : decode cX9_flush 86 = .ok (.iload_n 3, 1)) rfl ?_
    refine sm_zald (pc := 87) G hb hy (by decide +kernel : decode cX9_flush 87 = .ok (.baload, 1)) ?_
    refine sm_if_eq (pc := 88) (tgt := 95) G hb (by decide +kernel : decode cX9_flush 88 = .ok (.ifCond .eq 7, 3)) (by decide) ?_ ?_
    · skip
      refine sm_iconst (pc := 95) G hb (by decide +kernel : decode cX9_flush 95 = .ok (.iconst 0, 1)) (by decide) ?_
      refine sm_mask ?_
      exact fX9_flush_s96 N G hb ho hy hR he hr hE K49 h49
    · skip
      refine sm_iconst (pc := 91) G hb (by decide +kernel : decode cX9_flush 91 = .ok (.iconst 1, 1)) (by decide) ?_
      refine sm_goto (pc := 92) (tgt := 96) G hb (by decide +kernel : decode cX9_flush 92 = .ok (.goto 4, 3)) (by decide) ?_
      refine sm_mask ?_
      exact fX9_flush_s96 N G hb ho hy hR he hr hE K49 h49
set_option maxRecDepth 100000 in
set_option maxHeartbeats 4000000 in
theorem fX9_flush_s47 {γ : gG} {cs ss : Nat} {ε : gE5} (N : Nat) (G : gOK γ) (hb : gcc γ = cX9_flush) (ho : gow γ = RX9) (hy : gly γ = gyM) (hR : grm γ = { frames := 3, cells := 0, slots := 0, locals := 68 }) (he : genv γ = ε) (hr : grt γ = (some .int)) (hE : gEnv ε) : gSm γ cs ss 47 (fX9_flush_k47 N) := by
  unfold fX9_flush_k47
  refine sm_iconst (pc := 47) G hb (by decide +kernel : decode cX9_flush 47 = .ok (.iconst 0, 1)) (by decide) ?_
  refine sm_istore_n (pc := 48) G hb (by decide +kernel : decode cX9_flush 48 = .ok (.istore_n 3, 1)) rfl ?_
  refine sm_mask ?_
  exact fX9_flush_s49 N G hb ho hy hR he hr hE
set_option maxRecDepth 100000 in
set_option maxHeartbeats 4000000 in
theorem fX9_flush_s30 {γ : gG} {cs ss : Nat} {ε : gE5} (N : Nat) (G : gOK γ) (hb : gcc γ = cX9_flush) (ho : gow γ = RX9) (hy : gly γ = gyM) (hR : grm γ = { frames := 3, cells := 0, slots := 0, locals := 68 }) (he : genv γ = ε) (hr : grt γ = (some .int)) (hE : gEnv ε) : gSm γ cs ss 30 (fX9_flush_k30 N) := by
  unfold fX9_flush_k30
  refine sm_iconst (pc := 30) G hb (by decide +kernel : decode cX9_flush 30 = .ok (.iconst 2, 1)) (by decide) ?_
  refine sm_mono (cav_sub gI_sub) (sm_callV (pc := 31) (N := 32) (T := TX9) (C := RX9) G hb ho hy he hE.1 3 [0, 1, 2, 3, 4, 5, 6, 7, 8, 9, 10, 11, 12, 13, 14, 15, 16, 17] (kX9_fails hE N) (gCo_of (by decide +kernel)) (by rw [hR]; exact ⟨by decide, by decide⟩) rfl rfl (by decide +kernel) gw6_105 gw6_107 gw0_34 gw1_11 gw6_108 (by decide +kernel : decode cX9_flush 31 = .ok (.invokevirtual 87, 3)) ?_)
  refine sm_if_eq (pc := 34) (tgt := 39) G hb (by decide +kernel : decode cX9_flush 34 = .ok (.ifCond .eq 5, 3)) (by decide) ?_ ?_
  · skip
    refine sm_aload_n (pc := 39) G hb (by decide +kernel : decode cX9_flush 39 = .ok (.aload_n 0, 1)) rfl ?_
    refine sm_mono (cav_sub gV_sub) (sm_callV (pc := 40) (N := 32) (T := TX9) (C := RX9) G hb ho hy he hE.1 1 [0, 1, 2, 3, 4, 5, 6, 7, 8, 9, 10, 11, 12, 13, 14, 15, 16, 17] (kX9_record hE N) (gCo_of (by decide +kernel)) (by rw [hR]; exact ⟨by decide, by decide⟩) rfl rfl (by decide +kernel) gw7_5 gw7_7 gw0_53 gw1_11 gw7_8 (by decide +kernel : decode cX9_flush 40 = .ok (.invokevirtual 345, 3)) ?_)
    refine sm_aload_n (pc := 43) G hb (by decide +kernel : decode cX9_flush 43 = .ok (.aload_n 0, 1)) rfl ?_
    refine sm_mono (cav_sub gV_sub) (sm_callV (pc := 44) (N := 32) (T := TX9) (C := RX9) G hb ho hy he hE.1 1 [0, 1, 2, 3, 4, 5, 6, 7, 8, 9, 10, 11, 12, 13, 14, 15, 16, 17] (kX9_stayAll hE N) (gCo_of (by decide +kernel)) (by rw [hR]; exact ⟨by decide, by decide⟩) rfl rfl (by decide +kernel) gw7_76 gw7_78 gw0_61 gw1_11 gw7_79 (by decide +kernel : decode cX9_flush 44 = .ok (.invokevirtual 310, 3)) ?_)
    refine sm_mask ?_
    exact fX9_flush_s47 N G hb ho hy hR he hr hE
  · skip
    refine sm_iconst (pc := 37) G hb (by decide +kernel : decode cX9_flush 37 = .ok (.iconst 0, 1)) (by decide) ?_
    exact sm_iret (pc := 38) G hb (by decide +kernel : decode cX9_flush 38 = .ok (.ireturn, 1)) hr
set_option maxRecDepth 100000 in
set_option maxHeartbeats 4000000 in
theorem fX9_flush_s0 {γ : gG} {cs ss : Nat} {ε : gE5} (N : Nat) (G : gOK γ) (hb : gcc γ = cX9_flush) (ho : gow γ = RX9) (hy : gly γ = gyM) (hR : grm γ = { frames := 3, cells := 0, slots := 0, locals := 68 }) (he : genv γ = ε) (hr : grt γ = (some .int)) (hE : gEnv ε) : gSm γ cs ss 0 (fX9_flush_k0 N) := by
  unfold fX9_flush_k0
  refine sm_aload_n (pc := 0) G hb (by decide +kernel : decode cX9_flush 0 = .ok (.aload_n 0, 1)) rfl ?_
  refine sm_iconst (pc := 1) G hb (by decide +kernel : decode cX9_flush 1 = .ok (.iconst 0, 1)) (by decide) ?_
  refine sm_put (pc := 2) (ci := 9) (j := 0) (N := 32) (T := TX9) G hb ho hy tyX9 tyX9_ok nmX9 rfl (by decide) gin_9 gw5_236 rfl rfl (by decide +kernel : decode cX9_flush 2 = .ok (.putfield 76, 3)) ?_
  refine sm_aload_n (pc := 5) G hb (by decide +kernel : decode cX9_flush 5 = .ok (.aload_n 0, 1)) rfl ?_
  refine sm_aload_n (pc := 6) G hb (by decide +kernel : decode cX9_flush 6 = .ok (.aload_n 0, 1)) rfl ?_
  refine sm_iload_n (pc := 7) G hb (by decide +kernel : decode cX9_flush 7 = .ok (.iload_n 1, 1)) rfl ?_
  refine sm_iload_n (pc := 8) G hb (by decide +kernel : decode cX9_flush 8 = .ok (.iload_n 2, 1)) rfl ?_
  refine sm_mono (cav_sub gI_sub) (sm_callV (pc := 9) (N := 32) (T := TX9) (C := RX9) G hb ho hy he hE.1 3 [0, 1, 2, 3, 4, 5, 6, 7, 8, 9, 10, 11, 12, 13, 14, 15, 16, 17] (kX9_areNodes hE N) (gCo_of (by decide +kernel)) (by rw [hR]; exact ⟨by decide, by decide⟩) rfl rfl (by decide +kernel) gw6_236 gw6_238 gw0_51 gw1_11 gw6_239 (by decide +kernel : decode cX9_flush 9 = .ok (.invokevirtual 340, 3)) ?_)
  refine sm_iconst (pc := 12) G hb (by decide +kernel : decode cX9_flush 12 = .ok (.iconst 1, 1)) (by decide) ?_
  refine sm_mono (cav_sub gI_sub) (sm_callV (pc := 13) (N := 32) (T := TX9) (C := RX9) G hb ho hy he hE.1 3 [0, 1, 2, 3, 4, 5, 6, 7, 8, 9, 10, 11, 12, 13, 14, 15, 16, 17] (kX9_fails hE N) (gCo_of (by decide +kernel)) (by rw [hR]; exact ⟨by decide, by decide⟩) rfl rfl (by decide +kernel) gw6_105 gw6_107 gw0_34 gw1_11 gw6_108 (by decide +kernel : decode cX9_flush 13 = .ok (.invokevirtual 87, 3)) ?_)
  refine sm_if_ne (pc := 16) (tgt := 37) G hb (by decide +kernel : decode cX9_flush 16 = .ok (.ifCond .ne 21, 3)) (by decide) ?_ ?_
  · skip
    refine sm_iconst (pc := 37) G hb (by decide +kernel : decode cX9_flush 37 = .ok (.iconst 0, 1)) (by decide) ?_
    exact sm_iret (pc := 38) G hb (by decide +kernel : decode cX9_flush 38 = .ok (.ireturn, 1)) hr
  · skip
    refine sm_aload_n (pc := 19) G hb (by decide +kernel : decode cX9_flush 19 = .ok (.aload_n 0, 1)) rfl ?_
    refine sm_iload_n (pc := 20) G hb (by decide +kernel : decode cX9_flush 20 = .ok (.iload_n 1, 1)) rfl ?_
    refine sm_iload_n (pc := 21) G hb (by decide +kernel : decode cX9_flush 21 = .ok (.iload_n 2, 1)) rfl ?_
    refine sm_icmp_eq (pc := 22) (tgt := 29) G hb (by decide +kernel : decode cX9_flush 22 = .ok (.if_icmp .eq 7, 3)) (by decide) ?_ ?_
    · skip
      refine sm_iconst (pc := 29) G hb (by decide +kernel : decode cX9_flush 29 = .ok (.iconst 0, 1)) (by decide) ?_
      refine sm_mask ?_
      exact fX9_flush_s30 N G hb ho hy hR he hr hE
    · skip
      refine sm_iconst (pc := 25) G hb (by decide +kernel : decode cX9_flush 25 = .ok (.iconst 1, 1)) (by decide) ?_
      refine sm_goto (pc := 26) (tgt := 30) G hb (by decide +kernel : decode cX9_flush 26 = .ok (.goto 4, 3)) (by decide) ?_
      refine sm_mask ?_
      exact fX9_flush_s30 N G hb ho hy hR he hr hE
theorem kX9_flush {ε : gE5} (hE : gEnv ε) (N : Nat) : gCtr ε yX9_flush cX9_flush 4 (some .int) 3 68 gyM (fX9_flush N) :=
  gCtr_of hE.1 (by decide) (fun γ G hb ho hy hR he hr => fX9_flush_s0 N G hb ho hy hR he hr hE)

set_option maxRecDepth 100000 in
set_option maxHeartbeats 4000000 in
theorem fX9_shadows_s41 {γ : gG} {cs ss : Nat} {ε : gE5} (N : Nat) (G : gOK γ) (hb : gcc γ = cX9_shadows) (ho : gow γ = RX9) (hy : gly γ = gyM) (hR : grm γ = { frames := 0, cells := 0, slots := 0, locals := 0 }) (he : genv γ = ε) (hr : grt γ = (some .long)) (hE : gEnv ε) (K5 : gK) (h5 : gSm γ cs ss 5 K5) : gSm γ cs ss 41 (fX9_shadows_k41 N K5) := by
  unfold fX9_shadows_k41
  refine sm_ladd (pc := 41) G hb (by decide +kernel : decode cX9_shadows 41 = .ok (.ladd, 1)) ?_
  refine sm_lstore_n (pc := 42) G hb (by decide +kernel : decode cX9_shadows 42 = .ok (.lstore_n 2, 1)) rfl ?_
  refine sm_iinc (pc := 43) G hb (by decide +kernel : decode cX9_shadows 43 = .ok (.iinc 4 1, 3)) (by decide) ?_
  refine sm_goto (pc := 46) (tgt := 5) G hb (by decide +kernel : decode cX9_shadows 46 = .ok (.goto (-41), 3)) (by decide) ?_
  refine sm_mask ?_
  exact h5
set_option maxRecDepth 100000 in
set_option maxHeartbeats 4000000 in
theorem fX9_shadows_s5 {γ : gG} {cs ss : Nat} {ε : gE5} (N : Nat) (G : gOK γ) (hb : gcc γ = cX9_shadows) (ho : gow γ = RX9) (hy : gly γ = gyM) (hR : grm γ = { frames := 0, cells := 0, slots := 0, locals := 0 }) (he : genv γ = ε) (hr : grt γ = (some .long)) (hE : gEnv ε) : gSm γ cs ss 5 (fX9_shadows_k5 N) := by
  unfold fX9_shadows_k5
  refine sm_lp (fun K5 h5 => ?_) N
  unfold fX9_shadows_b5
  refine sm_iload (pc := 5) G hb (by decide +kernel : decode cX9_shadows 5 = .ok (.iload 4, 2)) ?_
  refine sm_bipush (pc := 7) G hb (by decide +kernel : decode cX9_shadows 7 = .ok (.bipush 100, 2)) (by decide) ?_
  refine sm_icmp_ge (pc := 9) (tgt := 49) G hb (by decide +kernel : decode cX9_shadows 9 = .ok (.if_icmp .ge 40, 3)) (by decide) ?_ ?_
  · skip
    refine sm_lload_n (pc := 49) G hb (by decide +kernel : decode cX9_shadows 49 = .ok (.lload_n 2, 1)) rfl ?_
    exact sm_lret (pc := 50) G hb (by decide +kernel : decode cX9_shadows 50 = .ok (.lreturn, 1)) hr
  · skip
    refine sm_aload_n (pc := 12) G hb (by decide +kernel : decode cX9_shadows 12 = .ok (.aload_n 0, 1)) rfl ?_
    refine sm_get (pc := 13) (ci := 9) (j := 9) (N := 32) (T := TX9) G hb ho hy rfl (by decide) gin_9 gw6_5 (by decide +kernel : decode cX9_shadows 13 = .ok (.getfield 16, 3)) ?_
    refine sm_sipush (pc := 16) G hb (by decide +kernel : decode cX9_shadows 16 = .ok (.sipush 145, 3)) (by decide) ?_
    refine sm_iload (pc := 19) G hb (by decide +kernel : decode cX9_shadows 19 = .ok (.iload 4, 2)) ?_
    refine sm_iadd (pc := 21) G hb (by decide +kernel : decode cX9_shadows 21 = .ok (.iadd, 1)) ?_
    refine sm_iald (pc := 22) G hb hy (by decide +kernel : decode cX9_shadows 22 = .ok (.iaload, 1)) ?_
    refine sm_i2l (pc := 23) G hb (by decide +kernel : decode cX9_shadows 23 = .ok (.i2l, 1)) ?_
    refine sm_lstore (pc := 24) G hb (by decide +kernel : decode cX9_shadows 24 = .ok (.lstore 5, 2)) ?_
    refine sm_lload_n (pc := 26) G hb (by decide +kernel : decode cX9_shadows 26 = .ok (.lload_n 2, 1)) rfl ?_
    refine sm_iload_n (pc := 27) G hb (by decide +kernel : decode cX9_shadows 27 = .ok (.iload_n 1, 1)) rfl ?_
    refine sm_if_eq (pc := 28) (tgt := 39) G hb (by decide +kernel : decode cX9_shadows 28 = .ok (.ifCond .eq 11, 3)) (by decide) ?_ ?_
    · skip
      refine sm_lload (pc := 39) G hb (by decide +kernel : decode cX9_shadows 39 = .ok (.lload 5, 2)) ?_
      refine sm_mask ?_
      exact fX9_shadows_s41 N G hb ho hy hR he hr hE K5 h5
    · skip
      refine sm_lload (pc := 31) G hb (by decide +kernel : decode cX9_shadows 31 = .ok (.lload 5, 2)) ?_
      refine sm_lload (pc := 33) G hb (by decide +kernel : decode cX9_shadows 33 = .ok (.lload 5, 2)) ?_
      refine sm_lmul (pc := 35) G hb (by decide +kernel : decode cX9_shadows 35 = .ok (.lmul, 1)) ?_
      refine sm_goto (pc := 36) (tgt := 41) G hb (by decide +kernel : decode cX9_shadows 36 = .ok (.goto 5, 3)) (by decide) ?_
      refine sm_mask ?_
      exact fX9_shadows_s41 N G hb ho hy hR he hr hE K5 h5
set_option maxRecDepth 100000 in
set_option maxHeartbeats 4000000 in
theorem fX9_shadows_s0 {γ : gG} {cs ss : Nat} {ε : gE5} (N : Nat) (G : gOK γ) (hb : gcc γ = cX9_shadows) (ho : gow γ = RX9) (hy : gly γ = gyM) (hR : grm γ = { frames := 0, cells := 0, slots := 0, locals := 0 }) (he : genv γ = ε) (hr : grt γ = (some .long)) (hE : gEnv ε) : gSm γ cs ss 0 (fX9_shadows_k0 N) := by
  unfold fX9_shadows_k0
  refine sm_lconst (pc := 0) G hb (by decide +kernel : decode cX9_shadows 0 = .ok (.lconst 0, 1)) (by decide) ?_
  refine sm_lstore_n (pc := 1) G hb (by decide +kernel : decode cX9_shadows 1 = .ok (.lstore_n 2, 1)) rfl ?_
  refine sm_iconst (pc := 2) G hb (by decide +kernel : decode cX9_shadows 2 = .ok (.iconst 0, 1)) (by decide) ?_
  refine sm_istore (pc := 3) G hb (by decide +kernel : decode cX9_shadows 3 = .ok (.istore 4, 2)) ?_
  refine sm_mask ?_
  exact fX9_shadows_s5 N G hb ho hy hR he hr hE
theorem kX9_shadows {ε : gE5} (hE : gEnv ε) (N : Nat) : gCtr ε yX9_shadows cX9_shadows 7 (some .long) 0 0 gyM (fX9_shadows N) :=
  gCtr_of hE.1 (by decide) (fun γ G hb ho hy hR he hr => fX9_shadows_s0 N G hb ho hy hR he hr hE)

set_option maxRecDepth 100000 in
set_option maxHeartbeats 4000000 in
theorem fX9_resetShadows_s18 {γ : gG} {cs ss : Nat} {ε : gE5} (N : Nat) (G : gOK γ) (hb : gcc γ = cX9_resetShadows) (ho : gow γ = RX9) (hy : gly γ = gyM) (hR : grm γ = { frames := 2, cells := 0, slots := 0, locals := 45 }) (he : genv γ = ε) (hr : grt γ = (some .int)) (hE : gEnv ε) : gSm γ cs ss 18 (fX9_resetShadows_k18 N) := by
  unfold fX9_resetShadows_k18
  refine sm_lp (fun K18 h18 => ?_) N
  unfold fX9_resetShadows_b18
  refine sm_iload_n (pc := 18) G hb (by decide +kernel : decode cX9_resetShadows 18 = .ok (.iload_n 2, 1)) rfl ?_
  refine sm_bipush (pc := 19) G hb (by decide +kernel : decode cX9_resetShadows 19 = .ok (.bipush 100, 2)) (by decide) ?_
  refine sm_icmp_ge (pc := 21) (tgt := 41) G hb (by decide +kernel : decode cX9_resetShadows 21 = .ok (.if_icmp .ge 20, 3)) (by decide) ?_ ?_
  · skip
    refine sm_iload_n (pc := 41) G hb (by decide +kernel : decode cX9_resetShadows 41 = .ok (.iload_n 1, 1)) rfl ?_
    exact sm_iret (pc := 42) G hb (by decide +kernel : decode cX9_resetShadows 42 = .ok (.ireturn, 1)) hr
  · skip
    refine sm_aload_n (pc := 24) G hb (by decide +kernel : decode cX9_resetShadows 24 = .ok (.aload_n 0, 1)) rfl ?_
    refine sm_get (pc := 25) (ci := 9) (j := 9) (N := 32) (T := TX9) G hb ho hy rfl (by decide) gin_9 gw6_5 (by decide +kernel : decode cX9_resetShadows 25 = .ok (.getfield 16, 3)) ?_
    refine sm_sipush (pc := 28) G hb (by decide +kernel : decode cX9_resetShadows 28 = .ok (.sipush 145, 3)) (by decide) ?_
    refine sm_iload_n (pc := 31) G hb (by decide +kernel : decode cX9_resetShadows 31 = .ok (.iload_n 2, 1)) rfl ?_
    refine sm_iadd (pc := 32) G hb (by decide +kernel : decode cX9_resetShadows 32 = .ok (.iadd, 1)) ?_
    refine sm_iconst (pc := 33) G hb (by decide +kernel : decode cX9_resetShadows 33 = .ok (.iconst 0, 1)) (by decide) ?_
    refine sm_iast (pc := 34) G hb hy (by decide +kernel : decode cX9_resetShadows 34 = .ok (.iastore, 1)) ?_
    refine sm_iinc (pc := 35) G hb (by decide +kernel : decode cX9_resetShadows 35 = .ok (.iinc 2 1, 3)) (by decide) ?_
    refine sm_goto (pc := 38) (tgt := 18) G hb (by decide +kernel : decode cX9_resetShadows 38 = .ok (.goto (-20), 3)) (by decide) ?_
    refine sm_mask ?_
    exact h18
set_option maxRecDepth 100000 in
set_option maxHeartbeats 4000000 in
theorem fX9_resetShadows_s0 {γ : gG} {cs ss : Nat} {ε : gE5} (N : Nat) (G : gOK γ) (hb : gcc γ = cX9_resetShadows) (ho : gow γ = RX9) (hy : gly γ = gyM) (hR : grm γ = { frames := 2, cells := 0, slots := 0, locals := 45 }) (he : genv γ = ε) (hr : grt γ = (some .int)) (hE : gEnv ε) : gSm γ cs ss 0 (fX9_resetShadows_k0 N) := by
  unfold fX9_resetShadows_k0
  refine sm_aload_n (pc := 0) G hb (by decide +kernel : decode cX9_resetShadows 0 = .ok (.aload_n 0, 1)) rfl ?_
  refine sm_iconst (pc := 1) G hb (by decide +kernel : decode cX9_resetShadows 1 = .ok (.iconst 0, 1)) (by decide) ?_
  refine sm_put (pc := 2) (ci := 9) (j := 0) (N := 32) (T := TX9) G hb ho hy tyX9 tyX9_ok nmX9 rfl (by decide) gin_9 gw5_236 rfl rfl (by decide +kernel : decode cX9_resetShadows 2 = .ok (.putfield 76, 3)) ?_
  refine sm_aload_n (pc := 5) G hb (by decide +kernel : decode cX9_resetShadows 5 = .ok (.aload_n 0, 1)) rfl ?_
  refine sm_mono (cav_sub gV_sub) (sm_callV (pc := 6) (N := 32) (T := TX9) (C := RX9) G hb ho hy he hE.1 1 [0, 1, 2, 3, 4, 5, 6, 7, 8, 9, 10, 11, 12, 13, 14, 15, 16, 17] (kX9_record hE N) (gCo_of (by decide +kernel)) (by rw [hR]; exact ⟨by decide, by decide⟩) rfl rfl (by decide +kernel) gw7_5 gw7_7 gw0_53 gw1_11 gw7_8 (by decide +kernel : decode cX9_resetShadows 6 = .ok (.invokevirtual 345, 3)) ?_)
  refine sm_aload_n (pc := 9) G hb (by decide +kernel : decode cX9_resetShadows 9 = .ok (.aload_n 0, 1)) rfl ?_
  refine sm_iconst (pc := 10) G hb (by decide +kernel : decode cX9_resetShadows 10 = .ok (.iconst 0, 1)) (by decide) ?_
  refine sm_mono (cav_sub gJ_sub) (sm_callV (pc := 11) (N := 32) (T := TX9) (C := RX9) G hb ho hy he hE.1 2 [0, 1, 2, 3, 4, 5, 6, 7, 8, 9, 10, 11, 12, 13, 14, 15, 16, 17] (kX9_shadows hE N) (gCo_of (by decide +kernel)) (by rw [hR]; exact ⟨by decide, by decide⟩) rfl rfl (by decide +kernel) gw7_100 gw7_102 gw0_66 gw1_11 gw7_103 (by decide +kernel : decode cX9_resetShadows 11 = .ok (.invokevirtual 368, 3)) ?_)
  refine sm_l2i (pc := 14) G hb (by decide +kernel : decode cX9_resetShadows 14 = .ok (.l2i, 1)) ?_
  refine sm_istore_n (pc := 15) G hb (by decide +kernel : decode cX9_resetShadows 15 = .ok (.istore_n 1, 1)) rfl ?_
  refine sm_iconst (pc := 16) G hb (by decide +kernel : decode cX9_resetShadows 16 = .ok (.iconst 0, 1)) (by decide) ?_
  refine sm_istore_n (pc := 17) G hb (by decide +kernel : decode cX9_resetShadows 17 = .ok (.istore_n 2, 1)) rfl ?_
  refine sm_mask ?_
  exact fX9_resetShadows_s18 N G hb ho hy hR he hr hE
theorem kX9_resetShadows {ε : gE5} (hE : gEnv ε) (N : Nat) : gCtr ε yX9_resetShadows cX9_resetShadows 3 (some .int) 2 45 gyM (fX9_resetShadows N) :=
  gCtr_of hE.1 (by decide) (fun γ G hb ho hy hR he hr => fX9_resetShadows_s0 N G hb ho hy hR he hr hE)

set_option maxRecDepth 100000 in
set_option maxHeartbeats 4000000 in
theorem fX9_areSlots_s0 {γ : gG} {cs ss : Nat} {ε : gE5} (N : Nat) (G : gOK γ) (hb : gcc γ = cX9_areSlots) (ho : gow γ = RX9) (hy : gly γ = gy0) (hR : grm γ = { frames := 1, cells := 0, slots := 0, locals := 25 }) (he : genv γ = ε) (hr : grt γ = (some .boolean)) (hE : gEnv ε) : gSm γ cs ss 0 (fX9_areSlots_k0 N) := by
  unfold fX9_areSlots_k0
  refine sm_iload_n (pc := 0) G hb (by decide +kernel : decode cX9_areSlots 0 = .ok (.iload_n 0, 1)) rfl ?_
  refine sm_i2l (pc := 1) G hb (by decide +kernel : decode cX9_areSlots 1 = .ok (.i2l, 1)) ?_
  refine sm_lconst (pc := 2) G hb (by decide +kernel : decode cX9_areSlots 2 = .ok (.lconst 1, 1)) (by decide) ?_
  refine sm_ldc2 (pc := 3) G hb ho (by decide +kernel : decode cX9_areSlots 3 = .ok (.ldc2_w 372, 3)) gw7_111 ?_
  refine sm_mono (ca_sub gI_sub) (sm_callS (pc := 6) G hb ho hy he hE.1 3 [] (kX9_in hE N) (gCo_of (by decide +kernel)) (by rw [hR]; exact ⟨by decide, by decide⟩) (by decide +kernel) gw6_113 gw6_114 gw1_11 gw6_115 (by decide +kernel : decode cX9_areSlots 6 = .ok (.invokestatic 91, 3)) ?_)
  exact sm_zret (pc := 9) G hb (by decide +kernel : decode cX9_areSlots 9 = .ok (.ireturn, 1)) hr
theorem kX9_areSlots {ε : gE5} (hE : gEnv ε) (N : Nat) : gCtr ε yX9_areSlots cX9_areSlots 1 (some .boolean) 1 25 gy0 (fX9_areSlots N) :=
  gCtr_of hE.1 (by decide) (fun γ G hb ho hy hR he hr => fX9_areSlots_s0 N G hb ho hy hR he hr hE)

set_option maxRecDepth 100000 in
set_option maxHeartbeats 4000000 in
theorem fX9_count__s0 {γ : gG} {cs ss : Nat} {ε : gE5} (N : Nat) (G : gOK γ) (hb : gcc γ = cX9_count_) (ho : gow γ = RX9) (hy : gly γ = gyM) (hR : grm γ = { frames := 1, cells := 0, slots := 0, locals := 25 }) (he : genv γ = ε) (hr : grt γ = (some .int)) (hE : gEnv ε) : gSm γ cs ss 0 (fX9_count__k0 N) := by
  unfold fX9_count__k0
  refine sm_aload_n (pc := 0) G hb (by decide +kernel : decode cX9_count_ 0 = .ok (.aload_n 0, 1)) rfl ?_
  refine sm_iconst (pc := 1) G hb (by decide +kernel : decode cX9_count_ 1 = .ok (.iconst 0, 1)) (by decide) ?_
  refine sm_put (pc := 2) (ci := 9) (j := 0) (N := 32) (T := TX9) G hb ho hy tyX9 tyX9_ok nmX9 rfl (by decide) gin_9 gw5_236 rfl rfl (by decide +kernel : decode cX9_count_ 2 = .ok (.putfield 76, 3)) ?_
  refine sm_aload_n (pc := 5) G hb (by decide +kernel : decode cX9_count_ 5 = .ok (.aload_n 0, 1)) rfl ?_
  refine sm_iload_n (pc := 6) G hb (by decide +kernel : decode cX9_count_ 6 = .ok (.iload_n 1, 1)) rfl ?_
  refine sm_i2l (pc := 7) G hb (by decide +kernel : decode cX9_count_ 7 = .ok (.i2l, 1)) ?_
  refine sm_lconst (pc := 8) G hb (by decide +kernel : decode cX9_count_ 8 = .ok (.lconst 0, 1)) (by decide) ?_
  refine sm_ldc2 (pc := 9) G hb ho (by decide +kernel : decode cX9_count_ 9 = .ok (.ldc2_w 380, 3)) gw7_196 ?_
  refine sm_mono (ca_sub gI_sub) (sm_callS (pc := 12) G hb ho hy he hE.1 3 [] (kX9_in hE N) (gCo_of (by decide +kernel)) (by rw [hR]; exact ⟨by decide, by decide⟩) (by decide +kernel) gw6_113 gw6_114 gw1_11 gw6_115 (by decide +kernel : decode cX9_count_ 12 = .ok (.invokestatic 91, 3)) ?_)
  refine sm_iconst (pc := 15) G hb (by decide +kernel : decode cX9_count_ 15 = .ok (.iconst 1, 1)) (by decide) ?_
  refine sm_mono (cav_sub gI_sub) (sm_callV (pc := 16) (N := 32) (T := TX9) (C := RX9) G hb ho hy he hE.1 3 [0, 1, 2, 3, 4, 5, 6, 7, 8, 9, 10, 11, 12, 13, 14, 15, 16, 17] (kX9_fails hE N) (gCo_of (by decide +kernel)) (by rw [hR]; exact ⟨by decide, by decide⟩) rfl rfl (by decide +kernel) gw6_105 gw6_107 gw0_34 gw1_11 gw6_108 (by decide +kernel : decode cX9_count_ 16 = .ok (.invokevirtual 87, 3)) ?_)
  refine sm_if_eq (pc := 19) (tgt := 26) G hb (by decide +kernel : decode cX9_count_ 19 = .ok (.ifCond .eq 7, 3)) (by decide) ?_ ?_
  · skip
    refine sm_aload_n (pc := 26) G hb (by decide +kernel : decode cX9_count_ 26 = .ok (.aload_n 0, 1)) rfl ?_
    refine sm_get (pc := 27) (ci := 9) (j := 9) (N := 32) (T := TX9) G hb ho hy rfl (by decide) gin_9 gw6_5 (by decide +kernel : decode cX9_count_ 27 = .ok (.getfield 16, 3)) ?_
    refine sm_iload_n (pc := 30) G hb (by decide +kernel : decode cX9_count_ 30 = .ok (.iload_n 1, 1)) rfl ?_
    refine sm_iald (pc := 31) G hb hy (by decide +kernel : decode cX9_count_ 31 = .ok (.iaload, 1)) ?_
    exact sm_iret (pc := 32) G hb (by decide +kernel : decode cX9_count_ 32 = .ok (.ireturn, 1)) hr
  · skip
    refine sm_iconst (pc := 22) G hb (by decide +kernel : decode cX9_count_ 22 = .ok (.iconst 0, 1)) (by decide) ?_
    refine sm_goto (pc := 23) (tgt := 32) G hb (by decide +kernel : decode cX9_count_ 23 = .ok (.goto 9, 3)) (by decide) ?_
    exact sm_iret (pc := 32) G hb (by decide +kernel : decode cX9_count_ 32 = .ok (.ireturn, 1)) hr
theorem kX9_count_ {ε : gE5} (hE : gEnv ε) (N : Nat) : gCtr ε yX9_count_ cX9_count_ 2 (some .int) 1 25 gyM (fX9_count_ N) :=
  gCtr_of hE.1 (by decide) (fun γ G hb ho hy hR he hr => fX9_count__s0 N G hb ho hy hR he hr hE)

set_option maxRecDepth 100000 in
set_option maxHeartbeats 4000000 in
theorem fX9_conflicts_s0 {γ : gG} {cs ss : Nat} {ε : gE5} (N : Nat) (G : gOK γ) (hb : gcc γ = cX9_conflicts) (ho : gow γ = RX9) (hy : gly γ = gyM) (hR : grm γ = { frames := 2, cells := 0, slots := 0, locals := 46 }) (he : genv γ = ε) (hr : grt γ = (some .int)) (hE : gEnv ε) : gSm γ cs ss 0 (fX9_conflicts_k0 N) := by
  unfold fX9_conflicts_k0
  refine sm_aload_n (pc := 0) G hb (by decide +kernel : decode cX9_conflicts 0 = .ok (.aload_n 0, 1)) rfl ?_
  refine sm_iconst (pc := 1) G hb (by decide +kernel : decode cX9_conflicts 1 = .ok (.iconst 0, 1)) (by decide) ?_
  refine sm_put (pc := 2) (ci := 9) (j := 0) (N := 32) (T := TX9) G hb ho hy tyX9 tyX9_ok nmX9 rfl (by decide) gin_9 gw5_236 rfl rfl (by decide +kernel : decode cX9_conflicts 2 = .ok (.putfield 76, 3)) ?_
  refine sm_aload_n (pc := 5) G hb (by decide +kernel : decode cX9_conflicts 5 = .ok (.aload_n 0, 1)) rfl ?_
  refine sm_aload_n (pc := 6) G hb (by decide +kernel : decode cX9_conflicts 6 = .ok (.aload_n 0, 1)) rfl ?_
  refine sm_iload_n (pc := 7) G hb (by decide +kernel : decode cX9_conflicts 7 = .ok (.iload_n 1, 1)) rfl ?_
  refine sm_mono (cav_sub gI_sub) (sm_callV (pc := 8) (N := 32) (T := TX9) (C := RX9) G hb ho hy he hE.1 2 [0, 1, 2, 3, 4, 5, 6, 7, 8, 9, 10, 11, 12, 13, 14, 15, 16, 17] (kX9_isLink hE N) (gCo_of (by decide +kernel)) (by rw [hR]; exact ⟨by decide, by decide⟩) rfl rfl (by decide +kernel) gw7_13 gw7_15 gw0_54 gw1_11 gw7_16 (by decide +kernel : decode cX9_conflicts 8 = .ok (.invokevirtual 348, 3)) ?_)
  refine sm_iconst (pc := 11) G hb (by decide +kernel : decode cX9_conflicts 11 = .ok (.iconst 1, 1)) (by decide) ?_
  refine sm_mono (cav_sub gI_sub) (sm_callV (pc := 12) (N := 32) (T := TX9) (C := RX9) G hb ho hy he hE.1 3 [0, 1, 2, 3, 4, 5, 6, 7, 8, 9, 10, 11, 12, 13, 14, 15, 16, 17] (kX9_fails hE N) (gCo_of (by decide +kernel)) (by rw [hR]; exact ⟨by decide, by decide⟩) rfl rfl (by decide +kernel) gw6_105 gw6_107 gw0_34 gw1_11 gw6_108 (by decide +kernel : decode cX9_conflicts 12 = .ok (.invokevirtual 87, 3)) ?_)
  refine sm_if_eq (pc := 15) (tgt := 22) G hb (by decide +kernel : decode cX9_conflicts 15 = .ok (.ifCond .eq 7, 3)) (by decide) ?_ ?_
  · skip
    refine sm_aload_n (pc := 22) G hb (by decide +kernel : decode cX9_conflicts 22 = .ok (.aload_n 0, 1)) rfl ?_
    refine sm_get (pc := 23) (ci := 9) (j := 9) (N := 32) (T := TX9) G hb ho hy rfl (by decide) gin_9 gw6_5 (by decide +kernel : decode cX9_conflicts 23 = .ok (.getfield 16, 3)) ?_
    refine sm_sipush (pc := 26) G hb (by decide +kernel : decode cX9_conflicts 26 = .ok (.sipush 131, 3)) (by decide) ?_
    refine sm_iload_n (pc := 29) G hb (by decide +kernel : decode cX9_conflicts 29 = .ok (.iload_n 1, 1)) rfl ?_
    refine sm_iadd (pc := 30) G hb (by decide +kernel : decode cX9_conflicts 30 = .ok (.iadd, 1)) ?_
    refine sm_iald (pc := 31) G hb hy (by decide +kernel : decode cX9_conflicts 31 = .ok (.iaload, 1)) ?_
    exact sm_iret (pc := 32) G hb (by decide +kernel : decode cX9_conflicts 32 = .ok (.ireturn, 1)) hr
  · skip
    refine sm_iconst (pc := 18) G hb (by decide +kernel : decode cX9_conflicts 18 = .ok (.iconst 0, 1)) (by decide) ?_
    refine sm_goto (pc := 19) (tgt := 32) G hb (by decide +kernel : decode cX9_conflicts 19 = .ok (.goto 13, 3)) (by decide) ?_
    exact sm_iret (pc := 32) G hb (by decide +kernel : decode cX9_conflicts 32 = .ok (.ireturn, 1)) hr
theorem kX9_conflicts {ε : gE5} (hE : gEnv ε) (N : Nat) : gCtr ε yX9_conflicts cX9_conflicts 2 (some .int) 2 46 gyM (fX9_conflicts N) :=
  gCtr_of hE.1 (by decide) (fun γ G hb ho hy hR he hr => fX9_conflicts_s0 N G hb ho hy hR he hr hE)

set_option maxRecDepth 100000 in
set_option maxHeartbeats 4000000 in
theorem fX9_flow_s28 {γ : gG} {cs ss : Nat} {ε : gE5} (N : Nat) (G : gOK γ) (hb : gcc γ = cX9_flow) (ho : gow γ = RX9) (hy : gly γ = gyM) (hR : grm γ = { frames := 2, cells := 0, slots := 0, locals := 46 }) (he : genv γ = ε) (hr : grt γ = (some .int)) (hE : gEnv ε) : gSm γ cs ss 28 (fX9_flow_k28 N) := by
  unfold fX9_flow_k28
  refine sm_iconst (pc := 28) G hb (by decide +kernel : decode cX9_flow 28 = .ok (.iconst 2, 1)) (by decide) ?_
  refine sm_mono (cav_sub gI_sub) (sm_callV (pc := 29) (N := 32) (T := TX9) (C := RX9) G hb ho hy he hE.1 3 [0, 1, 2, 3, 4, 5, 6, 7, 8, 9, 10, 11, 12, 13, 14, 15, 16, 17] (kX9_fails hE N) (gCo_of (by decide +kernel)) (by rw [hR]; exact ⟨by decide, by decide⟩) rfl rfl (by decide +kernel) gw6_105 gw6_107 gw0_34 gw1_11 gw6_108 (by decide +kernel : decode cX9_flow 29 = .ok (.invokevirtual 87, 3)) ?_)
  refine sm_if_eq (pc := 32) (tgt := 37) G hb (by decide +kernel : decode cX9_flow 32 = .ok (.ifCond .eq 5, 3)) (by decide) ?_ ?_
  · skip
    refine sm_aload_n (pc := 37) G hb (by decide +kernel : decode cX9_flow 37 = .ok (.aload_n 0, 1)) rfl ?_
    refine sm_iload_n (pc := 38) G hb (by decide +kernel : decode cX9_flow 38 = .ok (.iload_n 1, 1)) rfl ?_
    refine sm_iload_n (pc := 39) G hb (by decide +kernel : decode cX9_flow 39 = .ok (.iload_n 2, 1)) rfl ?_
    refine sm_mono (cav_sub gI_sub) (sm_callV (pc := 40) (N := 32) (T := TX9) (C := RX9) G hb ho hy he hE.1 3 [0, 1, 2, 3, 4, 5, 6, 7, 8, 9, 10, 11, 12, 13, 14, 15, 16, 17] (kX9_flowPart hE N) (gCo_of (by decide +kernel)) (by rw [hR]; exact ⟨by decide, by decide⟩) rfl rfl (by decide +kernel) gw7_64 gw7_66 gw0_59 gw1_11 gw7_67 (by decide +kernel : decode cX9_flow 40 = .ok (.invokevirtual 240, 3)) ?_)
    exact sm_iret (pc := 43) G hb (by decide +kernel : decode cX9_flow 43 = .ok (.ireturn, 1)) hr
  · skip
    refine sm_iconst (pc := 35) G hb (by decide +kernel : decode cX9_flow 35 = .ok (.iconst 0, 1)) (by decide) ?_
    exact sm_iret (pc := 36) G hb (by decide +kernel : decode cX9_flow 36 = .ok (.ireturn, 1)) hr
set_option maxRecDepth 100000 in
set_option maxHeartbeats 4000000 in
theorem fX9_flow_s0 {γ : gG} {cs ss : Nat} {ε : gE5} (N : Nat) (G : gOK γ) (hb : gcc γ = cX9_flow) (ho : gow γ = RX9) (hy : gly γ = gyM) (hR : grm γ = { frames := 2, cells := 0, slots := 0, locals := 46 }) (he : genv γ = ε) (hr : grt γ = (some .int)) (hE : gEnv ε) : gSm γ cs ss 0 (fX9_flow_k0 N) := by
  unfold fX9_flow_k0
  refine sm_aload_n (pc := 0) G hb (by decide +kernel : decode cX9_flow 0 = .ok (.aload_n 0, 1)) rfl ?_
  refine sm_iconst (pc := 1) G hb (by decide +kernel : decode cX9_flow 1 = .ok (.iconst 0, 1)) (by decide) ?_
  refine sm_put (pc := 2) (ci := 9) (j := 0) (N := 32) (T := TX9) G hb ho hy tyX9 tyX9_ok nmX9 rfl (by decide) gin_9 gw5_236 rfl rfl (by decide +kernel : decode cX9_flow 2 = .ok (.putfield 76, 3)) ?_
  refine sm_aload_n (pc := 5) G hb (by decide +kernel : decode cX9_flow 5 = .ok (.aload_n 0, 1)) rfl ?_
  refine sm_aload_n (pc := 6) G hb (by decide +kernel : decode cX9_flow 6 = .ok (.aload_n 0, 1)) rfl ?_
  refine sm_iload_n (pc := 7) G hb (by decide +kernel : decode cX9_flow 7 = .ok (.iload_n 1, 1)) rfl ?_
  refine sm_mono (cav_sub gI_sub) (sm_callV (pc := 8) (N := 32) (T := TX9) (C := RX9) G hb ho hy he hE.1 2 [0, 1, 2, 3, 4, 5, 6, 7, 8, 9, 10, 11, 12, 13, 14, 15, 16, 17] (kX9_isFlow hE N) (gCo_of (by decide +kernel)) (by rw [hR]; exact ⟨by decide, by decide⟩) rfl rfl (by decide +kernel) gw7_35 gw7_37 gw0_56 gw1_11 gw7_38 (by decide +kernel : decode cX9_flow 8 = .ok (.invokevirtual 358, 3)) ?_)
  refine sm_iconst (pc := 11) G hb (by decide +kernel : decode cX9_flow 11 = .ok (.iconst 1, 1)) (by decide) ?_
  refine sm_mono (cav_sub gI_sub) (sm_callV (pc := 12) (N := 32) (T := TX9) (C := RX9) G hb ho hy he hE.1 3 [0, 1, 2, 3, 4, 5, 6, 7, 8, 9, 10, 11, 12, 13, 14, 15, 16, 17] (kX9_fails hE N) (gCo_of (by decide +kernel)) (by rw [hR]; exact ⟨by decide, by decide⟩) rfl rfl (by decide +kernel) gw6_105 gw6_107 gw0_34 gw1_11 gw6_108 (by decide +kernel : decode cX9_flow 12 = .ok (.invokevirtual 87, 3)) ?_)
  refine sm_if_ne (pc := 15) (tgt := 35) G hb (by decide +kernel : decode cX9_flow 15 = .ok (.ifCond .ne 20, 3)) (by decide) ?_ ?_
  · skip
    refine sm_iconst (pc := 35) G hb (by decide +kernel : decode cX9_flow 35 = .ok (.iconst 0, 1)) (by decide) ?_
    exact sm_iret (pc := 36) G hb (by decide +kernel : decode cX9_flow 36 = .ok (.ireturn, 1)) hr
  · skip
    refine sm_aload_n (pc := 18) G hb (by decide +kernel : decode cX9_flow 18 = .ok (.aload_n 0, 1)) rfl ?_
    refine sm_iload_n (pc := 19) G hb (by decide +kernel : decode cX9_flow 19 = .ok (.iload_n 2, 1)) rfl ?_
    refine sm_i2l (pc := 20) G hb (by decide +kernel : decode cX9_flow 20 = .ok (.i2l, 1)) ?_
    refine sm_lconst (pc := 21) G hb (by decide +kernel : decode cX9_flow 21 = .ok (.lconst 0, 1)) (by decide) ?_
    refine sm_ldc2 (pc := 22) G hb ho (by decide +kernel : decode cX9_flow 22 = .ok (.ldc2_w 387, 3)) gw7_214 ?_
    refine sm_mono (ca_sub gI_sub) (sm_callS (pc := 25) G hb ho hy he hE.1 3 [] (kX9_in hE N) (gCo_of (by decide +kernel)) (by rw [hR]; exact ⟨by decide, by decide⟩) (by decide +kernel) gw6_113 gw6_114 gw1_11 gw6_115 (by decide +kernel : decode cX9_flow 25 = .ok (.invokestatic 91, 3)) ?_)
    refine sm_mask ?_
    exact fX9_flow_s28 N G hb ho hy hR he hr hE
theorem kX9_flow {ε : gE5} (hE : gEnv ε) (N : Nat) : gCtr ε yX9_flow cX9_flow 3 (some .int) 2 46 gyM (fX9_flow N) :=
  gCtr_of hE.1 (by decide) (fun γ G hb ho hy hR he hr => fX9_flow_s0 N G hb ho hy hR he hr hE)

set_option maxRecDepth 100000 in
set_option maxHeartbeats 4000000 in
theorem fX9_hops_s25 {γ : gG} {cs ss : Nat} {ε : gE5} (N : Nat) (G : gOK γ) (hb : gcc γ = cX9_hops) (ho : gow γ = RX9) (hy : gly γ = gyM) (hR : grm γ = { frames := 3, cells := 0, slots := 0, locals := 68 }) (he : genv γ = ε) (hr : grt γ = (some .int)) (hE : gEnv ε) : gSm γ cs ss 25 (fX9_hops_k25 N) := by
  unfold fX9_hops_k25
  refine sm_aload_n (pc := 25) G hb (by decide +kernel : decode cX9_hops 25 = .ok (.aload_n 0, 1)) rfl ?_
  refine sm_get (pc := 26) (ci := 9) (j := 18) (N := 32) (T := TX9) G hb ho hy rfl (by decide) gin_9 gw6_14 (by decide +kernel : decode cX9_hops 26 = .ok (.getfield 32, 3)) ?_
  refine sm_bipush (pc := 29) G hb (by decide +kernel : decode cX9_hops 29 = .ok (.bipush 10, 2)) (by decide) ?_
  refine sm_iload_n (pc := 31) G hb (by decide +kernel : decode cX9_hops 31 = .ok (.iload_n 1, 1)) rfl ?_
  refine sm_imul (pc := 32) G hb (by decide +kernel : decode cX9_hops 32 = .ok (.imul, 1)) ?_
  refine sm_iload_n (pc := 33) G hb (by decide +kernel : decode cX9_hops 33 = .ok (.iload_n 2, 1)) rfl ?_
  refine sm_iadd (pc := 34) G hb (by decide +kernel : decode cX9_hops 34 = .ok (.iadd, 1)) ?_
  refine sm_iald (pc := 35) G hb hy (by decide +kernel : decode cX9_hops 35 = .ok (.iaload, 1)) ?_
  exact sm_iret (pc := 36) G hb (by decide +kernel : decode cX9_hops 36 = .ok (.ireturn, 1)) hr
set_option maxRecDepth 100000 in
set_option maxHeartbeats 4000000 in
theorem fX9_hops_s0 {γ : gG} {cs ss : Nat} {ε : gE5} (N : Nat) (G : gOK γ) (hb : gcc γ = cX9_hops) (ho : gow γ = RX9) (hy : gly γ = gyM) (hR : grm γ = { frames := 3, cells := 0, slots := 0, locals := 68 }) (he : genv γ = ε) (hr : grt γ = (some .int)) (hE : gEnv ε) : gSm γ cs ss 0 (fX9_hops_k0 N) := by
  unfold fX9_hops_k0
  refine sm_aload_n (pc := 0) G hb (by decide +kernel : decode cX9_hops 0 = .ok (.aload_n 0, 1)) rfl ?_
  refine sm_iconst (pc := 1) G hb (by decide +kernel : decode cX9_hops 1 = .ok (.iconst 0, 1)) (by decide) ?_
  refine sm_put (pc := 2) (ci := 9) (j := 0) (N := 32) (T := TX9) G hb ho hy tyX9 tyX9_ok nmX9 rfl (by decide) gin_9 gw5_236 rfl rfl (by decide +kernel : decode cX9_hops 2 = .ok (.putfield 76, 3)) ?_
  refine sm_aload_n (pc := 5) G hb (by decide +kernel : decode cX9_hops 5 = .ok (.aload_n 0, 1)) rfl ?_
  refine sm_aload_n (pc := 6) G hb (by decide +kernel : decode cX9_hops 6 = .ok (.aload_n 0, 1)) rfl ?_
  refine sm_iload_n (pc := 7) G hb (by decide +kernel : decode cX9_hops 7 = .ok (.iload_n 1, 1)) rfl ?_
  refine sm_iload_n (pc := 8) G hb (by decide +kernel : decode cX9_hops 8 = .ok (.iload_n 2, 1)) rfl ?_
  refine sm_mono (cav_sub gI_sub) (sm_callV (pc := 9) (N := 32) (T := TX9) (C := RX9) G hb ho hy he hE.1 3 [0, 1, 2, 3, 4, 5, 6, 7, 8, 9, 10, 11, 12, 13, 14, 15, 16, 17] (kX9_areNodes hE N) (gCo_of (by decide +kernel)) (by rw [hR]; exact ⟨by decide, by decide⟩) rfl rfl (by decide +kernel) gw6_236 gw6_238 gw0_51 gw1_11 gw6_239 (by decide +kernel : decode cX9_hops 9 = .ok (.invokevirtual 340, 3)) ?_)
  refine sm_iconst (pc := 12) G hb (by decide +kernel : decode cX9_hops 12 = .ok (.iconst 1, 1)) (by decide) ?_
  refine sm_mono (cav_sub gI_sub) (sm_callV (pc := 13) (N := 32) (T := TX9) (C := RX9) G hb ho hy he hE.1 3 [0, 1, 2, 3, 4, 5, 6, 7, 8, 9, 10, 11, 12, 13, 14, 15, 16, 17] (kX9_fails hE N) (gCo_of (by decide +kernel)) (by rw [hR]; exact ⟨by decide, by decide⟩) rfl rfl (by decide +kernel) gw6_105 gw6_107 gw0_34 gw1_11 gw6_108 (by decide +kernel : decode cX9_hops 13 = .ok (.invokevirtual 87, 3)) ?_)
  refine sm_if_eq (pc := 16) (tgt := 21) G hb (by decide +kernel : decode cX9_hops 16 = .ok (.ifCond .eq 5, 3)) (by decide) ?_ ?_
  · skip
    refine sm_aload_n (pc := 21) G hb (by decide +kernel : decode cX9_hops 21 = .ok (.aload_n 0, 1)) rfl ?_
    refine sm_mono (cav_sub gV_sub) (sm_callV (pc := 22) (N := 32) (T := TX9) (C := RX9) G hb ho hy he hE.1 1 [0, 1, 2, 3, 4, 5, 6, 7, 8, 9, 10, 11, 12, 13, 14, 15, 16, 17] (kX9_layHops hE N) (gCo_of (by decide +kernel)) (by rw [hR]; exact ⟨by decide, by decide⟩) rfl rfl (by decide +kernel) gw7_139 gw7_141 gw0_73 gw1_11 gw7_142 (by decide +kernel : decode cX9_hops 22 = .ok (.invokevirtual 253, 3)) ?_)
    refine sm_mask ?_
    exact fX9_hops_s25 N G hb ho hy hR he hr hE
  · skip
    refine sm_iconst (pc := 19) G hb (by decide +kernel : decode cX9_hops 19 = .ok (.iconst 0, 1)) (by decide) ?_
    exact sm_iret (pc := 20) G hb (by decide +kernel : decode cX9_hops 20 = .ok (.ireturn, 1)) hr
theorem kX9_hops {ε : gE5} (hE : gEnv ε) (N : Nat) : gCtr ε yX9_hops cX9_hops 3 (some .int) 3 68 gyM (fX9_hops N) :=
  gCtr_of hE.1 (by decide) (fun γ G hb ho hy hR he hr => fX9_hops_s0 N G hb ho hy hR he hr hE)

set_option maxRecDepth 100000 in
set_option maxHeartbeats 4000000 in
theorem fX9_reach_s90 {γ : gG} {cs ss : Nat} {ε : gE5} (N : Nat) (G : gOK γ) (hb : gcc γ = cX9_reach) (ho : gow γ = RX9) (hy : gly γ = gyM) (hR : grm γ = { frames := 1, cells := 0, slots := 0, locals := 21 }) (he : genv γ = ε) (hr : grt γ = none) (hE : gEnv ε) (K9 : gK) (h9 : gSm γ cs ss 9 K9) (K17 : gK) (h17 : gSm γ cs ss 17 K17) : gSm γ cs ss 90 (fX9_reach_k90 N K9 K17) := by
  unfold fX9_reach_k90
  refine sm_iinc (pc := 90) G hb (by decide +kernel : decode cX9_reach 90 = .ok (.iinc 3 1, 3)) (by decide) ?_
  refine sm_goto (pc := 93) (tgt := 17) G hb (by decide +kernel : decode cX9_reach 93 = .ok (.goto (-76), 3)) (by decide) ?_
  refine sm_mask ?_
  exact h17
set_option maxRecDepth 100000 in
set_option maxHeartbeats 4000000 in
theorem fX9_reach_s17 {γ : gG} {cs ss : Nat} {ε : gE5} (N : Nat) (G : gOK γ) (hb : gcc γ = cX9_reach) (ho : gow γ = RX9) (hy : gly γ = gyM) (hR : grm γ = { frames := 1, cells := 0, slots := 0, locals := 21 }) (he : genv γ = ε) (hr : grt γ = none) (hE : gEnv ε) (K9 : gK) (h9 : gSm γ cs ss 9 K9) : gSm γ cs ss 17 (fX9_reach_k17 N K9) := by
  unfold fX9_reach_k17
  refine sm_lp (fun K17 h17 => ?_) N
  unfold fX9_reach_b17
  refine sm_iload_n (pc := 17) G hb (by decide +kernel : decode cX9_reach 17 = .ok (.iload_n 3, 1)) rfl ?_
  refine sm_bipush (pc := 18) G hb (by decide +kernel : decode cX9_reach 18 = .ok (.bipush 100, 2)) (by decide) ?_
  refine sm_icmp_ge (pc := 20) (tgt := 96) G hb (by decide +kernel : decode cX9_reach 20 = .ok (.if_icmp .ge 76, 3)) (by decide) ?_ ?_
  · skip
    refine sm_goto (pc := 96) (tgt := 9) G hb (by decide +kernel : decode cX9_reach 96 = .ok (.goto (-87), 3)) (by decide) ?_
    refine sm_mask ?_
    exact h9
  · skip
    refine sm_aload_n (pc := 23) G hb (by decide +kernel : decode cX9_reach 23 = .ok (.aload_n 0, 1)) rfl ?_
    refine sm_get (pc := 24) (ci := 9) (j := 29) (N := 32) (T := TX9) G hb ho hy rfl (by decide) gin_9 gw6_25 (by decide +kernel : decode cX9_reach 24 = .ok (.getfield 56, 3)) ?_
    refine sm_iload_n (pc := 27) G hb (by decide +kernel : decode cX9_reach 27 = .ok (.iload_n 3, 1)) rfl ?_
    refine sm_iald (pc := 28) G hb hy (by decide +kernel : decode cX9_reach 28 = .ok (.iaload, 1)) ?_
    refine sm_if_le (pc := 29) (tgt := 90) G hb (by decide +kernel : decode cX9_reach 29 = .ok (.ifCond .le 61, 3)) (by decide) ?_ ?_
    · skip
      refine sm_mask ?_
      exact fX9_reach_s90 N G hb ho hy hR he hr hE K9 h9 K17 h17
    · skip
      refine sm_aload_n (pc := 32) G hb (by decide +kernel : decode cX9_reach 32 = .ok (.aload_n 0, 1)) rfl ?_
      refine sm_get (pc := 33) (ci := 9) (j := 30) (N := 32) (T := TX9) G hb ho hy rfl (by decide) gin_9 gw6_26 (by decide +kernel : decode cX9_reach 33 = .ok (.getfield 389, 3)) ?_
      refine sm_iload_n (pc := 36) G hb (by decide +kernel : decode cX9_reach 36 = .ok (.iload_n 3, 1)) rfl ?_
      refine sm_bipush (pc := 37) G hb (by decide +kernel : decode cX9_reach 37 = .ok (.bipush 10, 2)) (by decide) ?_
      refine sm_idiv (pc := 39) G hb (by decide +kernel : decode cX9_reach 39 = .ok (.idiv, 1)) ?_
      refine sm_mono (ca_sub gI_sub) (sm_callS (pc := 40) G hb ho hy he hE.1 2 [] (kX9_has hE N) (gCo_of (by decide +kernel)) (by rw [hR]; exact ⟨by decide, by decide⟩) (by decide +kernel) gw6_187 gw6_188 gw1_11 gw6_189 (by decide +kernel : decode cX9_reach 40 = .ok (.invokestatic 170, 3)) ?_)
      refine sm_if_eq (pc := 43) (tgt := 90) G hb (by decide +kernel : decode cX9_reach 43 = .ok (.ifCond .eq 47, 3)) (by decide) ?_ ?_
      · skip
        refine sm_mask ?_
        exact fX9_reach_s90 N G hb ho hy hR he hr hE K9 h9 K17 h17
      · skip
        refine sm_aload_n (pc := 46) G hb (by decide +kernel : decode cX9_reach 46 = .ok (.aload_n 0, 1)) rfl ?_
        refine sm_get (pc := 47) (ci := 9) (j := 30) (N := 32) (T := TX9) G hb ho hy rfl (by decide) gin_9 gw6_26 (by decide +kernel : decode cX9_reach 47 = .ok (.getfield 389, 3)) ?_
        refine sm_iload_n (pc := 50) G hb (by decide +kernel : decode cX9_reach 50 = .ok (.iload_n 3, 1)) rfl ?_
        refine sm_bipush (pc := 51) G hb (by decide +kernel : decode cX9_reach 51 = .ok (.bipush 10, 2)) (by decide) ?_
        refine sm_irem (pc := 53) G hb (by decide +kernel : decode cX9_reach 53 = .ok (.irem, 1)) ?_
        refine sm_mono (ca_sub gI_sub) (sm_callS (pc := 54) G hb ho hy he hE.1 2 [] (kX9_has hE N) (gCo_of (by decide +kernel)) (by rw [hR]; exact ⟨by decide, by decide⟩) (by decide +kernel) gw6_187 gw6_188 gw1_11 gw6_189 (by decide +kernel : decode cX9_reach 54 = .ok (.invokestatic 170, 3)) ?_)
        refine sm_if_ne (pc := 57) (tgt := 90) G hb (by decide +kernel : decode cX9_reach 57 = .ok (.ifCond .ne 33, 3)) (by decide) ?_ ?_
        · skip
          refine sm_mask ?_
          exact fX9_reach_s90 N G hb ho hy hR he hr hE K9 h9 K17 h17
        · skip
          refine sm_aload_n (pc := 60) G hb (by decide +kernel : decode cX9_reach 60 = .ok (.aload_n 0, 1)) rfl ?_
          refine sm_dup (pc := 61) G hb (by decide +kernel : decode cX9_reach 61 = .ok (.dup, 1)) ?_
          refine sm_get (pc := 62) (ci := 9) (j := 30) (N := 32) (T := TX9) G hb ho hy rfl (by decide) gin_9 gw6_26 (by decide +kernel : decode cX9_reach 62 = .ok (.getfield 389, 3)) ?_
          refine sm_iconst (pc := 65) G hb (by decide +kernel : decode cX9_reach 65 = .ok (.iconst 1, 1)) (by decide) ?_
          refine sm_iload_n (pc := 66) G hb (by decide +kernel : decode cX9_reach 66 = .ok (.iload_n 3, 1)) rfl ?_
          refine sm_bipush (pc := 67) G hb (by decide +kernel : decode cX9_reach 67 = .ok (.bipush 10, 2)) (by decide) ?_
          refine sm_irem (pc := 69) G hb (by decide +kernel : decode cX9_reach 69 = .ok (.irem, 1)) ?_
          refine sm_ishl (pc := 70) G hb (by decide +kernel : decode cX9_reach 70 = .ok (.ishl, 1)) ?_
          refine sm_ior (pc := 71) G hb (by decide +kernel : decode cX9_reach 71 = .ok (.ior, 1)) ?_
          refine sm_put (pc := 72) (ci := 9) (j := 30) (N := 32) (T := TX9) G hb ho hy tyX9 tyX9_ok nmX9 rfl (by decide) gin_9 gw6_26 rfl rfl (by decide +kernel : decode cX9_reach 72 = .ok (.putfield 389, 3)) ?_
          refine sm_aload_n (pc := 75) G hb (by decide +kernel : decode cX9_reach 75 = .ok (.aload_n 0, 1)) rfl ?_
          refine sm_get (pc := 76) (ci := 9) (j := 31) (N := 32) (T := TX9) G hb ho hy rfl (by decide) gin_9 gw6_27 (by decide +kernel : decode cX9_reach 76 = .ok (.getfield 59, 3)) ?_
          refine sm_iload_n (pc := 79) G hb (by decide +kernel : decode cX9_reach 79 = .ok (.iload_n 3, 1)) rfl ?_
          refine sm_bipush (pc := 80) G hb (by decide +kernel : decode cX9_reach 80 = .ok (.bipush 10, 2)) (by decide) ?_
          refine sm_irem (pc := 82) G hb (by decide +kernel : decode cX9_reach 82 = .ok (.irem, 1)) ?_
          refine sm_iload_n (pc := 83) G hb (by decide +kernel : decode cX9_reach 83 = .ok (.iload_n 3, 1)) rfl ?_
          refine sm_bipush (pc := 84) G hb (by decide +kernel : decode cX9_reach 84 = .ok (.bipush 10, 2)) (by decide) ?_
          refine sm_idiv (pc := 86) G hb (by decide +kernel : decode cX9_reach 86 = .ok (.idiv, 1)) ?_
          refine sm_iast (pc := 87) G hb hy (by decide +kernel : decode cX9_reach 87 = .ok (.iastore, 1)) ?_
          refine sm_iconst (pc := 88) G hb (by decide +kernel : decode cX9_reach 88 = .ok (.iconst 1, 1)) (by decide) ?_
          refine sm_istore_n (pc := 89) G hb (by decide +kernel : decode cX9_reach 89 = .ok (.istore_n 2, 1)) rfl ?_
          refine sm_mask ?_
          exact fX9_reach_s90 N G hb ho hy hR he hr hE K9 h9 K17 h17
set_option maxRecDepth 100000 in
set_option maxHeartbeats 4000000 in
theorem fX9_reach_s9 {γ : gG} {cs ss : Nat} {ε : gE5} (N : Nat) (G : gOK γ) (hb : gcc γ = cX9_reach) (ho : gow γ = RX9) (hy : gly γ = gyM) (hR : grm γ = { frames := 1, cells := 0, slots := 0, locals := 21 }) (he : genv γ = ε) (hr : grt γ = none) (hE : gEnv ε) : gSm γ cs ss 9 (fX9_reach_k9 N) := by
  unfold fX9_reach_k9
  refine sm_lp (fun K9 h9 => ?_) N
  unfold fX9_reach_b9
  refine sm_iload_n (pc := 9) G hb (by decide +kernel : decode cX9_reach 9 = .ok (.iload_n 2, 1)) rfl ?_
  refine sm_if_eq (pc := 10) (tgt := 99) G hb (by decide +kernel : decode cX9_reach 10 = .ok (.ifCond .eq 89, 3)) (by decide) ?_ ?_
  · skip
    exact sm_vret (pc := 99) G hb (by decide +kernel : decode cX9_reach 99 = .ok (.return_, 1)) hr
  · skip
    refine sm_iconst (pc := 13) G hb (by decide +kernel : decode cX9_reach 13 = .ok (.iconst 0, 1)) (by decide) ?_
    refine sm_istore_n (pc := 14) G hb (by decide +kernel : decode cX9_reach 14 = .ok (.istore_n 2, 1)) rfl ?_
    refine sm_iconst (pc := 15) G hb (by decide +kernel : decode cX9_reach 15 = .ok (.iconst 0, 1)) (by decide) ?_
    refine sm_istore_n (pc := 16) G hb (by decide +kernel : decode cX9_reach 16 = .ok (.istore_n 3, 1)) rfl ?_
    refine sm_mask ?_
    exact fX9_reach_s17 N G hb ho hy hR he hr hE K9 h9
set_option maxRecDepth 100000 in
set_option maxHeartbeats 4000000 in
theorem fX9_reach_s0 {γ : gG} {cs ss : Nat} {ε : gE5} (N : Nat) (G : gOK γ) (hb : gcc γ = cX9_reach) (ho : gow γ = RX9) (hy : gly γ = gyM) (hR : grm γ = { frames := 1, cells := 0, slots := 0, locals := 21 }) (he : genv γ = ε) (hr : grt γ = none) (hE : gEnv ε) : gSm γ cs ss 0 (fX9_reach_k0 N) := by
  unfold fX9_reach_k0
  refine sm_aload_n (pc := 0) G hb (by decide +kernel : decode cX9_reach 0 = .ok (.aload_n 0, 1)) rfl ?_
  refine sm_iconst (pc := 1) G hb (by decide +kernel : decode cX9_reach 1 = .ok (.iconst 1, 1)) (by decide) ?_
  refine sm_iload_n (pc := 2) G hb (by decide +kernel : decode cX9_reach 2 = .ok (.iload_n 1, 1)) rfl ?_
  refine sm_ishl (pc := 3) G hb (by decide +kernel : decode cX9_reach 3 = .ok (.ishl, 1)) ?_
  refine sm_put (pc := 4) (ci := 9) (j := 30) (N := 32) (T := TX9) G hb ho hy tyX9 tyX9_ok nmX9 rfl (by decide) gin_9 gw6_26 rfl rfl (by decide +kernel : decode cX9_reach 4 = .ok (.putfield 389, 3)) ?_
  refine sm_iconst (pc := 7) G hb (by decide +kernel : decode cX9_reach 7 = .ok (.iconst 1, 1)) (by decide) ?_
  refine sm_istore_n (pc := 8) G hb (by decide +kernel : decode cX9_reach 8 = .ok (.istore_n 2, 1)) rfl ?_
  refine sm_mask ?_
  exact fX9_reach_s9 N G hb ho hy hR he hr hE
theorem kX9_reach {ε : gE5} (hE : gEnv ε) (N : Nat) : gCtr ε yX9_reach cX9_reach 4 none 1 21 gyM (fX9_reach N) :=
  gCtr_of hE.1 (by decide) (fun γ G hb ho hy hR he hr => fX9_reach_s0 N G hb ho hy hR he hr hE)

set_option maxRecDepth 100000 in
set_option maxHeartbeats 4000000 in
theorem fX9_greatestFlow_s87 {γ : gG} {cs ss : Nat} {ε : gE5} (N : Nat) (G : gOK γ) (hb : gcc γ = cX9_greatestFlow) (ho : gow γ = RX9) (hy : gly γ = gyM) (hR : grm γ = { frames := 2, cells := 0, slots := 0, locals := 44 }) (he : genv γ = ε) (hr : grt γ = (some .int)) (hE : gEnv ε) (K73 : gK) (h73 : gSm γ cs ss 73 K73) : gSm γ cs ss 87 (fX9_greatestFlow_k87 N K73) := by
  unfold fX9_greatestFlow_k87
  refine sm_lp (fun K87 h87 => ?_) N
  unfold fX9_greatestFlow_b87
  refine sm_iload (pc := 87) G hb (by decide +kernel : decode cX9_greatestFlow 87 = .ok (.iload 4, 2)) ?_
  refine sm_iload_n (pc := 89) G hb (by decide +kernel : decode cX9_greatestFlow 89 = .ok (.iload_n 1, 1)) rfl ?_
  refine sm_icmp_eq (pc := 90) (tgt := 149) G hb (by decide +kernel : decode cX9_greatestFlow 90 = .ok (.if_icmp .eq 59, 3)) (by decide) ?_ ?_
  · skip
    refine sm_iinc (pc := 149) G hb (by decide +kernel : decode cX9_greatestFlow 149 = .ok (.iinc 3 1, 3)) (by decide) ?_
    refine sm_aload_n (pc := 152) G hb (by decide +kernel : decode cX9_greatestFlow 152 = .ok (.aload_n 0, 1)) rfl ?_
    refine sm_iload_n (pc := 153) G hb (by decide +kernel : decode cX9_greatestFlow 153 = .ok (.iload_n 1, 1)) rfl ?_
    refine sm_mono (cav_sub gV_sub) (sm_callV (pc := 154) (N := 32) (T := TX9) (C := RX9) G hb ho hy he hE.1 2 [0, 1, 2, 3, 4, 5, 6, 7, 8, 9, 10, 11, 12, 13, 14, 15, 16, 17] (kX9_reach hE N) (gCo_of (by decide +kernel)) (by rw [hR]; exact ⟨by decide, by decide⟩) rfl rfl (by decide +kernel) gw7_227 gw7_229 gw0_88 gw1_11 gw7_230 (by decide +kernel : decode cX9_greatestFlow 154 = .ok (.invokevirtual 392, 3)) ?_)
    refine sm_goto (pc := 157) (tgt := 73) G hb (by decide +kernel : decode cX9_greatestFlow 157 = .ok (.goto (-84), 3)) (by decide) ?_
    refine sm_mask ?_
    exact h73
  · skip
    refine sm_aload_n (pc := 93) G hb (by decide +kernel : decode cX9_greatestFlow 93 = .ok (.aload_n 0, 1)) rfl ?_
    refine sm_get (pc := 94) (ci := 9) (j := 29) (N := 32) (T := TX9) G hb ho hy rfl (by decide) gin_9 gw6_25 (by decide +kernel : decode cX9_greatestFlow 94 = .ok (.getfield 56, 3)) ?_
    refine sm_bipush (pc := 97) G hb (by decide +kernel : decode cX9_greatestFlow 97 = .ok (.bipush 10, 2)) (by decide) ?_
    refine sm_aload_n (pc := 99) G hb (by decide +kernel : decode cX9_greatestFlow 99 = .ok (.aload_n 0, 1)) rfl ?_
    refine sm_get (pc := 100) (ci := 9) (j := 31) (N := 32) (T := TX9) G hb ho hy rfl (by decide) gin_9 gw6_27 (by decide +kernel : decode cX9_greatestFlow 100 = .ok (.getfield 59, 3)) ?_
    refine sm_iload (pc := 103) G hb (by decide +kernel : decode cX9_greatestFlow 103 = .ok (.iload 4, 2)) ?_
    refine sm_iald (pc := 105) G hb hy (by decide +kernel : decode cX9_greatestFlow 105 = .ok (.iaload, 1)) ?_
    refine sm_imul (pc := 106) G hb (by decide +kernel : decode cX9_greatestFlow 106 = .ok (.imul, 1)) ?_
    refine sm_iload (pc := 107) G hb (by decide +kernel : decode cX9_greatestFlow 107 = .ok (.iload 4, 2)) ?_
    refine sm_iadd (pc := 109) G hb (by decide +kernel : decode cX9_greatestFlow 109 = .ok (.iadd, 1)) ?_
    refine sm_dup2 (pc := 110) G hb (by decide +kernel : decode cX9_greatestFlow 110 = .ok (.dup2, 1)) ?_
    refine sm_iald (pc := 111) G hb hy (by decide +kernel : decode cX9_greatestFlow 111 = .ok (.iaload, 1)) ?_
    refine sm_iconst (pc := 112) G hb (by decide +kernel : decode cX9_greatestFlow 112 = .ok (.iconst 1, 1)) (by decide) ?_
    refine sm_isub (pc := 113) G hb (by decide +kernel : decode cX9_greatestFlow 113 = .ok (.isub, 1)) ?_
    refine sm_iast (pc := 114) G hb hy (by decide +kernel : decode cX9_greatestFlow 114 = .ok (.iastore, 1)) ?_
    refine sm_aload_n (pc := 115) G hb (by decide +kernel : decode cX9_greatestFlow 115 = .ok (.aload_n 0, 1)) rfl ?_
    refine sm_get (pc := 116) (ci := 9) (j := 29) (N := 32) (T := TX9) G hb ho hy rfl (by decide) gin_9 gw6_25 (by decide +kernel : decode cX9_greatestFlow 116 = .ok (.getfield 56, 3)) ?_
    refine sm_bipush (pc := 119) G hb (by decide +kernel : decode cX9_greatestFlow 119 = .ok (.bipush 10, 2)) (by decide) ?_
    refine sm_iload (pc := 121) G hb (by decide +kernel : decode cX9_greatestFlow 121 = .ok (.iload 4, 2)) ?_
    refine sm_imul (pc := 123) G hb (by decide +kernel : decode cX9_greatestFlow 123 = .ok (.imul, 1)) ?_
    refine sm_aload_n (pc := 124) G hb (by decide +kernel : decode cX9_greatestFlow 124 = .ok (.aload_n 0, 1)) rfl ?_
    refine sm_get (pc := 125) (ci := 9) (j := 31) (N := 32) (T := TX9) G hb ho hy rfl (by decide) gin_9 gw6_27 (by decide +kernel : decode cX9_greatestFlow 125 = .ok (.getfield 59, 3)) ?_
    refine sm_iload (pc := 128) G hb (by decide +kernel : decode cX9_greatestFlow 128 = .ok (.iload 4, 2)) ?_
    refine sm_iald (pc := 130) G hb hy (by decide +kernel : decode cX9_greatestFlow 130 = .ok (.iaload, 1)) ?_
    refine sm_iadd (pc := 131) G hb (by decide +kernel : decode cX9_greatestFlow 131 = .ok (.iadd, 1)) ?_
    refine sm_dup2 (pc := 132) G hb (by decide +kernel : decode cX9_greatestFlow 132 = .ok (.dup2, 1)) ?_
    refine sm_iald (pc := 133) G hb hy (by decide +kernel : decode cX9_greatestFlow 133 = .ok (.iaload, 1)) ?_
    refine sm_iconst (pc := 134) G hb (by decide +kernel : decode cX9_greatestFlow 134 = .ok (.iconst 1, 1)) (by decide) ?_
    refine sm_iadd (pc := 135) G hb (by decide +kernel : decode cX9_greatestFlow 135 = .ok (.iadd, 1)) ?_
    refine sm_iast (pc := 136) G hb hy (by decide +kernel : decode cX9_greatestFlow 136 = .ok (.iastore, 1)) ?_
    refine sm_aload_n (pc := 137) G hb (by decide +kernel : decode cX9_greatestFlow 137 = .ok (.aload_n 0, 1)) rfl ?_
    refine sm_get (pc := 138) (ci := 9) (j := 31) (N := 32) (T := TX9) G hb ho hy rfl (by decide) gin_9 gw6_27 (by decide +kernel : decode cX9_greatestFlow 138 = .ok (.getfield 59, 3)) ?_
    refine sm_iload (pc := 141) G hb (by decide +kernel : decode cX9_greatestFlow 141 = .ok (.iload 4, 2)) ?_
    refine sm_iald (pc := 143) G hb hy (by decide +kernel : decode cX9_greatestFlow 143 = .ok (.iaload, 1)) ?_
    refine sm_istore (pc := 144) G hb (by decide +kernel : decode cX9_greatestFlow 144 = .ok (.istore 4, 2)) ?_
    refine sm_goto (pc := 146) (tgt := 87) G hb (by decide +kernel : decode cX9_greatestFlow 146 = .ok (.goto (-59), 3)) (by decide) ?_
    refine sm_mask ?_
    exact h87
set_option maxRecDepth 100000 in
set_option maxHeartbeats 4000000 in
theorem fX9_greatestFlow_s73 {γ : gG} {cs ss : Nat} {ε : gE5} (N : Nat) (G : gOK γ) (hb : gcc γ = cX9_greatestFlow) (ho : gow γ = RX9) (hy : gly γ = gyM) (hR : grm γ = { frames := 2, cells := 0, slots := 0, locals := 44 }) (he : genv γ = ε) (hr : grt γ = (some .int)) (hE : gEnv ε) : gSm γ cs ss 73 (fX9_greatestFlow_k73 N) := by
  unfold fX9_greatestFlow_k73
  refine sm_lp (fun K73 h73 => ?_) N
  unfold fX9_greatestFlow_b73
  refine sm_aload_n (pc := 73) G hb (by decide +kernel : decode cX9_greatestFlow 73 = .ok (.aload_n 0, 1)) rfl ?_
  refine sm_get (pc := 74) (ci := 9) (j := 30) (N := 32) (T := TX9) G hb ho hy rfl (by decide) gin_9 gw6_26 (by decide +kernel : decode cX9_greatestFlow 74 = .ok (.getfield 389, 3)) ?_
  refine sm_iload_n (pc := 77) G hb (by decide +kernel : decode cX9_greatestFlow 77 = .ok (.iload_n 2, 1)) rfl ?_
  refine sm_mono (ca_sub gI_sub) (sm_callS (pc := 78) G hb ho hy he hE.1 2 [] (kX9_has hE N) (gCo_of (by decide +kernel)) (by rw [hR]; exact ⟨by decide, by decide⟩) (by decide +kernel) gw6_187 gw6_188 gw1_11 gw6_189 (by decide +kernel : decode cX9_greatestFlow 78 = .ok (.invokestatic 170, 3)) ?_)
  refine sm_if_eq (pc := 81) (tgt := 160) G hb (by decide +kernel : decode cX9_greatestFlow 81 = .ok (.ifCond .eq 79, 3)) (by decide) ?_ ?_
  · skip
    refine sm_iload_n (pc := 160) G hb (by decide +kernel : decode cX9_greatestFlow 160 = .ok (.iload_n 3, 1)) rfl ?_
    exact sm_iret (pc := 161) G hb (by decide +kernel : decode cX9_greatestFlow 161 = .ok (.ireturn, 1)) hr
  · skip
    refine sm_iload_n (pc := 84) G hb (by decide +kernel : decode cX9_greatestFlow 84 = .ok (.iload_n 2, 1)) rfl ?_
    refine sm_istore (pc := 85) G hb (by decide +kernel : decode cX9_greatestFlow 85 = .ok (.istore 4, 2)) ?_
    refine sm_mask ?_
    exact fX9_greatestFlow_s87 N G hb ho hy hR he hr hE K73 h73
set_option maxRecDepth 100000 in
set_option maxHeartbeats 4000000 in
theorem fX9_greatestFlow_s59 {γ : gG} {cs ss : Nat} {ε : gE5} (N : Nat) (G : gOK γ) (hb : gcc γ = cX9_greatestFlow) (ho : gow γ = RX9) (hy : gly γ = gyM) (hR : grm γ = { frames := 2, cells := 0, slots := 0, locals := 44 }) (he : genv γ = ε) (hr : grt γ = (some .int)) (hE : gEnv ε) (K23 : gK) (h23 : gSm γ cs ss 23 K23) : gSm γ cs ss 59 (fX9_greatestFlow_k59 N K23) := by
  unfold fX9_greatestFlow_k59
  refine sm_iast (pc := 59) G hb hy (by decide +kernel : decode cX9_greatestFlow 59 = .ok (.iastore, 1)) ?_
  refine sm_iinc (pc := 60) G hb (by decide +kernel : decode cX9_greatestFlow 60 = .ok (.iinc 3 1, 3)) (by decide) ?_
  refine sm_goto (pc := 63) (tgt := 23) G hb (by decide +kernel : decode cX9_greatestFlow 63 = .ok (.goto (-40), 3)) (by decide) ?_
  refine sm_mask ?_
  exact h23
set_option maxRecDepth 100000 in
set_option maxHeartbeats 4000000 in
theorem fX9_greatestFlow_s23 {γ : gG} {cs ss : Nat} {ε : gE5} (N : Nat) (G : gOK γ) (hb : gcc γ = cX9_greatestFlow) (ho : gow γ = RX9) (hy : gly γ = gyM) (hR : grm γ = { frames := 2, cells := 0, slots := 0, locals := 44 }) (he : genv γ = ε) (hr : grt γ = (some .int)) (hE : gEnv ε) : gSm γ cs ss 23 (fX9_greatestFlow_k23 N) := by
  unfold fX9_greatestFlow_k23
  refine sm_lp (fun K23 h23 => ?_) N
  unfold fX9_greatestFlow_b23
  refine sm_iload_n (pc := 23) G hb (by decide +kernel : decode cX9_greatestFlow 23 = .ok (.iload_n 3, 1)) rfl ?_
  refine sm_aload_n (pc := 24) G hb (by decide +kernel : decode cX9_greatestFlow 24 = .ok (.aload_n 0, 1)) rfl ?_
  refine sm_get (pc := 25) (ci := 9) (j := 9) (N := 32) (T := TX9) G hb ho hy rfl (by decide) gin_9 gw6_5 (by decide +kernel : decode cX9_greatestFlow 25 = .ok (.getfield 16, 3)) ?_
  refine sm_iconst (pc := 28) G hb (by decide +kernel : decode cX9_greatestFlow 28 = .ok (.iconst 1, 1)) (by decide) ?_
  refine sm_iald (pc := 29) G hb hy (by decide +kernel : decode cX9_greatestFlow 29 = .ok (.iaload, 1)) ?_
  refine sm_icmp_ge (pc := 30) (tgt := 66) G hb (by decide +kernel : decode cX9_greatestFlow 30 = .ok (.if_icmp .ge 36, 3)) (by decide) ?_ ?_
  · skip
    refine sm_iconst (pc := 66) G hb (by decide +kernel : decode cX9_greatestFlow 66 = .ok (.iconst 0, 1)) (by decide) ?_
    refine sm_istore_n (pc := 67) G hb (by decide +kernel : decode cX9_greatestFlow 67 = .ok (.istore_n 3, 1)) rfl ?_
    refine sm_aload_n (pc := 68) G hb (by decide +kernel : decode cX9_greatestFlow 68 = .ok (.aload_n 0, 1)) rfl ?_
    refine sm_iload_n (pc := 69) G hb (by decide +kernel : decode cX9_greatestFlow 69 = .ok (.iload_n 1, 1)) rfl ?_
    refine sm_mono (cav_sub gV_sub) (sm_callV (pc := 70) (N := 32) (T := TX9) (C := RX9) G hb ho hy he hE.1 2 [0, 1, 2, 3, 4, 5, 6, 7, 8, 9, 10, 11, 12, 13, 14, 15, 16, 17] (kX9_reach hE N) (gCo_of (by decide +kernel)) (by rw [hR]; exact ⟨by decide, by decide⟩) rfl rfl (by decide +kernel) gw7_227 gw7_229 gw0_88 gw1_11 gw7_230 (by decide +kernel : decode cX9_greatestFlow 70 = .ok (.invokevirtual 392, 3)) ?_)
    refine sm_mask ?_
    exact fX9_greatestFlow_s73 N G hb ho hy hR he hr hE
  · skip
    refine sm_aload_n (pc := 33) G hb (by decide +kernel : decode cX9_greatestFlow 33 = .ok (.aload_n 0, 1)) rfl ?_
    refine sm_get (pc := 34) (ci := 9) (j := 29) (N := 32) (T := TX9) G hb ho hy rfl (by decide) gin_9 gw6_25 (by decide +kernel : decode cX9_greatestFlow 34 = .ok (.getfield 56, 3)) ?_
    refine sm_bipush (pc := 37) G hb (by decide +kernel : decode cX9_greatestFlow 37 = .ok (.bipush 10, 2)) (by decide) ?_
    refine sm_aload_n (pc := 39) G hb (by decide +kernel : decode cX9_greatestFlow 39 = .ok (.aload_n 0, 1)) rfl ?_
    refine sm_iload_n (pc := 40) G hb (by decide +kernel : decode cX9_greatestFlow 40 = .ok (.iload_n 3, 1)) rfl ?_
    refine sm_iconst (pc := 41) G hb (by decide +kernel : decode cX9_greatestFlow 41 = .ok (.iconst 0, 1)) (by decide) ?_
    refine sm_mono (cav_sub gI_sub) (sm_callV (pc := 42) (N := 32) (T := TX9) (C := RX9) G hb ho hy he hE.1 3 [0, 1, 2, 3, 4, 5, 6, 7, 8, 9, 10, 11, 12, 13, 14, 15, 16, 17] (kX9_linkPart hE N) (gCo_of (by decide +kernel)) (by rw [hR]; exact ⟨by decide, by decide⟩) rfl rfl (by decide +kernel) gw7_143 gw7_145 gw0_74 gw1_11 gw7_146 (by decide +kernel : decode cX9_greatestFlow 42 = .ok (.invokevirtual 250, 3)) ?_)
    refine sm_imul (pc := 45) G hb (by decide +kernel : decode cX9_greatestFlow 45 = .ok (.imul, 1)) ?_
    refine sm_aload_n (pc := 46) G hb (by decide +kernel : decode cX9_greatestFlow 46 = .ok (.aload_n 0, 1)) rfl ?_
    refine sm_iload_n (pc := 47) G hb (by decide +kernel : decode cX9_greatestFlow 47 = .ok (.iload_n 3, 1)) rfl ?_
    refine sm_iconst (pc := 48) G hb (by decide +kernel : decode cX9_greatestFlow 48 = .ok (.iconst 1, 1)) (by decide) ?_
    refine sm_mono (cav_sub gI_sub) (sm_callV (pc := 49) (N := 32) (T := TX9) (C := RX9) G hb ho hy he hE.1 3 [0, 1, 2, 3, 4, 5, 6, 7, 8, 9, 10, 11, 12, 13, 14, 15, 16, 17] (kX9_linkPart hE N) (gCo_of (by decide +kernel)) (by rw [hR]; exact ⟨by decide, by decide⟩) rfl rfl (by decide +kernel) gw7_143 gw7_145 gw0_74 gw1_11 gw7_146 (by decide +kernel : decode cX9_greatestFlow 49 = .ok (.invokevirtual 250, 3)) ?_)
    refine sm_iadd (pc := 52) G hb (by decide +kernel : decode cX9_greatestFlow 52 = .ok (.iadd, 1)) ?_
    refine sm_aload_n (pc := 53) G hb (by decide +kernel : decode cX9_greatestFlow 53 = .ok (.aload_n 0, 1)) rfl ?_
    refine sm_iload_n (pc := 54) G hb (by decide +kernel : decode cX9_greatestFlow 54 = .ok (.iload_n 3, 1)) rfl ?_
    refine sm_iconst (pc := 55) G hb (by decide +kernel : decode cX9_greatestFlow 55 = .ok (.iconst 2, 1)) (by decide) ?_
    refine sm_mono (cav_sub gI_sub) (sm_callV (pc := 56) (N := 32) (T := TX9) (C := RX9) G hb ho hy he hE.1 3 [0, 1, 2, 3, 4, 5, 6, 7, 8, 9, 10, 11, 12, 13, 14, 15, 16, 17] (kX9_linkPart hE N) (gCo_of (by decide +kernel)) (by rw [hR]; exact ⟨by decide, by decide⟩) rfl rfl (by decide +kernel) gw7_143 gw7_145 gw0_74 gw1_11 gw7_146 (by decide +kernel : decode cX9_greatestFlow 56 = .ok (.invokevirtual 250, 3)) ?_)
    refine sm_mask ?_
    exact fX9_greatestFlow_s59 N G hb ho hy hR he hr hE K23 h23
set_option maxRecDepth 100000 in
set_option maxHeartbeats 4000000 in
theorem fX9_greatestFlow_s2 {γ : gG} {cs ss : Nat} {ε : gE5} (N : Nat) (G : gOK γ) (hb : gcc γ = cX9_greatestFlow) (ho : gow γ = RX9) (hy : gly γ = gyM) (hR : grm γ = { frames := 2, cells := 0, slots := 0, locals := 44 }) (he : genv γ = ε) (hr : grt γ = (some .int)) (hE : gEnv ε) : gSm γ cs ss 2 (fX9_greatestFlow_k2 N) := by
  unfold fX9_greatestFlow_k2
  refine sm_lp (fun K2 h2 => ?_) N
  unfold fX9_greatestFlow_b2
  refine sm_iload_n (pc := 2) G hb (by decide +kernel : decode cX9_greatestFlow 2 = .ok (.iload_n 3, 1)) rfl ?_
  refine sm_bipush (pc := 3) G hb (by decide +kernel : decode cX9_greatestFlow 3 = .ok (.bipush 100, 2)) (by decide) ?_
  refine sm_icmp_ge (pc := 5) (tgt := 21) G hb (by decide +kernel : decode cX9_greatestFlow 5 = .ok (.if_icmp .ge 16, 3)) (by decide) ?_ ?_
  · skip
    refine sm_iconst (pc := 21) G hb (by decide +kernel : decode cX9_greatestFlow 21 = .ok (.iconst 0, 1)) (by decide) ?_
    refine sm_istore_n (pc := 22) G hb (by decide +kernel : decode cX9_greatestFlow 22 = .ok (.istore_n 3, 1)) rfl ?_
    refine sm_mask ?_
    exact fX9_greatestFlow_s23 N G hb ho hy hR he hr hE
  · skip
    refine sm_aload_n (pc := 8) G hb (by decide +kernel : decode cX9_greatestFlow 8 = .ok (.aload_n 0, 1)) rfl ?_
    refine sm_get (pc := 9) (ci := 9) (j := 29) (N := 32) (T := TX9) G hb ho hy rfl (by decide) gin_9 gw6_25 (by decide +kernel : decode cX9_greatestFlow 9 = .ok (.getfield 56, 3)) ?_
    refine sm_iload_n (pc := 12) G hb (by decide +kernel : decode cX9_greatestFlow 12 = .ok (.iload_n 3, 1)) rfl ?_
    refine sm_iconst (pc := 13) G hb (by decide +kernel : decode cX9_greatestFlow 13 = .ok (.iconst 0, 1)) (by decide) ?_
    refine sm_iast (pc := 14) G hb hy (by decide +kernel : decode cX9_greatestFlow 14 = .ok (.iastore, 1)) ?_
    refine sm_iinc (pc := 15) G hb (by decide +kernel : decode cX9_greatestFlow 15 = .ok (.iinc 3 1, 3)) (by decide) ?_
    refine sm_goto (pc := 18) (tgt := 2) G hb (by decide +kernel : decode cX9_greatestFlow 18 = .ok (.goto (-16), 3)) (by decide) ?_
    refine sm_mask ?_
    exact h2
set_option maxRecDepth 100000 in
set_option maxHeartbeats 4000000 in
theorem fX9_greatestFlow_s0 {γ : gG} {cs ss : Nat} {ε : gE5} (N : Nat) (G : gOK γ) (hb : gcc γ = cX9_greatestFlow) (ho : gow γ = RX9) (hy : gly γ = gyM) (hR : grm γ = { frames := 2, cells := 0, slots := 0, locals := 44 }) (he : genv γ = ε) (hr : grt γ = (some .int)) (hE : gEnv ε) : gSm γ cs ss 0 (fX9_greatestFlow_k0 N) := by
  unfold fX9_greatestFlow_k0
  refine sm_iconst (pc := 0) G hb (by decide +kernel : decode cX9_greatestFlow 0 = .ok (.iconst 0, 1)) (by decide) ?_
  refine sm_istore_n (pc := 1) G hb (by decide +kernel : decode cX9_greatestFlow 1 = .ok (.istore_n 3, 1)) rfl ?_
  refine sm_mask ?_
  exact fX9_greatestFlow_s2 N G hb ho hy hR he hr hE
theorem kX9_greatestFlow {ε : gE5} (hE : gEnv ε) (N : Nat) : gCtr ε yX9_greatestFlow cX9_greatestFlow 5 (some .int) 2 44 gyM (fX9_greatestFlow N) :=
  gCtr_of hE.1 (by decide) (fun γ G hb ho hy hR he hr => fX9_greatestFlow_s0 N G hb ho hy hR he hr hE)
