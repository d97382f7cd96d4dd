set_option maxRecDepth 100000 in
set_option maxHeartbeats 4000000 in
theorem fX9_linkStatement_s61 {γ : gG} {cs ss : Nat} {ε : gE5} (N : Nat) (G : gOK γ) (hb : gcc γ = cX9_linkStatement) (ho : gow γ = RX9) (hy : gly γ = gyM) (hR : grm γ = { frames := 4, cells := 0, slots := 0, locals := 93 }) (he : genv γ = ε) (hr : grt γ = none) (hE : gEnv ε) : gSm γ cs ss 61 (fX9_linkStatement_k61 N) := by
  unfold fX9_linkStatement_k61
  refine sm_aload_n (pc := 61) G hb (by decide +kernel : decode cX9_linkStatement 61 = .ok (.aload_n 0, 1)) rfl ?_
  refine sm_iconst (pc := 62) G hb (by decide +kernel : decode cX9_linkStatement 62 = .ok (.iconst 0, 1)) (by decide) ?_
  refine sm_aload_n (pc := 63) G hb (by decide +kernel : decode cX9_linkStatement 63 = .ok (.aload_n 0, 1)) rfl ?_
  refine sm_get (pc := 64) (ci := 9) (j := 8) (N := 32) (T := TX9) G hb ho hy rfl (by decide) gin_9 gw6_4 (by decide +kernel : decode cX9_linkStatement 64 = .ok (.getfield 13, 3)) ?_
  refine sm_iconst (pc := 67) G hb (by decide +kernel : decode cX9_linkStatement 67 = .ok (.iconst 0, 1)) (by decide) ?_
  refine sm_iald (pc := 68) G hb hy (by decide +kernel : decode cX9_linkStatement 68 = .ok (.iaload, 1)) ?_
  refine sm_iconst (pc := 69) G hb (by decide +kernel : decode cX9_linkStatement 69 = .ok (.iconst 1, 1)) (by decide) ?_
  refine sm_isub (pc := 70) G hb (by decide +kernel : decode cX9_linkStatement 70 = .ok (.isub, 1)) ?_
  refine sm_iload_n (pc := 71) G hb (by decide +kernel : decode cX9_linkStatement 71 = .ok (.iload_n 1, 1)) rfl ?_
  refine sm_mono (cav_sub gI_sub) (sm_callV (pc := 72) (N := 32) (T := TX9) (C := RX9) G hb ho hy he hE.1 4 [0, 1, 2, 3, 4, 5, 6, 7, 8, 9, 10, 11, 12, 13, 14, 15, 16, 17] (kX9_takeOther hE N) (gCo_of (by decide +kernel)) (by rw [hR]; exact ⟨by decide, by decide⟩) rfl rfl (by decide +kernel) gw6_178 gw6_180 gw0_46 gw1_11 gw6_181 (by decide +kernel : decode cX9_linkStatement 72 = .ok (.invokevirtual 166, 3)) ?_)
  refine sm_istore_n (pc := 75) G hb (by decide +kernel : decode cX9_linkStatement 75 = .ok (.istore_n 2, 1)) rfl ?_
  refine sm_aload_n (pc := 76) G hb (by decide +kernel : decode cX9_linkStatement 76 = .ok (.aload_n 0, 1)) rfl ?_
  refine sm_get (pc := 77) (ci := 9) (j := 8) (N := 32) (T := TX9) G hb ho hy rfl (by decide) gin_9 gw6_4 (by decide +kernel : decode cX9_linkStatement 77 = .ok (.getfield 13, 3)) ?_
  refine sm_iload_n (pc := 80) G hb (by decide +kernel : decode cX9_linkStatement 80 = .ok (.iload_n 1, 1)) rfl ?_
  refine sm_iload_n (pc := 81) G hb (by decide +kernel : decode cX9_linkStatement 81 = .ok (.iload_n 2, 1)) rfl ?_
  refine sm_aload_n (pc := 82) G hb (by decide +kernel : decode cX9_linkStatement 82 = .ok (.aload_n 0, 1)) rfl ?_
  refine sm_iconst (pc := 83) G hb (by decide +kernel : decode cX9_linkStatement 83 = .ok (.iconst 1, 1)) (by decide) ?_
  refine sm_iconst (pc := 84) G hb (by decide +kernel : decode cX9_linkStatement 84 = .ok (.iconst 5, 1)) (by decide) ?_
  refine sm_mono (cav_sub gI_sub) (sm_callV (pc := 85) (N := 32) (T := TX9) (C := RX9) G hb ho hy he hE.1 3 [0, 1, 2, 3, 4, 5, 6, 7, 8, 9, 10, 11, 12, 13, 14, 15, 16, 17] (kX9_takeNumber hE N) (gCo_of (by decide +kernel)) (by rw [hR]; exact ⟨by decide, by decide⟩) rfl rfl (by decide +kernel) gw6_150 gw6_152 gw0_40 gw1_11 gw6_153 (by decide +kernel : decode cX9_linkStatement 85 = .ok (.invokevirtual 156, 3)) ?_)
  refine sm_mono (ca_sub gV_sub) (sm_callS (pc := 88) G hb ho hy he hE.1 4 [2] (kX9_layLink hE N) (gCo_of (by decide +kernel)) (by rw [hR]; exact ⟨by decide, by decide⟩) (by decide +kernel) gw5_223 gw5_224 gw1_11 gw5_225 (by decide +kernel : decode cX9_linkStatement 88 = .ok (.invokestatic 65, 3)) ?_)
  exact sm_vret (pc := 91) G hb (by decide +kernel : decode cX9_linkStatement 91 = .ok (.return_, 1)) hr
set_option maxRecDepth 100000 in
set_option maxHeartbeats 4000000 in
theorem fX9_linkStatement_s24 {γ : gG} {cs ss : Nat} {ε : gE5} (N : Nat) (G : gOK γ) (hb : gcc γ = cX9_linkStatement) (ho : gow γ = RX9) (hy : gly γ = gyM) (hR : grm γ = { frames := 4, cells := 0, slots := 0, locals := 93 }) (he : genv γ = ε) (hr : grt γ = none) (hE : gEnv ε) : gSm γ cs ss 24 (fX9_linkStatement_k24 N) := by
  unfold fX9_linkStatement_k24
  refine sm_istore_n (pc := 24) G hb (by decide +kernel : decode cX9_linkStatement 24 = .ok (.istore_n 1, 1)) rfl ?_
  refine sm_aload_n (pc := 25) G hb (by decide +kernel : decode cX9_linkStatement 25 = .ok (.aload_n 0, 1)) rfl ?_
  refine sm_iconst (pc := 26) G hb (by decide +kernel : decode cX9_linkStatement 26 = .ok (.iconst 0, 1)) (by decide) ?_
  refine sm_aload_n (pc := 27) G hb (by decide +kernel : decode cX9_linkStatement 27 = .ok (.aload_n 0, 1)) rfl ?_
  refine sm_get (pc := 28) (ci := 9) (j := 8) (N := 32) (T := TX9) G hb ho hy rfl (by decide) gin_9 gw6_4 (by decide +kernel : decode cX9_linkStatement 28 = .ok (.getfield 13, 3)) ?_
  refine sm_iconst (pc := 31) G hb (by decide +kernel : decode cX9_linkStatement 31 = .ok (.iconst 0, 1)) (by decide) ?_
  refine sm_iald (pc := 32) G hb hy (by decide +kernel : decode cX9_linkStatement 32 = .ok (.iaload, 1)) ?_
  refine sm_iconst (pc := 33) G hb (by decide +kernel : decode cX9_linkStatement 33 = .ok (.iconst 1, 1)) (by decide) ?_
  refine sm_isub (pc := 34) G hb (by decide +kernel : decode cX9_linkStatement 34 = .ok (.isub, 1)) ?_
  refine sm_mono (cav_sub gI_sub) (sm_callV (pc := 35) (N := 32) (T := TX9) (C := RX9) G hb ho hy he hE.1 3 [0, 1, 2, 3, 4, 5, 6, 7, 8, 9, 10, 11, 12, 13, 14, 15, 16, 17] (kX9_isNumber hE N) (gCo_of (by decide +kernel)) (by rw [hR]; exact ⟨by decide, by decide⟩) rfl rfl (by decide +kernel) gw6_154 gw6_156 gw0_41 gw1_11 gw6_157 (by decide +kernel : decode cX9_linkStatement 35 = .ok (.invokevirtual 140, 3)) ?_)
  refine sm_if_eq (pc := 38) (tgt := 61) G hb (by decide +kernel : decode cX9_linkStatement 38 = .ok (.ifCond .eq 23, 3)) (by decide) ?_ ?_
  · skip
    refine sm_mask ?_
    exact fX9_linkStatement_s61 N G hb ho hy hR he hr hE
  · skip
    refine sm_aload_n (pc := 41) G hb (by decide +kernel : decode cX9_linkStatement 41 = .ok (.aload_n 0, 1)) rfl ?_
    refine sm_get (pc := 42) (ci := 9) (j := 8) (N := 32) (T := TX9) G hb ho hy rfl (by decide) gin_9 gw6_4 (by decide +kernel : decode cX9_linkStatement 42 = .ok (.getfield 13, 3)) ?_
    refine sm_iload_n (pc := 45) G hb (by decide +kernel : decode cX9_linkStatement 45 = .ok (.iload_n 1, 1)) rfl ?_
    refine sm_aload_n (pc := 46) G hb (by decide +kernel : decode cX9_linkStatement 46 = .ok (.aload_n 0, 1)) rfl ?_
    refine sm_get (pc := 47) (ci := 9) (j := 6) (N := 32) (T := TX9) G hb ho hy rfl (by decide) gin_9 gw6_2 (by decide +kernel : decode cX9_linkStatement 47 = .ok (.getfield 115, 3)) ?_
    refine sm_mono (ca_sub gI_sub) (sm_callS (pc := 50) G hb ho hy he hE.1 3 [2] (kX9_linkIn hE N) (gCo_of (by decide +kernel)) (by rw [hR]; exact ⟨by decide, by decide⟩) (by decide +kernel) gw6_175 gw6_176 gw1_11 gw6_177 (by decide +kernel : decode cX9_linkStatement 50 = .ok (.invokestatic 162, 3)) ?_)
    refine sm_iconst (pc := 53) G hb (by decide +kernel : decode cX9_linkStatement 53 = .ok (.iconst (-1), 1)) (by decide) ?_
    refine sm_icmp_eq (pc := 54) (tgt := 61) G hb (by decide +kernel : decode cX9_linkStatement 54 = .ok (.if_icmp .eq 7, 3)) (by decide) ?_ ?_
    · skip
      refine sm_mask ?_
      exact fX9_linkStatement_s61 N G hb ho hy hR he hr hE
    · skip
      refine sm_aload_n (pc := 57) G hb (by decide +kernel : decode cX9_linkStatement 57 = .ok (.aload_n 0, 1)) rfl ?_
      refine sm_mono (cav_sub gV_sub) (sm_callV (pc := 58) (N := 32) (T := TX9) (C := RX9) G hb ho hy he hE.1 1 [0, 1, 2, 3, 4, 5, 6, 7, 8, 9, 10, 11, 12, 13, 14, 15, 16, 17] (kX9_fail hE N) (gCo_of (by decide +kernel)) (by rw [hR]; exact ⟨by decide, by decide⟩) rfl rfl (by decide +kernel) gw6_158 gw6_160 gw0_42 gw1_11 gw6_161 (by decide +kernel : decode cX9_linkStatement 58 = .ok (.invokevirtual 144, 3)) ?_)
      refine sm_mask ?_
      exact fX9_linkStatement_s61 N G hb ho hy hR he hr hE
set_option maxRecDepth 100000 in
set_option maxHeartbeats 4000000 in
theorem fX9_linkStatement_s0 {γ : gG} {cs ss : Nat} {ε : gE5} (N : Nat) (G : gOK γ) (hb : gcc γ = cX9_linkStatement) (ho : gow γ = RX9) (hy : gly γ = gyM) (hR : grm γ = { frames := 4, cells := 0, slots := 0, locals := 93 }) (he : genv γ = ε) (hr : grt γ = none) (hE : gEnv ε) : gSm γ cs ss 0 (fX9_linkStatement_k0 N) := by
  unfold fX9_linkStatement_k0
  refine sm_aload_n (pc := 0) G hb (by decide +kernel : decode cX9_linkStatement 0 = .ok (.aload_n 0, 1)) rfl ?_
  refine sm_get (pc := 1) (ci := 9) (j := 8) (N := 32) (T := TX9) G hb ho hy rfl (by decide) gin_9 gw6_4 (by decide +kernel : decode cX9_linkStatement 1 = .ok (.getfield 13, 3)) ?_
  refine sm_iconst (pc := 4) G hb (by decide +kernel : decode cX9_linkStatement 4 = .ok (.iconst 1, 1)) (by decide) ?_
  refine sm_iald (pc := 5) G hb hy (by decide +kernel : decode cX9_linkStatement 5 = .ok (.iaload, 1)) ?_
  refine sm_bipush (pc := 6) G hb (by decide +kernel : decode cX9_linkStatement 6 = .ok (.bipush 14, 2)) (by decide) ?_
  refine sm_icmp_ne (pc := 8) (tgt := 16) G hb (by decide +kernel : decode cX9_linkStatement 8 = .ok (.if_icmp .ne 8, 3)) (by decide) ?_ ?_
  · skip
    refine sm_aload_n (pc := 16) G hb (by decide +kernel : decode cX9_linkStatement 16 = .ok (.aload_n 0, 1)) rfl ?_
    refine sm_mono (cav_sub gV_sub) (sm_callV (pc := 17) (N := 32) (T := TX9) (C := RX9) G hb ho hy he hE.1 1 [0, 1, 2, 3, 4, 5, 6, 7, 8, 9, 10, 11, 12, 13, 14, 15, 16, 17] (kX9_step hE N) (gCo_of (by decide +kernel)) (by rw [hR]; exact ⟨by decide, by decide⟩) rfl rfl (by decide +kernel) gw6_124 gw6_126 gw0_36 gw1_11 gw6_127 (by decide +kernel : decode cX9_linkStatement 17 = .ok (.invokevirtual 147, 3)) ?_)
    refine sm_aload_n (pc := 20) G hb (by decide +kernel : decode cX9_linkStatement 20 = .ok (.aload_n 0, 1)) rfl ?_
    refine sm_mono (cav_sub gI_sub) (sm_callV (pc := 21) (N := 32) (T := TX9) (C := RX9) G hb ho hy he hE.1 1 [0, 1, 2, 3, 4, 5, 6, 7, 8, 9, 10, 11, 12, 13, 14, 15, 16, 17] (kX9_takeNode hE N) (gCo_of (by decide +kernel)) (by rw [hR]; exact ⟨by decide, by decide⟩) rfl rfl (by decide +kernel) gw6_171 gw6_173 gw0_45 gw1_11 gw6_174 (by decide +kernel : decode cX9_linkStatement 21 = .ok (.invokevirtual 159, 3)) ?_)
    refine sm_mask ?_
    exact fX9_linkStatement_s24 N G hb ho hy hR he hr hE
  · skip
    refine sm_aload_n (pc := 11) G hb (by decide +kernel : decode cX9_linkStatement 11 = .ok (.aload_n 0, 1)) rfl ?_
    refine sm_mono (cav_sub gV_sub) (sm_callV (pc := 12) (N := 32) (T := TX9) (C := RX9) G hb ho hy he hE.1 1 [0, 1, 2, 3, 4, 5, 6, 7, 8, 9, 10, 11, 12, 13, 14, 15, 16, 17] (kX9_fail hE N) (gCo_of (by decide +kernel)) (by rw [hR]; exact ⟨by decide, by decide⟩) rfl rfl (by decide +kernel) gw6_158 gw6_160 gw0_42 gw1_11 gw6_161 (by decide +kernel : decode cX9_linkStatement 12 = .ok (.invokevirtual 144, 3)) ?_)
    exact sm_vret (pc := 15) G hb (by decide +kernel : decode cX9_linkStatement 15 = .ok (.return_, 1)) hr
theorem kX9_linkStatement {ε : gE5} (hE : gEnv ε) (N : Nat) : gCtr ε yX9_linkStatement cX9_linkStatement 3 none 4 93 gyM (fX9_linkStatement N) :=
  gCtr_of hE.1 (by decide) (fun γ G hb ho hy hR he hr => fX9_linkStatement_s0 N G hb ho hy hR he hr hE)

set_option maxRecDepth 100000 in
set_option maxHeartbeats 4000000 in
theorem fX9_conflictStatement_s19 {γ : gG} {cs ss : Nat} {ε : gE5} (N : Nat) (G : gOK γ) (hb : gcc γ = cX9_conflictStatement) (ho : gow γ = RX9) (hy : gly γ = gyM) (hR : grm γ = { frames := 4, cells := 0, slots := 0, locals := 93 }) (he : genv γ = ε) (hr : grt γ = none) (hE : gEnv ε) : gSm γ cs ss 19 (fX9_conflictStatement_k19 N) := by
  unfold fX9_conflictStatement_k19
  refine sm_aload_n (pc := 19) G hb (by decide +kernel : decode cX9_conflictStatement 19 = .ok (.aload_n 0, 1)) rfl ?_
  refine sm_mono (cav_sub gV_sub) (sm_callV (pc := 20) (N := 32) (T := TX9) (C := RX9) G hb ho hy he hE.1 1 [0, 1, 2, 3, 4, 5, 6, 7, 8, 9, 10, 11, 12, 13, 14, 15, 16, 17] (kX9_fail hE N) (gCo_of (by decide +kernel)) (by rw [hR]; exact ⟨by decide, by decide⟩) rfl rfl (by decide +kernel) gw6_158 gw6_160 gw0_42 gw1_11 gw6_161 (by decide +kernel : decode cX9_conflictStatement 20 = .ok (.invokevirtual 144, 3)) ?_)
  exact sm_vret (pc := 23) G hb (by decide +kernel : decode cX9_conflictStatement 23 = .ok (.return_, 1)) hr
set_option maxRecDepth 100000 in
set_option maxHeartbeats 4000000 in
theorem fX9_conflictStatement_s82 {γ : gG} {cs ss : Nat} {ε : gE5} (N : Nat) (G : gOK γ) (hb : gcc γ = cX9_conflictStatement) (ho : gow γ = RX9) (hy : gly γ = gyM) (hR : grm γ = { frames := 4, cells := 0, slots := 0, locals := 93 }) (he : genv γ = ε) (hr : grt γ = none) (hE : gEnv ε) : gSm γ cs ss 82 (fX9_conflictStatement_k82 N) := by
  unfold fX9_conflictStatement_k82
  refine sm_aload_n (pc := 82) G hb (by decide +kernel : decode cX9_conflictStatement 82 = .ok (.aload_n 0, 1)) rfl ?_
  refine sm_iconst (pc := 83) G hb (by decide +kernel : decode cX9_conflictStatement 83 = .ok (.iconst 0, 1)) (by decide) ?_
  refine sm_aload_n (pc := 84) G hb (by decide +kernel : decode cX9_conflictStatement 84 = .ok (.aload_n 0, 1)) rfl ?_
  refine sm_get (pc := 85) (ci := 9) (j := 8) (N := 32) (T := TX9) G hb ho hy rfl (by decide) gin_9 gw6_4 (by decide +kernel : decode cX9_conflictStatement 85 = .ok (.getfield 13, 3)) ?_
  refine sm_iconst (pc := 88) G hb (by decide +kernel : decode cX9_conflictStatement 88 = .ok (.iconst 1, 1)) (by decide) ?_
  refine sm_iald (pc := 89) G hb hy (by decide +kernel : decode cX9_conflictStatement 89 = .ok (.iaload, 1)) ?_
  refine sm_iconst (pc := 90) G hb (by decide +kernel : decode cX9_conflictStatement 90 = .ok (.iconst 1, 1)) (by decide) ?_
  refine sm_isub (pc := 91) G hb (by decide +kernel : decode cX9_conflictStatement 91 = .ok (.isub, 1)) ?_
  refine sm_iload_n (pc := 92) G hb (by decide +kernel : decode cX9_conflictStatement 92 = .ok (.iload_n 1, 1)) rfl ?_
  refine sm_mono (cav_sub gI_sub) (sm_callV (pc := 93) (N := 32) (T := TX9) (C := RX9) G hb ho hy he hE.1 4 [0, 1, 2, 3, 4, 5, 6, 7, 8, 9, 10, 11, 12, 13, 14, 15, 16, 17] (kX9_takeOther hE N) (gCo_of (by decide +kernel)) (by rw [hR]; exact ⟨by decide, by decide⟩) rfl rfl (by decide +kernel) gw6_178 gw6_180 gw0_46 gw1_11 gw6_181 (by decide +kernel : decode cX9_conflictStatement 93 = .ok (.invokevirtual 166, 3)) ?_)
  refine sm_istore_n (pc := 96) G hb (by decide +kernel : decode cX9_conflictStatement 96 = .ok (.istore_n 2, 1)) rfl ?_
  refine sm_aload_n (pc := 97) G hb (by decide +kernel : decode cX9_conflictStatement 97 = .ok (.aload_n 0, 1)) rfl ?_
  refine sm_get (pc := 98) (ci := 9) (j := 8) (N := 32) (T := TX9) G hb ho hy rfl (by decide) gin_9 gw6_4 (by decide +kernel : decode cX9_conflictStatement 98 = .ok (.getfield 13, 3)) ?_
  refine sm_sipush (pc := 101) G hb (by decide +kernel : decode cX9_conflictStatement 101 = .ok (.sipush 131, 3)) (by decide) ?_
  refine sm_iload_n (pc := 104) G hb (by decide +kernel : decode cX9_conflictStatement 104 = .ok (.iload_n 1, 1)) rfl ?_
  refine sm_iadd (pc := 105) G hb (by decide +kernel : decode cX9_conflictStatement 105 = .ok (.iadd, 1)) ?_
  refine sm_dup2 (pc := 106) G hb (by decide +kernel : decode cX9_conflictStatement 106 = .ok (.dup2, 1)) ?_
  refine sm_iald (pc := 107) G hb hy (by decide +kernel : decode cX9_conflictStatement 107 = .ok (.iaload, 1)) ?_
  refine sm_iconst (pc := 108) G hb (by decide +kernel : decode cX9_conflictStatement 108 = .ok (.iconst 1, 1)) (by decide) ?_
  refine sm_iload_n (pc := 109) G hb (by decide +kernel : decode cX9_conflictStatement 109 = .ok (.iload_n 2, 1)) rfl ?_
  refine sm_ishl (pc := 110) G hb (by decide +kernel : decode cX9_conflictStatement 110 = .ok (.ishl, 1)) ?_
  refine sm_ior (pc := 111) G hb (by decide +kernel : decode cX9_conflictStatement 111 = .ok (.ior, 1)) ?_
  refine sm_iast (pc := 112) G hb hy (by decide +kernel : decode cX9_conflictStatement 112 = .ok (.iastore, 1)) ?_
  refine sm_aload_n (pc := 113) G hb (by decide +kernel : decode cX9_conflictStatement 113 = .ok (.aload_n 0, 1)) rfl ?_
  refine sm_get (pc := 114) (ci := 9) (j := 8) (N := 32) (T := TX9) G hb ho hy rfl (by decide) gin_9 gw6_4 (by decide +kernel : decode cX9_conflictStatement 114 = .ok (.getfield 13, 3)) ?_
  refine sm_sipush (pc := 117) G hb (by decide +kernel : decode cX9_conflictStatement 117 = .ok (.sipush 131, 3)) (by decide) ?_
  refine sm_iload_n (pc := 120) G hb (by decide +kernel : decode cX9_conflictStatement 120 = .ok (.iload_n 2, 1)) rfl ?_
  refine sm_iadd (pc := 121) G hb (by decide +kernel : decode cX9_conflictStatement 121 = .ok (.iadd, 1)) ?_
  refine sm_dup2 (pc := 122) G hb (by decide +kernel : decode cX9_conflictStatement 122 = .ok (.dup2, 1)) ?_
  refine sm_iald (pc := 123) G hb hy (by decide +kernel : decode cX9_conflictStatement 123 = .ok (.iaload, 1)) ?_
  refine sm_iconst (pc := 124) G hb (by decide +kernel : decode cX9_conflictStatement 124 = .ok (.iconst 1, 1)) (by decide) ?_
  refine sm_iload_n (pc := 125) G hb (by decide +kernel : decode cX9_conflictStatement 125 = .ok (.iload_n 1, 1)) rfl ?_
  refine sm_ishl (pc := 126) G hb (by decide +kernel : decode cX9_conflictStatement 126 = .ok (.ishl, 1)) ?_
  refine sm_ior (pc := 127) G hb (by decide +kernel : decode cX9_conflictStatement 127 = .ok (.ior, 1)) ?_
  refine sm_iast (pc := 128) G hb hy (by decide +kernel : decode cX9_conflictStatement 128 = .ok (.iastore, 1)) ?_
  refine sm_aload_n (pc := 129) G hb (by decide +kernel : decode cX9_conflictStatement 129 = .ok (.aload_n 0, 1)) rfl ?_
  refine sm_dup (pc := 130) G hb (by decide +kernel : decode cX9_conflictStatement 130 = .ok (.dup, 1)) ?_
  refine sm_get (pc := 131) (ci := 9) (j := 15) (N := 32) (T := TX9) G hb ho hy rfl (by decide) gin_9 gw6_11 (by decide +kernel : decode cX9_conflictStatement 131 = .ok (.getfield 153, 3)) ?_
  refine sm_iconst (pc := 134) G hb (by decide +kernel : decode cX9_conflictStatement 134 = .ok (.iconst 1, 1)) (by decide) ?_
  refine sm_iadd (pc := 135) G hb (by decide +kernel : decode cX9_conflictStatement 135 = .ok (.iadd, 1)) ?_
  refine sm_put (pc := 136) (ci := 9) (j := 15) (N := 32) (T := TX9) G hb ho hy tyX9 tyX9_ok nmX9 rfl (by decide) gin_9 gw6_11 rfl rfl (by decide +kernel : decode cX9_conflictStatement 136 = .ok (.putfield 153, 3)) ?_
  exact sm_vret (pc := 139) G hb (by decide +kernel : decode cX9_conflictStatement 139 = .ok (.return_, 1)) hr
set_option maxRecDepth 100000 in
set_option maxHeartbeats 4000000 in
theorem fX9_conflictStatement_s41 {γ : gG} {cs ss : Nat} {ε : gE5} (N : Nat) (G : gOK γ) (hb : gcc γ = cX9_conflictStatement) (ho : gow γ = RX9) (hy : gly γ = gyM) (hR : grm γ = { frames := 4, cells := 0, slots := 0, locals := 93 }) (he : genv γ = ε) (hr : grt γ = none) (hE : gEnv ε) : gSm γ cs ss 41 (fX9_conflictStatement_k41 N) := by
  unfold fX9_conflictStatement_k41
  refine sm_istore_n (pc := 41) G hb (by decide +kernel : decode cX9_conflictStatement 41 = .ok (.istore_n 1, 1)) rfl ?_
  refine sm_aload_n (pc := 42) G hb (by decide +kernel : decode cX9_conflictStatement 42 = .ok (.aload_n 0, 1)) rfl ?_
  refine sm_iconst (pc := 43) G hb (by decide +kernel : decode cX9_conflictStatement 43 = .ok (.iconst 0, 1)) (by decide) ?_
  refine sm_aload_n (pc := 44) G hb (by decide +kernel : decode cX9_conflictStatement 44 = .ok (.aload_n 0, 1)) rfl ?_
  refine sm_get (pc := 45) (ci := 9) (j := 8) (N := 32) (T := TX9) G hb ho hy rfl (by decide) gin_9 gw6_4 (by decide +kernel : decode cX9_conflictStatement 45 = .ok (.getfield 13, 3)) ?_
  refine sm_iconst (pc := 48) G hb (by decide +kernel : decode cX9_conflictStatement 48 = .ok (.iconst 1, 1)) (by decide) ?_
  refine sm_iald (pc := 49) G hb hy (by decide +kernel : decode cX9_conflictStatement 49 = .ok (.iaload, 1)) ?_
  refine sm_iconst (pc := 50) G hb (by decide +kernel : decode cX9_conflictStatement 50 = .ok (.iconst 1, 1)) (by decide) ?_
  refine sm_isub (pc := 51) G hb (by decide +kernel : decode cX9_conflictStatement 51 = .ok (.isub, 1)) ?_
  refine sm_mono (cav_sub gI_sub) (sm_callV (pc := 52) (N := 32) (T := TX9) (C := RX9) G hb ho hy he hE.1 3 [0, 1, 2, 3, 4, 5, 6, 7, 8, 9, 10, 11, 12, 13, 14, 15, 16, 17] (kX9_isNumber hE N) (gCo_of (by decide +kernel)) (by rw [hR]; exact ⟨by decide, by decide⟩) rfl rfl (by decide +kernel) gw6_154 gw6_156 gw0_41 gw1_11 gw6_157 (by decide +kernel : decode cX9_conflictStatement 52 = .ok (.invokevirtual 140, 3)) ?_)
  refine sm_if_eq (pc := 55) (tgt := 82) G hb (by decide +kernel : decode cX9_conflictStatement 55 = .ok (.ifCond .eq 27, 3)) (by decide) ?_ ?_
  · skip
    refine sm_mask ?_
    exact fX9_conflictStatement_s82 N G hb ho hy hR he hr hE
  · skip
    refine sm_aload_n (pc := 58) G hb (by decide +kernel : decode cX9_conflictStatement 58 = .ok (.aload_n 0, 1)) rfl ?_
    refine sm_get (pc := 59) (ci := 9) (j := 8) (N := 32) (T := TX9) G hb ho hy rfl (by decide) gin_9 gw6_4 (by decide +kernel : decode cX9_conflictStatement 59 = .ok (.getfield 13, 3)) ?_
    refine sm_sipush (pc := 62) G hb (by decide +kernel : decode cX9_conflictStatement 62 = .ok (.sipush 131, 3)) (by decide) ?_
    refine sm_iload_n (pc := 65) G hb (by decide +kernel : decode cX9_conflictStatement 65 = .ok (.iload_n 1, 1)) rfl ?_
    refine sm_iadd (pc := 66) G hb (by decide +kernel : decode cX9_conflictStatement 66 = .ok (.iadd, 1)) ?_
    refine sm_iald (pc := 67) G hb hy (by decide +kernel : decode cX9_conflictStatement 67 = .ok (.iaload, 1)) ?_
    refine sm_aload_n (pc := 68) G hb (by decide +kernel : decode cX9_conflictStatement 68 = .ok (.aload_n 0, 1)) rfl ?_
    refine sm_get (pc := 69) (ci := 9) (j := 6) (N := 32) (T := TX9) G hb ho hy rfl (by decide) gin_9 gw6_2 (by decide +kernel : decode cX9_conflictStatement 69 = .ok (.getfield 115, 3)) ?_
    refine sm_mono (ca_sub gI_sub) (sm_callS (pc := 72) G hb ho hy he hE.1 2 [] (kX9_has hE N) (gCo_of (by decide +kernel)) (by rw [hR]; exact ⟨by decide, by decide⟩) (by decide +kernel) gw6_187 gw6_188 gw1_11 gw6_189 (by decide +kernel : decode cX9_conflictStatement 72 = .ok (.invokestatic 170, 3)) ?_)
    refine sm_if_eq (pc := 75) (tgt := 82) G hb (by decide +kernel : decode cX9_conflictStatement 75 = .ok (.ifCond .eq 7, 3)) (by decide) ?_ ?_
    · skip
      refine sm_mask ?_
      exact fX9_conflictStatement_s82 N G hb ho hy hR he hr hE
    · skip
      refine sm_aload_n (pc := 78) G hb (by decide +kernel : decode cX9_conflictStatement 78 = .ok (.aload_n 0, 1)) rfl ?_
      refine sm_mono (cav_sub gV_sub) (sm_callV (pc := 79) (N := 32) (T := TX9) (C := RX9) G hb ho hy he hE.1 1 [0, 1, 2, 3, 4, 5, 6, 7, 8, 9, 10, 11, 12, 13, 14, 15, 16, 17] (kX9_fail hE N) (gCo_of (by decide +kernel)) (by rw [hR]; exact ⟨by decide, by decide⟩) rfl rfl (by decide +kernel) gw6_158 gw6_160 gw0_42 gw1_11 gw6_161 (by decide +kernel : decode cX9_conflictStatement 79 = .ok (.invokevirtual 144, 3)) ?_)
      refine sm_mask ?_
      exact fX9_conflictStatement_s82 N G hb ho hy hR he hr hE
set_option maxRecDepth 100000 in
set_option maxHeartbeats 4000000 in
theorem fX9_conflictStatement_s0 {γ : gG} {cs ss : Nat} {ε : gE5} (N : Nat) (G : gOK γ) (hb : gcc γ = cX9_conflictStatement) (ho : gow γ = RX9) (hy : gly γ = gyM) (hR : grm γ = { frames := 4, cells := 0, slots := 0, locals := 93 }) (he : genv γ = ε) (hr : grt γ = none) (hE : gEnv ε) : gSm γ cs ss 0 (fX9_conflictStatement_k0 N) := by
  unfold fX9_conflictStatement_k0
  refine sm_aload_n (pc := 0) G hb (by decide +kernel : decode cX9_conflictStatement 0 = .ok (.aload_n 0, 1)) rfl ?_
  refine sm_get (pc := 1) (ci := 9) (j := 8) (N := 32) (T := TX9) G hb ho hy rfl (by decide) gin_9 gw6_4 (by decide +kernel : decode cX9_conflictStatement 1 = .ok (.getfield 13, 3)) ?_
  refine sm_iconst (pc := 4) G hb (by decide +kernel : decode cX9_conflictStatement 4 = .ok (.iconst 1, 1)) (by decide) ?_
  refine sm_iald (pc := 5) G hb hy (by decide +kernel : decode cX9_conflictStatement 5 = .ok (.iaload, 1)) ?_
  refine sm_iconst (pc := 6) G hb (by decide +kernel : decode cX9_conflictStatement 6 = .ok (.iconst 2, 1)) (by decide) ?_
  refine sm_icmp_lt (pc := 7) (tgt := 19) G hb (by decide +kernel : decode cX9_conflictStatement 7 = .ok (.if_icmp .lt 12, 3)) (by decide) ?_ ?_
  · skip
    refine sm_mask ?_
    exact fX9_conflictStatement_s19 N G hb ho hy hR he hr hE
  · skip
    refine sm_aload_n (pc := 10) G hb (by decide +kernel : decode cX9_conflictStatement 10 = .ok (.aload_n 0, 1)) rfl ?_
    refine sm_get (pc := 11) (ci := 9) (j := 15) (N := 32) (T := TX9) G hb ho hy rfl (by decide) gin_9 gw6_11 (by decide +kernel : decode cX9_conflictStatement 11 = .ok (.getfield 153, 3)) ?_
    refine sm_bipush (pc := 14) G hb (by decide +kernel : decode cX9_conflictStatement 14 = .ok (.bipush 40, 2)) (by decide) ?_
    refine sm_icmp_ne (pc := 16) (tgt := 24) G hb (by decide +kernel : decode cX9_conflictStatement 16 = .ok (.if_icmp .ne 8, 3)) (by decide) ?_ ?_
    · skip
      refine sm_aload_n (pc := 24) G hb (by decide +kernel : decode cX9_conflictStatement 24 = .ok (.aload_n 0, 1)) rfl ?_
      refine sm_mono (cav_sub gV_sub) (sm_callV (pc := 25) (N := 32) (T := TX9) (C := RX9) G hb ho hy he hE.1 1 [0, 1, 2, 3, 4, 5, 6, 7, 8, 9, 10, 11, 12, 13, 14, 15, 16, 17] (kX9_step hE N) (gCo_of (by decide +kernel)) (by rw [hR]; exact ⟨by decide, by decide⟩) rfl rfl (by decide +kernel) gw6_124 gw6_126 gw0_36 gw1_11 gw6_127 (by decide +kernel : decode cX9_conflictStatement 25 = .ok (.invokevirtual 147, 3)) ?_)
      refine sm_aload_n (pc := 28) G hb (by decide +kernel : decode cX9_conflictStatement 28 = .ok (.aload_n 0, 1)) rfl ?_
      refine sm_iconst (pc := 29) G hb (by decide +kernel : decode cX9_conflictStatement 29 = .ok (.iconst 0, 1)) (by decide) ?_
      refine sm_aload_n (pc := 30) G hb (by decide +kernel : decode cX9_conflictStatement 30 = .ok (.aload_n 0, 1)) rfl ?_
      refine sm_get (pc := 31) (ci := 9) (j := 8) (N := 32) (T := TX9) G hb ho hy rfl (by decide) gin_9 gw6_4 (by decide +kernel : decode cX9_conflictStatement 31 = .ok (.getfield 13, 3)) ?_
      refine sm_iconst (pc := 34) G hb (by decide +kernel : decode cX9_conflictStatement 34 = .ok (.iconst 1, 1)) (by decide) ?_
      refine sm_iald (pc := 35) G hb hy (by decide +kernel : decode cX9_conflictStatement 35 = .ok (.iaload, 1)) ?_
      refine sm_iconst (pc := 36) G hb (by decide +kernel : decode cX9_conflictStatement 36 = .ok (.iconst 1, 1)) (by decide) ?_
      refine sm_isub (pc := 37) G hb (by decide +kernel : decode cX9_conflictStatement 37 = .ok (.isub, 1)) ?_
      refine sm_mono (cav_sub gI_sub) (sm_callV (pc := 38) (N := 32) (T := TX9) (C := RX9) G hb ho hy he hE.1 3 [0, 1, 2, 3, 4, 5, 6, 7, 8, 9, 10, 11, 12, 13, 14, 15, 16, 17] (kX9_takeNumber hE N) (gCo_of (by decide +kernel)) (by rw [hR]; exact ⟨by decide, by decide⟩) rfl rfl (by decide +kernel) gw6_150 gw6_152 gw0_40 gw1_11 gw6_153 (by decide +kernel : decode cX9_conflictStatement 38 = .ok (.invokevirtual 156, 3)) ?_)
      refine sm_mask ?_
      exact fX9_conflictStatement_s41 N G hb ho hy hR he hr hE
    · skip
      refine sm_mask ?_
      exact fX9_conflictStatement_s19 N G hb ho hy hR he hr hE
theorem kX9_conflictStatement {ε : gE5} (hE : gEnv ε) (N : Nat) : gCtr ε yX9_conflictStatement cX9_conflictStatement 3 none 4 93 gyM (fX9_conflictStatement N) :=
  gCtr_of hE.1 (by decide) (fun γ G hb ho hy hR he hr => fX9_conflictStatement_s0 N G hb ho hy hR he hr hE)

set_option maxRecDepth 100000 in
set_option maxHeartbeats 4000000 in
theorem fX9_flowStatement_s75 {γ : gG} {cs ss : Nat} {ε : gE5} (N : Nat) (G : gOK γ) (hb : gcc γ = cX9_flowStatement) (ho : gow γ = RX9) (hy : gly γ = gyM) (hR : grm γ = { frames := 5, cells := 0, slots := 0, locals := 108 }) (he : genv γ = ε) (hr : grt γ = none) (hE : gEnv ε) : gSm γ cs ss 75 (fX9_flowStatement_k75 N) := by
  unfold fX9_flowStatement_k75
  refine sm_aload_n (pc := 75) G hb (by decide +kernel : decode cX9_flowStatement 75 = .ok (.aload_n 0, 1)) rfl ?_
  refine sm_get (pc := 76) (ci := 9) (j := 8) (N := 32) (T := TX9) G hb ho hy rfl (by decide) gin_9 gw6_4 (by decide +kernel : decode cX9_flowStatement 76 = .ok (.getfield 13, 3)) ?_
  refine sm_iload_n (pc := 79) G hb (by decide +kernel : decode cX9_flowStatement 79 = .ok (.iload_n 1, 1)) rfl ?_
  refine sm_iload_n (pc := 80) G hb (by decide +kernel : decode cX9_flowStatement 80 = .ok (.iload_n 2, 1)) rfl ?_
  refine sm_iload_n (pc := 81) G hb (by decide +kernel : decode cX9_flowStatement 81 = .ok (.iload_n 3, 1)) rfl ?_
  refine sm_iload (pc := 82) G hb (by decide +kernel : decode cX9_flowStatement 82 = .ok (.iload 4, 2)) ?_
  refine sm_mono (ca_sub gV_sub) (sm_callS (pc := 84) G hb ho hy he hE.1 5 [2] (kX9_layFlow hE N) (gCo_of (by decide +kernel)) (by rw [hR]; exact ⟨by decide, by decide⟩) (by decide +kernel) gw5_226 gw5_227 gw1_11 gw5_228 (by decide +kernel : decode cX9_flowStatement 84 = .ok (.invokestatic 69, 3)) ?_)
  exact sm_vret (pc := 87) G hb (by decide +kernel : decode cX9_flowStatement 87 = .ok (.return_, 1)) hr
set_option maxRecDepth 100000 in
set_option maxHeartbeats 4000000 in
theorem fX9_flowStatement_s58 {γ : gG} {cs ss : Nat} {ε : gE5} (N : Nat) (G : gOK γ) (hb : gcc γ = cX9_flowStatement) (ho : gow γ = RX9) (hy : gly γ = gyM) (hR : grm γ = { frames := 5, cells := 0, slots := 0, locals := 108 }) (he : genv γ = ε) (hr : grt γ = none) (hE : gEnv ε) : gSm γ cs ss 58 (fX9_flowStatement_k58 N) := by
  unfold fX9_flowStatement_k58
  refine sm_if_eq (pc := 58) (tgt := 75) G hb (by decide +kernel : decode cX9_flowStatement 58 = .ok (.ifCond .eq 17, 3)) (by decide) ?_ ?_
  · skip
    refine sm_mask ?_
    exact fX9_flowStatement_s75 N G hb ho hy hR he hr hE
  · skip
    refine sm_aload_n (pc := 61) G hb (by decide +kernel : decode cX9_flowStatement 61 = .ok (.aload_n 0, 1)) rfl ?_
    refine sm_mono (cav_sub gV_sub) (sm_callV (pc := 62) (N := 32) (T := TX9) (C := RX9) G hb ho hy he hE.1 1 [0, 1, 2, 3, 4, 5, 6, 7, 8, 9, 10, 11, 12, 13, 14, 15, 16, 17] (kX9_step hE N) (gCo_of (by decide +kernel)) (by rw [hR]; exact ⟨by decide, by decide⟩) rfl rfl (by decide +kernel) gw6_124 gw6_126 gw0_36 gw1_11 gw6_127 (by decide +kernel : decode cX9_flowStatement 62 = .ok (.invokevirtual 147, 3)) ?_)
    refine sm_aload_n (pc := 65) G hb (by decide +kernel : decode cX9_flowStatement 65 = .ok (.aload_n 0, 1)) rfl ?_
    refine sm_iconst (pc := 66) G hb (by decide +kernel : decode cX9_flowStatement 66 = .ok (.iconst 0, 1)) (by decide) ?_
    refine sm_sipush (pc := 67) G hb (by decide +kernel : decode cX9_flowStatement 67 = .ok (.sipush 200, 3)) (by decide) ?_
    refine sm_mono (cav_sub gI_sub) (sm_callV (pc := 70) (N := 32) (T := TX9) (C := RX9) G hb ho hy he hE.1 3 [0, 1, 2, 3, 4, 5, 6, 7, 8, 9, 10, 11, 12, 13, 14, 15, 16, 17] (kX9_takeNumber hE N) (gCo_of (by decide +kernel)) (by rw [hR]; exact ⟨by decide, by decide⟩) rfl rfl (by decide +kernel) gw6_150 gw6_152 gw0_40 gw1_11 gw6_153 (by decide +kernel : decode cX9_flowStatement 70 = .ok (.invokevirtual 156, 3)) ?_)
    refine sm_istore (pc := 73) G hb (by decide +kernel : decode cX9_flowStatement 73 = .ok (.istore 4, 2)) ?_
    refine sm_mask ?_
    exact fX9_flowStatement_s75 N G hb ho hy hR he hr hE
set_option maxRecDepth 100000 in
set_option maxHeartbeats 4000000 in
theorem fX9_flowStatement_s24 {γ : gG} {cs ss : Nat} {ε : gE5} (N : Nat) (G : gOK γ) (hb : gcc γ = cX9_flowStatement) (ho : gow γ = RX9) (hy : gly γ = gyM) (hR : grm γ = { frames := 5, cells := 0, slots := 0, locals := 108 }) (he : genv γ = ε) (hr : grt γ = none) (hE : gEnv ε) : gSm γ cs ss 24 (fX9_flowStatement_k24 N) := by
  unfold fX9_flowStatement_k24
  refine sm_istore_n (pc := 24) G hb (by decide +kernel : decode cX9_flowStatement 24 = .ok (.istore_n 1, 1)) rfl ?_
  refine sm_aload_n (pc := 25) G hb (by decide +kernel : decode cX9_flowStatement 25 = .ok (.aload_n 0, 1)) rfl ?_
  refine sm_iconst (pc := 26) G hb (by decide +kernel : decode cX9_flowStatement 26 = .ok (.iconst 0, 1)) (by decide) ?_
  refine sm_aload_n (pc := 27) G hb (by decide +kernel : decode cX9_flowStatement 27 = .ok (.aload_n 0, 1)) rfl ?_
  refine sm_get (pc := 28) (ci := 9) (j := 8) (N := 32) (T := TX9) G hb ho hy rfl (by decide) gin_9 gw6_4 (by decide +kernel : decode cX9_flowStatement 28 = .ok (.getfield 13, 3)) ?_
  refine sm_iconst (pc := 31) G hb (by decide +kernel : decode cX9_flowStatement 31 = .ok (.iconst 0, 1)) (by decide) ?_
  refine sm_iald (pc := 32) G hb hy (by decide +kernel : decode cX9_flowStatement 32 = .ok (.iaload, 1)) ?_
  refine sm_iconst (pc := 33) G hb (by decide +kernel : decode cX9_flowStatement 33 = .ok (.iconst 1, 1)) (by decide) ?_
  refine sm_isub (pc := 34) G hb (by decide +kernel : decode cX9_flowStatement 34 = .ok (.isub, 1)) ?_
  refine sm_iload_n (pc := 35) G hb (by decide +kernel : decode cX9_flowStatement 35 = .ok (.iload_n 1, 1)) rfl ?_
  refine sm_mono (cav_sub gI_sub) (sm_callV (pc := 36) (N := 32) (T := TX9) (C := RX9) G hb ho hy he hE.1 4 [0, 1, 2, 3, 4, 5, 6, 7, 8, 9, 10, 11, 12, 13, 14, 15, 16, 17] (kX9_takeOther hE N) (gCo_of (by decide +kernel)) (by rw [hR]; exact ⟨by decide, by decide⟩) rfl rfl (by decide +kernel) gw6_178 gw6_180 gw0_46 gw1_11 gw6_181 (by decide +kernel : decode cX9_flowStatement 36 = .ok (.invokevirtual 166, 3)) ?_)
  refine sm_istore_n (pc := 39) G hb (by decide +kernel : decode cX9_flowStatement 39 = .ok (.istore_n 2, 1)) rfl ?_
  refine sm_aload_n (pc := 40) G hb (by decide +kernel : decode cX9_flowStatement 40 = .ok (.aload_n 0, 1)) rfl ?_
  refine sm_iconst (pc := 41) G hb (by decide +kernel : decode cX9_flowStatement 41 = .ok (.iconst 0, 1)) (by decide) ?_
  refine sm_sipush (pc := 42) G hb (by decide +kernel : decode cX9_flowStatement 42 = .ok (.sipush 300, 3)) (by decide) ?_
  refine sm_mono (cav_sub gI_sub) (sm_callV (pc := 45) (N := 32) (T := TX9) (C := RX9) G hb ho hy he hE.1 3 [0, 1, 2, 3, 4, 5, 6, 7, 8, 9, 10, 11, 12, 13, 14, 15, 16, 17] (kX9_takeNumber hE N) (gCo_of (by decide +kernel)) (by rw [hR]; exact ⟨by decide, by decide⟩) rfl rfl (by decide +kernel) gw6_150 gw6_152 gw0_40 gw1_11 gw6_153 (by decide +kernel : decode cX9_flowStatement 45 = .ok (.invokevirtual 156, 3)) ?_)
  refine sm_istore_n (pc := 48) G hb (by decide +kernel : decode cX9_flowStatement 48 = .ok (.istore_n 3, 1)) rfl ?_
  refine sm_iconst (pc := 49) G hb (by decide +kernel : decode cX9_flowStatement 49 = .ok (.iconst 0, 1)) (by decide) ?_
  refine sm_istore (pc := 50) G hb (by decide +kernel : decode cX9_flowStatement 50 = .ok (.istore 4, 2)) ?_
  refine sm_aload_n (pc := 52) G hb (by decide +kernel : decode cX9_flowStatement 52 = .ok (.aload_n 0, 1)) rfl ?_
  refine sm_ldcs (pc := 53) (i := 17) (tx := "budget") G hb ho he hE (List.mem_of_getElem? (i := 17) rfl) (by decide +kernel : decode cX9_flowStatement 53 = .ok (.ldc 173, 2)) ?_
  refine sm_mono (cav_sub gI_sub) (sm_callV (pc := 55) (N := 32) (T := TX9) (C := RX9) G hb ho hy he hE.1 2 [0, 1, 2, 3, 4, 5, 6, 7, 8, 9, 10, 11, 12, 13, 14, 15, 16, 17] (kX9_isWord hE N) (gCo_of (by decide +kernel)) (by rw [hR]; exact ⟨by decide, by decide⟩) rfl rfl (by decide +kernel) gw6_140 gw6_142 gw0_38 gw1_11 gw6_143 (by decide +kernel : decode cX9_flowStatement 55 = .ok (.invokevirtual 175, 3)) ?_)
  refine sm_mask ?_
  exact fX9_flowStatement_s58 N G hb ho hy hR he hr hE
set_option maxRecDepth 100000 in
set_option maxHeartbeats 4000000 in
theorem fX9_flowStatement_s0 {γ : gG} {cs ss : Nat} {ε : gE5} (N : Nat) (G : gOK γ) (hb : gcc γ = cX9_flowStatement) (ho : gow γ = RX9) (hy : gly γ = gyM) (hR : grm γ = { frames := 5, cells := 0, slots := 0, locals := 108 }) (he : genv γ = ε) (hr : grt γ = none) (hE : gEnv ε) : gSm γ cs ss 0 (fX9_flowStatement_k0 N) := by
  unfold fX9_flowStatement_k0
  refine sm_aload_n (pc := 0) G hb (by decide +kernel : decode cX9_flowStatement 0 = .ok (.aload_n 0, 1)) rfl ?_
  refine sm_get (pc := 1) (ci := 9) (j := 8) (N := 32) (T := TX9) G hb ho hy rfl (by decide) gin_9 gw6_4 (by decide +kernel : decode cX9_flowStatement 1 = .ok (.getfield 13, 3)) ?_
  refine sm_iconst (pc := 4) G hb (by decide +kernel : decode cX9_flowStatement 4 = .ok (.iconst 2, 1)) (by decide) ?_
  refine sm_iald (pc := 5) G hb hy (by decide +kernel : decode cX9_flowStatement 5 = .ok (.iaload, 1)) ?_
  refine sm_bipush (pc := 6) G hb (by decide +kernel : decode cX9_flowStatement 6 = .ok (.bipush 6, 2)) (by decide) ?_
  refine sm_icmp_ne (pc := 8) (tgt := 16) G hb (by decide +kernel : decode cX9_flowStatement 8 = .ok (.if_icmp .ne 8, 3)) (by decide) ?_ ?_
  · skip
    refine sm_aload_n (pc := 16) G hb (by decide +kernel : decode cX9_flowStatement 16 = .ok (.aload_n 0, 1)) rfl ?_
    refine sm_mono (cav_sub gV_sub) (sm_callV (pc := 17) (N := 32) (T := TX9) (C := RX9) G hb ho hy he hE.1 1 [0, 1, 2, 3, 4, 5, 6, 7, 8, 9, 10, 11, 12, 13, 14, 15, 16, 17] (kX9_step hE N) (gCo_of (by decide +kernel)) (by rw [hR]; exact ⟨by decide, by decide⟩) rfl rfl (by decide +kernel) gw6_124 gw6_126 gw0_36 gw1_11 gw6_127 (by decide +kernel : decode cX9_flowStatement 17 = .ok (.invokevirtual 147, 3)) ?_)
    refine sm_aload_n (pc := 20) G hb (by decide +kernel : decode cX9_flowStatement 20 = .ok (.aload_n 0, 1)) rfl ?_
    refine sm_mono (cav_sub gI_sub) (sm_callV (pc := 21) (N := 32) (T := TX9) (C := RX9) G hb ho hy he hE.1 1 [0, 1, 2, 3, 4, 5, 6, 7, 8, 9, 10, 11, 12, 13, 14, 15, 16, 17] (kX9_takeNode hE N) (gCo_of (by decide +kernel)) (by rw [hR]; exact ⟨by decide, by decide⟩) rfl rfl (by decide +kernel) gw6_171 gw6_173 gw0_45 gw1_11 gw6_174 (by decide +kernel : decode cX9_flowStatement 21 = .ok (.invokevirtual 159, 3)) ?_)
    refine sm_mask ?_
    exact fX9_flowStatement_s24 N G hb ho hy hR he hr hE
  · skip
    refine sm_aload_n (pc := 11) G hb (by decide +kernel : decode cX9_flowStatement 11 = .ok (.aload_n 0, 1)) rfl ?_
    refine sm_mono (cav_sub gV_sub) (sm_callV (pc := 12) (N := 32) (T := TX9) (C := RX9) G hb ho hy he hE.1 1 [0, 1, 2, 3, 4, 5, 6, 7, 8, 9, 10, 11, 12, 13, 14, 15, 16, 17] (kX9_fail hE N) (gCo_of (by decide +kernel)) (by rw [hR]; exact ⟨by decide, by decide⟩) rfl rfl (by decide +kernel) gw6_158 gw6_160 gw0_42 gw1_11 gw6_161 (by decide +kernel : decode cX9_flowStatement 12 = .ok (.invokevirtual 144, 3)) ?_)
    exact sm_vret (pc := 15) G hb (by decide +kernel : decode cX9_flowStatement 15 = .ok (.return_, 1)) hr
theorem kX9_flowStatement {ε : gE5} (hE : gEnv ε) (N : Nat) : gCtr ε yX9_flowStatement cX9_flowStatement 5 none 5 108 gyM (fX9_flowStatement N) :=
  gCtr_of hE.1 (by decide) (fun γ G hb ho hy hR he hr => fX9_flowStatement_s0 N G hb ho hy hR he hr hE)

set_option maxRecDepth 100000 in
set_option maxHeartbeats 4000000 in
theorem fX9_once_s25 {γ : gG} {cs ss : Nat} {ε : gE5} (N : Nat) (G : gOK γ) (hb : gcc γ = cX9_once) (ho : gow γ = RX9) (hy : gly γ = gyM) (hR : grm γ = { frames := 5, cells := 0, slots := 0, locals := 108 }) (he : genv γ = ε) (hr : grt γ = (some .boolean)) (hE : gEnv ε) : gSm γ cs ss 25 (fX9_once_k25 N) := by
  unfold fX9_once_k25
  refine sm_aload_n (pc := 25) G hb (by decide +kernel : decode cX9_once 25 = .ok (.aload_n 0, 1)) rfl ?_
  refine sm_dup (pc := 26) G hb (by decide +kernel : decode cX9_once 26 = .ok (.dup, 1)) ?_
  refine sm_get (pc := 27) (ci := 9) (j := 14) (N := 32) (T := TX9) G hb ho hy rfl (by decide) gin_9 gw6_10 (by decide +kernel : decode cX9_once 27 = .ok (.getfield 150, 3)) ?_
  refine sm_iconst (pc := 30) G hb (by decide +kernel : decode cX9_once 30 = .ok (.iconst 1, 1)) (by decide) ?_
  refine sm_iload_n (pc := 31) G hb (by decide +kernel : decode cX9_once 31 = .ok (.iload_n 2, 1)) rfl ?_
  refine sm_ishl (pc := 32) G hb (by decide +kernel : decode cX9_once 32 = .ok (.ishl, 1)) ?_
  refine sm_ior (pc := 33) G hb (by decide +kernel : decode cX9_once 33 = .ok (.ior, 1)) ?_
  refine sm_put (pc := 34) (ci := 9) (j := 14) (N := 32) (T := TX9) G hb ho hy tyX9 tyX9_ok nmX9 rfl (by decide) gin_9 gw6_10 rfl rfl (by decide +kernel : decode cX9_once 34 = .ok (.putfield 150, 3)) ?_
  refine sm_aload_n (pc := 37) G hb (by decide +kernel : decode cX9_once 37 = .ok (.aload_n 0, 1)) rfl ?_
  refine sm_mono (cav_sub gI_sub) (sm_callV (pc := 38) (N := 32) (T := TX9) (C := RX9) G hb ho hy he hE.1 1 [0, 1, 2, 3, 4, 5, 6, 7, 8, 9, 10, 11, 12, 13, 14, 15, 16, 17] (kX9_isGood hE N) (gCo_of (by decide +kernel)) (by rw [hR]; exact ⟨by decide, by decide⟩) rfl rfl (by decide +kernel) gw6_144 gw6_146 gw0_39 gw1_11 gw6_147 (by decide +kernel : decode cX9_once 38 = .ok (.invokevirtual 127, 3)) ?_)
  refine sm_if_eq (pc := 41) (tgt := 48) G hb (by decide +kernel : decode cX9_once 41 = .ok (.ifCond .eq 7, 3)) (by decide) ?_ ?_
  · skip
    refine sm_iconst (pc := 48) G hb (by decide +kernel : decode cX9_once 48 = .ok (.iconst 1, 1)) (by decide) ?_
    exact sm_zret (pc := 49) G hb (by decide +kernel : decode cX9_once 49 = .ok (.ireturn, 1)) hr
  · skip
    refine sm_aload_n (pc := 44) G hb (by decide +kernel : decode cX9_once 44 = .ok (.aload_n 0, 1)) rfl ?_
    refine sm_mono (cav_sub gV_sub) (sm_callV (pc := 45) (N := 32) (T := TX9) (C := RX9) G hb ho hy he hE.1 1 [0, 1, 2, 3, 4, 5, 6, 7, 8, 9, 10, 11, 12, 13, 14, 15, 16, 17] (kX9_step hE N) (gCo_of (by decide +kernel)) (by rw [hR]; exact ⟨by decide, by decide⟩) rfl rfl (by decide +kernel) gw6_124 gw6_126 gw0_36 gw1_11 gw6_127 (by decide +kernel : decode cX9_once 45 = .ok (.invokevirtual 147, 3)) ?_)
    refine sm_iconst (pc := 48) G hb (by decide +kernel : decode cX9_once 48 = .ok (.iconst 1, 1)) (by decide) ?_
    exact sm_zret (pc := 49) G hb (by decide +kernel : decode cX9_once 49 = .ok (.ireturn, 1)) hr
set_option maxRecDepth 100000 in
set_option maxHeartbeats 4000000 in
theorem fX9_once_s0 {γ : gG} {cs ss : Nat} {ε : gE5} (N : Nat) (G : gOK γ) (hb : gcc γ = cX9_once) (ho : gow γ = RX9) (hy : gly γ = gyM) (hR : grm γ = { frames := 5, cells := 0, slots := 0, locals := 108 }) (he : genv γ = ε) (hr : grt γ = (some .boolean)) (hE : gEnv ε) : gSm γ cs ss 0 (fX9_once_k0 N) := by
  unfold fX9_once_k0
  refine sm_aload_n (pc := 0) G hb (by decide +kernel : decode cX9_once 0 = .ok (.aload_n 0, 1)) rfl ?_
  refine sm_aload_n (pc := 1) G hb (by decide +kernel : decode cX9_once 1 = .ok (.aload_n 1, 1)) rfl ?_
  refine sm_mono (cav_sub gI_sub) (sm_callV (pc := 2) (N := 32) (T := TX9) (C := RX9) G hb ho hy he hE.1 2 [0, 1, 2, 3, 4, 5, 6, 7, 8, 9, 10, 11, 12, 13, 14, 15, 16, 17] (kX9_isWord hE N) (gCo_of (by decide +kernel)) (by rw [hR]; exact ⟨by decide, by decide⟩) rfl rfl (by decide +kernel) gw6_140 gw6_142 gw0_38 gw1_11 gw6_143 (by decide +kernel : decode cX9_once 2 = .ok (.invokevirtual 175, 3)) ?_)
  refine sm_if_ne (pc := 5) (tgt := 10) G hb (by decide +kernel : decode cX9_once 5 = .ok (.ifCond .ne 5, 3)) (by decide) ?_ ?_
  · skip
    refine sm_aload_n (pc := 10) G hb (by decide +kernel : decode cX9_once 10 = .ok (.aload_n 0, 1)) rfl ?_
    refine sm_get (pc := 11) (ci := 9) (j := 14) (N := 32) (T := TX9) G hb ho hy rfl (by decide) gin_9 gw6_10 (by decide +kernel : decode cX9_once 11 = .ok (.getfield 150, 3)) ?_
    refine sm_iload_n (pc := 14) G hb (by decide +kernel : decode cX9_once 14 = .ok (.iload_n 2, 1)) rfl ?_
    refine sm_mono (ca_sub gI_sub) (sm_callS (pc := 15) G hb ho hy he hE.1 2 [] (kX9_has hE N) (gCo_of (by decide +kernel)) (by rw [hR]; exact ⟨by decide, by decide⟩) (by decide +kernel) gw6_187 gw6_188 gw1_11 gw6_189 (by decide +kernel : decode cX9_once 15 = .ok (.invokestatic 170, 3)) ?_)
    refine sm_if_eq (pc := 18) (tgt := 25) G hb (by decide +kernel : decode cX9_once 18 = .ok (.ifCond .eq 7, 3)) (by decide) ?_ ?_
    · skip
      refine sm_mask ?_
      exact fX9_once_s25 N G hb ho hy hR he hr hE
    · skip
      refine sm_aload_n (pc := 21) G hb (by decide +kernel : decode cX9_once 21 = .ok (.aload_n 0, 1)) rfl ?_
      refine sm_mono (cav_sub gV_sub) (sm_callV (pc := 22) (N := 32) (T := TX9) (C := RX9) G hb ho hy he hE.1 1 [0, 1, 2, 3, 4, 5, 6, 7, 8, 9, 10, 11, 12, 13, 14, 15, 16, 17] (kX9_fail hE N) (gCo_of (by decide +kernel)) (by rw [hR]; exact ⟨by decide, by decide⟩) rfl rfl (by decide +kernel) gw6_158 gw6_160 gw0_42 gw1_11 gw6_161 (by decide +kernel : decode cX9_once 22 = .ok (.invokevirtual 144, 3)) ?_)
      refine sm_mask ?_
      exact fX9_once_s25 N G hb ho hy hR he hr hE
  · skip
    refine sm_iconst (pc := 8) G hb (by decide +kernel : decode cX9_once 8 = .ok (.iconst 0, 1)) (by decide) ?_
    exact sm_zret (pc := 9) G hb (by decide +kernel : decode cX9_once 9 = .ok (.ireturn, 1)) hr
theorem kX9_once {ε : gE5} (hE : gEnv ε) (N : Nat) : gCtr ε yX9_once cX9_once 3 (some .boolean) 5 108 gyM (fX9_once N) :=
  gCtr_of hE.1 (by decide) (fun γ G hb ho hy hR he hr => fX9_once_s0 N G hb ho hy hR he hr hE)

set_option maxRecDepth 100000 in
set_option maxHeartbeats 4000000 in
theorem fX9_takeWord_s27 {γ : gG} {cs ss : Nat} {ε : gE5} (N : Nat) (G : gOK γ) (hb : gcc γ = cX9_takeWord) (ho : gow γ = RX9) (hy : gly γ = gyM) (hR : grm γ = { frames := 5, cells := 0, slots := 0, locals := 108 }) (he : genv γ = ε) (hr : grt γ = (some .int)) (hE : gEnv ε) : gSm γ cs ss 27 (fX9_takeWord_k27 N) := by
  unfold fX9_takeWord_k27
  refine sm_aload_n (pc := 27) G hb (by decide +kernel : decode cX9_takeWord 27 = .ok (.aload_n 0, 1)) rfl ?_
  refine sm_mono (cav_sub gV_sub) (sm_callV (pc := 28) (N := 32) (T := TX9) (C := RX9) G hb ho hy he hE.1 1 [0, 1, 2, 3, 4, 5, 6, 7, 8, 9, 10, 11, 12, 13, 14, 15, 16, 17] (kX9_step hE N) (gCo_of (by decide +kernel)) (by rw [hR]; exact ⟨by decide, by decide⟩) rfl rfl (by decide +kernel) gw6_124 gw6_126 gw0_36 gw1_11 gw6_127 (by decide +kernel : decode cX9_takeWord 28 = .ok (.invokevirtual 147, 3)) ?_)
  refine sm_goto (pc := 31) (tgt := 38) G hb (by decide +kernel : decode cX9_takeWord 31 = .ok (.goto 7, 3)) (by decide) ?_
  refine sm_iload_n (pc := 38) G hb (by decide +kernel : decode cX9_takeWord 38 = .ok (.iload_n 3, 1)) rfl ?_
  exact sm_iret (pc := 39) G hb (by decide +kernel : decode cX9_takeWord 39 = .ok (.ireturn, 1)) hr
set_option maxRecDepth 100000 in
set_option maxHeartbeats 4000000 in
theorem fX9_takeWord_s13 {γ : gG} {cs ss : Nat} {ε : gE5} (N : Nat) (G : gOK γ) (hb : gcc γ = cX9_takeWord) (ho : gow γ = RX9) (hy : gly γ = gyM) (hR : grm γ = { frames := 5, cells := 0, slots := 0, locals := 108 }) (he : genv γ = ε) (hr : grt γ = (some .int)) (hE : gEnv ε) : gSm γ cs ss 13 (fX9_takeWord_k13 N) := by
  unfold fX9_takeWord_k13
  refine sm_istore_n (pc := 13) G hb (by decide +kernel : decode cX9_takeWord 13 = .ok (.istore_n 3, 1)) rfl ?_
  refine sm_iload_n (pc := 14) G hb (by decide +kernel : decode cX9_takeWord 14 = .ok (.iload_n 3, 1)) rfl ?_
  refine sm_iconst (pc := 15) G hb (by decide +kernel : decode cX9_takeWord 15 = .ok (.iconst 1, 1)) (by decide) ?_
  refine sm_icmp_eq (pc := 16) (tgt := 27) G hb (by decide +kernel : decode cX9_takeWord 16 = .ok (.if_icmp .eq 11, 3)) (by decide) ?_ ?_
  · skip
    refine sm_mask ?_
    exact fX9_takeWord_s27 N G hb ho hy hR he hr hE
  · skip
    refine sm_aload_n (pc := 19) G hb (by decide +kernel : decode cX9_takeWord 19 = .ok (.aload_n 0, 1)) rfl ?_
    refine sm_aload_n (pc := 20) G hb (by decide +kernel : decode cX9_takeWord 20 = .ok (.aload_n 1, 1)) rfl ?_
    refine sm_mono (cav_sub gI_sub) (sm_callV (pc := 21) (N := 32) (T := TX9) (C := RX9) G hb ho hy he hE.1 2 [0, 1, 2, 3, 4, 5, 6, 7, 8, 9, 10, 11, 12, 13, 14, 15, 16, 17] (kX9_isWord hE N) (gCo_of (by decide +kernel)) (by rw [hR]; exact ⟨by decide, by decide⟩) rfl rfl (by decide +kernel) gw6_140 gw6_142 gw0_38 gw1_11 gw6_143 (by decide +kernel : decode cX9_takeWord 21 = .ok (.invokevirtual 175, 3)) ?_)
    refine sm_if_eq (pc := 24) (tgt := 34) G hb (by decide +kernel : decode cX9_takeWord 24 = .ok (.ifCond .eq 10, 3)) (by decide) ?_ ?_
    · skip
      refine sm_aload_n (pc := 34) G hb (by decide +kernel : decode cX9_takeWord 34 = .ok (.aload_n 0, 1)) rfl ?_
      refine sm_mono (cav_sub gV_sub) (sm_callV (pc := 35) (N := 32) (T := TX9) (C := RX9) G hb ho hy he hE.1 1 [0, 1, 2, 3, 4, 5, 6, 7, 8, 9, 10, 11, 12, 13, 14, 15, 16, 17] (kX9_fail hE N) (gCo_of (by decide +kernel)) (by rw [hR]; exact ⟨by decide, by decide⟩) rfl rfl (by decide +kernel) gw6_158 gw6_160 gw0_42 gw1_11 gw6_161 (by decide +kernel : decode cX9_takeWord 35 = .ok (.invokevirtual 144, 3)) ?_)
      refine sm_iload_n (pc := 38) G hb (by decide +kernel : decode cX9_takeWord 38 = .ok (.iload_n 3, 1)) rfl ?_
      exact sm_iret (pc := 39) G hb (by decide +kernel : decode cX9_takeWord 39 = .ok (.ireturn, 1)) hr
    · skip
      refine sm_mask ?_
      exact fX9_takeWord_s27 N G hb ho hy hR he hr hE
set_option maxRecDepth 100000 in
set_option maxHeartbeats 4000000 in
theorem fX9_takeWord_s0 {γ : gG} {cs ss : Nat} {ε : gE5} (N : Nat) (G : gOK γ) (hb : gcc γ = cX9_takeWord) (ho : gow γ = RX9) (hy : gly γ = gyM) (hR : grm γ = { frames := 5, cells := 0, slots := 0, locals := 108 }) (he : genv γ = ε) (hr : grt γ = (some .int)) (hE : gEnv ε) : gSm γ cs ss 0 (fX9_takeWord_k0 N) := by
  unfold fX9_takeWord_k0
  refine sm_aload_n (pc := 0) G hb (by decide +kernel : decode cX9_takeWord 0 = .ok (.aload_n 0, 1)) rfl ?_
  refine sm_aload_n (pc := 1) G hb (by decide +kernel : decode cX9_takeWord 1 = .ok (.aload_n 2, 1)) rfl ?_
  refine sm_mono (cav_sub gI_sub) (sm_callV (pc := 2) (N := 32) (T := TX9) (C := RX9) G hb ho hy he hE.1 2 [0, 1, 2, 3, 4, 5, 6, 7, 8, 9, 10, 11, 12, 13, 14, 15, 16, 17] (kX9_isWord hE N) (gCo_of (by decide +kernel)) (by rw [hR]; exact ⟨by decide, by decide⟩) rfl rfl (by decide +kernel) gw6_140 gw6_142 gw0_38 gw1_11 gw6_143 (by decide +kernel : decode cX9_takeWord 2 = .ok (.invokevirtual 175, 3)) ?_)
  refine sm_if_eq (pc := 5) (tgt := 12) G hb (by decide +kernel : decode cX9_takeWord 5 = .ok (.ifCond .eq 7, 3)) (by decide) ?_ ?_
  · skip
    refine sm_iconst (pc := 12) G hb (by decide +kernel : decode cX9_takeWord 12 = .ok (.iconst 0, 1)) (by decide) ?_
    refine sm_mask ?_
    exact fX9_takeWord_s13 N G hb ho hy hR he hr hE
  · skip
    refine sm_iconst (pc := 8) G hb (by decide +kernel : decode cX9_takeWord 8 = .ok (.iconst 1, 1)) (by decide) ?_
    refine sm_goto (pc := 9) (tgt := 13) G hb (by decide +kernel : decode cX9_takeWord 9 = .ok (.goto 4, 3)) (by decide) ?_
    refine sm_mask ?_
    exact fX9_takeWord_s13 N G hb ho hy hR he hr hE
theorem kX9_takeWord {ε : gE5} (hE : gEnv ε) (N : Nat) : gCtr ε yX9_takeWord cX9_takeWord 4 (some .int) 5 108 gyM (fX9_takeWord N) :=
  gCtr_of hE.1 (by decide) (fun γ G hb ho hy hR he hr => fX9_takeWord_s0 N G hb ho hy hR he hr hE)

set_option maxRecDepth 100000 in
set_option maxHeartbeats 4000000 in
theorem fX9_readStatement_s123 {γ : gG} {cs ss : Nat} {ε : gE5} (N : Nat) (G : gOK γ) (hb : gcc γ = cX9_readStatement) (ho : gow γ = RX9) (hy : gly γ = gyM) (hR : grm γ = { frames := 6, cells := 0, slots := 0, locals := 132 }) (he : genv γ = ε) (hr : grt γ = none) (hE : gEnv ε) : gSm γ cs ss 123 (fX9_readStatement_k123 N) := by
  unfold fX9_readStatement_k123
  refine sm_iast (pc := 123) G hb hy (by decide +kernel : decode cX9_readStatement 123 = .ok (.iastore, 1)) ?_
  refine sm_goto (pc := 124) (tgt := 159) G hb (by decide +kernel : decode cX9_readStatement 124 = .ok (.goto 35, 3)) (by decide) ?_
  exact sm_vret (pc := 159) G hb (by decide +kernel : decode cX9_readStatement 159 = .ok (.return_, 1)) hr
set_option maxRecDepth 100000 in
set_option maxHeartbeats 4000000 in
theorem fX9_readStatement_s82 {γ : gG} {cs ss : Nat} {ε : gE5} (N : Nat) (G : gOK γ) (hb : gcc γ = cX9_readStatement) (ho : gow γ = RX9) (hy : gly γ = gyM) (hR : grm γ = { frames := 6, cells := 0, slots := 0, locals := 132 }) (he : genv γ = ε) (hr : grt γ = none) (hE : gEnv ε) : gSm γ cs ss 82 (fX9_readStatement_k82 N) := by
  unfold fX9_readStatement_k82
  refine sm_if_eq (pc := 82) (tgt := 101) G hb (by decide +kernel : decode cX9_readStatement 82 = .ok (.ifCond .eq 19, 3)) (by decide) ?_ ?_
  · skip
    refine sm_aload_n (pc := 101) G hb (by decide +kernel : decode cX9_readStatement 101 = .ok (.aload_n 0, 1)) rfl ?_
    refine sm_ldcs (pc := 102) (i := 22) (tx := "bias") G hb ho he hE (List.mem_of_getElem? (i := 22) rfl) (by decide +kernel : decode cX9_readStatement 102 = .ok (.ldc 210, 2)) ?_
    refine sm_iconst (pc := 104) G hb (by decide +kernel : decode cX9_readStatement 104 = .ok (.iconst 2, 1)) (by decide) ?_
    refine sm_mono (cav_sub gI_sub) (sm_callV (pc := 105) (N := 32) (T := TX9) (C := RX9) G hb ho hy he hE.1 3 [0, 1, 2, 3, 4, 5, 6, 7, 8, 9, 10, 11, 12, 13, 14, 15, 16, 17] (kX9_once hE N) (gCo_of (by decide +kernel)) (by rw [hR]; exact ⟨by decide, by decide⟩) rfl rfl (by decide +kernel) gw6_197 gw6_199 gw0_49 gw1_11 gw6_200 (by decide +kernel : decode cX9_readStatement 105 = .ok (.invokevirtual 196, 3)) ?_)
    refine sm_if_eq (pc := 108) (tgt := 127) G hb (by decide +kernel : decode cX9_readStatement 108 = .ok (.ifCond .eq 19, 3)) (by decide) ?_ ?_
    · skip
      refine sm_aload_n (pc := 127) G hb (by decide +kernel : decode cX9_readStatement 127 = .ok (.aload_n 0, 1)) rfl ?_
      refine sm_ldcs (pc := 128) (i := 23) (tx := "scheduler") G hb ho he hE (List.mem_of_getElem? (i := 23) rfl) (by decide +kernel : decode cX9_readStatement 128 = .ok (.ldc 212, 2)) ?_
      refine sm_iconst (pc := 130) G hb (by decide +kernel : decode cX9_readStatement 130 = .ok (.iconst 3, 1)) (by decide) ?_
      refine sm_mono (cav_sub gI_sub) (sm_callV (pc := 131) (N := 32) (T := TX9) (C := RX9) G hb ho hy he hE.1 3 [0, 1, 2, 3, 4, 5, 6, 7, 8, 9, 10, 11, 12, 13, 14, 15, 16, 17] (kX9_once hE N) (gCo_of (by decide +kernel)) (by rw [hR]; exact ⟨by decide, by decide⟩) rfl rfl (by decide +kernel) gw6_197 gw6_199 gw0_49 gw1_11 gw6_200 (by decide +kernel : decode cX9_readStatement 131 = .ok (.invokevirtual 196, 3)) ?_)
      refine sm_if_eq (pc := 134) (tgt := 155) G hb (by decide +kernel : decode cX9_readStatement 134 = .ok (.ifCond .eq 21, 3)) (by decide) ?_ ?_
      · skip
        refine sm_aload_n (pc := 155) G hb (by decide +kernel : decode cX9_readStatement 155 = .ok (.aload_n 0, 1)) rfl ?_
        refine sm_mono (cav_sub gV_sub) (sm_callV (pc := 156) (N := 32) (T := TX9) (C := RX9) G hb ho hy he hE.1 1 [0, 1, 2, 3, 4, 5, 6, 7, 8, 9, 10, 11, 12, 13, 14, 15, 16, 17] (kX9_fail hE N) (gCo_of (by decide +kernel)) (by rw [hR]; exact ⟨by decide, by decide⟩) rfl rfl (by decide +kernel) gw6_158 gw6_160 gw0_42 gw1_11 gw6_161 (by decide +kernel : decode cX9_readStatement 156 = .ok (.invokevirtual 144, 3)) ?_)
        exact sm_vret (pc := 159) G hb (by decide +kernel : decode cX9_readStatement 159 = .ok (.return_, 1)) hr
      · skip
        refine sm_aload_n (pc := 137) G hb (by decide +kernel : decode cX9_readStatement 137 = .ok (.aload_n 0, 1)) rfl ?_
        refine sm_get (pc := 138) (ci := 9) (j := 8) (N := 32) (T := TX9) G hb ho hy rfl (by decide) gin_9 gw6_4 (by decide +kernel : decode cX9_readStatement 138 = .ok (.getfield 13, 3)) ?_
        refine sm_bipush (pc := 141) G hb (by decide +kernel : decode cX9_readStatement 141 = .ok (.bipush 6, 2)) (by decide) ?_
        refine sm_aload_n (pc := 143) G hb (by decide +kernel : decode cX9_readStatement 143 = .ok (.aload_n 0, 1)) rfl ?_
        refine sm_ldcs (pc := 144) (i := 24) (tx := "greedy") G hb ho he hE (List.mem_of_getElem? (i := 24) rfl) (by decide +kernel : decode cX9_readStatement 144 = .ok (.ldc 214, 2)) ?_
        refine sm_ldcs (pc := 146) (i := 25) (tx := "exact") G hb ho he hE (List.mem_of_getElem? (i := 25) rfl) (by decide +kernel : decode cX9_readStatement 146 = .ok (.ldc 216, 2)) ?_
        refine sm_mono (cav_sub gI_sub) (sm_callV (pc := 148) (N := 32) (T := TX9) (C := RX9) G hb ho hy he hE.1 3 [0, 1, 2, 3, 4, 5, 6, 7, 8, 9, 10, 11, 12, 13, 14, 15, 16, 17] (kX9_takeWord hE N) (gCo_of (by decide +kernel)) (by rw [hR]; exact ⟨by decide, by decide⟩) rfl rfl (by decide +kernel) gw6_203 gw6_205 gw0_50 gw1_11 gw6_206 (by decide +kernel : decode cX9_readStatement 148 = .ok (.invokevirtual 204, 3)) ?_)
        refine sm_iast (pc := 151) G hb hy (by decide +kernel : decode cX9_readStatement 151 = .ok (.iastore, 1)) ?_
        refine sm_goto (pc := 152) (tgt := 159) G hb (by decide +kernel : decode cX9_readStatement 152 = .ok (.goto 7, 3)) (by decide) ?_
        exact sm_vret (pc := 159) G hb (by decide +kernel : decode cX9_readStatement 159 = .ok (.return_, 1)) hr
    · skip
      refine sm_aload_n (pc := 111) G hb (by decide +kernel : decode cX9_readStatement 111 = .ok (.aload_n 0, 1)) rfl ?_
      refine sm_get (pc := 112) (ci := 9) (j := 8) (N := 32) (T := TX9) G hb ho hy rfl (by decide) gin_9 gw6_4 (by decide +kernel : decode cX9_readStatement 112 = .ok (.getfield 13, 3)) ?_
      refine sm_iconst (pc := 115) G hb (by decide +kernel : decode cX9_readStatement 115 = .ok (.iconst 5, 1)) (by decide) ?_
      refine sm_aload_n (pc := 116) G hb (by decide +kernel : decode cX9_readStatement 116 = .ok (.aload_n 0, 1)) rfl ?_
      refine sm_iconst (pc := 117) G hb (by decide +kernel : decode cX9_readStatement 117 = .ok (.iconst 0, 1)) (by decide) ?_
      refine sm_bipush (pc := 118) G hb (by decide +kernel : decode cX9_readStatement 118 = .ok (.bipush 20, 2)) (by decide) ?_
      refine sm_mono (cav_sub gI_sub) (sm_callV (pc := 120) (N := 32) (T := TX9) (C := RX9) G hb ho hy he hE.1 3 [0, 1, 2, 3, 4, 5, 6, 7, 8, 9, 10, 11, 12, 13, 14, 15, 16, 17] (kX9_takeNumber hE N) (gCo_of (by decide +kernel)) (by rw [hR]; exact ⟨by decide, by decide⟩) rfl rfl (by decide +kernel) gw6_150 gw6_152 gw0_40 gw1_11 gw6_153 (by decide +kernel : decode cX9_readStatement 120 = .ok (.invokevirtual 156, 3)) ?_)
      refine sm_mask ?_
      exact fX9_readStatement_s123 N G hb ho hy hR he hr hE
  · skip
    refine sm_aload_n (pc := 85) G hb (by decide +kernel : decode cX9_readStatement 85 = .ok (.aload_n 0, 1)) rfl ?_
    refine sm_get (pc := 86) (ci := 9) (j := 8) (N := 32) (T := TX9) G hb ho hy rfl (by decide) gin_9 gw6_4 (by decide +kernel : decode cX9_readStatement 86 = .ok (.getfield 13, 3)) ?_
    refine sm_iconst (pc := 89) G hb (by decide +kernel : decode cX9_readStatement 89 = .ok (.iconst 4, 1)) (by decide) ?_
    refine sm_aload_n (pc := 90) G hb (by decide +kernel : decode cX9_readStatement 90 = .ok (.aload_n 0, 1)) rfl ?_
    refine sm_iconst (pc := 91) G hb (by decide +kernel : decode cX9_readStatement 91 = .ok (.iconst 0, 1)) (by decide) ?_
    refine sm_bipush (pc := 92) G hb (by decide +kernel : decode cX9_readStatement 92 = .ok (.bipush 50, 2)) (by decide) ?_
    refine sm_mono (cav_sub gI_sub) (sm_callV (pc := 94) (N := 32) (T := TX9) (C := RX9) G hb ho hy he hE.1 3 [0, 1, 2, 3, 4, 5, 6, 7, 8, 9, 10, 11, 12, 13, 14, 15, 16, 17] (kX9_takeNumber hE N) (gCo_of (by decide +kernel)) (by rw [hR]; exact ⟨by decide, by decide⟩) rfl rfl (by decide +kernel) gw6_150 gw6_152 gw0_40 gw1_11 gw6_153 (by decide +kernel : decode cX9_readStatement 94 = .ok (.invokevirtual 156, 3)) ?_)
    refine sm_iast (pc := 97) G hb hy (by decide +kernel : decode cX9_readStatement 97 = .ok (.iastore, 1)) ?_
    refine sm_goto (pc := 98) (tgt := 159) G hb (by decide +kernel : decode cX9_readStatement 98 = .ok (.goto 61, 3)) (by decide) ?_
    exact sm_vret (pc := 159) G hb (by decide +kernel : decode cX9_readStatement 159 = .ok (.return_, 1)) hr
set_option maxRecDepth 100000 in
set_option maxHeartbeats 4000000 in
theorem fX9_readStatement_s45 {γ : gG} {cs ss : Nat} {ε : gE5} (N : Nat) (G : gOK γ) (hb : gcc γ = cX9_readStatement) (ho : gow γ = RX9) (hy : gly γ = gyM) (hR : grm γ = { frames := 6, cells := 0, slots := 0, locals := 132 }) (he : genv γ = ε) (hr : grt γ = none) (hE : gEnv ε) : gSm γ cs ss 45 (fX9_readStatement_k45 N) := by
  unfold fX9_readStatement_k45
  refine sm_goto (pc := 45) (tgt := 159) G hb (by decide +kernel : decode cX9_readStatement 45 = .ok (.goto 114, 3)) (by decide) ?_
  exact sm_vret (pc := 159) G hb (by decide +kernel : decode cX9_readStatement 159 = .ok (.return_, 1)) hr
set_option maxRecDepth 100000 in
set_option maxHeartbeats 4000000 in
theorem fX9_readStatement_s22 {γ : gG} {cs ss : Nat} {ε : gE5} (N : Nat) (G : gOK γ) (hb : gcc γ = cX9_readStatement) (ho : gow γ = RX9) (hy : gly γ = gyM) (hR : grm γ = { frames := 6, cells := 0, slots := 0, locals := 132 }) (he : genv γ = ε) (hr : grt γ = none) (hE : gEnv ε) : gSm γ cs ss 22 (fX9_readStatement_k22 N) := by
  unfold fX9_readStatement_k22
  refine sm_if_eq (pc := 22) (tgt := 32) G hb (by decide +kernel : decode cX9_readStatement 22 = .ok (.ifCond .eq 10, 3)) (by decide) ?_ ?_
  · skip
    refine sm_aload_n (pc := 32) G hb (by decide +kernel : decode cX9_readStatement 32 = .ok (.aload_n 0, 1)) rfl ?_
    refine sm_ldcs (pc := 33) (i := 16) (tx := "flow") G hb ho he hE (List.mem_of_getElem? (i := 16) rfl) (by decide +kernel : decode cX9_readStatement 33 = .ok (.ldc 189, 2)) ?_
    refine sm_mono (cav_sub gI_sub) (sm_callV (pc := 35) (N := 32) (T := TX9) (C := RX9) G hb ho hy he hE.1 2 [0, 1, 2, 3, 4, 5, 6, 7, 8, 9, 10, 11, 12, 13, 14, 15, 16, 17] (kX9_isWord hE N) (gCo_of (by decide +kernel)) (by rw [hR]; exact ⟨by decide, by decide⟩) rfl rfl (by decide +kernel) gw6_140 gw6_142 gw0_38 gw1_11 gw6_143 (by decide +kernel : decode cX9_readStatement 35 = .ok (.invokevirtual 175, 3)) ?_)
    refine sm_if_eq (pc := 38) (tgt := 48) G hb (by decide +kernel : decode cX9_readStatement 38 = .ok (.ifCond .eq 10, 3)) (by decide) ?_ ?_
    · skip
      refine sm_aload_n (pc := 48) G hb (by decide +kernel : decode cX9_readStatement 48 = .ok (.aload_n 0, 1)) rfl ?_
      refine sm_ldcs (pc := 49) (i := 18) (tx := "mode") G hb ho he hE (List.mem_of_getElem? (i := 18) rfl) (by decide +kernel : decode cX9_readStatement 49 = .ok (.ldc 194, 2)) ?_
      refine sm_iconst (pc := 51) G hb (by decide +kernel : decode cX9_readStatement 51 = .ok (.iconst 0, 1)) (by decide) ?_
      refine sm_mono (cav_sub gI_sub) (sm_callV (pc := 52) (N := 32) (T := TX9) (C := RX9) G hb ho hy he hE.1 3 [0, 1, 2, 3, 4, 5, 6, 7, 8, 9, 10, 11, 12, 13, 14, 15, 16, 17] (kX9_once hE N) (gCo_of (by decide +kernel)) (by rw [hR]; exact ⟨by decide, by decide⟩) rfl rfl (by decide +kernel) gw6_197 gw6_199 gw0_49 gw1_11 gw6_200 (by decide +kernel : decode cX9_readStatement 52 = .ok (.invokevirtual 196, 3)) ?_)
      refine sm_if_eq (pc := 55) (tgt := 75) G hb (by decide +kernel : decode cX9_readStatement 55 = .ok (.ifCond .eq 20, 3)) (by decide) ?_ ?_
      · skip
        refine sm_aload_n (pc := 75) G hb (by decide +kernel : decode cX9_readStatement 75 = .ok (.aload_n 0, 1)) rfl ?_
        refine sm_ldcs (pc := 76) (i := 21) (tx := "excess") G hb ho he hE (List.mem_of_getElem? (i := 21) rfl) (by decide +kernel : decode cX9_readStatement 76 = .ok (.ldc 208, 2)) ?_
        refine sm_iconst (pc := 78) G hb (by decide +kernel : decode cX9_readStatement 78 = .ok (.iconst 1, 1)) (by decide) ?_
        refine sm_mono (cav_sub gI_sub) (sm_callV (pc := 79) (N := 32) (T := TX9) (C := RX9) G hb ho hy he hE.1 3 [0, 1, 2, 3, 4, 5, 6, 7, 8, 9, 10, 11, 12, 13, 14, 15, 16, 17] (kX9_once hE N) (gCo_of (by decide +kernel)) (by rw [hR]; exact ⟨by decide, by decide⟩) rfl rfl (by decide +kernel) gw6_197 gw6_199 gw0_49 gw1_11 gw6_200 (by decide +kernel : decode cX9_readStatement 79 = .ok (.invokevirtual 196, 3)) ?_)
        refine sm_mask ?_
        exact fX9_readStatement_s82 N G hb ho hy hR he hr hE
      · skip
        refine sm_aload_n (pc := 58) G hb (by decide +kernel : decode cX9_readStatement 58 = .ok (.aload_n 0, 1)) rfl ?_
        refine sm_get (pc := 59) (ci := 9) (j := 8) (N := 32) (T := TX9) G hb ho hy rfl (by decide) gin_9 gw6_4 (by decide +kernel : decode cX9_readStatement 59 = .ok (.getfield 13, 3)) ?_
        refine sm_iconst (pc := 62) G hb (by decide +kernel : decode cX9_readStatement 62 = .ok (.iconst 3, 1)) (by decide) ?_
        refine sm_aload_n (pc := 63) G hb (by decide +kernel : decode cX9_readStatement 63 = .ok (.aload_n 0, 1)) rfl ?_
        refine sm_ldcs (pc := 64) (i := 19) (tx := "plain") G hb ho he hE (List.mem_of_getElem? (i := 19) rfl) (by decide +kernel : decode cX9_readStatement 64 = .ok (.ldc 200, 2)) ?_
        refine sm_ldcs (pc := 66) (i := 20) (tx := "shadow") G hb ho he hE (List.mem_of_getElem? (i := 20) rfl) (by decide +kernel : decode cX9_readStatement 66 = .ok (.ldc 202, 2)) ?_
        refine sm_mono (cav_sub gI_sub) (sm_callV (pc := 68) (N := 32) (T := TX9) (C := RX9) G hb ho hy he hE.1 3 [0, 1, 2, 3, 4, 5, 6, 7, 8, 9, 10, 11, 12, 13, 14, 15, 16, 17] (kX9_takeWord hE N) (gCo_of (by decide +kernel)) (by rw [hR]; exact ⟨by decide, by decide⟩) rfl rfl (by decide +kernel) gw6_203 gw6_205 gw0_50 gw1_11 gw6_206 (by decide +kernel : decode cX9_readStatement 68 = .ok (.invokevirtual 204, 3)) ?_)
        refine sm_iast (pc := 71) G hb hy (by decide +kernel : decode cX9_readStatement 71 = .ok (.iastore, 1)) ?_
        refine sm_goto (pc := 72) (tgt := 159) G hb (by decide +kernel : decode cX9_readStatement 72 = .ok (.goto 87, 3)) (by decide) ?_
        exact sm_vret (pc := 159) G hb (by decide +kernel : decode cX9_readStatement 159 = .ok (.return_, 1)) hr
    · skip
      refine sm_aload_n (pc := 41) G hb (by decide +kernel : decode cX9_readStatement 41 = .ok (.aload_n 0, 1)) rfl ?_
      refine sm_mono (cav_sub gV_sub) (sm_callV (pc := 42) (N := 32) (T := TX9) (C := RX9) G hb ho hy he hE.1 1 [0, 1, 2, 3, 4, 5, 6, 7, 8, 9, 10, 11, 12, 13, 14, 15, 16, 17] (kX9_flowStatement hE N) (gCo_of (by decide +kernel)) (by rw [hR]; exact ⟨by decide, by decide⟩) rfl rfl (by decide +kernel) gw6_191 gw6_193 gw0_48 gw1_11 gw6_194 (by decide +kernel : decode cX9_readStatement 42 = .ok (.invokevirtual 191, 3)) ?_)
      refine sm_mask ?_
      exact fX9_readStatement_s45 N G hb ho hy hR he hr hE
  · skip
    refine sm_aload_n (pc := 25) G hb (by decide +kernel : decode cX9_readStatement 25 = .ok (.aload_n 0, 1)) rfl ?_
    refine sm_mono (cav_sub gV_sub) (sm_callV (pc := 26) (N := 32) (T := TX9) (C := RX9) G hb ho hy he hE.1 1 [0, 1, 2, 3, 4, 5, 6, 7, 8, 9, 10, 11, 12, 13, 14, 15, 16, 17] (kX9_conflictStatement hE N) (gCo_of (by decide +kernel)) (by rw [hR]; exact ⟨by decide, by decide⟩) rfl rfl (by decide +kernel) gw6_183 gw6_185 gw0_47 gw1_11 gw6_186 (by decide +kernel : decode cX9_readStatement 26 = .ok (.invokevirtual 186, 3)) ?_)
    refine sm_goto (pc := 29) (tgt := 159) G hb (by decide +kernel : decode cX9_readStatement 29 = .ok (.goto 130, 3)) (by decide) ?_
    exact sm_vret (pc := 159) G hb (by decide +kernel : decode cX9_readStatement 159 = .ok (.return_, 1)) hr
set_option maxRecDepth 100000 in
set_option maxHeartbeats 4000000 in
theorem fX9_readStatement_s0 {γ : gG} {cs ss : Nat} {ε : gE5} (N : Nat) (G : gOK γ) (hb : gcc γ = cX9_readStatement) (ho : gow γ = RX9) (hy : gly γ = gyM) (hR : grm γ = { frames := 6, cells := 0, slots := 0, locals := 132 }) (he : genv γ = ε) (hr : grt γ = none) (hE : gEnv ε) : gSm γ cs ss 0 (fX9_readStatement_k0 N) := by
  unfold fX9_readStatement_k0
  refine sm_aload_n (pc := 0) G hb (by decide +kernel : decode cX9_readStatement 0 = .ok (.aload_n 0, 1)) rfl ?_
  refine sm_ldcs (pc := 1) (i := 14) (tx := "link") G hb ho he hE (List.mem_of_getElem? (i := 14) rfl) (by decide +kernel : decode cX9_readStatement 1 = .ok (.ldc 179, 2)) ?_
  refine sm_mono (cav_sub gI_sub) (sm_callV (pc := 3) (N := 32) (T := TX9) (C := RX9) G hb ho hy he hE.1 2 [0, 1, 2, 3, 4, 5, 6, 7, 8, 9, 10, 11, 12, 13, 14, 15, 16, 17] (kX9_isWord hE N) (gCo_of (by decide +kernel)) (by rw [hR]; exact ⟨by decide, by decide⟩) rfl rfl (by decide +kernel) gw6_140 gw6_142 gw0_38 gw1_11 gw6_143 (by decide +kernel : decode cX9_readStatement 3 = .ok (.invokevirtual 175, 3)) ?_)
  refine sm_if_eq (pc := 6) (tgt := 16) G hb (by decide +kernel : decode cX9_readStatement 6 = .ok (.ifCond .eq 10, 3)) (by decide) ?_ ?_
  · skip
    refine sm_aload_n (pc := 16) G hb (by decide +kernel : decode cX9_readStatement 16 = .ok (.aload_n 0, 1)) rfl ?_
    refine sm_ldcs (pc := 17) (i := 15) (tx := "conflict") G hb ho he hE (List.mem_of_getElem? (i := 15) rfl) (by decide +kernel : decode cX9_readStatement 17 = .ok (.ldc 184, 2)) ?_
    refine sm_mono (cav_sub gI_sub) (sm_callV (pc := 19) (N := 32) (T := TX9) (C := RX9) G hb ho hy he hE.1 2 [0, 1, 2, 3, 4, 5, 6, 7, 8, 9, 10, 11, 12, 13, 14, 15, 16, 17] (kX9_isWord hE N) (gCo_of (by decide +kernel)) (by rw [hR]; exact ⟨by decide, by decide⟩) rfl rfl (by decide +kernel) gw6_140 gw6_142 gw0_38 gw1_11 gw6_143 (by decide +kernel : decode cX9_readStatement 19 = .ok (.invokevirtual 175, 3)) ?_)
    refine sm_mask ?_
    exact fX9_readStatement_s22 N G hb ho hy hR he hr hE
  · skip
    refine sm_aload_n (pc := 9) G hb (by decide +kernel : decode cX9_readStatement 9 = .ok (.aload_n 0, 1)) rfl ?_
    refine sm_mono (cav_sub gV_sub) (sm_callV (pc := 10) (N := 32) (T := TX9) (C := RX9) G hb ho hy he hE.1 1 [0, 1, 2, 3, 4, 5, 6, 7, 8, 9, 10, 11, 12, 13, 14, 15, 16, 17] (kX9_linkStatement hE N) (gCo_of (by decide +kernel)) (by rw [hR]; exact ⟨by decide, by decide⟩) rfl rfl (by decide +kernel) gw6_167 gw6_169 gw0_44 gw1_11 gw6_170 (by decide +kernel : decode cX9_readStatement 10 = .ok (.invokevirtual 181, 3)) ?_)
    refine sm_goto (pc := 13) (tgt := 159) G hb (by decide +kernel : decode cX9_readStatement 13 = .ok (.goto 146, 3)) (by decide) ?_
    exact sm_vret (pc := 159) G hb (by decide +kernel : decode cX9_readStatement 159 = .ok (.return_, 1)) hr
theorem kX9_readStatement {ε : gE5} (hE : gEnv ε) (N : Nat) : gCtr ε yX9_readStatement cX9_readStatement 1 none 6 132 gyM (fX9_readStatement N) :=
  gCtr_of hE.1 (by decide) (fun γ G hb ho hy hR he hr => fX9_readStatement_s0 N G hb ho hy hR he hr hE)

set_option maxRecDepth 100000 in
set_option maxHeartbeats 4000000 in
theorem fX9_parse_s91 {γ : gG} {cs ss : Nat} {ε : gE5} (N : Nat) (G : gOK γ) (hb : gcc γ = cX9_parse) (ho : gow γ = RX9) (hy : gly γ = gyM) (hR : grm γ = { frames := 7, cells := 0, slots := 0, locals := 152 }) (he : genv γ = ε) (hr : grt γ = (some .int)) (hE : gEnv ε) : gSm γ cs ss 91 (fX9_parse_k91 N) := by
  unfold fX9_parse_k91
  refine sm_aload_n (pc := 91) G hb (by decide +kernel : decode cX9_parse 91 = .ok (.aload_n 0, 1)) rfl ?_
  refine sm_mono (cav_sub gI_sub) (sm_callV (pc := 92) (N := 32) (T := TX9) (C := RX9) G hb ho hy he hE.1 1 [0, 1, 2, 3, 4, 5, 6, 7, 8, 9, 10, 11, 12, 13, 14, 15, 16, 17] (kX9_isGood hE N) (gCo_of (by decide +kernel)) (by rw [hR]; exact ⟨by decide, by decide⟩) rfl rfl (by decide +kernel) gw6_144 gw6_146 gw0_39 gw1_11 gw6_147 (by decide +kernel : decode cX9_parse 92 = .ok (.invokevirtual 127, 3)) ?_)
  refine sm_if_eq (pc := 95) (tgt := 109) G hb (by decide +kernel : decode cX9_parse 95 = .ok (.ifCond .eq 14, 3)) (by decide) ?_ ?_
  · skip
    refine sm_aload_n (pc := 109) G hb (by decide +kernel : decode cX9_parse 109 = .ok (.aload_n 0, 1)) rfl ?_
    refine sm_get (pc := 110) (ci := 9) (j := 7) (N := 32) (T := TX9) G hb ho hy rfl (by decide) gin_9 gw6_3 (by decide +kernel : decode cX9_parse 110 = .ok (.getfield 124, 3)) ?_
    exact sm_iret (pc := 113) G hb (by decide +kernel : decode cX9_parse 113 = .ok (.ireturn, 1)) hr
  · skip
    refine sm_aload_n (pc := 98) G hb (by decide +kernel : decode cX9_parse 98 = .ok (.aload_n 0, 1)) rfl ?_
    refine sm_get (pc := 99) (ci := 9) (j := 5) (N := 32) (T := TX9) G hb ho hy rfl (by decide) gin_9 gw6_1 (by decide +kernel : decode cX9_parse 99 = .ok (.getfield 112, 3)) ?_
    refine sm_if_eq (pc := 102) (tgt := 109) G hb (by decide +kernel : decode cX9_parse 102 = .ok (.ifCond .eq 7, 3)) (by decide) ?_ ?_
    · skip
      refine sm_aload_n (pc := 109) G hb (by decide +kernel : decode cX9_parse 109 = .ok (.aload_n 0, 1)) rfl ?_
      refine sm_get (pc := 110) (ci := 9) (j := 7) (N := 32) (T := TX9) G hb ho hy rfl (by decide) gin_9 gw6_3 (by decide +kernel : decode cX9_parse 110 = .ok (.getfield 124, 3)) ?_
      exact sm_iret (pc := 113) G hb (by decide +kernel : decode cX9_parse 113 = .ok (.ireturn, 1)) hr
    · skip
      refine sm_aload_n (pc := 105) G hb (by decide +kernel : decode cX9_parse 105 = .ok (.aload_n 0, 1)) rfl ?_
      refine sm_mono (cav_sub gV_sub) (sm_callV (pc := 106) (N := 32) (T := TX9) (C := RX9) G hb ho hy he hE.1 1 [0, 1, 2, 3, 4, 5, 6, 7, 8, 9, 10, 11, 12, 13, 14, 15, 16, 17] (kX9_fail hE N) (gCo_of (by decide +kernel)) (by rw [hR]; exact ⟨by decide, by decide⟩) rfl rfl (by decide +kernel) gw6_158 gw6_160 gw0_42 gw1_11 gw6_161 (by decide +kernel : decode cX9_parse 106 = .ok (.invokevirtual 144, 3)) ?_)
      refine sm_aload_n (pc := 109) G hb (by decide +kernel : decode cX9_parse 109 = .ok (.aload_n 0, 1)) rfl ?_
      refine sm_get (pc := 110) (ci := 9) (j := 7) (N := 32) (T := TX9) G hb ho hy rfl (by decide) gin_9 gw6_3 (by decide +kernel : decode cX9_parse 110 = .ok (.getfield 124, 3)) ?_
      exact sm_iret (pc := 113) G hb (by decide +kernel : decode cX9_parse 113 = .ok (.ireturn, 1)) hr
set_option maxRecDepth 100000 in
set_option maxHeartbeats 4000000 in
theorem fX9_parse_s88 {γ : gG} {cs ss : Nat} {ε : gE5} (N : Nat) (G : gOK γ) (hb : gcc γ = cX9_parse) (ho : gow γ = RX9) (hy : gly γ = gyM) (hR : grm γ = { frames := 7, cells := 0, slots := 0, locals := 152 }) (he : genv γ = ε) (hr : grt γ = (some .int)) (hE : gEnv ε) (K51 : gK) (h51 : gSm γ cs ss 51 K51) : gSm γ cs ss 88 (fX9_parse_k88 N K51) := by
  unfold fX9_parse_k88
  refine sm_goto (pc := 88) (tgt := 51) G hb (by decide +kernel : decode cX9_parse 88 = .ok (.goto (-37), 3)) (by decide) ?_
  refine sm_mask ?_
  exact h51
set_option maxRecDepth 100000 in
set_option maxHeartbeats 4000000 in
theorem fX9_parse_s51 {γ : gG} {cs ss : Nat} {ε : gE5} (N : Nat) (G : gOK γ) (hb : gcc γ = cX9_parse) (ho : gow γ = RX9) (hy : gly γ = gyM) (hR : grm γ = { frames := 7, cells := 0, slots := 0, locals := 152 }) (he : genv γ = ε) (hr : grt γ = (some .int)) (hE : gEnv ε) : gSm γ cs ss 51 (fX9_parse_k51 N) := by
  unfold fX9_parse_k51
  refine sm_lp (fun K51 h51 => ?_) N
  unfold fX9_parse_b51
  refine sm_aload_n (pc := 51) G hb (by decide +kernel : decode cX9_parse 51 = .ok (.aload_n 0, 1)) rfl ?_
  refine sm_mono (cav_sub gI_sub) (sm_callV (pc := 52) (N := 32) (T := TX9) (C := RX9) G hb ho hy he hE.1 1 [0, 1, 2, 3, 4, 5, 6, 7, 8, 9, 10, 11, 12, 13, 14, 15, 16, 17] (kX9_isGood hE N) (gCo_of (by decide +kernel)) (by rw [hR]; exact ⟨by decide, by decide⟩) rfl rfl (by decide +kernel) gw6_144 gw6_146 gw0_39 gw1_11 gw6_147 (by decide +kernel : decode cX9_parse 52 = .ok (.invokevirtual 127, 3)) ?_)
  refine sm_if_eq (pc := 55) (tgt := 91) G hb (by decide +kernel : decode cX9_parse 55 = .ok (.ifCond .eq 36, 3)) (by decide) ?_ ?_
  · skip
    refine sm_mask ?_
    exact fX9_parse_s91 N G hb ho hy hR he hr hE
  · skip
    refine sm_aload_n (pc := 58) G hb (by decide +kernel : decode cX9_parse 58 = .ok (.aload_n 0, 1)) rfl ?_
    refine sm_get (pc := 59) (ci := 9) (j := 5) (N := 32) (T := TX9) G hb ho hy rfl (by decide) gin_9 gw6_1 (by decide +kernel : decode cX9_parse 59 = .ok (.getfield 112, 3)) ?_
    refine sm_iconst (pc := 62) G hb (by decide +kernel : decode cX9_parse 62 = .ok (.iconst 3, 1)) (by decide) ?_
    refine sm_icmp_ne (pc := 63) (tgt := 91) G hb (by decide +kernel : decode cX9_parse 63 = .ok (.if_icmp .ne 28, 3)) (by decide) ?_ ?_
    · skip
      refine sm_mask ?_
      exact fX9_parse_s91 N G hb ho hy hR he hr hE
    · skip
      refine sm_aload_n (pc := 66) G hb (by decide +kernel : decode cX9_parse 66 = .ok (.aload_n 0, 1)) rfl ?_
      refine sm_get (pc := 67) (ci := 9) (j := 1) (N := 32) (T := TX9) G hb ho hy rfl (by decide) gin_9 gw5_237 (by decide +kernel : decode cX9_parse 67 = .ok (.getfield 9, 3)) ?_
      refine sm_aload_n (pc := 70) G hb (by decide +kernel : decode cX9_parse 70 = .ok (.aload_n 0, 1)) rfl ?_
      refine sm_get (pc := 71) (ci := 9) (j := 4) (N := 32) (T := TX9) G hb ho hy rfl (by decide) gin_9 gw6_0 (by decide +kernel : decode cX9_parse 71 = .ok (.getfield 102, 3)) ?_
      refine sm_iald (pc := 74) G hb hy (by decide +kernel : decode cX9_parse 74 = .ok (.iaload, 1)) ?_
      refine sm_bipush (pc := 75) G hb (by decide +kernel : decode cX9_parse 75 = .ok (.bipush 59, 2)) (by decide) ?_
      refine sm_icmp_ne (pc := 77) (tgt := 91) G hb (by decide +kernel : decode cX9_parse 77 = .ok (.if_icmp .ne 14, 3)) (by decide) ?_ ?_
      · skip
        refine sm_mask ?_
        exact fX9_parse_s91 N G hb ho hy hR he hr hE
      · skip
        refine sm_aload_n (pc := 80) G hb (by decide +kernel : decode cX9_parse 80 = .ok (.aload_n 0, 1)) rfl ?_
        refine sm_mono (cav_sub gV_sub) (sm_callV (pc := 81) (N := 32) (T := TX9) (C := RX9) G hb ho hy he hE.1 1 [0, 1, 2, 3, 4, 5, 6, 7, 8, 9, 10, 11, 12, 13, 14, 15, 16, 17] (kX9_step hE N) (gCo_of (by decide +kernel)) (by rw [hR]; exact ⟨by decide, by decide⟩) rfl rfl (by decide +kernel) gw6_124 gw6_126 gw0_36 gw1_11 gw6_127 (by decide +kernel : decode cX9_parse 81 = .ok (.invokevirtual 147, 3)) ?_)
        refine sm_aload_n (pc := 84) G hb (by decide +kernel : decode cX9_parse 84 = .ok (.aload_n 0, 1)) rfl ?_
        refine sm_mono (cav_sub gV_sub) (sm_callV (pc := 85) (N := 32) (T := TX9) (C := RX9) G hb ho hy he hE.1 1 [0, 1, 2, 3, 4, 5, 6, 7, 8, 9, 10, 11, 12, 13, 14, 15, 16, 17] (kX9_readStatement hE N) (gCo_of (by decide +kernel)) (by rw [hR]; exact ⟨by decide, by decide⟩) rfl rfl (by decide +kernel) gw6_162 gw6_164 gw0_43 gw1_11 gw6_165 (by decide +kernel : decode cX9_parse 85 = .ok (.invokevirtual 220, 3)) ?_)
        refine sm_mask ?_
        exact fX9_parse_s88 N G hb ho hy hR he hr hE K51 h51
set_option maxRecDepth 100000 in
set_option maxHeartbeats 4000000 in
theorem fX9_parse_s24 {γ : gG} {cs ss : Nat} {ε : gE5} (N : Nat) (G : gOK γ) (hb : gcc γ = cX9_parse) (ho : gow γ = RX9) (hy : gly γ = gyM) (hR : grm γ = { frames := 7, cells := 0, slots := 0, locals := 152 }) (he : genv γ = ε) (hr : grt γ = (some .int)) (hE : gEnv ε) : gSm γ cs ss 24 (fX9_parse_k24 N) := by
  unfold fX9_parse_k24
  refine sm_if_eq (pc := 24) (tgt := 47) G hb (by decide +kernel : decode cX9_parse 24 = .ok (.ifCond .eq 23, 3)) (by decide) ?_ ?_
  · skip
    refine sm_aload_n (pc := 47) G hb (by decide +kernel : decode cX9_parse 47 = .ok (.aload_n 0, 1)) rfl ?_
    refine sm_mono (cav_sub gV_sub) (sm_callV (pc := 48) (N := 32) (T := TX9) (C := RX9) G hb ho hy he hE.1 1 [0, 1, 2, 3, 4, 5, 6, 7, 8, 9, 10, 11, 12, 13, 14, 15, 16, 17] (kX9_fail hE N) (gCo_of (by decide +kernel)) (by rw [hR]; exact ⟨by decide, by decide⟩) rfl rfl (by decide +kernel) gw6_158 gw6_160 gw0_42 gw1_11 gw6_161 (by decide +kernel : decode cX9_parse 48 = .ok (.invokevirtual 144, 3)) ?_)
    refine sm_mask ?_
    exact fX9_parse_s51 N G hb ho hy hR he hr hE
  · skip
    refine sm_aload_n (pc := 27) G hb (by decide +kernel : decode cX9_parse 27 = .ok (.aload_n 0, 1)) rfl ?_
    refine sm_mono (cav_sub gV_sub) (sm_callV (pc := 28) (N := 32) (T := TX9) (C := RX9) G hb ho hy he hE.1 1 [0, 1, 2, 3, 4, 5, 6, 7, 8, 9, 10, 11, 12, 13, 14, 15, 16, 17] (kX9_step hE N) (gCo_of (by decide +kernel)) (by rw [hR]; exact ⟨by decide, by decide⟩) rfl rfl (by decide +kernel) gw6_124 gw6_126 gw0_36 gw1_11 gw6_127 (by decide +kernel : decode cX9_parse 28 = .ok (.invokevirtual 147, 3)) ?_)
    refine sm_aload_n (pc := 31) G hb (by decide +kernel : decode cX9_parse 31 = .ok (.aload_n 0, 1)) rfl ?_
    refine sm_get (pc := 32) (ci := 9) (j := 8) (N := 32) (T := TX9) G hb ho hy rfl (by decide) gin_9 gw6_4 (by decide +kernel : decode cX9_parse 32 = .ok (.getfield 13, 3)) ?_
    refine sm_iconst (pc := 35) G hb (by decide +kernel : decode cX9_parse 35 = .ok (.iconst 0, 1)) (by decide) ?_
    refine sm_aload_n (pc := 36) G hb (by decide +kernel : decode cX9_parse 36 = .ok (.aload_n 0, 1)) rfl ?_
    refine sm_iconst (pc := 37) G hb (by decide +kernel : decode cX9_parse 37 = .ok (.iconst 2, 1)) (by decide) ?_
    refine sm_bipush (pc := 38) G hb (by decide +kernel : decode cX9_parse 38 = .ok (.bipush 10, 2)) (by decide) ?_
    refine sm_mono (cav_sub gI_sub) (sm_callV (pc := 40) (N := 32) (T := TX9) (C := RX9) G hb ho hy he hE.1 3 [0, 1, 2, 3, 4, 5, 6, 7, 8, 9, 10, 11, 12, 13, 14, 15, 16, 17] (kX9_takeNumber hE N) (gCo_of (by decide +kernel)) (by rw [hR]; exact ⟨by decide, by decide⟩) rfl rfl (by decide +kernel) gw6_150 gw6_152 gw0_40 gw1_11 gw6_153 (by decide +kernel : decode cX9_parse 40 = .ok (.invokevirtual 156, 3)) ?_)
    refine sm_iast (pc := 43) G hb hy (by decide +kernel : decode cX9_parse 43 = .ok (.iastore, 1)) ?_
    refine sm_goto (pc := 44) (tgt := 51) G hb (by decide +kernel : decode cX9_parse 44 = .ok (.goto 7, 3)) (by decide) ?_
    refine sm_mask ?_
    exact fX9_parse_s51 N G hb ho hy hR he hr hE
set_option maxRecDepth 100000 in
set_option maxHeartbeats 4000000 in
theorem fX9_parse_s0 {γ : gG} {cs ss : Nat} {ε : gE5} (N : Nat) (G : gOK γ) (hb : gcc γ = cX9_parse) (ho : gow γ = RX9) (hy : gly γ = gyM) (hR : grm γ = { frames := 7, cells := 0, slots := 0, locals := 152 }) (he : genv γ = ε) (hr : grt γ = (some .int)) (hE : gEnv ε) : gSm γ cs ss 0 (fX9_parse_k0 N) := by
  unfold fX9_parse_k0
  refine sm_aload_n (pc := 0) G hb (by decide +kernel : decode cX9_parse 0 = .ok (.aload_n 0, 1)) rfl ?_
  refine sm_iconst (pc := 1) G hb (by decide +kernel : decode cX9_parse 1 = .ok (.iconst 0, 1)) (by decide) ?_
  refine sm_put (pc := 2) (ci := 9) (j := 3) (N := 32) (T := TX9) G hb ho hy tyX9 tyX9_ok nmX9 rfl (by decide) gin_9 gw5_239 rfl rfl (by decide +kernel : decode cX9_parse 2 = .ok (.putfield 95, 3)) ?_
  refine sm_aload_n (pc := 5) G hb (by decide +kernel : decode cX9_parse 5 = .ok (.aload_n 0, 1)) rfl ?_
  refine sm_iconst (pc := 6) G hb (by decide +kernel : decode cX9_parse 6 = .ok (.iconst (-1), 1)) (by decide) ?_
  refine sm_put (pc := 7) (ci := 9) (j := 7) (N := 32) (T := TX9) G hb ho hy tyX9 tyX9_ok nmX9 rfl (by decide) gin_9 gw6_3 rfl rfl (by decide +kernel : decode cX9_parse 7 = .ok (.putfield 124, 3)) ?_
  refine sm_aload_n (pc := 10) G hb (by decide +kernel : decode cX9_parse 10 = .ok (.aload_n 0, 1)) rfl ?_
  refine sm_mono (cav_sub gV_sub) (sm_callV (pc := 11) (N := 32) (T := TX9) (C := RX9) G hb ho hy he hE.1 1 [0, 1, 2, 3, 4, 5, 6, 7, 8, 9, 10, 11, 12, 13, 14, 15, 16, 17] (kX9_begin hE N) (gCo_of (by decide +kernel)) (by rw [hR]; exact ⟨by decide, by decide⟩) rfl rfl (by decide +kernel) gw5_219 gw5_221 gw0_32 gw1_11 gw5_222 (by decide +kernel : decode cX9_parse 11 = .ok (.invokevirtual 62, 3)) ?_)
  refine sm_aload_n (pc := 14) G hb (by decide +kernel : decode cX9_parse 14 = .ok (.aload_n 0, 1)) rfl ?_
  refine sm_mono (cav_sub gV_sub) (sm_callV (pc := 15) (N := 32) (T := TX9) (C := RX9) G hb ho hy he hE.1 1 [0, 1, 2, 3, 4, 5, 6, 7, 8, 9, 10, 11, 12, 13, 14, 15, 16, 17] (kX9_step hE N) (gCo_of (by decide +kernel)) (by rw [hR]; exact ⟨by decide, by decide⟩) rfl rfl (by decide +kernel) gw6_124 gw6_126 gw0_36 gw1_11 gw6_127 (by decide +kernel : decode cX9_parse 15 = .ok (.invokevirtual 147, 3)) ?_)
  refine sm_aload_n (pc := 18) G hb (by decide +kernel : decode cX9_parse 18 = .ok (.aload_n 0, 1)) rfl ?_
  refine sm_ldcs (pc := 19) (i := 13) (tx := "net") G hb ho he hE (List.mem_of_getElem? (i := 13) rfl) (by decide +kernel : decode cX9_parse 19 = .ok (.ldc 218, 2)) ?_
  refine sm_mono (cav_sub gI_sub) (sm_callV (pc := 21) (N := 32) (T := TX9) (C := RX9) G hb ho hy he hE.1 2 [0, 1, 2, 3, 4, 5, 6, 7, 8, 9, 10, 11, 12, 13, 14, 15, 16, 17] (kX9_isWord hE N) (gCo_of (by decide +kernel)) (by rw [hR]; exact ⟨by decide, by decide⟩) rfl rfl (by decide +kernel) gw6_140 gw6_142 gw0_38 gw1_11 gw6_143 (by decide +kernel : decode cX9_parse 21 = .ok (.invokevirtual 175, 3)) ?_)
  refine sm_mask ?_
  exact fX9_parse_s24 N G hb ho hy hR he hr hE
theorem kX9_parse {ε : gE5} (hE : gEnv ε) (N : Nat) : gCtr ε yX9_parse cX9_parse 1 (some .int) 7 152 gyM (fX9_parse N) :=
  gCtr_of hE.1 (by decide) (fun γ G hb ho hy hR he hr => fX9_parse_s0 N G hb ho hy hR he hr hE)

set_option maxRecDepth 100000 in
set_option maxHeartbeats 4000000 in
theorem fX9_errorPosition_s0 {γ : gG} {cs ss : Nat} {ε : gE5} (N : Nat) (G : gOK γ) (hb : gcc γ = cX9_errorPosition) (ho : gow γ = RX9) (hy : gly γ = gyM) (hR : grm γ = { frames := 8, cells := 0, slots := 0, locals := 172 }) (he : genv γ = ε) (hr : grt γ = (some .int)) (hE : gEnv ε) : gSm γ cs ss 0 (fX9_errorPosition_k0 N) := by
  unfold fX9_errorPosition_k0
  refine sm_aload_n (pc := 0) G hb (by decide +kernel : decode cX9_errorPosition 0 = .ok (.aload_n 0, 1)) rfl ?_
  refine sm_iconst (pc := 1) G hb (by decide +kernel : decode cX9_errorPosition 1 = .ok (.iconst 0, 1)) (by decide) ?_
  refine sm_put (pc := 2) (ci := 9) (j := 0) (N := 32) (T := TX9) G hb ho hy tyX9 tyX9_ok nmX9 rfl (by decide) gin_9 gw5_236 rfl rfl (by decide +kernel : decode cX9_errorPosition 2 = .ok (.putfield 76, 3)) ?_
  refine sm_aload_n (pc := 5) G hb (by decide +kernel : decode cX9_errorPosition 5 = .ok (.aload_n 0, 1)) rfl ?_
  refine sm_mono (cav_sub gI_sub) (sm_callV (pc := 6) (N := 32) (T := TX9) (C := RX9) G hb ho hy he hE.1 1 [0, 1, 2, 3, 4, 5, 6, 7, 8, 9, 10, 11, 12, 13, 14, 15, 16, 17] (kX9_parse hE N) (gCo_of (by decide +kernel)) (by rw [hR]; exact ⟨by decide, by decide⟩) rfl rfl (by decide +kernel) gw6_120 gw6_122 gw0_35 gw1_11 gw6_123 (by decide +kernel : decode cX9_errorPosition 6 = .ok (.invokevirtual 223, 3)) ?_)
  exact sm_iret (pc := 9) G hb (by decide +kernel : decode cX9_errorPosition 9 = .ok (.ireturn, 1)) hr
theorem kX9_errorPosition {ε : gE5} (hE : gEnv ε) (N : Nat) : gCtr ε yX9_errorPosition cX9_errorPosition 1 (some .int) 8 172 gyM (fX9_errorPosition N) :=
  gCtr_of hE.1 (by decide) (fun γ G hb ho hy hR he hr => fX9_errorPosition_s0 N G hb ho hy hR he hr hE)

set_option maxRecDepth 100000 in
set_option maxHeartbeats 4000000 in
theorem fX9_copy_s3 {γ : gG} {cs ss : Nat} {ε : gE5} (N : Nat) (n1 n2 : Nat) (G : gOK γ) (hb : gcc γ = cX9_copy) (ho : gow γ = RX9) (hy : gly γ = (gyR2 n1 n2)) (hR : grm γ = { frames := 0, cells := 0, slots := 0, locals := 0 }) (he : genv γ = ε) (hr : grt γ = none) (hE : gEnv ε) : gSm γ cs ss 3 (fX9_copy_k3 N n1 n2) := by
  unfold fX9_copy_k3
  refine sm_lp (fun K3 h3 => ?_) N
  unfold fX9_copy_b3
  refine sm_iload (pc := 3) G hb (by decide +kernel : decode cX9_copy 3 = .ok (.iload 4, 2)) ?_
  refine sm_sipush (pc := 5) G hb (by decide +kernel : decode cX9_copy 5 = .ok (.sipush 2746, 3)) (by decide) ?_
  refine sm_icmp_ge (pc := 8) (tgt := 29) G hb (by decide +kernel : decode cX9_copy 8 = .ok (.if_icmp .ge 21, 3)) (by decide) ?_ ?_
  · skip
    exact sm_vret (pc := 29) G hb (by decide +kernel : decode cX9_copy 29 = .ok (.return_, 1)) hr
  · skip
    refine sm_aload_n (pc := 11) G hb (by decide +kernel : decode cX9_copy 11 = .ok (.aload_n 2, 1)) rfl ?_
    refine sm_iload_n (pc := 12) G hb (by decide +kernel : decode cX9_copy 12 = .ok (.iload_n 3, 1)) rfl ?_
    refine sm_iload (pc := 13) G hb (by decide +kernel : decode cX9_copy 13 = .ok (.iload 4, 2)) ?_
    refine sm_iadd (pc := 15) G hb (by decide +kernel : decode cX9_copy 15 = .ok (.iadd, 1)) ?_
    refine sm_aload_n (pc := 16) G hb (by decide +kernel : decode cX9_copy 16 = .ok (.aload_n 0, 1)) rfl ?_
    refine sm_iload_n (pc := 17) G hb (by decide +kernel : decode cX9_copy 17 = .ok (.iload_n 1, 1)) rfl ?_
    refine sm_iload (pc := 18) G hb (by decide +kernel : decode cX9_copy 18 = .ok (.iload 4, 2)) ?_
    refine sm_iadd (pc := 20) G hb (by decide +kernel : decode cX9_copy 20 = .ok (.iadd, 1)) ?_
    refine sm_iald (pc := 21) G hb hy (by decide +kernel : decode cX9_copy 21 = .ok (.iaload, 1)) ?_
    refine sm_iast (pc := 22) G hb hy (by decide +kernel : decode cX9_copy 22 = .ok (.iastore, 1)) ?_
    refine sm_iinc (pc := 23) G hb (by decide +kernel : decode cX9_copy 23 = .ok (.iinc 4 1, 3)) (by decide) ?_
    refine sm_goto (pc := 26) (tgt := 3) G hb (by decide +kernel : decode cX9_copy 26 = .ok (.goto (-23), 3)) (by decide) ?_
    refine sm_mask ?_
    exact h3
set_option maxRecDepth 100000 in
set_option maxHeartbeats 4000000 in
theorem fX9_copy_s0 {γ : gG} {cs ss : Nat} {ε : gE5} (N : Nat) (n1 n2 : Nat) (G : gOK γ) (hb : gcc γ = cX9_copy) (ho : gow γ = RX9) (hy : gly γ = (gyR2 n1 n2)) (hR : grm γ = { frames := 0, cells := 0, slots := 0, locals := 0 }) (he : genv γ = ε) (hr : grt γ = none) (hE : gEnv ε) : gSm γ cs ss 0 (fX9_copy_k0 N n1 n2) := by
  unfold fX9_copy_k0
  refine sm_iconst (pc := 0) G hb (by decide +kernel : decode cX9_copy 0 = .ok (.iconst 0, 1)) (by decide) ?_
  refine sm_istore (pc := 1) G hb (by decide +kernel : decode cX9_copy 1 = .ok (.istore 4, 2)) ?_
  refine sm_mask ?_
  exact fX9_copy_s3 N n1 n2 G hb ho hy hR he hr hE
theorem kX9_copy {ε : gE5} (hE : gEnv ε) (N : Nat) (n1 n2 : Nat) : gCtr ε yX9_copy cX9_copy 5 none 0 0 (gyR2 n1 n2) (fX9_copy N n1 n2) :=
  gCtr_of hE.1 (by decide) (fun γ G hb ho hy hR he hr => fX9_copy_s0 N n1 n2 G hb ho hy hR he hr hE)

set_option maxRecDepth 100000 in
set_option maxHeartbeats 4000000 in
theorem fX9_takeRead_s0 {γ : gG} {cs ss : Nat} {ε : gE5} (N : Nat) (G : gOK γ) (hb : gcc γ = cX9_takeRead) (ho : gow γ = RX9) (hy : gly γ = gyM) (hR : grm γ = { frames := 1, cells := 0, slots := 0, locals := 24 }) (he : genv γ = ε) (hr : grt γ = none) (hE : gEnv ε) : gSm γ cs ss 0 (fX9_takeRead_k0 N) := by
  unfold fX9_takeRead_k0
  refine sm_aload_n (pc := 0) G hb (by decide +kernel : decode cX9_takeRead 0 = .ok (.aload_n 0, 1)) rfl ?_
  refine sm_get (pc := 1) (ci := 9) (j := 8) (N := 32) (T := TX9) G hb ho hy rfl (by decide) gin_9 gw6_4 (by decide +kernel : decode cX9_takeRead 1 = .ok (.getfield 13, 3)) ?_
  refine sm_iconst (pc := 4) G hb (by decide +kernel : decode cX9_takeRead 4 = .ok (.iconst 0, 1)) (by decide) ?_
  refine sm_aload_n (pc := 5) G hb (by decide +kernel : decode cX9_takeRead 5 = .ok (.aload_n 0, 1)) rfl ?_
  refine sm_get (pc := 6) (ci := 9) (j := 9) (N := 32) (T := TX9) G hb ho hy rfl (by decide) gin_9 gw6_5 (by decide +kernel : decode cX9_takeRead 6 = .ok (.getfield 16, 3)) ?_
  refine sm_iconst (pc := 9) G hb (by decide +kernel : decode cX9_takeRead 9 = .ok (.iconst 0, 1)) (by decide) ?_
  refine sm_mono (ca_sub gV_sub) (sm_callS (pc := 10) G hb ho hy he hE.1 4 [2, 3] (kX9_copy hE N 2746 2746) ⟨rfl, rfl, by decide⟩ (by rw [hR]; exact ⟨by decide, by decide⟩) (by decide +kernel) gw5_233 gw5_234 gw1_11 gw5_235 (by decide +kernel : decode cX9_takeRead 10 = .ok (.invokestatic 226, 3)) ?_)
  refine sm_aload_n (pc := 13) G hb (by decide +kernel : decode cX9_takeRead 13 = .ok (.aload_n 0, 1)) rfl ?_
  refine sm_iconst (pc := 14) G hb (by decide +kernel : decode cX9_takeRead 14 = .ok (.iconst 0, 1)) (by decide) ?_
  refine sm_put (pc := 15) (ci := 9) (j := 13) (N := 32) (T := TX9) G hb ho hy tyX9 tyX9_ok nmX9 rfl (by decide) gin_9 gw6_9 rfl rfl (by decide +kernel : decode cX9_takeRead 15 = .ok (.putfield 230, 3)) ?_
  refine sm_aload_n (pc := 18) G hb (by decide +kernel : decode cX9_takeRead 18 = .ok (.aload_n 0, 1)) rfl ?_
  refine sm_iconst (pc := 19) G hb (by decide +kernel : decode cX9_takeRead 19 = .ok (.iconst 0, 1)) (by decide) ?_
  refine sm_putz (pc := 20) (ci := 9) (j := 16) (N := 32) (T := TX9) G hb ho hy tyX9 tyX9_ok nmX9 rfl (by decide) gin_9 gw6_12 rfl rfl (by decide +kernel : decode cX9_takeRead 20 = .ok (.putfield 233, 3)) ?_
  exact sm_vret (pc := 23) G hb (by decide +kernel : decode cX9_takeRead 23 = .ok (.return_, 1)) hr
theorem kX9_takeRead {ε : gE5} (hE : gEnv ε) (N : Nat) : gCtr ε yX9_takeRead cX9_takeRead 1 none 1 24 gyM (fX9_takeRead N) :=
  gCtr_of hE.1 (by decide) (fun γ G hb ho hy hR he hr => fX9_takeRead_s0 N G hb ho hy hR he hr hE)

set_option maxRecDepth 100000 in
set_option maxHeartbeats 4000000 in
theorem fX9_load_s18 {γ : gG} {cs ss : Nat} {ε : gE5} (N : Nat) (G : gOK γ) (hb : gcc γ = cX9_load) (ho : gow γ = RX9) (hy : gly γ = gyM) (hR : grm γ = { frames := 8, cells := 0, slots := 0, locals := 172 }) (he : genv γ = ε) (hr : grt γ = (some .int)) (hE : gEnv ε) : gSm γ cs ss 18 (fX9_load_k18 N) := by
  unfold fX9_load_k18
  refine sm_iconst (pc := 18) G hb (by decide +kernel : decode cX9_load 18 = .ok (.iconst 1, 1)) (by decide) ?_
  refine sm_mono (cav_sub gI_sub) (sm_callV (pc := 19) (N := 32) (T := TX9) (C := RX9) G hb ho hy he hE.1 3 [0, 1, 2, 3, 4, 5, 6, 7, 8, 9, 10, 11, 12, 13, 14, 15, 16, 17] (kX9_fails hE N) (gCo_of (by decide +kernel)) (by rw [hR]; exact ⟨by decide, by decide⟩) rfl rfl (by decide +kernel) gw6_105 gw6_107 gw0_34 gw1_11 gw6_108 (by decide +kernel : decode cX9_load 19 = .ok (.invokevirtual 87, 3)) ?_)
  refine sm_if_eq (pc := 22) (tgt := 27) G hb (by decide +kernel : decode cX9_load 22 = .ok (.ifCond .eq 5, 3)) (by decide) ?_ ?_
  · skip
    refine sm_aload_n (pc := 27) G hb (by decide +kernel : decode cX9_load 27 = .ok (.aload_n 0, 1)) rfl ?_
    refine sm_mono (cav_sub gV_sub) (sm_callV (pc := 28) (N := 32) (T := TX9) (C := RX9) G hb ho hy he hE.1 1 [0, 1, 2, 3, 4, 5, 6, 7, 8, 9, 10, 11, 12, 13, 14, 15, 16, 17] (kX9_takeRead hE N) (gCo_of (by decide +kernel)) (by rw [hR]; exact ⟨by decide, by decide⟩) rfl rfl (by decide +kernel) gw5_229 gw5_231 gw0_33 gw1_11 gw5_232 (by decide +kernel : decode cX9_load 28 = .ok (.invokevirtual 73, 3)) ?_)
    refine sm_aload_n (pc := 31) G hb (by decide +kernel : decode cX9_load 31 = .ok (.aload_n 0, 1)) rfl ?_
    refine sm_iconst (pc := 32) G hb (by decide +kernel : decode cX9_load 32 = .ok (.iconst 0, 1)) (by decide) ?_
    refine sm_put (pc := 33) (ci := 9) (j := 2) (N := 32) (T := TX9) G hb ho hy tyX9 tyX9_ok nmX9 rfl (by decide) gin_9 gw5_238 rfl rfl (by decide +kernel : decode cX9_load 33 = .ok (.putfield 84, 3)) ?_
    refine sm_aload_n (pc := 36) G hb (by decide +kernel : decode cX9_load 36 = .ok (.aload_n 0, 1)) rfl ?_
    refine sm_get (pc := 37) (ci := 9) (j := 9) (N := 32) (T := TX9) G hb ho hy rfl (by decide) gin_9 gw6_5 (by decide +kernel : decode cX9_load 37 = .ok (.getfield 16, 3)) ?_
    refine sm_iconst (pc := 40) G hb (by decide +kernel : decode cX9_load 40 = .ok (.iconst 1, 1)) (by decide) ?_
    refine sm_iald (pc := 41) G hb hy (by decide +kernel : decode cX9_load 41 = .ok (.iaload, 1)) ?_
    exact sm_iret (pc := 42) G hb (by decide +kernel : decode cX9_load 42 = .ok (.ireturn, 1)) hr
  · skip
    refine sm_iconst (pc := 25) G hb (by decide +kernel : decode cX9_load 25 = .ok (.iconst 0, 1)) (by decide) ?_
    exact sm_iret (pc := 26) G hb (by decide +kernel : decode cX9_load 26 = .ok (.ireturn, 1)) hr
set_option maxRecDepth 100000 in
set_option maxHeartbeats 4000000 in
theorem fX9_load_s0 {γ : gG} {cs ss : Nat} {ε : gE5} (N : Nat) (G : gOK γ) (hb : gcc γ = cX9_load) (ho : gow γ = RX9) (hy : gly γ = gyM) (hR : grm γ = { frames := 8, cells := 0, slots := 0, locals := 172 }) (he : genv γ = ε) (hr : grt γ = (some .int)) (hE : gEnv ε) : gSm γ cs ss 0 (fX9_load_k0 N) := by
  unfold fX9_load_k0
  refine sm_aload_n (pc := 0) G hb (by decide +kernel : decode cX9_load 0 = .ok (.aload_n 0, 1)) rfl ?_
  refine sm_iconst (pc := 1) G hb (by decide +kernel : decode cX9_load 1 = .ok (.iconst 0, 1)) (by decide) ?_
  refine sm_put (pc := 2) (ci := 9) (j := 0) (N := 32) (T := TX9) G hb ho hy tyX9 tyX9_ok nmX9 rfl (by decide) gin_9 gw5_236 rfl rfl (by decide +kernel : decode cX9_load 2 = .ok (.putfield 76, 3)) ?_
  refine sm_aload_n (pc := 5) G hb (by decide +kernel : decode cX9_load 5 = .ok (.aload_n 0, 1)) rfl ?_
  refine sm_aload_n (pc := 6) G hb (by decide +kernel : decode cX9_load 6 = .ok (.aload_n 0, 1)) rfl ?_
  refine sm_mono (cav_sub gI_sub) (sm_callV (pc := 7) (N := 32) (T := TX9) (C := RX9) G hb ho hy he hE.1 1 [0, 1, 2, 3, 4, 5, 6, 7, 8, 9, 10, 11, 12, 13, 14, 15, 16, 17] (kX9_parse hE N) (gCo_of (by decide +kernel)) (by rw [hR]; exact ⟨by decide, by decide⟩) rfl rfl (by decide +kernel) gw6_120 gw6_122 gw0_35 gw1_11 gw6_123 (by decide +kernel : decode cX9_load 7 = .ok (.invokevirtual 223, 3)) ?_)
  refine sm_if_ge (pc := 10) (tgt := 17) G hb (by decide +kernel : decode cX9_load 10 = .ok (.ifCond .ge 7, 3)) (by decide) ?_ ?_
  · skip
    refine sm_iconst (pc := 17) G hb (by decide +kernel : decode cX9_load 17 = .ok (.iconst 0, 1)) (by decide) ?_
    refine sm_mask ?_
    exact fX9_load_s18 N G hb ho hy hR he hr hE
  · skip
    refine sm_iconst (pc := 13) G hb (by decide +kernel : decode cX9_load 13 = .ok (.iconst 1, 1)) (by decide) ?_
    refine sm_goto (pc := 14) (tgt := 18) G hb (by decide +kernel : decode cX9_load 14 = .ok (.goto 4, 3)) (by decide) ?_
    refine sm_mask ?_
    exact fX9_load_s18 N G hb ho hy hR he hr hE
theorem kX9_load {ε : gE5} (hE : gEnv ε) (N : Nat) : gCtr ε yX9_load cX9_load 1 (some .int) 8 172 gyM (fX9_load N) :=
  gCtr_of hE.1 (by decide) (fun γ G hb ho hy hR he hr => fX9_load_s0 N G hb ho hy hR he hr hE)

set_option maxRecDepth 100000 in
set_option maxHeartbeats 4000000 in
theorem fX9_record_s52 {γ : gG} {cs ss : Nat} {ε : gE5} (N : Nat) (G : gOK γ) (hb : gcc γ = cX9_record) (ho : gow γ = RX9) (hy : gly γ = gyM) (hR : grm γ = { frames := 1, cells := 0, slots := 0, locals := 24 }) (he : genv γ = ε) (hr : grt γ = none) (hE : gEnv ε) : gSm γ cs ss 52 (fX9_record_k52 N) := by
  unfold fX9_record_k52
  refine sm_aload_n (pc := 52) G hb (by decide +kernel : decode cX9_record 52 = .ok (.aload_n 0, 1)) rfl ?_
  refine sm_get (pc := 53) (ci := 9) (j := 9) (N := 32) (T := TX9) G hb ho hy rfl (by decide) gin_9 gw6_5 (by decide +kernel : decode cX9_record 53 = .ok (.getfield 16, 3)) ?_
  refine sm_iconst (pc := 56) G hb (by decide +kernel : decode cX9_record 56 = .ok (.iconst 0, 1)) (by decide) ?_
  refine sm_aload_n (pc := 57) G hb (by decide +kernel : decode cX9_record 57 = .ok (.aload_n 0, 1)) rfl ?_
  refine sm_get (pc := 58) (ci := 9) (j := 12) (N := 32) (T := TX9) G hb ho hy rfl (by decide) gin_9 gw6_8 (by decide +kernel : decode cX9_record 58 = .ok (.getfield 25, 3)) ?_
  refine sm_sipush (pc := 61) G hb (by decide +kernel : decode cX9_record 61 = .ok (.sipush 2746, 3)) (by decide) ?_
  refine sm_aload_n (pc := 64) G hb (by decide +kernel : decode cX9_record 64 = .ok (.aload_n 0, 1)) rfl ?_
  refine sm_get (pc := 65) (ci := 9) (j := 13) (N := 32) (T := TX9) G hb ho hy rfl (by decide) gin_9 gw6_9 (by decide +kernel : decode cX9_record 65 = .ok (.getfield 230, 3)) ?_
  refine sm_imul (pc := 68) G hb (by decide +kernel : decode cX9_record 68 = .ok (.imul, 1)) ?_
  refine sm_mono (ca_sub gV_sub) (sm_callS (pc := 69) G hb ho hy he hE.1 4 [3, 6] (kX9_copy hE N 2746 16476) ⟨rfl, rfl, by decide⟩ (by rw [hR]; exact ⟨by decide, by decide⟩) (by decide +kernel) gw5_233 gw5_234 gw1_11 gw5_235 (by decide +kernel : decode cX9_record 69 = .ok (.invokestatic 226, 3)) ?_)
  refine sm_aload_n (pc := 72) G hb (by decide +kernel : decode cX9_record 72 = .ok (.aload_n 0, 1)) rfl ?_
  refine sm_dup (pc := 73) G hb (by decide +kernel : decode cX9_record 73 = .ok (.dup, 1)) ?_
  refine sm_get (pc := 74) (ci := 9) (j := 13) (N := 32) (T := TX9) G hb ho hy rfl (by decide) gin_9 gw6_9 (by decide +kernel : decode cX9_record 74 = .ok (.getfield 230, 3)) ?_
  refine sm_iconst (pc := 77) G hb (by decide +kernel : decode cX9_record 77 = .ok (.iconst 1, 1)) (by decide) ?_
  refine sm_iadd (pc := 78) G hb (by decide +kernel : decode cX9_record 78 = .ok (.iadd, 1)) ?_
  refine sm_put (pc := 79) (ci := 9) (j := 13) (N := 32) (T := TX9) G hb ho hy tyX9 tyX9_ok nmX9 rfl (by decide) gin_9 gw6_9 rfl rfl (by decide +kernel : decode cX9_record 79 = .ok (.putfield 230, 3)) ?_
  exact sm_vret (pc := 82) G hb (by decide +kernel : decode cX9_record 82 = .ok (.return_, 1)) hr
set_option maxRecDepth 100000 in
set_option maxHeartbeats 4000000 in
theorem fX9_record_s13 {γ : gG} {cs ss : Nat} {ε : gE5} (N : Nat) (G : gOK γ) (hb : gcc γ = cX9_record) (ho : gow γ = RX9) (hy : gly γ = gyM) (hR : grm γ = { frames := 1, cells := 0, slots := 0, locals := 24 }) (he : genv γ = ε) (hr : grt γ = none) (hE : gEnv ε) : gSm γ cs ss 13 (fX9_record_k13 N) := by
  unfold fX9_record_k13
  refine sm_lp (fun K13 h13 => ?_) N
  unfold fX9_record_b13
  refine sm_iload_n (pc := 13) G hb (by decide +kernel : decode cX9_record 13 = .ok (.iload_n 1, 1)) rfl ?_
  refine sm_sipush (pc := 14) G hb (by decide +kernel : decode cX9_record 14 = .ok (.sipush 16476, 3)) (by decide) ?_
  refine sm_icmp_ge (pc := 17) (tgt := 42) G hb (by decide +kernel : decode cX9_record 17 = .ok (.if_icmp .ge 25, 3)) (by decide) ?_ ?_
  · skip
    refine sm_aload_n (pc := 42) G hb (by decide +kernel : decode cX9_record 42 = .ok (.aload_n 0, 1)) rfl ?_
    refine sm_dup (pc := 43) G hb (by decide +kernel : decode cX9_record 43 = .ok (.dup, 1)) ?_
    refine sm_get (pc := 44) (ci := 9) (j := 13) (N := 32) (T := TX9) G hb ho hy rfl (by decide) gin_9 gw6_9 (by decide +kernel : decode cX9_record 44 = .ok (.getfield 230, 3)) ?_
    refine sm_iconst (pc := 47) G hb (by decide +kernel : decode cX9_record 47 = .ok (.iconst 1, 1)) (by decide) ?_
    refine sm_isub (pc := 48) G hb (by decide +kernel : decode cX9_record 48 = .ok (.isub, 1)) ?_
    refine sm_put (pc := 49) (ci := 9) (j := 13) (N := 32) (T := TX9) G hb ho hy tyX9 tyX9_ok nmX9 rfl (by decide) gin_9 gw6_9 rfl rfl (by decide +kernel : decode cX9_record 49 = .ok (.putfield 230, 3)) ?_
    refine sm_mask ?_
    exact fX9_record_s52 N G hb ho hy hR he hr hE
  · skip
    refine sm_aload_n (pc := 20) G hb (by decide +kernel : decode cX9_record 20 = .ok (.aload_n 0, 1)) rfl ?_
    refine sm_get (pc := 21) (ci := 9) (j := 12) (N := 32) (T := TX9) G hb ho hy rfl (by decide) gin_9 gw6_8 (by decide +kernel : decode cX9_record 21 = .ok (.getfield 25, 3)) ?_
    refine sm_iload_n (pc := 24) G hb (by decide +kernel : decode cX9_record 24 = .ok (.iload_n 1, 1)) rfl ?_
    refine sm_sipush (pc := 25) G hb (by decide +kernel : decode cX9_record 25 = .ok (.sipush 2746, 3)) (by decide) ?_
    refine sm_isub (pc := 28) G hb (by decide +kernel : decode cX9_record 28 = .ok (.isub, 1)) ?_
    refine sm_aload_n (pc := 29) G hb (by decide +kernel : decode cX9_record 29 = .ok (.aload_n 0, 1)) rfl ?_
    refine sm_get (pc := 30) (ci := 9) (j := 12) (N := 32) (T := TX9) G hb ho hy rfl (by decide) gin_9 gw6_8 (by decide +kernel : decode cX9_record 30 = .ok (.getfield 25, 3)) ?_
    refine sm_iload_n (pc := 33) G hb (by decide +kernel : decode cX9_record 33 = .ok (.iload_n 1, 1)) rfl ?_
    refine sm_iald (pc := 34) G hb hy (by decide +kernel : decode cX9_record 34 = .ok (.iaload, 1)) ?_
    refine sm_iast (pc := 35) G hb hy (by decide +kernel : decode cX9_record 35 = .ok (.iastore, 1)) ?_
    refine sm_iinc (pc := 36) G hb (by decide +kernel : decode cX9_record 36 = .ok (.iinc 1 1, 3)) (by decide) ?_
    refine sm_goto (pc := 39) (tgt := 13) G hb (by decide +kernel : decode cX9_record 39 = .ok (.goto (-26), 3)) (by decide) ?_
    refine sm_mask ?_
    exact h13
set_option maxRecDepth 100000 in
set_option maxHeartbeats 4000000 in
theorem fX9_record_s0 {γ : gG} {cs ss : Nat} {ε : gE5} (N : Nat) (G : gOK γ) (hb : gcc γ = cX9_record) (ho : gow γ = RX9) (hy : gly γ = gyM) (hR : grm γ = { frames := 1, cells := 0, slots := 0, locals := 24 }) (he : genv γ = ε) (hr : grt γ = none) (hE : gEnv ε) : gSm γ cs ss 0 (fX9_record_k0 N) := by
  unfold fX9_record_k0
  refine sm_aload_n (pc := 0) G hb (by decide +kernel : decode cX9_record 0 = .ok (.aload_n 0, 1)) rfl ?_
  refine sm_get (pc := 1) (ci := 9) (j := 13) (N := 32) (T := TX9) G hb ho hy rfl (by decide) gin_9 gw6_9 (by decide +kernel : decode cX9_record 1 = .ok (.getfield 230, 3)) ?_
  refine sm_bipush (pc := 4) G hb (by decide +kernel : decode cX9_record 4 = .ok (.bipush 6, 2)) (by decide) ?_
  refine sm_icmp_ne (pc := 6) (tgt := 52) G hb (by decide +kernel : decode cX9_record 6 = .ok (.if_icmp .ne 46, 3)) (by decide) ?_ ?_
  · skip
    refine sm_mask ?_
    exact fX9_record_s52 N G hb ho hy hR he hr hE
  · skip
    refine sm_sipush (pc := 9) G hb (by decide +kernel : decode cX9_record 9 = .ok (.sipush 2746, 3)) (by decide) ?_
    refine sm_istore_n (pc := 12) G hb (by decide +kernel : decode cX9_record 12 = .ok (.istore_n 1, 1)) rfl ?_
    refine sm_mask ?_
    exact fX9_record_s13 N G hb ho hy hR he hr hE
theorem kX9_record {ε : gE5} (hE : gEnv ε) (N : Nat) : gCtr ε yX9_record cX9_record 2 none 1 24 gyM (fX9_record N) :=
  gCtr_of hE.1 (by decide) (fun γ G hb ho hy hR he hr => fX9_record_s0 N G hb ho hy hR he hr hE)

set_option maxRecDepth 100000 in
set_option maxHeartbeats 4000000 in
theorem fX9_undo_s18 {γ : gG} {cs ss : Nat} {ε : gE5} (N : Nat) (G : gOK γ) (hb : gcc γ = cX9_undo) (ho : gow γ = RX9) (hy : gly γ = gyM) (hR : grm γ = { frames := 1, cells := 0, slots := 0, locals := 24 }) (he : genv γ = ε) (hr : grt γ = (some .int)) (hE : gEnv ε) : gSm γ cs ss 18 (fX9_undo_k18 N) := by
  unfold fX9_undo_k18
  refine sm_iconst (pc := 18) G hb (by decide +kernel : decode cX9_undo 18 = .ok (.iconst 1, 1)) (by decide) ?_
  refine sm_mono (cav_sub gI_sub) (sm_callV (pc := 19) (N := 32) (T := TX9) (C := RX9) G hb ho hy he hE.1 3 [0, 1, 2, 3, 4, 5, 6, 7, 8, 9, 10, 11, 12, 13, 14, 15, 16, 17] (kX9_fails hE N) (gCo_of (by decide +kernel)) (by rw [hR]; exact ⟨by decide, by decide⟩) rfl rfl (by decide +kernel) gw6_105 gw6_107 gw0_34 gw1_11 gw6_108 (by decide +kernel : decode cX9_undo 19 = .ok (.invokevirtual 87, 3)) ?_)
  refine sm_if_eq (pc := 22) (tgt := 27) G hb (by decide +kernel : decode cX9_undo 22 = .ok (.ifCond .eq 5, 3)) (by decide) ?_ ?_
  · skip
    refine sm_aload_n (pc := 27) G hb (by decide +kernel : decode cX9_undo 27 = .ok (.aload_n 0, 1)) rfl ?_
    refine sm_dup (pc := 28) G hb (by decide +kernel : decode cX9_undo 28 = .ok (.dup, 1)) ?_
    refine sm_get (pc := 29) (ci := 9) (j := 13) (N := 32) (T := TX9) G hb ho hy rfl (by decide) gin_9 gw6_9 (by decide +kernel : decode cX9_undo 29 = .ok (.getfield 230, 3)) ?_
    refine sm_iconst (pc := 32) G hb (by decide +kernel : decode cX9_undo 32 = .ok (.iconst 1, 1)) (by decide) ?_
    refine sm_isub (pc := 33) G hb (by decide +kernel : decode cX9_undo 33 = .ok (.isub, 1)) ?_
    refine sm_put (pc := 34) (ci := 9) (j := 13) (N := 32) (T := TX9) G hb ho hy tyX9 tyX9_ok nmX9 rfl (by decide) gin_9 gw6_9 rfl rfl (by decide +kernel : decode cX9_undo 34 = .ok (.putfield 230, 3)) ?_
    refine sm_aload_n (pc := 37) G hb (by decide +kernel : decode cX9_undo 37 = .ok (.aload_n 0, 1)) rfl ?_
    refine sm_get (pc := 38) (ci := 9) (j := 12) (N := 32) (T := TX9) G hb ho hy rfl (by decide) gin_9 gw6_8 (by decide +kernel : decode cX9_undo 38 = .ok (.getfield 25, 3)) ?_
    refine sm_sipush (pc := 41) G hb (by decide +kernel : decode cX9_undo 41 = .ok (.sipush 2746, 3)) (by decide) ?_
    refine sm_aload_n (pc := 44) G hb (by decide +kernel : decode cX9_undo 44 = .ok (.aload_n 0, 1)) rfl ?_
    refine sm_get (pc := 45) (ci := 9) (j := 13) (N := 32) (T := TX9) G hb ho hy rfl (by decide) gin_9 gw6_9 (by decide +kernel : decode cX9_undo 45 = .ok (.getfield 230, 3)) ?_
    refine sm_imul (pc := 48) G hb (by decide +kernel : decode cX9_undo 48 = .ok (.imul, 1)) ?_
    refine sm_aload_n (pc := 49) G hb (by decide +kernel : decode cX9_undo 49 = .ok (.aload_n 0, 1)) rfl ?_
    refine sm_get (pc := 50) (ci := 9) (j := 9) (N := 32) (T := TX9) G hb ho hy rfl (by decide) gin_9 gw6_5 (by decide +kernel : decode cX9_undo 50 = .ok (.getfield 16, 3)) ?_
    refine sm_iconst (pc := 53) G hb (by decide +kernel : decode cX9_undo 53 = .ok (.iconst 0, 1)) (by decide) ?_
    refine sm_mono (ca_sub gV_sub) (sm_callS (pc := 54) G hb ho hy he hE.1 4 [6, 3] (kX9_copy hE N 16476 2746) ⟨rfl, rfl, by decide⟩ (by rw [hR]; exact ⟨by decide, by decide⟩) (by decide +kernel) gw5_233 gw5_234 gw1_11 gw5_235 (by decide +kernel : decode cX9_undo 54 = .ok (.invokestatic 226, 3)) ?_)
    refine sm_aload_n (pc := 57) G hb (by decide +kernel : decode cX9_undo 57 = .ok (.aload_n 0, 1)) rfl ?_
    refine sm_get (pc := 58) (ci := 9) (j := 13) (N := 32) (T := TX9) G hb ho hy rfl (by decide) gin_9 gw6_9 (by decide +kernel : decode cX9_undo 58 = .ok (.getfield 230, 3)) ?_
    exact sm_iret (pc := 61) G hb (by decide +kernel : decode cX9_undo 61 = .ok (.ireturn, 1)) hr
  · skip
    refine sm_iconst (pc := 25) G hb (by decide +kernel : decode cX9_undo 25 = .ok (.iconst 0, 1)) (by decide) ?_
    exact sm_iret (pc := 26) G hb (by decide +kernel : decode cX9_undo 26 = .ok (.ireturn, 1)) hr
set_option maxRecDepth 100000 in
set_option maxHeartbeats 4000000 in
theorem fX9_undo_s0 {γ : gG} {cs ss : Nat} {ε : gE5} (N : Nat) (G : gOK γ) (hb : gcc γ = cX9_undo) (ho : gow γ = RX9) (hy : gly γ = gyM) (hR : grm γ = { frames := 1, cells := 0, slots := 0, locals := 24 }) (he : genv γ = ε) (hr : grt γ = (some .int)) (hE : gEnv ε) : gSm γ cs ss 0 (fX9_undo_k0 N) := by
  unfold fX9_undo_k0
  refine sm_aload_n (pc := 0) G hb (by decide +kernel : decode cX9_undo 0 = .ok (.aload_n 0, 1)) rfl ?_
  refine sm_iconst (pc := 1) G hb (by decide +kernel : decode cX9_undo 1 = .ok (.iconst 0, 1)) (by decide) ?_
  refine sm_put (pc := 2) (ci := 9) (j := 0) (N := 32) (T := TX9) G hb ho hy tyX9 tyX9_ok nmX9 rfl (by decide) gin_9 gw5_236 rfl rfl (by decide +kernel : decode cX9_undo 2 = .ok (.putfield 76, 3)) ?_
  refine sm_aload_n (pc := 5) G hb (by decide +kernel : decode cX9_undo 5 = .ok (.aload_n 0, 1)) rfl ?_
  refine sm_aload_n (pc := 6) G hb (by decide +kernel : decode cX9_undo 6 = .ok (.aload_n 0, 1)) rfl ?_
  refine sm_get (pc := 7) (ci := 9) (j := 13) (N := 32) (T := TX9) G hb ho hy rfl (by decide) gin_9 gw6_9 (by decide +kernel : decode cX9_undo 7 = .ok (.getfield 230, 3)) ?_
  refine sm_if_le (pc := 10) (tgt := 17) G hb (by decide +kernel : decode cX9_undo 10 = .ok (.ifCond .le 7, 3)) (by decide) ?_ ?_
  · skip
    refine sm_iconst (pc := 17) G hb (by decide +kernel : decode cX9_undo 17 = .ok (.iconst 0, 1)) (by decide) ?_
    refine sm_mask ?_
    exact fX9_undo_s18 N G hb ho hy hR he hr hE
  · skip
    refine sm_iconst (pc := 13) G hb (by decide +kernel : decode cX9_undo 13 = .ok (.iconst 1, 1)) (by decide) ?_
    refine sm_goto (pc := 14) (tgt := 18) G hb (by decide +kernel : decode cX9_undo 14 = .ok (.goto 4, 3)) (by decide) ?_
    refine sm_mask ?_
    exact fX9_undo_s18 N G hb ho hy hR he hr hE
theorem kX9_undo {ε : gE5} (hE : gEnv ε) (N : Nat) : gCtr ε yX9_undo cX9_undo 1 (some .int) 1 24 gyM (fX9_undo N) :=
  gCtr_of hE.1 (by decide) (fun γ G hb ho hy hR he hr => fX9_undo_s0 N G hb ho hy hR he hr hE)

set_option maxRecDepth 100000 in
set_option maxHeartbeats 4000000 in
theorem fX9_undoCount_s0 {γ : gG} {cs ss : Nat} {ε : gE5} (N : Nat) (G : gOK γ) (hb : gcc γ = cX9_undoCount) (ho : gow γ = RX9) (hy : gly γ = gyM) (hR : grm γ = { frames := 0, cells := 0, slots := 0, locals := 0 }) (he : genv γ = ε) (hr : grt γ = (some .int)) (hE : gEnv ε) : gSm γ cs ss 0 (fX9_undoCount_k0 N) := by
  unfold fX9_undoCount_k0
  refine sm_aload_n (pc := 0) G hb (by decide +kernel : decode cX9_undoCount 0 = .ok (.aload_n 0, 1)) rfl ?_
  refine sm_iconst (pc := 1) G hb (by decide +kernel : decode cX9_undoCount 1 = .ok (.iconst 0, 1)) (by decide) ?_
  refine sm_put (pc := 2) (ci := 9) (j := 0) (N := 32) (T := TX9) G hb ho hy tyX9 tyX9_ok nmX9 rfl (by decide) gin_9 gw5_236 rfl rfl (by decide +kernel : decode cX9_undoCount 2 = .ok (.putfield 76, 3)) ?_
  refine sm_aload_n (pc := 5) G hb (by decide +kernel : decode cX9_undoCount 5 = .ok (.aload_n 0, 1)) rfl ?_
  refine sm_get (pc := 6) (ci := 9) (j := 13) (N := 32) (T := TX9) G hb ho hy rfl (by decide) gin_9 gw6_9 (by decide +kernel : decode cX9_undoCount 6 = .ok (.getfield 230, 3)) ?_
  exact sm_iret (pc := 9) G hb (by decide +kernel : decode cX9_undoCount 9 = .ok (.ireturn, 1)) hr
theorem kX9_undoCount {ε : gE5} (hE : gEnv ε) (N : Nat) : gCtr ε yX9_undoCount cX9_undoCount 1 (some .int) 0 0 gyM (fX9_undoCount N) :=
  gCtr_of hE.1 (by decide) (fun γ G hb ho hy hR he hr => fX9_undoCount_s0 N G hb ho hy hR he hr hE)

set_option maxRecDepth 100000 in
set_option maxHeartbeats 4000000 in
theorem fX9_save_s0 {γ : gG} {cs ss : Nat} {ε : gE5} (N : Nat) (G : gOK γ) (hb : gcc γ = cX9_save) (ho : gow γ = RX9) (hy : gly γ = gyM) (hR : grm γ = { frames := 1, cells := 0, slots := 0, locals := 24 }) (he : genv γ = ε) (hr : grt γ = (some .int)) (hE : gEnv ε) : gSm γ cs ss 0 (fX9_save_k0 N) := by
  unfold fX9_save_k0
  refine sm_aload_n (pc := 0) G hb (by decide +kernel : decode cX9_save 0 = .ok (.aload_n 0, 1)) rfl ?_
  refine sm_iconst (pc := 1) G hb (by decide +kernel : decode cX9_save 1 = .ok (.iconst 0, 1)) (by decide) ?_
  refine sm_put (pc := 2) (ci := 9) (j := 0) (N := 32) (T := TX9) G hb ho hy tyX9 tyX9_ok nmX9 rfl (by decide) gin_9 gw5_236 rfl rfl (by decide +kernel : decode cX9_save 2 = .ok (.putfield 76, 3)) ?_
  refine sm_aload_n (pc := 5) G hb (by decide +kernel : decode cX9_save 5 = .ok (.aload_n 0, 1)) rfl ?_
  refine sm_get (pc := 6) (ci := 9) (j := 9) (N := 32) (T := TX9) G hb ho hy rfl (by decide) gin_9 gw6_5 (by decide +kernel : decode cX9_save 6 = .ok (.getfield 16, 3)) ?_
  refine sm_iconst (pc := 9) G hb (by decide +kernel : decode cX9_save 9 = .ok (.iconst 0, 1)) (by decide) ?_
  refine sm_aload_n (pc := 10) G hb (by decide +kernel : decode cX9_save 10 = .ok (.aload_n 0, 1)) rfl ?_
  refine sm_get (pc := 11) (ci := 9) (j := 11) (N := 32) (T := TX9) G hb ho hy rfl (by decide) gin_9 gw6_7 (by decide +kernel : decode cX9_save 11 = .ok (.getfield 22, 3)) ?_
  refine sm_iconst (pc := 14) G hb (by decide +kernel : decode cX9_save 14 = .ok (.iconst 0, 1)) (by decide) ?_
  refine sm_mono (ca_sub gV_sub) (sm_callS (pc := 15) G hb ho hy he hE.1 4 [3, 5] (kX9_copy hE N 2746 2746) ⟨rfl, rfl, by decide⟩ (by rw [hR]; exact ⟨by decide, by decide⟩) (by decide +kernel) gw5_233 gw5_234 gw1_11 gw5_235 (by decide +kernel : decode cX9_save 15 = .ok (.invokestatic 226, 3)) ?_)
  refine sm_aload_n (pc := 18) G hb (by decide +kernel : decode cX9_save 18 = .ok (.aload_n 0, 1)) rfl ?_
  refine sm_iconst (pc := 19) G hb (by decide +kernel : decode cX9_save 19 = .ok (.iconst 1, 1)) (by decide) ?_
  refine sm_putz (pc := 20) (ci := 9) (j := 16) (N := 32) (T := TX9) G hb ho hy tyX9 tyX9_ok nmX9 rfl (by decide) gin_9 gw6_12 rfl rfl (by decide +kernel : decode cX9_save 20 = .ok (.putfield 233, 3)) ?_
  refine sm_aload_n (pc := 23) G hb (by decide +kernel : decode cX9_save 23 = .ok (.aload_n 0, 1)) rfl ?_
  refine sm_get (pc := 24) (ci := 9) (j := 9) (N := 32) (T := TX9) G hb ho hy rfl (by decide) gin_9 gw6_5 (by decide +kernel : decode cX9_save 24 = .ok (.getfield 16, 3)) ?_
  refine sm_bipush (pc := 27) G hb (by decide +kernel : decode cX9_save 27 = .ok (.bipush 7, 2)) (by decide) ?_
  refine sm_iald (pc := 29) G hb hy (by decide +kernel : decode cX9_save 29 = .ok (.iaload, 1)) ?_
  exact sm_iret (pc := 30) G hb (by decide +kernel : decode cX9_save 30 = .ok (.ireturn, 1)) hr
theorem kX9_save {ε : gE5} (hE : gEnv ε) (N : Nat) : gCtr ε yX9_save cX9_save 1 (some .int) 1 24 gyM (fX9_save N) :=
  gCtr_of hE.1 (by decide) (fun γ G hb ho hy hR he hr => fX9_save_s0 N G hb ho hy hR he hr hE)

set_option maxRecDepth 100000 in
set_option maxHeartbeats 4000000 in
theorem fX9_restore_s0 {γ : gG} {cs ss : Nat} {ε : gE5} (N : Nat) (G : gOK γ) (hb : gcc γ = cX9_restore) (ho : gow γ = RX9) (hy : gly γ = gyM) (hR : grm γ = { frames := 1, cells := 0, slots := 0, locals := 24 }) (he : genv γ = ε) (hr : grt γ = (some .int)) (hE : gEnv ε) : gSm γ cs ss 0 (fX9_restore_k0 N) := by
  unfold fX9_restore_k0
  refine sm_aload_n (pc := 0) G hb (by decide +kernel : decode cX9_restore 0 = .ok (.aload_n 0, 1)) rfl ?_
  refine sm_iconst (pc := 1) G hb (by decide +kernel : decode cX9_restore 1 = .ok (.iconst 0, 1)) (by decide) ?_
  refine sm_put (pc := 2) (ci := 9) (j := 0) (N := 32) (T := TX9) G hb ho hy tyX9 tyX9_ok nmX9 rfl (by decide) gin_9 gw5_236 rfl rfl (by decide +kernel : decode cX9_restore 2 = .ok (.putfield 76, 3)) ?_
  refine sm_aload_n (pc := 5) G hb (by decide +kernel : decode cX9_restore 5 = .ok (.aload_n 0, 1)) rfl ?_
  refine sm_aload_n (pc := 6) G hb (by decide +kernel : decode cX9_restore 6 = .ok (.aload_n 0, 1)) rfl ?_
  refine sm_get (pc := 7) (ci := 9) (j := 16) (N := 32) (T := TX9) G hb ho hy rfl (by decide) gin_9 gw6_12 (by decide +kernel : decode cX9_restore 7 = .ok (.getfield 233, 3)) ?_
  refine sm_iconst (pc := 10) G hb (by decide +kernel : decode cX9_restore 10 = .ok (.iconst 1, 1)) (by decide) ?_
  refine sm_mono (cav_sub gI_sub) (sm_callV (pc := 11) (N := 32) (T := TX9) (C := RX9) G hb ho hy he hE.1 3 [0, 1, 2, 3, 4, 5, 6, 7, 8, 9, 10, 11, 12, 13, 14, 15, 16, 17] (kX9_fails hE N) (gCo_of (by decide +kernel)) (by rw [hR]; exact ⟨by decide, by decide⟩) rfl rfl (by decide +kernel) gw6_105 gw6_107 gw0_34 gw1_11 gw6_108 (by decide +kernel : decode cX9_restore 11 = .ok (.invokevirtual 87, 3)) ?_)
  refine sm_if_eq (pc := 14) (tgt := 19) G hb (by decide +kernel : decode cX9_restore 14 = .ok (.ifCond .eq 5, 3)) (by decide) ?_ ?_
  · skip
    refine sm_aload_n (pc := 19) G hb (by decide +kernel : decode cX9_restore 19 = .ok (.aload_n 0, 1)) rfl ?_
    refine sm_get (pc := 20) (ci := 9) (j := 11) (N := 32) (T := TX9) G hb ho hy rfl (by decide) gin_9 gw6_7 (by decide +kernel : decode cX9_restore 20 = .ok (.getfield 22, 3)) ?_
    refine sm_iconst (pc := 23) G hb (by decide +kernel : decode cX9_restore 23 = .ok (.iconst 0, 1)) (by decide) ?_
    refine sm_aload_n (pc := 24) G hb (by decide +kernel : decode cX9_restore 24 = .ok (.aload_n 0, 1)) rfl ?_
    refine sm_get (pc := 25) (ci := 9) (j := 9) (N := 32) (T := TX9) G hb ho hy rfl (by decide) gin_9 gw6_5 (by decide +kernel : decode cX9_restore 25 = .ok (.getfield 16, 3)) ?_
    refine sm_iconst (pc := 28) G hb (by decide +kernel : decode cX9_restore 28 = .ok (.iconst 0, 1)) (by decide) ?_
    refine sm_mono (ca_sub gV_sub) (sm_callS (pc := 29) G hb ho hy he hE.1 4 [5, 3] (kX9_copy hE N 2746 2746) ⟨rfl, rfl, by decide⟩ (by rw [hR]; exact ⟨by decide, by decide⟩) (by decide +kernel) gw5_233 gw5_234 gw1_11 gw5_235 (by decide +kernel : decode cX9_restore 29 = .ok (.invokestatic 226, 3)) ?_)
    refine sm_aload_n (pc := 32) G hb (by decide +kernel : decode cX9_restore 32 = .ok (.aload_n 0, 1)) rfl ?_
    refine sm_iconst (pc := 33) G hb (by decide +kernel : decode cX9_restore 33 = .ok (.iconst 0, 1)) (by decide) ?_
    refine sm_put (pc := 34) (ci := 9) (j := 13) (N := 32) (T := TX9) G hb ho hy tyX9 tyX9_ok nmX9 rfl (by decide) gin_9 gw6_9 rfl rfl (by decide +kernel : decode cX9_restore 34 = .ok (.putfield 230, 3)) ?_
    refine sm_aload_n (pc := 37) G hb (by decide +kernel : decode cX9_restore 37 = .ok (.aload_n 0, 1)) rfl ?_
    refine sm_get (pc := 38) (ci := 9) (j := 9) (N := 32) (T := TX9) G hb ho hy rfl (by decide) gin_9 gw6_5 (by decide +kernel : decode cX9_restore 38 = .ok (.getfield 16, 3)) ?_
    refine sm_bipush (pc := 41) G hb (by decide +kernel : decode cX9_restore 41 = .ok (.bipush 7, 2)) (by decide) ?_
    refine sm_iald (pc := 43) G hb hy (by decide +kernel : decode cX9_restore 43 = .ok (.iaload, 1)) ?_
    exact sm_iret (pc := 44) G hb (by decide +kernel : decode cX9_restore 44 = .ok (.ireturn, 1)) hr
  · skip
    refine sm_iconst (pc := 17) G hb (by decide +kernel : decode cX9_restore 17 = .ok (.iconst 0, 1)) (by decide) ?_
    exact sm_iret (pc := 18) G hb (by decide +kernel : decode cX9_restore 18 = .ok (.ireturn, 1)) hr
theorem kX9_restore {ε : gE5} (hE : gEnv ε) (N : Nat) : gCtr ε yX9_restore cX9_restore 1 (some .int) 1 24 gyM (fX9_restore N) :=
  gCtr_of hE.1 (by decide) (fun γ G hb ho hy hR he hr => fX9_restore_s0 N G hb ho hy hR he hr hE)

set_option maxRecDepth 100000 in
set_option maxHeartbeats 4000000 in
theorem fX9_linkPart_s0 {γ : gG} {cs ss : Nat} {ε : gE5} (N : Nat) (G : gOK γ) (hb : gcc γ = cX9_linkPart) (ho : gow γ = RX9) (hy : gly γ = gyM) (hR : grm γ = { frames := 0, cells := 0, slots := 0, locals := 0 }) (he : genv γ = ε) (hr : grt γ = (some .int)) (hE : gEnv ε) : gSm γ cs ss 0 (fX9_linkPart_k0 N) := by
  unfold fX9_linkPart_k0
  refine sm_aload_n (pc := 0) G hb (by decide +kernel : decode cX9_linkPart 0 = .ok (.aload_n 0, 1)) rfl ?_
  refine sm_get (pc := 1) (ci := 9) (j := 9) (N := 32) (T := TX9) G hb ho hy rfl (by decide) gin_9 gw6_5 (by decide +kernel : decode cX9_linkPart 1 = .ok (.getfield 16, 3)) ?_
  refine sm_bipush (pc := 4) G hb (by decide +kernel : decode cX9_linkPart 4 = .ok (.bipush 9, 2)) (by decide) ?_
  refine sm_iconst (pc := 6) G hb (by decide +kernel : decode cX9_linkPart 6 = .ok (.iconst 4, 1)) (by decide) ?_
  refine sm_iload_n (pc := 7) G hb (by decide +kernel : decode cX9_linkPart 7 = .ok (.iload_n 1, 1)) rfl ?_
  refine sm_imul (pc := 8) G hb (by decide +kernel : decode cX9_linkPart 8 = .ok (.imul, 1)) ?_
  refine sm_iadd (pc := 9) G hb (by decide +kernel : decode cX9_linkPart 9 = .ok (.iadd, 1)) ?_
  refine sm_iload_n (pc := 10) G hb (by decide +kernel : decode cX9_linkPart 10 = .ok (.iload_n 2, 1)) rfl ?_
  refine sm_iadd (pc := 11) G hb (by decide +kernel : decode cX9_linkPart 11 = .ok (.iadd, 1)) ?_
  refine sm_iald (pc := 12) G hb hy (by decide +kernel : decode cX9_linkPart 12 = .ok (.iaload, 1)) ?_
  exact sm_iret (pc := 13) G hb (by decide +kernel : decode cX9_linkPart 13 = .ok (.ireturn, 1)) hr
theorem kX9_linkPart {ε : gE5} (hE : gEnv ε) (N : Nat) : gCtr ε yX9_linkPart cX9_linkPart 3 (some .int) 0 0 gyM (fX9_linkPart N) :=
  gCtr_of hE.1 (by decide) (fun γ G hb ho hy hR he hr => fX9_linkPart_s0 N G hb ho hy hR he hr hE)

set_option maxRecDepth 100000 in
set_option maxHeartbeats 4000000 in
theorem fX9_flowPart_s0 {γ : gG} {cs ss : Nat} {ε : gE5} (N : Nat) (G : gOK γ) (hb : gcc γ = cX9_flowPart) (ho : gow γ = RX9) (hy : gly γ = gyM) (hR : grm γ = { frames := 0, cells := 0, slots := 0, locals := 0 }) (he : genv γ = ε) (hr : grt γ = (some .int)) (hE : gEnv ε) : gSm γ cs ss 0 (fX9_flowPart_k0 N) := by
  unfold fX9_flowPart_k0
  refine sm_aload_n (pc := 0) G hb (by decide +kernel : decode cX9_flowPart 0 = .ok (.aload_n 0, 1)) rfl ?_
  refine sm_get (pc := 1) (ci := 9) (j := 9) (N := 32) (T := TX9) G hb ho hy rfl (by decide) gin_9 gw6_5 (by decide +kernel : decode cX9_flowPart 1 = .ok (.getfield 16, 3)) ?_
  refine sm_bipush (pc := 4) G hb (by decide +kernel : decode cX9_flowPart 4 = .ok (.bipush 65, 2)) (by decide) ?_
  refine sm_bipush (pc := 6) G hb (by decide +kernel : decode cX9_flowPart 6 = .ok (.bipush 11, 2)) (by decide) ?_
  refine sm_iload_n (pc := 8) G hb (by decide +kernel : decode cX9_flowPart 8 = .ok (.iload_n 1, 1)) rfl ?_
  refine sm_imul (pc := 9) G hb (by decide +kernel : decode cX9_flowPart 9 = .ok (.imul, 1)) ?_
  refine sm_iadd (pc := 10) G hb (by decide +kernel : decode cX9_flowPart 10 = .ok (.iadd, 1)) ?_
  refine sm_iload_n (pc := 11) G hb (by decide +kernel : decode cX9_flowPart 11 = .ok (.iload_n 2, 1)) rfl ?_
  refine sm_iadd (pc := 12) G hb (by decide +kernel : decode cX9_flowPart 12 = .ok (.iadd, 1)) ?_
  refine sm_iald (pc := 13) G hb hy (by decide +kernel : decode cX9_flowPart 13 = .ok (.iaload, 1)) ?_
  exact sm_iret (pc := 14) G hb (by decide +kernel : decode cX9_flowPart 14 = .ok (.ireturn, 1)) hr
theorem kX9_flowPart {ε : gE5} (hE : gEnv ε) (N : Nat) : gCtr ε yX9_flowPart cX9_flowPart 3 (some .int) 0 0 gyM (fX9_flowPart N) :=
  gCtr_of hE.1 (by decide) (fun γ G hb ho hy hR he hr => fX9_flowPart_s0 N G hb ho hy hR he hr hE)

set_option maxRecDepth 100000 in
set_option maxHeartbeats 4000000 in
theorem fX9_count_s0 {γ : gG} {cs ss : Nat} {ε : gE5} (N : Nat) (G : gOK γ) (hb : gcc γ = cX9_count) (ho : gow γ = RX9) (hy : gly γ = gyM) (hR : grm γ = { frames := 0, cells := 0, slots := 0, locals := 0 }) (he : genv γ = ε) (hr : grt γ = none) (hE : gEnv ε) : gSm γ cs ss 0 (fX9_count_k0 N) := by
  unfold fX9_count_k0
  refine sm_aload_n (pc := 0) G hb (by decide +kernel : decode cX9_count 0 = .ok (.aload_n 0, 1)) rfl ?_
  refine sm_get (pc := 1) (ci := 9) (j := 9) (N := 32) (T := TX9) G hb ho hy rfl (by decide) gin_9 gw6_5 (by decide +kernel : decode cX9_count 1 = .ok (.getfield 16, 3)) ?_
  refine sm_bipush (pc := 4) G hb (by decide +kernel : decode cX9_count 4 = .ok (.bipush 65, 2)) (by decide) ?_
  refine sm_bipush (pc := 6) G hb (by decide +kernel : decode cX9_count 6 = .ok (.bipush 11, 2)) (by decide) ?_
  refine sm_iload_n (pc := 8) G hb (by decide +kernel : decode cX9_count 8 = .ok (.iload_n 1, 1)) rfl ?_
  refine sm_imul (pc := 9) G hb (by decide +kernel : decode cX9_count 9 = .ok (.imul, 1)) ?_
  refine sm_iadd (pc := 10) G hb (by decide +kernel : decode cX9_count 10 = .ok (.iadd, 1)) ?_
  refine sm_iload_n (pc := 11) G hb (by decide +kernel : decode cX9_count 11 = .ok (.iload_n 2, 1)) rfl ?_
  refine sm_iadd (pc := 12) G hb (by decide +kernel : decode cX9_count 12 = .ok (.iadd, 1)) ?_
  refine sm_dup2 (pc := 13) G hb (by decide +kernel : decode cX9_count 13 = .ok (.dup2, 1)) ?_
  refine sm_iald (pc := 14) G hb hy (by decide +kernel : decode cX9_count 14 = .ok (.iaload, 1)) ?_
  refine sm_iload_n (pc := 15) G hb (by decide +kernel : decode cX9_count 15 = .ok (.iload_n 3, 1)) rfl ?_
  refine sm_iadd (pc := 16) G hb (by decide +kernel : decode cX9_count 16 = .ok (.iadd, 1)) ?_
  refine sm_iast (pc := 17) G hb hy (by decide +kernel : decode cX9_count 17 = .ok (.iastore, 1)) ?_
  exact sm_vret (pc := 18) G hb (by decide +kernel : decode cX9_count 18 = .ok (.return_, 1)) hr
theorem kX9_count {ε : gE5} (hE : gEnv ε) (N : Nat) : gCtr ε yX9_count cX9_count 4 none 0 0 gyM (fX9_count N) :=
  gCtr_of hE.1 (by decide) (fun γ G hb ho hy hR he hr => fX9_count_s0 N G hb ho hy hR he hr hE)

set_option maxRecDepth 100000 in
set_option maxHeartbeats 4000000 in
theorem fX9_packetPart_s0 {γ : gG} {cs ss : Nat} {ε : gE5} (N : Nat) (G : gOK γ) (hb : gcc γ = cX9_packetPart) (ho : gow γ = RX9) (hy : gly γ = gyM) (hR : grm γ = { frames := 0, cells := 0, slots := 0, locals := 0 }) (he : genv γ = ε) (hr : grt γ = (some .int)) (hE : gEnv ε) : gSm γ cs ss 0 (fX9_packetPart_k0 N) := by
  unfold fX9_packetPart_k0
  refine sm_aload_n (pc := 0) G hb (by decide +kernel : decode cX9_packetPart 0 = .ok (.aload_n 0, 1)) rfl ?_
  refine sm_get (pc := 1) (ci := 9) (j := 9) (N := 32) (T := TX9) G hb ho hy rfl (by decide) gin_9 gw6_5 (by decide +kernel : decode cX9_packetPart 1 = .ok (.getfield 16, 3)) ?_
  refine sm_sipush (pc := 4) G hb (by decide +kernel : decode cX9_packetPart 4 = .ok (.sipush 246, 3)) (by decide) ?_
  refine sm_iconst (pc := 7) G hb (by decide +kernel : decode cX9_packetPart 7 = .ok (.iconst 5, 1)) (by decide) ?_
  refine sm_iload_n (pc := 8) G hb (by decide +kernel : decode cX9_packetPart 8 = .ok (.iload_n 1, 1)) rfl ?_
  refine sm_imul (pc := 9) G hb (by decide +kernel : decode cX9_packetPart 9 = .ok (.imul, 1)) ?_
  refine sm_iadd (pc := 10) G hb (by decide +kernel : decode cX9_packetPart 10 = .ok (.iadd, 1)) ?_
  refine sm_iload_n (pc := 11) G hb (by decide +kernel : decode cX9_packetPart 11 = .ok (.iload_n 2, 1)) rfl ?_
  refine sm_iadd (pc := 12) G hb (by decide +kernel : decode cX9_packetPart 12 = .ok (.iadd, 1)) ?_
  refine sm_iald (pc := 13) G hb hy (by decide +kernel : decode cX9_packetPart 13 = .ok (.iaload, 1)) ?_
  exact sm_iret (pc := 14) G hb (by decide +kernel : decode cX9_packetPart 14 = .ok (.ireturn, 1)) hr
theorem kX9_packetPart {ε : gE5} (hE : gEnv ε) (N : Nat) : gCtr ε yX9_packetPart cX9_packetPart 3 (some .int) 0 0 gyM (fX9_packetPart N) :=
  gCtr_of hE.1 (by decide) (fun γ G hb ho hy hR he hr => fX9_packetPart_s0 N G hb ho hy hR he hr hE)

set_option maxRecDepth 100000 in
set_option maxHeartbeats 4000000 in
theorem fX9_goalOf_s0 {γ : gG} {cs ss : Nat} {ε : gE5} (N : Nat) (G : gOK γ) (hb : gcc γ = cX9_goalOf) (ho : gow γ = RX9) (hy : gly γ = gyM) (hR : grm γ = { frames := 1, cells := 0, slots := 0, locals := 22 }) (he : genv γ = ε) (hr : grt γ = (some .int)) (hE : gEnv ε) : gSm γ cs ss 0 (fX9_goalOf_k0 N) := by
  unfold fX9_goalOf_k0
  refine sm_aload_n (pc := 0) G hb (by decide +kernel : decode cX9_goalOf 0 = .ok (.aload_n 0, 1)) rfl ?_
  refine sm_aload_n (pc := 1) G hb (by decide +kernel : decode cX9_goalOf 1 = .ok (.aload_n 0, 1)) rfl ?_
  refine sm_iload_n (pc := 2) G hb (by decide +kernel : decode cX9_goalOf 2 = .ok (.iload_n 1, 1)) rfl ?_
  refine sm_iconst (pc := 3) G hb (by decide +kernel : decode cX9_goalOf 3 = .ok (.iconst 0, 1)) (by decide) ?_
  refine sm_mono (cav_sub gI_sub) (sm_callV (pc := 4) (N := 32) (T := TX9) (C := RX9) G hb ho hy he hE.1 3 [0, 1, 2, 3, 4, 5, 6, 7, 8, 9, 10, 11, 12, 13, 14, 15, 16, 17] (kX9_packetPart hE N) (gCo_of (by decide +kernel)) (by rw [hR]; exact ⟨by decide, by decide⟩) rfl rfl (by decide +kernel) gw7_84 gw7_86 gw0_63 gw1_11 gw7_87 (by decide +kernel : decode cX9_goalOf 4 = .ok (.invokevirtual 237, 3)) ?_)
  refine sm_iconst (pc := 7) G hb (by decide +kernel : decode cX9_goalOf 7 = .ok (.iconst 1, 1)) (by decide) ?_
  refine sm_mono (cav_sub gI_sub) (sm_callV (pc := 8) (N := 32) (T := TX9) (C := RX9) G hb ho hy he hE.1 3 [0, 1, 2, 3, 4, 5, 6, 7, 8, 9, 10, 11, 12, 13, 14, 15, 16, 17] (kX9_flowPart hE N) (gCo_of (by decide +kernel)) (by rw [hR]; exact ⟨by decide, by decide⟩) rfl rfl (by decide +kernel) gw7_64 gw7_66 gw0_59 gw1_11 gw7_67 (by decide +kernel : decode cX9_goalOf 8 = .ok (.invokevirtual 240, 3)) ?_)
  exact sm_iret (pc := 11) G hb (by decide +kernel : decode cX9_goalOf 11 = .ok (.ireturn, 1)) hr
theorem kX9_goalOf {ε : gE5} (hE : gEnv ε) (N : Nat) : gCtr ε yX9_goalOf cX9_goalOf 2 (some .int) 1 22 gyM (fX9_goalOf N) :=
  gCtr_of hE.1 (by decide) (fun γ G hb ho hy hR he hr => fX9_goalOf_s0 N G hb ho hy hR he hr hE)

set_option maxRecDepth 100000 in
set_option maxHeartbeats 4000000 in
theorem fX9_isQueued_s0 {γ : gG} {cs ss : Nat} {ε : gE5} (N : Nat) (G : gOK γ) (hb : gcc γ = cX9_isQueued) (ho : gow γ = RX9) (hy : gly γ = gyM) (hR : grm γ = { frames := 2, cells := 0, slots := 0, locals := 43 }) (he : genv γ = ε) (hr : grt γ = (some .boolean)) (hE : gEnv ε) : gSm γ cs ss 0 (fX9_isQueued_k0 N) := by
  unfold fX9_isQueued_k0
  refine sm_aload_n (pc := 0) G hb (by decide +kernel : decode cX9_isQueued 0 = .ok (.aload_n 0, 1)) rfl ?_
  refine sm_iload_n (pc := 1) G hb (by decide +kernel : decode cX9_isQueued 1 = .ok (.iload_n 1, 1)) rfl ?_
  refine sm_iconst (pc := 2) G hb (by decide +kernel : decode cX9_isQueued 2 = .ok (.iconst 4, 1)) (by decide) ?_
  refine sm_mono (cav_sub gI_sub) (sm_callV (pc := 3) (N := 32) (T := TX9) (C := RX9) G hb ho hy he hE.1 3 [0, 1, 2, 3, 4, 5, 6, 7, 8, 9, 10, 11, 12, 13, 14, 15, 16, 17] (kX9_packetPart hE N) (gCo_of (by decide +kernel)) (by rw [hR]; exact ⟨by decide, by decide⟩) rfl rfl (by decide +kernel) gw7_84 gw7_86 gw0_63 gw1_11 gw7_87 (by decide +kernel : decode cX9_isQueued 3 = .ok (.invokevirtual 237, 3)) ?_)
  refine sm_iload_n (pc := 6) G hb (by decide +kernel : decode cX9_isQueued 6 = .ok (.iload_n 2, 1)) rfl ?_
  refine sm_icmp_ne (pc := 7) (tgt := 23) G hb (by decide +kernel : decode cX9_isQueued 7 = .ok (.if_icmp .ne 16, 3)) (by decide) ?_ ?_
  · skip
    refine sm_iconst (pc := 23) G hb (by decide +kernel : decode cX9_isQueued 23 = .ok (.iconst 0, 1)) (by decide) ?_
    exact sm_zret (pc := 24) G hb (by decide +kernel : decode cX9_isQueued 24 = .ok (.ireturn, 1)) hr
  · skip
    refine sm_aload_n (pc := 10) G hb (by decide +kernel : decode cX9_isQueued 10 = .ok (.aload_n 0, 1)) rfl ?_
    refine sm_iload_n (pc := 11) G hb (by decide +kernel : decode cX9_isQueued 11 = .ok (.iload_n 1, 1)) rfl ?_
    refine sm_mono (cav_sub gI_sub) (sm_callV (pc := 12) (N := 32) (T := TX9) (C := RX9) G hb ho hy he hE.1 2 [0, 1, 2, 3, 4, 5, 6, 7, 8, 9, 10, 11, 12, 13, 14, 15, 16, 17] (kX9_goalOf hE N) (gCo_of (by decide +kernel)) (by rw [hR]; exact ⟨by decide, by decide⟩) rfl rfl (by decide +kernel) gw7_88 gw7_90 gw0_64 gw1_11 gw7_91 (by decide +kernel : decode cX9_isQueued 12 = .ok (.invokevirtual 243, 3)) ?_)
    refine sm_iload_n (pc := 15) G hb (by decide +kernel : decode cX9_isQueued 15 = .ok (.iload_n 3, 1)) rfl ?_
    refine sm_icmp_ne (pc := 16) (tgt := 23) G hb (by decide +kernel : decode cX9_isQueued 16 = .ok (.if_icmp .ne 7, 3)) (by decide) ?_ ?_
    · skip
      refine sm_iconst (pc := 23) G hb (by decide +kernel : decode cX9_isQueued 23 = .ok (.iconst 0, 1)) (by decide) ?_
      exact sm_zret (pc := 24) G hb (by decide +kernel : decode cX9_isQueued 24 = .ok (.ireturn, 1)) hr
    · skip
      refine sm_iconst (pc := 19) G hb (by decide +kernel : decode cX9_isQueued 19 = .ok (.iconst 1, 1)) (by decide) ?_
      refine sm_goto (pc := 20) (tgt := 24) G hb (by decide +kernel : decode cX9_isQueued 20 = .ok (.goto 4, 3)) (by decide) ?_
      exact sm_zret (pc := 24) G hb (by decide +kernel : decode cX9_isQueued 24 = .ok (.ireturn, 1)) hr
theorem kX9_isQueued {ε : gE5} (hE : gEnv ε) (N : Nat) : gCtr ε yX9_isQueued cX9_isQueued 4 (some .boolean) 2 43 gyM (fX9_isQueued N) :=
  gCtr_of hE.1 (by decide) (fun γ G hb ho hy hR he hr => fX9_isQueued_s0 N G hb ho hy hR he hr hE)
