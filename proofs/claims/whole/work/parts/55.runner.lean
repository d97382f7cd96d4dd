set_option maxRecDepth 100000 in
set_option maxHeartbeats 4000000 in
theorem fX6_growth_s0 {γ : gG} {cs ss : Nat} {ε : gE5} (N : Nat) (G : gOK γ) (hb : gcc γ = cX6_growth) (ho : gow γ = RX6) (hy : gly γ = gy0) (hR : grm γ = { frames := 0, cells := 0, slots := 0, locals := 0 }) (he : genv γ = ε) (hr : grt γ = (some .int)) (hE : gEnv ε) : gSm γ cs ss 0 (fX6_growth_k0 N) := by
  unfold fX6_growth_k0
  refine sm_iload_n (pc := 0) G hb (by decide +kernel : decode cX6_growth 0 = .ok (.iload_n 0, 1)) rfl ?_
  refine sm_iconst (pc := 1) G hb (by decide +kernel : decode cX6_growth 1 = .ok (.iconst 1, 1)) (by decide) ?_
  refine sm_iadd (pc := 2) G hb (by decide +kernel : decode cX6_growth 2 = .ok (.iadd, 1)) ?_
  refine sm_iload_n (pc := 3) G hb (by decide +kernel : decode cX6_growth 3 = .ok (.iload_n 1, 1)) rfl ?_
  refine sm_imul (pc := 4) G hb (by decide +kernel : decode cX6_growth 4 = .ok (.imul, 1)) ?_
  refine sm_sipush (pc := 5) G hb (by decide +kernel : decode cX6_growth 5 = .ok (.sipush 10000, 3)) (by decide) ?_
  refine sm_idiv (pc := 8) G hb (by decide +kernel : decode cX6_growth 8 = .ok (.idiv, 1)) ?_
  refine sm_iload_n (pc := 9) G hb (by decide +kernel : decode cX6_growth 9 = .ok (.iload_n 0, 1)) rfl ?_
  refine sm_iload_n (pc := 10) G hb (by decide +kernel : decode cX6_growth 10 = .ok (.iload_n 1, 1)) rfl ?_
  refine sm_imul (pc := 11) G hb (by decide +kernel : decode cX6_growth 11 = .ok (.imul, 1)) ?_
  refine sm_sipush (pc := 12) G hb (by decide +kernel : decode cX6_growth 12 = .ok (.sipush 10000, 3)) (by decide) ?_
  refine sm_idiv (pc := 15) G hb (by decide +kernel : decode cX6_growth 15 = .ok (.idiv, 1)) ?_
  refine sm_isub (pc := 16) G hb (by decide +kernel : decode cX6_growth 16 = .ok (.isub, 1)) ?_
  exact sm_iret (pc := 17) G hb (by decide +kernel : decode cX6_growth 17 = .ok (.ireturn, 1)) hr
theorem kX6_growth {ε : gE5} (hE : gEnv ε) (N : Nat) : gCtr ε yX6_growth cX6_growth 2 (some .int) 0 0 gy0 (fX6_growth N) :=
  gCtr_of hE.1 (by decide) (fun γ G hb ho hy hR he hr => fX6_growth_s0 N G hb ho hy hR he hr hE)

set_option maxRecDepth 100000 in
set_option maxHeartbeats 4000000 in
theorem fX6_letArrive_s44 {γ : gG} {cs ss : Nat} {ε : gE5} (N : Nat) (G : gOK γ) (hb : gcc γ = cX6_letArrive) (ho : gow γ = RX6) (hy : gly γ = gyS) (hR : grm γ = { frames := 3, cells := 0, slots := 0, locals := 73 }) (he : genv γ = ε) (hr : grt γ = none) (hE : gEnv ε) : gSm γ cs ss 44 (fX6_letArrive_k44 N) := by
  unfold fX6_letArrive_k44
  refine sm_istore (pc := 44) G hb (by decide +kernel : decode cX6_letArrive 44 = .ok (.istore 4, 2)) ?_
  refine sm_aload_n (pc := 46) G hb (by decide +kernel : decode cX6_letArrive 46 = .ok (.aload_n 0, 1)) rfl ?_
  refine sm_get (pc := 47) (ci := 7) (j := 1) (N := 4) (T := TX7) G hb ho hy rfl (by decide) gin_7 gw1_185 (by decide +kernel : decode cX6_letArrive 47 = .ok (.getfield 67, 3)) ?_
  refine sm_get (pc := 50) (ci := 4) (j := 3) (N := 12) (T := TX4) G hb ho hy rfl (by decide) gin_4 gw1_130 (by decide +kernel : decode cX6_letArrive 50 = .ok (.getfield 94, 3)) ?_
  refine sm_iload (pc := 53) G hb (by decide +kernel : decode cX6_letArrive 53 = .ok (.iload 4, 2)) ?_
  refine sm_dup2 (pc := 55) G hb (by decide +kernel : decode cX6_letArrive 55 = .ok (.dup2, 1)) ?_
  refine sm_iald (pc := 56) G hb hy (by decide +kernel : decode cX6_letArrive 56 = .ok (.iaload, 1)) ?_
  refine sm_aload_n (pc := 57) G hb (by decide +kernel : decode cX6_letArrive 57 = .ok (.aload_n 0, 1)) rfl ?_
  refine sm_get (pc := 58) (ci := 7) (j := 2) (N := 4) (T := TX7) G hb ho hy rfl (by decide) gin_7 gw1_188 (by decide +kernel : decode cX6_letArrive 58 = .ok (.getfield 61, 3)) ?_
  refine sm_iload_n (pc := 61) G hb (by decide +kernel : decode cX6_letArrive 61 = .ok (.iload_n 3, 1)) rfl ?_
  refine sm_bipush (pc := 62) G hb (by decide +kernel : decode cX6_letArrive 62 = .ok (.bipush 100, 2)) (by decide) ?_
  refine sm_aload_n (pc := 64) G hb (by decide +kernel : decode cX6_letArrive 64 = .ok (.aload_n 2, 1)) rfl ?_
  refine sm_get (pc := 65) (ci := 2) (j := 8) (N := 11) (T := TX2) G hb ho hy rfl (by decide) gin_2 gw1_83 (by decide +kernel : decode cX6_letArrive 65 = .ok (.getfield 48, 3)) ?_
  refine sm_iconst (pc := 68) G hb (by decide +kernel : decode cX6_letArrive 68 = .ok (.iconst 1, 1)) (by decide) ?_
  refine sm_iald (pc := 69) G hb hy (by decide +kernel : decode cX6_letArrive 69 = .ok (.iaload, 1)) ?_
  refine sm_iadd (pc := 70) G hb (by decide +kernel : decode cX6_letArrive 70 = .ok (.iadd, 1)) ?_
  refine sm_imul (pc := 71) G hb (by decide +kernel : decode cX6_letArrive 71 = .ok (.imul, 1)) ?_
  refine sm_mono (ca_sub gI_sub) (sm_callS (pc := 72) G hb ho hy he hE.1 2 [] (kX6_growth hE N) (gCo_of (by decide +kernel)) (by rw [hR]; exact ⟨by decide, by decide⟩) (by decide +kernel) gw4_142 gw4_143 gw1_7 gw4_144 (by decide +kernel : decode cX6_letArrive 72 = .ok (.invokestatic 85, 3)) ?_)
  refine sm_iadd (pc := 75) G hb (by decide +kernel : decode cX6_letArrive 75 = .ok (.iadd, 1)) ?_
  refine sm_iast (pc := 76) G hb hy (by decide +kernel : decode cX6_letArrive 76 = .ok (.iastore, 1)) ?_
  exact sm_vret (pc := 77) G hb (by decide +kernel : decode cX6_letArrive 77 = .ok (.return_, 1)) hr
set_option maxRecDepth 100000 in
set_option maxHeartbeats 4000000 in
theorem fX6_letArrive_s28 {γ : gG} {cs ss : Nat} {ε : gE5} (N : Nat) (G : gOK γ) (hb : gcc γ = cX6_letArrive) (ho : gow γ = RX6) (hy : gly γ = gyS) (hR : grm γ = { frames := 3, cells := 0, slots := 0, locals := 73 }) (he : genv γ = ε) (hr : grt γ = none) (hE : gEnv ε) : gSm γ cs ss 28 (fX6_letArrive_k28 N) := by
  unfold fX6_letArrive_k28
  refine sm_pop (pc := 28) G hb (by decide +kernel : decode cX6_letArrive 28 = .ok (.pop, 1)) ?_
  refine sm_aload_n (pc := 29) G hb (by decide +kernel : decode cX6_letArrive 29 = .ok (.aload_n 2, 1)) rfl ?_
  refine sm_iload_n (pc := 30) G hb (by decide +kernel : decode cX6_letArrive 30 = .ok (.iload_n 1, 1)) rfl ?_
  refine sm_iconst (pc := 31) G hb (by decide +kernel : decode cX6_letArrive 31 = .ok (.iconst 0, 1)) (by decide) ?_
  refine sm_mono (cav_sub gI_sub) (sm_callV (pc := 32) (N := 11) (T := TX2) (C := RX2) G hb ho hy he hE.1 3 [1, 2, 3, 4, 5, 6, 7, 8, 9] (kX2_getNumber hE N) (gCo_of (by decide +kernel)) (by rw [hR]; exact ⟨by decide, by decide⟩) rfl rfl (by decide +kernel) gw4_141 gw3_73 gw3_74 gw1_3 gw3_75 (by decide +kernel : decode cX6_letArrive 32 = .ok (.invokevirtual 82, 3)) ?_)
  refine sm_aload_n (pc := 35) G hb (by decide +kernel : decode cX6_letArrive 35 = .ok (.aload_n 2, 1)) rfl ?_
  refine sm_iload_n (pc := 36) G hb (by decide +kernel : decode cX6_letArrive 36 = .ok (.iload_n 1, 1)) rfl ?_
  refine sm_iconst (pc := 37) G hb (by decide +kernel : decode cX6_letArrive 37 = .ok (.iconst 1, 1)) (by decide) ?_
  refine sm_mono (cav_sub gI_sub) (sm_callV (pc := 38) (N := 11) (T := TX2) (C := RX2) G hb ho hy he hE.1 3 [1, 2, 3, 4, 5, 6, 7, 8, 9] (kX2_getNumber hE N) (gCo_of (by decide +kernel)) (by rw [hR]; exact ⟨by decide, by decide⟩) rfl rfl (by decide +kernel) gw4_141 gw3_73 gw3_74 gw1_3 gw3_75 (by decide +kernel : decode cX6_letArrive 38 = .ok (.invokevirtual 82, 3)) ?_)
  refine sm_mono (ca_sub gI_sub) (sm_callSN (pc := 41) G hb ho hy he hE.1 2 [] (kX8_pair hE N) (gCo_of (by decide +kernel)) (by rw [hR]; exact ⟨by decide, by decide⟩) (by decide +kernel) gw4_146 gw2_82 gw1_1 gw2_83 (by decide +kernel : decode cX6_letArrive 41 = .ok (.invokestatic 91, 3)) ?_)
  refine sm_mask ?_
  exact fX6_letArrive_s44 N G hb ho hy hR he hr hE
set_option maxRecDepth 100000 in
set_option maxHeartbeats 4000000 in
theorem fX6_letArrive_s0 {γ : gG} {cs ss : Nat} {ε : gE5} (N : Nat) (G : gOK γ) (hb : gcc γ = cX6_letArrive) (ho : gow γ = RX6) (hy : gly γ = gyS) (hR : grm γ = { frames := 3, cells := 0, slots := 0, locals := 73 }) (he : genv γ = ε) (hr : grt γ = none) (hE : gEnv ε) : gSm γ cs ss 0 (fX6_letArrive_k0 N) := by
  unfold fX6_letArrive_k0
  refine sm_aload_n (pc := 0) G hb (by decide +kernel : decode cX6_letArrive 0 = .ok (.aload_n 0, 1)) rfl ?_
  refine sm_get (pc := 1) (ci := 7) (j := 0) (N := 4) (T := TX7) G hb ho hy rfl (by decide) gin_7 gw1_182 (by decide +kernel : decode cX6_letArrive 1 = .ok (.getfield 32, 3)) ?_
  refine sm_astore_n (pc := 4) G hb (by decide +kernel : decode cX6_letArrive 4 = .ok (.astore_n 2, 1)) rfl ?_
  refine sm_aload_n (pc := 5) G hb (by decide +kernel : decode cX6_letArrive 5 = .ok (.aload_n 2, 1)) rfl ?_
  refine sm_iload_n (pc := 6) G hb (by decide +kernel : decode cX6_letArrive 6 = .ok (.iload_n 1, 1)) rfl ?_
  refine sm_iconst (pc := 7) G hb (by decide +kernel : decode cX6_letArrive 7 = .ok (.iconst 2, 1)) (by decide) ?_
  refine sm_mono (cav_sub gI_sub) (sm_callV (pc := 8) (N := 11) (T := TX2) (C := RX2) G hb ho hy he hE.1 3 [1, 2, 3, 4, 5, 6, 7, 8, 9] (kX2_getNumber hE N) (gCo_of (by decide +kernel)) (by rw [hR]; exact ⟨by decide, by decide⟩) rfl rfl (by decide +kernel) gw4_141 gw3_73 gw3_74 gw1_3 gw3_75 (by decide +kernel : decode cX6_letArrive 8 = .ok (.invokevirtual 82, 3)) ?_)
  refine sm_istore_n (pc := 11) G hb (by decide +kernel : decode cX6_letArrive 11 = .ok (.istore_n 3, 1)) rfl ?_
  refine sm_aload_n (pc := 12) G hb (by decide +kernel : decode cX6_letArrive 12 = .ok (.aload_n 0, 1)) rfl ?_
  refine sm_iload_n (pc := 13) G hb (by decide +kernel : decode cX6_letArrive 13 = .ok (.iload_n 1, 1)) rfl ?_
  refine sm_aload_n (pc := 14) G hb (by decide +kernel : decode cX6_letArrive 14 = .ok (.aload_n 0, 1)) rfl ?_
  refine sm_get (pc := 15) (ci := 7) (j := 2) (N := 4) (T := TX7) G hb ho hy rfl (by decide) gin_7 gw1_188 (by decide +kernel : decode cX6_letArrive 15 = .ok (.getfield 61, 3)) ?_
  refine sm_iload_n (pc := 18) G hb (by decide +kernel : decode cX6_letArrive 18 = .ok (.iload_n 3, 1)) rfl ?_
  refine sm_bipush (pc := 19) G hb (by decide +kernel : decode cX6_letArrive 19 = .ok (.bipush 100, 2)) (by decide) ?_
  refine sm_imul (pc := 21) G hb (by decide +kernel : decode cX6_letArrive 21 = .ok (.imul, 1)) ?_
  refine sm_mono (ca_sub gI_sub) (sm_callS (pc := 22) G hb ho hy he hE.1 2 [] (kX6_growth hE N) (gCo_of (by decide +kernel)) (by rw [hR]; exact ⟨by decide, by decide⟩) (by decide +kernel) gw4_142 gw4_143 gw1_7 gw4_144 (by decide +kernel : decode cX6_letArrive 22 = .ok (.invokestatic 85, 3)) ?_)
  refine sm_mono (cav_sub gI_sub) (sm_callV (pc := 25) (N := 4) (T := TX7) (C := RX7) G hb ho hy he hE.1 3 [0, 1, 2, 3, 4, 5, 6, 7, 8, 9, 10, 11, 12, 13, 14, 15, 16, 17, 18, 19] (kX7_arrive hE N) (gCo_of (by decide +kernel)) (by rw [hR]; exact ⟨by decide, by decide⟩) rfl rfl (by decide +kernel) gw4_145 gw4_85 gw4_86 gw1_2 gw4_87 (by decide +kernel : decode cX6_letArrive 25 = .ok (.invokevirtual 88, 3)) ?_)
  refine sm_mask ?_
  exact fX6_letArrive_s28 N G hb ho hy hR he hr hE
theorem kX6_letArrive {ε : gE5} (hE : gEnv ε) (N : Nat) : gCtr ε yX6_letArrive cX6_letArrive 5 none 3 73 gyS (fX6_letArrive N) :=
  gCtr_of hE.1 (by decide) (fun γ G hb ho hy hR he hr => fX6_letArrive_s0 N G hb ho hy hR he hr hE)

set_option maxRecDepth 100000 in
set_option maxHeartbeats 4000000 in
theorem fX6_deliver_s63 {γ : gG} {cs ss : Nat} {ε : gE5} (N : Nat) (G : gOK γ) (hb : gcc γ = cX6_deliver) (ho : gow γ = RX6) (hy : gly γ = gyS) (hR : grm γ = { frames := 1, cells := 0, slots := 0, locals := 23 }) (he : genv γ = ε) (hr : grt γ = none) (hE : gEnv ε) : gSm γ cs ss 63 (fX6_deliver_k63 N) := by
  unfold fX6_deliver_k63
  refine sm_jmax (pc := 63) G hb ho (by rw [hR]; exact ⟨by decide, by decide⟩) gw4_189 gw4_157 gw1_21 gw4_158 (by decide +kernel : decode cX6_deliver 63 = .ok (.invokestatic 76, 3)) ?_
  refine sm_mono (cav_sub gV_sub) (sm_callV (pc := 66) (N := 11) (T := TX2) (C := RX2) G hb ho hy he hE.1 4 [1, 2, 3, 4, 5, 6, 7, 8, 9] (kX2_putNumber hE N) (gCo_of (by decide +kernel)) (by rw [hR]; exact ⟨by decide, by decide⟩) rfl rfl (by decide +kernel) gw4_190 gw2_97 gw2_98 gw1_3 gw2_99 (by decide +kernel : decode cX6_deliver 66 = .ok (.invokevirtual 147, 3)) ?_)
  refine sm_aload_n (pc := 69) G hb (by decide +kernel : decode cX6_deliver 69 = .ok (.aload_n 0, 1)) rfl ?_
  refine sm_get (pc := 70) (ci := 7) (j := 1) (N := 4) (T := TX7) G hb ho hy rfl (by decide) gin_7 gw1_185 (by decide +kernel : decode cX6_deliver 70 = .ok (.getfield 67, 3)) ?_
  refine sm_iload_n (pc := 73) G hb (by decide +kernel : decode cX6_deliver 73 = .ok (.iload_n 1, 1)) rfl ?_
  refine sm_mono (cav_sub gV_sub) (sm_callV (pc := 74) (N := 12) (T := TX4) (C := RX4) G hb ho hy he hE.1 2 [10, 11, 12, 13, 14, 15, 16, 17, 18, 19] (kX4_release hE N) (gCo_of (by decide +kernel)) (by rw [hR]; exact ⟨by decide, by decide⟩) rfl rfl (by decide +kernel) gw4_191 gw4_119 gw4_120 gw1_4 gw4_121 (by decide +kernel : decode cX6_deliver 74 = .ok (.invokevirtual 150, 3)) ?_)
  exact sm_vret (pc := 77) G hb (by decide +kernel : decode cX6_deliver 77 = .ok (.return_, 1)) hr
set_option maxRecDepth 100000 in
set_option maxHeartbeats 4000000 in
theorem fX6_deliver_s0 {γ : gG} {cs ss : Nat} {ε : gE5} (N : Nat) (G : gOK γ) (hb : gcc γ = cX6_deliver) (ho : gow γ = RX6) (hy : gly γ = gyS) (hR : grm γ = { frames := 1, cells := 0, slots := 0, locals := 23 }) (he : genv γ = ε) (hr : grt γ = none) (hE : gEnv ε) : gSm γ cs ss 0 (fX6_deliver_k0 N) := by
  unfold fX6_deliver_k0
  refine sm_aload_n (pc := 0) G hb (by decide +kernel : decode cX6_deliver 0 = .ok (.aload_n 0, 1)) rfl ?_
  refine sm_get (pc := 1) (ci := 7) (j := 0) (N := 4) (T := TX7) G hb ho hy rfl (by decide) gin_7 gw1_182 (by decide +kernel : decode cX6_deliver 1 = .ok (.getfield 32, 3)) ?_
  refine sm_astore_n (pc := 4) G hb (by decide +kernel : decode cX6_deliver 4 = .ok (.astore_n 2, 1)) rfl ?_
  refine sm_aload_n (pc := 5) G hb (by decide +kernel : decode cX6_deliver 5 = .ok (.aload_n 0, 1)) rfl ?_
  refine sm_get (pc := 6) (ci := 7) (j := 1) (N := 4) (T := TX7) G hb ho hy rfl (by decide) gin_7 gw1_185 (by decide +kernel : decode cX6_deliver 6 = .ok (.getfield 67, 3)) ?_
  refine sm_get (pc := 9) (ci := 4) (j := 5) (N := 12) (T := TX4) G hb ho hy rfl (by decide) gin_4 gw1_136 (by decide +kernel : decode cX6_deliver 9 = .ok (.getfield 137, 3)) ?_
  refine sm_iload_n (pc := 12) G hb (by decide +kernel : decode cX6_deliver 12 = .ok (.iload_n 1, 1)) rfl ?_
  refine sm_iald (pc := 13) G hb hy (by decide +kernel : decode cX6_deliver 13 = .ok (.iaload, 1)) ?_
  refine sm_istore_n (pc := 14) G hb (by decide +kernel : decode cX6_deliver 14 = .ok (.istore_n 3, 1)) rfl ?_
  refine sm_aload_n (pc := 15) G hb (by decide +kernel : decode cX6_deliver 15 = .ok (.aload_n 0, 1)) rfl ?_
  refine sm_get (pc := 16) (ci := 7) (j := 2) (N := 4) (T := TX7) G hb ho hy rfl (by decide) gin_7 gw1_188 (by decide +kernel : decode cX6_deliver 16 = .ok (.getfield 61, 3)) ?_
  refine sm_iconst (pc := 19) G hb (by decide +kernel : decode cX6_deliver 19 = .ok (.iconst 1, 1)) (by decide) ?_
  refine sm_iadd (pc := 20) G hb (by decide +kernel : decode cX6_deliver 20 = .ok (.iadd, 1)) ?_
  refine sm_aload_n (pc := 21) G hb (by decide +kernel : decode cX6_deliver 21 = .ok (.aload_n 0, 1)) rfl ?_
  refine sm_get (pc := 22) (ci := 7) (j := 1) (N := 4) (T := TX7) G hb ho hy rfl (by decide) gin_7 gw1_185 (by decide +kernel : decode cX6_deliver 22 = .ok (.getfield 67, 3)) ?_
  refine sm_get (pc := 25) (ci := 4) (j := 6) (N := 12) (T := TX4) G hb ho hy rfl (by decide) gin_4 gw1_140 (by decide +kernel : decode cX6_deliver 25 = .ok (.getfield 140, 3)) ?_
  refine sm_iload_n (pc := 28) G hb (by decide +kernel : decode cX6_deliver 28 = .ok (.iload_n 1, 1)) rfl ?_
  refine sm_iald (pc := 29) G hb hy (by decide +kernel : decode cX6_deliver 29 = .ok (.iaload, 1)) ?_
  refine sm_isub (pc := 30) G hb (by decide +kernel : decode cX6_deliver 30 = .ok (.isub, 1)) ?_
  refine sm_istore (pc := 31) G hb (by decide +kernel : decode cX6_deliver 31 = .ok (.istore 4, 2)) ?_
  refine sm_aload_n (pc := 33) G hb (by decide +kernel : decode cX6_deliver 33 = .ok (.aload_n 2, 1)) rfl ?_
  refine sm_iload_n (pc := 34) G hb (by decide +kernel : decode cX6_deliver 34 = .ok (.iload_n 3, 1)) rfl ?_
  refine sm_bipush (pc := 35) G hb (by decide +kernel : decode cX6_deliver 35 = .ok (.bipush 6, 2)) (by decide) ?_
  refine sm_iconst (pc := 37) G hb (by decide +kernel : decode cX6_deliver 37 = .ok (.iconst 1, 1)) (by decide) ?_
  refine sm_mono (cav_sub gV_sub) (sm_callV (pc := 38) (N := 11) (T := TX2) (C := RX2) G hb ho hy he hE.1 4 [1, 2, 3, 4, 5, 6, 7, 8, 9] (kX2_addNumber hE N) (gCo_of (by decide +kernel)) (by rw [hR]; exact ⟨by decide, by decide⟩) rfl rfl (by decide +kernel) gw4_188 gw4_99 gw4_100 gw1_3 gw4_101 (by decide +kernel : decode cX6_deliver 38 = .ok (.invokevirtual 143, 3)) ?_)
  refine sm_aload_n (pc := 41) G hb (by decide +kernel : decode cX6_deliver 41 = .ok (.aload_n 2, 1)) rfl ?_
  refine sm_iload_n (pc := 42) G hb (by decide +kernel : decode cX6_deliver 42 = .ok (.iload_n 3, 1)) rfl ?_
  refine sm_bipush (pc := 43) G hb (by decide +kernel : decode cX6_deliver 43 = .ok (.bipush 9, 2)) (by decide) ?_
  refine sm_iload (pc := 45) G hb (by decide +kernel : decode cX6_deliver 45 = .ok (.iload 4, 2)) ?_
  refine sm_mono (cav_sub gV_sub) (sm_callV (pc := 47) (N := 11) (T := TX2) (C := RX2) G hb ho hy he hE.1 4 [1, 2, 3, 4, 5, 6, 7, 8, 9] (kX2_addNumber hE N) (gCo_of (by decide +kernel)) (by rw [hR]; exact ⟨by decide, by decide⟩) rfl rfl (by decide +kernel) gw4_188 gw4_99 gw4_100 gw1_3 gw4_101 (by decide +kernel : decode cX6_deliver 47 = .ok (.invokevirtual 143, 3)) ?_)
  refine sm_aload_n (pc := 50) G hb (by decide +kernel : decode cX6_deliver 50 = .ok (.aload_n 2, 1)) rfl ?_
  refine sm_iload_n (pc := 51) G hb (by decide +kernel : decode cX6_deliver 51 = .ok (.iload_n 3, 1)) rfl ?_
  refine sm_bipush (pc := 52) G hb (by decide +kernel : decode cX6_deliver 52 = .ok (.bipush 10, 2)) (by decide) ?_
  refine sm_iload (pc := 54) G hb (by decide +kernel : decode cX6_deliver 54 = .ok (.iload 4, 2)) ?_
  refine sm_aload_n (pc := 56) G hb (by decide +kernel : decode cX6_deliver 56 = .ok (.aload_n 2, 1)) rfl ?_
  refine sm_iload_n (pc := 57) G hb (by decide +kernel : decode cX6_deliver 57 = .ok (.iload_n 3, 1)) rfl ?_
  refine sm_bipush (pc := 58) G hb (by decide +kernel : decode cX6_deliver 58 = .ok (.bipush 10, 2)) (by decide) ?_
  refine sm_mono (cav_sub gI_sub) (sm_callV (pc := 60) (N := 11) (T := TX2) (C := RX2) G hb ho hy he hE.1 3 [1, 2, 3, 4, 5, 6, 7, 8, 9] (kX2_getNumber hE N) (gCo_of (by decide +kernel)) (by rw [hR]; exact ⟨by decide, by decide⟩) rfl rfl (by decide +kernel) gw4_141 gw3_73 gw3_74 gw1_3 gw3_75 (by decide +kernel : decode cX6_deliver 60 = .ok (.invokevirtual 82, 3)) ?_)
  refine sm_mask ?_
  exact fX6_deliver_s63 N G hb ho hy hR he hr hE
theorem kX6_deliver {ε : gE5} (hE : gEnv ε) (N : Nat) : gCtr ε yX6_deliver cX6_deliver 5 none 1 23 gyS (fX6_deliver N) :=
  gCtr_of hE.1 (by decide) (fun γ G hb ho hy hR he hr => fX6_deliver_s0 N G hb ho hy hR he hr hE)

set_option maxRecDepth 100000 in
set_option maxHeartbeats 4000000 in
theorem fX6_pass_s49 {γ : gG} {cs ss : Nat} {ε : gE5} (N : Nat) (G : gOK γ) (hb : gcc γ = cX6_pass) (ho : gow γ = RX6) (hy : gly γ = gyS) (hR : grm γ = { frames := 1, cells := 0, slots := 0, locals := 23 }) (he : genv γ = ε) (hr : grt γ = none) (hE : gEnv ε) : gSm γ cs ss 49 (fX6_pass_k49 N) := by
  unfold fX6_pass_k49
  refine sm_aload (pc := 49) G hb (by decide +kernel : decode cX6_pass 49 = .ok (.aload 4, 2)) ?_
  refine sm_get (pc := 51) (ci := 4) (j := 8) (N := 12) (T := TX4) G hb ho hy rfl (by decide) gin_4 gw1_146 (by decide +kernel : decode cX6_pass 51 = .ok (.getfield 157, 3)) ?_
  refine sm_iload_n (pc := 54) G hb (by decide +kernel : decode cX6_pass 54 = .ok (.iload_n 1, 1)) rfl ?_
  refine sm_dup2 (pc := 55) G hb (by decide +kernel : decode cX6_pass 55 = .ok (.dup2, 1)) ?_
  refine sm_iald (pc := 56) G hb hy (by decide +kernel : decode cX6_pass 56 = .ok (.iaload, 1)) ?_
  refine sm_iconst (pc := 57) G hb (by decide +kernel : decode cX6_pass 57 = .ok (.iconst 1, 1)) (by decide) ?_
  refine sm_iload_n (pc := 58) G hb (by decide +kernel : decode cX6_pass 58 = .ok (.iload_n 3, 1)) rfl ?_
  refine sm_ishl (pc := 59) G hb (by decide +kernel : decode cX6_pass 59 = .ok (.ishl, 1)) ?_
  refine sm_ior (pc := 60) G hb (by decide +kernel : decode cX6_pass 60 = .ok (.ior, 1)) ?_
  refine sm_iast (pc := 61) G hb hy (by decide +kernel : decode cX6_pass 61 = .ok (.iastore, 1)) ?_
  refine sm_aload (pc := 62) G hb (by decide +kernel : decode cX6_pass 62 = .ok (.aload 4, 2)) ?_
  refine sm_iload_n (pc := 64) G hb (by decide +kernel : decode cX6_pass 64 = .ok (.iload_n 2, 1)) rfl ?_
  refine sm_iload_n (pc := 65) G hb (by decide +kernel : decode cX6_pass 65 = .ok (.iload_n 1, 1)) rfl ?_
  refine sm_mono (cav_sub gV_sub) (sm_callV (pc := 66) (N := 12) (T := TX4) (C := RX4) G hb ho hy he hE.1 3 [10, 11, 12, 13, 14, 15, 16, 17, 18, 19] (kX4_putLast hE N) (gCo_of (by decide +kernel)) (by rw [hR]; exact ⟨by decide, by decide⟩) rfl rfl (by decide +kernel) gw4_195 gw4_95 gw4_96 gw1_4 gw4_97 (by decide +kernel : decode cX6_pass 66 = .ok (.invokevirtual 160, 3)) ?_)
  exact sm_vret (pc := 69) G hb (by decide +kernel : decode cX6_pass 69 = .ok (.return_, 1)) hr
set_option maxRecDepth 100000 in
set_option maxHeartbeats 4000000 in
theorem fX6_pass_s0 {γ : gG} {cs ss : Nat} {ε : gE5} (N : Nat) (G : gOK γ) (hb : gcc γ = cX6_pass) (ho : gow γ = RX6) (hy : gly γ = gyS) (hR : grm γ = { frames := 1, cells := 0, slots := 0, locals := 23 }) (he : genv γ = ε) (hr : grt γ = none) (hE : gEnv ε) : gSm γ cs ss 0 (fX6_pass_k0 N) := by
  unfold fX6_pass_k0
  refine sm_aload_n (pc := 0) G hb (by decide +kernel : decode cX6_pass 0 = .ok (.aload_n 0, 1)) rfl ?_
  refine sm_get (pc := 1) (ci := 7) (j := 1) (N := 4) (T := TX7) G hb ho hy rfl (by decide) gin_7 gw1_185 (by decide +kernel : decode cX6_pass 1 = .ok (.getfield 67, 3)) ?_
  refine sm_astore (pc := 4) G hb (by decide +kernel : decode cX6_pass 4 = .ok (.astore 4, 2)) ?_
  refine sm_aload (pc := 6) G hb (by decide +kernel : decode cX6_pass 6 = .ok (.aload 4, 2)) ?_
  refine sm_get (pc := 8) (ci := 4) (j := 7) (N := 12) (T := TX4) G hb ho hy rfl (by decide) gin_4 gw1_143 (by decide +kernel : decode cX6_pass 8 = .ok (.getfield 154, 3)) ?_
  refine sm_iload_n (pc := 11) G hb (by decide +kernel : decode cX6_pass 11 = .ok (.iload_n 1, 1)) rfl ?_
  refine sm_dup2 (pc := 12) G hb (by decide +kernel : decode cX6_pass 12 = .ok (.dup2, 1)) ?_
  refine sm_iald (pc := 13) G hb hy (by decide +kernel : decode cX6_pass 13 = .ok (.iaload, 1)) ?_
  refine sm_iconst (pc := 14) G hb (by decide +kernel : decode cX6_pass 14 = .ok (.iconst 1, 1)) (by decide) ?_
  refine sm_iadd (pc := 15) G hb (by decide +kernel : decode cX6_pass 15 = .ok (.iadd, 1)) ?_
  refine sm_iast (pc := 16) G hb hy (by decide +kernel : decode cX6_pass 16 = .ok (.iastore, 1)) ?_
  refine sm_aload (pc := 17) G hb (by decide +kernel : decode cX6_pass 17 = .ok (.aload 4, 2)) ?_
  refine sm_get (pc := 19) (ci := 4) (j := 8) (N := 12) (T := TX4) G hb ho hy rfl (by decide) gin_4 gw1_146 (by decide +kernel : decode cX6_pass 19 = .ok (.getfield 157, 3)) ?_
  refine sm_iload_n (pc := 22) G hb (by decide +kernel : decode cX6_pass 22 = .ok (.iload_n 1, 1)) rfl ?_
  refine sm_iald (pc := 23) G hb hy (by decide +kernel : decode cX6_pass 23 = .ok (.iaload, 1)) ?_
  refine sm_iload_n (pc := 24) G hb (by decide +kernel : decode cX6_pass 24 = .ok (.iload_n 3, 1)) rfl ?_
  refine sm_ishr (pc := 25) G hb (by decide +kernel : decode cX6_pass 25 = .ok (.ishr, 1)) ?_
  refine sm_iconst (pc := 26) G hb (by decide +kernel : decode cX6_pass 26 = .ok (.iconst 1, 1)) (by decide) ?_
  refine sm_iand (pc := 27) G hb (by decide +kernel : decode cX6_pass 27 = .ok (.iand, 1)) ?_
  refine sm_iconst (pc := 28) G hb (by decide +kernel : decode cX6_pass 28 = .ok (.iconst 1, 1)) (by decide) ?_
  refine sm_icmp_ne (pc := 29) (tgt := 49) G hb (by decide +kernel : decode cX6_pass 29 = .ok (.if_icmp .ne 20, 3)) (by decide) ?_ ?_
  · skip
    refine sm_mask ?_
    exact fX6_pass_s49 N G hb ho hy hR he hr hE
  · skip
    refine sm_aload_n (pc := 32) G hb (by decide +kernel : decode cX6_pass 32 = .ok (.aload_n 0, 1)) rfl ?_
    refine sm_get (pc := 33) (ci := 7) (j := 0) (N := 4) (T := TX7) G hb ho hy rfl (by decide) gin_7 gw1_182 (by decide +kernel : decode cX6_pass 33 = .ok (.getfield 32, 3)) ?_
    refine sm_aload (pc := 36) G hb (by decide +kernel : decode cX6_pass 36 = .ok (.aload 4, 2)) ?_
    refine sm_get (pc := 38) (ci := 4) (j := 5) (N := 12) (T := TX4) G hb ho hy rfl (by decide) gin_4 gw1_136 (by decide +kernel : decode cX6_pass 38 = .ok (.getfield 137, 3)) ?_
    refine sm_iload_n (pc := 41) G hb (by decide +kernel : decode cX6_pass 41 = .ok (.iload_n 1, 1)) rfl ?_
    refine sm_iald (pc := 42) G hb hy (by decide +kernel : decode cX6_pass 42 = .ok (.iaload, 1)) ?_
    refine sm_bipush (pc := 43) G hb (by decide +kernel : decode cX6_pass 43 = .ok (.bipush 8, 2)) (by decide) ?_
    refine sm_iconst (pc := 45) G hb (by decide +kernel : decode cX6_pass 45 = .ok (.iconst 1, 1)) (by decide) ?_
    refine sm_mono (cav_sub gV_sub) (sm_callV (pc := 46) (N := 11) (T := TX2) (C := RX2) G hb ho hy he hE.1 4 [1, 2, 3, 4, 5, 6, 7, 8, 9] (kX2_addNumber hE N) (gCo_of (by decide +kernel)) (by rw [hR]; exact ⟨by decide, by decide⟩) rfl rfl (by decide +kernel) gw4_188 gw4_99 gw4_100 gw1_3 gw4_101 (by decide +kernel : decode cX6_pass 46 = .ok (.invokevirtual 143, 3)) ?_)
    refine sm_mask ?_
    exact fX6_pass_s49 N G hb ho hy hR he hr hE
theorem kX6_pass {ε : gE5} (hE : gEnv ε) (N : Nat) : gCtr ε yX6_pass cX6_pass 5 none 1 23 gyS (fX6_pass N) :=
  gCtr_of hE.1 (by decide) (fun γ G hb ho hy hR he hr => fX6_pass_s0 N G hb ho hy hR he hr hE)

set_option maxRecDepth 100000 in
set_option maxHeartbeats 4000000 in
theorem fX6_takeFor_s52 {γ : gG} {cs ss : Nat} {ε : gE5} (N : Nat) (G : gOK γ) (hb : gcc γ = cX6_takeFor) (ho : gow γ = RX6) (hy : gly γ = gyRS) (hR : grm γ = { frames := 1, cells := 0, slots := 0, locals := 23 }) (he : genv γ = ε) (hr : grt γ = none) (hE : gEnv ε) : gSm γ cs ss 52 (fX6_takeFor_k52 N) := by
  unfold fX6_takeFor_k52
  refine sm_lp (fun K52 h52 => ?_) N
  unfold fX6_takeFor_b52
  refine sm_iload (pc := 52) G hb (by decide +kernel : decode cX6_takeFor 52 = .ok (.iload 6, 2)) ?_
  refine sm_iload (pc := 54) G hb (by decide +kernel : decode cX6_takeFor 54 = .ok (.iload 5, 2)) ?_
  refine sm_icmp_ge (pc := 56) (tgt := 86) G hb (by decide +kernel : decode cX6_takeFor 56 = .ok (.if_icmp .ge 30, 3)) (by decide) ?_ ?_
  · skip
    refine sm_aload_n (pc := 86) G hb (by decide +kernel : decode cX6_takeFor 86 = .ok (.aload_n 0, 1)) rfl ?_
    refine sm_get (pc := 87) (ci := 6) (j := 2) (N := 4) (T := TX6) G hb ho hy rfl (by decide) gin_6 gw2_42 (by decide +kernel : decode cX6_takeFor 87 = .ok (.getfield 22, 3)) ?_
    refine sm_iload_n (pc := 90) G hb (by decide +kernel : decode cX6_takeFor 90 = .ok (.iload_n 2, 1)) rfl ?_
    refine sm_iload (pc := 91) G hb (by decide +kernel : decode cX6_takeFor 91 = .ok (.iload 5, 2)) ?_
    refine sm_iast (pc := 93) G hb hy (by decide +kernel : decode cX6_takeFor 93 = .ok (.iastore, 1)) ?_
    refine sm_aload_n (pc := 94) G hb (by decide +kernel : decode cX6_takeFor 94 = .ok (.aload_n 1, 1)) rfl ?_
    refine sm_get (pc := 95) (ci := 7) (j := 0) (N := 4) (T := TX7) G hb ho hy rfl (by decide) gin_7 gw1_182 (by decide +kernel : decode cX6_takeFor 95 = .ok (.getfield 32, 3)) ?_
    refine sm_get (pc := 98) (ci := 2) (j := 6) (N := 11) (T := TX2) G hb ho hy rfl (by decide) gin_2 gw1_76 (by decide +kernel : decode cX6_takeFor 98 = .ok (.getfield 124, 3)) ?_
    refine sm_iload_n (pc := 101) G hb (by decide +kernel : decode cX6_takeFor 101 = .ok (.iload_n 2, 1)) rfl ?_
    refine sm_dup2 (pc := 102) G hb (by decide +kernel : decode cX6_takeFor 102 = .ok (.dup2, 1)) ?_
    refine sm_iald (pc := 103) G hb hy (by decide +kernel : decode cX6_takeFor 103 = .ok (.iaload, 1)) ?_
    refine sm_iload (pc := 104) G hb (by decide +kernel : decode cX6_takeFor 104 = .ok (.iload 5, 2)) ?_
    refine sm_iadd (pc := 106) G hb (by decide +kernel : decode cX6_takeFor 106 = .ok (.iadd, 1)) ?_
    refine sm_iast (pc := 107) G hb hy (by decide +kernel : decode cX6_takeFor 107 = .ok (.iastore, 1)) ?_
    refine sm_aload_n (pc := 108) G hb (by decide +kernel : decode cX6_takeFor 108 = .ok (.aload_n 0, 1)) rfl ?_
    refine sm_get (pc := 109) (ci := 6) (j := 3) (N := 4) (T := TX6) G hb ho hy rfl (by decide) gin_6 gw2_43 (by decide +kernel : decode cX6_takeFor 109 = .ok (.getfield 25, 3)) ?_
    refine sm_iload_n (pc := 112) G hb (by decide +kernel : decode cX6_takeFor 112 = .ok (.iload_n 2, 1)) rfl ?_
    refine sm_iload_n (pc := 113) G hb (by decide +kernel : decode cX6_takeFor 113 = .ok (.iload_n 3, 1)) rfl ?_
    refine sm_aload_n (pc := 114) G hb (by decide +kernel : decode cX6_takeFor 114 = .ok (.aload_n 1, 1)) rfl ?_
    refine sm_get (pc := 115) (ci := 7) (j := 1) (N := 4) (T := TX7) G hb ho hy rfl (by decide) gin_7 gw1_185 (by decide +kernel : decode cX6_takeFor 115 = .ok (.getfield 67, 3)) ?_
    refine sm_get (pc := 118) (ci := 4) (j := 3) (N := 12) (T := TX4) G hb ho hy rfl (by decide) gin_4 gw1_130 (by decide +kernel : decode cX6_takeFor 118 = .ok (.getfield 94, 3)) ?_
    refine sm_iload (pc := 121) G hb (by decide +kernel : decode cX6_takeFor 121 = .ok (.iload 4, 2)) ?_
    refine sm_iald (pc := 123) G hb hy (by decide +kernel : decode cX6_takeFor 123 = .ok (.iaload, 1)) ?_
    refine sm_jmin (pc := 124) G hb ho (by rw [hR]; exact ⟨by decide, by decide⟩) gw4_177 gw4_178 gw1_21 gw4_179 (by decide +kernel : decode cX6_takeFor 124 = .ok (.invokestatic 118, 3)) ?_
    refine sm_iast (pc := 127) G hb hy (by decide +kernel : decode cX6_takeFor 127 = .ok (.iastore, 1)) ?_
    refine sm_aload_n (pc := 128) G hb (by decide +kernel : decode cX6_takeFor 128 = .ok (.aload_n 1, 1)) rfl ?_
    refine sm_get (pc := 129) (ci := 7) (j := 1) (N := 4) (T := TX7) G hb ho hy rfl (by decide) gin_7 gw1_185 (by decide +kernel : decode cX6_takeFor 129 = .ok (.getfield 67, 3)) ?_
    refine sm_get (pc := 132) (ci := 4) (j := 3) (N := 12) (T := TX4) G hb ho hy rfl (by decide) gin_4 gw1_130 (by decide +kernel : decode cX6_takeFor 132 = .ok (.getfield 94, 3)) ?_
    refine sm_iload (pc := 135) G hb (by decide +kernel : decode cX6_takeFor 135 = .ok (.iload 4, 2)) ?_
    refine sm_dup2 (pc := 137) G hb (by decide +kernel : decode cX6_takeFor 137 = .ok (.dup2, 1)) ?_
    refine sm_iald (pc := 138) G hb hy (by decide +kernel : decode cX6_takeFor 138 = .ok (.iaload, 1)) ?_
    refine sm_aload_n (pc := 139) G hb (by decide +kernel : decode cX6_takeFor 139 = .ok (.aload_n 0, 1)) rfl ?_
    refine sm_get (pc := 140) (ci := 6) (j := 3) (N := 4) (T := TX6) G hb ho hy rfl (by decide) gin_6 gw2_43 (by decide +kernel : decode cX6_takeFor 140 = .ok (.getfield 25, 3)) ?_
    refine sm_iload_n (pc := 143) G hb (by decide +kernel : decode cX6_takeFor 143 = .ok (.iload_n 2, 1)) rfl ?_
    refine sm_iald (pc := 144) G hb hy (by decide +kernel : decode cX6_takeFor 144 = .ok (.iaload, 1)) ?_
    refine sm_isub (pc := 145) G hb (by decide +kernel : decode cX6_takeFor 145 = .ok (.isub, 1)) ?_
    refine sm_iast (pc := 146) G hb hy (by decide +kernel : decode cX6_takeFor 146 = .ok (.iastore, 1)) ?_
    exact sm_vret (pc := 147) G hb (by decide +kernel : decode cX6_takeFor 147 = .ok (.return_, 1)) hr
  · skip
    refine sm_aload_n (pc := 59) G hb (by decide +kernel : decode cX6_takeFor 59 = .ok (.aload_n 0, 1)) rfl ?_
    refine sm_get (pc := 60) (ci := 6) (j := 1) (N := 4) (T := TX6) G hb ho hy rfl (by decide) gin_6 gw2_41 (by decide +kernel : decode cX6_takeFor 60 = .ok (.getfield 18, 3)) ?_
    refine sm_iload_n (pc := 63) G hb (by decide +kernel : decode cX6_takeFor 63 = .ok (.iload_n 2, 1)) rfl ?_
    refine sm_iconst (pc := 64) G hb (by decide +kernel : decode cX6_takeFor 64 = .ok (.iconst 5, 1)) (by decide) ?_
    refine sm_imul (pc := 65) G hb (by decide +kernel : decode cX6_takeFor 65 = .ok (.imul, 1)) ?_
    refine sm_iload (pc := 66) G hb (by decide +kernel : decode cX6_takeFor 66 = .ok (.iload 6, 2)) ?_
    refine sm_iadd (pc := 68) G hb (by decide +kernel : decode cX6_takeFor 68 = .ok (.iadd, 1)) ?_
    refine sm_aload_n (pc := 69) G hb (by decide +kernel : decode cX6_takeFor 69 = .ok (.aload_n 1, 1)) rfl ?_
    refine sm_get (pc := 70) (ci := 7) (j := 1) (N := 4) (T := TX7) G hb ho hy rfl (by decide) gin_7 gw1_185 (by decide +kernel : decode cX6_takeFor 70 = .ok (.getfield 67, 3)) ?_
    refine sm_iload (pc := 73) G hb (by decide +kernel : decode cX6_takeFor 73 = .ok (.iload 4, 2)) ?_
    refine sm_iconst (pc := 75) G hb (by decide +kernel : decode cX6_takeFor 75 = .ok (.iconst (-1), 1)) (by decide) ?_
    refine sm_mono (cav_sub gI_sub) (sm_callV (pc := 76) (N := 12) (T := TX4) (C := RX4) G hb ho hy he hE.1 3 [17, 18, 19, 20, 21, 22, 23, 24, 25, 26] (kX4_takeBehind hE N) (gCo_of (by decide +kernel)) (by rw [hR]; exact ⟨by decide, by decide⟩) rfl rfl (by decide +kernel) gw4_180 gw4_115 gw4_116 gw1_4 gw4_117 (by decide +kernel : decode cX6_takeFor 76 = .ok (.invokevirtual 121, 3)) ?_)
    refine sm_iast (pc := 79) G hb hy (by decide +kernel : decode cX6_takeFor 79 = .ok (.iastore, 1)) ?_
    refine sm_iinc (pc := 80) G hb (by decide +kernel : decode cX6_takeFor 80 = .ok (.iinc 6 1, 3)) (by decide) ?_
    refine sm_goto (pc := 83) (tgt := 52) G hb (by decide +kernel : decode cX6_takeFor 83 = .ok (.goto (-31), 3)) (by decide) ?_
    refine sm_mask ?_
    exact h52
set_option maxRecDepth 100000 in
set_option maxHeartbeats 4000000 in
theorem fX6_takeFor_s0 {γ : gG} {cs ss : Nat} {ε : gE5} (N : Nat) (G : gOK γ) (hb : gcc γ = cX6_takeFor) (ho : gow γ = RX6) (hy : gly γ = gyRS) (hR : grm γ = { frames := 1, cells := 0, slots := 0, locals := 23 }) (he : genv γ = ε) (hr : grt γ = none) (hE : gEnv ε) : gSm γ cs ss 0 (fX6_takeFor_k0 N) := by
  unfold fX6_takeFor_k0
  refine sm_aload_n (pc := 0) G hb (by decide +kernel : decode cX6_takeFor 0 = .ok (.aload_n 1, 1)) rfl ?_
  refine sm_get (pc := 1) (ci := 7) (j := 0) (N := 4) (T := TX7) G hb ho hy rfl (by decide) gin_7 gw1_182 (by decide +kernel : decode cX6_takeFor 1 = .ok (.getfield 32, 3)) ?_
  refine sm_get (pc := 4) (ci := 2) (j := 5) (N := 11) (T := TX2) G hb ho hy rfl (by decide) gin_2 gw1_73 (by decide +kernel : decode cX6_takeFor 4 = .ok (.getfield 106, 3)) ?_
  refine sm_iload_n (pc := 7) G hb (by decide +kernel : decode cX6_takeFor 7 = .ok (.iload_n 2, 1)) rfl ?_
  refine sm_iald (pc := 8) G hb hy (by decide +kernel : decode cX6_takeFor 8 = .ok (.iaload, 1)) ?_
  refine sm_istore_n (pc := 9) G hb (by decide +kernel : decode cX6_takeFor 9 = .ok (.istore_n 3, 1)) rfl ?_
  refine sm_aload_n (pc := 10) G hb (by decide +kernel : decode cX6_takeFor 10 = .ok (.aload_n 1, 1)) rfl ?_
  refine sm_get (pc := 11) (ci := 7) (j := 0) (N := 4) (T := TX7) G hb ho hy rfl (by decide) gin_7 gw1_182 (by decide +kernel : decode cX6_takeFor 11 = .ok (.getfield 32, 3)) ?_
  refine sm_get (pc := 14) (ci := 2) (j := 3) (N := 11) (T := TX2) G hb ho hy rfl (by decide) gin_2 gw1_63 (by decide +kernel : decode cX6_takeFor 14 = .ok (.getfield 109, 3)) ?_
  refine sm_iload_n (pc := 17) G hb (by decide +kernel : decode cX6_takeFor 17 = .ok (.iload_n 2, 1)) rfl ?_
  refine sm_iald (pc := 18) G hb hy (by decide +kernel : decode cX6_takeFor 18 = .ok (.iaload, 1)) ?_
  refine sm_aload_n (pc := 19) G hb (by decide +kernel : decode cX6_takeFor 19 = .ok (.aload_n 0, 1)) rfl ?_
  refine sm_get (pc := 20) (ci := 6) (j := 0) (N := 4) (T := TX6) G hb ho hy rfl (by decide) gin_6 gw2_39 (by decide +kernel : decode cX6_takeFor 20 = .ok (.getfield 12, 3)) ?_
  refine sm_get (pc := 23) (ci := 3) (j := 0) (N := 2) (T := TX3) G hb ho hy rfl (by decide) gin_3 gw2_30 (by decide +kernel : decode cX6_takeFor 23 = .ok (.getfield 112, 3)) ?_
  refine sm_iload_n (pc := 26) G hb (by decide +kernel : decode cX6_takeFor 26 = .ok (.iload_n 2, 1)) rfl ?_
  refine sm_iald (pc := 27) G hb hy (by decide +kernel : decode cX6_takeFor 27 = .ok (.iaload, 1)) ?_
  refine sm_mono (ca_sub gI_sub) (sm_callSN (pc := 28) G hb ho hy he hE.1 2 [] (kX8_pair hE N) (gCo_of (by decide +kernel)) (by rw [hR]; exact ⟨by decide, by decide⟩) (by decide +kernel) gw4_146 gw2_82 gw1_1 gw2_83 (by decide +kernel : decode cX6_takeFor 28 = .ok (.invokestatic 91, 3)) ?_)
  refine sm_istore (pc := 31) G hb (by decide +kernel : decode cX6_takeFor 31 = .ok (.istore 4, 2)) ?_
  refine sm_iload_n (pc := 33) G hb (by decide +kernel : decode cX6_takeFor 33 = .ok (.iload_n 3, 1)) rfl ?_
  refine sm_aload_n (pc := 34) G hb (by decide +kernel : decode cX6_takeFor 34 = .ok (.aload_n 1, 1)) rfl ?_
  refine sm_get (pc := 35) (ci := 7) (j := 1) (N := 4) (T := TX7) G hb ho hy rfl (by decide) gin_7 gw1_185 (by decide +kernel : decode cX6_takeFor 35 = .ok (.getfield 67, 3)) ?_
  refine sm_get (pc := 38) (ci := 4) (j := 2) (N := 12) (T := TX4) G hb ho hy rfl (by decide) gin_4 gw1_126 (by decide +kernel : decode cX6_takeFor 38 = .ok (.getfield 115, 3)) ?_
  refine sm_iload (pc := 41) G hb (by decide +kernel : decode cX6_takeFor 41 = .ok (.iload 4, 2)) ?_
  refine sm_iald (pc := 43) G hb hy (by decide +kernel : decode cX6_takeFor 43 = .ok (.iaload, 1)) ?_
  refine sm_jmin (pc := 44) G hb ho (by rw [hR]; exact ⟨by decide, by decide⟩) gw4_177 gw4_178 gw1_21 gw4_179 (by decide +kernel : decode cX6_takeFor 44 = .ok (.invokestatic 118, 3)) ?_
  refine sm_istore (pc := 47) G hb (by decide +kernel : decode cX6_takeFor 47 = .ok (.istore 5, 2)) ?_
  refine sm_iconst (pc := 49) G hb (by decide +kernel : decode cX6_takeFor 49 = .ok (.iconst 0, 1)) (by decide) ?_
  refine sm_istore (pc := 50) G hb (by decide +kernel : decode cX6_takeFor 50 = .ok (.istore 6, 2)) ?_
  refine sm_mask ?_
  exact fX6_takeFor_s52 N G hb ho hy hR he hr hE
theorem kX6_takeFor {ε : gE5} (hE : gEnv ε) (N : Nat) : gCtr ε yX6_takeFor cX6_takeFor 7 none 1 23 gyRS (fX6_takeFor N) :=
  gCtr_of hE.1 (by decide) (fun γ G hb ho hy hR he hr => fX6_takeFor_s0 N G hb ho hy hR he hr hE)

set_option maxRecDepth 100000 in
set_option maxHeartbeats 4000000 in
theorem fX6_bringOver_s107 {γ : gG} {cs ss : Nat} {ε : gE5} (N : Nat) (G : gOK γ) (hb : gcc γ = cX6_bringOver) (ho : gow γ = RX6) (hy : gly γ = gyRS) (hR : grm γ = { frames := 2, cells := 0, slots := 0, locals := 47 }) (he : genv γ = ε) (hr : grt γ = none) (hE : gEnv ε) (K48 : gK) (h48 : gSm γ cs ss 48 K48) : gSm γ cs ss 107 (fX6_bringOver_k107 N K48) := by
  unfold fX6_bringOver_k107
  refine sm_iinc (pc := 107) G hb (by decide +kernel : decode cX6_bringOver 107 = .ok (.iinc 6 1, 3)) (by decide) ?_
  refine sm_goto (pc := 110) (tgt := 48) G hb (by decide +kernel : decode cX6_bringOver 110 = .ok (.goto (-62), 3)) (by decide) ?_
  refine sm_mask ?_
  exact h48
set_option maxRecDepth 100000 in
set_option maxHeartbeats 4000000 in
theorem fX6_bringOver_s92 {γ : gG} {cs ss : Nat} {ε : gE5} (N : Nat) (G : gOK γ) (hb : gcc γ = cX6_bringOver) (ho : gow γ = RX6) (hy : gly γ = gyRS) (hR : grm γ = { frames := 2, cells := 0, slots := 0, locals := 47 }) (he : genv γ = ε) (hr : grt γ = none) (hE : gEnv ε) (K48 : gK) (h48 : gSm γ cs ss 48 K48) : gSm γ cs ss 92 (fX6_bringOver_k92 N K48) := by
  unfold fX6_bringOver_k92
  refine sm_iload (pc := 92) G hb (by decide +kernel : decode cX6_bringOver 92 = .ok (.iload 7, 2)) ?_
  refine sm_iconst (pc := 94) G hb (by decide +kernel : decode cX6_bringOver 94 = .ok (.iconst (-1), 1)) (by decide) ?_
  refine sm_icmp_eq (pc := 95) (tgt := 107) G hb (by decide +kernel : decode cX6_bringOver 95 = .ok (.if_icmp .eq 12, 3)) (by decide) ?_ ?_
  · skip
    refine sm_mask ?_
    exact fX6_bringOver_s107 N G hb ho hy hR he hr hE K48 h48
  · skip
    refine sm_aload_n (pc := 98) G hb (by decide +kernel : decode cX6_bringOver 98 = .ok (.aload_n 1, 1)) rfl ?_
    refine sm_iload (pc := 99) G hb (by decide +kernel : decode cX6_bringOver 99 = .ok (.iload 7, 2)) ?_
    refine sm_iload (pc := 101) G hb (by decide +kernel : decode cX6_bringOver 101 = .ok (.iload 5, 2)) ?_
    refine sm_iload_n (pc := 103) G hb (by decide +kernel : decode cX6_bringOver 103 = .ok (.iload_n 3, 1)) rfl ?_
    refine sm_mono (ca_sub gV_sub) (sm_callS (pc := 104) G hb ho hy he hE.1 4 [7, 8, 9, 10, 11, 12, 13, 14, 15, 16, 17, 18, 19, 20, 21, 22, 23, 24, 25, 26] (kX6_pass hE N) (gCo_of (by decide +kernel)) (by rw [hR]; exact ⟨by decide, by decide⟩) (by decide +kernel) gw4_192 gw4_193 gw1_7 gw4_194 (by decide +kernel : decode cX6_bringOver 104 = .ok (.invokestatic 133, 3)) ?_)
    refine sm_mask ?_
    exact fX6_bringOver_s107 N G hb ho hy hR he hr hE K48 h48
set_option maxRecDepth 100000 in
set_option maxHeartbeats 4000000 in
theorem fX6_bringOver_s48 {γ : gG} {cs ss : Nat} {ε : gE5} (N : Nat) (G : gOK γ) (hb : gcc γ = cX6_bringOver) (ho : gow γ = RX6) (hy : gly γ = gyRS) (hR : grm γ = { frames := 2, cells := 0, slots := 0, locals := 47 }) (he : genv γ = ε) (hr : grt γ = none) (hE : gEnv ε) : gSm γ cs ss 48 (fX6_bringOver_k48 N) := by
  unfold fX6_bringOver_k48
  refine sm_lp (fun K48 h48 => ?_) N
  unfold fX6_bringOver_b48
  refine sm_iload (pc := 48) G hb (by decide +kernel : decode cX6_bringOver 48 = .ok (.iload 6, 2)) ?_
  refine sm_aload_n (pc := 50) G hb (by decide +kernel : decode cX6_bringOver 50 = .ok (.aload_n 0, 1)) rfl ?_
  refine sm_get (pc := 51) (ci := 6) (j := 2) (N := 4) (T := TX6) G hb ho hy rfl (by decide) gin_6 gw2_42 (by decide +kernel : decode cX6_bringOver 51 = .ok (.getfield 22, 3)) ?_
  refine sm_iload_n (pc := 54) G hb (by decide +kernel : decode cX6_bringOver 54 = .ok (.iload_n 2, 1)) rfl ?_
  refine sm_iald (pc := 55) G hb hy (by decide +kernel : decode cX6_bringOver 55 = .ok (.iaload, 1)) ?_
  refine sm_icmp_ge (pc := 56) (tgt := 113) G hb (by decide +kernel : decode cX6_bringOver 56 = .ok (.if_icmp .ge 57, 3)) (by decide) ?_ ?_
  · skip
    refine sm_iload (pc := 113) G hb (by decide +kernel : decode cX6_bringOver 113 = .ok (.iload 4, 2)) ?_
    refine sm_if_ne (pc := 115) (tgt := 137) G hb (by decide +kernel : decode cX6_bringOver 115 = .ok (.ifCond .ne 22, 3)) (by decide) ?_ ?_
    · skip
      exact sm_vret (pc := 137) G hb (by decide +kernel : decode cX6_bringOver 137 = .ok (.return_, 1)) hr
    · skip
      refine sm_aload_n (pc := 118) G hb (by decide +kernel : decode cX6_bringOver 118 = .ok (.aload_n 1, 1)) rfl ?_
      refine sm_get (pc := 119) (ci := 7) (j := 1) (N := 4) (T := TX7) G hb ho hy rfl (by decide) gin_7 gw1_185 (by decide +kernel : decode cX6_bringOver 119 = .ok (.getfield 67, 3)) ?_
      refine sm_get (pc := 122) (ci := 4) (j := 3) (N := 12) (T := TX4) G hb ho hy rfl (by decide) gin_4 gw1_130 (by decide +kernel : decode cX6_bringOver 122 = .ok (.getfield 94, 3)) ?_
      refine sm_iload (pc := 125) G hb (by decide +kernel : decode cX6_bringOver 125 = .ok (.iload 5, 2)) ?_
      refine sm_dup2 (pc := 127) G hb (by decide +kernel : decode cX6_bringOver 127 = .ok (.dup2, 1)) ?_
      refine sm_iald (pc := 128) G hb hy (by decide +kernel : decode cX6_bringOver 128 = .ok (.iaload, 1)) ?_
      refine sm_aload_n (pc := 129) G hb (by decide +kernel : decode cX6_bringOver 129 = .ok (.aload_n 0, 1)) rfl ?_
      refine sm_get (pc := 130) (ci := 6) (j := 3) (N := 4) (T := TX6) G hb ho hy rfl (by decide) gin_6 gw2_43 (by decide +kernel : decode cX6_bringOver 130 = .ok (.getfield 25, 3)) ?_
      refine sm_iload_n (pc := 133) G hb (by decide +kernel : decode cX6_bringOver 133 = .ok (.iload_n 2, 1)) rfl ?_
      refine sm_iald (pc := 134) G hb hy (by decide +kernel : decode cX6_bringOver 134 = .ok (.iaload, 1)) ?_
      refine sm_iadd (pc := 135) G hb (by decide +kernel : decode cX6_bringOver 135 = .ok (.iadd, 1)) ?_
      refine sm_iast (pc := 136) G hb hy (by decide +kernel : decode cX6_bringOver 136 = .ok (.iastore, 1)) ?_
      exact sm_vret (pc := 137) G hb (by decide +kernel : decode cX6_bringOver 137 = .ok (.return_, 1)) hr
  · skip
    refine sm_aload_n (pc := 59) G hb (by decide +kernel : decode cX6_bringOver 59 = .ok (.aload_n 0, 1)) rfl ?_
    refine sm_get (pc := 60) (ci := 6) (j := 1) (N := 4) (T := TX6) G hb ho hy rfl (by decide) gin_6 gw2_41 (by decide +kernel : decode cX6_bringOver 60 = .ok (.getfield 18, 3)) ?_
    refine sm_iload_n (pc := 63) G hb (by decide +kernel : decode cX6_bringOver 63 = .ok (.iload_n 2, 1)) rfl ?_
    refine sm_iconst (pc := 64) G hb (by decide +kernel : decode cX6_bringOver 64 = .ok (.iconst 5, 1)) (by decide) ?_
    refine sm_imul (pc := 65) G hb (by decide +kernel : decode cX6_bringOver 65 = .ok (.imul, 1)) ?_
    refine sm_iload (pc := 66) G hb (by decide +kernel : decode cX6_bringOver 66 = .ok (.iload 6, 2)) ?_
    refine sm_iadd (pc := 68) G hb (by decide +kernel : decode cX6_bringOver 68 = .ok (.iadd, 1)) ?_
    refine sm_iald (pc := 69) G hb hy (by decide +kernel : decode cX6_bringOver 69 = .ok (.iaload, 1)) ?_
    refine sm_istore (pc := 70) G hb (by decide +kernel : decode cX6_bringOver 70 = .ok (.istore 7, 2)) ?_
    refine sm_iload (pc := 72) G hb (by decide +kernel : decode cX6_bringOver 72 = .ok (.iload 7, 2)) ?_
    refine sm_iconst (pc := 74) G hb (by decide +kernel : decode cX6_bringOver 74 = .ok (.iconst (-1), 1)) (by decide) ?_
    refine sm_icmp_eq (pc := 75) (tgt := 92) G hb (by decide +kernel : decode cX6_bringOver 75 = .ok (.if_icmp .eq 17, 3)) (by decide) ?_ ?_
    · skip
      refine sm_mask ?_
      exact fX6_bringOver_s92 N G hb ho hy hR he hr hE K48 h48
    · skip
      refine sm_iload (pc := 78) G hb (by decide +kernel : decode cX6_bringOver 78 = .ok (.iload 4, 2)) ?_
      refine sm_if_eq (pc := 80) (tgt := 92) G hb (by decide +kernel : decode cX6_bringOver 80 = .ok (.ifCond .eq 12, 3)) (by decide) ?_ ?_
      · skip
        refine sm_mask ?_
        exact fX6_bringOver_s92 N G hb ho hy hR he hr hE K48 h48
      · skip
        refine sm_aload_n (pc := 83) G hb (by decide +kernel : decode cX6_bringOver 83 = .ok (.aload_n 1, 1)) rfl ?_
        refine sm_iload (pc := 84) G hb (by decide +kernel : decode cX6_bringOver 84 = .ok (.iload 7, 2)) ?_
        refine sm_mono (ca_sub gV_sub) (sm_callS (pc := 86) G hb ho hy he hE.1 2 [7, 8, 9, 10, 11, 12, 13, 14, 15, 16, 17, 18, 19, 20, 21, 22, 23, 24, 25, 26] (kX6_deliver hE N) (gCo_of (by decide +kernel)) (by rw [hR]; exact ⟨by decide, by decide⟩) (by decide +kernel) gw4_185 gw4_186 gw1_7 gw4_187 (by decide +kernel : decode cX6_bringOver 86 = .ok (.invokestatic 130, 3)) ?_)
        refine sm_goto (pc := 89) (tgt := 107) G hb (by decide +kernel : decode cX6_bringOver 89 = .ok (.goto 18, 3)) (by decide) ?_
        refine sm_mask ?_
        exact fX6_bringOver_s107 N G hb ho hy hR he hr hE K48 h48
set_option maxRecDepth 100000 in
set_option maxHeartbeats 4000000 in
theorem fX6_bringOver_s28 {γ : gG} {cs ss : Nat} {ε : gE5} (N : Nat) (G : gOK γ) (hb : gcc γ = cX6_bringOver) (ho : gow γ = RX6) (hy : gly γ = gyRS) (hR : grm γ = { frames := 2, cells := 0, slots := 0, locals := 47 }) (he : genv γ = ε) (hr : grt γ = none) (hE : gEnv ε) : gSm γ cs ss 28 (fX6_bringOver_k28 N) := by
  unfold fX6_bringOver_k28
  refine sm_istore (pc := 28) G hb (by decide +kernel : decode cX6_bringOver 28 = .ok (.istore 4, 2)) ?_
  refine sm_iload_n (pc := 30) G hb (by decide +kernel : decode cX6_bringOver 30 = .ok (.iload_n 3, 1)) rfl ?_
  refine sm_aload_n (pc := 31) G hb (by decide +kernel : decode cX6_bringOver 31 = .ok (.aload_n 0, 1)) rfl ?_
  refine sm_get (pc := 32) (ci := 6) (j := 0) (N := 4) (T := TX6) G hb ho hy rfl (by decide) gin_6 gw2_39 (by decide +kernel : decode cX6_bringOver 32 = .ok (.getfield 12, 3)) ?_
  refine sm_get (pc := 35) (ci := 3) (j := 0) (N := 2) (T := TX3) G hb ho hy rfl (by decide) gin_3 gw2_30 (by decide +kernel : decode cX6_bringOver 35 = .ok (.getfield 112, 3)) ?_
  refine sm_iload_n (pc := 38) G hb (by decide +kernel : decode cX6_bringOver 38 = .ok (.iload_n 2, 1)) rfl ?_
  refine sm_iald (pc := 39) G hb hy (by decide +kernel : decode cX6_bringOver 39 = .ok (.iaload, 1)) ?_
  refine sm_mono (ca_sub gI_sub) (sm_callSN (pc := 40) G hb ho hy he hE.1 2 [] (kX8_pair hE N) (gCo_of (by decide +kernel)) (by rw [hR]; exact ⟨by decide, by decide⟩) (by decide +kernel) gw4_146 gw2_82 gw1_1 gw2_83 (by decide +kernel : decode cX6_bringOver 40 = .ok (.invokestatic 91, 3)) ?_)
  refine sm_istore (pc := 43) G hb (by decide +kernel : decode cX6_bringOver 43 = .ok (.istore 5, 2)) ?_
  refine sm_iconst (pc := 45) G hb (by decide +kernel : decode cX6_bringOver 45 = .ok (.iconst 0, 1)) (by decide) ?_
  refine sm_istore (pc := 46) G hb (by decide +kernel : decode cX6_bringOver 46 = .ok (.istore 6, 2)) ?_
  refine sm_mask ?_
  exact fX6_bringOver_s48 N G hb ho hy hR he hr hE
set_option maxRecDepth 100000 in
set_option maxHeartbeats 4000000 in
theorem fX6_bringOver_s0 {γ : gG} {cs ss : Nat} {ε : gE5} (N : Nat) (G : gOK γ) (hb : gcc γ = cX6_bringOver) (ho : gow γ = RX6) (hy : gly γ = gyRS) (hR : grm γ = { frames := 2, cells := 0, slots := 0, locals := 47 }) (he : genv γ = ε) (hr : grt γ = none) (hE : gEnv ε) : gSm γ cs ss 0 (fX6_bringOver_k0 N) := by
  unfold fX6_bringOver_k0
  refine sm_aload_n (pc := 0) G hb (by decide +kernel : decode cX6_bringOver 0 = .ok (.aload_n 1, 1)) rfl ?_
  refine sm_get (pc := 1) (ci := 7) (j := 0) (N := 4) (T := TX7) G hb ho hy rfl (by decide) gin_7 gw1_182 (by decide +kernel : decode cX6_bringOver 1 = .ok (.getfield 32, 3)) ?_
  refine sm_get (pc := 4) (ci := 2) (j := 4) (N := 11) (T := TX2) G hb ho hy rfl (by decide) gin_2 gw1_68 (by decide +kernel : decode cX6_bringOver 4 = .ok (.getfield 127, 3)) ?_
  refine sm_iload_n (pc := 7) G hb (by decide +kernel : decode cX6_bringOver 7 = .ok (.iload_n 2, 1)) rfl ?_
  refine sm_iald (pc := 8) G hb hy (by decide +kernel : decode cX6_bringOver 8 = .ok (.iaload, 1)) ?_
  refine sm_istore_n (pc := 9) G hb (by decide +kernel : decode cX6_bringOver 9 = .ok (.istore_n 3, 1)) rfl ?_
  refine sm_iload_n (pc := 10) G hb (by decide +kernel : decode cX6_bringOver 10 = .ok (.iload_n 3, 1)) rfl ?_
  refine sm_aload_n (pc := 11) G hb (by decide +kernel : decode cX6_bringOver 11 = .ok (.aload_n 0, 1)) rfl ?_
  refine sm_get (pc := 12) (ci := 6) (j := 0) (N := 4) (T := TX6) G hb ho hy rfl (by decide) gin_6 gw2_39 (by decide +kernel : decode cX6_bringOver 12 = .ok (.getfield 12, 3)) ?_
  refine sm_get (pc := 15) (ci := 3) (j := 0) (N := 2) (T := TX3) G hb ho hy rfl (by decide) gin_3 gw2_30 (by decide +kernel : decode cX6_bringOver 15 = .ok (.getfield 112, 3)) ?_
  refine sm_iload_n (pc := 18) G hb (by decide +kernel : decode cX6_bringOver 18 = .ok (.iload_n 2, 1)) rfl ?_
  refine sm_iald (pc := 19) G hb hy (by decide +kernel : decode cX6_bringOver 19 = .ok (.iaload, 1)) ?_
  refine sm_icmp_ne (pc := 20) (tgt := 27) G hb (by decide +kernel : decode cX6_bringOver 20 = .ok (.if_icmp .ne 7, 3)) (by decide) ?_ ?_
  · skip
    refine sm_iconst (pc := 27) G hb (by decide +kernel : decode cX6_bringOver 27 = .ok (.iconst 0, 1)) (by decide) ?_
    refine sm_mask ?_
    exact fX6_bringOver_s28 N G hb ho hy hR he hr hE
  · skip
    refine sm_iconst (pc := 23) G hb (by decide +kernel : decode cX6_bringOver 23 = .ok (.iconst 1, 1)) (by decide) ?_
    refine sm_goto (pc := 24) (tgt := 28) G hb (by decide +kernel : decode cX6_bringOver 24 = .ok (.goto 4, 3)) (by decide) ?_
    refine sm_mask ?_
    exact fX6_bringOver_s28 N G hb ho hy hR he hr hE
theorem kX6_bringOver {ε : gE5} (hE : gEnv ε) (N : Nat) : gCtr ε yX6_bringOver cX6_bringOver 8 none 2 47 gyRS (fX6_bringOver N) :=
  gCtr_of hE.1 (by decide) (fun γ G hb ho hy hR he hr => fX6_bringOver_s0 N G hb ho hy hR he hr hE)

set_option maxRecDepth 100000 in
set_option maxHeartbeats 4000000 in
theorem fX6_transmit_s62 {γ : gG} {cs ss : Nat} {ε : gE5} (N : Nat) (G : gOK γ) (hb : gcc γ = cX6_transmit) (ho : gow γ = RX6) (hy : gly γ = gyRS) (hR : grm γ = { frames := 3, cells := 0, slots := 0, locals := 74 }) (he : genv γ = ε) (hr : grt γ = none) (hE : gEnv ε) (K36 : gK) (h36 : gSm γ cs ss 36 K36) : gSm γ cs ss 62 (fX6_transmit_k62 N K36) := by
  unfold fX6_transmit_k62
  refine sm_iinc (pc := 62) G hb (by decide +kernel : decode cX6_transmit 62 = .ok (.iinc 3 1, 3)) (by decide) ?_
  refine sm_goto (pc := 65) (tgt := 36) G hb (by decide +kernel : decode cX6_transmit 65 = .ok (.goto (-29), 3)) (by decide) ?_
  refine sm_mask ?_
  exact h36
set_option maxRecDepth 100000 in
set_option maxHeartbeats 4000000 in
theorem fX6_transmit_s36 {γ : gG} {cs ss : Nat} {ε : gE5} (N : Nat) (G : gOK γ) (hb : gcc γ = cX6_transmit) (ho : gow γ = RX6) (hy : gly γ = gyRS) (hR : grm γ = { frames := 3, cells := 0, slots := 0, locals := 74 }) (he : genv γ = ε) (hr : grt γ = none) (hE : gEnv ε) : gSm γ cs ss 36 (fX6_transmit_k36 N) := by
  unfold fX6_transmit_k36
  refine sm_lp (fun K36 h36 => ?_) N
  unfold fX6_transmit_b36
  refine sm_iload_n (pc := 36) G hb (by decide +kernel : decode cX6_transmit 36 = .ok (.iload_n 3, 1)) rfl ?_
  refine sm_aload_n (pc := 37) G hb (by decide +kernel : decode cX6_transmit 37 = .ok (.aload_n 1, 1)) rfl ?_
  refine sm_get (pc := 38) (ci := 7) (j := 0) (N := 4) (T := TX7) G hb ho hy rfl (by decide) gin_7 gw1_182 (by decide +kernel : decode cX6_transmit 38 = .ok (.getfield 32, 3)) ?_
  refine sm_get (pc := 41) (ci := 2) (j := 1) (N := 11) (T := TX2) G hb ho hy rfl (by decide) gin_2 gw1_53 (by decide +kernel : decode cX6_transmit 41 = .ok (.getfield 97, 3)) ?_
  refine sm_icmp_ge (pc := 44) (tgt := 68) G hb (by decide +kernel : decode cX6_transmit 44 = .ok (.if_icmp .ge 24, 3)) (by decide) ?_ ?_
  · skip
    exact sm_vret (pc := 68) G hb (by decide +kernel : decode cX6_transmit 68 = .ok (.return_, 1)) hr
  · skip
    refine sm_iload_n (pc := 47) G hb (by decide +kernel : decode cX6_transmit 47 = .ok (.iload_n 2, 1)) rfl ?_
    refine sm_iload_n (pc := 48) G hb (by decide +kernel : decode cX6_transmit 48 = .ok (.iload_n 3, 1)) rfl ?_
    refine sm_ishr (pc := 49) G hb (by decide +kernel : decode cX6_transmit 49 = .ok (.ishr, 1)) ?_
    refine sm_iconst (pc := 50) G hb (by decide +kernel : decode cX6_transmit 50 = .ok (.iconst 1, 1)) (by decide) ?_
    refine sm_iand (pc := 51) G hb (by decide +kernel : decode cX6_transmit 51 = .ok (.iand, 1)) ?_
    refine sm_iconst (pc := 52) G hb (by decide +kernel : decode cX6_transmit 52 = .ok (.iconst 1, 1)) (by decide) ?_
    refine sm_icmp_ne (pc := 53) (tgt := 62) G hb (by decide +kernel : decode cX6_transmit 53 = .ok (.if_icmp .ne 9, 3)) (by decide) ?_ ?_
    · skip
      refine sm_mask ?_
      exact fX6_transmit_s62 N G hb ho hy hR he hr hE K36 h36
    · skip
      refine sm_aload_n (pc := 56) G hb (by decide +kernel : decode cX6_transmit 56 = .ok (.aload_n 0, 1)) rfl ?_
      refine sm_aload_n (pc := 57) G hb (by decide +kernel : decode cX6_transmit 57 = .ok (.aload_n 1, 1)) rfl ?_
      refine sm_iload_n (pc := 58) G hb (by decide +kernel : decode cX6_transmit 58 = .ok (.iload_n 3, 1)) rfl ?_
      refine sm_mono (cav_sub gV_sub) (sm_callV (pc := 59) (N := 4) (T := TX6) (C := RX6) G hb ho hy he hE.1 3 [0, 1, 2, 3, 4, 5, 6, 7, 8, 9, 10, 11, 12, 13, 14, 15, 16, 17, 18, 19, 20, 21, 22, 23, 24, 25, 26] (kX6_bringOver hE N) (gCo_of (by decide +kernel)) (by rw [hR]; exact ⟨by decide, by decide⟩) rfl rfl (by decide +kernel) gw4_181 gw4_183 gw0_27 gw1_7 gw4_184 (by decide +kernel : decode cX6_transmit 59 = .ok (.invokevirtual 103, 3)) ?_)
      refine sm_mask ?_
      exact fX6_transmit_s62 N G hb ho hy hR he hr hE K36 h36
set_option maxRecDepth 100000 in
set_option maxHeartbeats 4000000 in
theorem fX6_transmit_s28 {γ : gG} {cs ss : Nat} {ε : gE5} (N : Nat) (G : gOK γ) (hb : gcc γ = cX6_transmit) (ho : gow γ = RX6) (hy : gly γ = gyRS) (hR : grm γ = { frames := 3, cells := 0, slots := 0, locals := 74 }) (he : genv γ = ε) (hr : grt γ = none) (hE : gEnv ε) (K2 : gK) (h2 : gSm γ cs ss 2 K2) : gSm γ cs ss 28 (fX6_transmit_k28 N K2) := by
  unfold fX6_transmit_k28
  refine sm_iinc (pc := 28) G hb (by decide +kernel : decode cX6_transmit 28 = .ok (.iinc 3 1, 3)) (by decide) ?_
  refine sm_goto (pc := 31) (tgt := 2) G hb (by decide +kernel : decode cX6_transmit 31 = .ok (.goto (-29), 3)) (by decide) ?_
  refine sm_mask ?_
  exact h2
set_option maxRecDepth 100000 in
set_option maxHeartbeats 4000000 in
theorem fX6_transmit_s2 {γ : gG} {cs ss : Nat} {ε : gE5} (N : Nat) (G : gOK γ) (hb : gcc γ = cX6_transmit) (ho : gow γ = RX6) (hy : gly γ = gyRS) (hR : grm γ = { frames := 3, cells := 0, slots := 0, locals := 74 }) (he : genv γ = ε) (hr : grt γ = none) (hE : gEnv ε) : gSm γ cs ss 2 (fX6_transmit_k2 N) := by
  unfold fX6_transmit_k2
  refine sm_lp (fun K2 h2 => ?_) N
  unfold fX6_transmit_b2
  refine sm_iload_n (pc := 2) G hb (by decide +kernel : decode cX6_transmit 2 = .ok (.iload_n 3, 1)) rfl ?_
  refine sm_aload_n (pc := 3) G hb (by decide +kernel : decode cX6_transmit 3 = .ok (.aload_n 1, 1)) rfl ?_
  refine sm_get (pc := 4) (ci := 7) (j := 0) (N := 4) (T := TX7) G hb ho hy rfl (by decide) gin_7 gw1_182 (by decide +kernel : decode cX6_transmit 4 = .ok (.getfield 32, 3)) ?_
  refine sm_get (pc := 7) (ci := 2) (j := 1) (N := 11) (T := TX2) G hb ho hy rfl (by decide) gin_2 gw1_53 (by decide +kernel : decode cX6_transmit 7 = .ok (.getfield 97, 3)) ?_
  refine sm_icmp_ge (pc := 10) (tgt := 34) G hb (by decide +kernel : decode cX6_transmit 10 = .ok (.if_icmp .ge 24, 3)) (by decide) ?_ ?_
  · skip
    refine sm_iconst (pc := 34) G hb (by decide +kernel : decode cX6_transmit 34 = .ok (.iconst 0, 1)) (by decide) ?_
    refine sm_istore_n (pc := 35) G hb (by decide +kernel : decode cX6_transmit 35 = .ok (.istore_n 3, 1)) rfl ?_
    refine sm_mask ?_
    exact fX6_transmit_s36 N G hb ho hy hR he hr hE
  · skip
    refine sm_iload_n (pc := 13) G hb (by decide +kernel : decode cX6_transmit 13 = .ok (.iload_n 2, 1)) rfl ?_
    refine sm_iload_n (pc := 14) G hb (by decide +kernel : decode cX6_transmit 14 = .ok (.iload_n 3, 1)) rfl ?_
    refine sm_ishr (pc := 15) G hb (by decide +kernel : decode cX6_transmit 15 = .ok (.ishr, 1)) ?_
    refine sm_iconst (pc := 16) G hb (by decide +kernel : decode cX6_transmit 16 = .ok (.iconst 1, 1)) (by decide) ?_
    refine sm_iand (pc := 17) G hb (by decide +kernel : decode cX6_transmit 17 = .ok (.iand, 1)) ?_
    refine sm_iconst (pc := 18) G hb (by decide +kernel : decode cX6_transmit 18 = .ok (.iconst 1, 1)) (by decide) ?_
    refine sm_icmp_ne (pc := 19) (tgt := 28) G hb (by decide +kernel : decode cX6_transmit 19 = .ok (.if_icmp .ne 9, 3)) (by decide) ?_ ?_
    · skip
      refine sm_mask ?_
      exact fX6_transmit_s28 N G hb ho hy hR he hr hE K2 h2
    · skip
      refine sm_aload_n (pc := 22) G hb (by decide +kernel : decode cX6_transmit 22 = .ok (.aload_n 0, 1)) rfl ?_
      refine sm_aload_n (pc := 23) G hb (by decide +kernel : decode cX6_transmit 23 = .ok (.aload_n 1, 1)) rfl ?_
      refine sm_iload_n (pc := 24) G hb (by decide +kernel : decode cX6_transmit 24 = .ok (.iload_n 3, 1)) rfl ?_
      refine sm_mono (cav_sub gV_sub) (sm_callV (pc := 25) (N := 4) (T := TX6) (C := RX6) G hb ho hy he hE.1 3 [0, 1, 2, 3, 4, 5, 6, 7, 8, 9, 10, 11, 12, 13, 14, 15, 16, 17, 18, 19, 20, 21, 22, 23, 24, 25, 26] (kX6_takeFor hE N) (gCo_of (by decide +kernel)) (by rw [hR]; exact ⟨by decide, by decide⟩) rfl rfl (by decide +kernel) gw4_173 gw4_175 gw0_26 gw1_7 gw4_176 (by decide +kernel : decode cX6_transmit 25 = .ok (.invokevirtual 100, 3)) ?_)
      refine sm_mask ?_
      exact fX6_transmit_s28 N G hb ho hy hR he hr hE K2 h2
set_option maxRecDepth 100000 in
set_option maxHeartbeats 4000000 in
theorem fX6_transmit_s0 {γ : gG} {cs ss : Nat} {ε : gE5} (N : Nat) (G : gOK γ) (hb : gcc γ = cX6_transmit) (ho : gow γ = RX6) (hy : gly γ = gyRS) (hR : grm γ = { frames := 3, cells := 0, slots := 0, locals := 74 }) (he : genv γ = ε) (hr : grt γ = none) (hE : gEnv ε) : gSm γ cs ss 0 (fX6_transmit_k0 N) := by
  unfold fX6_transmit_k0
  refine sm_iconst (pc := 0) G hb (by decide +kernel : decode cX6_transmit 0 = .ok (.iconst 0, 1)) (by decide) ?_
  refine sm_istore_n (pc := 1) G hb (by decide +kernel : decode cX6_transmit 1 = .ok (.istore_n 3, 1)) rfl ?_
  refine sm_mask ?_
  exact fX6_transmit_s2 N G hb ho hy hR he hr hE
theorem kX6_transmit {ε : gE5} (hE : gEnv ε) (N : Nat) : gCtr ε yX6_transmit cX6_transmit 4 none 3 74 gyRS (fX6_transmit N) :=
  gCtr_of hE.1 (by decide) (fun γ G hb ho hy hR he hr => fX6_transmit_s0 N G hb ho hy hR he hr hE)
