set_option maxRecDepth 100000 in
set_option maxHeartbeats 4000000 in
theorem fX3_sumOfWeights_s25 {γ : gG} {cs ss : Nat} {ε : gE5} (N : Nat) (G : gOK γ) (hb : gcc γ = cX3_sumOfWeights) (ho : gow γ = RX3) (hy : gly γ = gyW) (hR : grm γ = { frames := 0, cells := 0, slots := 0, locals := 0 }) (he : genv γ = ε) (hr : grt γ = (some .int)) (hE : gEnv ε) (K4 : gK) (h4 : gSm γ cs ss 4 K4) : gSm γ cs ss 25 (fX3_sumOfWeights_k25 N K4) := by
  unfold fX3_sumOfWeights_k25
  refine sm_iinc (pc := 25) G hb (by decide +kernel : decode cX3_sumOfWeights 25 = .ok (.iinc 3 1, 3)) (by decide) ?_
  refine sm_goto (pc := 28) (tgt := 4) G hb (by decide +kernel : decode cX3_sumOfWeights 28 = .ok (.goto (-24), 3)) (by decide) ?_
  refine sm_mask ?_
  exact h4
set_option maxRecDepth 100000 in
set_option maxHeartbeats 4000000 in
theorem fX3_sumOfWeights_s4 {γ : gG} {cs ss : Nat} {ε : gE5} (N : Nat) (G : gOK γ) (hb : gcc γ = cX3_sumOfWeights) (ho : gow γ = RX3) (hy : gly γ = gyW) (hR : grm γ = { frames := 0, cells := 0, slots := 0, locals := 0 }) (he : genv γ = ε) (hr : grt γ = (some .int)) (hE : gEnv ε) : gSm γ cs ss 4 (fX3_sumOfWeights_k4 N) := by
  unfold fX3_sumOfWeights_k4
  refine sm_lp (fun K4 h4 => ?_) N
  unfold fX3_sumOfWeights_b4
  refine sm_iload_n (pc := 4) G hb (by decide +kernel : decode cX3_sumOfWeights 4 = .ok (.iload_n 3, 1)) rfl ?_
  refine sm_bipush (pc := 5) G hb (by decide +kernel : decode cX3_sumOfWeights 5 = .ok (.bipush 14, 2)) (by decide) ?_
  refine sm_icmp_ge (pc := 7) (tgt := 31) G hb (by decide +kernel : decode cX3_sumOfWeights 7 = .ok (.if_icmp .ge 24, 3)) (by decide) ?_ ?_
  · skip
    refine sm_iload_n (pc := 31) G hb (by decide +kernel : decode cX3_sumOfWeights 31 = .ok (.iload_n 2, 1)) rfl ?_
    exact sm_iret (pc := 32) G hb (by decide +kernel : decode cX3_sumOfWeights 32 = .ok (.ireturn, 1)) hr
  · skip
    refine sm_iload_n (pc := 10) G hb (by decide +kernel : decode cX3_sumOfWeights 10 = .ok (.iload_n 0, 1)) rfl ?_
    refine sm_iload_n (pc := 11) G hb (by decide +kernel : decode cX3_sumOfWeights 11 = .ok (.iload_n 3, 1)) rfl ?_
    refine sm_ishr (pc := 12) G hb (by decide +kernel : decode cX3_sumOfWeights 12 = .ok (.ishr, 1)) ?_
    refine sm_iconst (pc := 13) G hb (by decide +kernel : decode cX3_sumOfWeights 13 = .ok (.iconst 1, 1)) (by decide) ?_
    refine sm_iand (pc := 14) G hb (by decide +kernel : decode cX3_sumOfWeights 14 = .ok (.iand, 1)) ?_
    refine sm_iconst (pc := 15) G hb (by decide +kernel : decode cX3_sumOfWeights 15 = .ok (.iconst 1, 1)) (by decide) ?_
    refine sm_icmp_ne (pc := 16) (tgt := 25) G hb (by decide +kernel : decode cX3_sumOfWeights 16 = .ok (.if_icmp .ne 9, 3)) (by decide) ?_ ?_
    · skip
      refine sm_mask ?_
      exact fX3_sumOfWeights_s25 N G hb ho hy hR he hr hE K4 h4
    · skip
      refine sm_iload_n (pc := 19) G hb (by decide +kernel : decode cX3_sumOfWeights 19 = .ok (.iload_n 2, 1)) rfl ?_
      refine sm_aload_n (pc := 20) G hb (by decide +kernel : decode cX3_sumOfWeights 20 = .ok (.aload_n 1, 1)) rfl ?_
      refine sm_iload_n (pc := 21) G hb (by decide +kernel : decode cX3_sumOfWeights 21 = .ok (.iload_n 3, 1)) rfl ?_
      refine sm_iald (pc := 22) G hb hy (by decide +kernel : decode cX3_sumOfWeights 22 = .ok (.iaload, 1)) ?_
      refine sm_iadd (pc := 23) G hb (by decide +kernel : decode cX3_sumOfWeights 23 = .ok (.iadd, 1)) ?_
      refine sm_istore_n (pc := 24) G hb (by decide +kernel : decode cX3_sumOfWeights 24 = .ok (.istore_n 2, 1)) rfl ?_
      refine sm_mask ?_
      exact fX3_sumOfWeights_s25 N G hb ho hy hR he hr hE K4 h4
set_option maxRecDepth 100000 in
set_option maxHeartbeats 4000000 in
theorem fX3_sumOfWeights_s0 {γ : gG} {cs ss : Nat} {ε : gE5} (N : Nat) (G : gOK γ) (hb : gcc γ = cX3_sumOfWeights) (ho : gow γ = RX3) (hy : gly γ = gyW) (hR : grm γ = { frames := 0, cells := 0, slots := 0, locals := 0 }) (he : genv γ = ε) (hr : grt γ = (some .int)) (hE : gEnv ε) : gSm γ cs ss 0 (fX3_sumOfWeights_k0 N) := by
  unfold fX3_sumOfWeights_k0
  refine sm_iconst (pc := 0) G hb (by decide +kernel : decode cX3_sumOfWeights 0 = .ok (.iconst 0, 1)) (by decide) ?_
  refine sm_istore_n (pc := 1) G hb (by decide +kernel : decode cX3_sumOfWeights 1 = .ok (.istore_n 2, 1)) rfl ?_
  refine sm_iconst (pc := 2) G hb (by decide +kernel : decode cX3_sumOfWeights 2 = .ok (.iconst 0, 1)) (by decide) ?_
  refine sm_istore_n (pc := 3) G hb (by decide +kernel : decode cX3_sumOfWeights 3 = .ok (.istore_n 3, 1)) rfl ?_
  refine sm_mask ?_
  exact fX3_sumOfWeights_s4 N G hb ho hy hR he hr hE
theorem kX3_sumOfWeights {ε : gE5} (hE : gEnv ε) (N : Nat) : gCtr ε yX3_sumOfWeights cX3_sumOfWeights 4 (some .int) 0 0 gyW (fX3_sumOfWeights N) :=
  gCtr_of hE.1 (by decide) (fun γ G hb ho hy hR he hr => fX3_sumOfWeights_s0 N G hb ho hy hR he hr hE)

set_option maxRecDepth 100000 in
set_option maxHeartbeats 4000000 in
theorem fX3_weigh_s149 {γ : gG} {cs ss : Nat} {ε : gE5} (N : Nat) (G : gOK γ) (hb : gcc γ = cX3_weigh) (ho : gow γ = RX3) (hy : gly γ = gyPS) (hR : grm γ = { frames := 1, cells := 0, slots := 0, locals := 21 }) (he : genv γ = ε) (hr : grt γ = none) (hE : gEnv ε) (K50 : gK) (h50 : gSm γ cs ss 50 K50) : gSm γ cs ss 149 (fX3_weigh_k149 N K50) := by
  unfold fX3_weigh_k149
  refine sm_iinc (pc := 149) G hb (by decide +kernel : decode cX3_weigh 149 = .ok (.iinc 8 1, 3)) (by decide) ?_
  refine sm_goto (pc := 152) (tgt := 50) G hb (by decide +kernel : decode cX3_weigh 152 = .ok (.goto (-102), 3)) (by decide) ?_
  refine sm_mask ?_
  exact h50
set_option maxRecDepth 100000 in
set_option maxHeartbeats 4000000 in
theorem fX3_weigh_s141 {γ : gG} {cs ss : Nat} {ε : gE5} (N : Nat) (G : gOK γ) (hb : gcc γ = cX3_weigh) (ho : gow γ = RX3) (hy : gly γ = gyPS) (hR : grm γ = { frames := 1, cells := 0, slots := 0, locals := 21 }) (he : genv γ = ε) (hr : grt γ = none) (hE : gEnv ε) (K50 : gK) (h50 : gSm γ cs ss 50 K50) : gSm γ cs ss 141 (fX3_weigh_k141 N K50) := by
  unfold fX3_weigh_k141
  refine sm_iload (pc := 141) G hb (by decide +kernel : decode cX3_weigh 141 = .ok (.iload 8, 2)) ?_
  refine sm_istore (pc := 143) G hb (by decide +kernel : decode cX3_weigh 143 = .ok (.istore 6, 2)) ?_
  refine sm_iload (pc := 145) G hb (by decide +kernel : decode cX3_weigh 145 = .ok (.iload 11, 2)) ?_
  refine sm_istore (pc := 147) G hb (by decide +kernel : decode cX3_weigh 147 = .ok (.istore 7, 2)) ?_
  refine sm_mask ?_
  exact fX3_weigh_s149 N G hb ho hy hR he hr hE K50 h50
set_option maxRecDepth 100000 in
set_option maxHeartbeats 4000000 in
theorem fX3_weigh_s50 {γ : gG} {cs ss : Nat} {ε : gE5} (N : Nat) (G : gOK γ) (hb : gcc γ = cX3_weigh) (ho : gow γ = RX3) (hy : gly γ = gyPS) (hR : grm γ = { frames := 1, cells := 0, slots := 0, locals := 21 }) (he : genv γ = ε) (hr : grt γ = none) (hE : gEnv ε) : gSm γ cs ss 50 (fX3_weigh_k50 N) := by
  unfold fX3_weigh_k50
  refine sm_lp (fun K50 h50 => ?_) N
  unfold fX3_weigh_b50
  refine sm_iload (pc := 50) G hb (by decide +kernel : decode cX3_weigh 50 = .ok (.iload 8, 2)) ?_
  refine sm_aload_n (pc := 52) G hb (by decide +kernel : decode cX3_weigh 52 = .ok (.aload_n 3, 1)) rfl ?_
  refine sm_get (pc := 53) (ci := 2) (j := 0) (N := 11) (T := TX2) G hb ho hy rfl (by decide) gin_2 gw1_47 (by decide +kernel : decode cX3_weigh 53 = .ok (.getfield 60, 3)) ?_
  refine sm_icmp_ge (pc := 56) (tgt := 155) G hb (by decide +kernel : decode cX3_weigh 56 = .ok (.if_icmp .ge 99, 3)) (by decide) ?_ ?_
  · skip
    refine sm_aload_n (pc := 155) G hb (by decide +kernel : decode cX3_weigh 155 = .ok (.aload_n 0, 1)) rfl ?_
    refine sm_get (pc := 156) (ci := 3) (j := 0) (N := 2) (T := TX3) G hb ho hy rfl (by decide) gin_3 gw2_29 (by decide +kernel : decode cX3_weigh 156 = .ok (.getfield 9, 3)) ?_
    refine sm_iload_n (pc := 159) G hb (by decide +kernel : decode cX3_weigh 159 = .ok (.iload_n 2, 1)) rfl ?_
    refine sm_iload (pc := 160) G hb (by decide +kernel : decode cX3_weigh 160 = .ok (.iload 6, 2)) ?_
    refine sm_iast (pc := 162) G hb hy (by decide +kernel : decode cX3_weigh 162 = .ok (.iastore, 1)) ?_
    refine sm_aload_n (pc := 163) G hb (by decide +kernel : decode cX3_weigh 163 = .ok (.aload_n 0, 1)) rfl ?_
    refine sm_get (pc := 164) (ci := 3) (j := 1) (N := 2) (T := TX3) G hb ho hy rfl (by decide) gin_3 gw2_32 (by decide +kernel : decode cX3_weigh 164 = .ok (.getfield 15, 3)) ?_
    refine sm_iload_n (pc := 167) G hb (by decide +kernel : decode cX3_weigh 167 = .ok (.iload_n 2, 1)) rfl ?_
    refine sm_iconst (pc := 168) G hb (by decide +kernel : decode cX3_weigh 168 = .ok (.iconst 0, 1)) (by decide) ?_
    refine sm_aload_n (pc := 169) G hb (by decide +kernel : decode cX3_weigh 169 = .ok (.aload_n 3, 1)) rfl ?_
    refine sm_get (pc := 170) (ci := 2) (j := 5) (N := 11) (T := TX2) G hb ho hy rfl (by decide) gin_2 gw1_71 (by decide +kernel : decode cX3_weigh 170 = .ok (.getfield 76, 3)) ?_
    refine sm_iload_n (pc := 173) G hb (by decide +kernel : decode cX3_weigh 173 = .ok (.iload_n 2, 1)) rfl ?_
    refine sm_iald (pc := 174) G hb hy (by decide +kernel : decode cX3_weigh 174 = .ok (.iaload, 1)) ?_
    refine sm_iload (pc := 175) G hb (by decide +kernel : decode cX3_weigh 175 = .ok (.iload 7, 2)) ?_
    refine sm_imul (pc := 177) G hb (by decide +kernel : decode cX3_weigh 177 = .ok (.imul, 1)) ?_
    refine sm_jmax (pc := 178) G hb ho (by rw [hR]; exact ⟨by decide, by decide⟩) gw4_156 gw4_157 gw1_21 gw4_158 (by decide +kernel : decode cX3_weigh 178 = .ok (.invokestatic 79, 3)) ?_
    refine sm_iast (pc := 181) G hb hy (by decide +kernel : decode cX3_weigh 181 = .ok (.iastore, 1)) ?_
    exact sm_vret (pc := 182) G hb (by decide +kernel : decode cX3_weigh 182 = .ok (.return_, 1)) hr
  · skip
    refine sm_aload_n (pc := 59) G hb (by decide +kernel : decode cX3_weigh 59 = .ok (.aload_n 3, 1)) rfl ?_
    refine sm_get (pc := 60) (ci := 2) (j := 3) (N := 11) (T := TX2) G hb ho hy rfl (by decide) gin_2 gw1_61 (by decide +kernel : decode cX3_weigh 60 = .ok (.getfield 63, 3)) ?_
    refine sm_iload_n (pc := 63) G hb (by decide +kernel : decode cX3_weigh 63 = .ok (.iload_n 2, 1)) rfl ?_
    refine sm_iald (pc := 64) G hb hy (by decide +kernel : decode cX3_weigh 64 = .ok (.iaload, 1)) ?_
    refine sm_iload (pc := 65) G hb (by decide +kernel : decode cX3_weigh 65 = .ok (.iload 8, 2)) ?_
    refine sm_mono (ca_sub gI_sub) (sm_callSN (pc := 67) G hb ho hy he hE.1 2 [] (kX8_pair hE N) (gCo_of (by decide +kernel)) (by rw [hR]; exact ⟨by decide, by decide⟩) (by decide +kernel) gw4_155 gw2_82 gw1_1 gw2_83 (by decide +kernel : decode cX3_weigh 67 = .ok (.invokestatic 66, 3)) ?_)
    refine sm_istore (pc := 70) G hb (by decide +kernel : decode cX3_weigh 70 = .ok (.istore 9, 2)) ?_
    refine sm_aload_n (pc := 72) G hb (by decide +kernel : decode cX3_weigh 72 = .ok (.aload_n 3, 1)) rfl ?_
    refine sm_get (pc := 73) (ci := 2) (j := 4) (N := 11) (T := TX2) G hb ho hy rfl (by decide) gin_2 gw1_66 (by decide +kernel : decode cX3_weigh 73 = .ok (.getfield 70, 3)) ?_
    refine sm_iload_n (pc := 76) G hb (by decide +kernel : decode cX3_weigh 76 = .ok (.iload_n 2, 1)) rfl ?_
    refine sm_iald (pc := 77) G hb hy (by decide +kernel : decode cX3_weigh 77 = .ok (.iaload, 1)) ?_
    refine sm_iload (pc := 78) G hb (by decide +kernel : decode cX3_weigh 78 = .ok (.iload 8, 2)) ?_
    refine sm_mono (ca_sub gI_sub) (sm_callSN (pc := 80) G hb ho hy he hE.1 2 [] (kX8_pair hE N) (gCo_of (by decide +kernel)) (by rw [hR]; exact ⟨by decide, by decide⟩) (by decide +kernel) gw4_155 gw2_82 gw1_1 gw2_83 (by decide +kernel : decode cX3_weigh 80 = .ok (.invokestatic 66, 3)) ?_)
    refine sm_istore (pc := 83) G hb (by decide +kernel : decode cX3_weigh 83 = .ok (.istore 10, 2)) ?_
    refine sm_aload (pc := 85) G hb (by decide +kernel : decode cX3_weigh 85 = .ok (.aload 4, 2)) ?_
    refine sm_iload (pc := 87) G hb (by decide +kernel : decode cX3_weigh 87 = .ok (.iload 9, 2)) ?_
    refine sm_iald (pc := 89) G hb hy (by decide +kernel : decode cX3_weigh 89 = .ok (.iaload, 1)) ?_
    refine sm_if_le (pc := 90) (tgt := 149) G hb (by decide +kernel : decode cX3_weigh 90 = .ok (.ifCond .le 59, 3)) (by decide) ?_ ?_
    · skip
      refine sm_mask ?_
      exact fX3_weigh_s149 N G hb ho hy hR he hr hE K50 h50
    · skip
      refine sm_aload (pc := 93) G hb (by decide +kernel : decode cX3_weigh 93 = .ok (.aload 4, 2)) ?_
      refine sm_iload (pc := 95) G hb (by decide +kernel : decode cX3_weigh 95 = .ok (.iload 9, 2)) ?_
      refine sm_iald (pc := 97) G hb hy (by decide +kernel : decode cX3_weigh 97 = .ok (.iaload, 1)) ?_
      refine sm_iload (pc := 98) G hb (by decide +kernel : decode cX3_weigh 98 = .ok (.iload 5, 2)) ?_
      refine sm_aload_n (pc := 100) G hb (by decide +kernel : decode cX3_weigh 100 = .ok (.aload_n 3, 1)) rfl ?_
      refine sm_get (pc := 101) (ci := 2) (j := 10) (N := 11) (T := TX2) G hb ho hy rfl (by decide) gin_2 gw1_88 (by decide +kernel : decode cX3_weigh 101 = .ok (.getfield 73, 3)) ?_
      refine sm_iload (pc := 104) G hb (by decide +kernel : decode cX3_weigh 104 = .ok (.iload 9, 2)) ?_
      refine sm_iald (pc := 106) G hb hy (by decide +kernel : decode cX3_weigh 106 = .ok (.iaload, 1)) ?_
      refine sm_imul (pc := 107) G hb (by decide +kernel : decode cX3_weigh 107 = .ok (.imul, 1)) ?_
      refine sm_iadd (pc := 108) G hb (by decide +kernel : decode cX3_weigh 108 = .ok (.iadd, 1)) ?_
      refine sm_aload (pc := 109) G hb (by decide +kernel : decode cX3_weigh 109 = .ok (.aload 4, 2)) ?_
      refine sm_iload (pc := 111) G hb (by decide +kernel : decode cX3_weigh 111 = .ok (.iload 10, 2)) ?_
      refine sm_iald (pc := 113) G hb hy (by decide +kernel : decode cX3_weigh 113 = .ok (.iaload, 1)) ?_
      refine sm_isub (pc := 114) G hb (by decide +kernel : decode cX3_weigh 114 = .ok (.isub, 1)) ?_
      refine sm_iload (pc := 115) G hb (by decide +kernel : decode cX3_weigh 115 = .ok (.iload 5, 2)) ?_
      refine sm_aload_n (pc := 117) G hb (by decide +kernel : decode cX3_weigh 117 = .ok (.aload_n 3, 1)) rfl ?_
      refine sm_get (pc := 118) (ci := 2) (j := 10) (N := 11) (T := TX2) G hb ho hy rfl (by decide) gin_2 gw1_88 (by decide +kernel : decode cX3_weigh 118 = .ok (.getfield 73, 3)) ?_
      refine sm_iload (pc := 121) G hb (by decide +kernel : decode cX3_weigh 121 = .ok (.iload 10, 2)) ?_
      refine sm_iald (pc := 123) G hb hy (by decide +kernel : decode cX3_weigh 123 = .ok (.iaload, 1)) ?_
      refine sm_imul (pc := 124) G hb (by decide +kernel : decode cX3_weigh 124 = .ok (.imul, 1)) ?_
      refine sm_isub (pc := 125) G hb (by decide +kernel : decode cX3_weigh 125 = .ok (.isub, 1)) ?_
      refine sm_istore (pc := 126) G hb (by decide +kernel : decode cX3_weigh 126 = .ok (.istore 11, 2)) ?_
      refine sm_iload (pc := 128) G hb (by decide +kernel : decode cX3_weigh 128 = .ok (.iload 6, 2)) ?_
      refine sm_iconst (pc := 130) G hb (by decide +kernel : decode cX3_weigh 130 = .ok (.iconst (-1), 1)) (by decide) ?_
      refine sm_icmp_eq (pc := 131) (tgt := 141) G hb (by decide +kernel : decode cX3_weigh 131 = .ok (.if_icmp .eq 10, 3)) (by decide) ?_ ?_
      · skip
        refine sm_mask ?_
        exact fX3_weigh_s141 N G hb ho hy hR he hr hE K50 h50
      · skip
        refine sm_iload (pc := 134) G hb (by decide +kernel : decode cX3_weigh 134 = .ok (.iload 11, 2)) ?_
        refine sm_iload (pc := 136) G hb (by decide +kernel : decode cX3_weigh 136 = .ok (.iload 7, 2)) ?_
        refine sm_icmp_le (pc := 138) (tgt := 149) G hb (by decide +kernel : decode cX3_weigh 138 = .ok (.if_icmp .le 11, 3)) (by decide) ?_ ?_
        · skip
          refine sm_mask ?_
          exact fX3_weigh_s149 N G hb ho hy hR he hr hE K50 h50
        · skip
          refine sm_mask ?_
          exact fX3_weigh_s141 N G hb ho hy hR he hr hE K50 h50
set_option maxRecDepth 100000 in
set_option maxHeartbeats 4000000 in
theorem fX3_weigh_s31 {γ : gG} {cs ss : Nat} {ε : gE5} (N : Nat) (G : gOK γ) (hb : gcc γ = cX3_weigh) (ho : gow γ = RX3) (hy : gly γ = gyPS) (hR : grm γ = { frames := 1, cells := 0, slots := 0, locals := 21 }) (he : genv γ = ε) (hr : grt γ = none) (hE : gEnv ε) : gSm γ cs ss 31 (fX3_weigh_k31 N) := by
  unfold fX3_weigh_k31
  refine sm_astore (pc := 31) G hb (by decide +kernel : decode cX3_weigh 31 = .ok (.astore 4, 2)) ?_
  refine sm_aload_n (pc := 33) G hb (by decide +kernel : decode cX3_weigh 33 = .ok (.aload_n 3, 1)) rfl ?_
  refine sm_get (pc := 34) (ci := 2) (j := 8) (N := 11) (T := TX2) G hb ho hy rfl (by decide) gin_2 gw1_82 (by decide +kernel : decode cX3_weigh 34 = .ok (.getfield 45, 3)) ?_
  refine sm_iconst (pc := 37) G hb (by decide +kernel : decode cX3_weigh 37 = .ok (.iconst 2, 1)) (by decide) ?_
  refine sm_iald (pc := 38) G hb hy (by decide +kernel : decode cX3_weigh 38 = .ok (.iaload, 1)) ?_
  refine sm_istore (pc := 39) G hb (by decide +kernel : decode cX3_weigh 39 = .ok (.istore 5, 2)) ?_
  refine sm_iconst (pc := 41) G hb (by decide +kernel : decode cX3_weigh 41 = .ok (.iconst (-1), 1)) (by decide) ?_
  refine sm_istore (pc := 42) G hb (by decide +kernel : decode cX3_weigh 42 = .ok (.istore 6, 2)) ?_
  refine sm_iconst (pc := 44) G hb (by decide +kernel : decode cX3_weigh 44 = .ok (.iconst 0, 1)) (by decide) ?_
  refine sm_istore (pc := 45) G hb (by decide +kernel : decode cX3_weigh 45 = .ok (.istore 7, 2)) ?_
  refine sm_iconst (pc := 47) G hb (by decide +kernel : decode cX3_weigh 47 = .ok (.iconst 0, 1)) (by decide) ?_
  refine sm_istore (pc := 48) G hb (by decide +kernel : decode cX3_weigh 48 = .ok (.istore 8, 2)) ?_
  refine sm_mask ?_
  exact fX3_weigh_s50 N G hb ho hy hR he hr hE
set_option maxRecDepth 100000 in
set_option maxHeartbeats 4000000 in
theorem fX3_weigh_s0 {γ : gG} {cs ss : Nat} {ε : gE5} (N : Nat) (G : gOK γ) (hb : gcc γ = cX3_weigh) (ho : gow γ = RX3) (hy : gly γ = gyPS) (hR : grm γ = { frames := 1, cells := 0, slots := 0, locals := 21 }) (he : genv γ = ε) (hr : grt γ = none) (hE : gEnv ε) : gSm γ cs ss 0 (fX3_weigh_k0 N) := by
  unfold fX3_weigh_k0
  refine sm_aload_n (pc := 0) G hb (by decide +kernel : decode cX3_weigh 0 = .ok (.aload_n 1, 1)) rfl ?_
  refine sm_get (pc := 1) (ci := 7) (j := 0) (N := 4) (T := TX7) G hb ho hy rfl (by decide) gin_7 gw1_181 (by decide +kernel : decode cX3_weigh 1 = .ok (.getfield 18, 3)) ?_
  refine sm_astore_n (pc := 4) G hb (by decide +kernel : decode cX3_weigh 4 = .ok (.astore_n 3, 1)) rfl ?_
  refine sm_aload_n (pc := 5) G hb (by decide +kernel : decode cX3_weigh 5 = .ok (.aload_n 3, 1)) rfl ?_
  refine sm_get (pc := 6) (ci := 2) (j := 8) (N := 11) (T := TX2) G hb ho hy rfl (by decide) gin_2 gw1_82 (by decide +kernel : decode cX3_weigh 6 = .ok (.getfield 45, 3)) ?_
  refine sm_iconst (pc := 9) G hb (by decide +kernel : decode cX3_weigh 9 = .ok (.iconst 0, 1)) (by decide) ?_
  refine sm_iald (pc := 10) G hb hy (by decide +kernel : decode cX3_weigh 10 = .ok (.iaload, 1)) ?_
  refine sm_if_ne (pc := 11) (tgt := 24) G hb (by decide +kernel : decode cX3_weigh 11 = .ok (.ifCond .ne 13, 3)) (by decide) ?_ ?_
  · skip
    refine sm_aload_n (pc := 24) G hb (by decide +kernel : decode cX3_weigh 24 = .ok (.aload_n 1, 1)) rfl ?_
    refine sm_get (pc := 25) (ci := 7) (j := 1) (N := 4) (T := TX7) G hb ho hy rfl (by decide) gin_7 gw1_184 (by decide +kernel : decode cX3_weigh 25 = .ok (.getfield 48, 3)) ?_
    refine sm_get (pc := 28) (ci := 4) (j := 3) (N := 12) (T := TX4) G hb ho hy rfl (by decide) gin_4 gw1_129 (by decide +kernel : decode cX3_weigh 28 = .ok (.getfield 57, 3)) ?_
    refine sm_mask ?_
    exact fX3_weigh_s31 N G hb ho hy hR he hr hE
  · skip
    refine sm_aload_n (pc := 14) G hb (by decide +kernel : decode cX3_weigh 14 = .ok (.aload_n 1, 1)) rfl ?_
    refine sm_get (pc := 15) (ci := 7) (j := 1) (N := 4) (T := TX7) G hb ho hy rfl (by decide) gin_7 gw1_184 (by decide +kernel : decode cX3_weigh 15 = .ok (.getfield 48, 3)) ?_
    refine sm_get (pc := 18) (ci := 4) (j := 2) (N := 12) (T := TX4) G hb ho hy rfl (by decide) gin_4 gw1_124 (by decide +kernel : decode cX3_weigh 18 = .ok (.getfield 52, 3)) ?_
    refine sm_goto (pc := 21) (tgt := 31) G hb (by decide +kernel : decode cX3_weigh 21 = .ok (.goto 10, 3)) (by decide) ?_
    refine sm_mask ?_
    exact fX3_weigh_s31 N G hb ho hy hR he hr hE
theorem kX3_weigh {ε : gE5} (hE : gEnv ε) (N : Nat) : gCtr ε yX3_weigh cX3_weigh 12 none 1 21 gyPS (fX3_weigh N) :=
  gCtr_of hE.1 (by decide) (fun γ G hb ho hy hR he hr => fX3_weigh_s0 N G hb ho hy hR he hr hE)

set_option maxRecDepth 100000 in
set_option maxHeartbeats 4000000 in
theorem fX3_greediest_s111 {γ : gG} {cs ss : Nat} {ε : gE5} (N : Nat) (G : gOK γ) (hb : gcc γ = cX3_greediest) (ho : gow γ = RX3) (hy : gly γ = gyPN) (hR : grm γ = { frames := 0, cells := 0, slots := 0, locals := 0 }) (he : genv γ = ε) (hr : grt γ = (some .int)) (hE : gEnv ε) (K8 : gK) (h8 : gSm γ cs ss 8 K8) : gSm γ cs ss 111 (fX3_greediest_k111 N K8) := by
  unfold fX3_greediest_k111
  refine sm_iinc (pc := 111) G hb (by decide +kernel : decode cX3_greediest 111 = .ok (.iinc 5 1, 3)) (by decide) ?_
  refine sm_goto (pc := 114) (tgt := 8) G hb (by decide +kernel : decode cX3_greediest 114 = .ok (.goto (-106), 3)) (by decide) ?_
  refine sm_mask ?_
  exact h8
set_option maxRecDepth 100000 in
set_option maxHeartbeats 4000000 in
theorem fX3_greediest_s73 {γ : gG} {cs ss : Nat} {ε : gE5} (N : Nat) (G : gOK γ) (hb : gcc γ = cX3_greediest) (ho : gow γ = RX3) (hy : gly γ = gyPN) (hR : grm γ = { frames := 0, cells := 0, slots := 0, locals := 0 }) (he : genv γ = ε) (hr : grt γ = (some .int)) (hE : gEnv ε) (K8 : gK) (h8 : gSm γ cs ss 8 K8) (K26 : gK) (h26 : gSm γ cs ss 26 K26) : gSm γ cs ss 73 (fX3_greediest_k73 N K8 K26) := by
  unfold fX3_greediest_k73
  refine sm_iinc (pc := 73) G hb (by decide +kernel : decode cX3_greediest 73 = .ok (.iinc 7 1, 3)) (by decide) ?_
  refine sm_goto (pc := 76) (tgt := 26) G hb (by decide +kernel : decode cX3_greediest 76 = .ok (.goto (-50), 3)) (by decide) ?_
  refine sm_mask ?_
  exact h26
set_option maxRecDepth 100000 in
set_option maxHeartbeats 4000000 in
theorem fX3_greediest_s69 {γ : gG} {cs ss : Nat} {ε : gE5} (N : Nat) (G : gOK γ) (hb : gcc γ = cX3_greediest) (ho : gow γ = RX3) (hy : gly γ = gyPN) (hR : grm γ = { frames := 0, cells := 0, slots := 0, locals := 0 }) (he : genv γ = ε) (hr : grt γ = (some .int)) (hE : gEnv ε) (K8 : gK) (h8 : gSm γ cs ss 8 K8) (K26 : gK) (h26 : gSm γ cs ss 26 K26) : gSm γ cs ss 69 (fX3_greediest_k69 N K8 K26) := by
  unfold fX3_greediest_k69
  refine sm_iload (pc := 69) G hb (by decide +kernel : decode cX3_greediest 69 = .ok (.iload 7, 2)) ?_
  refine sm_istore (pc := 71) G hb (by decide +kernel : decode cX3_greediest 71 = .ok (.istore 6, 2)) ?_
  refine sm_mask ?_
  exact fX3_greediest_s73 N G hb ho hy hR he hr hE K8 h8 K26 h26
set_option maxRecDepth 100000 in
set_option maxHeartbeats 4000000 in
theorem fX3_greediest_s26 {γ : gG} {cs ss : Nat} {ε : gE5} (N : Nat) (G : gOK γ) (hb : gcc γ = cX3_greediest) (ho : gow γ = RX3) (hy : gly γ = gyPN) (hR : grm γ = { frames := 0, cells := 0, slots := 0, locals := 0 }) (he : genv γ = ε) (hr : grt γ = (some .int)) (hE : gEnv ε) (K8 : gK) (h8 : gSm γ cs ss 8 K8) : gSm γ cs ss 26 (fX3_greediest_k26 N K8) := by
  unfold fX3_greediest_k26
  refine sm_lp (fun K26 h26 => ?_) N
  unfold fX3_greediest_b26
  refine sm_iload (pc := 26) G hb (by decide +kernel : decode cX3_greediest 26 = .ok (.iload 7, 2)) ?_
  refine sm_aload_n (pc := 28) G hb (by decide +kernel : decode cX3_greediest 28 = .ok (.aload_n 2, 1)) rfl ?_
  refine sm_get (pc := 29) (ci := 2) (j := 1) (N := 11) (T := TX2) G hb ho hy rfl (by decide) gin_2 gw1_51 (by decide +kernel : decode cX3_greediest 29 = .ok (.getfield 24, 3)) ?_
  refine sm_icmp_ge (pc := 32) (tgt := 79) G hb (by decide +kernel : decode cX3_greediest 32 = .ok (.if_icmp .ge 47, 3)) (by decide) ?_ ?_
  · skip
    refine sm_iload (pc := 79) G hb (by decide +kernel : decode cX3_greediest 79 = .ok (.iload 6, 2)) ?_
    refine sm_iconst (pc := 81) G hb (by decide +kernel : decode cX3_greediest 81 = .ok (.iconst (-1), 1)) (by decide) ?_
    refine sm_icmp_eq (pc := 82) (tgt := 111) G hb (by decide +kernel : decode cX3_greediest 82 = .ok (.if_icmp .eq 29, 3)) (by decide) ?_ ?_
    · skip
      refine sm_mask ?_
      exact fX3_greediest_s111 N G hb ho hy hR he hr hE K8 h8
    · skip
      refine sm_iload_n (pc := 85) G hb (by decide +kernel : decode cX3_greediest 85 = .ok (.iload_n 3, 1)) rfl ?_
      refine sm_iconst (pc := 86) G hb (by decide +kernel : decode cX3_greediest 86 = .ok (.iconst 1, 1)) (by decide) ?_
      refine sm_iload (pc := 87) G hb (by decide +kernel : decode cX3_greediest 87 = .ok (.iload 6, 2)) ?_
      refine sm_ishl (pc := 89) G hb (by decide +kernel : decode cX3_greediest 89 = .ok (.ishl, 1)) ?_
      refine sm_ior (pc := 90) G hb (by decide +kernel : decode cX3_greediest 90 = .ok (.ior, 1)) ?_
      refine sm_istore_n (pc := 91) G hb (by decide +kernel : decode cX3_greediest 91 = .ok (.istore_n 3, 1)) rfl ?_
      refine sm_iload (pc := 92) G hb (by decide +kernel : decode cX3_greediest 92 = .ok (.iload 4, 2)) ?_
      refine sm_iconst (pc := 94) G hb (by decide +kernel : decode cX3_greediest 94 = .ok (.iconst 1, 1)) (by decide) ?_
      refine sm_iload (pc := 95) G hb (by decide +kernel : decode cX3_greediest 95 = .ok (.iload 6, 2)) ?_
      refine sm_ishl (pc := 97) G hb (by decide +kernel : decode cX3_greediest 97 = .ok (.ishl, 1)) ?_
      refine sm_aload_n (pc := 98) G hb (by decide +kernel : decode cX3_greediest 98 = .ok (.aload_n 2, 1)) rfl ?_
      refine sm_get (pc := 99) (ci := 2) (j := 7) (N := 11) (T := TX2) G hb ho hy rfl (by decide) gin_2 gw1_79 (by decide +kernel : decode cX3_greediest 99 = .ok (.getfield 38, 3)) ?_
      refine sm_iload (pc := 102) G hb (by decide +kernel : decode cX3_greediest 102 = .ok (.iload 6, 2)) ?_
      refine sm_iald (pc := 104) G hb hy (by decide +kernel : decode cX3_greediest 104 = .ok (.iaload, 1)) ?_
      refine sm_ior (pc := 105) G hb (by decide +kernel : decode cX3_greediest 105 = .ok (.ior, 1)) ?_
      refine sm_iconst (pc := 106) G hb (by decide +kernel : decode cX3_greediest 106 = .ok (.iconst (-1), 1)) (by decide) ?_
      refine sm_ixor (pc := 107) G hb (by decide +kernel : decode cX3_greediest 107 = .ok (.ixor, 1)) ?_
      refine sm_iand (pc := 108) G hb (by decide +kernel : decode cX3_greediest 108 = .ok (.iand, 1)) ?_
      refine sm_istore (pc := 109) G hb (by decide +kernel : decode cX3_greediest 109 = .ok (.istore 4, 2)) ?_
      refine sm_mask ?_
      exact fX3_greediest_s111 N G hb ho hy hR he hr hE K8 h8
  · skip
    refine sm_iload (pc := 35) G hb (by decide +kernel : decode cX3_greediest 35 = .ok (.iload 4, 2)) ?_
    refine sm_iload (pc := 37) G hb (by decide +kernel : decode cX3_greediest 37 = .ok (.iload 7, 2)) ?_
    refine sm_ishr (pc := 39) G hb (by decide +kernel : decode cX3_greediest 39 = .ok (.ishr, 1)) ?_
    refine sm_iconst (pc := 40) G hb (by decide +kernel : decode cX3_greediest 40 = .ok (.iconst 1, 1)) (by decide) ?_
    refine sm_iand (pc := 41) G hb (by decide +kernel : decode cX3_greediest 41 = .ok (.iand, 1)) ?_
    refine sm_iconst (pc := 42) G hb (by decide +kernel : decode cX3_greediest 42 = .ok (.iconst 1, 1)) (by decide) ?_
    refine sm_icmp_ne (pc := 43) (tgt := 73) G hb (by decide +kernel : decode cX3_greediest 43 = .ok (.if_icmp .ne 30, 3)) (by decide) ?_ ?_
    · skip
      refine sm_mask ?_
      exact fX3_greediest_s73 N G hb ho hy hR he hr hE K8 h8 K26 h26
    · skip
      refine sm_iload (pc := 46) G hb (by decide +kernel : decode cX3_greediest 46 = .ok (.iload 6, 2)) ?_
      refine sm_iconst (pc := 48) G hb (by decide +kernel : decode cX3_greediest 48 = .ok (.iconst (-1), 1)) (by decide) ?_
      refine sm_icmp_eq (pc := 49) (tgt := 69) G hb (by decide +kernel : decode cX3_greediest 49 = .ok (.if_icmp .eq 20, 3)) (by decide) ?_ ?_
      · skip
        refine sm_mask ?_
        exact fX3_greediest_s69 N G hb ho hy hR he hr hE K8 h8 K26 h26
      · skip
        refine sm_aload_n (pc := 52) G hb (by decide +kernel : decode cX3_greediest 52 = .ok (.aload_n 0, 1)) rfl ?_
        refine sm_get (pc := 53) (ci := 3) (j := 1) (N := 2) (T := TX3) G hb ho hy rfl (by decide) gin_3 gw2_32 (by decide +kernel : decode cX3_greediest 53 = .ok (.getfield 15, 3)) ?_
        refine sm_iload (pc := 56) G hb (by decide +kernel : decode cX3_greediest 56 = .ok (.iload 7, 2)) ?_
        refine sm_iald (pc := 58) G hb hy (by decide +kernel : decode cX3_greediest 58 = .ok (.iaload, 1)) ?_
        refine sm_aload_n (pc := 59) G hb (by decide +kernel : decode cX3_greediest 59 = .ok (.aload_n 0, 1)) rfl ?_
        refine sm_get (pc := 60) (ci := 3) (j := 1) (N := 2) (T := TX3) G hb ho hy rfl (by decide) gin_3 gw2_32 (by decide +kernel : decode cX3_greediest 60 = .ok (.getfield 15, 3)) ?_
        refine sm_iload (pc := 63) G hb (by decide +kernel : decode cX3_greediest 63 = .ok (.iload 6, 2)) ?_
        refine sm_iald (pc := 65) G hb hy (by decide +kernel : decode cX3_greediest 65 = .ok (.iaload, 1)) ?_
        refine sm_icmp_le (pc := 66) (tgt := 73) G hb (by decide +kernel : decode cX3_greediest 66 = .ok (.if_icmp .le 7, 3)) (by decide) ?_ ?_
        · skip
          refine sm_mask ?_
          exact fX3_greediest_s73 N G hb ho hy hR he hr hE K8 h8 K26 h26
        · skip
          refine sm_mask ?_
          exact fX3_greediest_s69 N G hb ho hy hR he hr hE K8 h8 K26 h26
set_option maxRecDepth 100000 in
set_option maxHeartbeats 4000000 in
theorem fX3_greediest_s8 {γ : gG} {cs ss : Nat} {ε : gE5} (N : Nat) (G : gOK γ) (hb : gcc γ = cX3_greediest) (ho : gow γ = RX3) (hy : gly γ = gyPN) (hR : grm γ = { frames := 0, cells := 0, slots := 0, locals := 0 }) (he : genv γ = ε) (hr : grt γ = (some .int)) (hE : gEnv ε) : gSm γ cs ss 8 (fX3_greediest_k8 N) := by
  unfold fX3_greediest_k8
  refine sm_lp (fun K8 h8 => ?_) N
  unfold fX3_greediest_b8
  refine sm_iload (pc := 8) G hb (by decide +kernel : decode cX3_greediest 8 = .ok (.iload 5, 2)) ?_
  refine sm_bipush (pc := 10) G hb (by decide +kernel : decode cX3_greediest 10 = .ok (.bipush 14, 2)) (by decide) ?_
  refine sm_icmp_ge (pc := 12) (tgt := 117) G hb (by decide +kernel : decode cX3_greediest 12 = .ok (.if_icmp .ge 105, 3)) (by decide) ?_ ?_
  · skip
    refine sm_iload_n (pc := 117) G hb (by decide +kernel : decode cX3_greediest 117 = .ok (.iload_n 3, 1)) rfl ?_
    exact sm_iret (pc := 118) G hb (by decide +kernel : decode cX3_greediest 118 = .ok (.ireturn, 1)) hr
  · skip
    refine sm_iload (pc := 15) G hb (by decide +kernel : decode cX3_greediest 15 = .ok (.iload 4, 2)) ?_
    refine sm_if_eq (pc := 17) (tgt := 117) G hb (by decide +kernel : decode cX3_greediest 17 = .ok (.ifCond .eq 100, 3)) (by decide) ?_ ?_
    · skip
      refine sm_iload_n (pc := 117) G hb (by decide +kernel : decode cX3_greediest 117 = .ok (.iload_n 3, 1)) rfl ?_
      exact sm_iret (pc := 118) G hb (by decide +kernel : decode cX3_greediest 118 = .ok (.ireturn, 1)) hr
    · skip
      refine sm_iconst (pc := 20) G hb (by decide +kernel : decode cX3_greediest 20 = .ok (.iconst (-1), 1)) (by decide) ?_
      refine sm_istore (pc := 21) G hb (by decide +kernel : decode cX3_greediest 21 = .ok (.istore 6, 2)) ?_
      refine sm_iconst (pc := 23) G hb (by decide +kernel : decode cX3_greediest 23 = .ok (.iconst 0, 1)) (by decide) ?_
      refine sm_istore (pc := 24) G hb (by decide +kernel : decode cX3_greediest 24 = .ok (.istore 7, 2)) ?_
      refine sm_mask ?_
      exact fX3_greediest_s26 N G hb ho hy hR he hr hE K8 h8
set_option maxRecDepth 100000 in
set_option maxHeartbeats 4000000 in
theorem fX3_greediest_s0 {γ : gG} {cs ss : Nat} {ε : gE5} (N : Nat) (G : gOK γ) (hb : gcc γ = cX3_greediest) (ho : gow γ = RX3) (hy : gly γ = gyPN) (hR : grm γ = { frames := 0, cells := 0, slots := 0, locals := 0 }) (he : genv γ = ε) (hr : grt γ = (some .int)) (hE : gEnv ε) : gSm γ cs ss 0 (fX3_greediest_k0 N) := by
  unfold fX3_greediest_k0
  refine sm_iconst (pc := 0) G hb (by decide +kernel : decode cX3_greediest 0 = .ok (.iconst 0, 1)) (by decide) ?_
  refine sm_istore_n (pc := 1) G hb (by decide +kernel : decode cX3_greediest 1 = .ok (.istore_n 3, 1)) rfl ?_
  refine sm_iload_n (pc := 2) G hb (by decide +kernel : decode cX3_greediest 2 = .ok (.iload_n 1, 1)) rfl ?_
  refine sm_istore (pc := 3) G hb (by decide +kernel : decode cX3_greediest 3 = .ok (.istore 4, 2)) ?_
  refine sm_iconst (pc := 5) G hb (by decide +kernel : decode cX3_greediest 5 = .ok (.iconst 0, 1)) (by decide) ?_
  refine sm_istore (pc := 6) G hb (by decide +kernel : decode cX3_greediest 6 = .ok (.istore 5, 2)) ?_
  refine sm_mask ?_
  exact fX3_greediest_s8 N G hb ho hy hR he hr hE
theorem kX3_greediest {ε : gE5} (hE : gEnv ε) (N : Nat) : gCtr ε yX3_greediest cX3_greediest 8 (some .int) 0 0 gyPN (fX3_greediest N) :=
  gCtr_of hE.1 (by decide) (fun γ G hb ho hy hR he hr => fX3_greediest_s0 N G hb ho hy hR he hr hE)

set_option maxRecDepth 100000 in
set_option maxHeartbeats 4000000 in
theorem fX3_countCarried_s112 {γ : gG} {cs ss : Nat} {ε : gE5} (N : Nat) (G : gOK γ) (hb : gcc γ = cX3_countCarried) (ho : gow γ = RX3) (hy : gly γ = gyPS) (hR : grm γ = { frames := 1, cells := 0, slots := 0, locals := 21 }) (he : genv γ = ε) (hr : grt γ = (some .int)) (hE : gEnv ε) (K45 : gK) (h45 : gSm γ cs ss 45 K45) : gSm γ cs ss 112 (fX3_countCarried_k112 N K45) := by
  unfold fX3_countCarried_k112
  refine sm_iinc (pc := 112) G hb (by decide +kernel : decode cX3_countCarried 112 = .ok (.iinc 6 1, 3)) (by decide) ?_
  refine sm_goto (pc := 115) (tgt := 45) G hb (by decide +kernel : decode cX3_countCarried 115 = .ok (.goto (-70), 3)) (by decide) ?_
  refine sm_mask ?_
  exact h45
set_option maxRecDepth 100000 in
set_option maxHeartbeats 4000000 in
theorem fX3_countCarried_s45 {γ : gG} {cs ss : Nat} {ε : gE5} (N : Nat) (G : gOK γ) (hb : gcc γ = cX3_countCarried) (ho : gow γ = RX3) (hy : gly γ = gyPS) (hR : grm γ = { frames := 1, cells := 0, slots := 0, locals := 21 }) (he : genv γ = ε) (hr : grt γ = (some .int)) (hE : gEnv ε) : gSm γ cs ss 45 (fX3_countCarried_k45 N) := by
  unfold fX3_countCarried_k45
  refine sm_lp (fun K45 h45 => ?_) N
  unfold fX3_countCarried_b45
  refine sm_iload (pc := 45) G hb (by decide +kernel : decode cX3_countCarried 45 = .ok (.iload 6, 2)) ?_
  refine sm_iload_n (pc := 47) G hb (by decide +kernel : decode cX3_countCarried 47 = .ok (.iload_n 3, 1)) rfl ?_
  refine sm_icmp_ge (pc := 48) (tgt := 118) G hb (by decide +kernel : decode cX3_countCarried 48 = .ok (.if_icmp .ge 70, 3)) (by decide) ?_ ?_
  · skip
    refine sm_iload (pc := 118) G hb (by decide +kernel : decode cX3_countCarried 118 = .ok (.iload 5, 2)) ?_
    refine sm_aload (pc := 120) G hb (by decide +kernel : decode cX3_countCarried 120 = .ok (.aload 4, 2)) ?_
    refine sm_get (pc := 122) (ci := 2) (j := 5) (N := 11) (T := TX2) G hb ho hy rfl (by decide) gin_2 gw1_71 (by decide +kernel : decode cX3_countCarried 122 = .ok (.getfield 76, 3)) ?_
    refine sm_iload_n (pc := 125) G hb (by decide +kernel : decode cX3_countCarried 125 = .ok (.iload_n 3, 1)) rfl ?_
    refine sm_iald (pc := 126) G hb hy (by decide +kernel : decode cX3_countCarried 126 = .ok (.iaload, 1)) ?_
    refine sm_jmin (pc := 127) G hb ho (by rw [hR]; exact ⟨by decide, by decide⟩) gw5_16 gw4_178 gw1_21 gw4_179 (by decide +kernel : decode cX3_countCarried 127 = .ok (.invokestatic 88, 3)) ?_
    exact sm_iret (pc := 130) G hb (by decide +kernel : decode cX3_countCarried 130 = .ok (.ireturn, 1)) hr
  · skip
    refine sm_iload_n (pc := 51) G hb (by decide +kernel : decode cX3_countCarried 51 = .ok (.iload_n 2, 1)) rfl ?_
    refine sm_iload (pc := 52) G hb (by decide +kernel : decode cX3_countCarried 52 = .ok (.iload 6, 2)) ?_
    refine sm_ishr (pc := 54) G hb (by decide +kernel : decode cX3_countCarried 54 = .ok (.ishr, 1)) ?_
    refine sm_iconst (pc := 55) G hb (by decide +kernel : decode cX3_countCarried 55 = .ok (.iconst 1, 1)) (by decide) ?_
    refine sm_iand (pc := 56) G hb (by decide +kernel : decode cX3_countCarried 56 = .ok (.iand, 1)) ?_
    refine sm_iconst (pc := 57) G hb (by decide +kernel : decode cX3_countCarried 57 = .ok (.iconst 1, 1)) (by decide) ?_
    refine sm_icmp_ne (pc := 58) (tgt := 112) G hb (by decide +kernel : decode cX3_countCarried 58 = .ok (.if_icmp .ne 54, 3)) (by decide) ?_ ?_
    · skip
      refine sm_mask ?_
      exact fX3_countCarried_s112 N G hb ho hy hR he hr hE K45 h45
    · skip
      refine sm_aload (pc := 61) G hb (by decide +kernel : decode cX3_countCarried 61 = .ok (.aload 4, 2)) ?_
      refine sm_get (pc := 63) (ci := 2) (j := 3) (N := 11) (T := TX2) G hb ho hy rfl (by decide) gin_2 gw1_61 (by decide +kernel : decode cX3_countCarried 63 = .ok (.getfield 63, 3)) ?_
      refine sm_iload (pc := 66) G hb (by decide +kernel : decode cX3_countCarried 66 = .ok (.iload 6, 2)) ?_
      refine sm_iald (pc := 68) G hb hy (by decide +kernel : decode cX3_countCarried 68 = .ok (.iaload, 1)) ?_
      refine sm_aload (pc := 69) G hb (by decide +kernel : decode cX3_countCarried 69 = .ok (.aload 4, 2)) ?_
      refine sm_get (pc := 71) (ci := 2) (j := 3) (N := 11) (T := TX2) G hb ho hy rfl (by decide) gin_2 gw1_61 (by decide +kernel : decode cX3_countCarried 71 = .ok (.getfield 63, 3)) ?_
      refine sm_iload_n (pc := 74) G hb (by decide +kernel : decode cX3_countCarried 74 = .ok (.iload_n 3, 1)) rfl ?_
      refine sm_iald (pc := 75) G hb hy (by decide +kernel : decode cX3_countCarried 75 = .ok (.iaload, 1)) ?_
      refine sm_icmp_ne (pc := 76) (tgt := 112) G hb (by decide +kernel : decode cX3_countCarried 76 = .ok (.if_icmp .ne 36, 3)) (by decide) ?_ ?_
      · skip
        refine sm_mask ?_
        exact fX3_countCarried_s112 N G hb ho hy hR he hr hE K45 h45
      · skip
        refine sm_aload_n (pc := 79) G hb (by decide +kernel : decode cX3_countCarried 79 = .ok (.aload_n 0, 1)) rfl ?_
        refine sm_get (pc := 80) (ci := 3) (j := 0) (N := 2) (T := TX3) G hb ho hy rfl (by decide) gin_3 gw2_29 (by decide +kernel : decode cX3_countCarried 80 = .ok (.getfield 9, 3)) ?_
        refine sm_iload (pc := 83) G hb (by decide +kernel : decode cX3_countCarried 83 = .ok (.iload 6, 2)) ?_
        refine sm_iald (pc := 85) G hb hy (by decide +kernel : decode cX3_countCarried 85 = .ok (.iaload, 1)) ?_
        refine sm_aload_n (pc := 86) G hb (by decide +kernel : decode cX3_countCarried 86 = .ok (.aload_n 0, 1)) rfl ?_
        refine sm_get (pc := 87) (ci := 3) (j := 0) (N := 2) (T := TX3) G hb ho hy rfl (by decide) gin_3 gw2_29 (by decide +kernel : decode cX3_countCarried 87 = .ok (.getfield 9, 3)) ?_
        refine sm_iload_n (pc := 90) G hb (by decide +kernel : decode cX3_countCarried 90 = .ok (.iload_n 3, 1)) rfl ?_
        refine sm_iald (pc := 91) G hb hy (by decide +kernel : decode cX3_countCarried 91 = .ok (.iaload, 1)) ?_
        refine sm_icmp_ne (pc := 92) (tgt := 112) G hb (by decide +kernel : decode cX3_countCarried 92 = .ok (.if_icmp .ne 20, 3)) (by decide) ?_ ?_
        · skip
          refine sm_mask ?_
          exact fX3_countCarried_s112 N G hb ho hy hR he hr hE K45 h45
        · skip
          refine sm_iconst (pc := 95) G hb (by decide +kernel : decode cX3_countCarried 95 = .ok (.iconst 0, 1)) (by decide) ?_
          refine sm_iload (pc := 96) G hb (by decide +kernel : decode cX3_countCarried 96 = .ok (.iload 5, 2)) ?_
          refine sm_aload (pc := 98) G hb (by decide +kernel : decode cX3_countCarried 98 = .ok (.aload 4, 2)) ?_
          refine sm_get (pc := 100) (ci := 2) (j := 5) (N := 11) (T := TX2) G hb ho hy rfl (by decide) gin_2 gw1_71 (by decide +kernel : decode cX3_countCarried 100 = .ok (.getfield 76, 3)) ?_
          refine sm_iload (pc := 103) G hb (by decide +kernel : decode cX3_countCarried 103 = .ok (.iload 6, 2)) ?_
          refine sm_iald (pc := 105) G hb hy (by decide +kernel : decode cX3_countCarried 105 = .ok (.iaload, 1)) ?_
          refine sm_isub (pc := 106) G hb (by decide +kernel : decode cX3_countCarried 106 = .ok (.isub, 1)) ?_
          refine sm_jmax (pc := 107) G hb ho (by rw [hR]; exact ⟨by decide, by decide⟩) gw4_156 gw4_157 gw1_21 gw4_158 (by decide +kernel : decode cX3_countCarried 107 = .ok (.invokestatic 79, 3)) ?_
          refine sm_istore (pc := 110) G hb (by decide +kernel : decode cX3_countCarried 110 = .ok (.istore 5, 2)) ?_
          refine sm_mask ?_
          exact fX3_countCarried_s112 N G hb ho hy hR he hr hE K45 h45
set_option maxRecDepth 100000 in
set_option maxHeartbeats 4000000 in
theorem fX3_countCarried_s0 {γ : gG} {cs ss : Nat} {ε : gE5} (N : Nat) (G : gOK γ) (hb : gcc γ = cX3_countCarried) (ho : gow γ = RX3) (hy : gly γ = gyPS) (hR : grm γ = { frames := 1, cells := 0, slots := 0, locals := 21 }) (he : genv γ = ε) (hr : grt γ = (some .int)) (hE : gEnv ε) : gSm γ cs ss 0 (fX3_countCarried_k0 N) := by
  unfold fX3_countCarried_k0
  refine sm_iload_n (pc := 0) G hb (by decide +kernel : decode cX3_countCarried 0 = .ok (.iload_n 2, 1)) rfl ?_
  refine sm_iload_n (pc := 1) G hb (by decide +kernel : decode cX3_countCarried 1 = .ok (.iload_n 3, 1)) rfl ?_
  refine sm_ishr (pc := 2) G hb (by decide +kernel : decode cX3_countCarried 2 = .ok (.ishr, 1)) ?_
  refine sm_iconst (pc := 3) G hb (by decide +kernel : decode cX3_countCarried 3 = .ok (.iconst 1, 1)) (by decide) ?_
  refine sm_iand (pc := 4) G hb (by decide +kernel : decode cX3_countCarried 4 = .ok (.iand, 1)) ?_
  refine sm_if_ne (pc := 5) (tgt := 10) G hb (by decide +kernel : decode cX3_countCarried 5 = .ok (.ifCond .ne 5, 3)) (by decide) ?_ ?_
  · skip
    refine sm_aload_n (pc := 10) G hb (by decide +kernel : decode cX3_countCarried 10 = .ok (.aload_n 1, 1)) rfl ?_
    refine sm_get (pc := 11) (ci := 7) (j := 0) (N := 4) (T := TX7) G hb ho hy rfl (by decide) gin_7 gw1_181 (by decide +kernel : decode cX3_countCarried 11 = .ok (.getfield 18, 3)) ?_
    refine sm_astore (pc := 14) G hb (by decide +kernel : decode cX3_countCarried 14 = .ok (.astore 4, 2)) ?_
    refine sm_aload_n (pc := 16) G hb (by decide +kernel : decode cX3_countCarried 16 = .ok (.aload_n 1, 1)) rfl ?_
    refine sm_get (pc := 17) (ci := 7) (j := 1) (N := 4) (T := TX7) G hb ho hy rfl (by decide) gin_7 gw1_184 (by decide +kernel : decode cX3_countCarried 17 = .ok (.getfield 48, 3)) ?_
    refine sm_get (pc := 20) (ci := 4) (j := 2) (N := 12) (T := TX4) G hb ho hy rfl (by decide) gin_4 gw1_124 (by decide +kernel : decode cX3_countCarried 20 = .ok (.getfield 52, 3)) ?_
    refine sm_aload (pc := 23) G hb (by decide +kernel : decode cX3_countCarried 23 = .ok (.aload 4, 2)) ?_
    refine sm_get (pc := 25) (ci := 2) (j := 3) (N := 11) (T := TX2) G hb ho hy rfl (by decide) gin_2 gw1_61 (by decide +kernel : decode cX3_countCarried 25 = .ok (.getfield 63, 3)) ?_
    refine sm_iload_n (pc := 28) G hb (by decide +kernel : decode cX3_countCarried 28 = .ok (.iload_n 3, 1)) rfl ?_
    refine sm_iald (pc := 29) G hb hy (by decide +kernel : decode cX3_countCarried 29 = .ok (.iaload, 1)) ?_
    refine sm_aload_n (pc := 30) G hb (by decide +kernel : decode cX3_countCarried 30 = .ok (.aload_n 0, 1)) rfl ?_
    refine sm_get (pc := 31) (ci := 3) (j := 0) (N := 2) (T := TX3) G hb ho hy rfl (by decide) gin_3 gw2_29 (by decide +kernel : decode cX3_countCarried 31 = .ok (.getfield 9, 3)) ?_
    refine sm_iload_n (pc := 34) G hb (by decide +kernel : decode cX3_countCarried 34 = .ok (.iload_n 3, 1)) rfl ?_
    refine sm_iald (pc := 35) G hb hy (by decide +kernel : decode cX3_countCarried 35 = .ok (.iaload, 1)) ?_
    refine sm_mono (ca_sub gI_sub) (sm_callSN (pc := 36) G hb ho hy he hE.1 2 [] (kX8_pair hE N) (gCo_of (by decide +kernel)) (by rw [hR]; exact ⟨by decide, by decide⟩) (by decide +kernel) gw4_155 gw2_82 gw1_1 gw2_83 (by decide +kernel : decode cX3_countCarried 36 = .ok (.invokestatic 66, 3)) ?_)
    refine sm_iald (pc := 39) G hb hy (by decide +kernel : decode cX3_countCarried 39 = .ok (.iaload, 1)) ?_
    refine sm_istore (pc := 40) G hb (by decide +kernel : decode cX3_countCarried 40 = .ok (.istore 5, 2)) ?_
    refine sm_iconst (pc := 42) G hb (by decide +kernel : decode cX3_countCarried 42 = .ok (.iconst 0, 1)) (by decide) ?_
    refine sm_istore (pc := 43) G hb (by decide +kernel : decode cX3_countCarried 43 = .ok (.istore 6, 2)) ?_
    refine sm_mask ?_
    exact fX3_countCarried_s45 N G hb ho hy hR he hr hE
  · skip
    refine sm_iconst (pc := 8) G hb (by decide +kernel : decode cX3_countCarried 8 = .ok (.iconst 0, 1)) (by decide) ?_
    exact sm_iret (pc := 9) G hb (by decide +kernel : decode cX3_countCarried 9 = .ok (.ireturn, 1)) hr
theorem kX3_countCarried {ε : gE5} (hE : gEnv ε) (N : Nat) : gCtr ε yX3_countCarried cX3_countCarried 7 (some .int) 1 21 gyPS (fX3_countCarried N) :=
  gCtr_of hE.1 (by decide) (fun γ G hb ho hy hR he hr => fX3_countCarried_s0 N G hb ho hy hR he hr hE)
