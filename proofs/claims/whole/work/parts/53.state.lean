set_option maxRecDepth 100000 in
set_option maxHeartbeats 4000000 in
theorem fX7_begin_s0 {γ : gG} {cs ss : Nat} {ε : gE5} (N : Nat) (G : gOK γ) (hb : gcc γ = cX7_begin) (ho : gow γ = RX7) (hy : gly γ = gySN) (hR : grm γ = { frames := 3, cells := 0, slots := 0, locals := 69 }) (he : genv γ = ε) (hr : grt γ = none) (hE : gEnv ε) : gSm γ cs ss 0 (fX7_begin_k0 N) := by
  unfold fX7_begin_k0
  refine sm_aload_n (pc := 0) G hb (by decide +kernel : decode cX7_begin 0 = .ok (.aload_n 0, 1)) rfl ?_
  refine sm_get (pc := 1) (ci := 7) (j := 0) (N := 4) (T := TX7) G hb ho hy rfl (by decide) gin_7 gw1_179 (by decide +kernel : decode cX7_begin 1 = .ok (.getfield 12, 3)) ?_
  refine sm_aload_n (pc := 4) G hb (by decide +kernel : decode cX7_begin 4 = .ok (.aload_n 1, 1)) rfl ?_
  refine sm_mono (cav_sub gV_sub) (sm_callV (pc := 5) (N := 11) (T := TX2) (C := RX2) G hb ho hy he hE.1 2 [1, 2, 3, 4, 5, 6, 7, 8, 9, 20, 21, 22, 23, 24, 25, 26, 27, 28] (kX2_copyFrom hE N) (gCo_of (by decide +kernel)) (by rw [hR]; exact ⟨by decide, by decide⟩) rfl rfl (by decide +kernel) gw3_40 gw3_41 gw3_42 gw1_3 gw3_43 (by decide +kernel : decode cX7_begin 5 = .ok (.invokevirtual 25, 3)) ?_)
  refine sm_aload_n (pc := 8) G hb (by decide +kernel : decode cX7_begin 8 = .ok (.aload_n 0, 1)) rfl ?_
  refine sm_get (pc := 9) (ci := 7) (j := 1) (N := 4) (T := TX7) G hb ho hy rfl (by decide) gin_7 gw1_183 (by decide +kernel : decode cX7_begin 9 = .ok (.getfield 21, 3)) ?_
  refine sm_mono (cav_sub gV_sub) (sm_callV (pc := 12) (N := 12) (T := TX4) (C := RX4) G hb ho hy he hE.1 1 [10, 11, 12, 13, 14, 15, 16, 17, 18, 19] (kX4_clear hE N) (gCo_of (by decide +kernel)) (by rw [hR]; exact ⟨by decide, by decide⟩) rfl rfl (by decide +kernel) gw3_215 gw3_216 gw3_217 gw1_4 gw3_218 (by decide +kernel : decode cX7_begin 12 = .ok (.invokevirtual 29, 3)) ?_)
  refine sm_aload_n (pc := 15) G hb (by decide +kernel : decode cX7_begin 15 = .ok (.aload_n 0, 1)) rfl ?_
  refine sm_iconst (pc := 16) G hb (by decide +kernel : decode cX7_begin 16 = .ok (.iconst 0, 1)) (by decide) ?_
  refine sm_put (pc := 17) (ci := 7) (j := 2) (N := 4) (T := TX7) G hb ho hy tyX7 tyX7_ok nmX7 rfl (by decide) gin_7 gw1_187 rfl rfl (by decide +kernel : decode cX7_begin 17 = .ok (.putfield 32, 3)) ?_
  refine sm_aload_n (pc := 20) G hb (by decide +kernel : decode cX7_begin 20 = .ok (.aload_n 0, 1)) rfl ?_
  refine sm_iconst (pc := 21) G hb (by decide +kernel : decode cX7_begin 21 = .ok (.iconst 0, 1)) (by decide) ?_
  refine sm_put (pc := 22) (ci := 7) (j := 3) (N := 4) (T := TX7) G hb ho hy tyX7 tyX7_ok nmX7 rfl (by decide) gin_7 gw1_190 rfl rfl (by decide +kernel : decode cX7_begin 22 = .ok (.putfield 36, 3)) ?_
  exact sm_vret (pc := 25) G hb (by decide +kernel : decode cX7_begin 25 = .ok (.return_, 1)) hr
theorem kX7_begin {ε : gE5} (hE : gEnv ε) (N : Nat) : gCtr ε yX7_begin cX7_begin 2 none 3 69 gySN (fX7_begin N) :=
  gCtr_of hE.1 (by decide) (fun γ G hb ho hy hR he hr => fX7_begin_s0 N G hb ho hy hR he hr hE)

set_option maxRecDepth 100000 in
set_option maxHeartbeats 4000000 in
theorem fX7_copyFrom_s0 {γ : gG} {cs ss : Nat} {ε : gE5} (N : Nat) (G : gOK γ) (hb : gcc γ = cX7_copyFrom) (ho : gow γ = RX7) (hy : gly γ = gyS2) (hR : grm γ = { frames := 3, cells := 0, slots := 0, locals := 69 }) (he : genv γ = ε) (hr : grt γ = none) (hE : gEnv ε) : gSm γ cs ss 0 (fX7_copyFrom_k0 N) := by
  unfold fX7_copyFrom_k0
  refine sm_aload_n (pc := 0) G hb (by decide +kernel : decode cX7_copyFrom 0 = .ok (.aload_n 0, 1)) rfl ?_
  refine sm_get (pc := 1) (ci := 7) (j := 0) (N := 4) (T := TX7) G hb ho hy rfl (by decide) gin_7 gw1_179 (by decide +kernel : decode cX7_copyFrom 1 = .ok (.getfield 12, 3)) ?_
  refine sm_aload_n (pc := 4) G hb (by decide +kernel : decode cX7_copyFrom 4 = .ok (.aload_n 1, 1)) rfl ?_
  refine sm_get (pc := 5) (ci := 7) (j := 0) (N := 4) (T := TX7) G hb ho hy rfl (by decide) gin_7 gw1_179 (by decide +kernel : decode cX7_copyFrom 5 = .ok (.getfield 12, 3)) ?_
  refine sm_mono (cav_sub gV_sub) (sm_callV (pc := 8) (N := 11) (T := TX2) (C := RX2) G hb ho hy he hE.1 2 [1, 2, 3, 4, 5, 6, 7, 8, 9, 21, 22, 23, 24, 25, 26, 27, 28, 29] (kX2_copyFrom hE N) (gCo_of (by decide +kernel)) (by rw [hR]; exact ⟨by decide, by decide⟩) rfl rfl (by decide +kernel) gw3_40 gw3_41 gw3_42 gw1_3 gw3_43 (by decide +kernel : decode cX7_copyFrom 8 = .ok (.invokevirtual 25, 3)) ?_)
  refine sm_aload_n (pc := 11) G hb (by decide +kernel : decode cX7_copyFrom 11 = .ok (.aload_n 0, 1)) rfl ?_
  refine sm_get (pc := 12) (ci := 7) (j := 1) (N := 4) (T := TX7) G hb ho hy rfl (by decide) gin_7 gw1_183 (by decide +kernel : decode cX7_copyFrom 12 = .ok (.getfield 21, 3)) ?_
  refine sm_aload_n (pc := 15) G hb (by decide +kernel : decode cX7_copyFrom 15 = .ok (.aload_n 1, 1)) rfl ?_
  refine sm_get (pc := 16) (ci := 7) (j := 1) (N := 4) (T := TX7) G hb ho hy rfl (by decide) gin_7 gw1_183 (by decide +kernel : decode cX7_copyFrom 16 = .ok (.getfield 21, 3)) ?_
  refine sm_mono (cav_sub gV_sub) (sm_callV (pc := 19) (N := 12) (T := TX4) (C := RX4) G hb ho hy he hE.1 2 [10, 11, 12, 13, 14, 15, 16, 17, 18, 19, 30, 31, 32, 33, 34, 35, 36, 37, 38, 39] (kX4_copyFrom hE N) (gCo_of (by decide +kernel)) (by rw [hR]; exact ⟨by decide, by decide⟩) rfl rfl (by decide +kernel) gw3_50 gw3_51 gw3_52 gw1_4 gw3_53 (by decide +kernel : decode cX7_copyFrom 19 = .ok (.invokevirtual 39, 3)) ?_)
  refine sm_aload_n (pc := 22) G hb (by decide +kernel : decode cX7_copyFrom 22 = .ok (.aload_n 0, 1)) rfl ?_
  refine sm_aload_n (pc := 23) G hb (by decide +kernel : decode cX7_copyFrom 23 = .ok (.aload_n 1, 1)) rfl ?_
  refine sm_get (pc := 24) (ci := 7) (j := 2) (N := 4) (T := TX7) G hb ho hy rfl (by decide) gin_7 gw1_187 (by decide +kernel : decode cX7_copyFrom 24 = .ok (.getfield 32, 3)) ?_
  refine sm_put (pc := 27) (ci := 7) (j := 2) (N := 4) (T := TX7) G hb ho hy tyX7 tyX7_ok nmX7 rfl (by decide) gin_7 gw1_187 rfl rfl (by decide +kernel : decode cX7_copyFrom 27 = .ok (.putfield 32, 3)) ?_
  refine sm_aload_n (pc := 30) G hb (by decide +kernel : decode cX7_copyFrom 30 = .ok (.aload_n 0, 1)) rfl ?_
  refine sm_aload_n (pc := 31) G hb (by decide +kernel : decode cX7_copyFrom 31 = .ok (.aload_n 1, 1)) rfl ?_
  refine sm_get (pc := 32) (ci := 7) (j := 3) (N := 4) (T := TX7) G hb ho hy rfl (by decide) gin_7 gw1_190 (by decide +kernel : decode cX7_copyFrom 32 = .ok (.getfield 36, 3)) ?_
  refine sm_put (pc := 35) (ci := 7) (j := 3) (N := 4) (T := TX7) G hb ho hy tyX7 tyX7_ok nmX7 rfl (by decide) gin_7 gw1_190 rfl rfl (by decide +kernel : decode cX7_copyFrom 35 = .ok (.putfield 36, 3)) ?_
  exact sm_vret (pc := 38) G hb (by decide +kernel : decode cX7_copyFrom 38 = .ok (.return_, 1)) hr
theorem kX7_copyFrom {ε : gE5} (hE : gEnv ε) (N : Nat) : gCtr ε yX7_copyFrom cX7_copyFrom 2 none 3 69 gyS2 (fX7_copyFrom N) :=
  gCtr_of hE.1 (by decide) (fun γ G hb ho hy hR he hr => fX7_copyFrom_s0 N G hb ho hy hR he hr hE)

set_option maxRecDepth 100000 in
set_option maxHeartbeats 4000000 in
theorem fX7_arrive_s58 {γ : gG} {cs ss : Nat} {ε : gE5} (N : Nat) (G : gOK γ) (hb : gcc γ = cX7_arrive) (ho : gow γ = RX7) (hy : gly γ = gyS) (hR : grm γ = { frames := 2, cells := 0, slots := 0, locals := 47 }) (he : genv γ = ε) (hr : grt γ = (some .int)) (hE : gEnv ε) (K31 : gK) (h31 : gSm γ cs ss 31 K31) : gSm γ cs ss 58 (fX7_arrive_k58 N K31) := by
  unfold fX7_arrive_k58
  refine sm_iinc (pc := 58) G hb (by decide +kernel : decode cX7_arrive 58 = .ok (.iinc 6 1, 3)) (by decide) ?_
  refine sm_goto (pc := 61) (tgt := 31) G hb (by decide +kernel : decode cX7_arrive 61 = .ok (.goto (-30), 3)) (by decide) ?_
  refine sm_mask ?_
  exact h31
set_option maxRecDepth 100000 in
set_option maxHeartbeats 4000000 in
theorem fX7_arrive_s31 {γ : gG} {cs ss : Nat} {ε : gE5} (N : Nat) (G : gOK γ) (hb : gcc γ = cX7_arrive) (ho : gow γ = RX7) (hy : gly γ = gyS) (hR : grm γ = { frames := 2, cells := 0, slots := 0, locals := 47 }) (he : genv γ = ε) (hr : grt γ = (some .int)) (hE : gEnv ε) : gSm γ cs ss 31 (fX7_arrive_k31 N) := by
  unfold fX7_arrive_k31
  refine sm_lp (fun K31 h31 => ?_) N
  unfold fX7_arrive_b31
  refine sm_iload (pc := 31) G hb (by decide +kernel : decode cX7_arrive 31 = .ok (.iload 6, 2)) ?_
  refine sm_iload_n (pc := 33) G hb (by decide +kernel : decode cX7_arrive 33 = .ok (.iload_n 2, 1)) rfl ?_
  refine sm_icmp_ge (pc := 34) (tgt := 64) G hb (by decide +kernel : decode cX7_arrive 34 = .ok (.if_icmp .ge 30, 3)) (by decide) ?_ ?_
  · skip
    refine sm_aload_n (pc := 64) G hb (by decide +kernel : decode cX7_arrive 64 = .ok (.aload_n 0, 1)) rfl ?_
    refine sm_get (pc := 65) (ci := 7) (j := 0) (N := 4) (T := TX7) G hb ho hy rfl (by decide) gin_7 gw1_179 (by decide +kernel : decode cX7_arrive 65 = .ok (.getfield 12, 3)) ?_
    refine sm_iload_n (pc := 68) G hb (by decide +kernel : decode cX7_arrive 68 = .ok (.iload_n 1, 1)) rfl ?_
    refine sm_iconst (pc := 69) G hb (by decide +kernel : decode cX7_arrive 69 = .ok (.iconst 4, 1)) (by decide) ?_
    refine sm_iload_n (pc := 70) G hb (by decide +kernel : decode cX7_arrive 70 = .ok (.iload_n 2, 1)) rfl ?_
    refine sm_mono (cav_sub gV_sub) (sm_callV (pc := 71) (N := 11) (T := TX2) (C := RX2) G hb ho hy he hE.1 4 [1, 2, 3, 4, 5, 6, 7, 8, 9] (kX2_addNumber hE N) (gCo_of (by decide +kernel)) (by rw [hR]; exact ⟨by decide, by decide⟩) rfl rfl (by decide +kernel) gw4_98 gw4_99 gw4_100 gw1_3 gw4_101 (by decide +kernel : decode cX7_arrive 71 = .ok (.invokevirtual 53, 3)) ?_)
    refine sm_aload_n (pc := 74) G hb (by decide +kernel : decode cX7_arrive 74 = .ok (.aload_n 0, 1)) rfl ?_
    refine sm_get (pc := 75) (ci := 7) (j := 0) (N := 4) (T := TX7) G hb ho hy rfl (by decide) gin_7 gw1_179 (by decide +kernel : decode cX7_arrive 75 = .ok (.getfield 12, 3)) ?_
    refine sm_iload_n (pc := 78) G hb (by decide +kernel : decode cX7_arrive 78 = .ok (.iload_n 1, 1)) rfl ?_
    refine sm_iconst (pc := 79) G hb (by decide +kernel : decode cX7_arrive 79 = .ok (.iconst 5, 1)) (by decide) ?_
    refine sm_iload_n (pc := 80) G hb (by decide +kernel : decode cX7_arrive 80 = .ok (.iload_n 2, 1)) rfl ?_
    refine sm_iload (pc := 81) G hb (by decide +kernel : decode cX7_arrive 81 = .ok (.iload 5, 2)) ?_
    refine sm_isub (pc := 83) G hb (by decide +kernel : decode cX7_arrive 83 = .ok (.isub, 1)) ?_
    refine sm_mono (cav_sub gV_sub) (sm_callV (pc := 84) (N := 11) (T := TX2) (C := RX2) G hb ho hy he hE.1 4 [1, 2, 3, 4, 5, 6, 7, 8, 9] (kX2_addNumber hE N) (gCo_of (by decide +kernel)) (by rw [hR]; exact ⟨by decide, by decide⟩) rfl rfl (by decide +kernel) gw4_98 gw4_99 gw4_100 gw1_3 gw4_101 (by decide +kernel : decode cX7_arrive 84 = .ok (.invokevirtual 53, 3)) ?_)
    refine sm_iload (pc := 87) G hb (by decide +kernel : decode cX7_arrive 87 = .ok (.iload 5, 2)) ?_
    exact sm_iret (pc := 89) G hb (by decide +kernel : decode cX7_arrive 89 = .ok (.ireturn, 1)) hr
  · skip
    refine sm_aload_n (pc := 37) G hb (by decide +kernel : decode cX7_arrive 37 = .ok (.aload_n 0, 1)) rfl ?_
    refine sm_get (pc := 38) (ci := 7) (j := 1) (N := 4) (T := TX7) G hb ho hy rfl (by decide) gin_7 gw1_183 (by decide +kernel : decode cX7_arrive 38 = .ok (.getfield 21, 3)) ?_
    refine sm_iload (pc := 41) G hb (by decide +kernel : decode cX7_arrive 41 = .ok (.iload 4, 2)) ?_
    refine sm_iload_n (pc := 43) G hb (by decide +kernel : decode cX7_arrive 43 = .ok (.iload_n 1, 1)) rfl ?_
    refine sm_aload_n (pc := 44) G hb (by decide +kernel : decode cX7_arrive 44 = .ok (.aload_n 0, 1)) rfl ?_
    refine sm_get (pc := 45) (ci := 7) (j := 2) (N := 4) (T := TX7) G hb ho hy rfl (by decide) gin_7 gw1_187 (by decide +kernel : decode cX7_arrive 45 = .ok (.getfield 32, 3)) ?_
    refine sm_iload_n (pc := 48) G hb (by decide +kernel : decode cX7_arrive 48 = .ok (.iload_n 3, 1)) rfl ?_
    refine sm_mono (cav_sub gI_sub) (sm_callV (pc := 49) (N := 12) (T := TX4) (C := RX4) G hb ho hy he hE.1 5 [10, 11, 12, 13, 14, 15, 16, 17, 18, 19] (kX4_enter hE N) (gCo_of (by decide +kernel)) (by rw [hR]; exact ⟨by decide, by decide⟩) rfl rfl (by decide +kernel) gw4_90 gw4_91 gw4_92 gw1_4 gw4_93 (by decide +kernel : decode cX7_arrive 49 = .ok (.invokevirtual 49, 3)) ?_)
    refine sm_if_eq (pc := 52) (tgt := 58) G hb (by decide +kernel : decode cX7_arrive 52 = .ok (.ifCond .eq 6, 3)) (by decide) ?_ ?_
    · skip
      refine sm_mask ?_
      exact fX7_arrive_s58 N G hb ho hy hR he hr hE K31 h31
    · skip
      refine sm_iinc (pc := 55) G hb (by decide +kernel : decode cX7_arrive 55 = .ok (.iinc 5 1, 3)) (by decide) ?_
      refine sm_mask ?_
      exact fX7_arrive_s58 N G hb ho hy hR he hr hE K31 h31
set_option maxRecDepth 100000 in
set_option maxHeartbeats 4000000 in
theorem fX7_arrive_s23 {γ : gG} {cs ss : Nat} {ε : gE5} (N : Nat) (G : gOK γ) (hb : gcc γ = cX7_arrive) (ho : gow γ = RX7) (hy : gly γ = gyS) (hR : grm γ = { frames := 2, cells := 0, slots := 0, locals := 47 }) (he : genv γ = ε) (hr : grt γ = (some .int)) (hE : gEnv ε) : gSm γ cs ss 23 (fX7_arrive_k23 N) := by
  unfold fX7_arrive_k23
  refine sm_istore (pc := 23) G hb (by decide +kernel : decode cX7_arrive 23 = .ok (.istore 4, 2)) ?_
  refine sm_iconst (pc := 25) G hb (by decide +kernel : decode cX7_arrive 25 = .ok (.iconst 0, 1)) (by decide) ?_
  refine sm_istore (pc := 26) G hb (by decide +kernel : decode cX7_arrive 26 = .ok (.istore 5, 2)) ?_
  refine sm_iconst (pc := 28) G hb (by decide +kernel : decode cX7_arrive 28 = .ok (.iconst 0, 1)) (by decide) ?_
  refine sm_istore (pc := 29) G hb (by decide +kernel : decode cX7_arrive 29 = .ok (.istore 6, 2)) ?_
  refine sm_mask ?_
  exact fX7_arrive_s31 N G hb ho hy hR he hr hE
set_option maxRecDepth 100000 in
set_option maxHeartbeats 4000000 in
theorem fX7_arrive_s0 {γ : gG} {cs ss : Nat} {ε : gE5} (N : Nat) (G : gOK γ) (hb : gcc γ = cX7_arrive) (ho : gow γ = RX7) (hy : gly γ = gyS) (hR : grm γ = { frames := 2, cells := 0, slots := 0, locals := 47 }) (he : genv γ = ε) (hr : grt γ = (some .int)) (hE : gEnv ε) : gSm γ cs ss 0 (fX7_arrive_k0 N) := by
  unfold fX7_arrive_k0
  refine sm_aload_n (pc := 0) G hb (by decide +kernel : decode cX7_arrive 0 = .ok (.aload_n 0, 1)) rfl ?_
  refine sm_get (pc := 1) (ci := 7) (j := 0) (N := 4) (T := TX7) G hb ho hy rfl (by decide) gin_7 gw1_179 (by decide +kernel : decode cX7_arrive 1 = .ok (.getfield 12, 3)) ?_
  refine sm_iload_n (pc := 4) G hb (by decide +kernel : decode cX7_arrive 4 = .ok (.iload_n 1, 1)) rfl ?_
  refine sm_iconst (pc := 5) G hb (by decide +kernel : decode cX7_arrive 5 = .ok (.iconst 0, 1)) (by decide) ?_
  refine sm_mono (cav_sub gI_sub) (sm_callV (pc := 6) (N := 11) (T := TX2) (C := RX2) G hb ho hy he hE.1 3 [1, 2, 3, 4, 5, 6, 7, 8, 9] (kX2_getNumber hE N) (gCo_of (by decide +kernel)) (by rw [hR]; exact ⟨by decide, by decide⟩) rfl rfl (by decide +kernel) gw4_88 gw3_73 gw3_74 gw1_3 gw3_75 (by decide +kernel : decode cX7_arrive 6 = .ok (.invokevirtual 42, 3)) ?_)
  refine sm_istore_n (pc := 9) G hb (by decide +kernel : decode cX7_arrive 9 = .ok (.istore_n 3, 1)) rfl ?_
  refine sm_iload_n (pc := 10) G hb (by decide +kernel : decode cX7_arrive 10 = .ok (.iload_n 3, 1)) rfl ?_
  refine sm_aload_n (pc := 11) G hb (by decide +kernel : decode cX7_arrive 11 = .ok (.aload_n 0, 1)) rfl ?_
  refine sm_get (pc := 12) (ci := 7) (j := 0) (N := 4) (T := TX7) G hb ho hy rfl (by decide) gin_7 gw1_179 (by decide +kernel : decode cX7_arrive 12 = .ok (.getfield 12, 3)) ?_
  refine sm_iload_n (pc := 15) G hb (by decide +kernel : decode cX7_arrive 15 = .ok (.iload_n 1, 1)) rfl ?_
  refine sm_iconst (pc := 16) G hb (by decide +kernel : decode cX7_arrive 16 = .ok (.iconst 1, 1)) (by decide) ?_
  refine sm_mono (cav_sub gI_sub) (sm_callV (pc := 17) (N := 11) (T := TX2) (C := RX2) G hb ho hy he hE.1 3 [1, 2, 3, 4, 5, 6, 7, 8, 9] (kX2_getNumber hE N) (gCo_of (by decide +kernel)) (by rw [hR]; exact ⟨by decide, by decide⟩) rfl rfl (by decide +kernel) gw4_88 gw3_73 gw3_74 gw1_3 gw3_75 (by decide +kernel : decode cX7_arrive 17 = .ok (.invokevirtual 42, 3)) ?_)
  refine sm_mono (ca_sub gI_sub) (sm_callSN (pc := 20) G hb ho hy he hE.1 2 [] (kX8_pair hE N) (gCo_of (by decide +kernel)) (by rw [hR]; exact ⟨by decide, by decide⟩) (by decide +kernel) gw4_89 gw2_82 gw1_1 gw2_83 (by decide +kernel : decode cX7_arrive 20 = .ok (.invokestatic 46, 3)) ?_)
  refine sm_mask ?_
  exact fX7_arrive_s23 N G hb ho hy hR he hr hE
theorem kX7_arrive {ε : gE5} (hE : gEnv ε) (N : Nat) : gCtr ε yX7_arrive cX7_arrive 7 (some .int) 2 47 gyS (fX7_arrive N) :=
  gCtr_of hE.1 (by decide) (fun γ G hb ho hy hR he hr => fX7_arrive_s0 N G hb ho hy hR he hr hE)

set_option maxRecDepth 100000 in
set_option maxHeartbeats 4000000 in
theorem fX7_loseAll_s62 {γ : gG} {cs ss : Nat} {ε : gE5} (N : Nat) (G : gOK γ) (hb : gcc γ = cX7_loseAll) (ho : gow γ = RX7) (hy : gly γ = gyS) (hR : grm γ = { frames := 1, cells := 0, slots := 0, locals := 23 }) (he : genv γ = ε) (hr : grt γ = (some .int)) (hE : gEnv ε) (K12 : gK) (h12 : gSm γ cs ss 12 K12) : gSm γ cs ss 62 (fX7_loseAll_k62 N K12) := by
  unfold fX7_loseAll_k62
  refine sm_iinc (pc := 62) G hb (by decide +kernel : decode cX7_loseAll 62 = .ok (.iinc 3 1, 3)) (by decide) ?_
  refine sm_goto (pc := 65) (tgt := 12) G hb (by decide +kernel : decode cX7_loseAll 65 = .ok (.goto (-53), 3)) (by decide) ?_
  refine sm_mask ?_
  exact h12
set_option maxRecDepth 100000 in
set_option maxHeartbeats 4000000 in
theorem fX7_loseAll_s12 {γ : gG} {cs ss : Nat} {ε : gE5} (N : Nat) (G : gOK γ) (hb : gcc γ = cX7_loseAll) (ho : gow γ = RX7) (hy : gly γ = gyS) (hR : grm γ = { frames := 1, cells := 0, slots := 0, locals := 23 }) (he : genv γ = ε) (hr : grt γ = (some .int)) (hE : gEnv ε) : gSm γ cs ss 12 (fX7_loseAll_k12 N) := by
  unfold fX7_loseAll_k12
  refine sm_lp (fun K12 h12 => ?_) N
  unfold fX7_loseAll_b12
  refine sm_iload_n (pc := 12) G hb (by decide +kernel : decode cX7_loseAll 12 = .ok (.iload_n 3, 1)) rfl ?_
  refine sm_iload_n (pc := 13) G hb (by decide +kernel : decode cX7_loseAll 13 = .ok (.iload_n 2, 1)) rfl ?_
  refine sm_icmp_ge (pc := 14) (tgt := 68) G hb (by decide +kernel : decode cX7_loseAll 14 = .ok (.if_icmp .ge 54, 3)) (by decide) ?_ ?_
  · skip
    refine sm_iload_n (pc := 68) G hb (by decide +kernel : decode cX7_loseAll 68 = .ok (.iload_n 2, 1)) rfl ?_
    exact sm_iret (pc := 69) G hb (by decide +kernel : decode cX7_loseAll 69 = .ok (.ireturn, 1)) hr
  · skip
    refine sm_aload_n (pc := 17) G hb (by decide +kernel : decode cX7_loseAll 17 = .ok (.aload_n 0, 1)) rfl ?_
    refine sm_get (pc := 18) (ci := 7) (j := 1) (N := 4) (T := TX7) G hb ho hy rfl (by decide) gin_7 gw1_183 (by decide +kernel : decode cX7_loseAll 18 = .ok (.getfield 21, 3)) ?_
    refine sm_iload_n (pc := 21) G hb (by decide +kernel : decode cX7_loseAll 21 = .ok (.iload_n 1, 1)) rfl ?_
    refine sm_iconst (pc := 22) G hb (by decide +kernel : decode cX7_loseAll 22 = .ok (.iconst (-1), 1)) (by decide) ?_
    refine sm_mono (cav_sub gI_sub) (sm_callV (pc := 23) (N := 12) (T := TX4) (C := RX4) G hb ho hy he hE.1 3 [10, 11, 12, 13, 14, 15, 16, 17, 18, 19] (kX4_takeBehind hE N) (gCo_of (by decide +kernel)) (by rw [hR]; exact ⟨by decide, by decide⟩) rfl rfl (by decide +kernel) gw4_114 gw4_115 gw4_116 gw1_4 gw4_117 (by decide +kernel : decode cX7_loseAll 23 = .ok (.invokevirtual 61, 3)) ?_)
    refine sm_istore (pc := 26) G hb (by decide +kernel : decode cX7_loseAll 26 = .ok (.istore 4, 2)) ?_
    refine sm_iload (pc := 28) G hb (by decide +kernel : decode cX7_loseAll 28 = .ok (.iload 4, 2)) ?_
    refine sm_iconst (pc := 30) G hb (by decide +kernel : decode cX7_loseAll 30 = .ok (.iconst (-1), 1)) (by decide) ?_
    refine sm_icmp_eq (pc := 31) (tgt := 62) G hb (by decide +kernel : decode cX7_loseAll 31 = .ok (.if_icmp .eq 31, 3)) (by decide) ?_ ?_
    · skip
      refine sm_mask ?_
      exact fX7_loseAll_s62 N G hb ho hy hR he hr hE K12 h12
    · skip
      refine sm_aload_n (pc := 34) G hb (by decide +kernel : decode cX7_loseAll 34 = .ok (.aload_n 0, 1)) rfl ?_
      refine sm_get (pc := 35) (ci := 7) (j := 0) (N := 4) (T := TX7) G hb ho hy rfl (by decide) gin_7 gw1_179 (by decide +kernel : decode cX7_loseAll 35 = .ok (.getfield 12, 3)) ?_
      refine sm_aload_n (pc := 38) G hb (by decide +kernel : decode cX7_loseAll 38 = .ok (.aload_n 0, 1)) rfl ?_
      refine sm_get (pc := 39) (ci := 7) (j := 1) (N := 4) (T := TX7) G hb ho hy rfl (by decide) gin_7 gw1_183 (by decide +kernel : decode cX7_loseAll 39 = .ok (.getfield 21, 3)) ?_
      refine sm_get (pc := 42) (ci := 4) (j := 5) (N := 12) (T := TX4) G hb ho hy rfl (by decide) gin_4 gw1_135 (by decide +kernel : decode cX7_loseAll 42 = .ok (.getfield 64, 3)) ?_
      refine sm_iload (pc := 45) G hb (by decide +kernel : decode cX7_loseAll 45 = .ok (.iload 4, 2)) ?_
      refine sm_iald (pc := 47) G hb hy (by decide +kernel : decode cX7_loseAll 47 = .ok (.iaload, 1)) ?_
      refine sm_iconst (pc := 48) G hb (by decide +kernel : decode cX7_loseAll 48 = .ok (.iconst 5, 1)) (by decide) ?_
      refine sm_iconst (pc := 49) G hb (by decide +kernel : decode cX7_loseAll 49 = .ok (.iconst 1, 1)) (by decide) ?_
      refine sm_mono (cav_sub gV_sub) (sm_callV (pc := 50) (N := 11) (T := TX2) (C := RX2) G hb ho hy he hE.1 4 [1, 2, 3, 4, 5, 6, 7, 8, 9] (kX2_addNumber hE N) (gCo_of (by decide +kernel)) (by rw [hR]; exact ⟨by decide, by decide⟩) rfl rfl (by decide +kernel) gw4_98 gw4_99 gw4_100 gw1_3 gw4_101 (by decide +kernel : decode cX7_loseAll 50 = .ok (.invokevirtual 53, 3)) ?_)
      refine sm_aload_n (pc := 53) G hb (by decide +kernel : decode cX7_loseAll 53 = .ok (.aload_n 0, 1)) rfl ?_
      refine sm_get (pc := 54) (ci := 7) (j := 1) (N := 4) (T := TX7) G hb ho hy rfl (by decide) gin_7 gw1_183 (by decide +kernel : decode cX7_loseAll 54 = .ok (.getfield 21, 3)) ?_
      refine sm_iload (pc := 57) G hb (by decide +kernel : decode cX7_loseAll 57 = .ok (.iload 4, 2)) ?_
      refine sm_mono (cav_sub gV_sub) (sm_callV (pc := 59) (N := 12) (T := TX4) (C := RX4) G hb ho hy he hE.1 2 [10, 11, 12, 13, 14, 15, 16, 17, 18, 19] (kX4_release hE N) (gCo_of (by decide +kernel)) (by rw [hR]; exact ⟨by decide, by decide⟩) rfl rfl (by decide +kernel) gw4_118 gw4_119 gw4_120 gw1_4 gw4_121 (by decide +kernel : decode cX7_loseAll 59 = .ok (.invokevirtual 67, 3)) ?_)
      refine sm_mask ?_
      exact fX7_loseAll_s62 N G hb ho hy hR he hr hE K12 h12
set_option maxRecDepth 100000 in
set_option maxHeartbeats 4000000 in
theorem fX7_loseAll_s0 {γ : gG} {cs ss : Nat} {ε : gE5} (N : Nat) (G : gOK γ) (hb : gcc γ = cX7_loseAll) (ho : gow γ = RX7) (hy : gly γ = gyS) (hR : grm γ = { frames := 1, cells := 0, slots := 0, locals := 23 }) (he : genv γ = ε) (hr : grt γ = (some .int)) (hE : gEnv ε) : gSm γ cs ss 0 (fX7_loseAll_k0 N) := by
  unfold fX7_loseAll_k0
  refine sm_aload_n (pc := 0) G hb (by decide +kernel : decode cX7_loseAll 0 = .ok (.aload_n 0, 1)) rfl ?_
  refine sm_get (pc := 1) (ci := 7) (j := 1) (N := 4) (T := TX7) G hb ho hy rfl (by decide) gin_7 gw1_183 (by decide +kernel : decode cX7_loseAll 1 = .ok (.getfield 21, 3)) ?_
  refine sm_get (pc := 4) (ci := 4) (j := 2) (N := 12) (T := TX4) G hb ho hy rfl (by decide) gin_4 gw1_125 (by decide +kernel : decode cX7_loseAll 4 = .ok (.getfield 57, 3)) ?_
  refine sm_iload_n (pc := 7) G hb (by decide +kernel : decode cX7_loseAll 7 = .ok (.iload_n 1, 1)) rfl ?_
  refine sm_iald (pc := 8) G hb hy (by decide +kernel : decode cX7_loseAll 8 = .ok (.iaload, 1)) ?_
  refine sm_istore_n (pc := 9) G hb (by decide +kernel : decode cX7_loseAll 9 = .ok (.istore_n 2, 1)) rfl ?_
  refine sm_iconst (pc := 10) G hb (by decide +kernel : decode cX7_loseAll 10 = .ok (.iconst 0, 1)) (by decide) ?_
  refine sm_istore_n (pc := 11) G hb (by decide +kernel : decode cX7_loseAll 11 = .ok (.istore_n 3, 1)) rfl ?_
  refine sm_mask ?_
  exact fX7_loseAll_s12 N G hb ho hy hR he hr hE
theorem kX7_loseAll {ε : gE5} (hE : gEnv ε) (N : Nat) : gCtr ε yX7_loseAll cX7_loseAll 5 (some .int) 1 23 gyS (fX7_loseAll N) :=
  gCtr_of hE.1 (by decide) (fun γ G hb ho hy hR he hr => fX7_loseAll_s0 N G hb ho hy hR he hr hE)

set_option maxRecDepth 100000 in
set_option maxHeartbeats 4000000 in
theorem fX7_deadline_s0 {γ : gG} {cs ss : Nat} {ε : gE5} (N : Nat) (G : gOK γ) (hb : gcc γ = cX7_deadline) (ho : gow γ = RX7) (hy : gly γ = gyS) (hR : grm γ = { frames := 1, cells := 0, slots := 0, locals := 22 }) (he : genv γ = ε) (hr : grt γ = (some .int)) (hE : gEnv ε) : gSm γ cs ss 0 (fX7_deadline_k0 N) := by
  unfold fX7_deadline_k0
  refine sm_aload_n (pc := 0) G hb (by decide +kernel : decode cX7_deadline 0 = .ok (.aload_n 0, 1)) rfl ?_
  refine sm_get (pc := 1) (ci := 7) (j := 0) (N := 4) (T := TX7) G hb ho hy rfl (by decide) gin_7 gw1_179 (by decide +kernel : decode cX7_deadline 1 = .ok (.getfield 12, 3)) ?_
  refine sm_aload_n (pc := 4) G hb (by decide +kernel : decode cX7_deadline 4 = .ok (.aload_n 0, 1)) rfl ?_
  refine sm_get (pc := 5) (ci := 7) (j := 1) (N := 4) (T := TX7) G hb ho hy rfl (by decide) gin_7 gw1_183 (by decide +kernel : decode cX7_deadline 5 = .ok (.getfield 21, 3)) ?_
  refine sm_get (pc := 8) (ci := 4) (j := 5) (N := 12) (T := TX4) G hb ho hy rfl (by decide) gin_4 gw1_135 (by decide +kernel : decode cX7_deadline 8 = .ok (.getfield 64, 3)) ?_
  refine sm_iload_n (pc := 11) G hb (by decide +kernel : decode cX7_deadline 11 = .ok (.iload_n 1, 1)) rfl ?_
  refine sm_iald (pc := 12) G hb hy (by decide +kernel : decode cX7_deadline 12 = .ok (.iaload, 1)) ?_
  refine sm_iconst (pc := 13) G hb (by decide +kernel : decode cX7_deadline 13 = .ok (.iconst 3, 1)) (by decide) ?_
  refine sm_mono (cav_sub gI_sub) (sm_callV (pc := 14) (N := 11) (T := TX2) (C := RX2) G hb ho hy he hE.1 3 [1, 2, 3, 4, 5, 6, 7, 8, 9] (kX2_getNumber hE N) (gCo_of (by decide +kernel)) (by rw [hR]; exact ⟨by decide, by decide⟩) rfl rfl (by decide +kernel) gw4_88 gw3_73 gw3_74 gw1_3 gw3_75 (by decide +kernel : decode cX7_deadline 14 = .ok (.invokevirtual 42, 3)) ?_)
  refine sm_istore_n (pc := 17) G hb (by decide +kernel : decode cX7_deadline 17 = .ok (.istore_n 2, 1)) rfl ?_
  refine sm_iload_n (pc := 18) G hb (by decide +kernel : decode cX7_deadline 18 = .ok (.iload_n 2, 1)) rfl ?_
  refine sm_if_ne (pc := 19) (tgt := 26) G hb (by decide +kernel : decode cX7_deadline 19 = .ok (.ifCond .ne 7, 3)) (by decide) ?_ ?_
  · skip
    refine sm_aload_n (pc := 26) G hb (by decide +kernel : decode cX7_deadline 26 = .ok (.aload_n 0, 1)) rfl ?_
    refine sm_get (pc := 27) (ci := 7) (j := 1) (N := 4) (T := TX7) G hb ho hy rfl (by decide) gin_7 gw1_183 (by decide +kernel : decode cX7_deadline 27 = .ok (.getfield 21, 3)) ?_
    refine sm_get (pc := 30) (ci := 4) (j := 6) (N := 12) (T := TX4) G hb ho hy rfl (by decide) gin_4 gw1_139 (by decide +kernel : decode cX7_deadline 30 = .ok (.getfield 71, 3)) ?_
    refine sm_iload_n (pc := 33) G hb (by decide +kernel : decode cX7_deadline 33 = .ok (.iload_n 1, 1)) rfl ?_
    refine sm_iald (pc := 34) G hb hy (by decide +kernel : decode cX7_deadline 34 = .ok (.iaload, 1)) ?_
    refine sm_iload_n (pc := 35) G hb (by decide +kernel : decode cX7_deadline 35 = .ok (.iload_n 2, 1)) rfl ?_
    refine sm_iadd (pc := 36) G hb (by decide +kernel : decode cX7_deadline 36 = .ok (.iadd, 1)) ?_
    exact sm_iret (pc := 37) G hb (by decide +kernel : decode cX7_deadline 37 = .ok (.ireturn, 1)) hr
  · skip
    refine sm_iconst (pc := 22) G hb (by decide +kernel : decode cX7_deadline 22 = .ok (.iconst (-1), 1)) (by decide) ?_
    refine sm_goto (pc := 23) (tgt := 37) G hb (by decide +kernel : decode cX7_deadline 23 = .ok (.goto 14, 3)) (by decide) ?_
    exact sm_iret (pc := 37) G hb (by decide +kernel : decode cX7_deadline 37 = .ok (.ireturn, 1)) hr
theorem kX7_deadline {ε : gE5} (hE : gEnv ε) (N : Nat) : gCtr ε yX7_deadline cX7_deadline 3 (some .int) 1 22 gyS (fX7_deadline N) :=
  gCtr_of hE.1 (by decide) (fun γ G hb ho hy hR he hr => fX7_deadline_s0 N G hb ho hy hR he hr hE)

set_option maxRecDepth 100000 in
set_option maxHeartbeats 4000000 in
theorem fX7_leastDeadline_s92 {γ : gG} {cs ss : Nat} {ε : gE5} (N : Nat) (G : gOK γ) (hb : gcc γ = cX7_leastDeadline) (ho : gow γ = RX7) (hy : gly γ = gyS) (hR : grm γ = { frames := 2, cells := 0, slots := 0, locals := 44 }) (he : genv γ = ε) (hr : grt γ = (some .int)) (hE : gEnv ε) (K4 : gK) (h4 : gSm γ cs ss 4 K4) : gSm γ cs ss 92 (fX7_leastDeadline_k92 N K4) := by
  unfold fX7_leastDeadline_k92
  refine sm_iinc (pc := 92) G hb (by decide +kernel : decode cX7_leastDeadline 92 = .ok (.iinc 2 1, 3)) (by decide) ?_
  refine sm_goto (pc := 95) (tgt := 4) G hb (by decide +kernel : decode cX7_leastDeadline 95 = .ok (.goto (-91), 3)) (by decide) ?_
  refine sm_mask ?_
  exact h4
set_option maxRecDepth 100000 in
set_option maxHeartbeats 4000000 in
theorem fX7_leastDeadline_s74 {γ : gG} {cs ss : Nat} {ε : gE5} (N : Nat) (G : gOK γ) (hb : gcc γ = cX7_leastDeadline) (ho : gow γ = RX7) (hy : gly γ = gyS) (hR : grm γ = { frames := 2, cells := 0, slots := 0, locals := 44 }) (he : genv γ = ε) (hr : grt γ = (some .int)) (hE : gEnv ε) (K4 : gK) (h4 : gSm γ cs ss 4 K4) (K34 : gK) (h34 : gSm γ cs ss 34 K34) : gSm γ cs ss 74 (fX7_leastDeadline_k74 N K4 K34) := by
  unfold fX7_leastDeadline_k74
  refine sm_aload_n (pc := 74) G hb (by decide +kernel : decode cX7_leastDeadline 74 = .ok (.aload_n 0, 1)) rfl ?_
  refine sm_get (pc := 75) (ci := 7) (j := 1) (N := 4) (T := TX7) G hb ho hy rfl (by decide) gin_7 gw1_183 (by decide +kernel : decode cX7_leastDeadline 75 = .ok (.getfield 21, 3)) ?_
  refine sm_get (pc := 78) (ci := 4) (j := 4) (N := 12) (T := TX4) G hb ho hy rfl (by decide) gin_4 gw1_133 (by decide +kernel : decode cX7_leastDeadline 78 = .ok (.getfield 81, 3)) ?_
  refine sm_iload (pc := 81) G hb (by decide +kernel : decode cX7_leastDeadline 81 = .ok (.iload 4, 2)) ?_
  refine sm_iald (pc := 83) G hb hy (by decide +kernel : decode cX7_leastDeadline 83 = .ok (.iaload, 1)) ?_
  refine sm_istore (pc := 84) G hb (by decide +kernel : decode cX7_leastDeadline 84 = .ok (.istore 4, 2)) ?_
  refine sm_iinc (pc := 86) G hb (by decide +kernel : decode cX7_leastDeadline 86 = .ok (.iinc 5 1, 3)) (by decide) ?_
  refine sm_goto (pc := 89) (tgt := 34) G hb (by decide +kernel : decode cX7_leastDeadline 89 = .ok (.goto (-55), 3)) (by decide) ?_
  refine sm_mask ?_
  exact h34
set_option maxRecDepth 100000 in
set_option maxHeartbeats 4000000 in
theorem fX7_leastDeadline_s71 {γ : gG} {cs ss : Nat} {ε : gE5} (N : Nat) (G : gOK γ) (hb : gcc γ = cX7_leastDeadline) (ho : gow γ = RX7) (hy : gly γ = gyS) (hR : grm γ = { frames := 2, cells := 0, slots := 0, locals := 44 }) (he : genv γ = ε) (hr : grt γ = (some .int)) (hE : gEnv ε) (K4 : gK) (h4 : gSm γ cs ss 4 K4) (K34 : gK) (h34 : gSm γ cs ss 34 K34) : gSm γ cs ss 71 (fX7_leastDeadline_k71 N K4 K34) := by
  unfold fX7_leastDeadline_k71
  refine sm_iload (pc := 71) G hb (by decide +kernel : decode cX7_leastDeadline 71 = .ok (.iload 6, 2)) ?_
  refine sm_istore_n (pc := 73) G hb (by decide +kernel : decode cX7_leastDeadline 73 = .ok (.istore_n 1, 1)) rfl ?_
  refine sm_mask ?_
  exact fX7_leastDeadline_s74 N G hb ho hy hR he hr hE K4 h4 K34 h34
set_option maxRecDepth 100000 in
set_option maxHeartbeats 4000000 in
theorem fX7_leastDeadline_s34 {γ : gG} {cs ss : Nat} {ε : gE5} (N : Nat) (G : gOK γ) (hb : gcc γ = cX7_leastDeadline) (ho : gow γ = RX7) (hy : gly γ = gyS) (hR : grm γ = { frames := 2, cells := 0, slots := 0, locals := 44 }) (he : genv γ = ε) (hr : grt γ = (some .int)) (hE : gEnv ε) (K4 : gK) (h4 : gSm γ cs ss 4 K4) : gSm γ cs ss 34 (fX7_leastDeadline_k34 N K4) := by
  unfold fX7_leastDeadline_k34
  refine sm_lp (fun K34 h34 => ?_) N
  unfold fX7_leastDeadline_b34
  refine sm_iload (pc := 34) G hb (by decide +kernel : decode cX7_leastDeadline 34 = .ok (.iload 5, 2)) ?_
  refine sm_iload_n (pc := 36) G hb (by decide +kernel : decode cX7_leastDeadline 36 = .ok (.iload_n 3, 1)) rfl ?_
  refine sm_icmp_ge (pc := 37) (tgt := 92) G hb (by decide +kernel : decode cX7_leastDeadline 37 = .ok (.if_icmp .ge 55, 3)) (by decide) ?_ ?_
  · skip
    refine sm_mask ?_
    exact fX7_leastDeadline_s92 N G hb ho hy hR he hr hE K4 h4
  · skip
    refine sm_iload (pc := 40) G hb (by decide +kernel : decode cX7_leastDeadline 40 = .ok (.iload 4, 2)) ?_
    refine sm_iconst (pc := 42) G hb (by decide +kernel : decode cX7_leastDeadline 42 = .ok (.iconst (-1), 1)) (by decide) ?_
    refine sm_icmp_eq (pc := 43) (tgt := 92) G hb (by decide +kernel : decode cX7_leastDeadline 43 = .ok (.if_icmp .eq 49, 3)) (by decide) ?_ ?_
    · skip
      refine sm_mask ?_
      exact fX7_leastDeadline_s92 N G hb ho hy hR he hr hE K4 h4
    · skip
      refine sm_aload_n (pc := 46) G hb (by decide +kernel : decode cX7_leastDeadline 46 = .ok (.aload_n 0, 1)) rfl ?_
      refine sm_iload (pc := 47) G hb (by decide +kernel : decode cX7_leastDeadline 47 = .ok (.iload 4, 2)) ?_
      refine sm_mono (cav_sub gI_sub) (sm_callV (pc := 49) (N := 4) (T := TX7) (C := RX7) G hb ho hy he hE.1 2 [0, 1, 2, 3, 4, 5, 6, 7, 8, 9, 10, 11, 12, 13, 14, 15, 16, 17, 18, 19] (kX7_deadline hE N) (gCo_of (by decide +kernel)) (by rw [hR]; exact ⟨by decide, by decide⟩) rfl rfl (by decide +kernel) gw4_209 gw4_211 gw0_29 gw1_2 gw4_212 (by decide +kernel : decode cX7_leastDeadline 49 = .ok (.invokevirtual 77, 3)) ?_)
      refine sm_istore (pc := 52) G hb (by decide +kernel : decode cX7_leastDeadline 52 = .ok (.istore 6, 2)) ?_
      refine sm_iload (pc := 54) G hb (by decide +kernel : decode cX7_leastDeadline 54 = .ok (.iload 6, 2)) ?_
      refine sm_iconst (pc := 56) G hb (by decide +kernel : decode cX7_leastDeadline 56 = .ok (.iconst (-1), 1)) (by decide) ?_
      refine sm_icmp_eq (pc := 57) (tgt := 74) G hb (by decide +kernel : decode cX7_leastDeadline 57 = .ok (.if_icmp .eq 17, 3)) (by decide) ?_ ?_
      · skip
        refine sm_mask ?_
        exact fX7_leastDeadline_s74 N G hb ho hy hR he hr hE K4 h4 K34 h34
      · skip
        refine sm_iload_n (pc := 60) G hb (by decide +kernel : decode cX7_leastDeadline 60 = .ok (.iload_n 1, 1)) rfl ?_
        refine sm_iconst (pc := 61) G hb (by decide +kernel : decode cX7_leastDeadline 61 = .ok (.iconst (-1), 1)) (by decide) ?_
        refine sm_icmp_eq (pc := 62) (tgt := 71) G hb (by decide +kernel : decode cX7_leastDeadline 62 = .ok (.if_icmp .eq 9, 3)) (by decide) ?_ ?_
        · skip
          refine sm_mask ?_
          exact fX7_leastDeadline_s71 N G hb ho hy hR he hr hE K4 h4 K34 h34
        · skip
          refine sm_iload (pc := 65) G hb (by decide +kernel : decode cX7_leastDeadline 65 = .ok (.iload 6, 2)) ?_
          refine sm_iload_n (pc := 67) G hb (by decide +kernel : decode cX7_leastDeadline 67 = .ok (.iload_n 1, 1)) rfl ?_
          refine sm_icmp_ge (pc := 68) (tgt := 74) G hb (by decide +kernel : decode cX7_leastDeadline 68 = .ok (.if_icmp .ge 6, 3)) (by decide) ?_ ?_
          · skip
            refine sm_mask ?_
            exact fX7_leastDeadline_s74 N G hb ho hy hR he hr hE K4 h4 K34 h34
          · skip
            refine sm_mask ?_
            exact fX7_leastDeadline_s71 N G hb ho hy hR he hr hE K4 h4 K34 h34
set_option maxRecDepth 100000 in
set_option maxHeartbeats 4000000 in
theorem fX7_leastDeadline_s4 {γ : gG} {cs ss : Nat} {ε : gE5} (N : Nat) (G : gOK γ) (hb : gcc γ = cX7_leastDeadline) (ho : gow γ = RX7) (hy : gly γ = gyS) (hR : grm γ = { frames := 2, cells := 0, slots := 0, locals := 44 }) (he : genv γ = ε) (hr : grt γ = (some .int)) (hE : gEnv ε) : gSm γ cs ss 4 (fX7_leastDeadline_k4 N) := by
  unfold fX7_leastDeadline_k4
  refine sm_lp (fun K4 h4 => ?_) N
  unfold fX7_leastDeadline_b4
  refine sm_iload_n (pc := 4) G hb (by decide +kernel : decode cX7_leastDeadline 4 = .ok (.iload_n 2, 1)) rfl ?_
  refine sm_bipush (pc := 5) G hb (by decide +kernel : decode cX7_leastDeadline 5 = .ok (.bipush 100, 2)) (by decide) ?_
  refine sm_icmp_ge (pc := 7) (tgt := 98) G hb (by decide +kernel : decode cX7_leastDeadline 7 = .ok (.if_icmp .ge 91, 3)) (by decide) ?_ ?_
  · skip
    refine sm_iload_n (pc := 98) G hb (by decide +kernel : decode cX7_leastDeadline 98 = .ok (.iload_n 1, 1)) rfl ?_
    exact sm_iret (pc := 99) G hb (by decide +kernel : decode cX7_leastDeadline 99 = .ok (.ireturn, 1)) hr
  · skip
    refine sm_aload_n (pc := 10) G hb (by decide +kernel : decode cX7_leastDeadline 10 = .ok (.aload_n 0, 1)) rfl ?_
    refine sm_get (pc := 11) (ci := 7) (j := 1) (N := 4) (T := TX7) G hb ho hy rfl (by decide) gin_7 gw1_183 (by decide +kernel : decode cX7_leastDeadline 11 = .ok (.getfield 21, 3)) ?_
    refine sm_get (pc := 14) (ci := 4) (j := 2) (N := 12) (T := TX4) G hb ho hy rfl (by decide) gin_4 gw1_125 (by decide +kernel : decode cX7_leastDeadline 14 = .ok (.getfield 57, 3)) ?_
    refine sm_iload_n (pc := 17) G hb (by decide +kernel : decode cX7_leastDeadline 17 = .ok (.iload_n 2, 1)) rfl ?_
    refine sm_iald (pc := 18) G hb hy (by decide +kernel : decode cX7_leastDeadline 18 = .ok (.iaload, 1)) ?_
    refine sm_istore_n (pc := 19) G hb (by decide +kernel : decode cX7_leastDeadline 19 = .ok (.istore_n 3, 1)) rfl ?_
    refine sm_aload_n (pc := 20) G hb (by decide +kernel : decode cX7_leastDeadline 20 = .ok (.aload_n 0, 1)) rfl ?_
    refine sm_get (pc := 21) (ci := 7) (j := 1) (N := 4) (T := TX7) G hb ho hy rfl (by decide) gin_7 gw1_183 (by decide +kernel : decode cX7_leastDeadline 21 = .ok (.getfield 21, 3)) ?_
    refine sm_get (pc := 24) (ci := 4) (j := 0) (N := 12) (T := TX4) G hb ho hy rfl (by decide) gin_4 gw1_121 (by decide +kernel : decode cX7_leastDeadline 24 = .ok (.getfield 74, 3)) ?_
    refine sm_iload_n (pc := 27) G hb (by decide +kernel : decode cX7_leastDeadline 27 = .ok (.iload_n 2, 1)) rfl ?_
    refine sm_iald (pc := 28) G hb hy (by decide +kernel : decode cX7_leastDeadline 28 = .ok (.iaload, 1)) ?_
    refine sm_istore (pc := 29) G hb (by decide +kernel : decode cX7_leastDeadline 29 = .ok (.istore 4, 2)) ?_
    refine sm_iconst (pc := 31) G hb (by decide +kernel : decode cX7_leastDeadline 31 = .ok (.iconst 0, 1)) (by decide) ?_
    refine sm_istore (pc := 32) G hb (by decide +kernel : decode cX7_leastDeadline 32 = .ok (.istore 5, 2)) ?_
    refine sm_mask ?_
    exact fX7_leastDeadline_s34 N G hb ho hy hR he hr hE K4 h4
set_option maxRecDepth 100000 in
set_option maxHeartbeats 4000000 in
theorem fX7_leastDeadline_s0 {γ : gG} {cs ss : Nat} {ε : gE5} (N : Nat) (G : gOK γ) (hb : gcc γ = cX7_leastDeadline) (ho : gow γ = RX7) (hy : gly γ = gyS) (hR : grm γ = { frames := 2, cells := 0, slots := 0, locals := 44 }) (he : genv γ = ε) (hr : grt γ = (some .int)) (hE : gEnv ε) : gSm γ cs ss 0 (fX7_leastDeadline_k0 N) := by
  unfold fX7_leastDeadline_k0
  refine sm_iconst (pc := 0) G hb (by decide +kernel : decode cX7_leastDeadline 0 = .ok (.iconst (-1), 1)) (by decide) ?_
  refine sm_istore_n (pc := 1) G hb (by decide +kernel : decode cX7_leastDeadline 1 = .ok (.istore_n 1, 1)) rfl ?_
  refine sm_iconst (pc := 2) G hb (by decide +kernel : decode cX7_leastDeadline 2 = .ok (.iconst 0, 1)) (by decide) ?_
  refine sm_istore_n (pc := 3) G hb (by decide +kernel : decode cX7_leastDeadline 3 = .ok (.istore_n 2, 1)) rfl ?_
  refine sm_mask ?_
  exact fX7_leastDeadline_s4 N G hb ho hy hR he hr hE
theorem kX7_leastDeadline {ε : gE5} (hE : gEnv ε) (N : Nat) : gCtr ε yX7_leastDeadline cX7_leastDeadline 7 (some .int) 2 44 gyS (fX7_leastDeadline N) :=
  gCtr_of hE.1 (by decide) (fun γ G hb ho hy hR he hr => fX7_leastDeadline_s0 N G hb ho hy hR he hr hE)

set_option maxRecDepth 100000 in
set_option maxHeartbeats 4000000 in
theorem fX7_expireIn_s120 {γ : gG} {cs ss : Nat} {ε : gE5} (N : Nat) (G : gOK γ) (hb : gcc γ = cX7_expireIn) (ho : gow γ = RX7) (hy : gly γ = gyS) (hR : grm γ = { frames := 2, cells := 0, slots := 0, locals := 44 }) (he : genv γ = ε) (hr : grt γ = none) (hE : gEnv ε) (K26 : gK) (h26 : gSm γ cs ss 26 K26) : gSm γ cs ss 120 (fX7_expireIn_k120 N K26) := by
  unfold fX7_expireIn_k120
  refine sm_iload (pc := 120) G hb (by decide +kernel : decode cX7_expireIn 120 = .ok (.iload 6, 2)) ?_
  refine sm_istore (pc := 122) G hb (by decide +kernel : decode cX7_expireIn 122 = .ok (.istore 4, 2)) ?_
  refine sm_iinc (pc := 124) G hb (by decide +kernel : decode cX7_expireIn 124 = .ok (.iinc 5 1, 3)) (by decide) ?_
  refine sm_goto (pc := 127) (tgt := 26) G hb (by decide +kernel : decode cX7_expireIn 127 = .ok (.goto (-101), 3)) (by decide) ?_
  refine sm_mask ?_
  exact h26
set_option maxRecDepth 100000 in
set_option maxHeartbeats 4000000 in
theorem fX7_expireIn_s117 {γ : gG} {cs ss : Nat} {ε : gE5} (N : Nat) (G : gOK γ) (hb : gcc γ = cX7_expireIn) (ho : gow γ = RX7) (hy : gly γ = gyS) (hR : grm γ = { frames := 2, cells := 0, slots := 0, locals := 44 }) (he : genv γ = ε) (hr : grt γ = none) (hE : gEnv ε) (K26 : gK) (h26 : gSm γ cs ss 26 K26) : gSm γ cs ss 117 (fX7_expireIn_k117 N K26) := by
  unfold fX7_expireIn_k117
  refine sm_iload (pc := 117) G hb (by decide +kernel : decode cX7_expireIn 117 = .ok (.iload 4, 2)) ?_
  refine sm_istore_n (pc := 119) G hb (by decide +kernel : decode cX7_expireIn 119 = .ok (.istore_n 3, 1)) rfl ?_
  refine sm_mask ?_
  exact fX7_expireIn_s120 N G hb ho hy hR he hr hE K26 h26
set_option maxRecDepth 100000 in
set_option maxHeartbeats 4000000 in
theorem fX7_expireIn_s105 {γ : gG} {cs ss : Nat} {ε : gE5} (N : Nat) (G : gOK γ) (hb : gcc γ = cX7_expireIn) (ho : gow γ = RX7) (hy : gly γ = gyS) (hR : grm γ = { frames := 2, cells := 0, slots := 0, locals := 44 }) (he : genv γ = ε) (hr : grt γ = none) (hE : gEnv ε) (K26 : gK) (h26 : gSm γ cs ss 26 K26) : gSm γ cs ss 105 (fX7_expireIn_k105 N K26) := by
  unfold fX7_expireIn_k105
  refine sm_aload_n (pc := 105) G hb (by decide +kernel : decode cX7_expireIn 105 = .ok (.aload_n 0, 1)) rfl ?_
  refine sm_get (pc := 106) (ci := 7) (j := 1) (N := 4) (T := TX7) G hb ho hy rfl (by decide) gin_7 gw1_183 (by decide +kernel : decode cX7_expireIn 106 = .ok (.getfield 21, 3)) ?_
  refine sm_iload (pc := 109) G hb (by decide +kernel : decode cX7_expireIn 109 = .ok (.iload 4, 2)) ?_
  refine sm_mono (cav_sub gV_sub) (sm_callV (pc := 111) (N := 12) (T := TX4) (C := RX4) G hb ho hy he hE.1 2 [10, 11, 12, 13, 14, 15, 16, 17, 18, 19] (kX4_release hE N) (gCo_of (by decide +kernel)) (by rw [hR]; exact ⟨by decide, by decide⟩) rfl rfl (by decide +kernel) gw4_118 gw4_119 gw4_120 gw1_4 gw4_121 (by decide +kernel : decode cX7_expireIn 111 = .ok (.invokevirtual 67, 3)) ?_)
  refine sm_goto (pc := 114) (tgt := 120) G hb (by decide +kernel : decode cX7_expireIn 114 = .ok (.goto 6, 3)) (by decide) ?_
  refine sm_mask ?_
  exact fX7_expireIn_s120 N G hb ho hy hR he hr hE K26 h26
set_option maxRecDepth 100000 in
set_option maxHeartbeats 4000000 in
theorem fX7_expireIn_s26 {γ : gG} {cs ss : Nat} {ε : gE5} (N : Nat) (G : gOK γ) (hb : gcc γ = cX7_expireIn) (ho : gow γ = RX7) (hy : gly γ = gyS) (hR : grm γ = { frames := 2, cells := 0, slots := 0, locals := 44 }) (he : genv γ = ε) (hr : grt γ = none) (hE : gEnv ε) : gSm γ cs ss 26 (fX7_expireIn_k26 N) := by
  unfold fX7_expireIn_k26
  refine sm_lp (fun K26 h26 => ?_) N
  unfold fX7_expireIn_b26
  refine sm_iload (pc := 26) G hb (by decide +kernel : decode cX7_expireIn 26 = .ok (.iload 5, 2)) ?_
  refine sm_iload_n (pc := 28) G hb (by decide +kernel : decode cX7_expireIn 28 = .ok (.iload_n 2, 1)) rfl ?_
  refine sm_icmp_ge (pc := 29) (tgt := 130) G hb (by decide +kernel : decode cX7_expireIn 29 = .ok (.if_icmp .ge 101, 3)) (by decide) ?_ ?_
  · skip
    exact sm_vret (pc := 130) G hb (by decide +kernel : decode cX7_expireIn 130 = .ok (.return_, 1)) hr
  · skip
    refine sm_iload (pc := 32) G hb (by decide +kernel : decode cX7_expireIn 32 = .ok (.iload 4, 2)) ?_
    refine sm_iconst (pc := 34) G hb (by decide +kernel : decode cX7_expireIn 34 = .ok (.iconst (-1), 1)) (by decide) ?_
    refine sm_icmp_eq (pc := 35) (tgt := 130) G hb (by decide +kernel : decode cX7_expireIn 35 = .ok (.if_icmp .eq 95, 3)) (by decide) ?_ ?_
    · skip
      exact sm_vret (pc := 130) G hb (by decide +kernel : decode cX7_expireIn 130 = .ok (.return_, 1)) hr
    · skip
      refine sm_aload_n (pc := 38) G hb (by decide +kernel : decode cX7_expireIn 38 = .ok (.aload_n 0, 1)) rfl ?_
      refine sm_get (pc := 39) (ci := 7) (j := 1) (N := 4) (T := TX7) G hb ho hy rfl (by decide) gin_7 gw1_183 (by decide +kernel : decode cX7_expireIn 39 = .ok (.getfield 21, 3)) ?_
      refine sm_get (pc := 42) (ci := 4) (j := 4) (N := 12) (T := TX4) G hb ho hy rfl (by decide) gin_4 gw1_133 (by decide +kernel : decode cX7_expireIn 42 = .ok (.getfield 81, 3)) ?_
      refine sm_iload (pc := 45) G hb (by decide +kernel : decode cX7_expireIn 45 = .ok (.iload 4, 2)) ?_
      refine sm_iald (pc := 47) G hb hy (by decide +kernel : decode cX7_expireIn 47 = .ok (.iaload, 1)) ?_
      refine sm_istore (pc := 48) G hb (by decide +kernel : decode cX7_expireIn 48 = .ok (.istore 6, 2)) ?_
      refine sm_aload_n (pc := 50) G hb (by decide +kernel : decode cX7_expireIn 50 = .ok (.aload_n 0, 1)) rfl ?_
      refine sm_iload (pc := 51) G hb (by decide +kernel : decode cX7_expireIn 51 = .ok (.iload 4, 2)) ?_
      refine sm_mono (cav_sub gI_sub) (sm_callV (pc := 53) (N := 4) (T := TX7) (C := RX7) G hb ho hy he hE.1 2 [0, 1, 2, 3, 4, 5, 6, 7, 8, 9, 10, 11, 12, 13, 14, 15, 16, 17, 18, 19] (kX7_deadline hE N) (gCo_of (by decide +kernel)) (by rw [hR]; exact ⟨by decide, by decide⟩) rfl rfl (by decide +kernel) gw4_209 gw4_211 gw0_29 gw1_2 gw4_212 (by decide +kernel : decode cX7_expireIn 53 = .ok (.invokevirtual 77, 3)) ?_)
      refine sm_istore (pc := 56) G hb (by decide +kernel : decode cX7_expireIn 56 = .ok (.istore 7, 2)) ?_
      refine sm_iload (pc := 58) G hb (by decide +kernel : decode cX7_expireIn 58 = .ok (.iload 7, 2)) ?_
      refine sm_iconst (pc := 60) G hb (by decide +kernel : decode cX7_expireIn 60 = .ok (.iconst (-1), 1)) (by decide) ?_
      refine sm_icmp_eq (pc := 61) (tgt := 117) G hb (by decide +kernel : decode cX7_expireIn 61 = .ok (.if_icmp .eq 56, 3)) (by decide) ?_ ?_
      · skip
        refine sm_mask ?_
        exact fX7_expireIn_s117 N G hb ho hy hR he hr hE K26 h26
      · skip
        refine sm_aload_n (pc := 64) G hb (by decide +kernel : decode cX7_expireIn 64 = .ok (.aload_n 0, 1)) rfl ?_
        refine sm_get (pc := 65) (ci := 7) (j := 2) (N := 4) (T := TX7) G hb ho hy rfl (by decide) gin_7 gw1_187 (by decide +kernel : decode cX7_expireIn 65 = .ok (.getfield 32, 3)) ?_
        refine sm_iconst (pc := 68) G hb (by decide +kernel : decode cX7_expireIn 68 = .ok (.iconst 1, 1)) (by decide) ?_
        refine sm_iadd (pc := 69) G hb (by decide +kernel : decode cX7_expireIn 69 = .ok (.iadd, 1)) ?_
        refine sm_iload (pc := 70) G hb (by decide +kernel : decode cX7_expireIn 70 = .ok (.iload 7, 2)) ?_
        refine sm_icmp_lt (pc := 72) (tgt := 117) G hb (by decide +kernel : decode cX7_expireIn 72 = .ok (.if_icmp .lt 45, 3)) (by decide) ?_ ?_
        · skip
          refine sm_mask ?_
          exact fX7_expireIn_s117 N G hb ho hy hR he hr hE K26 h26
        · skip
          refine sm_aload_n (pc := 75) G hb (by decide +kernel : decode cX7_expireIn 75 = .ok (.aload_n 0, 1)) rfl ?_
          refine sm_get (pc := 76) (ci := 7) (j := 1) (N := 4) (T := TX7) G hb ho hy rfl (by decide) gin_7 gw1_183 (by decide +kernel : decode cX7_expireIn 76 = .ok (.getfield 21, 3)) ?_
          refine sm_iload_n (pc := 79) G hb (by decide +kernel : decode cX7_expireIn 79 = .ok (.iload_n 1, 1)) rfl ?_
          refine sm_iload_n (pc := 80) G hb (by decide +kernel : decode cX7_expireIn 80 = .ok (.iload_n 3, 1)) rfl ?_
          refine sm_mono (cav_sub gI_sub) (sm_callV (pc := 81) (N := 12) (T := TX4) (C := RX4) G hb ho hy he hE.1 3 [10, 11, 12, 13, 14, 15, 16, 17, 18, 19] (kX4_takeBehind hE N) (gCo_of (by decide +kernel)) (by rw [hR]; exact ⟨by decide, by decide⟩) rfl rfl (by decide +kernel) gw4_114 gw4_115 gw4_116 gw1_4 gw4_117 (by decide +kernel : decode cX7_expireIn 81 = .ok (.invokevirtual 61, 3)) ?_)
          refine sm_pop (pc := 84) G hb (by decide +kernel : decode cX7_expireIn 84 = .ok (.pop, 1)) ?_
          refine sm_aload_n (pc := 85) G hb (by decide +kernel : decode cX7_expireIn 85 = .ok (.aload_n 0, 1)) rfl ?_
          refine sm_get (pc := 86) (ci := 7) (j := 0) (N := 4) (T := TX7) G hb ho hy rfl (by decide) gin_7 gw1_179 (by decide +kernel : decode cX7_expireIn 86 = .ok (.getfield 12, 3)) ?_
          refine sm_aload_n (pc := 89) G hb (by decide +kernel : decode cX7_expireIn 89 = .ok (.aload_n 0, 1)) rfl ?_
          refine sm_get (pc := 90) (ci := 7) (j := 1) (N := 4) (T := TX7) G hb ho hy rfl (by decide) gin_7 gw1_183 (by decide +kernel : decode cX7_expireIn 90 = .ok (.getfield 21, 3)) ?_
          refine sm_get (pc := 93) (ci := 4) (j := 5) (N := 12) (T := TX4) G hb ho hy rfl (by decide) gin_4 gw1_135 (by decide +kernel : decode cX7_expireIn 93 = .ok (.getfield 64, 3)) ?_
          refine sm_iload (pc := 96) G hb (by decide +kernel : decode cX7_expireIn 96 = .ok (.iload 4, 2)) ?_
          refine sm_iald (pc := 98) G hb hy (by decide +kernel : decode cX7_expireIn 98 = .ok (.iaload, 1)) ?_
          refine sm_bipush (pc := 99) G hb (by decide +kernel : decode cX7_expireIn 99 = .ok (.bipush 7, 2)) (by decide) ?_
          refine sm_iconst (pc := 101) G hb (by decide +kernel : decode cX7_expireIn 101 = .ok (.iconst 1, 1)) (by decide) ?_
          refine sm_mono (cav_sub gV_sub) (sm_callV (pc := 102) (N := 11) (T := TX2) (C := RX2) G hb ho hy he hE.1 4 [1, 2, 3, 4, 5, 6, 7, 8, 9] (kX2_addNumber hE N) (gCo_of (by decide +kernel)) (by rw [hR]; exact ⟨by decide, by decide⟩) rfl rfl (by decide +kernel) gw4_98 gw4_99 gw4_100 gw1_3 gw4_101 (by decide +kernel : decode cX7_expireIn 102 = .ok (.invokevirtual 53, 3)) ?_)
          refine sm_mask ?_
          exact fX7_expireIn_s105 N G hb ho hy hR he hr hE K26 h26
set_option maxRecDepth 100000 in
set_option maxHeartbeats 4000000 in
theorem fX7_expireIn_s0 {γ : gG} {cs ss : Nat} {ε : gE5} (N : Nat) (G : gOK γ) (hb : gcc γ = cX7_expireIn) (ho : gow γ = RX7) (hy : gly γ = gyS) (hR : grm γ = { frames := 2, cells := 0, slots := 0, locals := 44 }) (he : genv γ = ε) (hr : grt γ = none) (hE : gEnv ε) : gSm γ cs ss 0 (fX7_expireIn_k0 N) := by
  unfold fX7_expireIn_k0
  refine sm_aload_n (pc := 0) G hb (by decide +kernel : decode cX7_expireIn 0 = .ok (.aload_n 0, 1)) rfl ?_
  refine sm_get (pc := 1) (ci := 7) (j := 1) (N := 4) (T := TX7) G hb ho hy rfl (by decide) gin_7 gw1_183 (by decide +kernel : decode cX7_expireIn 1 = .ok (.getfield 21, 3)) ?_
  refine sm_get (pc := 4) (ci := 4) (j := 2) (N := 12) (T := TX4) G hb ho hy rfl (by decide) gin_4 gw1_125 (by decide +kernel : decode cX7_expireIn 4 = .ok (.getfield 57, 3)) ?_
  refine sm_iload_n (pc := 7) G hb (by decide +kernel : decode cX7_expireIn 7 = .ok (.iload_n 1, 1)) rfl ?_
  refine sm_iald (pc := 8) G hb hy (by decide +kernel : decode cX7_expireIn 8 = .ok (.iaload, 1)) ?_
  refine sm_istore_n (pc := 9) G hb (by decide +kernel : decode cX7_expireIn 9 = .ok (.istore_n 2, 1)) rfl ?_
  refine sm_iconst (pc := 10) G hb (by decide +kernel : decode cX7_expireIn 10 = .ok (.iconst (-1), 1)) (by decide) ?_
  refine sm_istore_n (pc := 11) G hb (by decide +kernel : decode cX7_expireIn 11 = .ok (.istore_n 3, 1)) rfl ?_
  refine sm_aload_n (pc := 12) G hb (by decide +kernel : decode cX7_expireIn 12 = .ok (.aload_n 0, 1)) rfl ?_
  refine sm_get (pc := 13) (ci := 7) (j := 1) (N := 4) (T := TX7) G hb ho hy rfl (by decide) gin_7 gw1_183 (by decide +kernel : decode cX7_expireIn 13 = .ok (.getfield 21, 3)) ?_
  refine sm_get (pc := 16) (ci := 4) (j := 0) (N := 12) (T := TX4) G hb ho hy rfl (by decide) gin_4 gw1_121 (by decide +kernel : decode cX7_expireIn 16 = .ok (.getfield 74, 3)) ?_
  refine sm_iload_n (pc := 19) G hb (by decide +kernel : decode cX7_expireIn 19 = .ok (.iload_n 1, 1)) rfl ?_
  refine sm_iald (pc := 20) G hb hy (by decide +kernel : decode cX7_expireIn 20 = .ok (.iaload, 1)) ?_
  refine sm_istore (pc := 21) G hb (by decide +kernel : decode cX7_expireIn 21 = .ok (.istore 4, 2)) ?_
  refine sm_iconst (pc := 23) G hb (by decide +kernel : decode cX7_expireIn 23 = .ok (.iconst 0, 1)) (by decide) ?_
  refine sm_istore (pc := 24) G hb (by decide +kernel : decode cX7_expireIn 24 = .ok (.istore 5, 2)) ?_
  refine sm_mask ?_
  exact fX7_expireIn_s26 N G hb ho hy hR he hr hE
theorem kX7_expireIn {ε : gE5} (hE : gEnv ε) (N : Nat) : gCtr ε yX7_expireIn cX7_expireIn 8 none 2 44 gyS (fX7_expireIn N) :=
  gCtr_of hE.1 (by decide) (fun γ G hb ho hy hR he hr => fX7_expireIn_s0 N G hb ho hy hR he hr hE)

set_option maxRecDepth 100000 in
set_option maxHeartbeats 4000000 in
theorem fX7_expireAll_s46 {γ : gG} {cs ss : Nat} {ε : gE5} (N : Nat) (G : gOK γ) (hb : gcc γ = cX7_expireAll) (ho : gow γ = RX7) (hy : gly γ = gyS) (hR : grm γ = { frames := 3, cells := 0, slots := 0, locals := 71 }) (he : genv γ = ε) (hr : grt γ = none) (hE : gEnv ε) (K23 : gK) (h23 : gSm γ cs ss 23 K23) : gSm γ cs ss 46 (fX7_expireAll_k46 N K23) := by
  unfold fX7_expireAll_k46
  refine sm_iinc (pc := 46) G hb (by decide +kernel : decode cX7_expireAll 46 = .ok (.iinc 1 1, 3)) (by decide) ?_
  refine sm_goto (pc := 49) (tgt := 23) G hb (by decide +kernel : decode cX7_expireAll 49 = .ok (.goto (-26), 3)) (by decide) ?_
  refine sm_mask ?_
  exact h23
set_option maxRecDepth 100000 in
set_option maxHeartbeats 4000000 in
theorem fX7_expireAll_s23 {γ : gG} {cs ss : Nat} {ε : gE5} (N : Nat) (G : gOK γ) (hb : gcc γ = cX7_expireAll) (ho : gow γ = RX7) (hy : gly γ = gyS) (hR : grm γ = { frames := 3, cells := 0, slots := 0, locals := 71 }) (he : genv γ = ε) (hr : grt γ = none) (hE : gEnv ε) : gSm γ cs ss 23 (fX7_expireAll_k23 N) := by
  unfold fX7_expireAll_k23
  refine sm_lp (fun K23 h23 => ?_) N
  unfold fX7_expireAll_b23
  refine sm_iload_n (pc := 23) G hb (by decide +kernel : decode cX7_expireAll 23 = .ok (.iload_n 1, 1)) rfl ?_
  refine sm_bipush (pc := 24) G hb (by decide +kernel : decode cX7_expireAll 24 = .ok (.bipush 100, 2)) (by decide) ?_
  refine sm_icmp_ge (pc := 26) (tgt := 52) G hb (by decide +kernel : decode cX7_expireAll 26 = .ok (.if_icmp .ge 26, 3)) (by decide) ?_ ?_
  · skip
    exact sm_vret (pc := 52) G hb (by decide +kernel : decode cX7_expireAll 52 = .ok (.return_, 1)) hr
  · skip
    refine sm_aload_n (pc := 29) G hb (by decide +kernel : decode cX7_expireAll 29 = .ok (.aload_n 0, 1)) rfl ?_
    refine sm_get (pc := 30) (ci := 7) (j := 1) (N := 4) (T := TX7) G hb ho hy rfl (by decide) gin_7 gw1_183 (by decide +kernel : decode cX7_expireAll 30 = .ok (.getfield 21, 3)) ?_
    refine sm_get (pc := 33) (ci := 4) (j := 2) (N := 12) (T := TX4) G hb ho hy rfl (by decide) gin_4 gw1_125 (by decide +kernel : decode cX7_expireAll 33 = .ok (.getfield 57, 3)) ?_
    refine sm_iload_n (pc := 36) G hb (by decide +kernel : decode cX7_expireAll 36 = .ok (.iload_n 1, 1)) rfl ?_
    refine sm_iald (pc := 37) G hb hy (by decide +kernel : decode cX7_expireAll 37 = .ok (.iaload, 1)) ?_
    refine sm_if_le (pc := 38) (tgt := 46) G hb (by decide +kernel : decode cX7_expireAll 38 = .ok (.ifCond .le 8, 3)) (by decide) ?_ ?_
    · skip
      refine sm_mask ?_
      exact fX7_expireAll_s46 N G hb ho hy hR he hr hE K23 h23
    · skip
      refine sm_aload_n (pc := 41) G hb (by decide +kernel : decode cX7_expireAll 41 = .ok (.aload_n 0, 1)) rfl ?_
      refine sm_iload_n (pc := 42) G hb (by decide +kernel : decode cX7_expireAll 42 = .ok (.iload_n 1, 1)) rfl ?_
      refine sm_mono (cav_sub gV_sub) (sm_callV (pc := 43) (N := 4) (T := TX7) (C := RX7) G hb ho hy he hE.1 2 [0, 1, 2, 3, 4, 5, 6, 7, 8, 9, 10, 11, 12, 13, 14, 15, 16, 17, 18, 19] (kX7_expireIn hE N) (gCo_of (by decide +kernel)) (by rw [hR]; exact ⟨by decide, by decide⟩) rfl rfl (by decide +kernel) gw4_205 gw4_207 gw0_28 gw1_2 gw4_208 (by decide +kernel : decode cX7_expireAll 43 = .ok (.invokevirtual 91, 3)) ?_)
      refine sm_mask ?_
      exact fX7_expireAll_s46 N G hb ho hy hR he hr hE K23 h23
set_option maxRecDepth 100000 in
set_option maxHeartbeats 4000000 in
theorem fX7_expireAll_s0 {γ : gG} {cs ss : Nat} {ε : gE5} (N : Nat) (G : gOK γ) (hb : gcc γ = cX7_expireAll) (ho : gow γ = RX7) (hy : gly γ = gyS) (hR : grm γ = { frames := 3, cells := 0, slots := 0, locals := 71 }) (he : genv γ = ε) (hr : grt γ = none) (hE : gEnv ε) : gSm γ cs ss 0 (fX7_expireAll_k0 N) := by
  unfold fX7_expireAll_k0
  refine sm_aload_n (pc := 0) G hb (by decide +kernel : decode cX7_expireAll 0 = .ok (.aload_n 0, 1)) rfl ?_
  refine sm_get (pc := 1) (ci := 7) (j := 1) (N := 4) (T := TX7) G hb ho hy rfl (by decide) gin_7 gw1_183 (by decide +kernel : decode cX7_expireAll 1 = .ok (.getfield 21, 3)) ?_
  refine sm_get (pc := 4) (ci := 4) (j := 11) (N := 12) (T := TX4) G hb ho hy rfl (by decide) gin_4 gw1_152 (by decide +kernel : decode cX7_expireAll 4 = .ok (.getfield 84, 3)) ?_
  refine sm_if_eq (pc := 7) (tgt := 20) G hb (by decide +kernel : decode cX7_expireAll 7 = .ok (.ifCond .eq 13, 3)) (by decide) ?_ ?_
  · skip
    exact sm_vret (pc := 20) G hb (by decide +kernel : decode cX7_expireAll 20 = .ok (.return_, 1)) hr
  · skip
    refine sm_aload_n (pc := 10) G hb (by decide +kernel : decode cX7_expireAll 10 = .ok (.aload_n 0, 1)) rfl ?_
    refine sm_get (pc := 11) (ci := 7) (j := 0) (N := 4) (T := TX7) G hb ho hy rfl (by decide) gin_7 gw1_179 (by decide +kernel : decode cX7_expireAll 11 = .ok (.getfield 12, 3)) ?_
    refine sm_mono (cav_sub gI_sub) (sm_callV (pc := 14) (N := 11) (T := TX2) (C := RX2) G hb ho hy he hE.1 1 [1, 2, 3, 4, 5, 6, 7, 8, 9] (kX2_hasBudget hE N) (gCo_of (by decide +kernel)) (by rw [hR]; exact ⟨by decide, by decide⟩) rfl rfl (by decide +kernel) gw4_200 gw4_201 gw4_202 gw1_3 gw4_203 (by decide +kernel : decode cX7_expireAll 14 = .ok (.invokevirtual 87, 3)) ?_)
    refine sm_if_ne (pc := 17) (tgt := 21) G hb (by decide +kernel : decode cX7_expireAll 17 = .ok (.ifCond .ne 4, 3)) (by decide) ?_ ?_
    · skip
      refine sm_iconst (pc := 21) G hb (by decide +kernel : decode cX7_expireAll 21 = .ok (.iconst 0, 1)) (by decide) ?_
      refine sm_istore_n (pc := 22) G hb (by decide +kernel : decode cX7_expireAll 22 = .ok (.istore_n 1, 1)) rfl ?_
      refine sm_mask ?_
      exact fX7_expireAll_s23 N G hb ho hy hR he hr hE
    · skip
      exact sm_vret (pc := 20) G hb (by decide +kernel : decode cX7_expireAll 20 = .ok (.return_, 1)) hr
theorem kX7_expireAll {ε : gE5} (hE : gEnv ε) (N : Nat) : gCtr ε yX7_expireAll cX7_expireAll 2 none 3 71 gyS (fX7_expireAll N) :=
  gCtr_of hE.1 (by decide) (fun γ G hb ho hy hR he hr => fX7_expireAll_s0 N G hb ho hy hR he hr hE)
