set_option maxRecDepth 100000 in
set_option maxHeartbeats 4000000 in
theorem fX8_schedule_s0 {γ : gG} {cs ss : Nat} {ε : gE5} (N : Nat) (G : gOK γ) (hb : gcc γ = cX8_schedule) (ho : gow γ = RX8) (hy : gly γ = gyX) (hR : grm γ = { frames := 19, cells := 1, slots := 6, locals := 506 }) (he : genv γ = ε) (hr : grt γ = (some .int)) (hE : gEnv ε) (hc9 : cs + 1 ≤ 1 ∧ ss + 6 ≤ 6) : gSm γ cs ss 0 (fX8_schedule_k0 N) := by
  unfold fX8_schedule_k0
  refine sm_iload_n (pc := 0) G hb (by decide +kernel : decode cX8_schedule 0 = .ok (.iload_n 1, 1)) rfl ?_
  refine sm_iconst (pc := 1) G hb (by decide +kernel : decode cX8_schedule 1 = .ok (.iconst 0, 1)) (by decide) ?_
  refine sm_getsGS (pc := 2) G hb ho he hE gw4_76 (by decide +kernel : decode cX8_schedule 2 = .ok (.getstatic 162, 3)) ?_
  refine sm_iconst (pc := 5) G hb (by decide +kernel : decode cX8_schedule 5 = .ok (.iconst 3, 1)) (by decide) ?_
  refine sm_tld (pc := 6) G hb he hE (by decide +kernel : decode cX8_schedule 6 = .ok (.iaload, 1)) ?_
  refine sm_mono (xca_sub gXV_sub) (sm_xcallS (pc := 7) G hb ho hy he hE.1 3 [] (kX8_checkRange hE N) (gCo_of (by decide +kernel)) (by rw [hR]; exact ⟨by decide, by decide⟩) (by rw [hR]; exact ⟨by show _ ≤ 1; omega, by show _ ≤ 6; omega⟩) (by decide +kernel) gw3_184 gw3_185 gw1_1 gw3_186 (by decide +kernel : decode cX8_schedule 7 = .ok (.invokestatic 86, 3)) ?_)
  refine sm_aload_n (pc := 10) G hb (by decide +kernel : decode cX8_schedule 10 = .ok (.aload_n 0, 1)) rfl ?_
  refine sm_get (pc := 11) (ci := 8) (j := 5) (N := 8) (T := TX8) G hb ho hy rfl (by decide) gin_8 gw2_105 (by decide +kernel : decode cX8_schedule 11 = .ok (.getfield 39, 3)) ?_
  refine sm_get (pc := 14) (ci := 6) (j := 0) (N := 4) (T := TX6) G hb ho hy rfl (by decide) gin_6 gw2_40 (by decide +kernel : decode cX8_schedule 14 = .ok (.getfield 233, 3)) ?_
  refine sm_aload_n (pc := 17) G hb (by decide +kernel : decode cX8_schedule 17 = .ok (.aload_n 0, 1)) rfl ?_
  refine sm_get (pc := 18) (ci := 8) (j := 0) (N := 8) (T := TX8) G hb ho hy rfl (by decide) gin_8 gw2_100 (by decide +kernel : decode cX8_schedule 18 = .ok (.getfield 12, 3)) ?_
  refine sm_iload_n (pc := 21) G hb (by decide +kernel : decode cX8_schedule 21 = .ok (.iload_n 1, 1)) rfl ?_
  refine sm_mono (cav_sub gI_sub) (sm_callV (pc := 22) (N := 2) (T := TX3) (C := RX3) G hb ho hy he hE.1 3 [195, 196, 197, 1, 2, 3, 4, 5, 6, 7, 8, 9, 10, 11, 12, 13, 14, 15, 16, 17, 18, 19, 20] (kX3_choose hE N) (gCo_of (by decide +kernel)) (by rw [hR]; exact ⟨by decide, by decide⟩) rfl rfl (by decide +kernel) gw5_11 gw4_148 gw4_149 gw1_8 gw4_150 (by decide +kernel : decode cX8_schedule 22 = .ok (.invokevirtual 237, 3)) ?_)
  exact sm_iret (pc := 25) G hb (by decide +kernel : decode cX8_schedule 25 = .ok (.ireturn, 1)) hr
theorem kX8_schedule {ε : gE5} (hE : gEnv ε) (N : Nat) : gCtrX ε yX8_schedule cX8_schedule 2 (some .int) 19 506 1 6 gyX (fX8_schedule N) :=
  gCtrX_of hE.1 (by decide) (fun γ G hb ho hy hR he hr => fX8_schedule_s0 N G hb ho hy hR he hr hE (by omega))

set_option maxRecDepth 100000 in
set_option maxHeartbeats 4000000 in
theorem fX8_scheduleWeight_s0 {γ : gG} {cs ss : Nat} {ε : gE5} (N : Nat) (G : gOK γ) (hb : gcc γ = cX8_scheduleWeight) (ho : gow γ = RX8) (hy : gly γ = gyX) (hR : grm γ = { frames := 19, cells := 1, slots := 6, locals := 506 }) (he : genv γ = ε) (hr : grt γ = (some .int)) (hE : gEnv ε) (hc9 : cs + 1 ≤ 1 ∧ ss + 6 ≤ 6) : gSm γ cs ss 0 (fX8_scheduleWeight_k0 N) := by
  unfold fX8_scheduleWeight_k0
  refine sm_iload_n (pc := 0) G hb (by decide +kernel : decode cX8_scheduleWeight 0 = .ok (.iload_n 1, 1)) rfl ?_
  refine sm_iconst (pc := 1) G hb (by decide +kernel : decode cX8_scheduleWeight 1 = .ok (.iconst 0, 1)) (by decide) ?_
  refine sm_getsGS (pc := 2) G hb ho he hE gw4_76 (by decide +kernel : decode cX8_scheduleWeight 2 = .ok (.getstatic 162, 3)) ?_
  refine sm_iconst (pc := 5) G hb (by decide +kernel : decode cX8_scheduleWeight 5 = .ok (.iconst 3, 1)) (by decide) ?_
  refine sm_tld (pc := 6) G hb he hE (by decide +kernel : decode cX8_scheduleWeight 6 = .ok (.iaload, 1)) ?_
  refine sm_mono (xca_sub gXV_sub) (sm_xcallS (pc := 7) G hb ho hy he hE.1 3 [] (kX8_checkRange hE N) (gCo_of (by decide +kernel)) (by rw [hR]; exact ⟨by decide, by decide⟩) (by rw [hR]; exact ⟨by show _ ≤ 1; omega, by show _ ≤ 6; omega⟩) (by decide +kernel) gw3_184 gw3_185 gw1_1 gw3_186 (by decide +kernel : decode cX8_scheduleWeight 7 = .ok (.invokestatic 86, 3)) ?_)
  refine sm_aload_n (pc := 10) G hb (by decide +kernel : decode cX8_scheduleWeight 10 = .ok (.aload_n 0, 1)) rfl ?_
  refine sm_get (pc := 11) (ci := 8) (j := 5) (N := 8) (T := TX8) G hb ho hy rfl (by decide) gin_8 gw2_105 (by decide +kernel : decode cX8_scheduleWeight 11 = .ok (.getfield 39, 3)) ?_
  refine sm_get (pc := 14) (ci := 6) (j := 0) (N := 4) (T := TX6) G hb ho hy rfl (by decide) gin_6 gw2_40 (by decide +kernel : decode cX8_scheduleWeight 14 = .ok (.getfield 233, 3)) ?_
  refine sm_aload_n (pc := 17) G hb (by decide +kernel : decode cX8_scheduleWeight 17 = .ok (.aload_n 0, 1)) rfl ?_
  refine sm_get (pc := 18) (ci := 8) (j := 0) (N := 8) (T := TX8) G hb ho hy rfl (by decide) gin_8 gw2_100 (by decide +kernel : decode cX8_scheduleWeight 18 = .ok (.getfield 12, 3)) ?_
  refine sm_iload_n (pc := 21) G hb (by decide +kernel : decode cX8_scheduleWeight 21 = .ok (.iload_n 1, 1)) rfl ?_
  refine sm_mono (cav_sub gI_sub) (sm_callV (pc := 22) (N := 2) (T := TX3) (C := RX3) G hb ho hy he hE.1 3 [195, 196, 197, 1, 2, 3, 4, 5, 6, 7, 8, 9, 10, 11, 12, 13, 14, 15, 16, 17, 18, 19, 20] (kX3_choose hE N) (gCo_of (by decide +kernel)) (by rw [hR]; exact ⟨by decide, by decide⟩) rfl rfl (by decide +kernel) gw5_11 gw4_148 gw4_149 gw1_8 gw4_150 (by decide +kernel : decode cX8_scheduleWeight 22 = .ok (.invokevirtual 237, 3)) ?_)
  refine sm_aload_n (pc := 25) G hb (by decide +kernel : decode cX8_scheduleWeight 25 = .ok (.aload_n 0, 1)) rfl ?_
  refine sm_get (pc := 26) (ci := 8) (j := 5) (N := 8) (T := TX8) G hb ho hy rfl (by decide) gin_8 gw2_105 (by decide +kernel : decode cX8_scheduleWeight 26 = .ok (.getfield 39, 3)) ?_
  refine sm_get (pc := 29) (ci := 6) (j := 0) (N := 4) (T := TX6) G hb ho hy rfl (by decide) gin_6 gw2_40 (by decide +kernel : decode cX8_scheduleWeight 29 = .ok (.getfield 233, 3)) ?_
  refine sm_get (pc := 32) (ci := 3) (j := 1) (N := 2) (T := TX3) G hb ho hy rfl (by decide) gin_3 gw2_33 (by decide +kernel : decode cX8_scheduleWeight 32 = .ok (.getfield 246, 3)) ?_
  refine sm_mono (ca_sub gI_sub) (sm_callS (pc := 35) G hb ho hy he hE.1 2 [197] (kX3_sumOfWeights hE N) (gCo_of (by decide +kernel)) (by rw [hR]; exact ⟨by decide, by decide⟩) (by decide +kernel) gw5_153 gw4_167 gw1_8 gw4_168 (by decide +kernel : decode cX8_scheduleWeight 35 = .ok (.invokestatic 318, 3)) ?_)
  exact sm_iret (pc := 38) G hb (by decide +kernel : decode cX8_scheduleWeight 38 = .ok (.ireturn, 1)) hr
theorem kX8_scheduleWeight {ε : gE5} (hE : gEnv ε) (N : Nat) : gCtrX ε yX8_scheduleWeight cX8_scheduleWeight 2 (some .int) 19 506 1 6 gyX (fX8_scheduleWeight N) :=
  gCtrX_of hE.1 (by decide) (fun γ G hb ho hy hR he hr => fX8_scheduleWeight_s0 N G hb ho hy hR he hr hE (by omega))

set_option maxRecDepth 100000 in
set_option maxHeartbeats 4000000 in
theorem fX8_forecast_s24 {γ : gG} {cs ss : Nat} {ε : gE5} (N : Nat) (G : gOK γ) (hb : gcc γ = cX8_forecast) (ho : gow γ = RX8) (hy : gly γ = gyX) (hR : grm γ = { frames := 21, cells := 2, slots := 12, locals := 551 }) (he : genv γ = ε) (hr : grt γ = (some .long)) (hE : gEnv ε) (hc9 : cs + 0 ≤ 2 ∧ ss + 0 ≤ 12) : gSm γ cs ss 24 (fX8_forecast_k24 N) := by
  unfold fX8_forecast_k24
  refine sm_aload_n (pc := 24) G hb (by decide +kernel : decode cX8_forecast 24 = .ok (.aload_n 0, 1)) rfl ?_
  refine sm_get (pc := 25) (ci := 8) (j := 5) (N := 8) (T := TX8) G hb ho hy rfl (by decide) gin_8 gw2_105 (by decide +kernel : decode cX8_forecast 25 = .ok (.getfield 39, 3)) ?_
  refine sm_aload_n (pc := 28) G hb (by decide +kernel : decode cX8_forecast 28 = .ok (.aload_n 0, 1)) rfl ?_
  refine sm_get (pc := 29) (ci := 8) (j := 2) (N := 8) (T := TX8) G hb ho hy rfl (by decide) gin_8 gw2_102 (by decide +kernel : decode cX8_forecast 29 = .ok (.getfield 19, 3)) ?_
  refine sm_iload_n (pc := 32) G hb (by decide +kernel : decode cX8_forecast 32 = .ok (.iload_n 1, 1)) rfl ?_
  refine sm_mono (cav_sub gV_sub) (sm_callV (pc := 33) (N := 4) (T := TX6) (C := RX6) G hb ho hy he hE.1 3 [194, 195, 196, 197, 198, 199, 200, 41, 42, 43, 44, 45, 46, 47, 48, 49, 50, 51, 52, 53, 54, 55, 56, 57, 58, 59, 60] (kX6_passSlots hE N) (gCo_of (by decide +kernel)) (by rw [hR]; exact ⟨by decide, by decide⟩) rfl rfl (by decide +kernel) gw4_130 gw4_131 gw4_132 gw1_7 gw4_133 (by decide +kernel : decode cX8_forecast 33 = .ok (.invokevirtual 201, 3)) ?_)
  refine sm_aload_n (pc := 36) G hb (by decide +kernel : decode cX8_forecast 36 = .ok (.aload_n 0, 1)) rfl ?_
  refine sm_get (pc := 37) (ci := 8) (j := 2) (N := 8) (T := TX8) G hb ho hy rfl (by decide) gin_8 gw2_102 (by decide +kernel : decode cX8_forecast 37 = .ok (.getfield 19, 3)) ?_
  refine sm_iload_n (pc := 40) G hb (by decide +kernel : decode cX8_forecast 40 = .ok (.iload_n 2, 1)) rfl ?_
  refine sm_mono (ca_sub gJ_sub) (sm_callS (pc := 41) G hb ho hy he hE.1 2 [41, 42, 43, 44, 45, 46, 47, 48, 49, 50, 51, 52, 53, 54, 55, 56, 57, 58, 59, 60] (kX8_totalOf hE N) (gCo_of (by decide +kernel)) (by rw [hR]; exact ⟨by decide, by decide⟩) (by decide +kernel) gw5_101 gw5_102 gw1_1 gw5_103 (by decide +kernel : decode cX8_forecast 41 = .ok (.invokestatic 291, 3)) ?_)
  exact sm_lret (pc := 44) G hb (by decide +kernel : decode cX8_forecast 44 = .ok (.lreturn, 1)) hr
set_option maxRecDepth 100000 in
set_option maxHeartbeats 4000000 in
theorem fX8_forecast_s0 {γ : gG} {cs ss : Nat} {ε : gE5} (N : Nat) (G : gOK γ) (hb : gcc γ = cX8_forecast) (ho : gow γ = RX8) (hy : gly γ = gyX) (hR : grm γ = { frames := 21, cells := 2, slots := 12, locals := 551 }) (he : genv γ = ε) (hr : grt γ = (some .long)) (hE : gEnv ε) (hc9 : cs + 2 ≤ 2 ∧ ss + 12 ≤ 12) : gSm γ cs ss 0 (fX8_forecast_k0 N) := by
  unfold fX8_forecast_k0
  refine sm_iload_n (pc := 0) G hb (by decide +kernel : decode cX8_forecast 0 = .ok (.iload_n 1, 1)) rfl ?_
  refine sm_iconst (pc := 1) G hb (by decide +kernel : decode cX8_forecast 1 = .ok (.iconst 1, 1)) (by decide) ?_
  refine sm_bipush (pc := 2) G hb (by decide +kernel : decode cX8_forecast 2 = .ok (.bipush 50, 2)) (by decide) ?_
  refine sm_mono (xca_sub gXV_sub) (sm_xcallS (pc := 4) G hb ho hy he hE.1 3 [] (kX8_checkRange hE N) (gCo_of (by decide +kernel)) (by rw [hR]; exact ⟨by decide, by decide⟩) (by rw [hR]; exact ⟨by show _ ≤ 2; omega, by show _ ≤ 12; omega⟩) (by decide +kernel) gw3_184 gw3_185 gw1_1 gw3_186 (by decide +kernel : decode cX8_forecast 4 = .ok (.invokestatic 86, 3)) ?_)
  refine sm_iload_n (pc := 7) G hb (by decide +kernel : decode cX8_forecast 7 = .ok (.iload_n 2, 1)) rfl ?_
  refine sm_iconst (pc := 8) G hb (by decide +kernel : decode cX8_forecast 8 = .ok (.iconst 0, 1)) (by decide) ?_
  refine sm_iconst (pc := 9) G hb (by decide +kernel : decode cX8_forecast 9 = .ok (.iconst 5, 1)) (by decide) ?_
  refine sm_mono (xca_sub gXV_sub) (sm_xcallS (pc := 10) G hb ho hy he hE.1 3 [] (kX8_checkRange hE N) (gCo_of (by decide +kernel)) (by rw [hR]; exact ⟨by decide, by decide⟩) (by rw [hR]; exact ⟨by show _ ≤ 2; omega, by show _ ≤ 12; omega⟩) (by decide +kernel) gw3_184 gw3_185 gw1_1 gw3_186 (by decide +kernel : decode cX8_forecast 10 = .ok (.invokestatic 86, 3)) ?_)
  refine sm_aload_n (pc := 13) G hb (by decide +kernel : decode cX8_forecast 13 = .ok (.aload_n 0, 1)) rfl ?_
  refine sm_get (pc := 14) (ci := 8) (j := 2) (N := 8) (T := TX8) G hb ho hy rfl (by decide) gin_8 gw2_102 (by decide +kernel : decode cX8_forecast 14 = .ok (.getfield 19, 3)) ?_
  refine sm_aload_n (pc := 17) G hb (by decide +kernel : decode cX8_forecast 17 = .ok (.aload_n 0, 1)) rfl ?_
  refine sm_get (pc := 18) (ci := 8) (j := 0) (N := 8) (T := TX8) G hb ho hy rfl (by decide) gin_8 gw2_100 (by decide +kernel : decode cX8_forecast 18 = .ok (.getfield 12, 3)) ?_
  refine sm_mono (cav_sub gV_sub) (sm_callV (pc := 21) (N := 4) (T := TX7) (C := RX7) G hb ho hy he hE.1 2 [41, 42, 43, 44, 45, 46, 47, 48, 49, 50, 51, 52, 53, 54, 55, 56, 57, 58, 59, 60, 1, 2, 3, 4, 5, 6, 7, 8, 9, 10, 11, 12, 13, 14, 15, 16, 17, 18, 19, 20] (kX7_copyFrom hE N) (gCo_of (by decide +kernel)) (by rw [hR]; exact ⟨by decide, by decide⟩) rfl rfl (by decide +kernel) gw3_67 gw3_37 gw3_38 gw1_2 gw3_39 (by decide +kernel : decode cX8_forecast 21 = .ok (.invokevirtual 213, 3)) ?_)
  refine sm_mask ?_
  exact fX8_forecast_s24 N G hb ho hy hR he hr hE (by omega)
theorem kX8_forecast {ε : gE5} (hE : gEnv ε) (N : Nat) : gCtrX ε yX8_forecast cX8_forecast 3 (some .long) 21 551 2 12 gyX (fX8_forecast N) :=
  gCtrX_of hE.1 (by decide) (fun γ G hb ho hy hR he hr => fX8_forecast_s0 N G hb ho hy hR he hr hE (by omega))

set_option maxRecDepth 100000 in
set_option maxHeartbeats 4000000 in
theorem fX8_forecastFlow_s19 {γ : gG} {cs ss : Nat} {ε : gE5} (N : Nat) (G : gOK γ) (hb : gcc γ = cX8_forecastFlow) (ho : gow γ = RX8) (hy : gly γ = gyX) (hR : grm γ = { frames := 21, cells := 3, slots := 18, locals := 551 }) (he : genv γ = ε) (hr : grt γ = (some .int)) (hE : gEnv ε) (hc9 : cs + 0 ≤ 3 ∧ ss + 0 ≤ 18) : gSm γ cs ss 19 (fX8_forecastFlow_k19 N) := by
  unfold fX8_forecastFlow_k19
  refine sm_aload_n (pc := 19) G hb (by decide +kernel : decode cX8_forecastFlow 19 = .ok (.aload_n 0, 1)) rfl ?_
  refine sm_get (pc := 20) (ci := 8) (j := 2) (N := 8) (T := TX8) G hb ho hy rfl (by decide) gin_8 gw2_102 (by decide +kernel : decode cX8_forecastFlow 20 = .ok (.getfield 19, 3)) ?_
  refine sm_aload_n (pc := 23) G hb (by decide +kernel : decode cX8_forecastFlow 23 = .ok (.aload_n 0, 1)) rfl ?_
  refine sm_get (pc := 24) (ci := 8) (j := 0) (N := 8) (T := TX8) G hb ho hy rfl (by decide) gin_8 gw2_100 (by decide +kernel : decode cX8_forecastFlow 24 = .ok (.getfield 12, 3)) ?_
  refine sm_mono (cav_sub gV_sub) (sm_callV (pc := 27) (N := 4) (T := TX7) (C := RX7) G hb ho hy he hE.1 2 [41, 42, 43, 44, 45, 46, 47, 48, 49, 50, 51, 52, 53, 54, 55, 56, 57, 58, 59, 60, 1, 2, 3, 4, 5, 6, 7, 8, 9, 10, 11, 12, 13, 14, 15, 16, 17, 18, 19, 20] (kX7_copyFrom hE N) (gCo_of (by decide +kernel)) (by rw [hR]; exact ⟨by decide, by decide⟩) rfl rfl (by decide +kernel) gw3_67 gw3_37 gw3_38 gw1_2 gw3_39 (by decide +kernel : decode cX8_forecastFlow 27 = .ok (.invokevirtual 213, 3)) ?_)
  refine sm_aload_n (pc := 30) G hb (by decide +kernel : decode cX8_forecastFlow 30 = .ok (.aload_n 0, 1)) rfl ?_
  refine sm_get (pc := 31) (ci := 8) (j := 5) (N := 8) (T := TX8) G hb ho hy rfl (by decide) gin_8 gw2_105 (by decide +kernel : decode cX8_forecastFlow 31 = .ok (.getfield 39, 3)) ?_
  refine sm_aload_n (pc := 34) G hb (by decide +kernel : decode cX8_forecastFlow 34 = .ok (.aload_n 0, 1)) rfl ?_
  refine sm_get (pc := 35) (ci := 8) (j := 2) (N := 8) (T := TX8) G hb ho hy rfl (by decide) gin_8 gw2_102 (by decide +kernel : decode cX8_forecastFlow 35 = .ok (.getfield 19, 3)) ?_
  refine sm_iload_n (pc := 38) G hb (by decide +kernel : decode cX8_forecastFlow 38 = .ok (.iload_n 2, 1)) rfl ?_
  refine sm_mono (cav_sub gV_sub) (sm_callV (pc := 39) (N := 4) (T := TX6) (C := RX6) G hb ho hy he hE.1 3 [194, 195, 196, 197, 198, 199, 200, 41, 42, 43, 44, 45, 46, 47, 48, 49, 50, 51, 52, 53, 54, 55, 56, 57, 58, 59, 60] (kX6_passSlots hE N) (gCo_of (by decide +kernel)) (by rw [hR]; exact ⟨by decide, by decide⟩) rfl rfl (by decide +kernel) gw4_130 gw4_131 gw4_132 gw1_7 gw4_133 (by decide +kernel : decode cX8_forecastFlow 39 = .ok (.invokevirtual 201, 3)) ?_)
  refine sm_aload_n (pc := 42) G hb (by decide +kernel : decode cX8_forecastFlow 42 = .ok (.aload_n 0, 1)) rfl ?_
  refine sm_get (pc := 43) (ci := 8) (j := 2) (N := 8) (T := TX8) G hb ho hy rfl (by decide) gin_8 gw2_102 (by decide +kernel : decode cX8_forecastFlow 43 = .ok (.getfield 19, 3)) ?_
  refine sm_get (pc := 46) (ci := 7) (j := 0) (N := 4) (T := TX7) G hb ho hy rfl (by decide) gin_7 gw1_180 (by decide +kernel : decode cX8_forecastFlow 46 = .ok (.getfield 50, 3)) ?_
  refine sm_iload_n (pc := 49) G hb (by decide +kernel : decode cX8_forecastFlow 49 = .ok (.iload_n 1, 1)) rfl ?_
  refine sm_iload_n (pc := 50) G hb (by decide +kernel : decode cX8_forecastFlow 50 = .ok (.iload_n 3, 1)) rfl ?_
  refine sm_mono (cav_sub gI_sub) (sm_callV (pc := 51) (N := 11) (T := TX2) (C := RX2) G hb ho hy he hE.1 3 [42, 43, 44, 45, 46, 47, 48, 49, 50] (kX2_getNumber hE N) (gCo_of (by decide +kernel)) (by rw [hR]; exact ⟨by decide, by decide⟩) rfl rfl (by decide +kernel) gw3_72 gw3_73 gw3_74 gw1_3 gw3_75 (by decide +kernel : decode cX8_forecastFlow 51 = .ok (.invokevirtual 156, 3)) ?_)
  exact sm_iret (pc := 54) G hb (by decide +kernel : decode cX8_forecastFlow 54 = .ok (.ireturn, 1)) hr
set_option maxRecDepth 100000 in
set_option maxHeartbeats 4000000 in
theorem fX8_forecastFlow_s0 {γ : gG} {cs ss : Nat} {ε : gE5} (N : Nat) (G : gOK γ) (hb : gcc γ = cX8_forecastFlow) (ho : gow γ = RX8) (hy : gly γ = gyX) (hR : grm γ = { frames := 21, cells := 3, slots := 18, locals := 551 }) (he : genv γ = ε) (hr : grt γ = (some .int)) (hE : gEnv ε) (hc9 : cs + 3 ≤ 3 ∧ ss + 18 ≤ 18) : gSm γ cs ss 0 (fX8_forecastFlow_k0 N) := by
  unfold fX8_forecastFlow_k0
  refine sm_aload_n (pc := 0) G hb (by decide +kernel : decode cX8_forecastFlow 0 = .ok (.aload_n 0, 1)) rfl ?_
  refine sm_iload_n (pc := 1) G hb (by decide +kernel : decode cX8_forecastFlow 1 = .ok (.iload_n 1, 1)) rfl ?_
  refine sm_mono (xcav_sub gXV_sub) (sm_xcallV (pc := 2) (N := 8) (T := TX8) (C := RX8) G hb ho hy he hE.1 2 [0, 1, 2, 3, 4, 5, 6, 7, 8, 9, 10, 11, 12, 13, 14, 15, 16, 17, 18, 19, 20, 21, 22, 23, 24, 25, 26, 27, 28, 29, 30, 31, 32, 33, 34, 35, 36, 37, 38, 39, 40, 41, 42, 43, 44, 45, 46, 47, 48, 49, 50, 51, 52, 53, 54, 55, 56, 57, 58, 59, 60, 61, 62, 63, 64, 65, 66, 67, 68, 69, 70, 71, 72, 73, 74, 75, 76, 77, 78, 79, 80, 81, 82, 83, 84, 85, 86, 87, 88, 89, 90, 91, 92, 93, 94, 95, 96, 97, 98, 99, 100, 101, 102, 103, 104, 105, 106, 107, 108, 109, 110, 111, 112, 113, 114, 115, 116, 117, 118, 119, 120, 121, 122, 123, 124, 125, 126, 127, 128, 129, 130, 131, 132, 133, 134, 135, 136, 137, 138, 139, 140, 141, 142, 143, 144, 145, 146, 147, 148, 149, 150, 151, 152, 153, 154, 155, 156, 157, 158, 159, 160, 161, 162, 163, 164, 165, 166, 167, 168, 169, 170, 171, 172, 173, 174, 175, 176, 177, 178, 179, 180, 181, 182, 183, 184, 185, 186, 187, 188, 189, 190, 191, 192, 193, 194, 195, 196, 197, 198, 199, 200, 201, 202, 203] (kX8_checkFlow hE N) (gCo_of (by decide +kernel)) (by rw [hR]; exact ⟨by decide, by decide⟩) (by rw [hR]; exact ⟨by show _ ≤ 3; omega, by show _ ≤ 18; omega⟩) rfl rfl (by decide +kernel) gw4_52 gw4_54 gw0_21 gw1_1 gw4_55 (by decide +kernel : decode cX8_forecastFlow 2 = .ok (.invokevirtual 149, 3)) ?_)
  refine sm_iload_n (pc := 5) G hb (by decide +kernel : decode cX8_forecastFlow 5 = .ok (.iload_n 2, 1)) rfl ?_
  refine sm_iconst (pc := 6) G hb (by decide +kernel : decode cX8_forecastFlow 6 = .ok (.iconst 1, 1)) (by decide) ?_
  refine sm_bipush (pc := 7) G hb (by decide +kernel : decode cX8_forecastFlow 7 = .ok (.bipush 50, 2)) (by decide) ?_
  refine sm_mono (xca_sub gXV_sub) (sm_xcallS (pc := 9) G hb ho hy he hE.1 3 [] (kX8_checkRange hE N) (gCo_of (by decide +kernel)) (by rw [hR]; exact ⟨by decide, by decide⟩) (by rw [hR]; exact ⟨by show _ ≤ 3; omega, by show _ ≤ 18; omega⟩) (by decide +kernel) gw3_184 gw3_185 gw1_1 gw3_186 (by decide +kernel : decode cX8_forecastFlow 9 = .ok (.invokestatic 86, 3)) ?_)
  refine sm_iload_n (pc := 12) G hb (by decide +kernel : decode cX8_forecastFlow 12 = .ok (.iload_n 3, 1)) rfl ?_
  refine sm_iconst (pc := 13) G hb (by decide +kernel : decode cX8_forecastFlow 13 = .ok (.iconst 0, 1)) (by decide) ?_
  refine sm_bipush (pc := 14) G hb (by decide +kernel : decode cX8_forecastFlow 14 = .ok (.bipush 10, 2)) (by decide) ?_
  refine sm_mono (xca_sub gXV_sub) (sm_xcallS (pc := 16) G hb ho hy he hE.1 3 [] (kX8_checkRange hE N) (gCo_of (by decide +kernel)) (by rw [hR]; exact ⟨by decide, by decide⟩) (by rw [hR]; exact ⟨by show _ ≤ 3; omega, by show _ ≤ 18; omega⟩) (by decide +kernel) gw3_184 gw3_185 gw1_1 gw3_186 (by decide +kernel : decode cX8_forecastFlow 16 = .ok (.invokestatic 86, 3)) ?_)
  refine sm_mask ?_
  exact fX8_forecastFlow_s19 N G hb ho hy hR he hr hE (by omega)
theorem kX8_forecastFlow {ε : gE5} (hE : gEnv ε) (N : Nat) : gCtrX ε yX8_forecastFlow cX8_forecastFlow 4 (some .int) 21 551 3 18 gyX (fX8_forecastFlow N) :=
  gCtrX_of hE.1 (by decide) (fun γ G hb ho hy hR he hr => fX8_forecastFlow_s0 N G hb ho hy hR he hr hE (by omega))

set_option maxRecDepth 100000 in
set_option maxHeartbeats 4000000 in
theorem fX8_slotsToFull_s65 {γ : gG} {cs ss : Nat} {ε : gE5} (N : Nat) (G : gOK γ) (hb : gcc γ = cX8_slotsToFull) (ho : gow γ = RX8) (hy : gly γ = gyX) (hR : grm γ = { frames := 20, cells := 3, slots := 18, locals := 528 }) (he : genv γ = ε) (hr : grt γ = (some .int)) (hE : gEnv ε) (hc9 : cs + 1 ≤ 3 ∧ ss + 6 ≤ 18) (K28 : gK) (h28 : gSm γ cs ss 28 K28) : gSm γ cs ss 65 (fX8_slotsToFull_k65 N K28) := by
  unfold fX8_slotsToFull_k65
  refine sm_iinc (pc := 65) G hb (by decide +kernel : decode cX8_slotsToFull 65 = .ok (.iinc 3 1, 3)) (by decide) ?_
  refine sm_goto (pc := 68) (tgt := 28) G hb (by decide +kernel : decode cX8_slotsToFull 68 = .ok (.goto (-40), 3)) (by decide) ?_
  refine sm_mask ?_
  exact h28
set_option maxRecDepth 100000 in
set_option maxHeartbeats 4000000 in
theorem fX8_slotsToFull_s28 {γ : gG} {cs ss : Nat} {ε : gE5} (N : Nat) (G : gOK γ) (hb : gcc γ = cX8_slotsToFull) (ho : gow γ = RX8) (hy : gly γ = gyX) (hR : grm γ = { frames := 20, cells := 3, slots := 18, locals := 528 }) (he : genv γ = ε) (hr : grt γ = (some .int)) (hE : gEnv ε) (hc9 : cs + 1 ≤ 3 ∧ ss + 6 ≤ 18) : gSm γ cs ss 28 (fX8_slotsToFull_k28 N) := by
  unfold fX8_slotsToFull_k28
  refine sm_lp (fun K28 h28 => ?_) N
  unfold fX8_slotsToFull_b28
  refine sm_iload_n (pc := 28) G hb (by decide +kernel : decode cX8_slotsToFull 28 = .ok (.iload_n 3, 1)) rfl ?_
  refine sm_iload_n (pc := 29) G hb (by decide +kernel : decode cX8_slotsToFull 29 = .ok (.iload_n 1, 1)) rfl ?_
  refine sm_icmp_gt (pc := 30) (tgt := 71) G hb (by decide +kernel : decode cX8_slotsToFull 30 = .ok (.if_icmp .gt 41, 3)) (by decide) ?_ ?_
  · skip
    exact sm_throwNW (pc := 71) (i := 317) (text := "there are not so many packets within so many slots") G hb ho he hE gx_NSE (List.mem_of_getElem? (i := 43) rfl) (by rw [hR]; exact ⟨by decide, by decide⟩) (by rw [hR]; exact ⟨by show _ ≤ 3; omega, by show _ ≤ 18; omega⟩) (by decide +kernel : decode cX8_slotsToFull 71 = .ok (.new 274, 3)) (by decide +kernel : decode cX8_slotsToFull 74 = .ok (.dup, 1)) (by decide +kernel : decode cX8_slotsToFull 75 = .ok (.ldc_w 325, 3)) (by decide +kernel : decode cX8_slotsToFull 78 = .ok (.invokespecial 278, 3)) (by decide +kernel : decode cX8_slotsToFull 81 = .ok (.athrow, 1))
  · skip
    refine sm_aload_n (pc := 33) G hb (by decide +kernel : decode cX8_slotsToFull 33 = .ok (.aload_n 0, 1)) rfl ?_
    refine sm_get (pc := 34) (ci := 8) (j := 2) (N := 8) (T := TX8) G hb ho hy rfl (by decide) gin_8 gw2_102 (by decide +kernel : decode cX8_slotsToFull 34 = .ok (.getfield 19, 3)) ?_
    refine sm_get (pc := 37) (ci := 7) (j := 1) (N := 4) (T := TX7) G hb ho hy rfl (by decide) gin_7 gw1_186 (by decide +kernel : decode cX8_slotsToFull 37 = .ok (.getfield 177, 3)) ?_
    refine sm_get (pc := 40) (ci := 4) (j := 11) (N := 12) (T := TX4) G hb ho hy rfl (by decide) gin_4 gw1_153 (by decide +kernel : decode cX8_slotsToFull 40 = .ok (.getfield 205, 3)) ?_
    refine sm_iload_n (pc := 43) G hb (by decide +kernel : decode cX8_slotsToFull 43 = .ok (.iload_n 2, 1)) rfl ?_
    refine sm_icmp_lt (pc := 44) (tgt := 49) G hb (by decide +kernel : decode cX8_slotsToFull 44 = .ok (.if_icmp .lt 5, 3)) (by decide) ?_ ?_
    · skip
      refine sm_iload_n (pc := 49) G hb (by decide +kernel : decode cX8_slotsToFull 49 = .ok (.iload_n 3, 1)) rfl ?_
      refine sm_iload_n (pc := 50) G hb (by decide +kernel : decode cX8_slotsToFull 50 = .ok (.iload_n 1, 1)) rfl ?_
      refine sm_icmp_ge (pc := 51) (tgt := 65) G hb (by decide +kernel : decode cX8_slotsToFull 51 = .ok (.if_icmp .ge 14, 3)) (by decide) ?_ ?_
      · skip
        refine sm_mask ?_
        exact fX8_slotsToFull_s65 N G hb ho hy hR he hr hE (by omega) K28 h28
      · skip
        refine sm_aload_n (pc := 54) G hb (by decide +kernel : decode cX8_slotsToFull 54 = .ok (.aload_n 0, 1)) rfl ?_
        refine sm_get (pc := 55) (ci := 8) (j := 5) (N := 8) (T := TX8) G hb ho hy rfl (by decide) gin_8 gw2_105 (by decide +kernel : decode cX8_slotsToFull 55 = .ok (.getfield 39, 3)) ?_
        refine sm_aload_n (pc := 58) G hb (by decide +kernel : decode cX8_slotsToFull 58 = .ok (.aload_n 0, 1)) rfl ?_
        refine sm_get (pc := 59) (ci := 8) (j := 2) (N := 8) (T := TX8) G hb ho hy rfl (by decide) gin_8 gw2_102 (by decide +kernel : decode cX8_slotsToFull 59 = .ok (.getfield 19, 3)) ?_
        refine sm_mono (cav_sub gV_sub) (sm_callV (pc := 62) (N := 4) (T := TX6) (C := RX6) G hb ho hy he hE.1 2 [194, 195, 196, 197, 198, 199, 200, 41, 42, 43, 44, 45, 46, 47, 48, 49, 50, 51, 52, 53, 54, 55, 56, 57, 58, 59, 60] (kX6_passSlot hE N) (gCo_of (by decide +kernel)) (by rw [hR]; exact ⟨by decide, by decide⟩) rfl rfl (by decide +kernel) gw5_175 gw4_135 gw4_136 gw1_7 gw4_137 (by decide +kernel : decode cX8_slotsToFull 62 = .ok (.invokevirtual 322, 3)) ?_)
        refine sm_mask ?_
        exact fX8_slotsToFull_s65 N G hb ho hy hR he hr hE (by omega) K28 h28
    · skip
      refine sm_iload_n (pc := 47) G hb (by decide +kernel : decode cX8_slotsToFull 47 = .ok (.iload_n 3, 1)) rfl ?_
      exact sm_iret (pc := 48) G hb (by decide +kernel : decode cX8_slotsToFull 48 = .ok (.ireturn, 1)) hr
set_option maxRecDepth 100000 in
set_option maxHeartbeats 4000000 in
theorem fX8_slotsToFull_s26 {γ : gG} {cs ss : Nat} {ε : gE5} (N : Nat) (G : gOK γ) (hb : gcc γ = cX8_slotsToFull) (ho : gow γ = RX8) (hy : gly γ = gyX) (hR : grm γ = { frames := 20, cells := 3, slots := 18, locals := 528 }) (he : genv γ = ε) (hr : grt γ = (some .int)) (hE : gEnv ε) (hc9 : cs + 1 ≤ 3 ∧ ss + 6 ≤ 18) : gSm γ cs ss 26 (fX8_slotsToFull_k26 N) := by
  unfold fX8_slotsToFull_k26
  refine sm_iconst (pc := 26) G hb (by decide +kernel : decode cX8_slotsToFull 26 = .ok (.iconst 0, 1)) (by decide) ?_
  refine sm_istore_n (pc := 27) G hb (by decide +kernel : decode cX8_slotsToFull 27 = .ok (.istore_n 3, 1)) rfl ?_
  refine sm_mask ?_
  exact fX8_slotsToFull_s28 N G hb ho hy hR he hr hE (by omega)
set_option maxRecDepth 100000 in
set_option maxHeartbeats 4000000 in
theorem fX8_slotsToFull_s0 {γ : gG} {cs ss : Nat} {ε : gE5} (N : Nat) (G : gOK γ) (hb : gcc γ = cX8_slotsToFull) (ho : gow γ = RX8) (hy : gly γ = gyX) (hR : grm γ = { frames := 20, cells := 3, slots := 18, locals := 528 }) (he : genv γ = ε) (hr : grt γ = (some .int)) (hE : gEnv ε) (hc9 : cs + 3 ≤ 3 ∧ ss + 18 ≤ 18) : gSm γ cs ss 0 (fX8_slotsToFull_k0 N) := by
  unfold fX8_slotsToFull_k0
  refine sm_iload_n (pc := 0) G hb (by decide +kernel : decode cX8_slotsToFull 0 = .ok (.iload_n 1, 1)) rfl ?_
  refine sm_iconst (pc := 1) G hb (by decide +kernel : decode cX8_slotsToFull 1 = .ok (.iconst 1, 1)) (by decide) ?_
  refine sm_bipush (pc := 2) G hb (by decide +kernel : decode cX8_slotsToFull 2 = .ok (.bipush 50, 2)) (by decide) ?_
  refine sm_mono (xca_sub gXV_sub) (sm_xcallS (pc := 4) G hb ho hy he hE.1 3 [] (kX8_checkRange hE N) (gCo_of (by decide +kernel)) (by rw [hR]; exact ⟨by decide, by decide⟩) (by rw [hR]; exact ⟨by show _ ≤ 3; omega, by show _ ≤ 18; omega⟩) (by decide +kernel) gw3_184 gw3_185 gw1_1 gw3_186 (by decide +kernel : decode cX8_slotsToFull 4 = .ok (.invokestatic 86, 3)) ?_)
  refine sm_iload_n (pc := 7) G hb (by decide +kernel : decode cX8_slotsToFull 7 = .ok (.iload_n 2, 1)) rfl ?_
  refine sm_iconst (pc := 8) G hb (by decide +kernel : decode cX8_slotsToFull 8 = .ok (.iconst 1, 1)) (by decide) ?_
  refine sm_sipush (pc := 9) G hb (by decide +kernel : decode cX8_slotsToFull 9 = .ok (.sipush 500, 3)) (by decide) ?_
  refine sm_mono (xca_sub gXV_sub) (sm_xcallS (pc := 12) G hb ho hy he hE.1 3 [] (kX8_checkRange hE N) (gCo_of (by decide +kernel)) (by rw [hR]; exact ⟨by decide, by decide⟩) (by rw [hR]; exact ⟨by show _ ≤ 3; omega, by show _ ≤ 18; omega⟩) (by decide +kernel) gw3_184 gw3_185 gw1_1 gw3_186 (by decide +kernel : decode cX8_slotsToFull 12 = .ok (.invokestatic 86, 3)) ?_)
  refine sm_aload_n (pc := 15) G hb (by decide +kernel : decode cX8_slotsToFull 15 = .ok (.aload_n 0, 1)) rfl ?_
  refine sm_get (pc := 16) (ci := 8) (j := 2) (N := 8) (T := TX8) G hb ho hy rfl (by decide) gin_8 gw2_102 (by decide +kernel : decode cX8_slotsToFull 16 = .ok (.getfield 19, 3)) ?_
  refine sm_aload_n (pc := 19) G hb (by decide +kernel : decode cX8_slotsToFull 19 = .ok (.aload_n 0, 1)) rfl ?_
  refine sm_get (pc := 20) (ci := 8) (j := 0) (N := 8) (T := TX8) G hb ho hy rfl (by decide) gin_8 gw2_100 (by decide +kernel : decode cX8_slotsToFull 20 = .ok (.getfield 12, 3)) ?_
  refine sm_mono (cav_sub gV_sub) (sm_callV (pc := 23) (N := 4) (T := TX7) (C := RX7) G hb ho hy he hE.1 2 [41, 42, 43, 44, 45, 46, 47, 48, 49, 50, 51, 52, 53, 54, 55, 56, 57, 58, 59, 60, 1, 2, 3, 4, 5, 6, 7, 8, 9, 10, 11, 12, 13, 14, 15, 16, 17, 18, 19, 20] (kX7_copyFrom hE N) (gCo_of (by decide +kernel)) (by rw [hR]; exact ⟨by decide, by decide⟩) rfl rfl (by decide +kernel) gw3_67 gw3_37 gw3_38 gw1_2 gw3_39 (by decide +kernel : decode cX8_slotsToFull 23 = .ok (.invokevirtual 213, 3)) ?_)
  refine sm_mask ?_
  exact fX8_slotsToFull_s26 N G hb ho hy hR he hr hE (by omega)
theorem kX8_slotsToFull {ε : gE5} (hE : gEnv ε) (N : Nat) : gCtrX ε yX8_slotsToFull cX8_slotsToFull 4 (some .int) 20 528 3 18 gyX (fX8_slotsToFull N) :=
  gCtrX_of hE.1 (by decide) (fun γ G hb ho hy hR he hr => fX8_slotsToFull_s0 N G hb ho hy hR he hr hE (by omega))

set_option maxRecDepth 100000 in
set_option maxHeartbeats 4000000 in
theorem fX8_bestBias_s124 {γ : gG} {cs ss : Nat} {ε : gE5} (N : Nat) (G : gOK γ) (hb : gcc γ = cX8_bestBias) (ho : gow γ = RX8) (hy : gly γ = gyX) (hR : grm γ = { frames := 21, cells := 1, slots := 6, locals := 551 }) (he : genv γ = ε) (hr : grt γ = (some .int)) (hE : gEnv ε) (hc9 : cs + 0 ≤ 1 ∧ ss + 0 ≤ 6) (K17 : gK) (h17 : gSm γ cs ss 17 K17) : gSm γ cs ss 124 (fX8_bestBias_k124 N K17) := by
  unfold fX8_bestBias_k124
  refine sm_iinc (pc := 124) G hb (by decide +kernel : decode cX8_bestBias 124 = .ok (.iinc 5 1, 3)) (by decide) ?_
  refine sm_goto (pc := 127) (tgt := 17) G hb (by decide +kernel : decode cX8_bestBias 127 = .ok (.goto (-110), 3)) (by decide) ?_
  refine sm_mask ?_
  exact h17
set_option maxRecDepth 100000 in
set_option maxHeartbeats 4000000 in
theorem fX8_bestBias_s114 {γ : gG} {cs ss : Nat} {ε : gE5} (N : Nat) (G : gOK γ) (hb : gcc γ = cX8_bestBias) (ho : gow γ = RX8) (hy : gly γ = gyX) (hR : grm γ = { frames := 21, cells := 1, slots := 6, locals := 551 }) (he : genv γ = ε) (hr : grt γ = (some .int)) (hE : gEnv ε) (hc9 : cs + 0 ≤ 1 ∧ ss + 0 ≤ 6) (K17 : gK) (h17 : gSm γ cs ss 17 K17) : gSm γ cs ss 114 (fX8_bestBias_k114 N K17) := by
  unfold fX8_bestBias_k114
  refine sm_iload (pc := 114) G hb (by decide +kernel : decode cX8_bestBias 114 = .ok (.iload 5, 2)) ?_
  refine sm_istore_n (pc := 116) G hb (by decide +kernel : decode cX8_bestBias 116 = .ok (.istore_n 2, 1)) rfl ?_
  refine sm_iload (pc := 117) G hb (by decide +kernel : decode cX8_bestBias 117 = .ok (.iload 6, 2)) ?_
  refine sm_istore_n (pc := 119) G hb (by decide +kernel : decode cX8_bestBias 119 = .ok (.istore_n 3, 1)) rfl ?_
  refine sm_iload (pc := 120) G hb (by decide +kernel : decode cX8_bestBias 120 = .ok (.iload 7, 2)) ?_
  refine sm_istore (pc := 122) G hb (by decide +kernel : decode cX8_bestBias 122 = .ok (.istore 4, 2)) ?_
  refine sm_mask ?_
  exact fX8_bestBias_s124 N G hb ho hy hR he hr hE (by omega) K17 h17
set_option maxRecDepth 100000 in
set_option maxHeartbeats 4000000 in
theorem fX8_bestBias_s88 {γ : gG} {cs ss : Nat} {ε : gE5} (N : Nat) (G : gOK γ) (hb : gcc γ = cX8_bestBias) (ho : gow γ = RX8) (hy : gly γ = gyX) (hR : grm γ = { frames := 21, cells := 1, slots := 6, locals := 551 }) (he : genv γ = ε) (hr : grt γ = (some .int)) (hE : gEnv ε) (hc9 : cs + 0 ≤ 1 ∧ ss + 0 ≤ 6) (K17 : gK) (h17 : gSm γ cs ss 17 K17) : gSm γ cs ss 88 (fX8_bestBias_k88 N K17) := by
  unfold fX8_bestBias_k88
  refine sm_istore (pc := 88) G hb (by decide +kernel : decode cX8_bestBias 88 = .ok (.istore 7, 2)) ?_
  refine sm_iload (pc := 90) G hb (by decide +kernel : decode cX8_bestBias 90 = .ok (.iload 5, 2)) ?_
  refine sm_if_eq (pc := 92) (tgt := 114) G hb (by decide +kernel : decode cX8_bestBias 92 = .ok (.ifCond .eq 22, 3)) (by decide) ?_ ?_
  · skip
    refine sm_mask ?_
    exact fX8_bestBias_s114 N G hb ho hy hR he hr hE (by omega) K17 h17
  · skip
    refine sm_iload (pc := 95) G hb (by decide +kernel : decode cX8_bestBias 95 = .ok (.iload 6, 2)) ?_
    refine sm_iload_n (pc := 97) G hb (by decide +kernel : decode cX8_bestBias 97 = .ok (.iload_n 3, 1)) rfl ?_
    refine sm_icmp_lt (pc := 98) (tgt := 114) G hb (by decide +kernel : decode cX8_bestBias 98 = .ok (.if_icmp .lt 16, 3)) (by decide) ?_ ?_
    · skip
      refine sm_mask ?_
      exact fX8_bestBias_s114 N G hb ho hy hR he hr hE (by omega) K17 h17
    · skip
      refine sm_iload (pc := 101) G hb (by decide +kernel : decode cX8_bestBias 101 = .ok (.iload 6, 2)) ?_
      refine sm_iload_n (pc := 103) G hb (by decide +kernel : decode cX8_bestBias 103 = .ok (.iload_n 3, 1)) rfl ?_
      refine sm_icmp_ne (pc := 104) (tgt := 124) G hb (by decide +kernel : decode cX8_bestBias 104 = .ok (.if_icmp .ne 20, 3)) (by decide) ?_ ?_
      · skip
        refine sm_mask ?_
        exact fX8_bestBias_s124 N G hb ho hy hR he hr hE (by omega) K17 h17
      · skip
        refine sm_iload (pc := 107) G hb (by decide +kernel : decode cX8_bestBias 107 = .ok (.iload 7, 2)) ?_
        refine sm_iload (pc := 109) G hb (by decide +kernel : decode cX8_bestBias 109 = .ok (.iload 4, 2)) ?_
        refine sm_icmp_ge (pc := 111) (tgt := 124) G hb (by decide +kernel : decode cX8_bestBias 111 = .ok (.if_icmp .ge 13, 3)) (by decide) ?_ ?_
        · skip
          refine sm_mask ?_
          exact fX8_bestBias_s124 N G hb ho hy hR he hr hE (by omega) K17 h17
        · skip
          refine sm_mask ?_
          exact fX8_bestBias_s114 N G hb ho hy hR he hr hE (by omega) K17 h17
set_option maxRecDepth 100000 in
set_option maxHeartbeats 4000000 in
theorem fX8_bestBias_s17 {γ : gG} {cs ss : Nat} {ε : gE5} (N : Nat) (G : gOK γ) (hb : gcc γ = cX8_bestBias) (ho : gow γ = RX8) (hy : gly γ = gyX) (hR : grm γ = { frames := 21, cells := 1, slots := 6, locals := 551 }) (he : genv γ = ε) (hr : grt γ = (some .int)) (hE : gEnv ε) (hc9 : cs + 0 ≤ 1 ∧ ss + 0 ≤ 6) : gSm γ cs ss 17 (fX8_bestBias_k17 N) := by
  unfold fX8_bestBias_k17
  refine sm_lp (fun K17 h17 => ?_) N
  unfold fX8_bestBias_b17
  refine sm_iload (pc := 17) G hb (by decide +kernel : decode cX8_bestBias 17 = .ok (.iload 5, 2)) ?_
  refine sm_getsGS (pc := 19) G hb ho he hE gw4_76 (by decide +kernel : decode cX8_bestBias 19 = .ok (.getstatic 162, 3)) ?_
  refine sm_iconst (pc := 22) G hb (by decide +kernel : decode cX8_bestBias 22 = .ok (.iconst 2, 1)) (by decide) ?_
  refine sm_tld (pc := 23) G hb he hE (by decide +kernel : decode cX8_bestBias 23 = .ok (.iaload, 1)) ?_
  refine sm_icmp_gt (pc := 24) (tgt := 130) G hb (by decide +kernel : decode cX8_bestBias 24 = .ok (.if_icmp .gt 106, 3)) (by decide) ?_ ?_
  · skip
    refine sm_iload_n (pc := 130) G hb (by decide +kernel : decode cX8_bestBias 130 = .ok (.iload_n 2, 1)) rfl ?_
    exact sm_iret (pc := 131) G hb (by decide +kernel : decode cX8_bestBias 131 = .ok (.ireturn, 1)) hr
  · skip
    refine sm_aload_n (pc := 27) G hb (by decide +kernel : decode cX8_bestBias 27 = .ok (.aload_n 0, 1)) rfl ?_
    refine sm_get (pc := 28) (ci := 8) (j := 2) (N := 8) (T := TX8) G hb ho hy rfl (by decide) gin_8 gw2_102 (by decide +kernel : decode cX8_bestBias 28 = .ok (.getfield 19, 3)) ?_
    refine sm_aload_n (pc := 31) G hb (by decide +kernel : decode cX8_bestBias 31 = .ok (.aload_n 0, 1)) rfl ?_
    refine sm_get (pc := 32) (ci := 8) (j := 0) (N := 8) (T := TX8) G hb ho hy rfl (by decide) gin_8 gw2_100 (by decide +kernel : decode cX8_bestBias 32 = .ok (.getfield 12, 3)) ?_
    refine sm_mono (cav_sub gV_sub) (sm_callV (pc := 35) (N := 4) (T := TX7) (C := RX7) G hb ho hy he hE.1 2 [41, 42, 43, 44, 45, 46, 47, 48, 49, 50, 51, 52, 53, 54, 55, 56, 57, 58, 59, 60, 1, 2, 3, 4, 5, 6, 7, 8, 9, 10, 11, 12, 13, 14, 15, 16, 17, 18, 19, 20] (kX7_copyFrom hE N) (gCo_of (by decide +kernel)) (by rw [hR]; exact ⟨by decide, by decide⟩) rfl rfl (by decide +kernel) gw3_67 gw3_37 gw3_38 gw1_2 gw3_39 (by decide +kernel : decode cX8_bestBias 35 = .ok (.invokevirtual 213, 3)) ?_)
    refine sm_aload_n (pc := 38) G hb (by decide +kernel : decode cX8_bestBias 38 = .ok (.aload_n 0, 1)) rfl ?_
    refine sm_get (pc := 39) (ci := 8) (j := 2) (N := 8) (T := TX8) G hb ho hy rfl (by decide) gin_8 gw2_102 (by decide +kernel : decode cX8_bestBias 39 = .ok (.getfield 19, 3)) ?_
    refine sm_get (pc := 42) (ci := 7) (j := 0) (N := 4) (T := TX7) G hb ho hy rfl (by decide) gin_7 gw1_180 (by decide +kernel : decode cX8_bestBias 42 = .ok (.getfield 50, 3)) ?_
    refine sm_get (pc := 45) (ci := 2) (j := 8) (N := 11) (T := TX2) G hb ho hy rfl (by decide) gin_2 gw1_84 (by decide +kernel : decode cX8_bestBias 45 = .ok (.getfield 165, 3)) ?_
    refine sm_iconst (pc := 48) G hb (by decide +kernel : decode cX8_bestBias 48 = .ok (.iconst 2, 1)) (by decide) ?_
    refine sm_iload (pc := 49) G hb (by decide +kernel : decode cX8_bestBias 49 = .ok (.iload 5, 2)) ?_
    refine sm_iast (pc := 51) G hb hy (by decide +kernel : decode cX8_bestBias 51 = .ok (.iastore, 1)) ?_
    refine sm_aload_n (pc := 52) G hb (by decide +kernel : decode cX8_bestBias 52 = .ok (.aload_n 0, 1)) rfl ?_
    refine sm_get (pc := 53) (ci := 8) (j := 5) (N := 8) (T := TX8) G hb ho hy rfl (by decide) gin_8 gw2_105 (by decide +kernel : decode cX8_bestBias 53 = .ok (.getfield 39, 3)) ?_
    refine sm_aload_n (pc := 56) G hb (by decide +kernel : decode cX8_bestBias 56 = .ok (.aload_n 0, 1)) rfl ?_
    refine sm_get (pc := 57) (ci := 8) (j := 2) (N := 8) (T := TX8) G hb ho hy rfl (by decide) gin_8 gw2_102 (by decide +kernel : decode cX8_bestBias 57 = .ok (.getfield 19, 3)) ?_
    refine sm_iload_n (pc := 60) G hb (by decide +kernel : decode cX8_bestBias 60 = .ok (.iload_n 1, 1)) rfl ?_
    refine sm_mono (cav_sub gV_sub) (sm_callV (pc := 61) (N := 4) (T := TX6) (C := RX6) G hb ho hy he hE.1 3 [194, 195, 196, 197, 198, 199, 200, 41, 42, 43, 44, 45, 46, 47, 48, 49, 50, 51, 52, 53, 54, 55, 56, 57, 58, 59, 60] (kX6_passSlots hE N) (gCo_of (by decide +kernel)) (by rw [hR]; exact ⟨by decide, by decide⟩) rfl rfl (by decide +kernel) gw4_130 gw4_131 gw4_132 gw1_7 gw4_133 (by decide +kernel : decode cX8_bestBias 61 = .ok (.invokevirtual 201, 3)) ?_)
    refine sm_aload_n (pc := 64) G hb (by decide +kernel : decode cX8_bestBias 64 = .ok (.aload_n 0, 1)) rfl ?_
    refine sm_get (pc := 65) (ci := 8) (j := 2) (N := 8) (T := TX8) G hb ho hy rfl (by decide) gin_8 gw2_102 (by decide +kernel : decode cX8_bestBias 65 = .ok (.getfield 19, 3)) ?_
    refine sm_get (pc := 68) (ci := 7) (j := 1) (N := 4) (T := TX7) G hb ho hy rfl (by decide) gin_7 gw1_186 (by decide +kernel : decode cX8_bestBias 68 = .ok (.getfield 177, 3)) ?_
    refine sm_get (pc := 71) (ci := 4) (j := 11) (N := 12) (T := TX4) G hb ho hy rfl (by decide) gin_4 gw1_153 (by decide +kernel : decode cX8_bestBias 71 = .ok (.getfield 205, 3)) ?_
    refine sm_istore (pc := 74) G hb (by decide +kernel : decode cX8_bestBias 74 = .ok (.istore 6, 2)) ?_
    refine sm_aload_n (pc := 76) G hb (by decide +kernel : decode cX8_bestBias 76 = .ok (.aload_n 0, 1)) rfl ?_
    refine sm_get (pc := 77) (ci := 8) (j := 2) (N := 8) (T := TX8) G hb ho hy rfl (by decide) gin_8 gw2_102 (by decide +kernel : decode cX8_bestBias 77 = .ok (.getfield 19, 3)) ?_
    refine sm_get (pc := 80) (ci := 7) (j := 0) (N := 4) (T := TX7) G hb ho hy rfl (by decide) gin_7 gw1_180 (by decide +kernel : decode cX8_bestBias 80 = .ok (.getfield 50, 3)) ?_
    refine sm_bipush (pc := 83) G hb (by decide +kernel : decode cX8_bestBias 83 = .ok (.bipush 8, 2)) (by decide) ?_
    refine sm_mono (cav_sub gI_sub) (sm_callV (pc := 85) (N := 11) (T := TX2) (C := RX2) G hb ho hy he hE.1 2 [42, 43, 44, 45, 46, 47, 48, 49, 50] (kX2_sumNumber hE N) (gCo_of (by decide +kernel)) (by rw [hR]; exact ⟨by decide, by decide⟩) rfl rfl (by decide +kernel) gw5_184 gw5_185 gw5_186 gw1_3 gw5_187 (by decide +kernel : decode cX8_bestBias 85 = .ok (.invokevirtual 327, 3)) ?_)
    refine sm_mask ?_
    exact fX8_bestBias_s88 N G hb ho hy hR he hr hE (by omega) K17 h17
set_option maxRecDepth 100000 in
set_option maxHeartbeats 4000000 in
theorem fX8_bestBias_s0 {γ : gG} {cs ss : Nat} {ε : gE5} (N : Nat) (G : gOK γ) (hb : gcc γ = cX8_bestBias) (ho : gow γ = RX8) (hy : gly γ = gyX) (hR : grm γ = { frames := 21, cells := 1, slots := 6, locals := 551 }) (he : genv γ = ε) (hr : grt γ = (some .int)) (hE : gEnv ε) (hc9 : cs + 1 ≤ 1 ∧ ss + 6 ≤ 6) : gSm γ cs ss 0 (fX8_bestBias_k0 N) := by
  unfold fX8_bestBias_k0
  refine sm_iload_n (pc := 0) G hb (by decide +kernel : decode cX8_bestBias 0 = .ok (.iload_n 1, 1)) rfl ?_
  refine sm_iconst (pc := 1) G hb (by decide +kernel : decode cX8_bestBias 1 = .ok (.iconst 1, 1)) (by decide) ?_
  refine sm_bipush (pc := 2) G hb (by decide +kernel : decode cX8_bestBias 2 = .ok (.bipush 50, 2)) (by decide) ?_
  refine sm_mono (xca_sub gXV_sub) (sm_xcallS (pc := 4) G hb ho hy he hE.1 3 [] (kX8_checkRange hE N) (gCo_of (by decide +kernel)) (by rw [hR]; exact ⟨by decide, by decide⟩) (by rw [hR]; exact ⟨by show _ ≤ 1; omega, by show _ ≤ 6; omega⟩) (by decide +kernel) gw3_184 gw3_185 gw1_1 gw3_186 (by decide +kernel : decode cX8_bestBias 4 = .ok (.invokestatic 86, 3)) ?_)
  refine sm_iconst (pc := 7) G hb (by decide +kernel : decode cX8_bestBias 7 = .ok (.iconst 0, 1)) (by decide) ?_
  refine sm_istore_n (pc := 8) G hb (by decide +kernel : decode cX8_bestBias 8 = .ok (.istore_n 2, 1)) rfl ?_
  refine sm_iconst (pc := 9) G hb (by decide +kernel : decode cX8_bestBias 9 = .ok (.iconst 0, 1)) (by decide) ?_
  refine sm_istore_n (pc := 10) G hb (by decide +kernel : decode cX8_bestBias 10 = .ok (.istore_n 3, 1)) rfl ?_
  refine sm_iconst (pc := 11) G hb (by decide +kernel : decode cX8_bestBias 11 = .ok (.iconst 0, 1)) (by decide) ?_
  refine sm_istore (pc := 12) G hb (by decide +kernel : decode cX8_bestBias 12 = .ok (.istore 4, 2)) ?_
  refine sm_iconst (pc := 14) G hb (by decide +kernel : decode cX8_bestBias 14 = .ok (.iconst 0, 1)) (by decide) ?_
  refine sm_istore (pc := 15) G hb (by decide +kernel : decode cX8_bestBias 15 = .ok (.istore 5, 2)) ?_
  refine sm_mask ?_
  exact fX8_bestBias_s17 N G hb ho hy hR he hr hE (by omega)
theorem kX8_bestBias {ε : gE5} (hE : gEnv ε) (N : Nat) : gCtrX ε yX8_bestBias cX8_bestBias 8 (some .int) 21 551 1 6 gyX (fX8_bestBias N) :=
  gCtrX_of hE.1 (by decide) (fun γ G hb ho hy hR he hr => fX8_bestBias_s0 N G hb ho hy hR he hr hE (by omega))

set_option maxRecDepth 100000 in
set_option maxHeartbeats 4000000 in
theorem fX8_bestExcess_s100 {γ : gG} {cs ss : Nat} {ε : gE5} (N : Nat) (G : gOK γ) (hb : gcc γ = cX8_bestExcess) (ho : gow γ = RX8) (hy : gly γ = gyX) (hR : grm γ = { frames := 21, cells := 1, slots := 6, locals := 551 }) (he : genv γ = ε) (hr : grt γ = (some .int)) (hE : gEnv ε) (hc9 : cs + 0 ≤ 1 ∧ ss + 0 ≤ 6) (K14 : gK) (h14 : gSm γ cs ss 14 K14) : gSm γ cs ss 100 (fX8_bestExcess_k100 N K14) := by
  unfold fX8_bestExcess_k100
  refine sm_iinc (pc := 100) G hb (by decide +kernel : decode cX8_bestExcess 100 = .ok (.iinc 4 10, 3)) (by decide) ?_
  refine sm_goto (pc := 103) (tgt := 14) G hb (by decide +kernel : decode cX8_bestExcess 103 = .ok (.goto (-89), 3)) (by decide) ?_
  refine sm_mask ?_
  exact h14
set_option maxRecDepth 100000 in
set_option maxHeartbeats 4000000 in
theorem fX8_bestExcess_s86 {γ : gG} {cs ss : Nat} {ε : gE5} (N : Nat) (G : gOK γ) (hb : gcc γ = cX8_bestExcess) (ho : gow γ = RX8) (hy : gly γ = gyX) (hR : grm γ = { frames := 21, cells := 1, slots := 6, locals := 551 }) (he : genv γ = ε) (hr : grt γ = (some .int)) (hE : gEnv ε) (hc9 : cs + 0 ≤ 1 ∧ ss + 0 ≤ 6) (K14 : gK) (h14 : gSm γ cs ss 14 K14) : gSm γ cs ss 86 (fX8_bestExcess_k86 N K14) := by
  unfold fX8_bestExcess_k86
  refine sm_istore (pc := 86) G hb (by decide +kernel : decode cX8_bestExcess 86 = .ok (.istore 5, 2)) ?_
  refine sm_iload (pc := 88) G hb (by decide +kernel : decode cX8_bestExcess 88 = .ok (.iload 5, 2)) ?_
  refine sm_iload_n (pc := 90) G hb (by decide +kernel : decode cX8_bestExcess 90 = .ok (.iload_n 3, 1)) rfl ?_
  refine sm_icmp_le (pc := 91) (tgt := 100) G hb (by decide +kernel : decode cX8_bestExcess 91 = .ok (.if_icmp .le 9, 3)) (by decide) ?_ ?_
  · skip
    refine sm_mask ?_
    exact fX8_bestExcess_s100 N G hb ho hy hR he hr hE (by omega) K14 h14
  · skip
    refine sm_iload (pc := 94) G hb (by decide +kernel : decode cX8_bestExcess 94 = .ok (.iload 4, 2)) ?_
    refine sm_istore_n (pc := 96) G hb (by decide +kernel : decode cX8_bestExcess 96 = .ok (.istore_n 2, 1)) rfl ?_
    refine sm_iload (pc := 97) G hb (by decide +kernel : decode cX8_bestExcess 97 = .ok (.iload 5, 2)) ?_
    refine sm_istore_n (pc := 99) G hb (by decide +kernel : decode cX8_bestExcess 99 = .ok (.istore_n 3, 1)) rfl ?_
    refine sm_mask ?_
    exact fX8_bestExcess_s100 N G hb ho hy hR he hr hE (by omega) K14 h14
set_option maxRecDepth 100000 in
set_option maxHeartbeats 4000000 in
theorem fX8_bestExcess_s14 {γ : gG} {cs ss : Nat} {ε : gE5} (N : Nat) (G : gOK γ) (hb : gcc γ = cX8_bestExcess) (ho : gow γ = RX8) (hy : gly γ = gyX) (hR : grm γ = { frames := 21, cells := 1, slots := 6, locals := 551 }) (he : genv γ = ε) (hr : grt γ = (some .int)) (hE : gEnv ε) (hc9 : cs + 0 ≤ 1 ∧ ss + 0 ≤ 6) : gSm γ cs ss 14 (fX8_bestExcess_k14 N) := by
  unfold fX8_bestExcess_k14
  refine sm_lp (fun K14 h14 => ?_) N
  unfold fX8_bestExcess_b14
  refine sm_iload (pc := 14) G hb (by decide +kernel : decode cX8_bestExcess 14 = .ok (.iload 4, 2)) ?_
  refine sm_getsGS (pc := 16) G hb ho he hE gw4_76 (by decide +kernel : decode cX8_bestExcess 16 = .ok (.getstatic 162, 3)) ?_
  refine sm_iconst (pc := 19) G hb (by decide +kernel : decode cX8_bestExcess 19 = .ok (.iconst 1, 1)) (by decide) ?_
  refine sm_tld (pc := 20) G hb he hE (by decide +kernel : decode cX8_bestExcess 20 = .ok (.iaload, 1)) ?_
  refine sm_icmp_gt (pc := 21) (tgt := 106) G hb (by decide +kernel : decode cX8_bestExcess 21 = .ok (.if_icmp .gt 85, 3)) (by decide) ?_ ?_
  · skip
    refine sm_iload_n (pc := 106) G hb (by decide +kernel : decode cX8_bestExcess 106 = .ok (.iload_n 2, 1)) rfl ?_
    exact sm_iret (pc := 107) G hb (by decide +kernel : decode cX8_bestExcess 107 = .ok (.ireturn, 1)) hr
  · skip
    refine sm_aload_n (pc := 24) G hb (by decide +kernel : decode cX8_bestExcess 24 = .ok (.aload_n 0, 1)) rfl ?_
    refine sm_get (pc := 25) (ci := 8) (j := 2) (N := 8) (T := TX8) G hb ho hy rfl (by decide) gin_8 gw2_102 (by decide +kernel : decode cX8_bestExcess 25 = .ok (.getfield 19, 3)) ?_
    refine sm_aload_n (pc := 28) G hb (by decide +kernel : decode cX8_bestExcess 28 = .ok (.aload_n 0, 1)) rfl ?_
    refine sm_get (pc := 29) (ci := 8) (j := 0) (N := 8) (T := TX8) G hb ho hy rfl (by decide) gin_8 gw2_100 (by decide +kernel : decode cX8_bestExcess 29 = .ok (.getfield 12, 3)) ?_
    refine sm_mono (cav_sub gV_sub) (sm_callV (pc := 32) (N := 4) (T := TX7) (C := RX7) G hb ho hy he hE.1 2 [41, 42, 43, 44, 45, 46, 47, 48, 49, 50, 51, 52, 53, 54, 55, 56, 57, 58, 59, 60, 1, 2, 3, 4, 5, 6, 7, 8, 9, 10, 11, 12, 13, 14, 15, 16, 17, 18, 19, 20] (kX7_copyFrom hE N) (gCo_of (by decide +kernel)) (by rw [hR]; exact ⟨by decide, by decide⟩) rfl rfl (by decide +kernel) gw3_67 gw3_37 gw3_38 gw1_2 gw3_39 (by decide +kernel : decode cX8_bestExcess 32 = .ok (.invokevirtual 213, 3)) ?_)
    refine sm_aload_n (pc := 35) G hb (by decide +kernel : decode cX8_bestExcess 35 = .ok (.aload_n 0, 1)) rfl ?_
    refine sm_get (pc := 36) (ci := 8) (j := 2) (N := 8) (T := TX8) G hb ho hy rfl (by decide) gin_8 gw2_102 (by decide +kernel : decode cX8_bestExcess 36 = .ok (.getfield 19, 3)) ?_
    refine sm_get (pc := 39) (ci := 7) (j := 0) (N := 4) (T := TX7) G hb ho hy rfl (by decide) gin_7 gw1_180 (by decide +kernel : decode cX8_bestExcess 39 = .ok (.getfield 50, 3)) ?_
    refine sm_get (pc := 42) (ci := 2) (j := 8) (N := 11) (T := TX2) G hb ho hy rfl (by decide) gin_2 gw1_84 (by decide +kernel : decode cX8_bestExcess 42 = .ok (.getfield 165, 3)) ?_
    refine sm_iconst (pc := 45) G hb (by decide +kernel : decode cX8_bestExcess 45 = .ok (.iconst 0, 1)) (by decide) ?_
    refine sm_iconst (pc := 46) G hb (by decide +kernel : decode cX8_bestExcess 46 = .ok (.iconst 1, 1)) (by decide) ?_
    refine sm_iast (pc := 47) G hb hy (by decide +kernel : decode cX8_bestExcess 47 = .ok (.iastore, 1)) ?_
    refine sm_aload_n (pc := 48) G hb (by decide +kernel : decode cX8_bestExcess 48 = .ok (.aload_n 0, 1)) rfl ?_
    refine sm_get (pc := 49) (ci := 8) (j := 2) (N := 8) (T := TX8) G hb ho hy rfl (by decide) gin_8 gw2_102 (by decide +kernel : decode cX8_bestExcess 49 = .ok (.getfield 19, 3)) ?_
    refine sm_get (pc := 52) (ci := 7) (j := 0) (N := 4) (T := TX7) G hb ho hy rfl (by decide) gin_7 gw1_180 (by decide +kernel : decode cX8_bestExcess 52 = .ok (.getfield 50, 3)) ?_
    refine sm_get (pc := 55) (ci := 2) (j := 8) (N := 11) (T := TX2) G hb ho hy rfl (by decide) gin_2 gw1_84 (by decide +kernel : decode cX8_bestExcess 55 = .ok (.getfield 165, 3)) ?_
    refine sm_iconst (pc := 58) G hb (by decide +kernel : decode cX8_bestExcess 58 = .ok (.iconst 1, 1)) (by decide) ?_
    refine sm_iload (pc := 59) G hb (by decide +kernel : decode cX8_bestExcess 59 = .ok (.iload 4, 2)) ?_
    refine sm_iast (pc := 61) G hb hy (by decide +kernel : decode cX8_bestExcess 61 = .ok (.iastore, 1)) ?_
    refine sm_aload_n (pc := 62) G hb (by decide +kernel : decode cX8_bestExcess 62 = .ok (.aload_n 0, 1)) rfl ?_
    refine sm_get (pc := 63) (ci := 8) (j := 5) (N := 8) (T := TX8) G hb ho hy rfl (by decide) gin_8 gw2_105 (by decide +kernel : decode cX8_bestExcess 63 = .ok (.getfield 39, 3)) ?_
    refine sm_aload_n (pc := 66) G hb (by decide +kernel : decode cX8_bestExcess 66 = .ok (.aload_n 0, 1)) rfl ?_
    refine sm_get (pc := 67) (ci := 8) (j := 2) (N := 8) (T := TX8) G hb ho hy rfl (by decide) gin_8 gw2_102 (by decide +kernel : decode cX8_bestExcess 67 = .ok (.getfield 19, 3)) ?_
    refine sm_iload_n (pc := 70) G hb (by decide +kernel : decode cX8_bestExcess 70 = .ok (.iload_n 1, 1)) rfl ?_
    refine sm_mono (cav_sub gV_sub) (sm_callV (pc := 71) (N := 4) (T := TX6) (C := RX6) G hb ho hy he hE.1 3 [194, 195, 196, 197, 198, 199, 200, 41, 42, 43, 44, 45, 46, 47, 48, 49, 50, 51, 52, 53, 54, 55, 56, 57, 58, 59, 60] (kX6_passSlots hE N) (gCo_of (by decide +kernel)) (by rw [hR]; exact ⟨by decide, by decide⟩) rfl rfl (by decide +kernel) gw4_130 gw4_131 gw4_132 gw1_7 gw4_133 (by decide +kernel : decode cX8_bestExcess 71 = .ok (.invokevirtual 201, 3)) ?_)
    refine sm_aload_n (pc := 74) G hb (by decide +kernel : decode cX8_bestExcess 74 = .ok (.aload_n 0, 1)) rfl ?_
    refine sm_get (pc := 75) (ci := 8) (j := 2) (N := 8) (T := TX8) G hb ho hy rfl (by decide) gin_8 gw2_102 (by decide +kernel : decode cX8_bestExcess 75 = .ok (.getfield 19, 3)) ?_
    refine sm_get (pc := 78) (ci := 7) (j := 0) (N := 4) (T := TX7) G hb ho hy rfl (by decide) gin_7 gw1_180 (by decide +kernel : decode cX8_bestExcess 78 = .ok (.getfield 50, 3)) ?_
    refine sm_bipush (pc := 81) G hb (by decide +kernel : decode cX8_bestExcess 81 = .ok (.bipush 6, 2)) (by decide) ?_
    refine sm_mono (cav_sub gI_sub) (sm_callV (pc := 83) (N := 11) (T := TX2) (C := RX2) G hb ho hy he hE.1 2 [42, 43, 44, 45, 46, 47, 48, 49, 50] (kX2_sumNumber hE N) (gCo_of (by decide +kernel)) (by rw [hR]; exact ⟨by decide, by decide⟩) rfl rfl (by decide +kernel) gw5_184 gw5_185 gw5_186 gw1_3 gw5_187 (by decide +kernel : decode cX8_bestExcess 83 = .ok (.invokevirtual 327, 3)) ?_)
    refine sm_mask ?_
    exact fX8_bestExcess_s86 N G hb ho hy hR he hr hE (by omega) K14 h14
set_option maxRecDepth 100000 in
set_option maxHeartbeats 4000000 in
theorem fX8_bestExcess_s0 {γ : gG} {cs ss : Nat} {ε : gE5} (N : Nat) (G : gOK γ) (hb : gcc γ = cX8_bestExcess) (ho : gow γ = RX8) (hy : gly γ = gyX) (hR : grm γ = { frames := 21, cells := 1, slots := 6, locals := 551 }) (he : genv γ = ε) (hr : grt γ = (some .int)) (hE : gEnv ε) (hc9 : cs + 1 ≤ 1 ∧ ss + 6 ≤ 6) : gSm γ cs ss 0 (fX8_bestExcess_k0 N) := by
  unfold fX8_bestExcess_k0
  refine sm_iload_n (pc := 0) G hb (by decide +kernel : decode cX8_bestExcess 0 = .ok (.iload_n 1, 1)) rfl ?_
  refine sm_iconst (pc := 1) G hb (by decide +kernel : decode cX8_bestExcess 1 = .ok (.iconst 1, 1)) (by decide) ?_
  refine sm_bipush (pc := 2) G hb (by decide +kernel : decode cX8_bestExcess 2 = .ok (.bipush 50, 2)) (by decide) ?_
  refine sm_mono (xca_sub gXV_sub) (sm_xcallS (pc := 4) G hb ho hy he hE.1 3 [] (kX8_checkRange hE N) (gCo_of (by decide +kernel)) (by rw [hR]; exact ⟨by decide, by decide⟩) (by rw [hR]; exact ⟨by show _ ≤ 1; omega, by show _ ≤ 6; omega⟩) (by decide +kernel) gw3_184 gw3_185 gw1_1 gw3_186 (by decide +kernel : decode cX8_bestExcess 4 = .ok (.invokestatic 86, 3)) ?_)
  refine sm_iconst (pc := 7) G hb (by decide +kernel : decode cX8_bestExcess 7 = .ok (.iconst 0, 1)) (by decide) ?_
  refine sm_istore_n (pc := 8) G hb (by decide +kernel : decode cX8_bestExcess 8 = .ok (.istore_n 2, 1)) rfl ?_
  refine sm_iconst (pc := 9) G hb (by decide +kernel : decode cX8_bestExcess 9 = .ok (.iconst (-1), 1)) (by decide) ?_
  refine sm_istore_n (pc := 10) G hb (by decide +kernel : decode cX8_bestExcess 10 = .ok (.istore_n 3, 1)) rfl ?_
  refine sm_iconst (pc := 11) G hb (by decide +kernel : decode cX8_bestExcess 11 = .ok (.iconst 0, 1)) (by decide) ?_
  refine sm_istore (pc := 12) G hb (by decide +kernel : decode cX8_bestExcess 12 = .ok (.istore 4, 2)) ?_
  refine sm_mask ?_
  exact fX8_bestExcess_s14 N G hb ho hy hR he hr hE (by omega)
theorem kX8_bestExcess {ε : gE5} (hE : gEnv ε) (N : Nat) : gCtrX ε yX8_bestExcess cX8_bestExcess 6 (some .int) 21 551 1 6 gyX (fX8_bestExcess N) :=
  gCtrX_of hE.1 (by decide) (fun γ G hb ho hy hR he hr => fX8_bestExcess_s0 N G hb ho hy hR he hr hE (by omega))

set_option maxRecDepth 100000 in
set_option maxHeartbeats 4000000 in
theorem fX8_bestSettings_s127 {γ : gG} {cs ss : Nat} {ε : gE5} (N : Nat) (G : gOK γ) (hb : gcc γ = cX8_bestSettings) (ho : gow γ = RX8) (hy : gly γ = gyX) (hR : grm γ = { frames := 21, cells := 1, slots := 6, locals := 551 }) (he : genv γ = ε) (hr : grt γ = (some .int)) (hE : gEnv ε) (hc9 : cs + 0 ≤ 1 ∧ ss + 0 ≤ 6) (K14 : gK) (h14 : gSm γ cs ss 14 K14) (K27 : gK) (h27 : gSm γ cs ss 27 K27) : gSm γ cs ss 127 (fX8_bestSettings_k127 N K14 K27) := by
  unfold fX8_bestSettings_k127
  refine sm_iinc (pc := 127) G hb (by decide +kernel : decode cX8_bestSettings 127 = .ok (.iinc 6 1, 3)) (by decide) ?_
  refine sm_goto (pc := 130) (tgt := 27) G hb (by decide +kernel : decode cX8_bestSettings 130 = .ok (.goto (-103), 3)) (by decide) ?_
  refine sm_mask ?_
  exact h27
set_option maxRecDepth 100000 in
set_option maxHeartbeats 4000000 in
theorem fX8_bestSettings_s115 {γ : gG} {cs ss : Nat} {ε : gE5} (N : Nat) (G : gOK γ) (hb : gcc γ = cX8_bestSettings) (ho : gow γ = RX8) (hy : gly γ = gyX) (hR : grm γ = { frames := 21, cells := 1, slots := 6, locals := 551 }) (he : genv γ = ε) (hr : grt γ = (some .int)) (hE : gEnv ε) (hc9 : cs + 0 ≤ 1 ∧ ss + 0 ≤ 6) (K14 : gK) (h14 : gSm γ cs ss 14 K14) (K27 : gK) (h27 : gSm γ cs ss 27 K27) : gSm γ cs ss 115 (fX8_bestSettings_k115 N K14 K27) := by
  unfold fX8_bestSettings_k115
  refine sm_bipush (pc := 115) G hb (by decide +kernel : decode cX8_bestSettings 115 = .ok (.bipush 10, 2)) (by decide) ?_
  refine sm_iload (pc := 117) G hb (by decide +kernel : decode cX8_bestSettings 117 = .ok (.iload 5, 2)) ?_
  refine sm_imul (pc := 119) G hb (by decide +kernel : decode cX8_bestSettings 119 = .ok (.imul, 1)) ?_
  refine sm_iload (pc := 120) G hb (by decide +kernel : decode cX8_bestSettings 120 = .ok (.iload 6, 2)) ?_
  refine sm_iadd (pc := 122) G hb (by decide +kernel : decode cX8_bestSettings 122 = .ok (.iadd, 1)) ?_
  refine sm_istore_n (pc := 123) G hb (by decide +kernel : decode cX8_bestSettings 123 = .ok (.istore_n 2, 1)) rfl ?_
  refine sm_lload (pc := 124) G hb (by decide +kernel : decode cX8_bestSettings 124 = .ok (.lload 7, 2)) ?_
  refine sm_lstore_n (pc := 126) G hb (by decide +kernel : decode cX8_bestSettings 126 = .ok (.lstore_n 3, 1)) rfl ?_
  refine sm_mask ?_
  exact fX8_bestSettings_s127 N G hb ho hy hR he hr hE (by omega) K14 h14 K27 h27
set_option maxRecDepth 100000 in
set_option maxHeartbeats 4000000 in
theorem fX8_bestSettings_s101 {γ : gG} {cs ss : Nat} {ε : gE5} (N : Nat) (G : gOK γ) (hb : gcc γ = cX8_bestSettings) (ho : gow γ = RX8) (hy : gly γ = gyX) (hR : grm γ = { frames := 21, cells := 1, slots := 6, locals := 551 }) (he : genv γ = ε) (hr : grt γ = (some .int)) (hE : gEnv ε) (hc9 : cs + 0 ≤ 1 ∧ ss + 0 ≤ 6) (K14 : gK) (h14 : gSm γ cs ss 14 K14) (K27 : gK) (h27 : gSm γ cs ss 27 K27) : gSm γ cs ss 101 (fX8_bestSettings_k101 N K14 K27) := by
  unfold fX8_bestSettings_k101
  refine sm_lstore (pc := 101) G hb (by decide +kernel : decode cX8_bestSettings 101 = .ok (.lstore 7, 2)) ?_
  refine sm_iload_n (pc := 103) G hb (by decide +kernel : decode cX8_bestSettings 103 = .ok (.iload_n 2, 1)) rfl ?_
  refine sm_iconst (pc := 104) G hb (by decide +kernel : decode cX8_bestSettings 104 = .ok (.iconst (-1), 1)) (by decide) ?_
  refine sm_icmp_eq (pc := 105) (tgt := 115) G hb (by decide +kernel : decode cX8_bestSettings 105 = .ok (.if_icmp .eq 10, 3)) (by decide) ?_ ?_
  · skip
    refine sm_mask ?_
    exact fX8_bestSettings_s115 N G hb ho hy hR he hr hE (by omega) K14 h14 K27 h27
  · skip
    refine sm_lload (pc := 108) G hb (by decide +kernel : decode cX8_bestSettings 108 = .ok (.lload 7, 2)) ?_
    refine sm_lload_n (pc := 110) G hb (by decide +kernel : decode cX8_bestSettings 110 = .ok (.lload_n 3, 1)) rfl ?_
    refine sm_lcmp (pc := 111) G hb (by decide +kernel : decode cX8_bestSettings 111 = .ok (.lcmp, 1)) ?_
    refine sm_if_ge (pc := 112) (tgt := 127) G hb (by decide +kernel : decode cX8_bestSettings 112 = .ok (.ifCond .ge 15, 3)) (by decide) ?_ ?_
    · skip
      refine sm_mask ?_
      exact fX8_bestSettings_s127 N G hb ho hy hR he hr hE (by omega) K14 h14 K27 h27
    · skip
      refine sm_mask ?_
      exact fX8_bestSettings_s115 N G hb ho hy hR he hr hE (by omega) K14 h14 K27 h27
set_option maxRecDepth 100000 in
set_option maxHeartbeats 4000000 in
theorem fX8_bestSettings_s27 {γ : gG} {cs ss : Nat} {ε : gE5} (N : Nat) (G : gOK γ) (hb : gcc γ = cX8_bestSettings) (ho : gow γ = RX8) (hy : gly γ = gyX) (hR : grm γ = { frames := 21, cells := 1, slots := 6, locals := 551 }) (he : genv γ = ε) (hr : grt γ = (some .int)) (hE : gEnv ε) (hc9 : cs + 0 ≤ 1 ∧ ss + 0 ≤ 6) (K14 : gK) (h14 : gSm γ cs ss 14 K14) : gSm γ cs ss 27 (fX8_bestSettings_k27 N K14) := by
  unfold fX8_bestSettings_k27
  refine sm_lp (fun K27 h27 => ?_) N
  unfold fX8_bestSettings_b27
  refine sm_iload (pc := 27) G hb (by decide +kernel : decode cX8_bestSettings 27 = .ok (.iload 6, 2)) ?_
  refine sm_getsGS (pc := 29) G hb ho he hE gw4_76 (by decide +kernel : decode cX8_bestSettings 29 = .ok (.getstatic 162, 3)) ?_
  refine sm_iconst (pc := 32) G hb (by decide +kernel : decode cX8_bestSettings 32 = .ok (.iconst 3, 1)) (by decide) ?_
  refine sm_tld (pc := 33) G hb he hE (by decide +kernel : decode cX8_bestSettings 33 = .ok (.iaload, 1)) ?_
  refine sm_icmp_gt (pc := 34) (tgt := 133) G hb (by decide +kernel : decode cX8_bestSettings 34 = .ok (.if_icmp .gt 99, 3)) (by decide) ?_ ?_
  · skip
    refine sm_iinc (pc := 133) G hb (by decide +kernel : decode cX8_bestSettings 133 = .ok (.iinc 5 1, 3)) (by decide) ?_
    refine sm_goto (pc := 136) (tgt := 14) G hb (by decide +kernel : decode cX8_bestSettings 136 = .ok (.goto (-122), 3)) (by decide) ?_
    refine sm_mask ?_
    exact h14
  · skip
    refine sm_aload_n (pc := 37) G hb (by decide +kernel : decode cX8_bestSettings 37 = .ok (.aload_n 0, 1)) rfl ?_
    refine sm_get (pc := 38) (ci := 8) (j := 2) (N := 8) (T := TX8) G hb ho hy rfl (by decide) gin_8 gw2_102 (by decide +kernel : decode cX8_bestSettings 38 = .ok (.getfield 19, 3)) ?_
    refine sm_aload_n (pc := 41) G hb (by decide +kernel : decode cX8_bestSettings 41 = .ok (.aload_n 0, 1)) rfl ?_
    refine sm_get (pc := 42) (ci := 8) (j := 0) (N := 8) (T := TX8) G hb ho hy rfl (by decide) gin_8 gw2_100 (by decide +kernel : decode cX8_bestSettings 42 = .ok (.getfield 12, 3)) ?_
    refine sm_mono (cav_sub gV_sub) (sm_callV (pc := 45) (N := 4) (T := TX7) (C := RX7) G hb ho hy he hE.1 2 [41, 42, 43, 44, 45, 46, 47, 48, 49, 50, 51, 52, 53, 54, 55, 56, 57, 58, 59, 60, 1, 2, 3, 4, 5, 6, 7, 8, 9, 10, 11, 12, 13, 14, 15, 16, 17, 18, 19, 20] (kX7_copyFrom hE N) (gCo_of (by decide +kernel)) (by rw [hR]; exact ⟨by decide, by decide⟩) rfl rfl (by decide +kernel) gw3_67 gw3_37 gw3_38 gw1_2 gw3_39 (by decide +kernel : decode cX8_bestSettings 45 = .ok (.invokevirtual 213, 3)) ?_)
    refine sm_aload_n (pc := 48) G hb (by decide +kernel : decode cX8_bestSettings 48 = .ok (.aload_n 0, 1)) rfl ?_
    refine sm_get (pc := 49) (ci := 8) (j := 2) (N := 8) (T := TX8) G hb ho hy rfl (by decide) gin_8 gw2_102 (by decide +kernel : decode cX8_bestSettings 49 = .ok (.getfield 19, 3)) ?_
    refine sm_get (pc := 52) (ci := 7) (j := 0) (N := 4) (T := TX7) G hb ho hy rfl (by decide) gin_7 gw1_180 (by decide +kernel : decode cX8_bestSettings 52 = .ok (.getfield 50, 3)) ?_
    refine sm_get (pc := 55) (ci := 2) (j := 8) (N := 11) (T := TX2) G hb ho hy rfl (by decide) gin_2 gw1_84 (by decide +kernel : decode cX8_bestSettings 55 = .ok (.getfield 165, 3)) ?_
    refine sm_iconst (pc := 58) G hb (by decide +kernel : decode cX8_bestSettings 58 = .ok (.iconst 0, 1)) (by decide) ?_
    refine sm_iload (pc := 59) G hb (by decide +kernel : decode cX8_bestSettings 59 = .ok (.iload 5, 2)) ?_
    refine sm_iast (pc := 61) G hb hy (by decide +kernel : decode cX8_bestSettings 61 = .ok (.iastore, 1)) ?_
    refine sm_aload_n (pc := 62) G hb (by decide +kernel : decode cX8_bestSettings 62 = .ok (.aload_n 0, 1)) rfl ?_
    refine sm_get (pc := 63) (ci := 8) (j := 2) (N := 8) (T := TX8) G hb ho hy rfl (by decide) gin_8 gw2_102 (by decide +kernel : decode cX8_bestSettings 63 = .ok (.getfield 19, 3)) ?_
    refine sm_get (pc := 66) (ci := 7) (j := 0) (N := 4) (T := TX7) G hb ho hy rfl (by decide) gin_7 gw1_180 (by decide +kernel : decode cX8_bestSettings 66 = .ok (.getfield 50, 3)) ?_
    refine sm_get (pc := 69) (ci := 2) (j := 8) (N := 11) (T := TX2) G hb ho hy rfl (by decide) gin_2 gw1_84 (by decide +kernel : decode cX8_bestSettings 69 = .ok (.getfield 165, 3)) ?_
    refine sm_iconst (pc := 72) G hb (by decide +kernel : decode cX8_bestSettings 72 = .ok (.iconst 3, 1)) (by decide) ?_
    refine sm_iload (pc := 73) G hb (by decide +kernel : decode cX8_bestSettings 73 = .ok (.iload 6, 2)) ?_
    refine sm_iast (pc := 75) G hb hy (by decide +kernel : decode cX8_bestSettings 75 = .ok (.iastore, 1)) ?_
    refine sm_aload_n (pc := 76) G hb (by decide +kernel : decode cX8_bestSettings 76 = .ok (.aload_n 0, 1)) rfl ?_
    refine sm_get (pc := 77) (ci := 8) (j := 5) (N := 8) (T := TX8) G hb ho hy rfl (by decide) gin_8 gw2_105 (by decide +kernel : decode cX8_bestSettings 77 = .ok (.getfield 39, 3)) ?_
    refine sm_aload_n (pc := 80) G hb (by decide +kernel : decode cX8_bestSettings 80 = .ok (.aload_n 0, 1)) rfl ?_
    refine sm_get (pc := 81) (ci := 8) (j := 2) (N := 8) (T := TX8) G hb ho hy rfl (by decide) gin_8 gw2_102 (by decide +kernel : decode cX8_bestSettings 81 = .ok (.getfield 19, 3)) ?_
    refine sm_iload_n (pc := 84) G hb (by decide +kernel : decode cX8_bestSettings 84 = .ok (.iload_n 1, 1)) rfl ?_
    refine sm_mono (cav_sub gV_sub) (sm_callV (pc := 85) (N := 4) (T := TX6) (C := RX6) G hb ho hy he hE.1 3 [194, 195, 196, 197, 198, 199, 200, 41, 42, 43, 44, 45, 46, 47, 48, 49, 50, 51, 52, 53, 54, 55, 56, 57, 58, 59, 60] (kX6_passSlots hE N) (gCo_of (by decide +kernel)) (by rw [hR]; exact ⟨by decide, by decide⟩) rfl rfl (by decide +kernel) gw4_130 gw4_131 gw4_132 gw1_7 gw4_133 (by decide +kernel : decode cX8_bestSettings 85 = .ok (.invokevirtual 201, 3)) ?_)
    refine sm_aload_n (pc := 88) G hb (by decide +kernel : decode cX8_bestSettings 88 = .ok (.aload_n 0, 1)) rfl ?_
    refine sm_get (pc := 89) (ci := 8) (j := 2) (N := 8) (T := TX8) G hb ho hy rfl (by decide) gin_8 gw2_102 (by decide +kernel : decode cX8_bestSettings 89 = .ok (.getfield 19, 3)) ?_
    refine sm_get (pc := 92) (ci := 7) (j := 1) (N := 4) (T := TX7) G hb ho hy rfl (by decide) gin_7 gw1_186 (by decide +kernel : decode cX8_bestSettings 92 = .ok (.getfield 177, 3)) ?_
    refine sm_get (pc := 95) (ci := 4) (j := 2) (N := 12) (T := TX4) G hb ho hy rfl (by decide) gin_4 gw1_127 (by decide +kernel : decode cX8_bestSettings 95 = .ok (.getfield 270, 3)) ?_
    refine sm_mono (ca_sub gJ_sub) (sm_callS (pc := 98) G hb ho hy he hE.1 1 [54] (kX8_sumOfSquares hE N) (gCo_of (by decide +kernel)) (by rw [hR]; exact ⟨by decide, by decide⟩) (by decide +kernel) gw5_104 gw5_105 gw1_1 gw5_106 (by decide +kernel : decode cX8_bestSettings 98 = .ok (.invokestatic 298, 3)) ?_)
    refine sm_mask ?_
    exact fX8_bestSettings_s101 N G hb ho hy hR he hr hE (by omega) K14 h14 K27 h27
set_option maxRecDepth 100000 in
set_option maxHeartbeats 4000000 in
theorem fX8_bestSettings_s14 {γ : gG} {cs ss : Nat} {ε : gE5} (N : Nat) (G : gOK γ) (hb : gcc γ = cX8_bestSettings) (ho : gow γ = RX8) (hy : gly γ = gyX) (hR : grm γ = { frames := 21, cells := 1, slots := 6, locals := 551 }) (he : genv γ = ε) (hr : grt γ = (some .int)) (hE : gEnv ε) (hc9 : cs + 0 ≤ 1 ∧ ss + 0 ≤ 6) : gSm γ cs ss 14 (fX8_bestSettings_k14 N) := by
  unfold fX8_bestSettings_k14
  refine sm_lp (fun K14 h14 => ?_) N
  unfold fX8_bestSettings_b14
  refine sm_iload (pc := 14) G hb (by decide +kernel : decode cX8_bestSettings 14 = .ok (.iload 5, 2)) ?_
  refine sm_getsGS (pc := 16) G hb ho he hE gw4_76 (by decide +kernel : decode cX8_bestSettings 16 = .ok (.getstatic 162, 3)) ?_
  refine sm_iconst (pc := 19) G hb (by decide +kernel : decode cX8_bestSettings 19 = .ok (.iconst 0, 1)) (by decide) ?_
  refine sm_tld (pc := 20) G hb he hE (by decide +kernel : decode cX8_bestSettings 20 = .ok (.iaload, 1)) ?_
  refine sm_icmp_gt (pc := 21) (tgt := 139) G hb (by decide +kernel : decode cX8_bestSettings 21 = .ok (.if_icmp .gt 118, 3)) (by decide) ?_ ?_
  · skip
    refine sm_iload_n (pc := 139) G hb (by decide +kernel : decode cX8_bestSettings 139 = .ok (.iload_n 2, 1)) rfl ?_
    exact sm_iret (pc := 140) G hb (by decide +kernel : decode cX8_bestSettings 140 = .ok (.ireturn, 1)) hr
  · skip
    refine sm_iconst (pc := 24) G hb (by decide +kernel : decode cX8_bestSettings 24 = .ok (.iconst 0, 1)) (by decide) ?_
    refine sm_istore (pc := 25) G hb (by decide +kernel : decode cX8_bestSettings 25 = .ok (.istore 6, 2)) ?_
    refine sm_mask ?_
    exact fX8_bestSettings_s27 N G hb ho hy hR he hr hE (by omega) K14 h14
set_option maxRecDepth 100000 in
set_option maxHeartbeats 4000000 in
theorem fX8_bestSettings_s0 {γ : gG} {cs ss : Nat} {ε : gE5} (N : Nat) (G : gOK γ) (hb : gcc γ = cX8_bestSettings) (ho : gow γ = RX8) (hy : gly γ = gyX) (hR : grm γ = { frames := 21, cells := 1, slots := 6, locals := 551 }) (he : genv γ = ε) (hr : grt γ = (some .int)) (hE : gEnv ε) (hc9 : cs + 1 ≤ 1 ∧ ss + 6 ≤ 6) : gSm γ cs ss 0 (fX8_bestSettings_k0 N) := by
  unfold fX8_bestSettings_k0
  refine sm_iload_n (pc := 0) G hb (by decide +kernel : decode cX8_bestSettings 0 = .ok (.iload_n 1, 1)) rfl ?_
  refine sm_iconst (pc := 1) G hb (by decide +kernel : decode cX8_bestSettings 1 = .ok (.iconst 1, 1)) (by decide) ?_
  refine sm_bipush (pc := 2) G hb (by decide +kernel : decode cX8_bestSettings 2 = .ok (.bipush 50, 2)) (by decide) ?_
  refine sm_mono (xca_sub gXV_sub) (sm_xcallS (pc := 4) G hb ho hy he hE.1 3 [] (kX8_checkRange hE N) (gCo_of (by decide +kernel)) (by rw [hR]; exact ⟨by decide, by decide⟩) (by rw [hR]; exact ⟨by show _ ≤ 1; omega, by show _ ≤ 6; omega⟩) (by decide +kernel) gw3_184 gw3_185 gw1_1 gw3_186 (by decide +kernel : decode cX8_bestSettings 4 = .ok (.invokestatic 86, 3)) ?_)
  refine sm_iconst (pc := 7) G hb (by decide +kernel : decode cX8_bestSettings 7 = .ok (.iconst (-1), 1)) (by decide) ?_
  refine sm_istore_n (pc := 8) G hb (by decide +kernel : decode cX8_bestSettings 8 = .ok (.istore_n 2, 1)) rfl ?_
  refine sm_lconst (pc := 9) G hb (by decide +kernel : decode cX8_bestSettings 9 = .ok (.lconst 0, 1)) (by decide) ?_
  refine sm_lstore_n (pc := 10) G hb (by decide +kernel : decode cX8_bestSettings 10 = .ok (.lstore_n 3, 1)) rfl ?_
  refine sm_iconst (pc := 11) G hb (by decide +kernel : decode cX8_bestSettings 11 = .ok (.iconst 0, 1)) (by decide) ?_
  refine sm_istore (pc := 12) G hb (by decide +kernel : decode cX8_bestSettings 12 = .ok (.istore 5, 2)) ?_
  refine sm_mask ?_
  exact fX8_bestSettings_s14 N G hb ho hy hR he hr hE (by omega)
theorem kX8_bestSettings {ε : gE5} (hE : gEnv ε) (N : Nat) : gCtrX ε yX8_bestSettings cX8_bestSettings 9 (some .int) 21 551 1 6 gyX (fX8_bestSettings N) :=
  gCtrX_of hE.1 (by decide) (fun γ G hb ho hy hR he hr => fX8_bestSettings_s0 N G hb ho hy hR he hr hE (by omega))

set_option maxRecDepth 100000 in
set_option maxHeartbeats 4000000 in
theorem fX8_staysSmall_s27 {γ : gG} {cs ss : Nat} {ε : gE5} (N : Nat) (G : gOK γ) (hb : gcc γ = cX8_staysSmall) (ho : gow γ = RX8) (hy : gly γ = gyX) (hR : grm γ = { frames := 20, cells := 0, slots := 0, locals := 528 }) (he : genv γ = ε) (hr : grt γ = (some .boolean)) (hE : gEnv ε) : gSm γ cs ss 27 (fX8_staysSmall_k27 N) := by
  unfold fX8_staysSmall_k27
  refine sm_lp (fun K27 h27 => ?_) N
  unfold fX8_staysSmall_b27
  refine sm_iload (pc := 27) G hb (by decide +kernel : decode cX8_staysSmall 27 = .ok (.iload 4, 2)) ?_
  refine sm_iload_n (pc := 29) G hb (by decide +kernel : decode cX8_staysSmall 29 = .ok (.iload_n 3, 1)) rfl ?_
  refine sm_icmp_ge (pc := 30) (tgt := 67) G hb (by decide +kernel : decode cX8_staysSmall 30 = .ok (.if_icmp .ge 37, 3)) (by decide) ?_ ?_
  · skip
    refine sm_iconst (pc := 67) G hb (by decide +kernel : decode cX8_staysSmall 67 = .ok (.iconst 1, 1)) (by decide) ?_
    exact sm_zret (pc := 68) G hb (by decide +kernel : decode cX8_staysSmall 68 = .ok (.ireturn, 1)) hr
  · skip
    refine sm_aload_n (pc := 33) G hb (by decide +kernel : decode cX8_staysSmall 33 = .ok (.aload_n 0, 1)) rfl ?_
    refine sm_get (pc := 34) (ci := 8) (j := 5) (N := 8) (T := TX8) G hb ho hy rfl (by decide) gin_8 gw2_105 (by decide +kernel : decode cX8_staysSmall 34 = .ok (.getfield 39, 3)) ?_
    refine sm_aload_n (pc := 37) G hb (by decide +kernel : decode cX8_staysSmall 37 = .ok (.aload_n 0, 1)) rfl ?_
    refine sm_get (pc := 38) (ci := 8) (j := 2) (N := 8) (T := TX8) G hb ho hy rfl (by decide) gin_8 gw2_102 (by decide +kernel : decode cX8_staysSmall 38 = .ok (.getfield 19, 3)) ?_
    refine sm_mono (cav_sub gV_sub) (sm_callV (pc := 41) (N := 4) (T := TX6) (C := RX6) G hb ho hy he hE.1 2 [194, 195, 196, 197, 198, 199, 200, 41, 42, 43, 44, 45, 46, 47, 48, 49, 50, 51, 52, 53, 54, 55, 56, 57, 58, 59, 60] (kX6_passSlot hE N) (gCo_of (by decide +kernel)) (by rw [hR]; exact ⟨by decide, by decide⟩) rfl rfl (by decide +kernel) gw5_175 gw4_135 gw4_136 gw1_7 gw4_137 (by decide +kernel : decode cX8_staysSmall 41 = .ok (.invokevirtual 322, 3)) ?_)
    refine sm_aload_n (pc := 44) G hb (by decide +kernel : decode cX8_staysSmall 44 = .ok (.aload_n 0, 1)) rfl ?_
    refine sm_get (pc := 45) (ci := 8) (j := 2) (N := 8) (T := TX8) G hb ho hy rfl (by decide) gin_8 gw2_102 (by decide +kernel : decode cX8_staysSmall 45 = .ok (.getfield 19, 3)) ?_
    refine sm_get (pc := 48) (ci := 7) (j := 1) (N := 4) (T := TX7) G hb ho hy rfl (by decide) gin_7 gw1_186 (by decide +kernel : decode cX8_staysSmall 48 = .ok (.getfield 177, 3)) ?_
    refine sm_get (pc := 51) (ci := 4) (j := 11) (N := 12) (T := TX4) G hb ho hy rfl (by decide) gin_4 gw1_153 (by decide +kernel : decode cX8_staysSmall 51 = .ok (.getfield 205, 3)) ?_
    refine sm_bipush (pc := 54) G hb (by decide +kernel : decode cX8_staysSmall 54 = .ok (.bipush 100, 2)) (by decide) ?_
    refine sm_icmp_le (pc := 56) (tgt := 61) G hb (by decide +kernel : decode cX8_staysSmall 56 = .ok (.if_icmp .le 5, 3)) (by decide) ?_ ?_
    · skip
      refine sm_iinc (pc := 61) G hb (by decide +kernel : decode cX8_staysSmall 61 = .ok (.iinc 4 1, 3)) (by decide) ?_
      refine sm_goto (pc := 64) (tgt := 27) G hb (by decide +kernel : decode cX8_staysSmall 64 = .ok (.goto (-37), 3)) (by decide) ?_
      refine sm_mask ?_
      exact h27
    · skip
      refine sm_iconst (pc := 59) G hb (by decide +kernel : decode cX8_staysSmall 59 = .ok (.iconst 0, 1)) (by decide) ?_
      exact sm_zret (pc := 60) G hb (by decide +kernel : decode cX8_staysSmall 60 = .ok (.ireturn, 1)) hr
set_option maxRecDepth 100000 in
set_option maxHeartbeats 4000000 in
theorem fX8_staysSmall_s0 {γ : gG} {cs ss : Nat} {ε : gE5} (N : Nat) (G : gOK γ) (hb : gcc γ = cX8_staysSmall) (ho : gow γ = RX8) (hy : gly γ = gyX) (hR : grm γ = { frames := 20, cells := 0, slots := 0, locals := 528 }) (he : genv γ = ε) (hr : grt γ = (some .boolean)) (hE : gEnv ε) : gSm γ cs ss 0 (fX8_staysSmall_k0 N) := by
  unfold fX8_staysSmall_k0
  refine sm_aload_n (pc := 0) G hb (by decide +kernel : decode cX8_staysSmall 0 = .ok (.aload_n 0, 1)) rfl ?_
  refine sm_get (pc := 1) (ci := 8) (j := 2) (N := 8) (T := TX8) G hb ho hy rfl (by decide) gin_8 gw2_102 (by decide +kernel : decode cX8_staysSmall 1 = .ok (.getfield 19, 3)) ?_
  refine sm_aload_n (pc := 4) G hb (by decide +kernel : decode cX8_staysSmall 4 = .ok (.aload_n 0, 1)) rfl ?_
  refine sm_get (pc := 5) (ci := 8) (j := 0) (N := 8) (T := TX8) G hb ho hy rfl (by decide) gin_8 gw2_100 (by decide +kernel : decode cX8_staysSmall 5 = .ok (.getfield 12, 3)) ?_
  refine sm_mono (cav_sub gV_sub) (sm_callV (pc := 8) (N := 4) (T := TX7) (C := RX7) G hb ho hy he hE.1 2 [41, 42, 43, 44, 45, 46, 47, 48, 49, 50, 51, 52, 53, 54, 55, 56, 57, 58, 59, 60, 1, 2, 3, 4, 5, 6, 7, 8, 9, 10, 11, 12, 13, 14, 15, 16, 17, 18, 19, 20] (kX7_copyFrom hE N) (gCo_of (by decide +kernel)) (by rw [hR]; exact ⟨by decide, by decide⟩) rfl rfl (by decide +kernel) gw3_67 gw3_37 gw3_38 gw1_2 gw3_39 (by decide +kernel : decode cX8_staysSmall 8 = .ok (.invokevirtual 213, 3)) ?_)
  refine sm_aload_n (pc := 11) G hb (by decide +kernel : decode cX8_staysSmall 11 = .ok (.aload_n 0, 1)) rfl ?_
  refine sm_get (pc := 12) (ci := 8) (j := 2) (N := 8) (T := TX8) G hb ho hy rfl (by decide) gin_8 gw2_102 (by decide +kernel : decode cX8_staysSmall 12 = .ok (.getfield 19, 3)) ?_
  refine sm_get (pc := 15) (ci := 7) (j := 0) (N := 4) (T := TX7) G hb ho hy rfl (by decide) gin_7 gw1_180 (by decide +kernel : decode cX8_staysSmall 15 = .ok (.getfield 50, 3)) ?_
  refine sm_iload_n (pc := 18) G hb (by decide +kernel : decode cX8_staysSmall 18 = .ok (.iload_n 1, 1)) rfl ?_
  refine sm_iconst (pc := 19) G hb (by decide +kernel : decode cX8_staysSmall 19 = .ok (.iconst 2, 1)) (by decide) ?_
  refine sm_iload_n (pc := 20) G hb (by decide +kernel : decode cX8_staysSmall 20 = .ok (.iload_n 2, 1)) rfl ?_
  refine sm_mono (cav_sub gV_sub) (sm_callV (pc := 21) (N := 11) (T := TX2) (C := RX2) G hb ho hy he hE.1 4 [42, 43, 44, 45, 46, 47, 48, 49, 50] (kX2_putNumber hE N) (gCo_of (by decide +kernel)) (by rw [hR]; exact ⟨by decide, by decide⟩) rfl rfl (by decide +kernel) gw4_61 gw2_97 gw2_98 gw1_3 gw2_99 (by decide +kernel : decode cX8_staysSmall 21 = .ok (.invokevirtual 159, 3)) ?_)
  refine sm_iconst (pc := 24) G hb (by decide +kernel : decode cX8_staysSmall 24 = .ok (.iconst 0, 1)) (by decide) ?_
  refine sm_istore (pc := 25) G hb (by decide +kernel : decode cX8_staysSmall 25 = .ok (.istore 4, 2)) ?_
  refine sm_mask ?_
  exact fX8_staysSmall_s27 N G hb ho hy hR he hr hE
theorem kX8_staysSmall {ε : gE5} (hE : gEnv ε) (N : Nat) : gCtr ε yX8_staysSmall cX8_staysSmall 5 (some .boolean) 20 528 gyX (fX8_staysSmall N) :=
  gCtr_of hE.1 (by decide) (fun γ G hb ho hy hR he hr => fX8_staysSmall_s0 N G hb ho hy hR he hr hE)

set_option maxRecDepth 100000 in
set_option maxHeartbeats 4000000 in
theorem fX8_sustainable_s17 {γ : gG} {cs ss : Nat} {ε : gE5} (N : Nat) (G : gOK γ) (hb : gcc γ = cX8_sustainable) (ho : gow γ = RX8) (hy : gly γ = gyX) (hR : grm γ = { frames := 21, cells := 2, slots := 12, locals := 552 }) (he : genv γ = ε) (hr : grt γ = (some .int)) (hE : gEnv ε) (hc9 : cs + 0 ≤ 2 ∧ ss + 0 ≤ 12) : gSm γ cs ss 17 (fX8_sustainable_k17 N) := by
  unfold fX8_sustainable_k17
  refine sm_lp (fun K17 h17 => ?_) N
  unfold fX8_sustainable_b17
  refine sm_iload (pc := 17) G hb (by decide +kernel : decode cX8_sustainable 17 = .ok (.iload 4, 2)) ?_
  refine sm_sipush (pc := 19) G hb (by decide +kernel : decode cX8_sustainable 19 = .ok (.sipush 300, 3)) (by decide) ?_
  refine sm_icmp_gt (pc := 22) (tgt := 47) G hb (by decide +kernel : decode cX8_sustainable 22 = .ok (.if_icmp .gt 25, 3)) (by decide) ?_ ?_
  · skip
    refine sm_iload_n (pc := 47) G hb (by decide +kernel : decode cX8_sustainable 47 = .ok (.iload_n 3, 1)) rfl ?_
    exact sm_iret (pc := 48) G hb (by decide +kernel : decode cX8_sustainable 48 = .ok (.ireturn, 1)) hr
  · skip
    refine sm_aload_n (pc := 25) G hb (by decide +kernel : decode cX8_sustainable 25 = .ok (.aload_n 0, 1)) rfl ?_
    refine sm_iload_n (pc := 26) G hb (by decide +kernel : decode cX8_sustainable 26 = .ok (.iload_n 1, 1)) rfl ?_
    refine sm_iload (pc := 27) G hb (by decide +kernel : decode cX8_sustainable 27 = .ok (.iload 4, 2)) ?_
    refine sm_iload_n (pc := 29) G hb (by decide +kernel : decode cX8_sustainable 29 = .ok (.iload_n 2, 1)) rfl ?_
    refine sm_mono (cav_sub gI_sub) (sm_callV (pc := 30) (N := 8) (T := TX8) (C := RX8) G hb ho hy he hE.1 4 [0, 1, 2, 3, 4, 5, 6, 7, 8, 9, 10, 11, 12, 13, 14, 15, 16, 17, 18, 19, 20, 21, 22, 23, 24, 25, 26, 27, 28, 29, 30, 31, 32, 33, 34, 35, 36, 37, 38, 39, 40, 41, 42, 43, 44, 45, 46, 47, 48, 49, 50, 51, 52, 53, 54, 55, 56, 57, 58, 59, 60, 61, 62, 63, 64, 65, 66, 67, 68, 69, 70, 71, 72, 73, 74, 75, 76, 77, 78, 79, 80, 81, 82, 83, 84, 85, 86, 87, 88, 89, 90, 91, 92, 93, 94, 95, 96, 97, 98, 99, 100, 101, 102, 103, 104, 105, 106, 107, 108, 109, 110, 111, 112, 113, 114, 115, 116, 117, 118, 119, 120, 121, 122, 123, 124, 125, 126, 127, 128, 129, 130, 131, 132, 133, 134, 135, 136, 137, 138, 139, 140, 141, 142, 143, 144, 145, 146, 147, 148, 149, 150, 151, 152, 153, 154, 155, 156, 157, 158, 159, 160, 161, 162, 163, 164, 165, 166, 167, 168, 169, 170, 171, 172, 173, 174, 175, 176, 177, 178, 179, 180, 181, 182, 183, 184, 185, 186, 187, 188, 189, 190, 191, 192, 193, 194, 195, 196, 197, 198, 199, 200, 201, 202, 203] (kX8_staysSmall hE N) (gCo_of (by decide +kernel)) (by rw [hR]; exact ⟨by decide, by decide⟩) rfl rfl (by decide +kernel) gw5_209 gw5_211 gw0_31 gw1_1 gw5_212 (by decide +kernel : decode cX8_sustainable 30 = .ok (.invokevirtual 330, 3)) ?_)
    refine sm_if_ne (pc := 33) (tgt := 38) G hb (by decide +kernel : decode cX8_sustainable 33 = .ok (.ifCond .ne 5, 3)) (by decide) ?_ ?_
    · skip
      refine sm_iload (pc := 38) G hb (by decide +kernel : decode cX8_sustainable 38 = .ok (.iload 4, 2)) ?_
      refine sm_istore_n (pc := 40) G hb (by decide +kernel : decode cX8_sustainable 40 = .ok (.istore_n 3, 1)) rfl ?_
      refine sm_iinc (pc := 41) G hb (by decide +kernel : decode cX8_sustainable 41 = .ok (.iinc 4 1, 3)) (by decide) ?_
      refine sm_goto (pc := 44) (tgt := 17) G hb (by decide +kernel : decode cX8_sustainable 44 = .ok (.goto (-27), 3)) (by decide) ?_
      refine sm_mask ?_
      exact h17
    · skip
      refine sm_iload_n (pc := 36) G hb (by decide +kernel : decode cX8_sustainable 36 = .ok (.iload_n 3, 1)) rfl ?_
      exact sm_iret (pc := 37) G hb (by decide +kernel : decode cX8_sustainable 37 = .ok (.ireturn, 1)) hr
set_option maxRecDepth 100000 in
set_option maxHeartbeats 4000000 in
theorem fX8_sustainable_s0 {γ : gG} {cs ss : Nat} {ε : gE5} (N : Nat) (G : gOK γ) (hb : gcc γ = cX8_sustainable) (ho : gow γ = RX8) (hy : gly γ = gyX) (hR : grm γ = { frames := 21, cells := 2, slots := 12, locals := 552 }) (he : genv γ = ε) (hr : grt γ = (some .int)) (hE : gEnv ε) (hc9 : cs + 2 ≤ 2 ∧ ss + 12 ≤ 12) : gSm γ cs ss 0 (fX8_sustainable_k0 N) := by
  unfold fX8_sustainable_k0
  refine sm_aload_n (pc := 0) G hb (by decide +kernel : decode cX8_sustainable 0 = .ok (.aload_n 0, 1)) rfl ?_
  refine sm_iload_n (pc := 1) G hb (by decide +kernel : decode cX8_sustainable 1 = .ok (.iload_n 1, 1)) rfl ?_
  refine sm_mono (xcav_sub gXV_sub) (sm_xcallV (pc := 2) (N := 8) (T := TX8) (C := RX8) G hb ho hy he hE.1 2 [0, 1, 2, 3, 4, 5, 6, 7, 8, 9, 10, 11, 12, 13, 14, 15, 16, 17, 18, 19, 20, 21, 22, 23, 24, 25, 26, 27, 28, 29, 30, 31, 32, 33, 34, 35, 36, 37, 38, 39, 40, 41, 42, 43, 44, 45, 46, 47, 48, 49, 50, 51, 52, 53, 54, 55, 56, 57, 58, 59, 60, 61, 62, 63, 64, 65, 66, 67, 68, 69, 70, 71, 72, 73, 74, 75, 76, 77, 78, 79, 80, 81, 82, 83, 84, 85, 86, 87, 88, 89, 90, 91, 92, 93, 94, 95, 96, 97, 98, 99, 100, 101, 102, 103, 104, 105, 106, 107, 108, 109, 110, 111, 112, 113, 114, 115, 116, 117, 118, 119, 120, 121, 122, 123, 124, 125, 126, 127, 128, 129, 130, 131, 132, 133, 134, 135, 136, 137, 138, 139, 140, 141, 142, 143, 144, 145, 146, 147, 148, 149, 150, 151, 152, 153, 154, 155, 156, 157, 158, 159, 160, 161, 162, 163, 164, 165, 166, 167, 168, 169, 170, 171, 172, 173, 174, 175, 176, 177, 178, 179, 180, 181, 182, 183, 184, 185, 186, 187, 188, 189, 190, 191, 192, 193, 194, 195, 196, 197, 198, 199, 200, 201, 202, 203] (kX8_checkFlow hE N) (gCo_of (by decide +kernel)) (by rw [hR]; exact ⟨by decide, by decide⟩) (by rw [hR]; exact ⟨by show _ ≤ 2; omega, by show _ ≤ 12; omega⟩) rfl rfl (by decide +kernel) gw4_52 gw4_54 gw0_21 gw1_1 gw4_55 (by decide +kernel : decode cX8_sustainable 2 = .ok (.invokevirtual 149, 3)) ?_)
  refine sm_iload_n (pc := 5) G hb (by decide +kernel : decode cX8_sustainable 5 = .ok (.iload_n 2, 1)) rfl ?_
  refine sm_iconst (pc := 6) G hb (by decide +kernel : decode cX8_sustainable 6 = .ok (.iconst 1, 1)) (by decide) ?_
  refine sm_bipush (pc := 7) G hb (by decide +kernel : decode cX8_sustainable 7 = .ok (.bipush 20, 2)) (by decide) ?_
  refine sm_mono (xca_sub gXV_sub) (sm_xcallS (pc := 9) G hb ho hy he hE.1 3 [] (kX8_checkRange hE N) (gCo_of (by decide +kernel)) (by rw [hR]; exact ⟨by decide, by decide⟩) (by rw [hR]; exact ⟨by show _ ≤ 2; omega, by show _ ≤ 12; omega⟩) (by decide +kernel) gw3_184 gw3_185 gw1_1 gw3_186 (by decide +kernel : decode cX8_sustainable 9 = .ok (.invokestatic 86, 3)) ?_)
  refine sm_iconst (pc := 12) G hb (by decide +kernel : decode cX8_sustainable 12 = .ok (.iconst (-1), 1)) (by decide) ?_
  refine sm_istore_n (pc := 13) G hb (by decide +kernel : decode cX8_sustainable 13 = .ok (.istore_n 3, 1)) rfl ?_
  refine sm_iconst (pc := 14) G hb (by decide +kernel : decode cX8_sustainable 14 = .ok (.iconst 0, 1)) (by decide) ?_
  refine sm_istore (pc := 15) G hb (by decide +kernel : decode cX8_sustainable 15 = .ok (.istore 4, 2)) ?_
  refine sm_mask ?_
  exact fX8_sustainable_s17 N G hb ho hy hR he hr hE (by omega)
theorem kX8_sustainable {ε : gE5} (hE : gEnv ε) (N : Nat) : gCtrX ε yX8_sustainable cX8_sustainable 5 (some .int) 21 552 2 12 gyX (fX8_sustainable N) :=
  gCtrX_of hE.1 (by decide) (fun γ G hb ho hy hR he hr => fX8_sustainable_s0 N G hb ho hy hR he hr hE (by omega))
