set_option maxRecDepth 100000 in
set_option maxHeartbeats 4000000 in
theorem fX8_conflicts_s0 {γ : gG} {cs ss : Nat} {ε : gE5} (N : Nat) (G : gOK γ) (hb : gcc γ = cX8_conflicts) (ho : gow γ = RX8) (hy : gly γ = gyX) (hR : grm γ = { frames := 7, cells := 1, slots := 6, locals := 111 }) (he : genv γ = ε) (hr : grt γ = (some .int)) (hE : gEnv ε) (hc9 : cs + 1 ≤ 1 ∧ ss + 6 ≤ 6) : gSm γ cs ss 0 (fX8_conflicts_k0 N) := by
  unfold fX8_conflicts_k0
  refine sm_aload_n (pc := 0) G hb (by decide +kernel : decode cX8_conflicts 0 = .ok (.aload_n 0, 1)) rfl ?_
  refine sm_iload_n (pc := 1) G hb (by decide +kernel : decode cX8_conflicts 1 = .ok (.iload_n 1, 1)) rfl ?_
  refine sm_mono (xcav_sub gXV_sub) (sm_xcallV (pc := 2) (N := 8) (T := TX8) (C := RX8) G hb ho hy he hE.1 2 [0, 1, 2, 3, 4, 5, 6, 7, 8, 9, 10, 11, 12, 13, 14, 15, 16, 17, 18, 19, 20, 21, 22, 23, 24, 25, 26, 27, 28, 29, 30, 31, 32, 33, 34, 35, 36, 37, 38, 39, 40, 41, 42, 43, 44, 45, 46, 47, 48, 49, 50, 51, 52, 53, 54, 55, 56, 57, 58, 59, 60, 61, 62, 63, 64, 65, 66, 67, 68, 69, 70, 71, 72, 73, 74, 75, 76, 77, 78, 79, 80, 81, 82, 83, 84, 85, 86, 87, 88, 89, 90, 91, 92, 93, 94, 95, 96, 97, 98, 99, 100, 101, 102, 103, 104, 105, 106, 107, 108, 109, 110, 111, 112, 113, 114, 115, 116, 117, 118, 119, 120, 121, 122, 123, 124, 125, 126, 127, 128, 129, 130, 131, 132, 133, 134, 135, 136, 137, 138, 139, 140, 141, 142, 143, 144, 145, 146, 147, 148, 149, 150, 151, 152, 153, 154, 155, 156, 157, 158, 159, 160, 161, 162, 163, 164, 165, 166, 167, 168, 169, 170, 171, 172, 173, 174, 175, 176, 177, 178, 179, 180, 181, 182, 183, 184, 185, 186, 187, 188, 189, 190, 191, 192, 193, 194, 195, 196, 197, 198, 199, 200, 201, 202, 203] (kX8_checkLink hE N) (gCo_of (by decide +kernel)) (by rw [hR]; exact ⟨by decide, by decide⟩) (by rw [hR]; exact ⟨by show _ ≤ 1; omega, by show _ ≤ 6; omega⟩) rfl rfl (by decide +kernel) gw4_22 gw4_24 gw0_20 gw1_1 gw4_25 (by decide +kernel : decode cX8_conflicts 2 = .ok (.invokevirtual 127, 3)) ?_)
  refine sm_aload_n (pc := 5) G hb (by decide +kernel : decode cX8_conflicts 5 = .ok (.aload_n 0, 1)) rfl ?_
  refine sm_get (pc := 6) (ci := 8) (j := 0) (N := 8) (T := TX8) G hb ho hy rfl (by decide) gin_8 gw2_100 (by decide +kernel : decode cX8_conflicts 6 = .ok (.getfield 12, 3)) ?_
  refine sm_get (pc := 9) (ci := 7) (j := 0) (N := 4) (T := TX7) G hb ho hy rfl (by decide) gin_7 gw1_180 (by decide +kernel : decode cX8_conflicts 9 = .ok (.getfield 50, 3)) ?_
  refine sm_get (pc := 12) (ci := 2) (j := 7) (N := 11) (T := TX2) G hb ho hy rfl (by decide) gin_2 gw1_80 (by decide +kernel : decode cX8_conflicts 12 = .ok (.getfield 253, 3)) ?_
  refine sm_iload_n (pc := 15) G hb (by decide +kernel : decode cX8_conflicts 15 = .ok (.iload_n 1, 1)) rfl ?_
  refine sm_iald (pc := 16) G hb hy (by decide +kernel : decode cX8_conflicts 16 = .ok (.iaload, 1)) ?_
  exact sm_iret (pc := 17) G hb (by decide +kernel : decode cX8_conflicts 17 = .ok (.ireturn, 1)) hr
theorem kX8_conflicts {ε : gE5} (hE : gEnv ε) (N : Nat) : gCtrX ε yX8_conflicts cX8_conflicts 2 (some .int) 7 111 1 6 gyX (fX8_conflicts N) :=
  gCtrX_of hE.1 (by decide) (fun γ G hb ho hy hR he hr => fX8_conflicts_s0 N G hb ho hy hR he hr hE (by omega))

set_option maxRecDepth 100000 in
set_option maxHeartbeats 4000000 in
theorem fX8_flow_s0 {γ : gG} {cs ss : Nat} {ε : gE5} (N : Nat) (G : gOK γ) (hb : gcc γ = cX8_flow) (ho : gow γ = RX8) (hy : gly γ = gyX) (hR : grm γ = { frames := 7, cells := 2, slots := 12, locals := 112 }) (he : genv γ = ε) (hr : grt γ = (some .int)) (hE : gEnv ε) (hc9 : cs + 2 ≤ 2 ∧ ss + 12 ≤ 12) : gSm γ cs ss 0 (fX8_flow_k0 N) := by
  unfold fX8_flow_k0
  refine sm_aload_n (pc := 0) G hb (by decide +kernel : decode cX8_flow 0 = .ok (.aload_n 0, 1)) rfl ?_
  refine sm_iload_n (pc := 1) G hb (by decide +kernel : decode cX8_flow 1 = .ok (.iload_n 1, 1)) rfl ?_
  refine sm_mono (xcav_sub gXV_sub) (sm_xcallV (pc := 2) (N := 8) (T := TX8) (C := RX8) G hb ho hy he hE.1 2 [0, 1, 2, 3, 4, 5, 6, 7, 8, 9, 10, 11, 12, 13, 14, 15, 16, 17, 18, 19, 20, 21, 22, 23, 24, 25, 26, 27, 28, 29, 30, 31, 32, 33, 34, 35, 36, 37, 38, 39, 40, 41, 42, 43, 44, 45, 46, 47, 48, 49, 50, 51, 52, 53, 54, 55, 56, 57, 58, 59, 60, 61, 62, 63, 64, 65, 66, 67, 68, 69, 70, 71, 72, 73, 74, 75, 76, 77, 78, 79, 80, 81, 82, 83, 84, 85, 86, 87, 88, 89, 90, 91, 92, 93, 94, 95, 96, 97, 98, 99, 100, 101, 102, 103, 104, 105, 106, 107, 108, 109, 110, 111, 112, 113, 114, 115, 116, 117, 118, 119, 120, 121, 122, 123, 124, 125, 126, 127, 128, 129, 130, 131, 132, 133, 134, 135, 136, 137, 138, 139, 140, 141, 142, 143, 144, 145, 146, 147, 148, 149, 150, 151, 152, 153, 154, 155, 156, 157, 158, 159, 160, 161, 162, 163, 164, 165, 166, 167, 168, 169, 170, 171, 172, 173, 174, 175, 176, 177, 178, 179, 180, 181, 182, 183, 184, 185, 186, 187, 188, 189, 190, 191, 192, 193, 194, 195, 196, 197, 198, 199, 200, 201, 202, 203] (kX8_checkFlow hE N) (gCo_of (by decide +kernel)) (by rw [hR]; exact ⟨by decide, by decide⟩) (by rw [hR]; exact ⟨by show _ ≤ 2; omega, by show _ ≤ 12; omega⟩) rfl rfl (by decide +kernel) gw4_52 gw4_54 gw0_21 gw1_1 gw4_55 (by decide +kernel : decode cX8_flow 2 = .ok (.invokevirtual 149, 3)) ?_)
  refine sm_iload_n (pc := 5) G hb (by decide +kernel : decode cX8_flow 5 = .ok (.iload_n 2, 1)) rfl ?_
  refine sm_iconst (pc := 6) G hb (by decide +kernel : decode cX8_flow 6 = .ok (.iconst 0, 1)) (by decide) ?_
  refine sm_bipush (pc := 7) G hb (by decide +kernel : decode cX8_flow 7 = .ok (.bipush 10, 2)) (by decide) ?_
  refine sm_mono (xca_sub gXV_sub) (sm_xcallS (pc := 9) G hb ho hy he hE.1 3 [] (kX8_checkRange hE N) (gCo_of (by decide +kernel)) (by rw [hR]; exact ⟨by decide, by decide⟩) (by rw [hR]; exact ⟨by show _ ≤ 2; omega, by show _ ≤ 12; omega⟩) (by decide +kernel) gw3_184 gw3_185 gw1_1 gw3_186 (by decide +kernel : decode cX8_flow 9 = .ok (.invokestatic 86, 3)) ?_)
  refine sm_aload_n (pc := 12) G hb (by decide +kernel : decode cX8_flow 12 = .ok (.aload_n 0, 1)) rfl ?_
  refine sm_get (pc := 13) (ci := 8) (j := 0) (N := 8) (T := TX8) G hb ho hy rfl (by decide) gin_8 gw2_100 (by decide +kernel : decode cX8_flow 13 = .ok (.getfield 12, 3)) ?_
  refine sm_get (pc := 16) (ci := 7) (j := 0) (N := 4) (T := TX7) G hb ho hy rfl (by decide) gin_7 gw1_180 (by decide +kernel : decode cX8_flow 16 = .ok (.getfield 50, 3)) ?_
  refine sm_iload_n (pc := 19) G hb (by decide +kernel : decode cX8_flow 19 = .ok (.iload_n 1, 1)) rfl ?_
  refine sm_iload_n (pc := 20) G hb (by decide +kernel : decode cX8_flow 20 = .ok (.iload_n 2, 1)) rfl ?_
  refine sm_mono (cav_sub gI_sub) (sm_callV (pc := 21) (N := 11) (T := TX2) (C := RX2) G hb ho hy he hE.1 3 [2, 3, 4, 5, 6, 7, 8, 9, 10] (kX2_getNumber hE N) (gCo_of (by decide +kernel)) (by rw [hR]; exact ⟨by decide, by decide⟩) rfl rfl (by decide +kernel) gw3_72 gw3_73 gw3_74 gw1_3 gw3_75 (by decide +kernel : decode cX8_flow 21 = .ok (.invokevirtual 156, 3)) ?_)
  exact sm_iret (pc := 24) G hb (by decide +kernel : decode cX8_flow 24 = .ok (.ireturn, 1)) hr
theorem kX8_flow {ε : gE5} (hE : gEnv ε) (N : Nat) : gCtrX ε yX8_flow cX8_flow 3 (some .int) 7 112 2 12 gyX (fX8_flow N) :=
  gCtrX_of hE.1 (by decide) (fun γ G hb ho hy hR he hr => fX8_flow_s0 N G hb ho hy hR he hr hE (by omega))

set_option maxRecDepth 100000 in
set_option maxHeartbeats 4000000 in
theorem fX8_hops_s0 {γ : gG} {cs ss : Nat} {ε : gE5} (N : Nat) (G : gOK γ) (hb : gcc γ = cX8_hops) (ho : gow γ = RX8) (hy : gly γ = gyX) (hR : grm γ = { frames := 7, cells := 2, slots := 12, locals := 111 }) (he : genv γ = ε) (hr : grt γ = (some .int)) (hE : gEnv ε) (hc9 : cs + 2 ≤ 2 ∧ ss + 12 ≤ 12) : gSm γ cs ss 0 (fX8_hops_k0 N) := by
  unfold fX8_hops_k0
  refine sm_aload_n (pc := 0) G hb (by decide +kernel : decode cX8_hops 0 = .ok (.aload_n 0, 1)) rfl ?_
  refine sm_iload_n (pc := 1) G hb (by decide +kernel : decode cX8_hops 1 = .ok (.iload_n 1, 1)) rfl ?_
  refine sm_mono (xcav_sub gXV_sub) (sm_xcallV (pc := 2) (N := 8) (T := TX8) (C := RX8) G hb ho hy he hE.1 2 [0, 1, 2, 3, 4, 5, 6, 7, 8, 9, 10, 11, 12, 13, 14, 15, 16, 17, 18, 19, 20, 21, 22, 23, 24, 25, 26, 27, 28, 29, 30, 31, 32, 33, 34, 35, 36, 37, 38, 39, 40, 41, 42, 43, 44, 45, 46, 47, 48, 49, 50, 51, 52, 53, 54, 55, 56, 57, 58, 59, 60, 61, 62, 63, 64, 65, 66, 67, 68, 69, 70, 71, 72, 73, 74, 75, 76, 77, 78, 79, 80, 81, 82, 83, 84, 85, 86, 87, 88, 89, 90, 91, 92, 93, 94, 95, 96, 97, 98, 99, 100, 101, 102, 103, 104, 105, 106, 107, 108, 109, 110, 111, 112, 113, 114, 115, 116, 117, 118, 119, 120, 121, 122, 123, 124, 125, 126, 127, 128, 129, 130, 131, 132, 133, 134, 135, 136, 137, 138, 139, 140, 141, 142, 143, 144, 145, 146, 147, 148, 149, 150, 151, 152, 153, 154, 155, 156, 157, 158, 159, 160, 161, 162, 163, 164, 165, 166, 167, 168, 169, 170, 171, 172, 173, 174, 175, 176, 177, 178, 179, 180, 181, 182, 183, 184, 185, 186, 187, 188, 189, 190, 191, 192, 193, 194, 195, 196, 197, 198, 199, 200, 201, 202, 203] (kX8_checkNode hE N) (gCo_of (by decide +kernel)) (by rw [hR]; exact ⟨by decide, by decide⟩) (by rw [hR]; exact ⟨by show _ ≤ 2; omega, by show _ ≤ 12; omega⟩) rfl rfl (by decide +kernel) gw3_232 gw3_234 gw0_19 gw1_1 gw3_235 (by decide +kernel : decode cX8_hops 2 = .ok (.invokevirtual 256, 3)) ?_)
  refine sm_aload_n (pc := 5) G hb (by decide +kernel : decode cX8_hops 5 = .ok (.aload_n 0, 1)) rfl ?_
  refine sm_iload_n (pc := 6) G hb (by decide +kernel : decode cX8_hops 6 = .ok (.iload_n 2, 1)) rfl ?_
  refine sm_mono (xcav_sub gXV_sub) (sm_xcallV (pc := 7) (N := 8) (T := TX8) (C := RX8) G hb ho hy he hE.1 2 [0, 1, 2, 3, 4, 5, 6, 7, 8, 9, 10, 11, 12, 13, 14, 15, 16, 17, 18, 19, 20, 21, 22, 23, 24, 25, 26, 27, 28, 29, 30, 31, 32, 33, 34, 35, 36, 37, 38, 39, 40, 41, 42, 43, 44, 45, 46, 47, 48, 49, 50, 51, 52, 53, 54, 55, 56, 57, 58, 59, 60, 61, 62, 63, 64, 65, 66, 67, 68, 69, 70, 71, 72, 73, 74, 75, 76, 77, 78, 79, 80, 81, 82, 83, 84, 85, 86, 87, 88, 89, 90, 91, 92, 93, 94, 95, 96, 97, 98, 99, 100, 101, 102, 103, 104, 105, 106, 107, 108, 109, 110, 111, 112, 113, 114, 115, 116, 117, 118, 119, 120, 121, 122, 123, 124, 125, 126, 127, 128, 129, 130, 131, 132, 133, 134, 135, 136, 137, 138, 139, 140, 141, 142, 143, 144, 145, 146, 147, 148, 149, 150, 151, 152, 153, 154, 155, 156, 157, 158, 159, 160, 161, 162, 163, 164, 165, 166, 167, 168, 169, 170, 171, 172, 173, 174, 175, 176, 177, 178, 179, 180, 181, 182, 183, 184, 185, 186, 187, 188, 189, 190, 191, 192, 193, 194, 195, 196, 197, 198, 199, 200, 201, 202, 203] (kX8_checkNode hE N) (gCo_of (by decide +kernel)) (by rw [hR]; exact ⟨by decide, by decide⟩) (by rw [hR]; exact ⟨by show _ ≤ 2; omega, by show _ ≤ 12; omega⟩) rfl rfl (by decide +kernel) gw3_232 gw3_234 gw0_19 gw1_1 gw3_235 (by decide +kernel : decode cX8_hops 7 = .ok (.invokevirtual 256, 3)) ?_)
  refine sm_aload_n (pc := 10) G hb (by decide +kernel : decode cX8_hops 10 = .ok (.aload_n 0, 1)) rfl ?_
  refine sm_get (pc := 11) (ci := 8) (j := 0) (N := 8) (T := TX8) G hb ho hy rfl (by decide) gin_8 gw2_100 (by decide +kernel : decode cX8_hops 11 = .ok (.getfield 12, 3)) ?_
  refine sm_get (pc := 14) (ci := 7) (j := 0) (N := 4) (T := TX7) G hb ho hy rfl (by decide) gin_7 gw1_180 (by decide +kernel : decode cX8_hops 14 = .ok (.getfield 50, 3)) ?_
  refine sm_get (pc := 17) (ci := 2) (j := 10) (N := 11) (T := TX2) G hb ho hy rfl (by decide) gin_2 gw1_89 (by decide +kernel : decode cX8_hops 17 = .ok (.getfield 259, 3)) ?_
  refine sm_iload_n (pc := 20) G hb (by decide +kernel : decode cX8_hops 20 = .ok (.iload_n 1, 1)) rfl ?_
  refine sm_iload_n (pc := 21) G hb (by decide +kernel : decode cX8_hops 21 = .ok (.iload_n 2, 1)) rfl ?_
  refine sm_mono (ca_sub gI_sub) (sm_callS (pc := 22) G hb ho hy he hE.1 2 [] (kX8_pair hE N) (gCo_of (by decide +kernel)) (by rw [hR]; exact ⟨by decide, by decide⟩) (by decide +kernel) gw4_109 gw2_82 gw1_1 gw2_83 (by decide +kernel : decode cX8_hops 22 = .ok (.invokestatic 171, 3)) ?_)
  refine sm_iald (pc := 25) G hb hy (by decide +kernel : decode cX8_hops 25 = .ok (.iaload, 1)) ?_
  exact sm_iret (pc := 26) G hb (by decide +kernel : decode cX8_hops 26 = .ok (.ireturn, 1)) hr
theorem kX8_hops {ε : gE5} (hE : gEnv ε) (N : Nat) : gCtrX ε yX8_hops cX8_hops 3 (some .int) 7 111 2 12 gyX (fX8_hops N) :=
  gCtrX_of hE.1 (by decide) (fun γ G hb ho hy hR he hr => fX8_hops_s0 N G hb ho hy hR he hr hE (by omega))

set_option maxRecDepth 100000 in
set_option maxHeartbeats 4000000 in
theorem fX8_maxFlow_s0 {γ : gG} {cs ss : Nat} {ε : gE5} (N : Nat) (G : gOK γ) (hb : gcc γ = cX8_maxFlow) (ho : gow γ = RX8) (hy : gly γ = gyX) (hR : grm γ = { frames := 8, cells := 3, slots := 18, locals := 133 }) (he : genv γ = ε) (hr : grt γ = (some .int)) (hE : gEnv ε) (hc9 : cs + 3 ≤ 3 ∧ ss + 18 ≤ 18) : gSm γ cs ss 0 (fX8_maxFlow_k0 N) := by
  unfold fX8_maxFlow_k0
  refine sm_aload_n (pc := 0) G hb (by decide +kernel : decode cX8_maxFlow 0 = .ok (.aload_n 0, 1)) rfl ?_
  refine sm_iload_n (pc := 1) G hb (by decide +kernel : decode cX8_maxFlow 1 = .ok (.iload_n 1, 1)) rfl ?_
  refine sm_iload_n (pc := 2) G hb (by decide +kernel : decode cX8_maxFlow 2 = .ok (.iload_n 2, 1)) rfl ?_
  refine sm_mono (xcav_sub gXV_sub) (sm_xcallV (pc := 3) (N := 8) (T := TX8) (C := RX8) G hb ho hy he hE.1 3 [0, 1, 2, 3, 4, 5, 6, 7, 8, 9, 10, 11, 12, 13, 14, 15, 16, 17, 18, 19, 20, 21, 22, 23, 24, 25, 26, 27, 28, 29, 30, 31, 32, 33, 34, 35, 36, 37, 38, 39, 40, 41, 42, 43, 44, 45, 46, 47, 48, 49, 50, 51, 52, 53, 54, 55, 56, 57, 58, 59, 60, 61, 62, 63, 64, 65, 66, 67, 68, 69, 70, 71, 72, 73, 74, 75, 76, 77, 78, 79, 80, 81, 82, 83, 84, 85, 86, 87, 88, 89, 90, 91, 92, 93, 94, 95, 96, 97, 98, 99, 100, 101, 102, 103, 104, 105, 106, 107, 108, 109, 110, 111, 112, 113, 114, 115, 116, 117, 118, 119, 120, 121, 122, 123, 124, 125, 126, 127, 128, 129, 130, 131, 132, 133, 134, 135, 136, 137, 138, 139, 140, 141, 142, 143, 144, 145, 146, 147, 148, 149, 150, 151, 152, 153, 154, 155, 156, 157, 158, 159, 160, 161, 162, 163, 164, 165, 166, 167, 168, 169, 170, 171, 172, 173, 174, 175, 176, 177, 178, 179, 180, 181, 182, 183, 184, 185, 186, 187, 188, 189, 190, 191, 192, 193, 194, 195, 196, 197, 198, 199, 200, 201, 202, 203] (kX8_checkTwoNodes hE N) (gCo_of (by decide +kernel)) (by rw [hR]; exact ⟨by decide, by decide⟩) (by rw [hR]; exact ⟨by show _ ≤ 3; omega, by show _ ≤ 18; omega⟩) rfl rfl (by decide +kernel) gw3_228 gw3_230 gw0_18 gw1_1 gw3_231 (by decide +kernel : decode cX8_maxFlow 3 = .ok (.invokevirtual 113, 3)) ?_)
  refine sm_aload_n (pc := 6) G hb (by decide +kernel : decode cX8_maxFlow 6 = .ok (.aload_n 0, 1)) rfl ?_
  refine sm_get (pc := 7) (ci := 8) (j := 6) (N := 8) (T := TX8) G hb ho hy rfl (by decide) gin_8 gw2_106 (by decide +kernel : decode cX8_maxFlow 7 = .ok (.getfield 46, 3)) ?_
  refine sm_aload_n (pc := 10) G hb (by decide +kernel : decode cX8_maxFlow 10 = .ok (.aload_n 0, 1)) rfl ?_
  refine sm_get (pc := 11) (ci := 8) (j := 0) (N := 8) (T := TX8) G hb ho hy rfl (by decide) gin_8 gw2_100 (by decide +kernel : decode cX8_maxFlow 11 = .ok (.getfield 12, 3)) ?_
  refine sm_get (pc := 14) (ci := 7) (j := 0) (N := 4) (T := TX7) G hb ho hy rfl (by decide) gin_7 gw1_180 (by decide +kernel : decode cX8_maxFlow 14 = .ok (.getfield 50, 3)) ?_
  refine sm_iload_n (pc := 17) G hb (by decide +kernel : decode cX8_maxFlow 17 = .ok (.iload_n 1, 1)) rfl ?_
  refine sm_iload_n (pc := 18) G hb (by decide +kernel : decode cX8_maxFlow 18 = .ok (.iload_n 2, 1)) rfl ?_
  refine sm_mono (cav_sub gV_sub) (sm_callV (pc := 19) (N := 4) (T := TX0) (C := RX0) G hb ho hy he hE.1 4 [201, 202, 203, 2, 3, 4, 5, 6, 7, 8, 9, 10] (kX0_find hE N) (gCo_of (by decide +kernel)) (by rw [hR]; exact ⟨by decide, by decide⟩) rfl rfl (by decide +kernel) gw3_76 gw3_77 gw3_78 gw1_9 gw3_79 (by decide +kernel : decode cX8_maxFlow 19 = .ok (.invokevirtual 262, 3)) ?_)
  refine sm_aload_n (pc := 22) G hb (by decide +kernel : decode cX8_maxFlow 22 = .ok (.aload_n 0, 1)) rfl ?_
  refine sm_get (pc := 23) (ci := 8) (j := 6) (N := 8) (T := TX8) G hb ho hy rfl (by decide) gin_8 gw2_106 (by decide +kernel : decode cX8_maxFlow 23 = .ok (.getfield 46, 3)) ?_
  refine sm_get (pc := 26) (ci := 0) (j := 2) (N := 4) (T := TX0) G hb ho hy rfl (by decide) gin_0 gw2_62 (by decide +kernel : decode cX8_maxFlow 26 = .ok (.getfield 266, 3)) ?_
  exact sm_iret (pc := 29) G hb (by decide +kernel : decode cX8_maxFlow 29 = .ok (.ireturn, 1)) hr
theorem kX8_maxFlow {ε : gE5} (hE : gEnv ε) (N : Nat) : gCtrX ε yX8_maxFlow cX8_maxFlow 3 (some .int) 8 133 3 18 gyX (fX8_maxFlow N) :=
  gCtrX_of hE.1 (by decide) (fun γ G hb ho hy hR he hr => fX8_maxFlow_s0 N G hb ho hy hR he hr hE (by omega))

set_option maxRecDepth 100000 in
set_option maxHeartbeats 4000000 in
theorem fX8_cutSide_s0 {γ : gG} {cs ss : Nat} {ε : gE5} (N : Nat) (G : gOK γ) (hb : gcc γ = cX8_cutSide) (ho : gow γ = RX8) (hy : gly γ = gyX) (hR : grm γ = { frames := 8, cells := 3, slots := 18, locals := 133 }) (he : genv γ = ε) (hr : grt γ = (some .int)) (hE : gEnv ε) (hc9 : cs + 3 ≤ 3 ∧ ss + 18 ≤ 18) : gSm γ cs ss 0 (fX8_cutSide_k0 N) := by
  unfold fX8_cutSide_k0
  refine sm_aload_n (pc := 0) G hb (by decide +kernel : decode cX8_cutSide 0 = .ok (.aload_n 0, 1)) rfl ?_
  refine sm_iload_n (pc := 1) G hb (by decide +kernel : decode cX8_cutSide 1 = .ok (.iload_n 1, 1)) rfl ?_
  refine sm_iload_n (pc := 2) G hb (by decide +kernel : decode cX8_cutSide 2 = .ok (.iload_n 2, 1)) rfl ?_
  refine sm_mono (xcav_sub gXV_sub) (sm_xcallV (pc := 3) (N := 8) (T := TX8) (C := RX8) G hb ho hy he hE.1 3 [0, 1, 2, 3, 4, 5, 6, 7, 8, 9, 10, 11, 12, 13, 14, 15, 16, 17, 18, 19, 20, 21, 22, 23, 24, 25, 26, 27, 28, 29, 30, 31, 32, 33, 34, 35, 36, 37, 38, 39, 40, 41, 42, 43, 44, 45, 46, 47, 48, 49, 50, 51, 52, 53, 54, 55, 56, 57, 58, 59, 60, 61, 62, 63, 64, 65, 66, 67, 68, 69, 70, 71, 72, 73, 74, 75, 76, 77, 78, 79, 80, 81, 82, 83, 84, 85, 86, 87, 88, 89, 90, 91, 92, 93, 94, 95, 96, 97, 98, 99, 100, 101, 102, 103, 104, 105, 106, 107, 108, 109, 110, 111, 112, 113, 114, 115, 116, 117, 118, 119, 120, 121, 122, 123, 124, 125, 126, 127, 128, 129, 130, 131, 132, 133, 134, 135, 136, 137, 138, 139, 140, 141, 142, 143, 144, 145, 146, 147, 148, 149, 150, 151, 152, 153, 154, 155, 156, 157, 158, 159, 160, 161, 162, 163, 164, 165, 166, 167, 168, 169, 170, 171, 172, 173, 174, 175, 176, 177, 178, 179, 180, 181, 182, 183, 184, 185, 186, 187, 188, 189, 190, 191, 192, 193, 194, 195, 196, 197, 198, 199, 200, 201, 202, 203] (kX8_checkTwoNodes hE N) (gCo_of (by decide +kernel)) (by rw [hR]; exact ⟨by decide, by decide⟩) (by rw [hR]; exact ⟨by show _ ≤ 3; omega, by show _ ≤ 18; omega⟩) rfl rfl (by decide +kernel) gw3_228 gw3_230 gw0_18 gw1_1 gw3_231 (by decide +kernel : decode cX8_cutSide 3 = .ok (.invokevirtual 113, 3)) ?_)
  refine sm_aload_n (pc := 6) G hb (by decide +kernel : decode cX8_cutSide 6 = .ok (.aload_n 0, 1)) rfl ?_
  refine sm_get (pc := 7) (ci := 8) (j := 6) (N := 8) (T := TX8) G hb ho hy rfl (by decide) gin_8 gw2_106 (by decide +kernel : decode cX8_cutSide 7 = .ok (.getfield 46, 3)) ?_
  refine sm_aload_n (pc := 10) G hb (by decide +kernel : decode cX8_cutSide 10 = .ok (.aload_n 0, 1)) rfl ?_
  refine sm_get (pc := 11) (ci := 8) (j := 0) (N := 8) (T := TX8) G hb ho hy rfl (by decide) gin_8 gw2_100 (by decide +kernel : decode cX8_cutSide 11 = .ok (.getfield 12, 3)) ?_
  refine sm_get (pc := 14) (ci := 7) (j := 0) (N := 4) (T := TX7) G hb ho hy rfl (by decide) gin_7 gw1_180 (by decide +kernel : decode cX8_cutSide 14 = .ok (.getfield 50, 3)) ?_
  refine sm_iload_n (pc := 17) G hb (by decide +kernel : decode cX8_cutSide 17 = .ok (.iload_n 1, 1)) rfl ?_
  refine sm_iload_n (pc := 18) G hb (by decide +kernel : decode cX8_cutSide 18 = .ok (.iload_n 2, 1)) rfl ?_
  refine sm_mono (cav_sub gV_sub) (sm_callV (pc := 19) (N := 4) (T := TX0) (C := RX0) G hb ho hy he hE.1 4 [201, 202, 203, 2, 3, 4, 5, 6, 7, 8, 9, 10] (kX0_find hE N) (gCo_of (by decide +kernel)) (by rw [hR]; exact ⟨by decide, by decide⟩) rfl rfl (by decide +kernel) gw3_76 gw3_77 gw3_78 gw1_9 gw3_79 (by decide +kernel : decode cX8_cutSide 19 = .ok (.invokevirtual 262, 3)) ?_)
  refine sm_aload_n (pc := 22) G hb (by decide +kernel : decode cX8_cutSide 22 = .ok (.aload_n 0, 1)) rfl ?_
  refine sm_get (pc := 23) (ci := 8) (j := 6) (N := 8) (T := TX8) G hb ho hy rfl (by decide) gin_8 gw2_106 (by decide +kernel : decode cX8_cutSide 23 = .ok (.getfield 46, 3)) ?_
  refine sm_get (pc := 26) (ci := 0) (j := 3) (N := 4) (T := TX0) G hb ho hy rfl (by decide) gin_0 gw2_64 (by decide +kernel : decode cX8_cutSide 26 = .ok (.getfield 267, 3)) ?_
  exact sm_iret (pc := 29) G hb (by decide +kernel : decode cX8_cutSide 29 = .ok (.ireturn, 1)) hr
theorem kX8_cutSide {ε : gE5} (hE : gEnv ε) (N : Nat) : gCtrX ε yX8_cutSide cX8_cutSide 3 (some .int) 8 133 3 18 gyX (fX8_cutSide N) :=
  gCtrX_of hE.1 (by decide) (fun γ G hb ho hy hR he hr => fX8_cutSide_s0 N G hb ho hy hR he hr hE (by omega))

set_option maxRecDepth 100000 in
set_option maxHeartbeats 4000000 in
theorem fX8_overloaded_s65 {γ : gG} {cs ss : Nat} {ε : gE5} (N : Nat) (G : gOK γ) (hb : gcc γ = cX8_overloaded) (ho : gow γ = RX8) (hy : gly γ = gyX) (hR : grm γ = { frames := 3, cells := 0, slots := 0, locals := 76 }) (he : genv γ = ε) (hr : grt γ = (some .int)) (hE : gEnv ε) (K12 : gK) (h12 : gSm γ cs ss 12 K12) : gSm γ cs ss 65 (fX8_overloaded_k65 N K12) := by
  unfold fX8_overloaded_k65
  refine sm_iinc (pc := 65) G hb (by decide +kernel : decode cX8_overloaded 65 = .ok (.iinc 3 1, 3)) (by decide) ?_
  refine sm_goto (pc := 68) (tgt := 12) G hb (by decide +kernel : decode cX8_overloaded 68 = .ok (.goto (-56), 3)) (by decide) ?_
  refine sm_mask ?_
  exact h12
set_option maxRecDepth 100000 in
set_option maxHeartbeats 4000000 in
theorem fX8_overloaded_s40 {γ : gG} {cs ss : Nat} {ε : gE5} (N : Nat) (G : gOK γ) (hb : gcc γ = cX8_overloaded) (ho : gow γ = RX8) (hy : gly γ = gyX) (hR : grm γ = { frames := 3, cells := 0, slots := 0, locals := 76 }) (he : genv γ = ε) (hr : grt γ = (some .int)) (hE : gEnv ε) (K12 : gK) (h12 : gSm γ cs ss 12 K12) : gSm γ cs ss 40 (fX8_overloaded_k40 N K12) := by
  unfold fX8_overloaded_k40
  refine sm_aload_n (pc := 40) G hb (by decide +kernel : decode cX8_overloaded 40 = .ok (.aload_n 1, 1)) rfl ?_
  refine sm_iload_n (pc := 41) G hb (by decide +kernel : decode cX8_overloaded 41 = .ok (.iload_n 3, 1)) rfl ?_
  refine sm_iconst (pc := 42) G hb (by decide +kernel : decode cX8_overloaded 42 = .ok (.iconst 2, 1)) (by decide) ?_
  refine sm_mono (cav_sub gI_sub) (sm_callV (pc := 43) (N := 11) (T := TX2) (C := RX2) G hb ho hy he hE.1 3 [2, 3, 4, 5, 6, 7, 8, 9, 10] (kX2_getNumber hE N) (gCo_of (by decide +kernel)) (by rw [hR]; exact ⟨by decide, by decide⟩) rfl rfl (by decide +kernel) gw3_72 gw3_73 gw3_74 gw1_3 gw3_75 (by decide +kernel : decode cX8_overloaded 43 = .ok (.invokevirtual 156, 3)) ?_)
  refine sm_bipush (pc := 46) G hb (by decide +kernel : decode cX8_overloaded 46 = .ok (.bipush 100, 2)) (by decide) ?_
  refine sm_aload_n (pc := 48) G hb (by decide +kernel : decode cX8_overloaded 48 = .ok (.aload_n 0, 1)) rfl ?_
  refine sm_get (pc := 49) (ci := 8) (j := 6) (N := 8) (T := TX8) G hb ho hy rfl (by decide) gin_8 gw2_106 (by decide +kernel : decode cX8_overloaded 49 = .ok (.getfield 46, 3)) ?_
  refine sm_get (pc := 52) (ci := 0) (j := 2) (N := 4) (T := TX0) G hb ho hy rfl (by decide) gin_0 gw2_62 (by decide +kernel : decode cX8_overloaded 52 = .ok (.getfield 266, 3)) ?_
  refine sm_imul (pc := 55) G hb (by decide +kernel : decode cX8_overloaded 55 = .ok (.imul, 1)) ?_
  refine sm_icmp_le (pc := 56) (tgt := 65) G hb (by decide +kernel : decode cX8_overloaded 56 = .ok (.if_icmp .le 9, 3)) (by decide) ?_ ?_
  · skip
    refine sm_mask ?_
    exact fX8_overloaded_s65 N G hb ho hy hR he hr hE K12 h12
  · skip
    refine sm_iload_n (pc := 59) G hb (by decide +kernel : decode cX8_overloaded 59 = .ok (.iload_n 2, 1)) rfl ?_
    refine sm_iconst (pc := 60) G hb (by decide +kernel : decode cX8_overloaded 60 = .ok (.iconst 1, 1)) (by decide) ?_
    refine sm_iload_n (pc := 61) G hb (by decide +kernel : decode cX8_overloaded 61 = .ok (.iload_n 3, 1)) rfl ?_
    refine sm_ishl (pc := 62) G hb (by decide +kernel : decode cX8_overloaded 62 = .ok (.ishl, 1)) ?_
    refine sm_ior (pc := 63) G hb (by decide +kernel : decode cX8_overloaded 63 = .ok (.ior, 1)) ?_
    refine sm_istore_n (pc := 64) G hb (by decide +kernel : decode cX8_overloaded 64 = .ok (.istore_n 2, 1)) rfl ?_
    refine sm_mask ?_
    exact fX8_overloaded_s65 N G hb ho hy hR he hr hE K12 h12
set_option maxRecDepth 100000 in
set_option maxHeartbeats 4000000 in
theorem fX8_overloaded_s12 {γ : gG} {cs ss : Nat} {ε : gE5} (N : Nat) (G : gOK γ) (hb : gcc γ = cX8_overloaded) (ho : gow γ = RX8) (hy : gly γ = gyX) (hR : grm γ = { frames := 3, cells := 0, slots := 0, locals := 76 }) (he : genv γ = ε) (hr : grt γ = (some .int)) (hE : gEnv ε) : gSm γ cs ss 12 (fX8_overloaded_k12 N) := by
  unfold fX8_overloaded_k12
  refine sm_lp (fun K12 h12 => ?_) N
  unfold fX8_overloaded_b12
  refine sm_iload_n (pc := 12) G hb (by decide +kernel : decode cX8_overloaded 12 = .ok (.iload_n 3, 1)) rfl ?_
  refine sm_aload_n (pc := 13) G hb (by decide +kernel : decode cX8_overloaded 13 = .ok (.aload_n 1, 1)) rfl ?_
  refine sm_get (pc := 14) (ci := 2) (j := 2) (N := 11) (T := TX2) G hb ho hy rfl (by decide) gin_2 gw1_58 (by decide +kernel : decode cX8_overloaded 14 = .ok (.getfield 144, 3)) ?_
  refine sm_icmp_ge (pc := 17) (tgt := 71) G hb (by decide +kernel : decode cX8_overloaded 17 = .ok (.if_icmp .ge 54, 3)) (by decide) ?_ ?_
  · skip
    refine sm_iload_n (pc := 71) G hb (by decide +kernel : decode cX8_overloaded 71 = .ok (.iload_n 2, 1)) rfl ?_
    exact sm_iret (pc := 72) G hb (by decide +kernel : decode cX8_overloaded 72 = .ok (.ireturn, 1)) hr
  · skip
    refine sm_aload_n (pc := 20) G hb (by decide +kernel : decode cX8_overloaded 20 = .ok (.aload_n 0, 1)) rfl ?_
    refine sm_get (pc := 21) (ci := 8) (j := 6) (N := 8) (T := TX8) G hb ho hy rfl (by decide) gin_8 gw2_106 (by decide +kernel : decode cX8_overloaded 21 = .ok (.getfield 46, 3)) ?_
    refine sm_aload_n (pc := 24) G hb (by decide +kernel : decode cX8_overloaded 24 = .ok (.aload_n 1, 1)) rfl ?_
    refine sm_aload_n (pc := 25) G hb (by decide +kernel : decode cX8_overloaded 25 = .ok (.aload_n 1, 1)) rfl ?_
    refine sm_iload_n (pc := 26) G hb (by decide +kernel : decode cX8_overloaded 26 = .ok (.iload_n 3, 1)) rfl ?_
    refine sm_iconst (pc := 27) G hb (by decide +kernel : decode cX8_overloaded 27 = .ok (.iconst 0, 1)) (by decide) ?_
    refine sm_mono (cav_sub gI_sub) (sm_callV (pc := 28) (N := 11) (T := TX2) (C := RX2) G hb ho hy he hE.1 3 [2, 3, 4, 5, 6, 7, 8, 9, 10] (kX2_getNumber hE N) (gCo_of (by decide +kernel)) (by rw [hR]; exact ⟨by decide, by decide⟩) rfl rfl (by decide +kernel) gw3_72 gw3_73 gw3_74 gw1_3 gw3_75 (by decide +kernel : decode cX8_overloaded 28 = .ok (.invokevirtual 156, 3)) ?_)
    refine sm_aload_n (pc := 31) G hb (by decide +kernel : decode cX8_overloaded 31 = .ok (.aload_n 1, 1)) rfl ?_
    refine sm_iload_n (pc := 32) G hb (by decide +kernel : decode cX8_overloaded 32 = .ok (.iload_n 3, 1)) rfl ?_
    refine sm_iconst (pc := 33) G hb (by decide +kernel : decode cX8_overloaded 33 = .ok (.iconst 1, 1)) (by decide) ?_
    refine sm_mono (cav_sub gI_sub) (sm_callV (pc := 34) (N := 11) (T := TX2) (C := RX2) G hb ho hy he hE.1 3 [2, 3, 4, 5, 6, 7, 8, 9, 10] (kX2_getNumber hE N) (gCo_of (by decide +kernel)) (by rw [hR]; exact ⟨by decide, by decide⟩) rfl rfl (by decide +kernel) gw3_72 gw3_73 gw3_74 gw1_3 gw3_75 (by decide +kernel : decode cX8_overloaded 34 = .ok (.invokevirtual 156, 3)) ?_)
    refine sm_mono (cav_sub gV_sub) (sm_callV (pc := 37) (N := 4) (T := TX0) (C := RX0) G hb ho hy he hE.1 4 [201, 202, 203, 2, 3, 4, 5, 6, 7, 8, 9, 10] (kX0_find hE N) (gCo_of (by decide +kernel)) (by rw [hR]; exact ⟨by decide, by decide⟩) rfl rfl (by decide +kernel) gw3_76 gw3_77 gw3_78 gw1_9 gw3_79 (by decide +kernel : decode cX8_overloaded 37 = .ok (.invokevirtual 262, 3)) ?_)
    refine sm_mask ?_
    exact fX8_overloaded_s40 N G hb ho hy hR he hr hE K12 h12
set_option maxRecDepth 100000 in
set_option maxHeartbeats 4000000 in
theorem fX8_overloaded_s0 {γ : gG} {cs ss : Nat} {ε : gE5} (N : Nat) (G : gOK γ) (hb : gcc γ = cX8_overloaded) (ho : gow γ = RX8) (hy : gly γ = gyX) (hR : grm γ = { frames := 3, cells := 0, slots := 0, locals := 76 }) (he : genv γ = ε) (hr : grt γ = (some .int)) (hE : gEnv ε) : gSm γ cs ss 0 (fX8_overloaded_k0 N) := by
  unfold fX8_overloaded_k0
  refine sm_aload_n (pc := 0) G hb (by decide +kernel : decode cX8_overloaded 0 = .ok (.aload_n 0, 1)) rfl ?_
  refine sm_get (pc := 1) (ci := 8) (j := 0) (N := 8) (T := TX8) G hb ho hy rfl (by decide) gin_8 gw2_100 (by decide +kernel : decode cX8_overloaded 1 = .ok (.getfield 12, 3)) ?_
  refine sm_get (pc := 4) (ci := 7) (j := 0) (N := 4) (T := TX7) G hb ho hy rfl (by decide) gin_7 gw1_180 (by decide +kernel : decode cX8_overloaded 4 = .ok (.getfield 50, 3)) ?_
  refine sm_astore_n (pc := 7) G hb (by decide +kernel : decode cX8_overloaded 7 = .ok (.astore_n 1, 1)) rfl ?_
  refine sm_iconst (pc := 8) G hb (by decide +kernel : decode cX8_overloaded 8 = .ok (.iconst 0, 1)) (by decide) ?_
  refine sm_istore_n (pc := 9) G hb (by decide +kernel : decode cX8_overloaded 9 = .ok (.istore_n 2, 1)) rfl ?_
  refine sm_iconst (pc := 10) G hb (by decide +kernel : decode cX8_overloaded 10 = .ok (.iconst 0, 1)) (by decide) ?_
  refine sm_istore_n (pc := 11) G hb (by decide +kernel : decode cX8_overloaded 11 = .ok (.istore_n 3, 1)) rfl ?_
  refine sm_mask ?_
  exact fX8_overloaded_s12 N G hb ho hy hR he hr hE
theorem kX8_overloaded {ε : gE5} (hE : gEnv ε) (N : Nat) : gCtr ε yX8_overloaded cX8_overloaded 4 (some .int) 3 76 gyX (fX8_overloaded N) :=
  gCtr_of hE.1 (by decide) (fun γ G hb ho hy hR he hr => fX8_overloaded_s0 N G hb ho hy hR he hr hE)

set_option maxRecDepth 100000 in
set_option maxHeartbeats 4000000 in
theorem fX8_queue_s0 {γ : gG} {cs ss : Nat} {ε : gE5} (N : Nat) (G : gOK γ) (hb : gcc γ = cX8_queue) (ho : gow γ = RX8) (hy : gly γ = gyX) (hR : grm γ = { frames := 8, cells := 3, slots := 18, locals := 133 }) (he : genv γ = ε) (hr : grt γ = (some .int)) (hE : gEnv ε) (hc9 : cs + 3 ≤ 3 ∧ ss + 18 ≤ 18) : gSm γ cs ss 0 (fX8_queue_k0 N) := by
  unfold fX8_queue_k0
  refine sm_aload_n (pc := 0) G hb (by decide +kernel : decode cX8_queue 0 = .ok (.aload_n 0, 1)) rfl ?_
  refine sm_iload_n (pc := 1) G hb (by decide +kernel : decode cX8_queue 1 = .ok (.iload_n 1, 1)) rfl ?_
  refine sm_iload_n (pc := 2) G hb (by decide +kernel : decode cX8_queue 2 = .ok (.iload_n 2, 1)) rfl ?_
  refine sm_mono (xcav_sub gXV_sub) (sm_xcallV (pc := 3) (N := 8) (T := TX8) (C := RX8) G hb ho hy he hE.1 3 [0, 1, 2, 3, 4, 5, 6, 7, 8, 9, 10, 11, 12, 13, 14, 15, 16, 17, 18, 19, 20, 21, 22, 23, 24, 25, 26, 27, 28, 29, 30, 31, 32, 33, 34, 35, 36, 37, 38, 39, 40, 41, 42, 43, 44, 45, 46, 47, 48, 49, 50, 51, 52, 53, 54, 55, 56, 57, 58, 59, 60, 61, 62, 63, 64, 65, 66, 67, 68, 69, 70, 71, 72, 73, 74, 75, 76, 77, 78, 79, 80, 81, 82, 83, 84, 85, 86, 87, 88, 89, 90, 91, 92, 93, 94, 95, 96, 97, 98, 99, 100, 101, 102, 103, 104, 105, 106, 107, 108, 109, 110, 111, 112, 113, 114, 115, 116, 117, 118, 119, 120, 121, 122, 123, 124, 125, 126, 127, 128, 129, 130, 131, 132, 133, 134, 135, 136, 137, 138, 139, 140, 141, 142, 143, 144, 145, 146, 147, 148, 149, 150, 151, 152, 153, 154, 155, 156, 157, 158, 159, 160, 161, 162, 163, 164, 165, 166, 167, 168, 169, 170, 171, 172, 173, 174, 175, 176, 177, 178, 179, 180, 181, 182, 183, 184, 185, 186, 187, 188, 189, 190, 191, 192, 193, 194, 195, 196, 197, 198, 199, 200, 201, 202, 203] (kX8_checkTwoNodes hE N) (gCo_of (by decide +kernel)) (by rw [hR]; exact ⟨by decide, by decide⟩) (by rw [hR]; exact ⟨by show _ ≤ 3; omega, by show _ ≤ 18; omega⟩) rfl rfl (by decide +kernel) gw3_228 gw3_230 gw0_18 gw1_1 gw3_231 (by decide +kernel : decode cX8_queue 3 = .ok (.invokevirtual 113, 3)) ?_)
  refine sm_aload_n (pc := 6) G hb (by decide +kernel : decode cX8_queue 6 = .ok (.aload_n 0, 1)) rfl ?_
  refine sm_get (pc := 7) (ci := 8) (j := 0) (N := 8) (T := TX8) G hb ho hy rfl (by decide) gin_8 gw2_100 (by decide +kernel : decode cX8_queue 7 = .ok (.getfield 12, 3)) ?_
  refine sm_get (pc := 10) (ci := 7) (j := 1) (N := 4) (T := TX7) G hb ho hy rfl (by decide) gin_7 gw1_186 (by decide +kernel : decode cX8_queue 10 = .ok (.getfield 177, 3)) ?_
  refine sm_get (pc := 13) (ci := 4) (j := 2) (N := 12) (T := TX4) G hb ho hy rfl (by decide) gin_4 gw1_127 (by decide +kernel : decode cX8_queue 13 = .ok (.getfield 270, 3)) ?_
  refine sm_iload_n (pc := 16) G hb (by decide +kernel : decode cX8_queue 16 = .ok (.iload_n 1, 1)) rfl ?_
  refine sm_iload_n (pc := 17) G hb (by decide +kernel : decode cX8_queue 17 = .ok (.iload_n 2, 1)) rfl ?_
  refine sm_mono (ca_sub gI_sub) (sm_callS (pc := 18) G hb ho hy he hE.1 2 [] (kX8_pair hE N) (gCo_of (by decide +kernel)) (by rw [hR]; exact ⟨by decide, by decide⟩) (by decide +kernel) gw4_109 gw2_82 gw1_1 gw2_83 (by decide +kernel : decode cX8_queue 18 = .ok (.invokestatic 171, 3)) ?_)
  refine sm_iald (pc := 21) G hb hy (by decide +kernel : decode cX8_queue 21 = .ok (.iaload, 1)) ?_
  exact sm_iret (pc := 22) G hb (by decide +kernel : decode cX8_queue 22 = .ok (.ireturn, 1)) hr
theorem kX8_queue {ε : gE5} (hE : gEnv ε) (N : Nat) : gCtrX ε yX8_queue cX8_queue 3 (some .int) 8 133 3 18 gyX (fX8_queue N) :=
  gCtrX_of hE.1 (by decide) (fun γ G hb ho hy hR he hr => fX8_queue_s0 N G hb ho hy hR he hr hE (by omega))

set_option maxRecDepth 100000 in
set_option maxHeartbeats 4000000 in
theorem fX8_shadow_s0 {γ : gG} {cs ss : Nat} {ε : gE5} (N : Nat) (G : gOK γ) (hb : gcc γ = cX8_shadow) (ho : gow γ = RX8) (hy : gly γ = gyX) (hR : grm γ = { frames := 8, cells := 3, slots := 18, locals := 133 }) (he : genv γ = ε) (hr : grt γ = (some .int)) (hE : gEnv ε) (hc9 : cs + 3 ≤ 3 ∧ ss + 18 ≤ 18) : gSm γ cs ss 0 (fX8_shadow_k0 N) := by
  unfold fX8_shadow_k0
  refine sm_aload_n (pc := 0) G hb (by decide +kernel : decode cX8_shadow 0 = .ok (.aload_n 0, 1)) rfl ?_
  refine sm_iload_n (pc := 1) G hb (by decide +kernel : decode cX8_shadow 1 = .ok (.iload_n 1, 1)) rfl ?_
  refine sm_iload_n (pc := 2) G hb (by decide +kernel : decode cX8_shadow 2 = .ok (.iload_n 2, 1)) rfl ?_
  refine sm_mono (xcav_sub gXV_sub) (sm_xcallV (pc := 3) (N := 8) (T := TX8) (C := RX8) G hb ho hy he hE.1 3 [0, 1, 2, 3, 4, 5, 6, 7, 8, 9, 10, 11, 12, 13, 14, 15, 16, 17, 18, 19, 20, 21, 22, 23, 24, 25, 26, 27, 28, 29, 30, 31, 32, 33, 34, 35, 36, 37, 38, 39, 40, 41, 42, 43, 44, 45, 46, 47, 48, 49, 50, 51, 52, 53, 54, 55, 56, 57, 58, 59, 60, 61, 62, 63, 64, 65, 66, 67, 68, 69, 70, 71, 72, 73, 74, 75, 76, 77, 78, 79, 80, 81, 82, 83, 84, 85, 86, 87, 88, 89, 90, 91, 92, 93, 94, 95, 96, 97, 98, 99, 100, 101, 102, 103, 104, 105, 106, 107, 108, 109, 110, 111, 112, 113, 114, 115, 116, 117, 118, 119, 120, 121, 122, 123, 124, 125, 126, 127, 128, 129, 130, 131, 132, 133, 134, 135, 136, 137, 138, 139, 140, 141, 142, 143, 144, 145, 146, 147, 148, 149, 150, 151, 152, 153, 154, 155, 156, 157, 158, 159, 160, 161, 162, 163, 164, 165, 166, 167, 168, 169, 170, 171, 172, 173, 174, 175, 176, 177, 178, 179, 180, 181, 182, 183, 184, 185, 186, 187, 188, 189, 190, 191, 192, 193, 194, 195, 196, 197, 198, 199, 200, 201, 202, 203] (kX8_checkTwoNodes hE N) (gCo_of (by decide +kernel)) (by rw [hR]; exact ⟨by decide, by decide⟩) (by rw [hR]; exact ⟨by show _ ≤ 3; omega, by show _ ≤ 18; omega⟩) rfl rfl (by decide +kernel) gw3_228 gw3_230 gw0_18 gw1_1 gw3_231 (by decide +kernel : decode cX8_shadow 3 = .ok (.invokevirtual 113, 3)) ?_)
  refine sm_aload_n (pc := 6) G hb (by decide +kernel : decode cX8_shadow 6 = .ok (.aload_n 0, 1)) rfl ?_
  refine sm_get (pc := 7) (ci := 8) (j := 0) (N := 8) (T := TX8) G hb ho hy rfl (by decide) gin_8 gw2_100 (by decide +kernel : decode cX8_shadow 7 = .ok (.getfield 12, 3)) ?_
  refine sm_get (pc := 10) (ci := 7) (j := 1) (N := 4) (T := TX7) G hb ho hy rfl (by decide) gin_7 gw1_186 (by decide +kernel : decode cX8_shadow 10 = .ok (.getfield 177, 3)) ?_
  refine sm_get (pc := 13) (ci := 4) (j := 3) (N := 12) (T := TX4) G hb ho hy rfl (by decide) gin_4 gw1_131 (by decide +kernel : decode cX8_shadow 13 = .ok (.getfield 181, 3)) ?_
  refine sm_iload_n (pc := 16) G hb (by decide +kernel : decode cX8_shadow 16 = .ok (.iload_n 1, 1)) rfl ?_
  refine sm_iload_n (pc := 17) G hb (by decide +kernel : decode cX8_shadow 17 = .ok (.iload_n 2, 1)) rfl ?_
  refine sm_mono (ca_sub gI_sub) (sm_callS (pc := 18) G hb ho hy he hE.1 2 [] (kX8_pair hE N) (gCo_of (by decide +kernel)) (by rw [hR]; exact ⟨by decide, by decide⟩) (by decide +kernel) gw4_109 gw2_82 gw1_1 gw2_83 (by decide +kernel : decode cX8_shadow 18 = .ok (.invokestatic 171, 3)) ?_)
  refine sm_iald (pc := 21) G hb hy (by decide +kernel : decode cX8_shadow 21 = .ok (.iaload, 1)) ?_
  exact sm_iret (pc := 22) G hb (by decide +kernel : decode cX8_shadow 22 = .ok (.ireturn, 1)) hr
theorem kX8_shadow {ε : gE5} (hE : gEnv ε) (N : Nat) : gCtrX ε yX8_shadow cX8_shadow 3 (some .int) 8 133 3 18 gyX (fX8_shadow N) :=
  gCtrX_of hE.1 (by decide) (fun γ G hb ho hy hR he hr => fX8_shadow_s0 N G hb ho hy hR he hr hE (by omega))

set_option maxRecDepth 100000 in
set_option maxHeartbeats 4000000 in
theorem fX8_packet_s25 {γ : gG} {cs ss : Nat} {ε : gE5} (N : Nat) (G : gOK γ) (hb : gcc γ = cX8_packet) (ho : gow γ = RX8) (hy : gly γ = gyX) (hR : grm γ = { frames := 8, cells := 5, slots := 30, locals := 133 }) (he : genv γ = ε) (hr : grt γ = (some .int)) (hE : gEnv ε) (hc9 : cs + 1 ≤ 5 ∧ ss + 6 ≤ 30) : gSm γ cs ss 25 (fX8_packet_k25 N) := by
  unfold fX8_packet_k25
  refine sm_iload_n (pc := 25) G hb (by decide +kernel : decode cX8_packet 25 = .ok (.iload_n 3, 1)) rfl ?_
  refine sm_mono (cav_sub gI_sub) (sm_callV (pc := 26) (N := 12) (T := TX4) (C := RX4) G hb ho hy he hE.1 3 [11, 12, 13, 14, 15, 16, 17, 18, 19, 20] (kX4_find hE N) (gCo_of (by decide +kernel)) (by rw [hR]; exact ⟨by decide, by decide⟩) rfl rfl (by decide +kernel) gw5_74 gw5_75 gw5_76 gw1_4 gw5_77 (by decide +kernel : decode cX8_packet 26 = .ok (.invokevirtual 272, 3)) ?_)
  refine sm_istore (pc := 29) G hb (by decide +kernel : decode cX8_packet 29 = .ok (.istore 5, 2)) ?_
  refine sm_iload (pc := 31) G hb (by decide +kernel : decode cX8_packet 31 = .ok (.iload 5, 2)) ?_
  refine sm_iconst (pc := 33) G hb (by decide +kernel : decode cX8_packet 33 = .ok (.iconst (-1), 1)) (by decide) ?_
  refine sm_icmp_ne (pc := 34) (tgt := 48) G hb (by decide +kernel : decode cX8_packet 34 = .ok (.if_icmp .ne 14, 3)) (by decide) ?_ ?_
  · skip
    refine sm_iload (pc := 48) G hb (by decide +kernel : decode cX8_packet 48 = .ok (.iload 4, 2)) ?_
    refine sm_mono tab_sub (sm_table (pc := 50) (tgt := 118) G hb [76, 90, 104] (by decide +kernel : decode cX8_packet 50 = .ok (.tableswitch 68 0 2 #[26, 40, 54], 26)) (by decide) (by decide) ?_ ?_ rfl)
    · skip
      refine sm_aload_n (pc := 118) G hb (by decide +kernel : decode cX8_packet 118 = .ok (.aload_n 0, 1)) rfl ?_
      refine sm_get (pc := 119) (ci := 8) (j := 0) (N := 8) (T := TX8) G hb ho hy rfl (by decide) gin_8 gw2_100 (by decide +kernel : decode cX8_packet 119 = .ok (.getfield 12, 3)) ?_
      refine sm_get (pc := 122) (ci := 7) (j := 1) (N := 4) (T := TX7) G hb ho hy rfl (by decide) gin_7 gw1_186 (by decide +kernel : decode cX8_packet 122 = .ok (.getfield 177, 3)) ?_
      refine sm_get (pc := 125) (ci := 4) (j := 8) (N := 12) (T := TX4) G hb ho hy rfl (by decide) gin_4 gw1_147 (by decide +kernel : decode cX8_packet 125 = .ok (.getfield 288, 3)) ?_
      refine sm_iload (pc := 128) G hb (by decide +kernel : decode cX8_packet 128 = .ok (.iload 5, 2)) ?_
      refine sm_iald (pc := 130) G hb hy (by decide +kernel : decode cX8_packet 130 = .ok (.iaload, 1)) ?_
      exact sm_iret (pc := 131) G hb (by decide +kernel : decode cX8_packet 131 = .ok (.ireturn, 1)) hr
    · skip
      intro i t k h1 h2
      match i, h1, h2 with
      | 0, h1, h2 =>
        cases h1; cases h2
        refine sm_aload_n (pc := 76) G hb (by decide +kernel : decode cX8_packet 76 = .ok (.aload_n 0, 1)) rfl ?_
        refine sm_get (pc := 77) (ci := 8) (j := 0) (N := 8) (T := TX8) G hb ho hy rfl (by decide) gin_8 gw2_100 (by decide +kernel : decode cX8_packet 77 = .ok (.getfield 12, 3)) ?_
        refine sm_get (pc := 80) (ci := 7) (j := 1) (N := 4) (T := TX7) G hb ho hy rfl (by decide) gin_7 gw1_186 (by decide +kernel : decode cX8_packet 80 = .ok (.getfield 177, 3)) ?_
        refine sm_get (pc := 83) (ci := 4) (j := 5) (N := 12) (T := TX4) G hb ho hy rfl (by decide) gin_4 gw1_137 (by decide +kernel : decode cX8_packet 83 = .ok (.getfield 279, 3)) ?_
        refine sm_iload (pc := 86) G hb (by decide +kernel : decode cX8_packet 86 = .ok (.iload 5, 2)) ?_
        refine sm_iald (pc := 88) G hb hy (by decide +kernel : decode cX8_packet 88 = .ok (.iaload, 1)) ?_
        exact sm_iret (pc := 89) G hb (by decide +kernel : decode cX8_packet 89 = .ok (.ireturn, 1)) hr
      | 1, h1, h2 =>
        cases h1; cases h2
        refine sm_aload_n (pc := 90) G hb (by decide +kernel : decode cX8_packet 90 = .ok (.aload_n 0, 1)) rfl ?_
        refine sm_get (pc := 91) (ci := 8) (j := 0) (N := 8) (T := TX8) G hb ho hy rfl (by decide) gin_8 gw2_100 (by decide +kernel : decode cX8_packet 91 = .ok (.getfield 12, 3)) ?_
        refine sm_get (pc := 94) (ci := 7) (j := 1) (N := 4) (T := TX7) G hb ho hy rfl (by decide) gin_7 gw1_186 (by decide +kernel : decode cX8_packet 94 = .ok (.getfield 177, 3)) ?_
        refine sm_get (pc := 97) (ci := 4) (j := 6) (N := 12) (T := TX4) G hb ho hy rfl (by decide) gin_4 gw1_141 (by decide +kernel : decode cX8_packet 97 = .ok (.getfield 282, 3)) ?_
        refine sm_iload (pc := 100) G hb (by decide +kernel : decode cX8_packet 100 = .ok (.iload 5, 2)) ?_
        refine sm_iald (pc := 102) G hb hy (by decide +kernel : decode cX8_packet 102 = .ok (.iaload, 1)) ?_
        exact sm_iret (pc := 103) G hb (by decide +kernel : decode cX8_packet 103 = .ok (.ireturn, 1)) hr
      | 2, h1, h2 =>
        cases h1; cases h2
        refine sm_aload_n (pc := 104) G hb (by decide +kernel : decode cX8_packet 104 = .ok (.aload_n 0, 1)) rfl ?_
        refine sm_get (pc := 105) (ci := 8) (j := 0) (N := 8) (T := TX8) G hb ho hy rfl (by decide) gin_8 gw2_100 (by decide +kernel : decode cX8_packet 105 = .ok (.getfield 12, 3)) ?_
        refine sm_get (pc := 108) (ci := 7) (j := 1) (N := 4) (T := TX7) G hb ho hy rfl (by decide) gin_7 gw1_186 (by decide +kernel : decode cX8_packet 108 = .ok (.getfield 177, 3)) ?_
        refine sm_get (pc := 111) (ci := 4) (j := 7) (N := 12) (T := TX4) G hb ho hy rfl (by decide) gin_4 gw1_144 (by decide +kernel : decode cX8_packet 111 = .ok (.getfield 285, 3)) ?_
        refine sm_iload (pc := 114) G hb (by decide +kernel : decode cX8_packet 114 = .ok (.iload 5, 2)) ?_
        refine sm_iald (pc := 116) G hb hy (by decide +kernel : decode cX8_packet 116 = .ok (.iaload, 1)) ?_
        exact sm_iret (pc := 117) G hb (by decide +kernel : decode cX8_packet 117 = .ok (.ireturn, 1)) hr
      | i + 3, h1, h2 =>
        simp at h1
  · skip
    exact sm_throwNW (pc := 37) (i := 313) (text := "there is no such packet") G hb ho he hE gx_NSE (List.mem_of_getElem? (i := 39) rfl) (by rw [hR]; exact ⟨by decide, by decide⟩) (by rw [hR]; exact ⟨by show _ ≤ 5; omega, by show _ ≤ 30; omega⟩) (by decide +kernel : decode cX8_packet 37 = .ok (.new 274, 3)) (by decide +kernel : decode cX8_packet 40 = .ok (.dup, 1)) (by decide +kernel : decode cX8_packet 41 = .ok (.ldc_w 276, 3)) (by decide +kernel : decode cX8_packet 44 = .ok (.invokespecial 278, 3)) (by decide +kernel : decode cX8_packet 47 = .ok (.athrow, 1))
set_option maxRecDepth 100000 in
set_option maxHeartbeats 4000000 in
theorem fX8_packet_s0 {γ : gG} {cs ss : Nat} {ε : gE5} (N : Nat) (G : gOK γ) (hb : gcc γ = cX8_packet) (ho : gow γ = RX8) (hy : gly γ = gyX) (hR : grm γ = { frames := 8, cells := 5, slots := 30, locals := 133 }) (he : genv γ = ε) (hr : grt γ = (some .int)) (hE : gEnv ε) (hc9 : cs + 5 ≤ 5 ∧ ss + 30 ≤ 30) : gSm γ cs ss 0 (fX8_packet_k0 N) := by
  unfold fX8_packet_k0
  refine sm_aload_n (pc := 0) G hb (by decide +kernel : decode cX8_packet 0 = .ok (.aload_n 0, 1)) rfl ?_
  refine sm_iload_n (pc := 1) G hb (by decide +kernel : decode cX8_packet 1 = .ok (.iload_n 1, 1)) rfl ?_
  refine sm_iload_n (pc := 2) G hb (by decide +kernel : decode cX8_packet 2 = .ok (.iload_n 2, 1)) rfl ?_
  refine sm_mono (xcav_sub gXV_sub) (sm_xcallV (pc := 3) (N := 8) (T := TX8) (C := RX8) G hb ho hy he hE.1 3 [0, 1, 2, 3, 4, 5, 6, 7, 8, 9, 10, 11, 12, 13, 14, 15, 16, 17, 18, 19, 20, 21, 22, 23, 24, 25, 26, 27, 28, 29, 30, 31, 32, 33, 34, 35, 36, 37, 38, 39, 40, 41, 42, 43, 44, 45, 46, 47, 48, 49, 50, 51, 52, 53, 54, 55, 56, 57, 58, 59, 60, 61, 62, 63, 64, 65, 66, 67, 68, 69, 70, 71, 72, 73, 74, 75, 76, 77, 78, 79, 80, 81, 82, 83, 84, 85, 86, 87, 88, 89, 90, 91, 92, 93, 94, 95, 96, 97, 98, 99, 100, 101, 102, 103, 104, 105, 106, 107, 108, 109, 110, 111, 112, 113, 114, 115, 116, 117, 118, 119, 120, 121, 122, 123, 124, 125, 126, 127, 128, 129, 130, 131, 132, 133, 134, 135, 136, 137, 138, 139, 140, 141, 142, 143, 144, 145, 146, 147, 148, 149, 150, 151, 152, 153, 154, 155, 156, 157, 158, 159, 160, 161, 162, 163, 164, 165, 166, 167, 168, 169, 170, 171, 172, 173, 174, 175, 176, 177, 178, 179, 180, 181, 182, 183, 184, 185, 186, 187, 188, 189, 190, 191, 192, 193, 194, 195, 196, 197, 198, 199, 200, 201, 202, 203] (kX8_checkTwoNodes hE N) (gCo_of (by decide +kernel)) (by rw [hR]; exact ⟨by decide, by decide⟩) (by rw [hR]; exact ⟨by show _ ≤ 5; omega, by show _ ≤ 30; omega⟩) rfl rfl (by decide +kernel) gw3_228 gw3_230 gw0_18 gw1_1 gw3_231 (by decide +kernel : decode cX8_packet 3 = .ok (.invokevirtual 113, 3)) ?_)
  refine sm_iload (pc := 6) G hb (by decide +kernel : decode cX8_packet 6 = .ok (.iload 4, 2)) ?_
  refine sm_iconst (pc := 8) G hb (by decide +kernel : decode cX8_packet 8 = .ok (.iconst 0, 1)) (by decide) ?_
  refine sm_iconst (pc := 9) G hb (by decide +kernel : decode cX8_packet 9 = .ok (.iconst 3, 1)) (by decide) ?_
  refine sm_mono (xca_sub gXV_sub) (sm_xcallS (pc := 10) G hb ho hy he hE.1 3 [] (kX8_checkRange hE N) (gCo_of (by decide +kernel)) (by rw [hR]; exact ⟨by decide, by decide⟩) (by rw [hR]; exact ⟨by show _ ≤ 5; omega, by show _ ≤ 30; omega⟩) (by decide +kernel) gw3_184 gw3_185 gw1_1 gw3_186 (by decide +kernel : decode cX8_packet 10 = .ok (.invokestatic 86, 3)) ?_)
  refine sm_aload_n (pc := 13) G hb (by decide +kernel : decode cX8_packet 13 = .ok (.aload_n 0, 1)) rfl ?_
  refine sm_get (pc := 14) (ci := 8) (j := 0) (N := 8) (T := TX8) G hb ho hy rfl (by decide) gin_8 gw2_100 (by decide +kernel : decode cX8_packet 14 = .ok (.getfield 12, 3)) ?_
  refine sm_get (pc := 17) (ci := 7) (j := 1) (N := 4) (T := TX7) G hb ho hy rfl (by decide) gin_7 gw1_186 (by decide +kernel : decode cX8_packet 17 = .ok (.getfield 177, 3)) ?_
  refine sm_iload_n (pc := 20) G hb (by decide +kernel : decode cX8_packet 20 = .ok (.iload_n 1, 1)) rfl ?_
  refine sm_iload_n (pc := 21) G hb (by decide +kernel : decode cX8_packet 21 = .ok (.iload_n 2, 1)) rfl ?_
  refine sm_mono (ca_sub gI_sub) (sm_callS (pc := 22) G hb ho hy he hE.1 2 [] (kX8_pair hE N) (gCo_of (by decide +kernel)) (by rw [hR]; exact ⟨by decide, by decide⟩) (by decide +kernel) gw4_109 gw2_82 gw1_1 gw2_83 (by decide +kernel : decode cX8_packet 22 = .ok (.invokestatic 171, 3)) ?_)
  refine sm_mask ?_
  exact fX8_packet_s25 N G hb ho hy hR he hr hE (by omega)
theorem kX8_packet {ε : gE5} (hE : gEnv ε) (N : Nat) : gCtrX ε yX8_packet cX8_packet 6 (some .int) 8 133 5 30 gyX (fX8_packet N) :=
  gCtrX_of hE.1 (by decide) (fun γ G hb ho hy hR he hr => fX8_packet_s0 N G hb ho hy hR he hr hE (by omega))

set_option maxRecDepth 100000 in
set_option maxHeartbeats 4000000 in
theorem fX8_totalOf_s0 {γ : gG} {cs ss : Nat} {ε : gE5} (N : Nat) (G : gOK γ) (hb : gcc γ = cX8_totalOf) (ho : gow γ = RX8) (hy : gly γ = gyS) (hR : grm γ = { frames := 1, cells := 0, slots := 0, locals := 26 }) (he : genv γ = ε) (hr : grt γ = (some .long)) (hE : gEnv ε) : gSm γ cs ss 0 (fX8_totalOf_k0 N) := by
  unfold fX8_totalOf_k0
  refine sm_iload_n (pc := 0) G hb (by decide +kernel : decode cX8_totalOf 0 = .ok (.iload_n 1, 1)) rfl ?_
  refine sm_mono tab_sub (sm_table (pc := 1) (tgt := 79) G hb [36, 42, 51, 57, 68] (by decide +kernel : decode cX8_totalOf 1 = .ok (.tableswitch 78 0 4 #[35, 41, 50, 56, 67], 35)) (by decide) (by decide) ?_ ?_ rfl)
  · skip
    refine sm_aload_n (pc := 79) G hb (by decide +kernel : decode cX8_totalOf 79 = .ok (.aload_n 0, 1)) rfl ?_
    refine sm_get (pc := 80) (ci := 7) (j := 1) (N := 4) (T := TX7) G hb ho hy rfl (by decide) gin_7 gw1_186 (by decide +kernel : decode cX8_totalOf 80 = .ok (.getfield 177, 3)) ?_
    refine sm_get (pc := 83) (ci := 4) (j := 3) (N := 12) (T := TX4) G hb ho hy rfl (by decide) gin_4 gw1_131 (by decide +kernel : decode cX8_totalOf 83 = .ok (.getfield 181, 3)) ?_
    refine sm_mono (ca_sub gJ_sub) (sm_callS (pc := 86) G hb ho hy he hE.1 1 [14] (kX8_sumOfSquares hE N) (gCo_of (by decide +kernel)) (by rw [hR]; exact ⟨by decide, by decide⟩) (by decide +kernel) gw5_104 gw5_105 gw1_1 gw5_106 (by decide +kernel : decode cX8_totalOf 86 = .ok (.invokestatic 298, 3)) ?_)
    exact sm_lret (pc := 89) G hb (by decide +kernel : decode cX8_totalOf 89 = .ok (.lreturn, 1)) hr
  · skip
    intro i t k h1 h2
    match i, h1, h2 with
    | 0, h1, h2 =>
      cases h1; cases h2
      refine sm_aload_n (pc := 36) G hb (by decide +kernel : decode cX8_totalOf 36 = .ok (.aload_n 0, 1)) rfl ?_
      refine sm_get (pc := 37) (ci := 7) (j := 2) (N := 4) (T := TX7) G hb ho hy rfl (by decide) gin_7 gw1_189 (by decide +kernel : decode cX8_totalOf 37 = .ok (.getfield 196, 3)) ?_
      refine sm_i2l (pc := 40) G hb (by decide +kernel : decode cX8_totalOf 40 = .ok (.i2l, 1)) ?_
      exact sm_lret (pc := 41) G hb (by decide +kernel : decode cX8_totalOf 41 = .ok (.lreturn, 1)) hr
    | 1, h1, h2 =>
      cases h1; cases h2
      refine sm_aload_n (pc := 42) G hb (by decide +kernel : decode cX8_totalOf 42 = .ok (.aload_n 0, 1)) rfl ?_
      refine sm_get (pc := 43) (ci := 7) (j := 1) (N := 4) (T := TX7) G hb ho hy rfl (by decide) gin_7 gw1_186 (by decide +kernel : decode cX8_totalOf 43 = .ok (.getfield 177, 3)) ?_
      refine sm_get (pc := 46) (ci := 4) (j := 11) (N := 12) (T := TX4) G hb ho hy rfl (by decide) gin_4 gw1_153 (by decide +kernel : decode cX8_totalOf 46 = .ok (.getfield 205, 3)) ?_
      refine sm_i2l (pc := 49) G hb (by decide +kernel : decode cX8_totalOf 49 = .ok (.i2l, 1)) ?_
      exact sm_lret (pc := 50) G hb (by decide +kernel : decode cX8_totalOf 50 = .ok (.lreturn, 1)) hr
    | 2, h1, h2 =>
      cases h1; cases h2
      refine sm_aload_n (pc := 51) G hb (by decide +kernel : decode cX8_totalOf 51 = .ok (.aload_n 0, 1)) rfl ?_
      refine sm_get (pc := 52) (ci := 7) (j := 3) (N := 4) (T := TX7) G hb ho hy rfl (by decide) gin_7 gw1_192 (by decide +kernel : decode cX8_totalOf 52 = .ok (.getfield 295, 3)) ?_
      refine sm_i2l (pc := 55) G hb (by decide +kernel : decode cX8_totalOf 55 = .ok (.i2l, 1)) ?_
      exact sm_lret (pc := 56) G hb (by decide +kernel : decode cX8_totalOf 56 = .ok (.lreturn, 1)) hr
    | 3, h1, h2 =>
      cases h1; cases h2
      refine sm_aload_n (pc := 57) G hb (by decide +kernel : decode cX8_totalOf 57 = .ok (.aload_n 0, 1)) rfl ?_
      refine sm_get (pc := 58) (ci := 7) (j := 1) (N := 4) (T := TX7) G hb ho hy rfl (by decide) gin_7 gw1_186 (by decide +kernel : decode cX8_totalOf 58 = .ok (.getfield 177, 3)) ?_
      refine sm_get (pc := 61) (ci := 4) (j := 3) (N := 12) (T := TX4) G hb ho hy rfl (by decide) gin_4 gw1_131 (by decide +kernel : decode cX8_totalOf 61 = .ok (.getfield 181, 3)) ?_
      refine sm_mono (ca_sub gJ_sub) (sm_callS (pc := 64) G hb ho hy he hE.1 1 [14] (kX8_sum hE N) (gCo_of (by decide +kernel)) (by rw [hR]; exact ⟨by decide, by decide⟩) (by decide +kernel) gw3_55 gw3_56 gw1_1 gw3_57 (by decide +kernel : decode cX8_totalOf 64 = .ok (.invokestatic 186, 3)) ?_)
      exact sm_lret (pc := 67) G hb (by decide +kernel : decode cX8_totalOf 67 = .ok (.lreturn, 1)) hr
    | 4, h1, h2 =>
      cases h1; cases h2
      refine sm_aload_n (pc := 68) G hb (by decide +kernel : decode cX8_totalOf 68 = .ok (.aload_n 0, 1)) rfl ?_
      refine sm_get (pc := 69) (ci := 7) (j := 1) (N := 4) (T := TX7) G hb ho hy rfl (by decide) gin_7 gw1_186 (by decide +kernel : decode cX8_totalOf 69 = .ok (.getfield 177, 3)) ?_
      refine sm_get (pc := 72) (ci := 4) (j := 2) (N := 12) (T := TX4) G hb ho hy rfl (by decide) gin_4 gw1_127 (by decide +kernel : decode cX8_totalOf 72 = .ok (.getfield 270, 3)) ?_
      refine sm_mono (ca_sub gJ_sub) (sm_callS (pc := 75) G hb ho hy he hE.1 1 [13] (kX8_sumOfSquares hE N) (gCo_of (by decide +kernel)) (by rw [hR]; exact ⟨by decide, by decide⟩) (by decide +kernel) gw5_104 gw5_105 gw1_1 gw5_106 (by decide +kernel : decode cX8_totalOf 75 = .ok (.invokestatic 298, 3)) ?_)
      exact sm_lret (pc := 78) G hb (by decide +kernel : decode cX8_totalOf 78 = .ok (.lreturn, 1)) hr
    | i + 5, h1, h2 =>
      simp at h1
theorem kX8_totalOf {ε : gE5} (hE : gEnv ε) (N : Nat) : gCtr ε yX8_totalOf cX8_totalOf 2 (some .long) 1 26 gyS (fX8_totalOf N) :=
  gCtr_of hE.1 (by decide) (fun γ G hb ho hy hR he hr => fX8_totalOf_s0 N G hb ho hy hR he hr hE)

set_option maxRecDepth 100000 in
set_option maxHeartbeats 4000000 in
theorem fX8_total_s0 {γ : gG} {cs ss : Nat} {ε : gE5} (N : Nat) (G : gOK γ) (hb : gcc γ = cX8_total) (ho : gow γ = RX8) (hy : gly γ = gyX) (hR : grm γ = { frames := 7, cells := 1, slots := 6, locals := 112 }) (he : genv γ = ε) (hr : grt γ = (some .long)) (hE : gEnv ε) (hc9 : cs + 1 ≤ 1 ∧ ss + 6 ≤ 6) : gSm γ cs ss 0 (fX8_total_k0 N) := by
  unfold fX8_total_k0
  refine sm_iload_n (pc := 0) G hb (by decide +kernel : decode cX8_total 0 = .ok (.iload_n 1, 1)) rfl ?_
  refine sm_iconst (pc := 1) G hb (by decide +kernel : decode cX8_total 1 = .ok (.iconst 0, 1)) (by decide) ?_
  refine sm_iconst (pc := 2) G hb (by decide +kernel : decode cX8_total 2 = .ok (.iconst 5, 1)) (by decide) ?_
  refine sm_mono (xca_sub gXV_sub) (sm_xcallS (pc := 3) G hb ho hy he hE.1 3 [] (kX8_checkRange hE N) (gCo_of (by decide +kernel)) (by rw [hR]; exact ⟨by decide, by decide⟩) (by rw [hR]; exact ⟨by show _ ≤ 1; omega, by show _ ≤ 6; omega⟩) (by decide +kernel) gw3_184 gw3_185 gw1_1 gw3_186 (by decide +kernel : decode cX8_total 3 = .ok (.invokestatic 86, 3)) ?_)
  refine sm_aload_n (pc := 6) G hb (by decide +kernel : decode cX8_total 6 = .ok (.aload_n 0, 1)) rfl ?_
  refine sm_get (pc := 7) (ci := 8) (j := 0) (N := 8) (T := TX8) G hb ho hy rfl (by decide) gin_8 gw2_100 (by decide +kernel : decode cX8_total 7 = .ok (.getfield 12, 3)) ?_
  refine sm_iload_n (pc := 10) G hb (by decide +kernel : decode cX8_total 10 = .ok (.iload_n 1, 1)) rfl ?_
  refine sm_mono (ca_sub gJ_sub) (sm_callS (pc := 11) G hb ho hy he hE.1 2 [1, 2, 3, 4, 5, 6, 7, 8, 9, 10, 11, 12, 13, 14, 15, 16, 17, 18, 19, 20] (kX8_totalOf hE N) (gCo_of (by decide +kernel)) (by rw [hR]; exact ⟨by decide, by decide⟩) (by decide +kernel) gw5_101 gw5_102 gw1_1 gw5_103 (by decide +kernel : decode cX8_total 11 = .ok (.invokestatic 291, 3)) ?_)
  exact sm_lret (pc := 14) G hb (by decide +kernel : decode cX8_total 14 = .ok (.lreturn, 1)) hr
theorem kX8_total {ε : gE5} (hE : gEnv ε) (N : Nat) : gCtrX ε yX8_total cX8_total 2 (some .long) 7 112 1 6 gyX (fX8_total N) :=
  gCtrX_of hE.1 (by decide) (fun γ G hb ho hy hR he hr => fX8_total_s0 N G hb ho hy hR he hr hE (by omega))

set_option maxRecDepth 100000 in
set_option maxHeartbeats 4000000 in
theorem fX8_fullest_s32 {γ : gG} {cs ss : Nat} {ε : gE5} (N : Nat) (G : gOK γ) (hb : gcc γ = cX8_fullest) (ho : gow γ = RX8) (hy : gly γ = gyX) (hR : grm γ = { frames := 6, cells := 1, slots := 6, locals := 90 }) (he : genv γ = ε) (hr : grt γ = (some .int)) (hE : gEnv ε) (hc9 : cs + 1 ≤ 1 ∧ ss + 6 ≤ 6) (K15 : gK) (h15 : gSm γ cs ss 15 K15) : gSm γ cs ss 32 (fX8_fullest_k32 N K15) := by
  unfold fX8_fullest_k32
  refine sm_iinc (pc := 32) G hb (by decide +kernel : decode cX8_fullest 32 = .ok (.iinc 3 1, 3)) (by decide) ?_
  refine sm_goto (pc := 35) (tgt := 15) G hb (by decide +kernel : decode cX8_fullest 35 = .ok (.goto (-20), 3)) (by decide) ?_
  refine sm_mask ?_
  exact h15
set_option maxRecDepth 100000 in
set_option maxHeartbeats 4000000 in
theorem fX8_fullest_s15 {γ : gG} {cs ss : Nat} {ε : gE5} (N : Nat) (G : gOK γ) (hb : gcc γ = cX8_fullest) (ho : gow γ = RX8) (hy : gly γ = gyX) (hR : grm γ = { frames := 6, cells := 1, slots := 6, locals := 90 }) (he : genv γ = ε) (hr : grt γ = (some .int)) (hE : gEnv ε) (hc9 : cs + 1 ≤ 1 ∧ ss + 6 ≤ 6) : gSm γ cs ss 15 (fX8_fullest_k15 N) := by
  unfold fX8_fullest_k15
  refine sm_lp (fun K15 h15 => ?_) N
  unfold fX8_fullest_b15
  refine sm_iload_n (pc := 15) G hb (by decide +kernel : decode cX8_fullest 15 = .ok (.iload_n 3, 1)) rfl ?_
  refine sm_bipush (pc := 16) G hb (by decide +kernel : decode cX8_fullest 16 = .ok (.bipush 100, 2)) (by decide) ?_
  refine sm_icmp_ge (pc := 18) (tgt := 38) G hb (by decide +kernel : decode cX8_fullest 18 = .ok (.if_icmp .ge 20, 3)) (by decide) ?_ ?_
  · skip
    refine sm_aload_n (pc := 38) G hb (by decide +kernel : decode cX8_fullest 38 = .ok (.aload_n 1, 1)) rfl ?_
    refine sm_iload_n (pc := 39) G hb (by decide +kernel : decode cX8_fullest 39 = .ok (.iload_n 2, 1)) rfl ?_
    refine sm_iald (pc := 40) G hb hy (by decide +kernel : decode cX8_fullest 40 = .ok (.iaload, 1)) ?_
    refine sm_if_ne (pc := 41) (tgt := 55) G hb (by decide +kernel : decode cX8_fullest 41 = .ok (.ifCond .ne 14, 3)) (by decide) ?_ ?_
    · skip
      refine sm_bipush (pc := 55) G hb (by decide +kernel : decode cX8_fullest 55 = .ok (.bipush 100, 2)) (by decide) ?_
      refine sm_iload_n (pc := 57) G hb (by decide +kernel : decode cX8_fullest 57 = .ok (.iload_n 2, 1)) rfl ?_
      refine sm_bipush (pc := 58) G hb (by decide +kernel : decode cX8_fullest 58 = .ok (.bipush 10, 2)) (by decide) ?_
      refine sm_idiv (pc := 60) G hb (by decide +kernel : decode cX8_fullest 60 = .ok (.idiv, 1)) ?_
      refine sm_imul (pc := 61) G hb (by decide +kernel : decode cX8_fullest 61 = .ok (.imul, 1)) ?_
      refine sm_iload_n (pc := 62) G hb (by decide +kernel : decode cX8_fullest 62 = .ok (.iload_n 2, 1)) rfl ?_
      refine sm_bipush (pc := 63) G hb (by decide +kernel : decode cX8_fullest 63 = .ok (.bipush 10, 2)) (by decide) ?_
      refine sm_irem (pc := 65) G hb (by decide +kernel : decode cX8_fullest 65 = .ok (.irem, 1)) ?_
      refine sm_iadd (pc := 66) G hb (by decide +kernel : decode cX8_fullest 66 = .ok (.iadd, 1)) ?_
      exact sm_iret (pc := 67) G hb (by decide +kernel : decode cX8_fullest 67 = .ok (.ireturn, 1)) hr
    · skip
      exact sm_throwNW (pc := 44) (i := 314) (text := "all queues are empty") G hb ho he hE gx_NSE (List.mem_of_getElem? (i := 40) rfl) (by rw [hR]; exact ⟨by decide, by decide⟩) (by rw [hR]; exact ⟨by show _ ≤ 1; omega, by show _ ≤ 6; omega⟩) (by decide +kernel : decode cX8_fullest 44 = .ok (.new 274, 3)) (by decide +kernel : decode cX8_fullest 47 = .ok (.dup, 1)) (by decide +kernel : decode cX8_fullest 48 = .ok (.ldc_w 301, 3)) (by decide +kernel : decode cX8_fullest 51 = .ok (.invokespecial 278, 3)) (by decide +kernel : decode cX8_fullest 54 = .ok (.athrow, 1))
  · skip
    refine sm_aload_n (pc := 21) G hb (by decide +kernel : decode cX8_fullest 21 = .ok (.aload_n 1, 1)) rfl ?_
    refine sm_iload_n (pc := 22) G hb (by decide +kernel : decode cX8_fullest 22 = .ok (.iload_n 3, 1)) rfl ?_
    refine sm_iald (pc := 23) G hb hy (by decide +kernel : decode cX8_fullest 23 = .ok (.iaload, 1)) ?_
    refine sm_aload_n (pc := 24) G hb (by decide +kernel : decode cX8_fullest 24 = .ok (.aload_n 1, 1)) rfl ?_
    refine sm_iload_n (pc := 25) G hb (by decide +kernel : decode cX8_fullest 25 = .ok (.iload_n 2, 1)) rfl ?_
    refine sm_iald (pc := 26) G hb hy (by decide +kernel : decode cX8_fullest 26 = .ok (.iaload, 1)) ?_
    refine sm_icmp_le (pc := 27) (tgt := 32) G hb (by decide +kernel : decode cX8_fullest 27 = .ok (.if_icmp .le 5, 3)) (by decide) ?_ ?_
    · skip
      refine sm_mask ?_
      exact fX8_fullest_s32 N G hb ho hy hR he hr hE (by omega) K15 h15
    · skip
      refine sm_iload_n (pc := 30) G hb (by decide +kernel : decode cX8_fullest 30 = .ok (.iload_n 3, 1)) rfl ?_
      refine sm_istore_n (pc := 31) G hb (by decide +kernel : decode cX8_fullest 31 = .ok (.istore_n 2, 1)) rfl ?_
      refine sm_mask ?_
      exact fX8_fullest_s32 N G hb ho hy hR he hr hE (by omega) K15 h15
set_option maxRecDepth 100000 in
set_option maxHeartbeats 4000000 in
theorem fX8_fullest_s0 {γ : gG} {cs ss : Nat} {ε : gE5} (N : Nat) (G : gOK γ) (hb : gcc γ = cX8_fullest) (ho : gow γ = RX8) (hy : gly γ = gyX) (hR : grm γ = { frames := 6, cells := 1, slots := 6, locals := 90 }) (he : genv γ = ε) (hr : grt γ = (some .int)) (hE : gEnv ε) (hc9 : cs + 1 ≤ 1 ∧ ss + 6 ≤ 6) : gSm γ cs ss 0 (fX8_fullest_k0 N) := by
  unfold fX8_fullest_k0
  refine sm_aload_n (pc := 0) G hb (by decide +kernel : decode cX8_fullest 0 = .ok (.aload_n 0, 1)) rfl ?_
  refine sm_get (pc := 1) (ci := 8) (j := 0) (N := 8) (T := TX8) G hb ho hy rfl (by decide) gin_8 gw2_100 (by decide +kernel : decode cX8_fullest 1 = .ok (.getfield 12, 3)) ?_
  refine sm_get (pc := 4) (ci := 7) (j := 1) (N := 4) (T := TX7) G hb ho hy rfl (by decide) gin_7 gw1_186 (by decide +kernel : decode cX8_fullest 4 = .ok (.getfield 177, 3)) ?_
  refine sm_get (pc := 7) (ci := 4) (j := 2) (N := 12) (T := TX4) G hb ho hy rfl (by decide) gin_4 gw1_127 (by decide +kernel : decode cX8_fullest 7 = .ok (.getfield 270, 3)) ?_
  refine sm_astore_n (pc := 10) G hb (by decide +kernel : decode cX8_fullest 10 = .ok (.astore_n 1, 1)) rfl ?_
  refine sm_iconst (pc := 11) G hb (by decide +kernel : decode cX8_fullest 11 = .ok (.iconst 0, 1)) (by decide) ?_
  refine sm_istore_n (pc := 12) G hb (by decide +kernel : decode cX8_fullest 12 = .ok (.istore_n 2, 1)) rfl ?_
  refine sm_iconst (pc := 13) G hb (by decide +kernel : decode cX8_fullest 13 = .ok (.iconst 1, 1)) (by decide) ?_
  refine sm_istore_n (pc := 14) G hb (by decide +kernel : decode cX8_fullest 14 = .ok (.istore_n 3, 1)) rfl ?_
  refine sm_mask ?_
  exact fX8_fullest_s15 N G hb ho hy hR he hr hE (by omega)
theorem kX8_fullest {ε : gE5} (hE : gEnv ε) (N : Nat) : gCtrX ε yX8_fullest cX8_fullest 4 (some .int) 6 90 1 6 gyX (fX8_fullest N) :=
  gCtrX_of hE.1 (by decide) (fun γ G hb ho hy hR he hr => fX8_fullest_s0 N G hb ho hy hR he hr hE (by omega))

set_option maxRecDepth 100000 in
set_option maxHeartbeats 4000000 in
theorem fX8_urgent_s0 {γ : gG} {cs ss : Nat} {ε : gE5} (N : Nat) (G : gOK γ) (hb : gcc γ = cX8_urgent) (ho : gow γ = RX8) (hy : gly γ = gyX) (hR : grm γ = { frames := 6, cells := 1, slots := 6, locals := 90 }) (he : genv γ = ε) (hr : grt γ = (some .int)) (hE : gEnv ε) (hc9 : cs + 1 ≤ 1 ∧ ss + 6 ≤ 6) : gSm γ cs ss 0 (fX8_urgent_k0 N) := by
  unfold fX8_urgent_k0
  refine sm_aload_n (pc := 0) G hb (by decide +kernel : decode cX8_urgent 0 = .ok (.aload_n 0, 1)) rfl ?_
  refine sm_get (pc := 1) (ci := 8) (j := 0) (N := 8) (T := TX8) G hb ho hy rfl (by decide) gin_8 gw2_100 (by decide +kernel : decode cX8_urgent 1 = .ok (.getfield 12, 3)) ?_
  refine sm_mono (cav_sub gI_sub) (sm_callV (pc := 4) (N := 4) (T := TX7) (C := RX7) G hb ho hy he hE.1 1 [1, 2, 3, 4, 5, 6, 7, 8, 9, 10, 11, 12, 13, 14, 15, 16, 17, 18, 19, 20] (kX7_leastDeadline hE N) (gCo_of (by decide +kernel)) (by rw [hR]; exact ⟨by decide, by decide⟩) rfl rfl (by decide +kernel) gw5_122 gw5_123 gw5_124 gw1_2 gw5_125 (by decide +kernel : decode cX8_urgent 4 = .ok (.invokevirtual 303, 3)) ?_)
  refine sm_istore_n (pc := 7) G hb (by decide +kernel : decode cX8_urgent 7 = .ok (.istore_n 1, 1)) rfl ?_
  refine sm_iload_n (pc := 8) G hb (by decide +kernel : decode cX8_urgent 8 = .ok (.iload_n 1, 1)) rfl ?_
  refine sm_iconst (pc := 9) G hb (by decide +kernel : decode cX8_urgent 9 = .ok (.iconst (-1), 1)) (by decide) ?_
  refine sm_icmp_ne (pc := 10) (tgt := 24) G hb (by decide +kernel : decode cX8_urgent 10 = .ok (.if_icmp .ne 14, 3)) (by decide) ?_ ?_
  · skip
    refine sm_iconst (pc := 24) G hb (by decide +kernel : decode cX8_urgent 24 = .ok (.iconst 0, 1)) (by decide) ?_
    refine sm_iload_n (pc := 25) G hb (by decide +kernel : decode cX8_urgent 25 = .ok (.iload_n 1, 1)) rfl ?_
    refine sm_aload_n (pc := 26) G hb (by decide +kernel : decode cX8_urgent 26 = .ok (.aload_n 0, 1)) rfl ?_
    refine sm_get (pc := 27) (ci := 8) (j := 0) (N := 8) (T := TX8) G hb ho hy rfl (by decide) gin_8 gw2_100 (by decide +kernel : decode cX8_urgent 27 = .ok (.getfield 12, 3)) ?_
    refine sm_get (pc := 30) (ci := 7) (j := 2) (N := 4) (T := TX7) G hb ho hy rfl (by decide) gin_7 gw1_189 (by decide +kernel : decode cX8_urgent 30 = .ok (.getfield 196, 3)) ?_
    refine sm_isub (pc := 33) G hb (by decide +kernel : decode cX8_urgent 33 = .ok (.isub, 1)) ?_
    refine sm_jmax (pc := 34) G hb ho (by rw [hR]; exact ⟨by decide, by decide⟩) gw5_127 gw4_157 gw1_21 gw4_158 (by decide +kernel : decode cX8_urgent 34 = .ok (.invokestatic 308, 3)) ?_
    exact sm_iret (pc := 37) G hb (by decide +kernel : decode cX8_urgent 37 = .ok (.ireturn, 1)) hr
  · skip
    exact sm_throwNW (pc := 13) (i := 315) (text := "there is no packet with a budget") G hb ho he hE gx_NSE (List.mem_of_getElem? (i := 41) rfl) (by rw [hR]; exact ⟨by decide, by decide⟩) (by rw [hR]; exact ⟨by show _ ≤ 1; omega, by show _ ≤ 6; omega⟩) (by decide +kernel : decode cX8_urgent 13 = .ok (.new 274, 3)) (by decide +kernel : decode cX8_urgent 16 = .ok (.dup, 1)) (by decide +kernel : decode cX8_urgent 17 = .ok (.ldc_w 306, 3)) (by decide +kernel : decode cX8_urgent 20 = .ok (.invokespecial 278, 3)) (by decide +kernel : decode cX8_urgent 23 = .ok (.athrow, 1))
theorem kX8_urgent {ε : gE5} (hE : gEnv ε) (N : Nat) : gCtrX ε yX8_urgent cX8_urgent 2 (some .int) 6 90 1 6 gyX (fX8_urgent N) :=
  gCtrX_of hE.1 (by decide) (fun γ G hb ho hy hR he hr => fX8_urgent_s0 N G hb ho hy hR he hr hE (by omega))

set_option maxRecDepth 100000 in
set_option maxHeartbeats 4000000 in
theorem fX8_meanDelay_s32 {γ : gG} {cs ss : Nat} {ε : gE5} (N : Nat) (G : gOK γ) (hb : gcc γ = cX8_meanDelay) (ho : gow γ = RX8) (hy : gly γ = gyX) (hR : grm γ = { frames := 7, cells := 2, slots := 12, locals := 111 }) (he : genv γ = ε) (hr : grt γ = (some .int)) (hE : gEnv ε) (hc9 : cs + 1 ≤ 2 ∧ ss + 6 ≤ 12) : gSm γ cs ss 32 (fX8_meanDelay_k32 N) := by
  unfold fX8_meanDelay_k32
  refine sm_istore (pc := 32) G hb (by decide +kernel : decode cX8_meanDelay 32 = .ok (.istore 4, 2)) ?_
  refine sm_iload_n (pc := 34) G hb (by decide +kernel : decode cX8_meanDelay 34 = .ok (.iload_n 3, 1)) rfl ?_
  refine sm_iload (pc := 35) G hb (by decide +kernel : decode cX8_meanDelay 35 = .ok (.iload 4, 2)) ?_
  refine sm_mono (ca_sub gI_sub) (sm_callS (pc := 37) G hb ho hy he hE.1 2 [] (kX8_commonDivisor hE N) (gCo_of (by decide +kernel)) (by rw [hR]; exact ⟨by decide, by decide⟩) (by decide +kernel) gw5_135 gw5_136 gw1_1 gw5_137 (by decide +kernel : decode cX8_meanDelay 37 = .ok (.invokestatic 313, 3)) ?_)
  refine sm_istore (pc := 40) G hb (by decide +kernel : decode cX8_meanDelay 40 = .ok (.istore 5, 2)) ?_
  refine sm_iload (pc := 42) G hb (by decide +kernel : decode cX8_meanDelay 42 = .ok (.iload 4, 2)) ?_
  refine sm_if_eq (pc := 44) (tgt := 52) G hb (by decide +kernel : decode cX8_meanDelay 44 = .ok (.ifCond .eq 8, 3)) (by decide) ?_ ?_
  · skip
    exact sm_throwNW (pc := 52) (i := 316) (text := "no packet was delivered") G hb ho he hE gx_NSE (List.mem_of_getElem? (i := 42) rfl) (by rw [hR]; exact ⟨by decide, by decide⟩) (by rw [hR]; exact ⟨by show _ ≤ 2; omega, by show _ ≤ 12; omega⟩) (by decide +kernel : decode cX8_meanDelay 52 = .ok (.new 274, 3)) (by decide +kernel : decode cX8_meanDelay 55 = .ok (.dup, 1)) (by decide +kernel : decode cX8_meanDelay 56 = .ok (.ldc_w 316, 3)) (by decide +kernel : decode cX8_meanDelay 59 = .ok (.invokespecial 278, 3)) (by decide +kernel : decode cX8_meanDelay 62 = .ok (.athrow, 1))
  · skip
    refine sm_iload (pc := 47) G hb (by decide +kernel : decode cX8_meanDelay 47 = .ok (.iload 5, 2)) ?_
    refine sm_if_ne (pc := 49) (tgt := 63) G hb (by decide +kernel : decode cX8_meanDelay 49 = .ok (.ifCond .ne 14, 3)) (by decide) ?_ ?_
    · skip
      refine sm_iload_n (pc := 63) G hb (by decide +kernel : decode cX8_meanDelay 63 = .ok (.iload_n 2, 1)) rfl ?_
      refine sm_if_eq (pc := 64) (tgt := 75) G hb (by decide +kernel : decode cX8_meanDelay 64 = .ok (.ifCond .eq 11, 3)) (by decide) ?_ ?_
      · skip
        refine sm_iload_n (pc := 75) G hb (by decide +kernel : decode cX8_meanDelay 75 = .ok (.iload_n 3, 1)) rfl ?_
        refine sm_iload (pc := 76) G hb (by decide +kernel : decode cX8_meanDelay 76 = .ok (.iload 5, 2)) ?_
        refine sm_idiv (pc := 78) G hb (by decide +kernel : decode cX8_meanDelay 78 = .ok (.idiv, 1)) ?_
        exact sm_iret (pc := 79) G hb (by decide +kernel : decode cX8_meanDelay 79 = .ok (.ireturn, 1)) hr
      · skip
        refine sm_iload (pc := 67) G hb (by decide +kernel : decode cX8_meanDelay 67 = .ok (.iload 4, 2)) ?_
        refine sm_iload (pc := 69) G hb (by decide +kernel : decode cX8_meanDelay 69 = .ok (.iload 5, 2)) ?_
        refine sm_idiv (pc := 71) G hb (by decide +kernel : decode cX8_meanDelay 71 = .ok (.idiv, 1)) ?_
        refine sm_goto (pc := 72) (tgt := 79) G hb (by decide +kernel : decode cX8_meanDelay 72 = .ok (.goto 7, 3)) (by decide) ?_
        exact sm_iret (pc := 79) G hb (by decide +kernel : decode cX8_meanDelay 79 = .ok (.ireturn, 1)) hr
    · skip
      exact sm_throwNW (pc := 52) (i := 316) (text := "no packet was delivered") G hb ho he hE gx_NSE (List.mem_of_getElem? (i := 42) rfl) (by rw [hR]; exact ⟨by decide, by decide⟩) (by rw [hR]; exact ⟨by show _ ≤ 2; omega, by show _ ≤ 12; omega⟩) (by decide +kernel : decode cX8_meanDelay 52 = .ok (.new 274, 3)) (by decide +kernel : decode cX8_meanDelay 55 = .ok (.dup, 1)) (by decide +kernel : decode cX8_meanDelay 56 = .ok (.ldc_w 316, 3)) (by decide +kernel : decode cX8_meanDelay 59 = .ok (.invokespecial 278, 3)) (by decide +kernel : decode cX8_meanDelay 62 = .ok (.athrow, 1))
set_option maxRecDepth 100000 in
set_option maxHeartbeats 4000000 in
theorem fX8_meanDelay_s0 {γ : gG} {cs ss : Nat} {ε : gE5} (N : Nat) (G : gOK γ) (hb : gcc γ = cX8_meanDelay) (ho : gow γ = RX8) (hy : gly γ = gyX) (hR : grm γ = { frames := 7, cells := 2, slots := 12, locals := 111 }) (he : genv γ = ε) (hr : grt γ = (some .int)) (hE : gEnv ε) (hc9 : cs + 2 ≤ 2 ∧ ss + 12 ≤ 12) : gSm γ cs ss 0 (fX8_meanDelay_k0 N) := by
  unfold fX8_meanDelay_k0
  refine sm_aload_n (pc := 0) G hb (by decide +kernel : decode cX8_meanDelay 0 = .ok (.aload_n 0, 1)) rfl ?_
  refine sm_iload_n (pc := 1) G hb (by decide +kernel : decode cX8_meanDelay 1 = .ok (.iload_n 1, 1)) rfl ?_
  refine sm_mono (xcav_sub gXV_sub) (sm_xcallV (pc := 2) (N := 8) (T := TX8) (C := RX8) G hb ho hy he hE.1 2 [0, 1, 2, 3, 4, 5, 6, 7, 8, 9, 10, 11, 12, 13, 14, 15, 16, 17, 18, 19, 20, 21, 22, 23, 24, 25, 26, 27, 28, 29, 30, 31, 32, 33, 34, 35, 36, 37, 38, 39, 40, 41, 42, 43, 44, 45, 46, 47, 48, 49, 50, 51, 52, 53, 54, 55, 56, 57, 58, 59, 60, 61, 62, 63, 64, 65, 66, 67, 68, 69, 70, 71, 72, 73, 74, 75, 76, 77, 78, 79, 80, 81, 82, 83, 84, 85, 86, 87, 88, 89, 90, 91, 92, 93, 94, 95, 96, 97, 98, 99, 100, 101, 102, 103, 104, 105, 106, 107, 108, 109, 110, 111, 112, 113, 114, 115, 116, 117, 118, 119, 120, 121, 122, 123, 124, 125, 126, 127, 128, 129, 130, 131, 132, 133, 134, 135, 136, 137, 138, 139, 140, 141, 142, 143, 144, 145, 146, 147, 148, 149, 150, 151, 152, 153, 154, 155, 156, 157, 158, 159, 160, 161, 162, 163, 164, 165, 166, 167, 168, 169, 170, 171, 172, 173, 174, 175, 176, 177, 178, 179, 180, 181, 182, 183, 184, 185, 186, 187, 188, 189, 190, 191, 192, 193, 194, 195, 196, 197, 198, 199, 200, 201, 202, 203] (kX8_checkFlow hE N) (gCo_of (by decide +kernel)) (by rw [hR]; exact ⟨by decide, by decide⟩) (by rw [hR]; exact ⟨by show _ ≤ 2; omega, by show _ ≤ 12; omega⟩) rfl rfl (by decide +kernel) gw4_52 gw4_54 gw0_21 gw1_1 gw4_55 (by decide +kernel : decode cX8_meanDelay 2 = .ok (.invokevirtual 149, 3)) ?_)
  refine sm_aload_n (pc := 5) G hb (by decide +kernel : decode cX8_meanDelay 5 = .ok (.aload_n 0, 1)) rfl ?_
  refine sm_get (pc := 6) (ci := 8) (j := 0) (N := 8) (T := TX8) G hb ho hy rfl (by decide) gin_8 gw2_100 (by decide +kernel : decode cX8_meanDelay 6 = .ok (.getfield 12, 3)) ?_
  refine sm_get (pc := 9) (ci := 7) (j := 0) (N := 4) (T := TX7) G hb ho hy rfl (by decide) gin_7 gw1_180 (by decide +kernel : decode cX8_meanDelay 9 = .ok (.getfield 50, 3)) ?_
  refine sm_iload_n (pc := 12) G hb (by decide +kernel : decode cX8_meanDelay 12 = .ok (.iload_n 1, 1)) rfl ?_
  refine sm_bipush (pc := 13) G hb (by decide +kernel : decode cX8_meanDelay 13 = .ok (.bipush 9, 2)) (by decide) ?_
  refine sm_mono (cav_sub gI_sub) (sm_callV (pc := 15) (N := 11) (T := TX2) (C := RX2) G hb ho hy he hE.1 3 [2, 3, 4, 5, 6, 7, 8, 9, 10] (kX2_getNumber hE N) (gCo_of (by decide +kernel)) (by rw [hR]; exact ⟨by decide, by decide⟩) rfl rfl (by decide +kernel) gw3_72 gw3_73 gw3_74 gw1_3 gw3_75 (by decide +kernel : decode cX8_meanDelay 15 = .ok (.invokevirtual 156, 3)) ?_)
  refine sm_istore_n (pc := 18) G hb (by decide +kernel : decode cX8_meanDelay 18 = .ok (.istore_n 3, 1)) rfl ?_
  refine sm_aload_n (pc := 19) G hb (by decide +kernel : decode cX8_meanDelay 19 = .ok (.aload_n 0, 1)) rfl ?_
  refine sm_get (pc := 20) (ci := 8) (j := 0) (N := 8) (T := TX8) G hb ho hy rfl (by decide) gin_8 gw2_100 (by decide +kernel : decode cX8_meanDelay 20 = .ok (.getfield 12, 3)) ?_
  refine sm_get (pc := 23) (ci := 7) (j := 0) (N := 4) (T := TX7) G hb ho hy rfl (by decide) gin_7 gw1_180 (by decide +kernel : decode cX8_meanDelay 23 = .ok (.getfield 50, 3)) ?_
  refine sm_iload_n (pc := 26) G hb (by decide +kernel : decode cX8_meanDelay 26 = .ok (.iload_n 1, 1)) rfl ?_
  refine sm_bipush (pc := 27) G hb (by decide +kernel : decode cX8_meanDelay 27 = .ok (.bipush 6, 2)) (by decide) ?_
  refine sm_mono (cav_sub gI_sub) (sm_callV (pc := 29) (N := 11) (T := TX2) (C := RX2) G hb ho hy he hE.1 3 [2, 3, 4, 5, 6, 7, 8, 9, 10] (kX2_getNumber hE N) (gCo_of (by decide +kernel)) (by rw [hR]; exact ⟨by decide, by decide⟩) rfl rfl (by decide +kernel) gw3_72 gw3_73 gw3_74 gw1_3 gw3_75 (by decide +kernel : decode cX8_meanDelay 29 = .ok (.invokevirtual 156, 3)) ?_)
  refine sm_mask ?_
  exact fX8_meanDelay_s32 N G hb ho hy hR he hr hE (by omega)
theorem kX8_meanDelay {ε : gE5} (hE : gEnv ε) (N : Nat) : gCtrX ε yX8_meanDelay cX8_meanDelay 6 (some .int) 7 111 2 12 gyX (fX8_meanDelay N) :=
  gCtrX_of hE.1 (by decide) (fun γ G hb ho hy hR he hr => fX8_meanDelay_s0 N G hb ho hy hR he hr hE (by omega))
