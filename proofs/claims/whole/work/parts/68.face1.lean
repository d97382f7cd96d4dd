set_option maxRecDepth 100000 in
set_option maxHeartbeats 4000000 in
theorem fX8_setRate_s0 {γ : gG} {cs ss : Nat} {ε : gE5} (N : Nat) (G : gOK γ) (hb : gcc γ = cX8_setRate) (ho : gow γ = RX8) (hy : gly γ = gyX) (hR : grm γ = { frames := 7, cells := 2, slots := 12, locals := 137 }) (he : genv γ = ε) (hr : grt γ = (some .int)) (hE : gEnv ε) (hc9 : cs + 2 ≤ 2 ∧ ss + 12 ≤ 12) : gSm γ cs ss 0 (fX8_setRate_k0 N) := by
  unfold fX8_setRate_k0
  refine sm_aload_n (pc := 0) G hb (by decide +kernel : decode cX8_setRate 0 = .ok (.aload_n 0, 1)) rfl ?_
  refine sm_iload_n (pc := 1) G hb (by decide +kernel : decode cX8_setRate 1 = .ok (.iload_n 1, 1)) rfl ?_
  refine sm_mono (xcav_sub gXV_sub) (sm_xcallV (pc := 2) (N := 8) (T := TX8) (C := RX8) G hb ho hy he hE.1 2 [0, 1, 2, 3, 4, 5, 6, 7, 8, 9, 10, 11, 12, 13, 14, 15, 16, 17, 18, 19, 20, 21, 22, 23, 24, 25, 26, 27, 28, 29, 30, 31, 32, 33, 34, 35, 36, 37, 38, 39, 40, 41, 42, 43, 44, 45, 46, 47, 48, 49, 50, 51, 52, 53, 54, 55, 56, 57, 58, 59, 60, 61, 62, 63, 64, 65, 66, 67, 68, 69, 70, 71, 72, 73, 74, 75, 76, 77, 78, 79, 80, 81, 82, 83, 84, 85, 86, 87, 88, 89, 90, 91, 92, 93, 94, 95, 96, 97, 98, 99, 100, 101, 102, 103, 104, 105, 106, 107, 108, 109, 110, 111, 112, 113, 114, 115, 116, 117, 118, 119, 120, 121, 122, 123, 124, 125, 126, 127, 128, 129, 130, 131, 132, 133, 134, 135, 136, 137, 138, 139, 140, 141, 142, 143, 144, 145, 146, 147, 148, 149, 150, 151, 152, 153, 154, 155, 156, 157, 158, 159, 160, 161, 162, 163, 164, 165, 166, 167, 168, 169, 170, 171, 172, 173, 174, 175, 176, 177, 178, 179, 180, 181, 182, 183, 184, 185, 186, 187, 188, 189, 190, 191, 192, 193, 194, 195, 196, 197, 198, 199, 200, 201, 202, 203] (kX8_checkFlow hE N) (gCo_of (by decide +kernel)) (by rw [hR]; exact ⟨by decide, by decide⟩) (by rw [hR]; exact ⟨by show _ ≤ 2; omega, by show _ ≤ 12; omega⟩) rfl rfl (by decide +kernel) gw4_52 gw4_54 gw0_21 gw1_1 gw4_55 (by decide +kernel : decode cX8_setRate 2 = .ok (.invokevirtual 149, 3)) ?_)
  refine sm_iload_n (pc := 5) G hb (by decide +kernel : decode cX8_setRate 5 = .ok (.iload_n 2, 1)) rfl ?_
  refine sm_iconst (pc := 6) G hb (by decide +kernel : decode cX8_setRate 6 = .ok (.iconst 0, 1)) (by decide) ?_
  refine sm_sipush (pc := 7) G hb (by decide +kernel : decode cX8_setRate 7 = .ok (.sipush 300, 3)) (by decide) ?_
  refine sm_mono (xca_sub gXV_sub) (sm_xcallS (pc := 10) G hb ho hy he hE.1 3 [] (kX8_checkRange hE N) (gCo_of (by decide +kernel)) (by rw [hR]; exact ⟨by decide, by decide⟩) (by rw [hR]; exact ⟨by show _ ≤ 2; omega, by show _ ≤ 12; omega⟩) (by decide +kernel) gw3_184 gw3_185 gw1_1 gw3_186 (by decide +kernel : decode cX8_setRate 10 = .ok (.invokestatic 86, 3)) ?_)
  refine sm_aload_n (pc := 13) G hb (by decide +kernel : decode cX8_setRate 13 = .ok (.aload_n 0, 1)) rfl ?_
  refine sm_iload_n (pc := 14) G hb (by decide +kernel : decode cX8_setRate 14 = .ok (.iload_n 1, 1)) rfl ?_
  refine sm_iconst (pc := 15) G hb (by decide +kernel : decode cX8_setRate 15 = .ok (.iconst 2, 1)) (by decide) ?_
  refine sm_iload_n (pc := 16) G hb (by decide +kernel : decode cX8_setRate 16 = .ok (.iload_n 2, 1)) rfl ?_
  refine sm_mono (cav_sub gI_sub) (sm_callV (pc := 17) (N := 8) (T := TX8) (C := RX8) G hb ho hy he hE.1 4 [0, 1, 2, 3, 4, 5, 6, 7, 8, 9, 10, 11, 12, 13, 14, 15, 16, 17, 18, 19, 20, 21, 22, 23, 24, 25, 26, 27, 28, 29, 30, 31, 32, 33, 34, 35, 36, 37, 38, 39, 40, 41, 42, 43, 44, 45, 46, 47, 48, 49, 50, 51, 52, 53, 54, 55, 56, 57, 58, 59, 60, 61, 62, 63, 64, 65, 66, 67, 68, 69, 70, 71, 72, 73, 74, 75, 76, 77, 78, 79, 80, 81, 82, 83, 84, 85, 86, 87, 88, 89, 90, 91, 92, 93, 94, 95, 96, 97, 98, 99, 100, 101, 102, 103, 104, 105, 106, 107, 108, 109, 110, 111, 112, 113, 114, 115, 116, 117, 118, 119, 120, 121, 122, 123, 124, 125, 126, 127, 128, 129, 130, 131, 132, 133, 134, 135, 136, 137, 138, 139, 140, 141, 142, 143, 144, 145, 146, 147, 148, 149, 150, 151, 152, 153, 154, 155, 156, 157, 158, 159, 160, 161, 162, 163, 164, 165, 166, 167, 168, 169, 170, 171, 172, 173, 174, 175, 176, 177, 178, 179, 180, 181, 182, 183, 184, 185, 186, 187, 188, 189, 190, 191, 192, 193, 194, 195, 196, 197, 198, 199, 200, 201, 202, 203] (kX8_replaceNumber hE N) (gCo_of (by decide +kernel)) (by rw [hR]; exact ⟨by decide, by decide⟩) rfl rfl (by decide +kernel) gw4_57 gw4_59 gw0_22 gw1_1 gw4_60 (by decide +kernel : decode cX8_setRate 17 = .ok (.invokevirtual 152, 3)) ?_)
  exact sm_iret (pc := 20) G hb (by decide +kernel : decode cX8_setRate 20 = .ok (.ireturn, 1)) hr
theorem kX8_setRate {ε : gE5} (hE : gEnv ε) (N : Nat) : gCtrX ε yX8_setRate cX8_setRate 3 (some .int) 7 137 2 12 gyX (fX8_setRate N) :=
  gCtrX_of hE.1 (by decide) (fun γ G hb ho hy hR he hr => fX8_setRate_s0 N G hb ho hy hR he hr hE (by omega))

set_option maxRecDepth 100000 in
set_option maxHeartbeats 4000000 in
theorem fX8_setBudget_s0 {γ : gG} {cs ss : Nat} {ε : gE5} (N : Nat) (G : gOK γ) (hb : gcc γ = cX8_setBudget) (ho : gow γ = RX8) (hy : gly γ = gyX) (hR : grm γ = { frames := 7, cells := 2, slots := 12, locals := 137 }) (he : genv γ = ε) (hr : grt γ = (some .int)) (hE : gEnv ε) (hc9 : cs + 2 ≤ 2 ∧ ss + 12 ≤ 12) : gSm γ cs ss 0 (fX8_setBudget_k0 N) := by
  unfold fX8_setBudget_k0
  refine sm_aload_n (pc := 0) G hb (by decide +kernel : decode cX8_setBudget 0 = .ok (.aload_n 0, 1)) rfl ?_
  refine sm_iload_n (pc := 1) G hb (by decide +kernel : decode cX8_setBudget 1 = .ok (.iload_n 1, 1)) rfl ?_
  refine sm_mono (xcav_sub gXV_sub) (sm_xcallV (pc := 2) (N := 8) (T := TX8) (C := RX8) G hb ho hy he hE.1 2 [0, 1, 2, 3, 4, 5, 6, 7, 8, 9, 10, 11, 12, 13, 14, 15, 16, 17, 18, 19, 20, 21, 22, 23, 24, 25, 26, 27, 28, 29, 30, 31, 32, 33, 34, 35, 36, 37, 38, 39, 40, 41, 42, 43, 44, 45, 46, 47, 48, 49, 50, 51, 52, 53, 54, 55, 56, 57, 58, 59, 60, 61, 62, 63, 64, 65, 66, 67, 68, 69, 70, 71, 72, 73, 74, 75, 76, 77, 78, 79, 80, 81, 82, 83, 84, 85, 86, 87, 88, 89, 90, 91, 92, 93, 94, 95, 96, 97, 98, 99, 100, 101, 102, 103, 104, 105, 106, 107, 108, 109, 110, 111, 112, 113, 114, 115, 116, 117, 118, 119, 120, 121, 122, 123, 124, 125, 126, 127, 128, 129, 130, 131, 132, 133, 134, 135, 136, 137, 138, 139, 140, 141, 142, 143, 144, 145, 146, 147, 148, 149, 150, 151, 152, 153, 154, 155, 156, 157, 158, 159, 160, 161, 162, 163, 164, 165, 166, 167, 168, 169, 170, 171, 172, 173, 174, 175, 176, 177, 178, 179, 180, 181, 182, 183, 184, 185, 186, 187, 188, 189, 190, 191, 192, 193, 194, 195, 196, 197, 198, 199, 200, 201, 202, 203] (kX8_checkFlow hE N) (gCo_of (by decide +kernel)) (by rw [hR]; exact ⟨by decide, by decide⟩) (by rw [hR]; exact ⟨by show _ ≤ 2; omega, by show _ ≤ 12; omega⟩) rfl rfl (by decide +kernel) gw4_52 gw4_54 gw0_21 gw1_1 gw4_55 (by decide +kernel : decode cX8_setBudget 2 = .ok (.invokevirtual 149, 3)) ?_)
  refine sm_iload_n (pc := 5) G hb (by decide +kernel : decode cX8_setBudget 5 = .ok (.iload_n 2, 1)) rfl ?_
  refine sm_iconst (pc := 6) G hb (by decide +kernel : decode cX8_setBudget 6 = .ok (.iconst 0, 1)) (by decide) ?_
  refine sm_sipush (pc := 7) G hb (by decide +kernel : decode cX8_setBudget 7 = .ok (.sipush 200, 3)) (by decide) ?_
  refine sm_mono (xca_sub gXV_sub) (sm_xcallS (pc := 10) G hb ho hy he hE.1 3 [] (kX8_checkRange hE N) (gCo_of (by decide +kernel)) (by rw [hR]; exact ⟨by decide, by decide⟩) (by rw [hR]; exact ⟨by show _ ≤ 2; omega, by show _ ≤ 12; omega⟩) (by decide +kernel) gw3_184 gw3_185 gw1_1 gw3_186 (by decide +kernel : decode cX8_setBudget 10 = .ok (.invokestatic 86, 3)) ?_)
  refine sm_aload_n (pc := 13) G hb (by decide +kernel : decode cX8_setBudget 13 = .ok (.aload_n 0, 1)) rfl ?_
  refine sm_iload_n (pc := 14) G hb (by decide +kernel : decode cX8_setBudget 14 = .ok (.iload_n 1, 1)) rfl ?_
  refine sm_iconst (pc := 15) G hb (by decide +kernel : decode cX8_setBudget 15 = .ok (.iconst 3, 1)) (by decide) ?_
  refine sm_iload_n (pc := 16) G hb (by decide +kernel : decode cX8_setBudget 16 = .ok (.iload_n 2, 1)) rfl ?_
  refine sm_mono (cav_sub gI_sub) (sm_callV (pc := 17) (N := 8) (T := TX8) (C := RX8) G hb ho hy he hE.1 4 [0, 1, 2, 3, 4, 5, 6, 7, 8, 9, 10, 11, 12, 13, 14, 15, 16, 17, 18, 19, 20, 21, 22, 23, 24, 25, 26, 27, 28, 29, 30, 31, 32, 33, 34, 35, 36, 37, 38, 39, 40, 41, 42, 43, 44, 45, 46, 47, 48, 49, 50, 51, 52, 53, 54, 55, 56, 57, 58, 59, 60, 61, 62, 63, 64, 65, 66, 67, 68, 69, 70, 71, 72, 73, 74, 75, 76, 77, 78, 79, 80, 81, 82, 83, 84, 85, 86, 87, 88, 89, 90, 91, 92, 93, 94, 95, 96, 97, 98, 99, 100, 101, 102, 103, 104, 105, 106, 107, 108, 109, 110, 111, 112, 113, 114, 115, 116, 117, 118, 119, 120, 121, 122, 123, 124, 125, 126, 127, 128, 129, 130, 131, 132, 133, 134, 135, 136, 137, 138, 139, 140, 141, 142, 143, 144, 145, 146, 147, 148, 149, 150, 151, 152, 153, 154, 155, 156, 157, 158, 159, 160, 161, 162, 163, 164, 165, 166, 167, 168, 169, 170, 171, 172, 173, 174, 175, 176, 177, 178, 179, 180, 181, 182, 183, 184, 185, 186, 187, 188, 189, 190, 191, 192, 193, 194, 195, 196, 197, 198, 199, 200, 201, 202, 203] (kX8_replaceNumber hE N) (gCo_of (by decide +kernel)) (by rw [hR]; exact ⟨by decide, by decide⟩) rfl rfl (by decide +kernel) gw4_57 gw4_59 gw0_22 gw1_1 gw4_60 (by decide +kernel : decode cX8_setBudget 17 = .ok (.invokevirtual 152, 3)) ?_)
  exact sm_iret (pc := 20) G hb (by decide +kernel : decode cX8_setBudget 20 = .ok (.ireturn, 1)) hr
theorem kX8_setBudget {ε : gE5} (hE : gEnv ε) (N : Nat) : gCtrX ε yX8_setBudget cX8_setBudget 3 (some .int) 7 137 2 12 gyX (fX8_setBudget N) :=
  gCtrX_of hE.1 (by decide) (fun γ G hb ho hy hR he hr => fX8_setBudget_s0 N G hb ho hy hR he hr hE (by omega))

set_option maxRecDepth 100000 in
set_option maxHeartbeats 4000000 in
theorem fX8_set_s27 {γ : gG} {cs ss : Nat} {ε : gE5} (N : Nat) (G : gOK γ) (hb : gcc γ = cX8_set) (ho : gow γ = RX8) (hy : gly γ = gyX) (hR : grm γ = { frames := 7, cells := 2, slots := 12, locals := 113 }) (he : genv γ = ε) (hr : grt γ = (some .int)) (hE : gEnv ε) (hc9 : cs + 0 ≤ 2 ∧ ss + 0 ≤ 12) : gSm γ cs ss 27 (fX8_set_k27 N) := by
  unfold fX8_set_k27
  refine sm_aload_n (pc := 27) G hb (by decide +kernel : decode cX8_set 27 = .ok (.aload_n 0, 1)) rfl ?_
  refine sm_get (pc := 28) (ci := 8) (j := 0) (N := 8) (T := TX8) G hb ho hy rfl (by decide) gin_8 gw2_100 (by decide +kernel : decode cX8_set 28 = .ok (.getfield 12, 3)) ?_
  refine sm_get (pc := 31) (ci := 7) (j := 0) (N := 4) (T := TX7) G hb ho hy rfl (by decide) gin_7 gw1_180 (by decide +kernel : decode cX8_set 31 = .ok (.getfield 50, 3)) ?_
  refine sm_get (pc := 34) (ci := 2) (j := 8) (N := 11) (T := TX2) G hb ho hy rfl (by decide) gin_2 gw1_84 (by decide +kernel : decode cX8_set 34 = .ok (.getfield 165, 3)) ?_
  refine sm_iload_n (pc := 37) G hb (by decide +kernel : decode cX8_set 37 = .ok (.iload_n 1, 1)) rfl ?_
  refine sm_iald (pc := 38) G hb hy (by decide +kernel : decode cX8_set 38 = .ok (.iaload, 1)) ?_
  refine sm_istore_n (pc := 39) G hb (by decide +kernel : decode cX8_set 39 = .ok (.istore_n 3, 1)) rfl ?_
  refine sm_aload_n (pc := 40) G hb (by decide +kernel : decode cX8_set 40 = .ok (.aload_n 0, 1)) rfl ?_
  refine sm_get (pc := 41) (ci := 8) (j := 0) (N := 8) (T := TX8) G hb ho hy rfl (by decide) gin_8 gw2_100 (by decide +kernel : decode cX8_set 41 = .ok (.getfield 12, 3)) ?_
  refine sm_get (pc := 44) (ci := 7) (j := 0) (N := 4) (T := TX7) G hb ho hy rfl (by decide) gin_7 gw1_180 (by decide +kernel : decode cX8_set 44 = .ok (.getfield 50, 3)) ?_
  refine sm_get (pc := 47) (ci := 2) (j := 8) (N := 11) (T := TX2) G hb ho hy rfl (by decide) gin_2 gw1_84 (by decide +kernel : decode cX8_set 47 = .ok (.getfield 165, 3)) ?_
  refine sm_iload_n (pc := 50) G hb (by decide +kernel : decode cX8_set 50 = .ok (.iload_n 1, 1)) rfl ?_
  refine sm_iload_n (pc := 51) G hb (by decide +kernel : decode cX8_set 51 = .ok (.iload_n 2, 1)) rfl ?_
  refine sm_iast (pc := 52) G hb hy (by decide +kernel : decode cX8_set 52 = .ok (.iastore, 1)) ?_
  refine sm_iload_n (pc := 53) G hb (by decide +kernel : decode cX8_set 53 = .ok (.iload_n 3, 1)) rfl ?_
  exact sm_iret (pc := 54) G hb (by decide +kernel : decode cX8_set 54 = .ok (.ireturn, 1)) hr
set_option maxRecDepth 100000 in
set_option maxHeartbeats 4000000 in
theorem fX8_set_s0 {γ : gG} {cs ss : Nat} {ε : gE5} (N : Nat) (G : gOK γ) (hb : gcc γ = cX8_set) (ho : gow γ = RX8) (hy : gly γ = gyX) (hR : grm γ = { frames := 7, cells := 2, slots := 12, locals := 113 }) (he : genv γ = ε) (hr : grt γ = (some .int)) (hE : gEnv ε) (hc9 : cs + 2 ≤ 2 ∧ ss + 12 ≤ 12) : gSm γ cs ss 0 (fX8_set_k0 N) := by
  unfold fX8_set_k0
  refine sm_iload_n (pc := 0) G hb (by decide +kernel : decode cX8_set 0 = .ok (.iload_n 1, 1)) rfl ?_
  refine sm_iconst (pc := 1) G hb (by decide +kernel : decode cX8_set 1 = .ok (.iconst 0, 1)) (by decide) ?_
  refine sm_iconst (pc := 2) G hb (by decide +kernel : decode cX8_set 2 = .ok (.iconst 3, 1)) (by decide) ?_
  refine sm_mono (xca_sub gXV_sub) (sm_xcallS (pc := 3) G hb ho hy he hE.1 3 [] (kX8_checkRange hE N) (gCo_of (by decide +kernel)) (by rw [hR]; exact ⟨by decide, by decide⟩) (by rw [hR]; exact ⟨by show _ ≤ 2; omega, by show _ ≤ 12; omega⟩) (by decide +kernel) gw3_184 gw3_185 gw1_1 gw3_186 (by decide +kernel : decode cX8_set 3 = .ok (.invokestatic 86, 3)) ?_)
  refine sm_iload_n (pc := 6) G hb (by decide +kernel : decode cX8_set 6 = .ok (.iload_n 2, 1)) rfl ?_
  refine sm_iconst (pc := 7) G hb (by decide +kernel : decode cX8_set 7 = .ok (.iconst 0, 1)) (by decide) ?_
  refine sm_getsGS (pc := 8) G hb ho he hE gw4_76 (by decide +kernel : decode cX8_set 8 = .ok (.getstatic 162, 3)) ?_
  refine sm_iload_n (pc := 11) G hb (by decide +kernel : decode cX8_set 11 = .ok (.iload_n 1, 1)) rfl ?_
  refine sm_tld (pc := 12) G hb he hE (by decide +kernel : decode cX8_set 12 = .ok (.iaload, 1)) ?_
  refine sm_mono (xca_sub gXV_sub) (sm_xcallS (pc := 13) G hb ho hy he hE.1 3 [] (kX8_checkRange hE N) (gCo_of (by decide +kernel)) (by rw [hR]; exact ⟨by decide, by decide⟩) (by rw [hR]; exact ⟨by show _ ≤ 2; omega, by show _ ≤ 12; omega⟩) (by decide +kernel) gw3_184 gw3_185 gw1_1 gw3_186 (by decide +kernel : decode cX8_set 13 = .ok (.invokestatic 86, 3)) ?_)
  refine sm_aload_n (pc := 16) G hb (by decide +kernel : decode cX8_set 16 = .ok (.aload_n 0, 1)) rfl ?_
  refine sm_get (pc := 17) (ci := 8) (j := 3) (N := 8) (T := TX8) G hb ho hy rfl (by decide) gin_8 gw2_103 (by decide +kernel : decode cX8_set 17 = .ok (.getfield 25, 3)) ?_
  refine sm_aload_n (pc := 20) G hb (by decide +kernel : decode cX8_set 20 = .ok (.aload_n 0, 1)) rfl ?_
  refine sm_get (pc := 21) (ci := 8) (j := 0) (N := 8) (T := TX8) G hb ho hy rfl (by decide) gin_8 gw2_100 (by decide +kernel : decode cX8_set 21 = .ok (.getfield 12, 3)) ?_
  refine sm_mono (cav_sub gV_sub) (sm_callV (pc := 24) (N := 2) (T := TX1) (C := RX1) G hb ho hy he hE.1 2 [61, 62, 63, 64, 65, 66, 67, 68, 69, 70, 71, 72, 73, 74, 75, 76, 77, 78, 79, 80, 81, 82, 83, 84, 85, 86, 87, 88, 89, 90, 91, 92, 93, 94, 95, 96, 97, 98, 99, 100, 101, 102, 103, 104, 105, 106, 107, 108, 109, 110, 111, 112, 113, 114, 115, 116, 117, 118, 119, 120, 121, 122, 123, 124, 125, 126, 127, 128, 129, 130, 131, 132, 133, 134, 135, 136, 137, 138, 139, 140, 141, 142, 143, 144, 145, 146, 147, 148, 149, 150, 151, 152, 153, 154, 155, 156, 157, 158, 159, 160, 161, 162, 163, 164, 165, 166, 167, 168, 169, 170, 171, 172, 173, 174, 175, 176, 177, 178, 179, 180, 181, 182, 1, 2, 3, 4, 5, 6, 7, 8, 9, 10, 11, 12, 13, 14, 15, 16, 17, 18, 19, 20] (kX1_remember hE N) (gCo_of (by decide +kernel)) (by rw [hR]; exact ⟨by decide, by decide⟩) rfl rfl (by decide +kernel) gw3_32 gw3_33 gw3_34 gw1_5 gw3_35 (by decide +kernel : decode cX8_set 24 = .ok (.invokevirtual 123, 3)) ?_)
  refine sm_mask ?_
  exact fX8_set_s27 N G hb ho hy hR he hr hE (by omega)
theorem kX8_set {ε : gE5} (hE : gEnv ε) (N : Nat) : gCtrX ε yX8_set cX8_set 4 (some .int) 7 113 2 12 gyX (fX8_set N) :=
  gCtrX_of hE.1 (by decide) (fun γ G hb ho hy hR he hr => fX8_set_s0 N G hb ho hy hR he hr hE (by omega))

set_option maxRecDepth 100000 in
set_option maxHeartbeats 4000000 in
theorem fX8_inject_s23 {γ : gG} {cs ss : Nat} {ε : gE5} (N : Nat) (G : gOK γ) (hb : gcc γ = cX8_inject) (ho : gow γ = RX8) (hy : gly γ = gyX) (hR : grm γ = { frames := 7, cells := 2, slots := 12, locals := 113 }) (he : genv γ = ε) (hr : grt γ = (some .int)) (hE : gEnv ε) (hc9 : cs + 0 ≤ 2 ∧ ss + 0 ≤ 12) : gSm γ cs ss 23 (fX8_inject_k23 N) := by
  unfold fX8_inject_k23
  refine sm_aload_n (pc := 23) G hb (by decide +kernel : decode cX8_inject 23 = .ok (.aload_n 0, 1)) rfl ?_
  refine sm_get (pc := 24) (ci := 8) (j := 0) (N := 8) (T := TX8) G hb ho hy rfl (by decide) gin_8 gw2_100 (by decide +kernel : decode cX8_inject 24 = .ok (.getfield 12, 3)) ?_
  refine sm_iload_n (pc := 27) G hb (by decide +kernel : decode cX8_inject 27 = .ok (.iload_n 1, 1)) rfl ?_
  refine sm_iload_n (pc := 28) G hb (by decide +kernel : decode cX8_inject 28 = .ok (.iload_n 2, 1)) rfl ?_
  refine sm_mono (cav_sub gI_sub) (sm_callV (pc := 29) (N := 4) (T := TX7) (C := RX7) G hb ho hy he hE.1 3 [1, 2, 3, 4, 5, 6, 7, 8, 9, 10, 11, 12, 13, 14, 15, 16, 17, 18, 19, 20] (kX7_arrive hE N) (gCo_of (by decide +kernel)) (by rw [hR]; exact ⟨by decide, by decide⟩) rfl rfl (by decide +kernel) gw4_84 gw4_85 gw4_86 gw1_2 gw4_87 (by decide +kernel : decode cX8_inject 29 = .ok (.invokevirtual 168, 3)) ?_)
  exact sm_iret (pc := 32) G hb (by decide +kernel : decode cX8_inject 32 = .ok (.ireturn, 1)) hr
set_option maxRecDepth 100000 in
set_option maxHeartbeats 4000000 in
theorem fX8_inject_s0 {γ : gG} {cs ss : Nat} {ε : gE5} (N : Nat) (G : gOK γ) (hb : gcc γ = cX8_inject) (ho : gow γ = RX8) (hy : gly γ = gyX) (hR : grm γ = { frames := 7, cells := 2, slots := 12, locals := 113 }) (he : genv γ = ε) (hr : grt γ = (some .int)) (hE : gEnv ε) (hc9 : cs + 2 ≤ 2 ∧ ss + 12 ≤ 12) : gSm γ cs ss 0 (fX8_inject_k0 N) := by
  unfold fX8_inject_k0
  refine sm_aload_n (pc := 0) G hb (by decide +kernel : decode cX8_inject 0 = .ok (.aload_n 0, 1)) rfl ?_
  refine sm_iload_n (pc := 1) G hb (by decide +kernel : decode cX8_inject 1 = .ok (.iload_n 1, 1)) rfl ?_
  refine sm_mono (xcav_sub gXV_sub) (sm_xcallV (pc := 2) (N := 8) (T := TX8) (C := RX8) G hb ho hy he hE.1 2 [0, 1, 2, 3, 4, 5, 6, 7, 8, 9, 10, 11, 12, 13, 14, 15, 16, 17, 18, 19, 20, 21, 22, 23, 24, 25, 26, 27, 28, 29, 30, 31, 32, 33, 34, 35, 36, 37, 38, 39, 40, 41, 42, 43, 44, 45, 46, 47, 48, 49, 50, 51, 52, 53, 54, 55, 56, 57, 58, 59, 60, 61, 62, 63, 64, 65, 66, 67, 68, 69, 70, 71, 72, 73, 74, 75, 76, 77, 78, 79, 80, 81, 82, 83, 84, 85, 86, 87, 88, 89, 90, 91, 92, 93, 94, 95, 96, 97, 98, 99, 100, 101, 102, 103, 104, 105, 106, 107, 108, 109, 110, 111, 112, 113, 114, 115, 116, 117, 118, 119, 120, 121, 122, 123, 124, 125, 126, 127, 128, 129, 130, 131, 132, 133, 134, 135, 136, 137, 138, 139, 140, 141, 142, 143, 144, 145, 146, 147, 148, 149, 150, 151, 152, 153, 154, 155, 156, 157, 158, 159, 160, 161, 162, 163, 164, 165, 166, 167, 168, 169, 170, 171, 172, 173, 174, 175, 176, 177, 178, 179, 180, 181, 182, 183, 184, 185, 186, 187, 188, 189, 190, 191, 192, 193, 194, 195, 196, 197, 198, 199, 200, 201, 202, 203] (kX8_checkFlow hE N) (gCo_of (by decide +kernel)) (by rw [hR]; exact ⟨by decide, by decide⟩) (by rw [hR]; exact ⟨by show _ ≤ 2; omega, by show _ ≤ 12; omega⟩) rfl rfl (by decide +kernel) gw4_52 gw4_54 gw0_21 gw1_1 gw4_55 (by decide +kernel : decode cX8_inject 2 = .ok (.invokevirtual 149, 3)) ?_)
  refine sm_iload_n (pc := 5) G hb (by decide +kernel : decode cX8_inject 5 = .ok (.iload_n 2, 1)) rfl ?_
  refine sm_iconst (pc := 6) G hb (by decide +kernel : decode cX8_inject 6 = .ok (.iconst 1, 1)) (by decide) ?_
  refine sm_bipush (pc := 7) G hb (by decide +kernel : decode cX8_inject 7 = .ok (.bipush 100, 2)) (by decide) ?_
  refine sm_mono (xca_sub gXV_sub) (sm_xcallS (pc := 9) G hb ho hy he hE.1 3 [] (kX8_checkRange hE N) (gCo_of (by decide +kernel)) (by rw [hR]; exact ⟨by decide, by decide⟩) (by rw [hR]; exact ⟨by show _ ≤ 2; omega, by show _ ≤ 12; omega⟩) (by decide +kernel) gw3_184 gw3_185 gw1_1 gw3_186 (by decide +kernel : decode cX8_inject 9 = .ok (.invokestatic 86, 3)) ?_)
  refine sm_aload_n (pc := 12) G hb (by decide +kernel : decode cX8_inject 12 = .ok (.aload_n 0, 1)) rfl ?_
  refine sm_get (pc := 13) (ci := 8) (j := 3) (N := 8) (T := TX8) G hb ho hy rfl (by decide) gin_8 gw2_103 (by decide +kernel : decode cX8_inject 13 = .ok (.getfield 25, 3)) ?_
  refine sm_aload_n (pc := 16) G hb (by decide +kernel : decode cX8_inject 16 = .ok (.aload_n 0, 1)) rfl ?_
  refine sm_get (pc := 17) (ci := 8) (j := 0) (N := 8) (T := TX8) G hb ho hy rfl (by decide) gin_8 gw2_100 (by decide +kernel : decode cX8_inject 17 = .ok (.getfield 12, 3)) ?_
  refine sm_mono (cav_sub gV_sub) (sm_callV (pc := 20) (N := 2) (T := TX1) (C := RX1) G hb ho hy he hE.1 2 [61, 62, 63, 64, 65, 66, 67, 68, 69, 70, 71, 72, 73, 74, 75, 76, 77, 78, 79, 80, 81, 82, 83, 84, 85, 86, 87, 88, 89, 90, 91, 92, 93, 94, 95, 96, 97, 98, 99, 100, 101, 102, 103, 104, 105, 106, 107, 108, 109, 110, 111, 112, 113, 114, 115, 116, 117, 118, 119, 120, 121, 122, 123, 124, 125, 126, 127, 128, 129, 130, 131, 132, 133, 134, 135, 136, 137, 138, 139, 140, 141, 142, 143, 144, 145, 146, 147, 148, 149, 150, 151, 152, 153, 154, 155, 156, 157, 158, 159, 160, 161, 162, 163, 164, 165, 166, 167, 168, 169, 170, 171, 172, 173, 174, 175, 176, 177, 178, 179, 180, 181, 182, 1, 2, 3, 4, 5, 6, 7, 8, 9, 10, 11, 12, 13, 14, 15, 16, 17, 18, 19, 20] (kX1_remember hE N) (gCo_of (by decide +kernel)) (by rw [hR]; exact ⟨by decide, by decide⟩) rfl rfl (by decide +kernel) gw3_32 gw3_33 gw3_34 gw1_5 gw3_35 (by decide +kernel : decode cX8_inject 20 = .ok (.invokevirtual 123, 3)) ?_)
  refine sm_mask ?_
  exact fX8_inject_s23 N G hb ho hy hR he hr hE (by omega)
theorem kX8_inject {ε : gE5} (hE : gEnv ε) (N : Nat) : gCtrX ε yX8_inject cX8_inject 3 (some .int) 7 113 2 12 gyX (fX8_inject N) :=
  gCtrX_of hE.1 (by decide) (fun γ G hb ho hy hR he hr => fX8_inject_s0 N G hb ho hy hR he hr hE (by omega))

set_option maxRecDepth 100000 in
set_option maxHeartbeats 4000000 in
theorem fX8_flush_s26 {γ : gG} {cs ss : Nat} {ε : gE5} (N : Nat) (G : gOK γ) (hb : gcc γ = cX8_flush) (ho : gow γ = RX8) (hy : gly γ = gyX) (hR : grm γ = { frames := 8, cells := 3, slots := 18, locals := 133 }) (he : genv γ = ε) (hr : grt γ = (some .int)) (hE : gEnv ε) (hc9 : cs + 0 ≤ 3 ∧ ss + 0 ≤ 18) : gSm γ cs ss 26 (fX8_flush_k26 N) := by
  unfold fX8_flush_k26
  refine sm_mono (cav_sub gI_sub) (sm_callV (pc := 26) (N := 4) (T := TX7) (C := RX7) G hb ho hy he hE.1 2 [1, 2, 3, 4, 5, 6, 7, 8, 9, 10, 11, 12, 13, 14, 15, 16, 17, 18, 19, 20] (kX7_loseAll hE N) (gCo_of (by decide +kernel)) (by rw [hR]; exact ⟨by decide, by decide⟩) rfl rfl (by decide +kernel) gw4_110 gw4_111 gw4_112 gw1_2 gw4_113 (by decide +kernel : decode cX8_flush 26 = .ok (.invokevirtual 174, 3)) ?_)
  exact sm_iret (pc := 29) G hb (by decide +kernel : decode cX8_flush 29 = .ok (.ireturn, 1)) hr
set_option maxRecDepth 100000 in
set_option maxHeartbeats 4000000 in
theorem fX8_flush_s0 {γ : gG} {cs ss : Nat} {ε : gE5} (N : Nat) (G : gOK γ) (hb : gcc γ = cX8_flush) (ho : gow γ = RX8) (hy : gly γ = gyX) (hR : grm γ = { frames := 8, cells := 3, slots := 18, locals := 133 }) (he : genv γ = ε) (hr : grt γ = (some .int)) (hE : gEnv ε) (hc9 : cs + 3 ≤ 3 ∧ ss + 18 ≤ 18) : gSm γ cs ss 0 (fX8_flush_k0 N) := by
  unfold fX8_flush_k0
  refine sm_aload_n (pc := 0) G hb (by decide +kernel : decode cX8_flush 0 = .ok (.aload_n 0, 1)) rfl ?_
  refine sm_iload_n (pc := 1) G hb (by decide +kernel : decode cX8_flush 1 = .ok (.iload_n 1, 1)) rfl ?_
  refine sm_iload_n (pc := 2) G hb (by decide +kernel : decode cX8_flush 2 = .ok (.iload_n 2, 1)) rfl ?_
  refine sm_mono (xcav_sub gXV_sub) (sm_xcallV (pc := 3) (N := 8) (T := TX8) (C := RX8) G hb ho hy he hE.1 3 [0, 1, 2, 3, 4, 5, 6, 7, 8, 9, 10, 11, 12, 13, 14, 15, 16, 17, 18, 19, 20, 21, 22, 23, 24, 25, 26, 27, 28, 29, 30, 31, 32, 33, 34, 35, 36, 37, 38, 39, 40, 41, 42, 43, 44, 45, 46, 47, 48, 49, 50, 51, 52, 53, 54, 55, 56, 57, 58, 59, 60, 61, 62, 63, 64, 65, 66, 67, 68, 69, 70, 71, 72, 73, 74, 75, 76, 77, 78, 79, 80, 81, 82, 83, 84, 85, 86, 87, 88, 89, 90, 91, 92, 93, 94, 95, 96, 97, 98, 99, 100, 101, 102, 103, 104, 105, 106, 107, 108, 109, 110, 111, 112, 113, 114, 115, 116, 117, 118, 119, 120, 121, 122, 123, 124, 125, 126, 127, 128, 129, 130, 131, 132, 133, 134, 135, 136, 137, 138, 139, 140, 141, 142, 143, 144, 145, 146, 147, 148, 149, 150, 151, 152, 153, 154, 155, 156, 157, 158, 159, 160, 161, 162, 163, 164, 165, 166, 167, 168, 169, 170, 171, 172, 173, 174, 175, 176, 177, 178, 179, 180, 181, 182, 183, 184, 185, 186, 187, 188, 189, 190, 191, 192, 193, 194, 195, 196, 197, 198, 199, 200, 201, 202, 203] (kX8_checkTwoNodes hE N) (gCo_of (by decide +kernel)) (by rw [hR]; exact ⟨by decide, by decide⟩) (by rw [hR]; exact ⟨by show _ ≤ 3; omega, by show _ ≤ 18; omega⟩) rfl rfl (by decide +kernel) gw3_228 gw3_230 gw0_18 gw1_1 gw3_231 (by decide +kernel : decode cX8_flush 3 = .ok (.invokevirtual 113, 3)) ?_)
  refine sm_aload_n (pc := 6) G hb (by decide +kernel : decode cX8_flush 6 = .ok (.aload_n 0, 1)) rfl ?_
  refine sm_get (pc := 7) (ci := 8) (j := 3) (N := 8) (T := TX8) G hb ho hy rfl (by decide) gin_8 gw2_103 (by decide +kernel : decode cX8_flush 7 = .ok (.getfield 25, 3)) ?_
  refine sm_aload_n (pc := 10) G hb (by decide +kernel : decode cX8_flush 10 = .ok (.aload_n 0, 1)) rfl ?_
  refine sm_get (pc := 11) (ci := 8) (j := 0) (N := 8) (T := TX8) G hb ho hy rfl (by decide) gin_8 gw2_100 (by decide +kernel : decode cX8_flush 11 = .ok (.getfield 12, 3)) ?_
  refine sm_mono (cav_sub gV_sub) (sm_callV (pc := 14) (N := 2) (T := TX1) (C := RX1) G hb ho hy he hE.1 2 [61, 62, 63, 64, 65, 66, 67, 68, 69, 70, 71, 72, 73, 74, 75, 76, 77, 78, 79, 80, 81, 82, 83, 84, 85, 86, 87, 88, 89, 90, 91, 92, 93, 94, 95, 96, 97, 98, 99, 100, 101, 102, 103, 104, 105, 106, 107, 108, 109, 110, 111, 112, 113, 114, 115, 116, 117, 118, 119, 120, 121, 122, 123, 124, 125, 126, 127, 128, 129, 130, 131, 132, 133, 134, 135, 136, 137, 138, 139, 140, 141, 142, 143, 144, 145, 146, 147, 148, 149, 150, 151, 152, 153, 154, 155, 156, 157, 158, 159, 160, 161, 162, 163, 164, 165, 166, 167, 168, 169, 170, 171, 172, 173, 174, 175, 176, 177, 178, 179, 180, 181, 182, 1, 2, 3, 4, 5, 6, 7, 8, 9, 10, 11, 12, 13, 14, 15, 16, 17, 18, 19, 20] (kX1_remember hE N) (gCo_of (by decide +kernel)) (by rw [hR]; exact ⟨by decide, by decide⟩) rfl rfl (by decide +kernel) gw3_32 gw3_33 gw3_34 gw1_5 gw3_35 (by decide +kernel : decode cX8_flush 14 = .ok (.invokevirtual 123, 3)) ?_)
  refine sm_aload_n (pc := 17) G hb (by decide +kernel : decode cX8_flush 17 = .ok (.aload_n 0, 1)) rfl ?_
  refine sm_get (pc := 18) (ci := 8) (j := 0) (N := 8) (T := TX8) G hb ho hy rfl (by decide) gin_8 gw2_100 (by decide +kernel : decode cX8_flush 18 = .ok (.getfield 12, 3)) ?_
  refine sm_iload_n (pc := 21) G hb (by decide +kernel : decode cX8_flush 21 = .ok (.iload_n 1, 1)) rfl ?_
  refine sm_iload_n (pc := 22) G hb (by decide +kernel : decode cX8_flush 22 = .ok (.iload_n 2, 1)) rfl ?_
  refine sm_mono (ca_sub gI_sub) (sm_callS (pc := 23) G hb ho hy he hE.1 2 [] (kX8_pair hE N) (gCo_of (by decide +kernel)) (by rw [hR]; exact ⟨by decide, by decide⟩) (by decide +kernel) gw4_109 gw2_82 gw1_1 gw2_83 (by decide +kernel : decode cX8_flush 23 = .ok (.invokestatic 171, 3)) ?_)
  refine sm_mask ?_
  exact fX8_flush_s26 N G hb ho hy hR he hr hE (by omega)
theorem kX8_flush {ε : gE5} (hE : gEnv ε) (N : Nat) : gCtrX ε yX8_flush cX8_flush 3 (some .int) 8 133 3 18 gyX (fX8_flush N) :=
  gCtrX_of hE.1 (by decide) (fun γ G hb ho hy hR he hr => fX8_flush_s0 N G hb ho hy hR he hr hE (by omega))

set_option maxRecDepth 100000 in
set_option maxHeartbeats 4000000 in
theorem fX8_resetShadows_s0 {γ : gG} {cs ss : Nat} {ε : gE5} (N : Nat) (G : gOK γ) (hb : gcc γ = cX8_resetShadows) (ho : gow γ = RX8) (hy : gly γ = gyX) (hR : grm γ = { frames := 5, cells := 0, slots := 0, locals := 113 }) (he : genv γ = ε) (hr : grt γ = (some .int)) (hE : gEnv ε) : gSm γ cs ss 0 (fX8_resetShadows_k0 N) := by
  unfold fX8_resetShadows_k0
  refine sm_aload_n (pc := 0) G hb (by decide +kernel : decode cX8_resetShadows 0 = .ok (.aload_n 0, 1)) rfl ?_
  refine sm_get (pc := 1) (ci := 8) (j := 3) (N := 8) (T := TX8) G hb ho hy rfl (by decide) gin_8 gw2_103 (by decide +kernel : decode cX8_resetShadows 1 = .ok (.getfield 25, 3)) ?_
  refine sm_aload_n (pc := 4) G hb (by decide +kernel : decode cX8_resetShadows 4 = .ok (.aload_n 0, 1)) rfl ?_
  refine sm_get (pc := 5) (ci := 8) (j := 0) (N := 8) (T := TX8) G hb ho hy rfl (by decide) gin_8 gw2_100 (by decide +kernel : decode cX8_resetShadows 5 = .ok (.getfield 12, 3)) ?_
  refine sm_mono (cav_sub gV_sub) (sm_callV (pc := 8) (N := 2) (T := TX1) (C := RX1) G hb ho hy he hE.1 2 [61, 62, 63, 64, 65, 66, 67, 68, 69, 70, 71, 72, 73, 74, 75, 76, 77, 78, 79, 80, 81, 82, 83, 84, 85, 86, 87, 88, 89, 90, 91, 92, 93, 94, 95, 96, 97, 98, 99, 100, 101, 102, 103, 104, 105, 106, 107, 108, 109, 110, 111, 112, 113, 114, 115, 116, 117, 118, 119, 120, 121, 122, 123, 124, 125, 126, 127, 128, 129, 130, 131, 132, 133, 134, 135, 136, 137, 138, 139, 140, 141, 142, 143, 144, 145, 146, 147, 148, 149, 150, 151, 152, 153, 154, 155, 156, 157, 158, 159, 160, 161, 162, 163, 164, 165, 166, 167, 168, 169, 170, 171, 172, 173, 174, 175, 176, 177, 178, 179, 180, 181, 182, 1, 2, 3, 4, 5, 6, 7, 8, 9, 10, 11, 12, 13, 14, 15, 16, 17, 18, 19, 20] (kX1_remember hE N) (gCo_of (by decide +kernel)) (by rw [hR]; exact ⟨by decide, by decide⟩) rfl rfl (by decide +kernel) gw3_32 gw3_33 gw3_34 gw1_5 gw3_35 (by decide +kernel : decode cX8_resetShadows 8 = .ok (.invokevirtual 123, 3)) ?_)
  refine sm_aload_n (pc := 11) G hb (by decide +kernel : decode cX8_resetShadows 11 = .ok (.aload_n 0, 1)) rfl ?_
  refine sm_get (pc := 12) (ci := 8) (j := 0) (N := 8) (T := TX8) G hb ho hy rfl (by decide) gin_8 gw2_100 (by decide +kernel : decode cX8_resetShadows 12 = .ok (.getfield 12, 3)) ?_
  refine sm_get (pc := 15) (ci := 7) (j := 1) (N := 4) (T := TX7) G hb ho hy rfl (by decide) gin_7 gw1_186 (by decide +kernel : decode cX8_resetShadows 15 = .ok (.getfield 177, 3)) ?_
  refine sm_get (pc := 18) (ci := 4) (j := 3) (N := 12) (T := TX4) G hb ho hy rfl (by decide) gin_4 gw1_131 (by decide +kernel : decode cX8_resetShadows 18 = .ok (.getfield 181, 3)) ?_
  refine sm_mono (ca_sub gJ_sub) (sm_callS (pc := 21) G hb ho hy he hE.1 1 [15] (kX8_sum hE N) (gCo_of (by decide +kernel)) (by rw [hR]; exact ⟨by decide, by decide⟩) (by decide +kernel) gw3_55 gw3_56 gw1_1 gw3_57 (by decide +kernel : decode cX8_resetShadows 21 = .ok (.invokestatic 186, 3)) ?_)
  refine sm_l2i (pc := 24) G hb (by decide +kernel : decode cX8_resetShadows 24 = .ok (.l2i, 1)) ?_
  refine sm_istore_n (pc := 25) G hb (by decide +kernel : decode cX8_resetShadows 25 = .ok (.istore_n 1, 1)) rfl ?_
  refine sm_aload_n (pc := 26) G hb (by decide +kernel : decode cX8_resetShadows 26 = .ok (.aload_n 0, 1)) rfl ?_
  refine sm_get (pc := 27) (ci := 8) (j := 0) (N := 8) (T := TX8) G hb ho hy rfl (by decide) gin_8 gw2_100 (by decide +kernel : decode cX8_resetShadows 27 = .ok (.getfield 12, 3)) ?_
  refine sm_get (pc := 30) (ci := 7) (j := 1) (N := 4) (T := TX7) G hb ho hy rfl (by decide) gin_7 gw1_186 (by decide +kernel : decode cX8_resetShadows 30 = .ok (.getfield 177, 3)) ?_
  refine sm_get (pc := 33) (ci := 4) (j := 3) (N := 12) (T := TX4) G hb ho hy rfl (by decide) gin_4 gw1_131 (by decide +kernel : decode cX8_resetShadows 33 = .ok (.getfield 181, 3)) ?_
  refine sm_iconst (pc := 36) G hb (by decide +kernel : decode cX8_resetShadows 36 = .ok (.iconst 0, 1)) (by decide) ?_
  refine sm_mono (ca_sub gV_sub) (sm_callS (pc := 37) G hb ho hy he hE.1 2 [15] (kJF_fill hE N 100) ⟨rfl, rfl, by decide⟩ (by rw [hR]; exact ⟨by decide, by decide⟩) (by decide +kernel) gw3_58 gw2_79 gw1_10 gw2_80 (by decide +kernel : decode cX8_resetShadows 37 = .ok (.invokestatic 190, 3)) ?_)
  refine sm_iload_n (pc := 40) G hb (by decide +kernel : decode cX8_resetShadows 40 = .ok (.iload_n 1, 1)) rfl ?_
  exact sm_iret (pc := 41) G hb (by decide +kernel : decode cX8_resetShadows 41 = .ok (.ireturn, 1)) hr
theorem kX8_resetShadows {ε : gE5} (hE : gEnv ε) (N : Nat) : gCtr ε yX8_resetShadows cX8_resetShadows 2 (some .int) 5 113 gyX (fX8_resetShadows N) :=
  gCtr_of hE.1 (by decide) (fun γ G hb ho hy hR he hr => fX8_resetShadows_s0 N G hb ho hy hR he hr hE)

set_option maxRecDepth 100000 in
set_option maxHeartbeats 4000000 in
theorem fX8_run_s55 {γ : gG} {cs ss : Nat} {ε : gE5} (N : Nat) (G : gOK γ) (hb : gcc γ = cX8_run) (ho : gow γ = RX8) (hy : gly γ = gyX) (hR : grm γ = { frames := 21, cells := 2, slots := 12, locals := 551 }) (he : genv γ = ε) (hr : grt γ = (some .int)) (hE : gEnv ε) (hc9 : cs + 0 ≤ 2 ∧ ss + 0 ≤ 12) : gSm γ cs ss 55 (fX8_run_k55 N) := by
  unfold fX8_run_k55
  refine sm_aload_n (pc := 55) G hb (by decide +kernel : decode cX8_run 55 = .ok (.aload_n 0, 1)) rfl ?_
  refine sm_get (pc := 56) (ci := 8) (j := 0) (N := 8) (T := TX8) G hb ho hy rfl (by decide) gin_8 gw2_100 (by decide +kernel : decode cX8_run 56 = .ok (.getfield 12, 3)) ?_
  refine sm_get (pc := 59) (ci := 7) (j := 1) (N := 4) (T := TX7) G hb ho hy rfl (by decide) gin_7 gw1_186 (by decide +kernel : decode cX8_run 59 = .ok (.getfield 177, 3)) ?_
  refine sm_get (pc := 62) (ci := 4) (j := 11) (N := 12) (T := TX4) G hb ho hy rfl (by decide) gin_4 gw1_153 (by decide +kernel : decode cX8_run 62 = .ok (.getfield 205, 3)) ?_
  exact sm_iret (pc := 65) G hb (by decide +kernel : decode cX8_run 65 = .ok (.ireturn, 1)) hr
set_option maxRecDepth 100000 in
set_option maxHeartbeats 4000000 in
theorem fX8_run_s0 {γ : gG} {cs ss : Nat} {ε : gE5} (N : Nat) (G : gOK γ) (hb : gcc γ = cX8_run) (ho : gow γ = RX8) (hy : gly γ = gyX) (hR : grm γ = { frames := 21, cells := 2, slots := 12, locals := 551 }) (he : genv γ = ε) (hr : grt γ = (some .int)) (hE : gEnv ε) (hc9 : cs + 2 ≤ 2 ∧ ss + 12 ≤ 12) : gSm γ cs ss 0 (fX8_run_k0 N) := by
  unfold fX8_run_k0
  refine sm_iload_n (pc := 0) G hb (by decide +kernel : decode cX8_run 0 = .ok (.iload_n 1, 1)) rfl ?_
  refine sm_iconst (pc := 1) G hb (by decide +kernel : decode cX8_run 1 = .ok (.iconst 1, 1)) (by decide) ?_
  refine sm_bipush (pc := 2) G hb (by decide +kernel : decode cX8_run 2 = .ok (.bipush 50, 2)) (by decide) ?_
  refine sm_mono (xca_sub gXV_sub) (sm_xcallS (pc := 4) G hb ho hy he hE.1 3 [] (kX8_checkRange hE N) (gCo_of (by decide +kernel)) (by rw [hR]; exact ⟨by decide, by decide⟩) (by rw [hR]; exact ⟨by show _ ≤ 2; omega, by show _ ≤ 12; omega⟩) (by decide +kernel) gw3_184 gw3_185 gw1_1 gw3_186 (by decide +kernel : decode cX8_run 4 = .ok (.invokestatic 86, 3)) ?_)
  refine sm_aload_n (pc := 7) G hb (by decide +kernel : decode cX8_run 7 = .ok (.aload_n 0, 1)) rfl ?_
  refine sm_get (pc := 8) (ci := 8) (j := 0) (N := 8) (T := TX8) G hb ho hy rfl (by decide) gin_8 gw2_100 (by decide +kernel : decode cX8_run 8 = .ok (.getfield 12, 3)) ?_
  refine sm_get (pc := 11) (ci := 7) (j := 2) (N := 4) (T := TX7) G hb ho hy rfl (by decide) gin_7 gw1_189 (by decide +kernel : decode cX8_run 11 = .ok (.getfield 196, 3)) ?_
  refine sm_iload_n (pc := 14) G hb (by decide +kernel : decode cX8_run 14 = .ok (.iload_n 1, 1)) rfl ?_
  refine sm_iadd (pc := 15) G hb (by decide +kernel : decode cX8_run 15 = .ok (.iadd, 1)) ?_
  refine sm_sipush (pc := 16) G hb (by decide +kernel : decode cX8_run 16 = .ok (.sipush 9999, 3)) (by decide) ?_
  refine sm_icmp_le (pc := 19) (tgt := 32) G hb (by decide +kernel : decode cX8_run 19 = .ok (.if_icmp .le 13, 3)) (by decide) ?_ ?_
  · skip
    refine sm_aload_n (pc := 32) G hb (by decide +kernel : decode cX8_run 32 = .ok (.aload_n 0, 1)) rfl ?_
    refine sm_get (pc := 33) (ci := 8) (j := 3) (N := 8) (T := TX8) G hb ho hy rfl (by decide) gin_8 gw2_103 (by decide +kernel : decode cX8_run 33 = .ok (.getfield 25, 3)) ?_
    refine sm_aload_n (pc := 36) G hb (by decide +kernel : decode cX8_run 36 = .ok (.aload_n 0, 1)) rfl ?_
    refine sm_get (pc := 37) (ci := 8) (j := 0) (N := 8) (T := TX8) G hb ho hy rfl (by decide) gin_8 gw2_100 (by decide +kernel : decode cX8_run 37 = .ok (.getfield 12, 3)) ?_
    refine sm_mono (cav_sub gV_sub) (sm_callV (pc := 40) (N := 2) (T := TX1) (C := RX1) G hb ho hy he hE.1 2 [61, 62, 63, 64, 65, 66, 67, 68, 69, 70, 71, 72, 73, 74, 75, 76, 77, 78, 79, 80, 81, 82, 83, 84, 85, 86, 87, 88, 89, 90, 91, 92, 93, 94, 95, 96, 97, 98, 99, 100, 101, 102, 103, 104, 105, 106, 107, 108, 109, 110, 111, 112, 113, 114, 115, 116, 117, 118, 119, 120, 121, 122, 123, 124, 125, 126, 127, 128, 129, 130, 131, 132, 133, 134, 135, 136, 137, 138, 139, 140, 141, 142, 143, 144, 145, 146, 147, 148, 149, 150, 151, 152, 153, 154, 155, 156, 157, 158, 159, 160, 161, 162, 163, 164, 165, 166, 167, 168, 169, 170, 171, 172, 173, 174, 175, 176, 177, 178, 179, 180, 181, 182, 1, 2, 3, 4, 5, 6, 7, 8, 9, 10, 11, 12, 13, 14, 15, 16, 17, 18, 19, 20] (kX1_remember hE N) (gCo_of (by decide +kernel)) (by rw [hR]; exact ⟨by decide, by decide⟩) rfl rfl (by decide +kernel) gw3_32 gw3_33 gw3_34 gw1_5 gw3_35 (by decide +kernel : decode cX8_run 40 = .ok (.invokevirtual 123, 3)) ?_)
    refine sm_aload_n (pc := 43) G hb (by decide +kernel : decode cX8_run 43 = .ok (.aload_n 0, 1)) rfl ?_
    refine sm_get (pc := 44) (ci := 8) (j := 5) (N := 8) (T := TX8) G hb ho hy rfl (by decide) gin_8 gw2_105 (by decide +kernel : decode cX8_run 44 = .ok (.getfield 39, 3)) ?_
    refine sm_aload_n (pc := 47) G hb (by decide +kernel : decode cX8_run 47 = .ok (.aload_n 0, 1)) rfl ?_
    refine sm_get (pc := 48) (ci := 8) (j := 0) (N := 8) (T := TX8) G hb ho hy rfl (by decide) gin_8 gw2_100 (by decide +kernel : decode cX8_run 48 = .ok (.getfield 12, 3)) ?_
    refine sm_iload_n (pc := 51) G hb (by decide +kernel : decode cX8_run 51 = .ok (.iload_n 1, 1)) rfl ?_
    refine sm_mono (cav_sub gV_sub) (sm_callV (pc := 52) (N := 4) (T := TX6) (C := RX6) G hb ho hy he hE.1 3 [194, 195, 196, 197, 198, 199, 200, 1, 2, 3, 4, 5, 6, 7, 8, 9, 10, 11, 12, 13, 14, 15, 16, 17, 18, 19, 20] (kX6_passSlots hE N) (gCo_of (by decide +kernel)) (by rw [hR]; exact ⟨by decide, by decide⟩) rfl rfl (by decide +kernel) gw4_130 gw4_131 gw4_132 gw1_7 gw4_133 (by decide +kernel : decode cX8_run 52 = .ok (.invokevirtual 201, 3)) ?_)
    refine sm_mask ?_
    exact fX8_run_s55 N G hb ho hy hR he hr hE (by omega)
  · skip
    exact sm_throw (pc := 22) (i := 310) (text := "the slot would be too great") G hb ho he hE gx_IAE (List.mem_of_getElem? (i := 36) rfl) (by rw [hR]; exact ⟨by decide, by decide⟩) (by rw [hR]; exact ⟨by show _ ≤ 2; omega, by show _ ≤ 12; omega⟩) (by decide +kernel : decode cX8_run 22 = .ok (.new 93, 3)) (by decide +kernel : decode cX8_run 25 = .ok (.dup, 1)) (by decide +kernel : decode cX8_run 26 = .ok (.ldc 199, 2)) (by decide +kernel : decode cX8_run 28 = .ok (.invokespecial 97, 3)) (by decide +kernel : decode cX8_run 31 = .ok (.athrow, 1))
theorem kX8_run {ε : gE5} (hE : gEnv ε) (N : Nat) : gCtrX ε yX8_run cX8_run 2 (some .int) 21 551 2 12 gyX (fX8_run N) :=
  gCtrX_of hE.1 (by decide) (fun γ G hb ho hy hR he hr => fX8_run_s0 N G hb ho hy hR he hr hE (by omega))

set_option maxRecDepth 100000 in
set_option maxHeartbeats 4000000 in
theorem fX8_undo_s0 {γ : gG} {cs ss : Nat} {ε : gE5} (N : Nat) (G : gOK γ) (hb : gcc γ = cX8_undo) (ho : gow γ = RX8) (hy : gly γ = gyX) (hR : grm γ = { frames := 6, cells := 1, slots := 6, locals := 111 }) (he : genv γ = ε) (hr : grt γ = (some .int)) (hE : gEnv ε) (hc9 : cs + 1 ≤ 1 ∧ ss + 6 ≤ 6) : gSm γ cs ss 0 (fX8_undo_k0 N) := by
  unfold fX8_undo_k0
  refine sm_aload_n (pc := 0) G hb (by decide +kernel : decode cX8_undo 0 = .ok (.aload_n 0, 1)) rfl ?_
  refine sm_get (pc := 1) (ci := 8) (j := 3) (N := 8) (T := TX8) G hb ho hy rfl (by decide) gin_8 gw2_103 (by decide +kernel : decode cX8_undo 1 = .ok (.getfield 25, 3)) ?_
  refine sm_get (pc := 4) (ci := 1) (j := 1) (N := 2) (T := TX1) G hb ho hy rfl (by decide) gin_1 gw1_213 (by decide +kernel : decode cX8_undo 4 = .ok (.getfield 103, 3)) ?_
  refine sm_if_ne (pc := 7) (tgt := 20) G hb (by decide +kernel : decode cX8_undo 7 = .ok (.ifCond .ne 13, 3)) (by decide) ?_ ?_
  · skip
    refine sm_aload_n (pc := 20) G hb (by decide +kernel : decode cX8_undo 20 = .ok (.aload_n 0, 1)) rfl ?_
    refine sm_get (pc := 21) (ci := 8) (j := 3) (N := 8) (T := TX8) G hb ho hy rfl (by decide) gin_8 gw2_103 (by decide +kernel : decode cX8_undo 21 = .ok (.getfield 25, 3)) ?_
    refine sm_aload_n (pc := 24) G hb (by decide +kernel : decode cX8_undo 24 = .ok (.aload_n 0, 1)) rfl ?_
    refine sm_get (pc := 25) (ci := 8) (j := 0) (N := 8) (T := TX8) G hb ho hy rfl (by decide) gin_8 gw2_100 (by decide +kernel : decode cX8_undo 25 = .ok (.getfield 12, 3)) ?_
    refine sm_mono (cav_sub gV_sub) (sm_callV (pc := 28) (N := 2) (T := TX1) (C := RX1) G hb ho hy he hE.1 2 [61, 62, 63, 64, 65, 66, 67, 68, 69, 70, 71, 72, 73, 74, 75, 76, 77, 78, 79, 80, 81, 82, 83, 84, 85, 86, 87, 88, 89, 90, 91, 92, 93, 94, 95, 96, 97, 98, 99, 100, 101, 102, 103, 104, 105, 106, 107, 108, 109, 110, 111, 112, 113, 114, 115, 116, 117, 118, 119, 120, 121, 122, 123, 124, 125, 126, 127, 128, 129, 130, 131, 132, 133, 134, 135, 136, 137, 138, 139, 140, 141, 142, 143, 144, 145, 146, 147, 148, 149, 150, 151, 152, 153, 154, 155, 156, 157, 158, 159, 160, 161, 162, 163, 164, 165, 166, 167, 168, 169, 170, 171, 172, 173, 174, 175, 176, 177, 178, 179, 180, 181, 182, 1, 2, 3, 4, 5, 6, 7, 8, 9, 10, 11, 12, 13, 14, 15, 16, 17, 18, 19, 20] (kX1_takeBack hE N) (gCo_of (by decide +kernel)) (by rw [hR]; exact ⟨by decide, by decide⟩) rfl rfl (by decide +kernel) gw4_221 gw4_222 gw4_223 gw1_5 gw4_224 (by decide +kernel : decode cX8_undo 28 = .ok (.invokevirtual 210, 3)) ?_)
    refine sm_aload_n (pc := 31) G hb (by decide +kernel : decode cX8_undo 31 = .ok (.aload_n 0, 1)) rfl ?_
    refine sm_get (pc := 32) (ci := 8) (j := 3) (N := 8) (T := TX8) G hb ho hy rfl (by decide) gin_8 gw2_103 (by decide +kernel : decode cX8_undo 32 = .ok (.getfield 25, 3)) ?_
    refine sm_get (pc := 35) (ci := 1) (j := 1) (N := 2) (T := TX1) G hb ho hy rfl (by decide) gin_1 gw1_213 (by decide +kernel : decode cX8_undo 35 = .ok (.getfield 103, 3)) ?_
    exact sm_iret (pc := 38) G hb (by decide +kernel : decode cX8_undo 38 = .ok (.ireturn, 1)) hr
  · skip
    exact sm_throw (pc := 10) (i := 311) (text := "there is no change to undo") G hb ho he hE gx_ISE (List.mem_of_getElem? (i := 37) rfl) (by rw [hR]; exact ⟨by decide, by decide⟩) (by rw [hR]; exact ⟨by show _ ≤ 1; omega, by show _ ≤ 6; omega⟩) (by decide +kernel : decode cX8_undo 10 = .ok (.new 76, 3)) (by decide +kernel : decode cX8_undo 13 = .ok (.dup, 1)) (by decide +kernel : decode cX8_undo 14 = .ok (.ldc 208, 2)) (by decide +kernel : decode cX8_undo 16 = .ok (.invokespecial 80, 3)) (by decide +kernel : decode cX8_undo 19 = .ok (.athrow, 1))
theorem kX8_undo {ε : gE5} (hE : gEnv ε) (N : Nat) : gCtrX ε yX8_undo cX8_undo 1 (some .int) 6 111 1 6 gyX (fX8_undo N) :=
  gCtrX_of hE.1 (by decide) (fun γ G hb ho hy hR he hr => fX8_undo_s0 N G hb ho hy hR he hr hE (by omega))

set_option maxRecDepth 100000 in
set_option maxHeartbeats 4000000 in
theorem fX8_undoCount_s0 {γ : gG} {cs ss : Nat} {ε : gE5} (N : Nat) (G : gOK γ) (hb : gcc γ = cX8_undoCount) (ho : gow γ = RX8) (hy : gly γ = gyX) (hR : grm γ = { frames := 0, cells := 0, slots := 0, locals := 0 }) (he : genv γ = ε) (hr : grt γ = (some .int)) (hE : gEnv ε) : gSm γ cs ss 0 (fX8_undoCount_k0 N) := by
  unfold fX8_undoCount_k0
  refine sm_aload_n (pc := 0) G hb (by decide +kernel : decode cX8_undoCount 0 = .ok (.aload_n 0, 1)) rfl ?_
  refine sm_get (pc := 1) (ci := 8) (j := 3) (N := 8) (T := TX8) G hb ho hy rfl (by decide) gin_8 gw2_103 (by decide +kernel : decode cX8_undoCount 1 = .ok (.getfield 25, 3)) ?_
  refine sm_get (pc := 4) (ci := 1) (j := 1) (N := 2) (T := TX1) G hb ho hy rfl (by decide) gin_1 gw1_213 (by decide +kernel : decode cX8_undoCount 4 = .ok (.getfield 103, 3)) ?_
  exact sm_iret (pc := 7) G hb (by decide +kernel : decode cX8_undoCount 7 = .ok (.ireturn, 1)) hr
theorem kX8_undoCount {ε : gE5} (hE : gEnv ε) (N : Nat) : gCtr ε yX8_undoCount cX8_undoCount 1 (some .int) 0 0 gyX (fX8_undoCount N) :=
  gCtr_of hE.1 (by decide) (fun γ G hb ho hy hR he hr => fX8_undoCount_s0 N G hb ho hy hR he hr hE)

set_option maxRecDepth 100000 in
set_option maxHeartbeats 4000000 in
theorem fX8_save_s0 {γ : gG} {cs ss : Nat} {ε : gE5} (N : Nat) (G : gOK γ) (hb : gcc γ = cX8_save) (ho : gow γ = RX8) (hy : gly γ = gyX) (hR : grm γ = { frames := 4, cells := 0, slots := 0, locals := 90 }) (he : genv γ = ε) (hr : grt γ = (some .int)) (hE : gEnv ε) : gSm γ cs ss 0 (fX8_save_k0 N) := by
  unfold fX8_save_k0
  refine sm_aload_n (pc := 0) G hb (by decide +kernel : decode cX8_save 0 = .ok (.aload_n 0, 1)) rfl ?_
  refine sm_get (pc := 1) (ci := 8) (j := 1) (N := 8) (T := TX8) G hb ho hy rfl (by decide) gin_8 gw2_101 (by decide +kernel : decode cX8_save 1 = .ok (.getfield 16, 3)) ?_
  refine sm_aload_n (pc := 4) G hb (by decide +kernel : decode cX8_save 4 = .ok (.aload_n 0, 1)) rfl ?_
  refine sm_get (pc := 5) (ci := 8) (j := 0) (N := 8) (T := TX8) G hb ho hy rfl (by decide) gin_8 gw2_100 (by decide +kernel : decode cX8_save 5 = .ok (.getfield 12, 3)) ?_
  refine sm_mono (cav_sub gV_sub) (sm_callV (pc := 8) (N := 4) (T := TX7) (C := RX7) G hb ho hy he hE.1 2 [21, 22, 23, 24, 25, 26, 27, 28, 29, 30, 31, 32, 33, 34, 35, 36, 37, 38, 39, 40, 1, 2, 3, 4, 5, 6, 7, 8, 9, 10, 11, 12, 13, 14, 15, 16, 17, 18, 19, 20] (kX7_copyFrom hE N) (gCo_of (by decide +kernel)) (by rw [hR]; exact ⟨by decide, by decide⟩) rfl rfl (by decide +kernel) gw3_67 gw3_37 gw3_38 gw1_2 gw3_39 (by decide +kernel : decode cX8_save 8 = .ok (.invokevirtual 213, 3)) ?_)
  refine sm_aload_n (pc := 11) G hb (by decide +kernel : decode cX8_save 11 = .ok (.aload_n 0, 1)) rfl ?_
  refine sm_iconst (pc := 12) G hb (by decide +kernel : decode cX8_save 12 = .ok (.iconst 1, 1)) (by decide) ?_
  refine sm_putz (pc := 13) (ci := 8) (j := 7) (N := 8) (T := TX8) G hb ho hy tyX8 tyX8_ok nmX8 rfl (by decide) gin_8 gw2_107 rfl rfl (by decide +kernel : decode cX8_save 13 = .ok (.putfield 106, 3)) ?_
  refine sm_aload_n (pc := 16) G hb (by decide +kernel : decode cX8_save 16 = .ok (.aload_n 0, 1)) rfl ?_
  refine sm_get (pc := 17) (ci := 8) (j := 0) (N := 8) (T := TX8) G hb ho hy rfl (by decide) gin_8 gw2_100 (by decide +kernel : decode cX8_save 17 = .ok (.getfield 12, 3)) ?_
  refine sm_get (pc := 20) (ci := 7) (j := 2) (N := 4) (T := TX7) G hb ho hy rfl (by decide) gin_7 gw1_189 (by decide +kernel : decode cX8_save 20 = .ok (.getfield 196, 3)) ?_
  exact sm_iret (pc := 23) G hb (by decide +kernel : decode cX8_save 23 = .ok (.ireturn, 1)) hr
theorem kX8_save {ε : gE5} (hE : gEnv ε) (N : Nat) : gCtr ε yX8_save cX8_save 1 (some .int) 4 90 gyX (fX8_save N) :=
  gCtr_of hE.1 (by decide) (fun γ G hb ho hy hR he hr => fX8_save_s0 N G hb ho hy hR he hr hE)

set_option maxRecDepth 100000 in
set_option maxHeartbeats 4000000 in
theorem fX8_restore_s0 {γ : gG} {cs ss : Nat} {ε : gE5} (N : Nat) (G : gOK γ) (hb : gcc γ = cX8_restore) (ho : gow γ = RX8) (hy : gly γ = gyX) (hR : grm γ = { frames := 6, cells := 1, slots := 6, locals := 90 }) (he : genv γ = ε) (hr : grt γ = (some .int)) (hE : gEnv ε) (hc9 : cs + 1 ≤ 1 ∧ ss + 6 ≤ 6) : gSm γ cs ss 0 (fX8_restore_k0 N) := by
  unfold fX8_restore_k0
  refine sm_aload_n (pc := 0) G hb (by decide +kernel : decode cX8_restore 0 = .ok (.aload_n 0, 1)) rfl ?_
  refine sm_get (pc := 1) (ci := 8) (j := 7) (N := 8) (T := TX8) G hb ho hy rfl (by decide) gin_8 gw2_107 (by decide +kernel : decode cX8_restore 1 = .ok (.getfield 106, 3)) ?_
  refine sm_if_ne (pc := 4) (tgt := 17) G hb (by decide +kernel : decode cX8_restore 4 = .ok (.ifCond .ne 13, 3)) (by decide) ?_ ?_
  · skip
    refine sm_aload_n (pc := 17) G hb (by decide +kernel : decode cX8_restore 17 = .ok (.aload_n 0, 1)) rfl ?_
    refine sm_get (pc := 18) (ci := 8) (j := 0) (N := 8) (T := TX8) G hb ho hy rfl (by decide) gin_8 gw2_100 (by decide +kernel : decode cX8_restore 18 = .ok (.getfield 12, 3)) ?_
    refine sm_aload_n (pc := 21) G hb (by decide +kernel : decode cX8_restore 21 = .ok (.aload_n 0, 1)) rfl ?_
    refine sm_get (pc := 22) (ci := 8) (j := 1) (N := 8) (T := TX8) G hb ho hy rfl (by decide) gin_8 gw2_101 (by decide +kernel : decode cX8_restore 22 = .ok (.getfield 16, 3)) ?_
    refine sm_mono (cav_sub gV_sub) (sm_callV (pc := 25) (N := 4) (T := TX7) (C := RX7) G hb ho hy he hE.1 2 [1, 2, 3, 4, 5, 6, 7, 8, 9, 10, 11, 12, 13, 14, 15, 16, 17, 18, 19, 20, 21, 22, 23, 24, 25, 26, 27, 28, 29, 30, 31, 32, 33, 34, 35, 36, 37, 38, 39, 40] (kX7_copyFrom hE N) (gCo_of (by decide +kernel)) (by rw [hR]; exact ⟨by decide, by decide⟩) rfl rfl (by decide +kernel) gw3_67 gw3_37 gw3_38 gw1_2 gw3_39 (by decide +kernel : decode cX8_restore 25 = .ok (.invokevirtual 213, 3)) ?_)
    refine sm_aload_n (pc := 28) G hb (by decide +kernel : decode cX8_restore 28 = .ok (.aload_n 0, 1)) rfl ?_
    refine sm_get (pc := 29) (ci := 8) (j := 3) (N := 8) (T := TX8) G hb ho hy rfl (by decide) gin_8 gw2_103 (by decide +kernel : decode cX8_restore 29 = .ok (.getfield 25, 3)) ?_
    refine sm_iconst (pc := 32) G hb (by decide +kernel : decode cX8_restore 32 = .ok (.iconst 0, 1)) (by decide) ?_
    refine sm_put (pc := 33) (ci := 1) (j := 1) (N := 2) (T := TX1) G hb ho hy tyX1 tyX1_ok nmX1 rfl (by decide) gin_1 gw1_213 rfl rfl (by decide +kernel : decode cX8_restore 33 = .ok (.putfield 103, 3)) ?_
    refine sm_aload_n (pc := 36) G hb (by decide +kernel : decode cX8_restore 36 = .ok (.aload_n 0, 1)) rfl ?_
    refine sm_get (pc := 37) (ci := 8) (j := 0) (N := 8) (T := TX8) G hb ho hy rfl (by decide) gin_8 gw2_100 (by decide +kernel : decode cX8_restore 37 = .ok (.getfield 12, 3)) ?_
    refine sm_get (pc := 40) (ci := 7) (j := 2) (N := 4) (T := TX7) G hb ho hy rfl (by decide) gin_7 gw1_189 (by decide +kernel : decode cX8_restore 40 = .ok (.getfield 196, 3)) ?_
    exact sm_iret (pc := 43) G hb (by decide +kernel : decode cX8_restore 43 = .ok (.ireturn, 1)) hr
  · skip
    exact sm_throw (pc := 7) (i := 312) (text := "there is no saved copy") G hb ho he hE gx_ISE (List.mem_of_getElem? (i := 38) rfl) (by rw [hR]; exact ⟨by decide, by decide⟩) (by rw [hR]; exact ⟨by show _ ≤ 1; omega, by show _ ≤ 6; omega⟩) (by decide +kernel : decode cX8_restore 7 = .ok (.new 76, 3)) (by decide +kernel : decode cX8_restore 10 = .ok (.dup, 1)) (by decide +kernel : decode cX8_restore 11 = .ok (.ldc 216, 2)) (by decide +kernel : decode cX8_restore 13 = .ok (.invokespecial 80, 3)) (by decide +kernel : decode cX8_restore 16 = .ok (.athrow, 1))
theorem kX8_restore {ε : gE5} (hE : gEnv ε) (N : Nat) : gCtrX ε yX8_restore cX8_restore 1 (some .int) 6 90 1 6 gyX (fX8_restore N) :=
  gCtrX_of hE.1 (by decide) (fun γ G hb ho hy hR he hr => fX8_restore_s0 N G hb ho hy hR he hr hE (by omega))

set_option maxRecDepth 100000 in
set_option maxHeartbeats 4000000 in
theorem fX8_count_s0 {γ : gG} {cs ss : Nat} {ε : gE5} (N : Nat) (G : gOK γ) (hb : gcc γ = cX8_count) (ho : gow γ = RX8) (hy : gly γ = gyX) (hR : grm γ = { frames := 7, cells := 1, slots := 6, locals := 112 }) (he : genv γ = ε) (hr : grt γ = (some .int)) (hE : gEnv ε) (hc9 : cs + 1 ≤ 1 ∧ ss + 6 ≤ 6) : gSm γ cs ss 0 (fX8_count_k0 N) := by
  unfold fX8_count_k0
  refine sm_iload_n (pc := 0) G hb (by decide +kernel : decode cX8_count 0 = .ok (.iload_n 1, 1)) rfl ?_
  refine sm_iconst (pc := 1) G hb (by decide +kernel : decode cX8_count 1 = .ok (.iconst 0, 1)) (by decide) ?_
  refine sm_bipush (pc := 2) G hb (by decide +kernel : decode cX8_count 2 = .ok (.bipush 6, 2)) (by decide) ?_
  refine sm_mono (xca_sub gXV_sub) (sm_xcallS (pc := 4) G hb ho hy he hE.1 3 [] (kX8_checkRange hE N) (gCo_of (by decide +kernel)) (by rw [hR]; exact ⟨by decide, by decide⟩) (by rw [hR]; exact ⟨by show _ ≤ 1; omega, by show _ ≤ 6; omega⟩) (by decide +kernel) gw3_184 gw3_185 gw1_1 gw3_186 (by decide +kernel : decode cX8_count 4 = .ok (.invokestatic 86, 3)) ?_)
  refine sm_iload_n (pc := 7) G hb (by decide +kernel : decode cX8_count 7 = .ok (.iload_n 1, 1)) rfl ?_
  refine sm_mono tab_sub (sm_table (pc := 8) (tgt := 69) G hb [36, 47, 58] (by decide +kernel : decode cX8_count 8 = .ok (.tableswitch 61 0 2 #[28, 39, 50], 28)) (by decide) (by decide) ?_ ?_ rfl)
  · skip
    refine sm_aload_n (pc := 69) G hb (by decide +kernel : decode cX8_count 69 = .ok (.aload_n 0, 1)) rfl ?_
    refine sm_get (pc := 70) (ci := 8) (j := 0) (N := 8) (T := TX8) G hb ho hy rfl (by decide) gin_8 gw2_100 (by decide +kernel : decode cX8_count 70 = .ok (.getfield 12, 3)) ?_
    refine sm_get (pc := 73) (ci := 7) (j := 0) (N := 4) (T := TX7) G hb ho hy rfl (by decide) gin_7 gw1_180 (by decide +kernel : decode cX8_count 73 = .ok (.getfield 50, 3)) ?_
    refine sm_get (pc := 76) (ci := 2) (j := 8) (N := 11) (T := TX2) G hb ho hy rfl (by decide) gin_2 gw1_84 (by decide +kernel : decode cX8_count 76 = .ok (.getfield 165, 3)) ?_
    refine sm_iload_n (pc := 79) G hb (by decide +kernel : decode cX8_count 79 = .ok (.iload_n 1, 1)) rfl ?_
    refine sm_iconst (pc := 80) G hb (by decide +kernel : decode cX8_count 80 = .ok (.iconst 3, 1)) (by decide) ?_
    refine sm_isub (pc := 81) G hb (by decide +kernel : decode cX8_count 81 = .ok (.isub, 1)) ?_
    refine sm_iald (pc := 82) G hb hy (by decide +kernel : decode cX8_count 82 = .ok (.iaload, 1)) ?_
    exact sm_iret (pc := 83) G hb (by decide +kernel : decode cX8_count 83 = .ok (.ireturn, 1)) hr
  · skip
    intro i t k h1 h2
    match i, h1, h2 with
    | 0, h1, h2 =>
      cases h1; cases h2
      refine sm_aload_n (pc := 36) G hb (by decide +kernel : decode cX8_count 36 = .ok (.aload_n 0, 1)) rfl ?_
      refine sm_get (pc := 37) (ci := 8) (j := 0) (N := 8) (T := TX8) G hb ho hy rfl (by decide) gin_8 gw2_100 (by decide +kernel : decode cX8_count 37 = .ok (.getfield 12, 3)) ?_
      refine sm_get (pc := 40) (ci := 7) (j := 0) (N := 4) (T := TX7) G hb ho hy rfl (by decide) gin_7 gw1_180 (by decide +kernel : decode cX8_count 40 = .ok (.getfield 50, 3)) ?_
      refine sm_get (pc := 43) (ci := 2) (j := 0) (N := 11) (T := TX2) G hb ho hy rfl (by decide) gin_2 gw1_49 (by decide +kernel : decode cX8_count 43 = .ok (.getfield 218, 3)) ?_
      exact sm_iret (pc := 46) G hb (by decide +kernel : decode cX8_count 46 = .ok (.ireturn, 1)) hr
    | 1, h1, h2 =>
      cases h1; cases h2
      refine sm_aload_n (pc := 47) G hb (by decide +kernel : decode cX8_count 47 = .ok (.aload_n 0, 1)) rfl ?_
      refine sm_get (pc := 48) (ci := 8) (j := 0) (N := 8) (T := TX8) G hb ho hy rfl (by decide) gin_8 gw2_100 (by decide +kernel : decode cX8_count 48 = .ok (.getfield 12, 3)) ?_
      refine sm_get (pc := 51) (ci := 7) (j := 0) (N := 4) (T := TX7) G hb ho hy rfl (by decide) gin_7 gw1_180 (by decide +kernel : decode cX8_count 51 = .ok (.getfield 50, 3)) ?_
      refine sm_get (pc := 54) (ci := 2) (j := 1) (N := 11) (T := TX2) G hb ho hy rfl (by decide) gin_2 gw1_54 (by decide +kernel : decode cX8_count 54 = .ok (.getfield 110, 3)) ?_
      exact sm_iret (pc := 57) G hb (by decide +kernel : decode cX8_count 57 = .ok (.ireturn, 1)) hr
    | 2, h1, h2 =>
      cases h1; cases h2
      refine sm_aload_n (pc := 58) G hb (by decide +kernel : decode cX8_count 58 = .ok (.aload_n 0, 1)) rfl ?_
      refine sm_get (pc := 59) (ci := 8) (j := 0) (N := 8) (T := TX8) G hb ho hy rfl (by decide) gin_8 gw2_100 (by decide +kernel : decode cX8_count 59 = .ok (.getfield 12, 3)) ?_
      refine sm_get (pc := 62) (ci := 7) (j := 0) (N := 4) (T := TX7) G hb ho hy rfl (by decide) gin_7 gw1_180 (by decide +kernel : decode cX8_count 62 = .ok (.getfield 50, 3)) ?_
      refine sm_get (pc := 65) (ci := 2) (j := 2) (N := 11) (T := TX2) G hb ho hy rfl (by decide) gin_2 gw1_58 (by decide +kernel : decode cX8_count 65 = .ok (.getfield 144, 3)) ?_
      exact sm_iret (pc := 68) G hb (by decide +kernel : decode cX8_count 68 = .ok (.ireturn, 1)) hr
    | i + 3, h1, h2 =>
      simp at h1
theorem kX8_count {ε : gE5} (hE : gEnv ε) (N : Nat) : gCtrX ε yX8_count cX8_count 2 (some .int) 7 112 1 6 gyX (fX8_count N) :=
  gCtrX_of hE.1 (by decide) (fun γ G hb ho hy hR he hr => fX8_count_s0 N G hb ho hy hR he hr hE (by omega))

set_option maxRecDepth 100000 in
set_option maxHeartbeats 4000000 in
theorem fX8_plannedNumber_s0 {γ : gG} {cs ss : Nat} {ε : gE5} (N : Nat) (G : gOK γ) (hb : gcc γ = cX8_plannedNumber) (ho : gow γ = RX8) (hy : gly γ = gyX) (hR : grm γ = { frames := 19, cells := 0, slots := 0, locals := 506 }) (he : genv γ = ε) (hr : grt γ = (some .int)) (hE : gEnv ε) : gSm γ cs ss 0 (fX8_plannedNumber_k0 N) := by
  unfold fX8_plannedNumber_k0
  refine sm_aload_n (pc := 0) G hb (by decide +kernel : decode cX8_plannedNumber 0 = .ok (.aload_n 0, 1)) rfl ?_
  refine sm_get (pc := 1) (ci := 8) (j := 5) (N := 8) (T := TX8) G hb ho hy rfl (by decide) gin_8 gw2_105 (by decide +kernel : decode cX8_plannedNumber 1 = .ok (.getfield 39, 3)) ?_
  refine sm_get (pc := 4) (ci := 6) (j := 0) (N := 4) (T := TX6) G hb ho hy rfl (by decide) gin_6 gw2_40 (by decide +kernel : decode cX8_plannedNumber 4 = .ok (.getfield 233, 3)) ?_
  refine sm_astore_n (pc := 7) G hb (by decide +kernel : decode cX8_plannedNumber 7 = .ok (.astore_n 3, 1)) rfl ?_
  refine sm_aload_n (pc := 8) G hb (by decide +kernel : decode cX8_plannedNumber 8 = .ok (.aload_n 3, 1)) rfl ?_
  refine sm_aload_n (pc := 9) G hb (by decide +kernel : decode cX8_plannedNumber 9 = .ok (.aload_n 0, 1)) rfl ?_
  refine sm_get (pc := 10) (ci := 8) (j := 0) (N := 8) (T := TX8) G hb ho hy rfl (by decide) gin_8 gw2_100 (by decide +kernel : decode cX8_plannedNumber 10 = .ok (.getfield 12, 3)) ?_
  refine sm_aload_n (pc := 13) G hb (by decide +kernel : decode cX8_plannedNumber 13 = .ok (.aload_n 0, 1)) rfl ?_
  refine sm_get (pc := 14) (ci := 8) (j := 0) (N := 8) (T := TX8) G hb ho hy rfl (by decide) gin_8 gw2_100 (by decide +kernel : decode cX8_plannedNumber 14 = .ok (.getfield 12, 3)) ?_
  refine sm_get (pc := 17) (ci := 7) (j := 0) (N := 4) (T := TX7) G hb ho hy rfl (by decide) gin_7 gw1_180 (by decide +kernel : decode cX8_plannedNumber 17 = .ok (.getfield 50, 3)) ?_
  refine sm_get (pc := 20) (ci := 2) (j := 8) (N := 11) (T := TX2) G hb ho hy rfl (by decide) gin_2 gw1_84 (by decide +kernel : decode cX8_plannedNumber 20 = .ok (.getfield 165, 3)) ?_
  refine sm_iconst (pc := 23) G hb (by decide +kernel : decode cX8_plannedNumber 23 = .ok (.iconst 3, 1)) (by decide) ?_
  refine sm_iald (pc := 24) G hb hy (by decide +kernel : decode cX8_plannedNumber 24 = .ok (.iaload, 1)) ?_
  refine sm_mono (cav_sub gI_sub) (sm_callV (pc := 25) (N := 2) (T := TX3) (C := RX3) G hb ho hy he hE.1 3 [195, 196, 197, 1, 2, 3, 4, 5, 6, 7, 8, 9, 10, 11, 12, 13, 14, 15, 16, 17, 18, 19, 20] (kX3_choose hE N) (gCo_of (by decide +kernel)) (by rw [hR]; exact ⟨by decide, by decide⟩) rfl rfl (by decide +kernel) gw5_11 gw4_148 gw4_149 gw1_8 gw4_150 (by decide +kernel : decode cX8_plannedNumber 25 = .ok (.invokevirtual 237, 3)) ?_)
  refine sm_istore (pc := 28) G hb (by decide +kernel : decode cX8_plannedNumber 28 = .ok (.istore 4, 2)) ?_
  refine sm_iload_n (pc := 30) G hb (by decide +kernel : decode cX8_plannedNumber 30 = .ok (.iload_n 2, 1)) rfl ?_
  refine sm_mono tab_sub (sm_table (pc := 31) (tgt := 77) G hb [56, 63, 70] (by decide +kernel : decode cX8_plannedNumber 31 = .ok (.tableswitch 46 4 6 #[25, 32, 39], 25)) (by decide) (by decide) ?_ ?_ rfl)
  · skip
    refine sm_aload_n (pc := 77) G hb (by decide +kernel : decode cX8_plannedNumber 77 = .ok (.aload_n 3, 1)) rfl ?_
    refine sm_aload_n (pc := 78) G hb (by decide +kernel : decode cX8_plannedNumber 78 = .ok (.aload_n 0, 1)) rfl ?_
    refine sm_get (pc := 79) (ci := 8) (j := 0) (N := 8) (T := TX8) G hb ho hy rfl (by decide) gin_8 gw2_100 (by decide +kernel : decode cX8_plannedNumber 79 = .ok (.getfield 12, 3)) ?_
    refine sm_iload (pc := 82) G hb (by decide +kernel : decode cX8_plannedNumber 82 = .ok (.iload 4, 2)) ?_
    refine sm_iload_n (pc := 84) G hb (by decide +kernel : decode cX8_plannedNumber 84 = .ok (.iload_n 1, 1)) rfl ?_
    refine sm_mono (cav_sub gI_sub) (sm_callV (pc := 85) (N := 2) (T := TX3) (C := RX3) G hb ho hy he hE.1 4 [195, 196, 197, 1, 2, 3, 4, 5, 6, 7, 8, 9, 10, 11, 12, 13, 14, 15, 16, 17, 18, 19, 20] (kX3_countCarried hE N) (gCo_of (by decide +kernel)) (by rw [hR]; exact ⟨by decide, by decide⟩) rfl rfl (by decide +kernel) gw5_12 gw5_13 gw5_14 gw1_8 gw5_15 (by decide +kernel : decode cX8_plannedNumber 85 = .ok (.invokevirtual 249, 3)) ?_)
    exact sm_iret (pc := 88) G hb (by decide +kernel : decode cX8_plannedNumber 88 = .ok (.ireturn, 1)) hr
  · skip
    intro i t k h1 h2
    match i, h1, h2 with
    | 0, h1, h2 =>
      cases h1; cases h2
      refine sm_aload_n (pc := 56) G hb (by decide +kernel : decode cX8_plannedNumber 56 = .ok (.aload_n 3, 1)) rfl ?_
      refine sm_get (pc := 57) (ci := 3) (j := 0) (N := 2) (T := TX3) G hb ho hy rfl (by decide) gin_3 gw2_31 (by decide +kernel : decode cX8_plannedNumber 57 = .ok (.getfield 243, 3)) ?_
      refine sm_iload_n (pc := 60) G hb (by decide +kernel : decode cX8_plannedNumber 60 = .ok (.iload_n 1, 1)) rfl ?_
      refine sm_iald (pc := 61) G hb hy (by decide +kernel : decode cX8_plannedNumber 61 = .ok (.iaload, 1)) ?_
      exact sm_iret (pc := 62) G hb (by decide +kernel : decode cX8_plannedNumber 62 = .ok (.ireturn, 1)) hr
    | 1, h1, h2 =>
      cases h1; cases h2
      refine sm_aload_n (pc := 63) G hb (by decide +kernel : decode cX8_plannedNumber 63 = .ok (.aload_n 3, 1)) rfl ?_
      refine sm_get (pc := 64) (ci := 3) (j := 1) (N := 2) (T := TX3) G hb ho hy rfl (by decide) gin_3 gw2_33 (by decide +kernel : decode cX8_plannedNumber 64 = .ok (.getfield 246, 3)) ?_
      refine sm_iload_n (pc := 67) G hb (by decide +kernel : decode cX8_plannedNumber 67 = .ok (.iload_n 1, 1)) rfl ?_
      refine sm_iald (pc := 68) G hb hy (by decide +kernel : decode cX8_plannedNumber 68 = .ok (.iaload, 1)) ?_
      exact sm_iret (pc := 69) G hb (by decide +kernel : decode cX8_plannedNumber 69 = .ok (.ireturn, 1)) hr
    | 2, h1, h2 =>
      cases h1; cases h2
      refine sm_iload (pc := 70) G hb (by decide +kernel : decode cX8_plannedNumber 70 = .ok (.iload 4, 2)) ?_
      refine sm_iload_n (pc := 72) G hb (by decide +kernel : decode cX8_plannedNumber 72 = .ok (.iload_n 1, 1)) rfl ?_
      refine sm_ishr (pc := 73) G hb (by decide +kernel : decode cX8_plannedNumber 73 = .ok (.ishr, 1)) ?_
      refine sm_iconst (pc := 74) G hb (by decide +kernel : decode cX8_plannedNumber 74 = .ok (.iconst 1, 1)) (by decide) ?_
      refine sm_iand (pc := 75) G hb (by decide +kernel : decode cX8_plannedNumber 75 = .ok (.iand, 1)) ?_
      exact sm_iret (pc := 76) G hb (by decide +kernel : decode cX8_plannedNumber 76 = .ok (.ireturn, 1)) hr
    | i + 3, h1, h2 =>
      simp at h1
theorem kX8_plannedNumber {ε : gE5} (hE : gEnv ε) (N : Nat) : gCtr ε yX8_plannedNumber cX8_plannedNumber 5 (some .int) 19 506 gyX (fX8_plannedNumber N) :=
  gCtr_of hE.1 (by decide) (fun γ G hb ho hy hR he hr => fX8_plannedNumber_s0 N G hb ho hy hR he hr hE)

set_option maxRecDepth 100000 in
set_option maxHeartbeats 4000000 in
theorem fX8_link_s0 {γ : gG} {cs ss : Nat} {ε : gE5} (N : Nat) (G : gOK γ) (hb : gcc γ = cX8_link) (ho : gow γ = RX8) (hy : gly γ = gyX) (hR : grm γ = { frames := 20, cells := 2, slots := 12, locals := 530 }) (he : genv γ = ε) (hr : grt γ = (some .int)) (hE : gEnv ε) (hc9 : cs + 2 ≤ 2 ∧ ss + 12 ≤ 12) : gSm γ cs ss 0 (fX8_link_k0 N) := by
  unfold fX8_link_k0
  refine sm_aload_n (pc := 0) G hb (by decide +kernel : decode cX8_link 0 = .ok (.aload_n 0, 1)) rfl ?_
  refine sm_iload_n (pc := 1) G hb (by decide +kernel : decode cX8_link 1 = .ok (.iload_n 1, 1)) rfl ?_
  refine sm_mono (xcav_sub gXV_sub) (sm_xcallV (pc := 2) (N := 8) (T := TX8) (C := RX8) G hb ho hy he hE.1 2 [0, 1, 2, 3, 4, 5, 6, 7, 8, 9, 10, 11, 12, 13, 14, 15, 16, 17, 18, 19, 20, 21, 22, 23, 24, 25, 26, 27, 28, 29, 30, 31, 32, 33, 34, 35, 36, 37, 38, 39, 40, 41, 42, 43, 44, 45, 46, 47, 48, 49, 50, 51, 52, 53, 54, 55, 56, 57, 58, 59, 60, 61, 62, 63, 64, 65, 66, 67, 68, 69, 70, 71, 72, 73, 74, 75, 76, 77, 78, 79, 80, 81, 82, 83, 84, 85, 86, 87, 88, 89, 90, 91, 92, 93, 94, 95, 96, 97, 98, 99, 100, 101, 102, 103, 104, 105, 106, 107, 108, 109, 110, 111, 112, 113, 114, 115, 116, 117, 118, 119, 120, 121, 122, 123, 124, 125, 126, 127, 128, 129, 130, 131, 132, 133, 134, 135, 136, 137, 138, 139, 140, 141, 142, 143, 144, 145, 146, 147, 148, 149, 150, 151, 152, 153, 154, 155, 156, 157, 158, 159, 160, 161, 162, 163, 164, 165, 166, 167, 168, 169, 170, 171, 172, 173, 174, 175, 176, 177, 178, 179, 180, 181, 182, 183, 184, 185, 186, 187, 188, 189, 190, 191, 192, 193, 194, 195, 196, 197, 198, 199, 200, 201, 202, 203] (kX8_checkLink hE N) (gCo_of (by decide +kernel)) (by rw [hR]; exact ⟨by decide, by decide⟩) (by rw [hR]; exact ⟨by show _ ≤ 2; omega, by show _ ≤ 12; omega⟩) rfl rfl (by decide +kernel) gw4_22 gw4_24 gw0_20 gw1_1 gw4_25 (by decide +kernel : decode cX8_link 2 = .ok (.invokevirtual 127, 3)) ?_)
  refine sm_iload_n (pc := 5) G hb (by decide +kernel : decode cX8_link 5 = .ok (.iload_n 2, 1)) rfl ?_
  refine sm_iconst (pc := 6) G hb (by decide +kernel : decode cX8_link 6 = .ok (.iconst 0, 1)) (by decide) ?_
  refine sm_bipush (pc := 7) G hb (by decide +kernel : decode cX8_link 7 = .ok (.bipush 7, 2)) (by decide) ?_
  refine sm_mono (xca_sub gXV_sub) (sm_xcallS (pc := 9) G hb ho hy he hE.1 3 [] (kX8_checkRange hE N) (gCo_of (by decide +kernel)) (by rw [hR]; exact ⟨by decide, by decide⟩) (by rw [hR]; exact ⟨by show _ ≤ 2; omega, by show _ ≤ 12; omega⟩) (by decide +kernel) gw3_184 gw3_185 gw1_1 gw3_186 (by decide +kernel : decode cX8_link 9 = .ok (.invokestatic 86, 3)) ?_)
  refine sm_iload_n (pc := 12) G hb (by decide +kernel : decode cX8_link 12 = .ok (.iload_n 2, 1)) rfl ?_
  refine sm_mono tab_sub (sm_table (pc := 13) (tgt := 96) G hb [44, 57, 70, 83] (by decide +kernel : decode cX8_link 13 = .ok (.tableswitch 83 0 3 #[31, 44, 57, 70], 31)) (by decide) (by decide) ?_ ?_ rfl)
  · skip
    refine sm_aload_n (pc := 96) G hb (by decide +kernel : decode cX8_link 96 = .ok (.aload_n 0, 1)) rfl ?_
    refine sm_iload_n (pc := 97) G hb (by decide +kernel : decode cX8_link 97 = .ok (.iload_n 1, 1)) rfl ?_
    refine sm_iload_n (pc := 98) G hb (by decide +kernel : decode cX8_link 98 = .ok (.iload_n 2, 1)) rfl ?_
    refine sm_mono (cav_sub gI_sub) (sm_callV (pc := 99) (N := 8) (T := TX8) (C := RX8) G hb ho hy he hE.1 3 [0, 1, 2, 3, 4, 5, 6, 7, 8, 9, 10, 11, 12, 13, 14, 15, 16, 17, 18, 19, 20, 21, 22, 23, 24, 25, 26, 27, 28, 29, 30, 31, 32, 33, 34, 35, 36, 37, 38, 39, 40, 41, 42, 43, 44, 45, 46, 47, 48, 49, 50, 51, 52, 53, 54, 55, 56, 57, 58, 59, 60, 61, 62, 63, 64, 65, 66, 67, 68, 69, 70, 71, 72, 73, 74, 75, 76, 77, 78, 79, 80, 81, 82, 83, 84, 85, 86, 87, 88, 89, 90, 91, 92, 93, 94, 95, 96, 97, 98, 99, 100, 101, 102, 103, 104, 105, 106, 107, 108, 109, 110, 111, 112, 113, 114, 115, 116, 117, 118, 119, 120, 121, 122, 123, 124, 125, 126, 127, 128, 129, 130, 131, 132, 133, 134, 135, 136, 137, 138, 139, 140, 141, 142, 143, 144, 145, 146, 147, 148, 149, 150, 151, 152, 153, 154, 155, 156, 157, 158, 159, 160, 161, 162, 163, 164, 165, 166, 167, 168, 169, 170, 171, 172, 173, 174, 175, 176, 177, 178, 179, 180, 181, 182, 183, 184, 185, 186, 187, 188, 189, 190, 191, 192, 193, 194, 195, 196, 197, 198, 199, 200, 201, 202, 203] (kX8_plannedNumber hE N) (gCo_of (by decide +kernel)) (by rw [hR]; exact ⟨by decide, by decide⟩) rfl rfl (by decide +kernel) gw5_7 gw5_9 gw0_30 gw1_1 gw5_10 (by decide +kernel : decode cX8_link 99 = .ok (.invokevirtual 230, 3)) ?_)
    exact sm_iret (pc := 102) G hb (by decide +kernel : decode cX8_link 102 = .ok (.ireturn, 1)) hr
  · skip
    intro i t k h1 h2
    match i, h1, h2 with
    | 0, h1, h2 =>
      cases h1; cases h2
      refine sm_aload_n (pc := 44) G hb (by decide +kernel : decode cX8_link 44 = .ok (.aload_n 0, 1)) rfl ?_
      refine sm_get (pc := 45) (ci := 8) (j := 0) (N := 8) (T := TX8) G hb ho hy rfl (by decide) gin_8 gw2_100 (by decide +kernel : decode cX8_link 45 = .ok (.getfield 12, 3)) ?_
      refine sm_get (pc := 48) (ci := 7) (j := 0) (N := 4) (T := TX7) G hb ho hy rfl (by decide) gin_7 gw1_180 (by decide +kernel : decode cX8_link 48 = .ok (.getfield 50, 3)) ?_
      refine sm_get (pc := 51) (ci := 2) (j := 3) (N := 11) (T := TX2) G hb ho hy rfl (by decide) gin_2 gw1_64 (by decide +kernel : decode cX8_link 51 = .ok (.getfield 221, 3)) ?_
      refine sm_iload_n (pc := 54) G hb (by decide +kernel : decode cX8_link 54 = .ok (.iload_n 1, 1)) rfl ?_
      refine sm_iald (pc := 55) G hb hy (by decide +kernel : decode cX8_link 55 = .ok (.iaload, 1)) ?_
      exact sm_iret (pc := 56) G hb (by decide +kernel : decode cX8_link 56 = .ok (.ireturn, 1)) hr
    | 1, h1, h2 =>
      cases h1; cases h2
      refine sm_aload_n (pc := 57) G hb (by decide +kernel : decode cX8_link 57 = .ok (.aload_n 0, 1)) rfl ?_
      refine sm_get (pc := 58) (ci := 8) (j := 0) (N := 8) (T := TX8) G hb ho hy rfl (by decide) gin_8 gw2_100 (by decide +kernel : decode cX8_link 58 = .ok (.getfield 12, 3)) ?_
      refine sm_get (pc := 61) (ci := 7) (j := 0) (N := 4) (T := TX7) G hb ho hy rfl (by decide) gin_7 gw1_180 (by decide +kernel : decode cX8_link 61 = .ok (.getfield 50, 3)) ?_
      refine sm_get (pc := 64) (ci := 2) (j := 4) (N := 11) (T := TX2) G hb ho hy rfl (by decide) gin_2 gw1_69 (by decide +kernel : decode cX8_link 64 = .ok (.getfield 224, 3)) ?_
      refine sm_iload_n (pc := 67) G hb (by decide +kernel : decode cX8_link 67 = .ok (.iload_n 1, 1)) rfl ?_
      refine sm_iald (pc := 68) G hb hy (by decide +kernel : decode cX8_link 68 = .ok (.iaload, 1)) ?_
      exact sm_iret (pc := 69) G hb (by decide +kernel : decode cX8_link 69 = .ok (.ireturn, 1)) hr
    | 2, h1, h2 =>
      cases h1; cases h2
      refine sm_aload_n (pc := 70) G hb (by decide +kernel : decode cX8_link 70 = .ok (.aload_n 0, 1)) rfl ?_
      refine sm_get (pc := 71) (ci := 8) (j := 0) (N := 8) (T := TX8) G hb ho hy rfl (by decide) gin_8 gw2_100 (by decide +kernel : decode cX8_link 71 = .ok (.getfield 12, 3)) ?_
      refine sm_get (pc := 74) (ci := 7) (j := 0) (N := 4) (T := TX7) G hb ho hy rfl (by decide) gin_7 gw1_180 (by decide +kernel : decode cX8_link 74 = .ok (.getfield 50, 3)) ?_
      refine sm_get (pc := 77) (ci := 2) (j := 5) (N := 11) (T := TX2) G hb ho hy rfl (by decide) gin_2 gw1_74 (by decide +kernel : decode cX8_link 77 = .ok (.getfield 130, 3)) ?_
      refine sm_iload_n (pc := 80) G hb (by decide +kernel : decode cX8_link 80 = .ok (.iload_n 1, 1)) rfl ?_
      refine sm_iald (pc := 81) G hb hy (by decide +kernel : decode cX8_link 81 = .ok (.iaload, 1)) ?_
      exact sm_iret (pc := 82) G hb (by decide +kernel : decode cX8_link 82 = .ok (.ireturn, 1)) hr
    | 3, h1, h2 =>
      cases h1; cases h2
      refine sm_aload_n (pc := 83) G hb (by decide +kernel : decode cX8_link 83 = .ok (.aload_n 0, 1)) rfl ?_
      refine sm_get (pc := 84) (ci := 8) (j := 0) (N := 8) (T := TX8) G hb ho hy rfl (by decide) gin_8 gw2_100 (by decide +kernel : decode cX8_link 84 = .ok (.getfield 12, 3)) ?_
      refine sm_get (pc := 87) (ci := 7) (j := 0) (N := 4) (T := TX7) G hb ho hy rfl (by decide) gin_7 gw1_180 (by decide +kernel : decode cX8_link 87 = .ok (.getfield 50, 3)) ?_
      refine sm_get (pc := 90) (ci := 2) (j := 6) (N := 11) (T := TX2) G hb ho hy rfl (by decide) gin_2 gw1_77 (by decide +kernel : decode cX8_link 90 = .ok (.getfield 227, 3)) ?_
      refine sm_iload_n (pc := 93) G hb (by decide +kernel : decode cX8_link 93 = .ok (.iload_n 1, 1)) rfl ?_
      refine sm_iald (pc := 94) G hb hy (by decide +kernel : decode cX8_link 94 = .ok (.iaload, 1)) ?_
      exact sm_iret (pc := 95) G hb (by decide +kernel : decode cX8_link 95 = .ok (.ireturn, 1)) hr
    | i + 4, h1, h2 =>
      simp at h1
theorem kX8_link {ε : gE5} (hE : gEnv ε) (N : Nat) : gCtrX ε yX8_link cX8_link 3 (some .int) 20 530 2 12 gyX (fX8_link N) :=
  gCtrX_of hE.1 (by decide) (fun γ G hb ho hy hR he hr => fX8_link_s0 N G hb ho hy hR he hr hE (by omega))
