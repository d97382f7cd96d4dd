set_option maxRecDepth 100000 in
set_option maxHeartbeats 4000000 in
theorem fX8_append_s87 {γ : gG} {cs ss : Nat} {ε : gE5} (N : Nat) (G : gOK γ) (hb : gcc γ = cX8_append) (ho : gow γ = RX8) (hy : gly γ = gyX) (hR : grm γ = { frames := 6, cells := 1, slots := 6, locals := 90 }) (he : genv γ = ε) (hr : grt γ = (some .int)) (hE : gEnv ε) (hc9 : cs + 0 ≤ 1 ∧ ss + 0 ≤ 6) : gSm γ cs ss 87 (fX8_append_k87 N) := by
  unfold fX8_append_k87
  refine sm_aload_n (pc := 87) G hb (by decide +kernel : decode cX8_append 87 = .ok (.aload_n 0, 1)) rfl ?_
  refine sm_get (pc := 88) (ci := 8) (j := 4) (N := 8) (T := TX8) G hb ho hy rfl (by decide) gin_8 gw2_104 (by decide +kernel : decode cX8_append 88 = .ok (.getfield 32, 3)) ?_
  refine sm_iload (pc := 91) G hb (by decide +kernel : decode cX8_append 91 = .ok (.iload 5, 2)) ?_
  refine sm_mono (cav_sub gV_sub) (sm_callV (pc := 93) (N := 9) (T := TX5) (C := RX5) G hb ho hy he hE.1 2 [183, 184, 185, 186, 187, 188, 189, 190, 191, 192, 193] (kX5_putBytes hE N) (gCo_of (by decide +kernel)) (by rw [hR]; exact ⟨by decide, by decide⟩) rfl rfl (by decide +kernel) gw3_172 gw3_173 gw3_174 gw1_6 gw3_175 (by decide +kernel : decode cX8_append 93 = .ok (.invokevirtual 83, 3)) ?_)
  refine sm_aload_n (pc := 96) G hb (by decide +kernel : decode cX8_append 96 = .ok (.aload_n 0, 1)) rfl ?_
  refine sm_get (pc := 97) (ci := 8) (j := 4) (N := 8) (T := TX8) G hb ho hy rfl (by decide) gin_8 gw2_104 (by decide +kernel : decode cX8_append 97 = .ok (.getfield 32, 3)) ?_
  refine sm_get (pc := 100) (ci := 5) (j := 2) (N := 9) (T := TX5) G hb ho hy rfl (by decide) gin_5 gw1_231 (by decide +kernel : decode cX8_append 100 = .ok (.getfield 72, 3)) ?_
  exact sm_iret (pc := 103) G hb (by decide +kernel : decode cX8_append 103 = .ok (.ireturn, 1)) hr
set_option maxRecDepth 100000 in
set_option maxHeartbeats 4000000 in
theorem fX8_append_s62 {γ : gG} {cs ss : Nat} {ε : gE5} (N : Nat) (G : gOK γ) (hb : gcc γ = cX8_append) (ho : gow γ = RX8) (hy : gly γ = gyX) (hR : grm γ = { frames := 6, cells := 1, slots := 6, locals := 90 }) (he : genv γ = ε) (hr : grt γ = (some .int)) (hE : gEnv ε) (hc9 : cs + 0 ≤ 1 ∧ ss + 0 ≤ 6) : gSm γ cs ss 62 (fX8_append_k62 N) := by
  unfold fX8_append_k62
  refine sm_aload_n (pc := 62) G hb (by decide +kernel : decode cX8_append 62 = .ok (.aload_n 0, 1)) rfl ?_
  refine sm_get (pc := 63) (ci := 8) (j := 4) (N := 8) (T := TX8) G hb ho hy rfl (by decide) gin_8 gw2_104 (by decide +kernel : decode cX8_append 63 = .ok (.getfield 32, 3)) ?_
  refine sm_iload_n (pc := 66) G hb (by decide +kernel : decode cX8_append 66 = .ok (.iload_n 2, 1)) rfl ?_
  refine sm_mono (cav_sub gV_sub) (sm_callV (pc := 67) (N := 9) (T := TX5) (C := RX5) G hb ho hy he hE.1 2 [183, 184, 185, 186, 187, 188, 189, 190, 191, 192, 193] (kX5_putBytes hE N) (gCo_of (by decide +kernel)) (by rw [hR]; exact ⟨by decide, by decide⟩) rfl rfl (by decide +kernel) gw3_172 gw3_173 gw3_174 gw1_6 gw3_175 (by decide +kernel : decode cX8_append 67 = .ok (.invokevirtual 83, 3)) ?_)
  refine sm_aload_n (pc := 70) G hb (by decide +kernel : decode cX8_append 70 = .ok (.aload_n 0, 1)) rfl ?_
  refine sm_get (pc := 71) (ci := 8) (j := 4) (N := 8) (T := TX8) G hb ho hy rfl (by decide) gin_8 gw2_104 (by decide +kernel : decode cX8_append 71 = .ok (.getfield 32, 3)) ?_
  refine sm_iload_n (pc := 74) G hb (by decide +kernel : decode cX8_append 74 = .ok (.iload_n 3, 1)) rfl ?_
  refine sm_mono (cav_sub gV_sub) (sm_callV (pc := 75) (N := 9) (T := TX5) (C := RX5) G hb ho hy he hE.1 2 [183, 184, 185, 186, 187, 188, 189, 190, 191, 192, 193] (kX5_putBytes hE N) (gCo_of (by decide +kernel)) (by rw [hR]; exact ⟨by decide, by decide⟩) rfl rfl (by decide +kernel) gw3_172 gw3_173 gw3_174 gw1_6 gw3_175 (by decide +kernel : decode cX8_append 75 = .ok (.invokevirtual 83, 3)) ?_)
  refine sm_aload_n (pc := 78) G hb (by decide +kernel : decode cX8_append 78 = .ok (.aload_n 0, 1)) rfl ?_
  refine sm_get (pc := 79) (ci := 8) (j := 4) (N := 8) (T := TX8) G hb ho hy rfl (by decide) gin_8 gw2_104 (by decide +kernel : decode cX8_append 79 = .ok (.getfield 32, 3)) ?_
  refine sm_iload (pc := 82) G hb (by decide +kernel : decode cX8_append 82 = .ok (.iload 4, 2)) ?_
  refine sm_mono (cav_sub gV_sub) (sm_callV (pc := 84) (N := 9) (T := TX5) (C := RX5) G hb ho hy he hE.1 2 [183, 184, 185, 186, 187, 188, 189, 190, 191, 192, 193] (kX5_putBytes hE N) (gCo_of (by decide +kernel)) (by rw [hR]; exact ⟨by decide, by decide⟩) rfl rfl (by decide +kernel) gw3_172 gw3_173 gw3_174 gw1_6 gw3_175 (by decide +kernel : decode cX8_append 84 = .ok (.invokevirtual 83, 3)) ?_)
  refine sm_mask ?_
  exact fX8_append_s87 N G hb ho hy hR he hr hE (by omega)
set_option maxRecDepth 100000 in
set_option maxHeartbeats 4000000 in
theorem fX8_append_s13 {γ : gG} {cs ss : Nat} {ε : gE5} (N : Nat) (G : gOK γ) (hb : gcc γ = cX8_append) (ho : gow γ = RX8) (hy : gly γ = gyX) (hR : grm γ = { frames := 6, cells := 1, slots := 6, locals := 90 }) (he : genv γ = ε) (hr : grt γ = (some .int)) (hE : gEnv ε) (hc9 : cs + 1 ≤ 1 ∧ ss + 6 ≤ 6) : gSm γ cs ss 13 (fX8_append_k13 N) := by
  unfold fX8_append_k13
  refine sm_iadd (pc := 13) G hb (by decide +kernel : decode cX8_append 13 = .ok (.iadd, 1)) ?_
  refine sm_iload (pc := 14) G hb (by decide +kernel : decode cX8_append 14 = .ok (.iload 4, 2)) ?_
  refine sm_mono (ca_sub gI_sub) (sm_callS (pc := 16) G hb ho hy he hE.1 1 [] (kX8_countBytes hE N) (gCo_of (by decide +kernel)) (by rw [hR]; exact ⟨by decide, by decide⟩) (by decide +kernel) gw3_101 gw3_102 gw1_1 gw3_103 (by decide +kernel : decode cX8_append 16 = .ok (.invokestatic 68, 3)) ?_)
  refine sm_iadd (pc := 19) G hb (by decide +kernel : decode cX8_append 19 = .ok (.iadd, 1)) ?_
  refine sm_iload (pc := 20) G hb (by decide +kernel : decode cX8_append 20 = .ok (.iload 5, 2)) ?_
  refine sm_mono (ca_sub gI_sub) (sm_callS (pc := 22) G hb ho hy he hE.1 1 [] (kX8_countBytes hE N) (gCo_of (by decide +kernel)) (by rw [hR]; exact ⟨by decide, by decide⟩) (by decide +kernel) gw3_101 gw3_102 gw1_1 gw3_103 (by decide +kernel : decode cX8_append 22 = .ok (.invokestatic 68, 3)) ?_)
  refine sm_iadd (pc := 25) G hb (by decide +kernel : decode cX8_append 25 = .ok (.iadd, 1)) ?_
  refine sm_istore (pc := 26) G hb (by decide +kernel : decode cX8_append 26 = .ok (.istore 6, 2)) ?_
  refine sm_aload_n (pc := 28) G hb (by decide +kernel : decode cX8_append 28 = .ok (.aload_n 0, 1)) rfl ?_
  refine sm_get (pc := 29) (ci := 8) (j := 4) (N := 8) (T := TX8) G hb ho hy rfl (by decide) gin_8 gw2_104 (by decide +kernel : decode cX8_append 29 = .ok (.getfield 32, 3)) ?_
  refine sm_get (pc := 32) (ci := 5) (j := 2) (N := 9) (T := TX5) G hb ho hy rfl (by decide) gin_5 gw1_231 (by decide +kernel : decode cX8_append 32 = .ok (.getfield 72, 3)) ?_
  refine sm_iload (pc := 35) G hb (by decide +kernel : decode cX8_append 35 = .ok (.iload 6, 2)) ?_
  refine sm_iadd (pc := 37) G hb (by decide +kernel : decode cX8_append 37 = .ok (.iadd, 1)) ?_
  refine sm_sipush (pc := 38) G hb (by decide +kernel : decode cX8_append 38 = .ok (.sipush 700, 3)) (by decide) ?_
  refine sm_icmp_le (pc := 41) (tgt := 54) G hb (by decide +kernel : decode cX8_append 41 = .ok (.if_icmp .le 13, 3)) (by decide) ?_ ?_
  · skip
    refine sm_aload_n (pc := 54) G hb (by decide +kernel : decode cX8_append 54 = .ok (.aload_n 0, 1)) rfl ?_
    refine sm_get (pc := 55) (ci := 8) (j := 4) (N := 8) (T := TX8) G hb ho hy rfl (by decide) gin_8 gw2_104 (by decide +kernel : decode cX8_append 55 = .ok (.getfield 32, 3)) ?_
    refine sm_iload_n (pc := 58) G hb (by decide +kernel : decode cX8_append 58 = .ok (.iload_n 1, 1)) rfl ?_
    refine sm_mono (cav_sub gV_sub) (sm_callV (pc := 59) (N := 9) (T := TX5) (C := RX5) G hb ho hy he hE.1 2 [183, 184, 185, 186, 187, 188, 189, 190, 191, 192, 193] (kX5_putBytes hE N) (gCo_of (by decide +kernel)) (by rw [hR]; exact ⟨by decide, by decide⟩) rfl rfl (by decide +kernel) gw3_172 gw3_173 gw3_174 gw1_6 gw3_175 (by decide +kernel : decode cX8_append 59 = .ok (.invokevirtual 83, 3)) ?_)
    refine sm_mask ?_
    exact fX8_append_s62 N G hb ho hy hR he hr hE (by omega)
  · skip
    exact sm_throw (pc := 44) (i := 300) (text := "the input buffer would be too long") G hb ho he hE gx_ISE (List.mem_of_getElem? (i := 26) rfl) (by rw [hR]; exact ⟨by decide, by decide⟩) (by rw [hR]; exact ⟨by show _ ≤ 1; omega, by show _ ≤ 6; omega⟩) (by decide +kernel : decode cX8_append 44 = .ok (.new 76, 3)) (by decide +kernel : decode cX8_append 47 = .ok (.dup, 1)) (by decide +kernel : decode cX8_append 48 = .ok (.ldc 78, 2)) (by decide +kernel : decode cX8_append 50 = .ok (.invokespecial 80, 3)) (by decide +kernel : decode cX8_append 53 = .ok (.athrow, 1))
set_option maxRecDepth 100000 in
set_option maxHeartbeats 4000000 in
theorem fX8_append_s0 {γ : gG} {cs ss : Nat} {ε : gE5} (N : Nat) (G : gOK γ) (hb : gcc γ = cX8_append) (ho : gow γ = RX8) (hy : gly γ = gyX) (hR : grm γ = { frames := 6, cells := 1, slots := 6, locals := 90 }) (he : genv γ = ε) (hr : grt γ = (some .int)) (hE : gEnv ε) (hc9 : cs + 1 ≤ 1 ∧ ss + 6 ≤ 6) : gSm γ cs ss 0 (fX8_append_k0 N) := by
  unfold fX8_append_k0
  refine sm_iload_n (pc := 0) G hb (by decide +kernel : decode cX8_append 0 = .ok (.iload_n 1, 1)) rfl ?_
  refine sm_mono (ca_sub gI_sub) (sm_callS (pc := 1) G hb ho hy he hE.1 1 [] (kX8_countBytes hE N) (gCo_of (by decide +kernel)) (by rw [hR]; exact ⟨by decide, by decide⟩) (by decide +kernel) gw3_101 gw3_102 gw1_1 gw3_103 (by decide +kernel : decode cX8_append 1 = .ok (.invokestatic 68, 3)) ?_)
  refine sm_iload_n (pc := 4) G hb (by decide +kernel : decode cX8_append 4 = .ok (.iload_n 2, 1)) rfl ?_
  refine sm_mono (ca_sub gI_sub) (sm_callS (pc := 5) G hb ho hy he hE.1 1 [] (kX8_countBytes hE N) (gCo_of (by decide +kernel)) (by rw [hR]; exact ⟨by decide, by decide⟩) (by decide +kernel) gw3_101 gw3_102 gw1_1 gw3_103 (by decide +kernel : decode cX8_append 5 = .ok (.invokestatic 68, 3)) ?_)
  refine sm_iadd (pc := 8) G hb (by decide +kernel : decode cX8_append 8 = .ok (.iadd, 1)) ?_
  refine sm_iload_n (pc := 9) G hb (by decide +kernel : decode cX8_append 9 = .ok (.iload_n 3, 1)) rfl ?_
  refine sm_mono (ca_sub gI_sub) (sm_callS (pc := 10) G hb ho hy he hE.1 1 [] (kX8_countBytes hE N) (gCo_of (by decide +kernel)) (by rw [hR]; exact ⟨by decide, by decide⟩) (by decide +kernel) gw3_101 gw3_102 gw1_1 gw3_103 (by decide +kernel : decode cX8_append 10 = .ok (.invokestatic 68, 3)) ?_)
  refine sm_mask ?_
  exact fX8_append_s13 N G hb ho hy hR he hr hE (by omega)
theorem kX8_append {ε : gE5} (hE : gEnv ε) (N : Nat) : gCtrX ε yX8_append cX8_append 7 (some .int) 6 90 1 6 gyX (fX8_append N) :=
  gCtrX_of hE.1 (by decide) (fun γ G hb ho hy hR he hr => fX8_append_s0 N G hb ho hy hR he hr hE (by omega))

set_option maxRecDepth 100000 in
set_option maxHeartbeats 4000000 in
theorem fX8_checkRange_s0 {γ : gG} {cs ss : Nat} {ε : gE5} (N : Nat) (G : gOK γ) (hb : gcc γ = cX8_checkRange) (ho : gow γ = RX8) (hy : gly γ = gy0) (hR : grm γ = { frames := 6, cells := 1, slots := 6, locals := 90 }) (he : genv γ = ε) (hr : grt γ = none) (hE : gEnv ε) (hc9 : cs + 1 ≤ 1 ∧ ss + 6 ≤ 6) : gSm γ cs ss 0 (fX8_checkRange_k0 N) := by
  unfold fX8_checkRange_k0
  refine sm_iload_n (pc := 0) G hb (by decide +kernel : decode cX8_checkRange 0 = .ok (.iload_n 0, 1)) rfl ?_
  refine sm_iload_n (pc := 1) G hb (by decide +kernel : decode cX8_checkRange 1 = .ok (.iload_n 1, 1)) rfl ?_
  refine sm_icmp_lt (pc := 2) (tgt := 10) G hb (by decide +kernel : decode cX8_checkRange 2 = .ok (.if_icmp .lt 8, 3)) (by decide) ?_ ?_
  · skip
    exact sm_throwW (pc := 10) (i := 301) (text := "a value is out of its range") G hb ho he hE gx_IAE (List.mem_of_getElem? (i := 27) rfl) (by rw [hR]; exact ⟨by decide, by decide⟩) (by rw [hR]; exact ⟨by show _ ≤ 1; omega, by show _ ≤ 6; omega⟩) (by decide +kernel : decode cX8_checkRange 10 = .ok (.new 93, 3)) (by decide +kernel : decode cX8_checkRange 13 = .ok (.dup, 1)) (by decide +kernel : decode cX8_checkRange 14 = .ok (.ldc_w 334, 3)) (by decide +kernel : decode cX8_checkRange 17 = .ok (.invokespecial 97, 3)) (by decide +kernel : decode cX8_checkRange 20 = .ok (.athrow, 1))
  · skip
    refine sm_iload_n (pc := 5) G hb (by decide +kernel : decode cX8_checkRange 5 = .ok (.iload_n 0, 1)) rfl ?_
    refine sm_iload_n (pc := 6) G hb (by decide +kernel : decode cX8_checkRange 6 = .ok (.iload_n 2, 1)) rfl ?_
    refine sm_icmp_le (pc := 7) (tgt := 21) G hb (by decide +kernel : decode cX8_checkRange 7 = .ok (.if_icmp .le 14, 3)) (by decide) ?_ ?_
    · skip
      exact sm_vret (pc := 21) G hb (by decide +kernel : decode cX8_checkRange 21 = .ok (.return_, 1)) hr
    · skip
      exact sm_throwW (pc := 10) (i := 301) (text := "a value is out of its range") G hb ho he hE gx_IAE (List.mem_of_getElem? (i := 27) rfl) (by rw [hR]; exact ⟨by decide, by decide⟩) (by rw [hR]; exact ⟨by show _ ≤ 1; omega, by show _ ≤ 6; omega⟩) (by decide +kernel : decode cX8_checkRange 10 = .ok (.new 93, 3)) (by decide +kernel : decode cX8_checkRange 13 = .ok (.dup, 1)) (by decide +kernel : decode cX8_checkRange 14 = .ok (.ldc_w 334, 3)) (by decide +kernel : decode cX8_checkRange 17 = .ok (.invokespecial 97, 3)) (by decide +kernel : decode cX8_checkRange 20 = .ok (.athrow, 1))
theorem kX8_checkRange {ε : gE5} (hE : gEnv ε) (N : Nat) : gCtrX ε yX8_checkRange cX8_checkRange 3 none 6 90 1 6 gy0 (fX8_checkRange N) :=
  gCtrX_of hE.1 (by decide) (fun γ G hb ho hy hR he hr => fX8_checkRange_s0 N G hb ho hy hR he hr hE (by omega))

set_option maxRecDepth 100000 in
set_option maxHeartbeats 4000000 in
theorem fX8_truncate_s0 {γ : gG} {cs ss : Nat} {ε : gE5} (N : Nat) (G : gOK γ) (hb : gcc γ = cX8_truncate) (ho : gow γ = RX8) (hy : gly γ = gyX) (hR : grm γ = { frames := 7, cells := 1, slots := 6, locals := 112 }) (he : genv γ = ε) (hr : grt γ = (some .int)) (hE : gEnv ε) (hc9 : cs + 1 ≤ 1 ∧ ss + 6 ≤ 6) : gSm γ cs ss 0 (fX8_truncate_k0 N) := by
  unfold fX8_truncate_k0
  refine sm_iload_n (pc := 0) G hb (by decide +kernel : decode cX8_truncate 0 = .ok (.iload_n 1, 1)) rfl ?_
  refine sm_iconst (pc := 1) G hb (by decide +kernel : decode cX8_truncate 1 = .ok (.iconst 0, 1)) (by decide) ?_
  refine sm_aload_n (pc := 2) G hb (by decide +kernel : decode cX8_truncate 2 = .ok (.aload_n 0, 1)) rfl ?_
  refine sm_get (pc := 3) (ci := 8) (j := 4) (N := 8) (T := TX8) G hb ho hy rfl (by decide) gin_8 gw2_104 (by decide +kernel : decode cX8_truncate 3 = .ok (.getfield 32, 3)) ?_
  refine sm_get (pc := 6) (ci := 5) (j := 2) (N := 9) (T := TX5) G hb ho hy rfl (by decide) gin_5 gw1_231 (by decide +kernel : decode cX8_truncate 6 = .ok (.getfield 72, 3)) ?_
  refine sm_mono (xca_sub gXV_sub) (sm_xcallS (pc := 9) G hb ho hy he hE.1 3 [] (kX8_checkRange hE N) (gCo_of (by decide +kernel)) (by rw [hR]; exact ⟨by decide, by decide⟩) (by rw [hR]; exact ⟨by show _ ≤ 1; omega, by show _ ≤ 6; omega⟩) (by decide +kernel) gw3_184 gw3_185 gw1_1 gw3_186 (by decide +kernel : decode cX8_truncate 9 = .ok (.invokestatic 86, 3)) ?_)
  refine sm_aload_n (pc := 12) G hb (by decide +kernel : decode cX8_truncate 12 = .ok (.aload_n 0, 1)) rfl ?_
  refine sm_get (pc := 13) (ci := 8) (j := 4) (N := 8) (T := TX8) G hb ho hy rfl (by decide) gin_8 gw2_104 (by decide +kernel : decode cX8_truncate 13 = .ok (.getfield 32, 3)) ?_
  refine sm_iload_n (pc := 16) G hb (by decide +kernel : decode cX8_truncate 16 = .ok (.iload_n 1, 1)) rfl ?_
  refine sm_put (pc := 17) (ci := 5) (j := 2) (N := 9) (T := TX5) G hb ho hy tyX5 tyX5_ok nmX5 rfl (by decide) gin_5 gw1_231 rfl rfl (by decide +kernel : decode cX8_truncate 17 = .ok (.putfield 72, 3)) ?_
  refine sm_iload_n (pc := 20) G hb (by decide +kernel : decode cX8_truncate 20 = .ok (.iload_n 1, 1)) rfl ?_
  exact sm_iret (pc := 21) G hb (by decide +kernel : decode cX8_truncate 21 = .ok (.ireturn, 1)) hr
theorem kX8_truncate {ε : gE5} (hE : gEnv ε) (N : Nat) : gCtrX ε yX8_truncate cX8_truncate 2 (some .int) 7 112 1 6 gyX (fX8_truncate N) :=
  gCtrX_of hE.1 (by decide) (fun γ G hb ho hy hR he hr => fX8_truncate_s0 N G hb ho hy hR he hr hE (by omega))

set_option maxRecDepth 100000 in
set_option maxHeartbeats 4000000 in
theorem fX8_errorPosition_s0 {γ : gG} {cs ss : Nat} {ε : gE5} (N : Nat) (G : gOK γ) (hb : gcc γ = cX8_errorPosition) (ho : gow γ = RX8) (hy : gly γ = gyX) (hR : grm γ = { frames := 8, cells := 0, slots := 0, locals := 171 }) (he : genv γ = ε) (hr : grt γ = (some .int)) (hE : gEnv ε) : gSm γ cs ss 0 (fX8_errorPosition_k0 N) := by
  unfold fX8_errorPosition_k0
  refine sm_aload_n (pc := 0) G hb (by decide +kernel : decode cX8_errorPosition 0 = .ok (.aload_n 0, 1)) rfl ?_
  refine sm_get (pc := 1) (ci := 8) (j := 4) (N := 8) (T := TX8) G hb ho hy rfl (by decide) gin_8 gw2_104 (by decide +kernel : decode cX8_errorPosition 1 = .ok (.getfield 32, 3)) ?_
  refine sm_mono (cav_sub gI_sub) (sm_callV (pc := 4) (N := 9) (T := TX5) (C := RX5) G hb ho hy he hE.1 1 [183, 184, 185, 186, 187, 188, 189, 190, 191, 192, 193] (kX5_read hE N) (gCo_of (by decide +kernel)) (by rw [hR]; exact ⟨by decide, by decide⟩) rfl rfl (by decide +kernel) gw2_129 gw2_130 gw2_131 gw1_6 gw2_132 (by decide +kernel : decode cX8_errorPosition 4 = .ok (.invokevirtual 89, 3)) ?_)
  exact sm_iret (pc := 7) G hb (by decide +kernel : decode cX8_errorPosition 7 = .ok (.ireturn, 1)) hr
theorem kX8_errorPosition {ε : gE5} (hE : gEnv ε) (N : Nat) : gCtr ε yX8_errorPosition cX8_errorPosition 1 (some .int) 8 171 gyX (fX8_errorPosition N) :=
  gCtr_of hE.1 (by decide) (fun γ G hb ho hy hR he hr => fX8_errorPosition_s0 N G hb ho hy hR he hr hE)

set_option maxRecDepth 100000 in
set_option maxHeartbeats 4000000 in
theorem fX8_load_s0 {γ : gG} {cs ss : Nat} {ε : gE5} (N : Nat) (G : gOK γ) (hb : gcc γ = cX8_load) (ho : gow γ = RX8) (hy : gly γ = gyX) (hR : grm γ = { frames := 8, cells := 1, slots := 6, locals := 171 }) (he : genv γ = ε) (hr : grt γ = (some .int)) (hE : gEnv ε) (hc9 : cs + 1 ≤ 1 ∧ ss + 6 ≤ 6) : gSm γ cs ss 0 (fX8_load_k0 N) := by
  unfold fX8_load_k0
  refine sm_aload_n (pc := 0) G hb (by decide +kernel : decode cX8_load 0 = .ok (.aload_n 0, 1)) rfl ?_
  refine sm_get (pc := 1) (ci := 8) (j := 4) (N := 8) (T := TX8) G hb ho hy rfl (by decide) gin_8 gw2_104 (by decide +kernel : decode cX8_load 1 = .ok (.getfield 32, 3)) ?_
  refine sm_mono (cav_sub gI_sub) (sm_callV (pc := 4) (N := 9) (T := TX5) (C := RX5) G hb ho hy he hE.1 1 [183, 184, 185, 186, 187, 188, 189, 190, 191, 192, 193] (kX5_read hE N) (gCo_of (by decide +kernel)) (by rw [hR]; exact ⟨by decide, by decide⟩) rfl rfl (by decide +kernel) gw2_129 gw2_130 gw2_131 gw1_6 gw2_132 (by decide +kernel : decode cX8_load 4 = .ok (.invokevirtual 89, 3)) ?_)
  refine sm_iconst (pc := 7) G hb (by decide +kernel : decode cX8_load 7 = .ok (.iconst (-1), 1)) (by decide) ?_
  refine sm_icmp_eq (pc := 8) (tgt := 21) G hb (by decide +kernel : decode cX8_load 8 = .ok (.if_icmp .eq 13, 3)) (by decide) ?_ ?_
  · skip
    refine sm_aload_n (pc := 21) G hb (by decide +kernel : decode cX8_load 21 = .ok (.aload_n 0, 1)) rfl ?_
    refine sm_get (pc := 22) (ci := 8) (j := 0) (N := 8) (T := TX8) G hb ho hy rfl (by decide) gin_8 gw2_100 (by decide +kernel : decode cX8_load 22 = .ok (.getfield 12, 3)) ?_
    refine sm_aload_n (pc := 25) G hb (by decide +kernel : decode cX8_load 25 = .ok (.aload_n 0, 1)) rfl ?_
    refine sm_get (pc := 26) (ci := 8) (j := 4) (N := 8) (T := TX8) G hb ho hy rfl (by decide) gin_8 gw2_104 (by decide +kernel : decode cX8_load 26 = .ok (.getfield 32, 3)) ?_
    refine sm_get (pc := 29) (ci := 5) (j := 1) (N := 9) (T := TX5) G hb ho hy rfl (by decide) gin_5 gw1_229 (by decide +kernel : decode cX8_load 29 = .ok (.getfield 98, 3)) ?_
    refine sm_mono (cav_sub gV_sub) (sm_callV (pc := 32) (N := 4) (T := TX7) (C := RX7) G hb ho hy he hE.1 2 [1, 2, 3, 4, 5, 6, 7, 8, 9, 10, 11, 12, 13, 14, 15, 16, 17, 18, 19, 20, 185, 186, 187, 188, 189, 190, 191, 192, 193] (kX7_begin hE N) (gCo_of (by decide +kernel)) (by rw [hR]; exact ⟨by decide, by decide⟩) rfl rfl (by decide +kernel) gw3_211 gw3_212 gw3_213 gw1_2 gw3_214 (by decide +kernel : decode cX8_load 32 = .ok (.invokevirtual 99, 3)) ?_)
    refine sm_aload_n (pc := 35) G hb (by decide +kernel : decode cX8_load 35 = .ok (.aload_n 0, 1)) rfl ?_
    refine sm_get (pc := 36) (ci := 8) (j := 4) (N := 8) (T := TX8) G hb ho hy rfl (by decide) gin_8 gw2_104 (by decide +kernel : decode cX8_load 36 = .ok (.getfield 32, 3)) ?_
    refine sm_iconst (pc := 39) G hb (by decide +kernel : decode cX8_load 39 = .ok (.iconst 0, 1)) (by decide) ?_
    refine sm_put (pc := 40) (ci := 5) (j := 2) (N := 9) (T := TX5) G hb ho hy tyX5 tyX5_ok nmX5 rfl (by decide) gin_5 gw1_231 rfl rfl (by decide +kernel : decode cX8_load 40 = .ok (.putfield 72, 3)) ?_
    refine sm_aload_n (pc := 43) G hb (by decide +kernel : decode cX8_load 43 = .ok (.aload_n 0, 1)) rfl ?_
    refine sm_get (pc := 44) (ci := 8) (j := 3) (N := 8) (T := TX8) G hb ho hy rfl (by decide) gin_8 gw2_103 (by decide +kernel : decode cX8_load 44 = .ok (.getfield 25, 3)) ?_
    refine sm_iconst (pc := 47) G hb (by decide +kernel : decode cX8_load 47 = .ok (.iconst 0, 1)) (by decide) ?_
    refine sm_put (pc := 48) (ci := 1) (j := 1) (N := 2) (T := TX1) G hb ho hy tyX1 tyX1_ok nmX1 rfl (by decide) gin_1 gw1_213 rfl rfl (by decide +kernel : decode cX8_load 48 = .ok (.putfield 103, 3)) ?_
    refine sm_aload_n (pc := 51) G hb (by decide +kernel : decode cX8_load 51 = .ok (.aload_n 0, 1)) rfl ?_
    refine sm_iconst (pc := 52) G hb (by decide +kernel : decode cX8_load 52 = .ok (.iconst 0, 1)) (by decide) ?_
    refine sm_putz (pc := 53) (ci := 8) (j := 7) (N := 8) (T := TX8) G hb ho hy tyX8 tyX8_ok nmX8 rfl (by decide) gin_8 gw2_107 rfl rfl (by decide +kernel : decode cX8_load 53 = .ok (.putfield 106, 3)) ?_
    refine sm_aload_n (pc := 56) G hb (by decide +kernel : decode cX8_load 56 = .ok (.aload_n 0, 1)) rfl ?_
    refine sm_get (pc := 57) (ci := 8) (j := 0) (N := 8) (T := TX8) G hb ho hy rfl (by decide) gin_8 gw2_100 (by decide +kernel : decode cX8_load 57 = .ok (.getfield 12, 3)) ?_
    refine sm_get (pc := 60) (ci := 7) (j := 0) (N := 4) (T := TX7) G hb ho hy rfl (by decide) gin_7 gw1_180 (by decide +kernel : decode cX8_load 60 = .ok (.getfield 50, 3)) ?_
    refine sm_get (pc := 63) (ci := 2) (j := 1) (N := 11) (T := TX2) G hb ho hy rfl (by decide) gin_2 gw1_54 (by decide +kernel : decode cX8_load 63 = .ok (.getfield 110, 3)) ?_
    exact sm_iret (pc := 66) G hb (by decide +kernel : decode cX8_load 66 = .ok (.ireturn, 1)) hr
  · skip
    exact sm_throw (pc := 11) (i := 302) (text := "the setup text is not valid") G hb ho he hE gx_IAE (List.mem_of_getElem? (i := 28) rfl) (by rw [hR]; exact ⟨by decide, by decide⟩) (by rw [hR]; exact ⟨by show _ ≤ 1; omega, by show _ ≤ 6; omega⟩) (by decide +kernel : decode cX8_load 11 = .ok (.new 93, 3)) (by decide +kernel : decode cX8_load 14 = .ok (.dup, 1)) (by decide +kernel : decode cX8_load 15 = .ok (.ldc 95, 2)) (by decide +kernel : decode cX8_load 17 = .ok (.invokespecial 97, 3)) (by decide +kernel : decode cX8_load 20 = .ok (.athrow, 1))
theorem kX8_load {ε : gE5} (hE : gEnv ε) (N : Nat) : gCtrX ε yX8_load cX8_load 1 (some .int) 8 171 1 6 gyX (fX8_load N) :=
  gCtrX_of hE.1 (by decide) (fun γ G hb ho hy hR he hr => fX8_load_s0 N G hb ho hy hR he hr hE (by omega))

set_option maxRecDepth 100000 in
set_option maxHeartbeats 4000000 in
theorem fX8_checkNode_s0 {γ : gG} {cs ss : Nat} {ε : gE5} (N : Nat) (G : gOK γ) (hb : gcc γ = cX8_checkNode) (ho : gow γ = RX8) (hy : gly γ = gyX) (hR : grm γ = { frames := 6, cells := 1, slots := 6, locals := 90 }) (he : genv γ = ε) (hr : grt γ = none) (hE : gEnv ε) (hc9 : cs + 1 ≤ 1 ∧ ss + 6 ≤ 6) : gSm γ cs ss 0 (fX8_checkNode_k0 N) := by
  unfold fX8_checkNode_k0
  refine sm_iload_n (pc := 0) G hb (by decide +kernel : decode cX8_checkNode 0 = .ok (.iload_n 1, 1)) rfl ?_
  refine sm_if_lt (pc := 1) (tgt := 18) G hb (by decide +kernel : decode cX8_checkNode 1 = .ok (.ifCond .lt 17, 3)) (by decide) ?_ ?_
  · skip
    exact sm_throwW (pc := 18) (i := 303) (text := "there is no such node") G hb ho he hE gx_IOE (List.mem_of_getElem? (i := 29) rfl) (by rw [hR]; exact ⟨by decide, by decide⟩) (by rw [hR]; exact ⟨by show _ ≤ 1; omega, by show _ ≤ 6; omega⟩) (by decide +kernel : decode cX8_checkNode 18 = .ok (.new 336, 3)) (by decide +kernel : decode cX8_checkNode 21 = .ok (.dup, 1)) (by decide +kernel : decode cX8_checkNode 22 = .ok (.ldc_w 338, 3)) (by decide +kernel : decode cX8_checkNode 25 = .ok (.invokespecial 340, 3)) (by decide +kernel : decode cX8_checkNode 28 = .ok (.athrow, 1))
  · skip
    refine sm_iload_n (pc := 4) G hb (by decide +kernel : decode cX8_checkNode 4 = .ok (.iload_n 1, 1)) rfl ?_
    refine sm_aload_n (pc := 5) G hb (by decide +kernel : decode cX8_checkNode 5 = .ok (.aload_n 0, 1)) rfl ?_
    refine sm_get (pc := 6) (ci := 8) (j := 0) (N := 8) (T := TX8) G hb ho hy rfl (by decide) gin_8 gw2_100 (by decide +kernel : decode cX8_checkNode 6 = .ok (.getfield 12, 3)) ?_
    refine sm_get (pc := 9) (ci := 7) (j := 0) (N := 4) (T := TX7) G hb ho hy rfl (by decide) gin_7 gw1_180 (by decide +kernel : decode cX8_checkNode 9 = .ok (.getfield 50, 3)) ?_
    refine sm_get (pc := 12) (ci := 2) (j := 0) (N := 11) (T := TX2) G hb ho hy rfl (by decide) gin_2 gw1_49 (by decide +kernel : decode cX8_checkNode 12 = .ok (.getfield 218, 3)) ?_
    refine sm_icmp_lt (pc := 15) (tgt := 29) G hb (by decide +kernel : decode cX8_checkNode 15 = .ok (.if_icmp .lt 14, 3)) (by decide) ?_ ?_
    · skip
      exact sm_vret (pc := 29) G hb (by decide +kernel : decode cX8_checkNode 29 = .ok (.return_, 1)) hr
    · skip
      exact sm_throwW (pc := 18) (i := 303) (text := "there is no such node") G hb ho he hE gx_IOE (List.mem_of_getElem? (i := 29) rfl) (by rw [hR]; exact ⟨by decide, by decide⟩) (by rw [hR]; exact ⟨by show _ ≤ 1; omega, by show _ ≤ 6; omega⟩) (by decide +kernel : decode cX8_checkNode 18 = .ok (.new 336, 3)) (by decide +kernel : decode cX8_checkNode 21 = .ok (.dup, 1)) (by decide +kernel : decode cX8_checkNode 22 = .ok (.ldc_w 338, 3)) (by decide +kernel : decode cX8_checkNode 25 = .ok (.invokespecial 340, 3)) (by decide +kernel : decode cX8_checkNode 28 = .ok (.athrow, 1))
theorem kX8_checkNode {ε : gE5} (hE : gEnv ε) (N : Nat) : gCtrX ε yX8_checkNode cX8_checkNode 2 none 6 90 1 6 gyX (fX8_checkNode N) :=
  gCtrX_of hE.1 (by decide) (fun γ G hb ho hy hR he hr => fX8_checkNode_s0 N G hb ho hy hR he hr hE (by omega))

set_option maxRecDepth 100000 in
set_option maxHeartbeats 4000000 in
theorem fX8_checkTwoNodes_s0 {γ : gG} {cs ss : Nat} {ε : gE5} (N : Nat) (G : gOK γ) (hb : gcc γ = cX8_checkTwoNodes) (ho : gow γ = RX8) (hy : gly γ = gyX) (hR : grm γ = { frames := 7, cells := 3, slots := 18, locals := 111 }) (he : genv γ = ε) (hr : grt γ = none) (hE : gEnv ε) (hc9 : cs + 3 ≤ 3 ∧ ss + 18 ≤ 18) : gSm γ cs ss 0 (fX8_checkTwoNodes_k0 N) := by
  unfold fX8_checkTwoNodes_k0
  refine sm_aload_n (pc := 0) G hb (by decide +kernel : decode cX8_checkTwoNodes 0 = .ok (.aload_n 0, 1)) rfl ?_
  refine sm_iload_n (pc := 1) G hb (by decide +kernel : decode cX8_checkTwoNodes 1 = .ok (.iload_n 1, 1)) rfl ?_
  refine sm_mono (xcav_sub gXV_sub) (sm_xcallV (pc := 2) (N := 8) (T := TX8) (C := RX8) G hb ho hy he hE.1 2 [0, 1, 2, 3, 4, 5, 6, 7, 8, 9, 10, 11, 12, 13, 14, 15, 16, 17, 18, 19, 20, 21, 22, 23, 24, 25, 26, 27, 28, 29, 30, 31, 32, 33, 34, 35, 36, 37, 38, 39, 40, 41, 42, 43, 44, 45, 46, 47, 48, 49, 50, 51, 52, 53, 54, 55, 56, 57, 58, 59, 60, 61, 62, 63, 64, 65, 66, 67, 68, 69, 70, 71, 72, 73, 74, 75, 76, 77, 78, 79, 80, 81, 82, 83, 84, 85, 86, 87, 88, 89, 90, 91, 92, 93, 94, 95, 96, 97, 98, 99, 100, 101, 102, 103, 104, 105, 106, 107, 108, 109, 110, 111, 112, 113, 114, 115, 116, 117, 118, 119, 120, 121, 122, 123, 124, 125, 126, 127, 128, 129, 130, 131, 132, 133, 134, 135, 136, 137, 138, 139, 140, 141, 142, 143, 144, 145, 146, 147, 148, 149, 150, 151, 152, 153, 154, 155, 156, 157, 158, 159, 160, 161, 162, 163, 164, 165, 166, 167, 168, 169, 170, 171, 172, 173, 174, 175, 176, 177, 178, 179, 180, 181, 182, 183, 184, 185, 186, 187, 188, 189, 190, 191, 192, 193, 194, 195, 196, 197, 198, 199, 200, 201, 202, 203] (kX8_checkNode hE N) (gCo_of (by decide +kernel)) (by rw [hR]; exact ⟨by decide, by decide⟩) (by rw [hR]; exact ⟨by show _ ≤ 3; omega, by show _ ≤ 18; omega⟩) rfl rfl (by decide +kernel) gw3_232 gw3_234 gw0_19 gw1_1 gw3_235 (by decide +kernel : decode cX8_checkTwoNodes 2 = .ok (.invokevirtual 256, 3)) ?_)
  refine sm_aload_n (pc := 5) G hb (by decide +kernel : decode cX8_checkTwoNodes 5 = .ok (.aload_n 0, 1)) rfl ?_
  refine sm_iload_n (pc := 6) G hb (by decide +kernel : decode cX8_checkTwoNodes 6 = .ok (.iload_n 2, 1)) rfl ?_
  refine sm_mono (xcav_sub gXV_sub) (sm_xcallV (pc := 7) (N := 8) (T := TX8) (C := RX8) G hb ho hy he hE.1 2 [0, 1, 2, 3, 4, 5, 6, 7, 8, 9, 10, 11, 12, 13, 14, 15, 16, 17, 18, 19, 20, 21, 22, 23, 24, 25, 26, 27, 28, 29, 30, 31, 32, 33, 34, 35, 36, 37, 38, 39, 40, 41, 42, 43, 44, 45, 46, 47, 48, 49, 50, 51, 52, 53, 54, 55, 56, 57, 58, 59, 60, 61, 62, 63, 64, 65, 66, 67, 68, 69, 70, 71, 72, 73, 74, 75, 76, 77, 78, 79, 80, 81, 82, 83, 84, 85, 86, 87, 88, 89, 90, 91, 92, 93, 94, 95, 96, 97, 98, 99, 100, 101, 102, 103, 104, 105, 106, 107, 108, 109, 110, 111, 112, 113, 114, 115, 116, 117, 118, 119, 120, 121, 122, 123, 124, 125, 126, 127, 128, 129, 130, 131, 132, 133, 134, 135, 136, 137, 138, 139, 140, 141, 142, 143, 144, 145, 146, 147, 148, 149, 150, 151, 152, 153, 154, 155, 156, 157, 158, 159, 160, 161, 162, 163, 164, 165, 166, 167, 168, 169, 170, 171, 172, 173, 174, 175, 176, 177, 178, 179, 180, 181, 182, 183, 184, 185, 186, 187, 188, 189, 190, 191, 192, 193, 194, 195, 196, 197, 198, 199, 200, 201, 202, 203] (kX8_checkNode hE N) (gCo_of (by decide +kernel)) (by rw [hR]; exact ⟨by decide, by decide⟩) (by rw [hR]; exact ⟨by show _ ≤ 3; omega, by show _ ≤ 18; omega⟩) rfl rfl (by decide +kernel) gw3_232 gw3_234 gw0_19 gw1_1 gw3_235 (by decide +kernel : decode cX8_checkTwoNodes 7 = .ok (.invokevirtual 256, 3)) ?_)
  refine sm_iload_n (pc := 10) G hb (by decide +kernel : decode cX8_checkTwoNodes 10 = .ok (.iload_n 1, 1)) rfl ?_
  refine sm_iload_n (pc := 11) G hb (by decide +kernel : decode cX8_checkTwoNodes 11 = .ok (.iload_n 2, 1)) rfl ?_
  refine sm_icmp_ne (pc := 12) (tgt := 26) G hb (by decide +kernel : decode cX8_checkTwoNodes 12 = .ok (.if_icmp .ne 14, 3)) (by decide) ?_ ?_
  · skip
    exact sm_vret (pc := 26) G hb (by decide +kernel : decode cX8_checkTwoNodes 26 = .ok (.return_, 1)) hr
  · skip
    exact sm_throwW (pc := 15) (i := 304) (text := "both are the same node") G hb ho he hE gx_IAE (List.mem_of_getElem? (i := 30) rfl) (by rw [hR]; exact ⟨by decide, by decide⟩) (by rw [hR]; exact ⟨by show _ ≤ 3; omega, by show _ ≤ 18; omega⟩) (by decide +kernel : decode cX8_checkTwoNodes 15 = .ok (.new 93, 3)) (by decide +kernel : decode cX8_checkTwoNodes 18 = .ok (.dup, 1)) (by decide +kernel : decode cX8_checkTwoNodes 19 = .ok (.ldc_w 341, 3)) (by decide +kernel : decode cX8_checkTwoNodes 22 = .ok (.invokespecial 97, 3)) (by decide +kernel : decode cX8_checkTwoNodes 25 = .ok (.athrow, 1))
theorem kX8_checkTwoNodes {ε : gE5} (hE : gEnv ε) (N : Nat) : gCtrX ε yX8_checkTwoNodes cX8_checkTwoNodes 3 none 7 111 3 18 gyX (fX8_checkTwoNodes N) :=
  gCtrX_of hE.1 (by decide) (fun γ G hb ho hy hR he hr => fX8_checkTwoNodes_s0 N G hb ho hy hR he hr hE (by omega))

set_option maxRecDepth 100000 in
set_option maxHeartbeats 4000000 in
theorem fX8_addLink_s39 {γ : gG} {cs ss : Nat} {ε : gE5} (N : Nat) (G : gOK γ) (hb : gcc γ = cX8_addLink) (ho : gow γ = RX8) (hy : gly γ = gyX) (hR : grm γ = { frames := 8, cells := 5, slots := 30, locals := 133 }) (he : genv γ = ε) (hr : grt γ = (some .int)) (hE : gEnv ε) (hc9 : cs + 1 ≤ 5 ∧ ss + 6 ≤ 30) : gSm γ cs ss 39 (fX8_addLink_k39 N) := by
  unfold fX8_addLink_k39
  refine sm_iconst (pc := 39) G hb (by decide +kernel : decode cX8_addLink 39 = .ok (.iconst (-1), 1)) (by decide) ?_
  refine sm_icmp_eq (pc := 40) (tgt := 53) G hb (by decide +kernel : decode cX8_addLink 40 = .ok (.if_icmp .eq 13, 3)) (by decide) ?_ ?_
  · skip
    refine sm_aload_n (pc := 53) G hb (by decide +kernel : decode cX8_addLink 53 = .ok (.aload_n 0, 1)) rfl ?_
    refine sm_get (pc := 54) (ci := 8) (j := 3) (N := 8) (T := TX8) G hb ho hy rfl (by decide) gin_8 gw2_103 (by decide +kernel : decode cX8_addLink 54 = .ok (.getfield 25, 3)) ?_
    refine sm_aload_n (pc := 57) G hb (by decide +kernel : decode cX8_addLink 57 = .ok (.aload_n 0, 1)) rfl ?_
    refine sm_get (pc := 58) (ci := 8) (j := 0) (N := 8) (T := TX8) G hb ho hy rfl (by decide) gin_8 gw2_100 (by decide +kernel : decode cX8_addLink 58 = .ok (.getfield 12, 3)) ?_
    refine sm_mono (cav_sub gV_sub) (sm_callV (pc := 61) (N := 2) (T := TX1) (C := RX1) G hb ho hy he hE.1 2 [61, 62, 63, 64, 65, 66, 67, 68, 69, 70, 71, 72, 73, 74, 75, 76, 77, 78, 79, 80, 81, 82, 83, 84, 85, 86, 87, 88, 89, 90, 91, 92, 93, 94, 95, 96, 97, 98, 99, 100, 101, 102, 103, 104, 105, 106, 107, 108, 109, 110, 111, 112, 113, 114, 115, 116, 117, 118, 119, 120, 121, 122, 123, 124, 125, 126, 127, 128, 129, 130, 131, 132, 133, 134, 135, 136, 137, 138, 139, 140, 141, 142, 143, 144, 145, 146, 147, 148, 149, 150, 151, 152, 153, 154, 155, 156, 157, 158, 159, 160, 161, 162, 163, 164, 165, 166, 167, 168, 169, 170, 171, 172, 173, 174, 175, 176, 177, 178, 179, 180, 181, 182, 1, 2, 3, 4, 5, 6, 7, 8, 9, 10, 11, 12, 13, 14, 15, 16, 17, 18, 19, 20] (kX1_remember hE N) (gCo_of (by decide +kernel)) (by rw [hR]; exact ⟨by decide, by decide⟩) rfl rfl (by decide +kernel) gw3_32 gw3_33 gw3_34 gw1_5 gw3_35 (by decide +kernel : decode cX8_addLink 61 = .ok (.invokevirtual 123, 3)) ?_)
    refine sm_aload_n (pc := 64) G hb (by decide +kernel : decode cX8_addLink 64 = .ok (.aload_n 0, 1)) rfl ?_
    refine sm_get (pc := 65) (ci := 8) (j := 0) (N := 8) (T := TX8) G hb ho hy rfl (by decide) gin_8 gw2_100 (by decide +kernel : decode cX8_addLink 65 = .ok (.getfield 12, 3)) ?_
    refine sm_get (pc := 68) (ci := 7) (j := 0) (N := 4) (T := TX7) G hb ho hy rfl (by decide) gin_7 gw1_180 (by decide +kernel : decode cX8_addLink 68 = .ok (.getfield 50, 3)) ?_
    refine sm_iload_n (pc := 71) G hb (by decide +kernel : decode cX8_addLink 71 = .ok (.iload_n 1, 1)) rfl ?_
    refine sm_iload_n (pc := 72) G hb (by decide +kernel : decode cX8_addLink 72 = .ok (.iload_n 2, 1)) rfl ?_
    refine sm_iload_n (pc := 73) G hb (by decide +kernel : decode cX8_addLink 73 = .ok (.iload_n 3, 1)) rfl ?_
    refine sm_mono (cav_sub gV_sub) (sm_callV (pc := 74) (N := 11) (T := TX2) (C := RX2) G hb ho hy he hE.1 4 [2, 3, 4, 5, 6, 7, 8, 9, 10] (kX2_putLink hE N) (gCo_of (by decide +kernel)) (by rw [hR]; exact ⟨by decide, by decide⟩) rfl rfl (by decide +kernel) gw2_84 gw2_85 gw2_86 gw1_3 gw2_87 (by decide +kernel : decode cX8_addLink 74 = .ok (.invokevirtual 60, 3)) ?_)
    refine sm_aload_n (pc := 77) G hb (by decide +kernel : decode cX8_addLink 77 = .ok (.aload_n 0, 1)) rfl ?_
    refine sm_get (pc := 78) (ci := 8) (j := 0) (N := 8) (T := TX8) G hb ho hy rfl (by decide) gin_8 gw2_100 (by decide +kernel : decode cX8_addLink 78 = .ok (.getfield 12, 3)) ?_
    refine sm_get (pc := 81) (ci := 7) (j := 0) (N := 4) (T := TX7) G hb ho hy rfl (by decide) gin_7 gw1_180 (by decide +kernel : decode cX8_addLink 81 = .ok (.getfield 50, 3)) ?_
    refine sm_get (pc := 84) (ci := 2) (j := 1) (N := 11) (T := TX2) G hb ho hy rfl (by decide) gin_2 gw1_54 (by decide +kernel : decode cX8_addLink 84 = .ok (.getfield 110, 3)) ?_
    refine sm_iconst (pc := 87) G hb (by decide +kernel : decode cX8_addLink 87 = .ok (.iconst 1, 1)) (by decide) ?_
    refine sm_isub (pc := 88) G hb (by decide +kernel : decode cX8_addLink 88 = .ok (.isub, 1)) ?_
    exact sm_iret (pc := 89) G hb (by decide +kernel : decode cX8_addLink 89 = .ok (.ireturn, 1)) hr
  · skip
    exact sm_throw (pc := 43) (i := 305) (text := "there is such a link, or there are too many links") G hb ho he hE gx_ISE (List.mem_of_getElem? (i := 31) rfl) (by rw [hR]; exact ⟨by decide, by decide⟩) (by rw [hR]; exact ⟨by show _ ≤ 5; omega, by show _ ≤ 30; omega⟩) (by decide +kernel : decode cX8_addLink 43 = .ok (.new 76, 3)) (by decide +kernel : decode cX8_addLink 46 = .ok (.dup, 1)) (by decide +kernel : decode cX8_addLink 47 = .ok (.ldc 121, 2)) (by decide +kernel : decode cX8_addLink 49 = .ok (.invokespecial 80, 3)) (by decide +kernel : decode cX8_addLink 52 = .ok (.athrow, 1))
set_option maxRecDepth 100000 in
set_option maxHeartbeats 4000000 in
theorem fX8_addLink_s0 {γ : gG} {cs ss : Nat} {ε : gE5} (N : Nat) (G : gOK γ) (hb : gcc γ = cX8_addLink) (ho : gow γ = RX8) (hy : gly γ = gyX) (hR : grm γ = { frames := 8, cells := 5, slots := 30, locals := 133 }) (he : genv γ = ε) (hr : grt γ = (some .int)) (hE : gEnv ε) (hc9 : cs + 5 ≤ 5 ∧ ss + 30 ≤ 30) : gSm γ cs ss 0 (fX8_addLink_k0 N) := by
  unfold fX8_addLink_k0
  refine sm_aload_n (pc := 0) G hb (by decide +kernel : decode cX8_addLink 0 = .ok (.aload_n 0, 1)) rfl ?_
  refine sm_iload_n (pc := 1) G hb (by decide +kernel : decode cX8_addLink 1 = .ok (.iload_n 1, 1)) rfl ?_
  refine sm_iload_n (pc := 2) G hb (by decide +kernel : decode cX8_addLink 2 = .ok (.iload_n 2, 1)) rfl ?_
  refine sm_mono (xcav_sub gXV_sub) (sm_xcallV (pc := 3) (N := 8) (T := TX8) (C := RX8) G hb ho hy he hE.1 3 [0, 1, 2, 3, 4, 5, 6, 7, 8, 9, 10, 11, 12, 13, 14, 15, 16, 17, 18, 19, 20, 21, 22, 23, 24, 25, 26, 27, 28, 29, 30, 31, 32, 33, 34, 35, 36, 37, 38, 39, 40, 41, 42, 43, 44, 45, 46, 47, 48, 49, 50, 51, 52, 53, 54, 55, 56, 57, 58, 59, 60, 61, 62, 63, 64, 65, 66, 67, 68, 69, 70, 71, 72, 73, 74, 75, 76, 77, 78, 79, 80, 81, 82, 83, 84, 85, 86, 87, 88, 89, 90, 91, 92, 93, 94, 95, 96, 97, 98, 99, 100, 101, 102, 103, 104, 105, 106, 107, 108, 109, 110, 111, 112, 113, 114, 115, 116, 117, 118, 119, 120, 121, 122, 123, 124, 125, 126, 127, 128, 129, 130, 131, 132, 133, 134, 135, 136, 137, 138, 139, 140, 141, 142, 143, 144, 145, 146, 147, 148, 149, 150, 151, 152, 153, 154, 155, 156, 157, 158, 159, 160, 161, 162, 163, 164, 165, 166, 167, 168, 169, 170, 171, 172, 173, 174, 175, 176, 177, 178, 179, 180, 181, 182, 183, 184, 185, 186, 187, 188, 189, 190, 191, 192, 193, 194, 195, 196, 197, 198, 199, 200, 201, 202, 203] (kX8_checkTwoNodes hE N) (gCo_of (by decide +kernel)) (by rw [hR]; exact ⟨by decide, by decide⟩) (by rw [hR]; exact ⟨by show _ ≤ 5; omega, by show _ ≤ 30; omega⟩) rfl rfl (by decide +kernel) gw3_228 gw3_230 gw0_18 gw1_1 gw3_231 (by decide +kernel : decode cX8_addLink 3 = .ok (.invokevirtual 113, 3)) ?_)
  refine sm_iload_n (pc := 6) G hb (by decide +kernel : decode cX8_addLink 6 = .ok (.iload_n 3, 1)) rfl ?_
  refine sm_iconst (pc := 7) G hb (by decide +kernel : decode cX8_addLink 7 = .ok (.iconst 1, 1)) (by decide) ?_
  refine sm_iconst (pc := 8) G hb (by decide +kernel : decode cX8_addLink 8 = .ok (.iconst 5, 1)) (by decide) ?_
  refine sm_mono (xca_sub gXV_sub) (sm_xcallS (pc := 9) G hb ho hy he hE.1 3 [] (kX8_checkRange hE N) (gCo_of (by decide +kernel)) (by rw [hR]; exact ⟨by decide, by decide⟩) (by rw [hR]; exact ⟨by show _ ≤ 5; omega, by show _ ≤ 30; omega⟩) (by decide +kernel) gw3_184 gw3_185 gw1_1 gw3_186 (by decide +kernel : decode cX8_addLink 9 = .ok (.invokestatic 86, 3)) ?_)
  refine sm_aload_n (pc := 12) G hb (by decide +kernel : decode cX8_addLink 12 = .ok (.aload_n 0, 1)) rfl ?_
  refine sm_get (pc := 13) (ci := 8) (j := 0) (N := 8) (T := TX8) G hb ho hy rfl (by decide) gin_8 gw2_100 (by decide +kernel : decode cX8_addLink 13 = .ok (.getfield 12, 3)) ?_
  refine sm_get (pc := 16) (ci := 7) (j := 0) (N := 4) (T := TX7) G hb ho hy rfl (by decide) gin_7 gw1_180 (by decide +kernel : decode cX8_addLink 16 = .ok (.getfield 50, 3)) ?_
  refine sm_get (pc := 19) (ci := 2) (j := 1) (N := 11) (T := TX2) G hb ho hy rfl (by decide) gin_2 gw1_54 (by decide +kernel : decode cX8_addLink 19 = .ok (.getfield 110, 3)) ?_
  refine sm_bipush (pc := 22) G hb (by decide +kernel : decode cX8_addLink 22 = .ok (.bipush 14, 2)) (by decide) ?_
  refine sm_icmp_ge (pc := 24) (tgt := 43) G hb (by decide +kernel : decode cX8_addLink 24 = .ok (.if_icmp .ge 19, 3)) (by decide) ?_ ?_
  · skip
    exact sm_throw (pc := 43) (i := 305) (text := "there is such a link, or there are too many links") G hb ho he hE gx_ISE (List.mem_of_getElem? (i := 31) rfl) (by rw [hR]; exact ⟨by decide, by decide⟩) (by rw [hR]; exact ⟨by show _ ≤ 5; omega, by show _ ≤ 30; omega⟩) (by decide +kernel : decode cX8_addLink 43 = .ok (.new 76, 3)) (by decide +kernel : decode cX8_addLink 46 = .ok (.dup, 1)) (by decide +kernel : decode cX8_addLink 47 = .ok (.ldc 121, 2)) (by decide +kernel : decode cX8_addLink 49 = .ok (.invokespecial 80, 3)) (by decide +kernel : decode cX8_addLink 52 = .ok (.athrow, 1))
  · skip
    refine sm_aload_n (pc := 27) G hb (by decide +kernel : decode cX8_addLink 27 = .ok (.aload_n 0, 1)) rfl ?_
    refine sm_get (pc := 28) (ci := 8) (j := 0) (N := 8) (T := TX8) G hb ho hy rfl (by decide) gin_8 gw2_100 (by decide +kernel : decode cX8_addLink 28 = .ok (.getfield 12, 3)) ?_
    refine sm_get (pc := 31) (ci := 7) (j := 0) (N := 4) (T := TX7) G hb ho hy rfl (by decide) gin_7 gw1_180 (by decide +kernel : decode cX8_addLink 31 = .ok (.getfield 50, 3)) ?_
    refine sm_iload_n (pc := 34) G hb (by decide +kernel : decode cX8_addLink 34 = .ok (.iload_n 1, 1)) rfl ?_
    refine sm_iload_n (pc := 35) G hb (by decide +kernel : decode cX8_addLink 35 = .ok (.iload_n 2, 1)) rfl ?_
    refine sm_mono (cav_sub gI_sub) (sm_callV (pc := 36) (N := 11) (T := TX2) (C := RX2) G hb ho hy he hE.1 3 [2, 3, 4, 5, 6, 7, 8, 9, 10] (kX2_findLink hE N) (gCo_of (by decide +kernel)) (by rw [hR]; exact ⟨by decide, by decide⟩) rfl rfl (by decide +kernel) gw4_13 gw2_216 gw2_217 gw1_3 gw2_218 (by decide +kernel : decode cX8_addLink 36 = .ok (.invokevirtual 117, 3)) ?_)
    refine sm_mask ?_
    exact fX8_addLink_s39 N G hb ho hy hR he hr hE (by omega)
theorem kX8_addLink {ε : gE5} (hE : gEnv ε) (N : Nat) : gCtrX ε yX8_addLink cX8_addLink 4 (some .int) 8 133 5 30 gyX (fX8_addLink N) :=
  gCtrX_of hE.1 (by decide) (fun γ G hb ho hy hR he hr => fX8_addLink_s0 N G hb ho hy hR he hr hE (by omega))

set_option maxRecDepth 100000 in
set_option maxHeartbeats 4000000 in
theorem fX8_checkLink_s0 {γ : gG} {cs ss : Nat} {ε : gE5} (N : Nat) (G : gOK γ) (hb : gcc γ = cX8_checkLink) (ho : gow γ = RX8) (hy : gly γ = gyX) (hR : grm γ = { frames := 6, cells := 1, slots := 6, locals := 90 }) (he : genv γ = ε) (hr : grt γ = none) (hE : gEnv ε) (hc9 : cs + 1 ≤ 1 ∧ ss + 6 ≤ 6) : gSm γ cs ss 0 (fX8_checkLink_k0 N) := by
  unfold fX8_checkLink_k0
  refine sm_iload_n (pc := 0) G hb (by decide +kernel : decode cX8_checkLink 0 = .ok (.iload_n 1, 1)) rfl ?_
  refine sm_if_lt (pc := 1) (tgt := 18) G hb (by decide +kernel : decode cX8_checkLink 1 = .ok (.ifCond .lt 17, 3)) (by decide) ?_ ?_
  · skip
    exact sm_throwW (pc := 18) (i := 306) (text := "there is no such link") G hb ho he hE gx_IOE (List.mem_of_getElem? (i := 32) rfl) (by rw [hR]; exact ⟨by decide, by decide⟩) (by rw [hR]; exact ⟨by show _ ≤ 1; omega, by show _ ≤ 6; omega⟩) (by decide +kernel : decode cX8_checkLink 18 = .ok (.new 336, 3)) (by decide +kernel : decode cX8_checkLink 21 = .ok (.dup, 1)) (by decide +kernel : decode cX8_checkLink 22 = .ok (.ldc_w 343, 3)) (by decide +kernel : decode cX8_checkLink 25 = .ok (.invokespecial 340, 3)) (by decide +kernel : decode cX8_checkLink 28 = .ok (.athrow, 1))
  · skip
    refine sm_iload_n (pc := 4) G hb (by decide +kernel : decode cX8_checkLink 4 = .ok (.iload_n 1, 1)) rfl ?_
    refine sm_aload_n (pc := 5) G hb (by decide +kernel : decode cX8_checkLink 5 = .ok (.aload_n 0, 1)) rfl ?_
    refine sm_get (pc := 6) (ci := 8) (j := 0) (N := 8) (T := TX8) G hb ho hy rfl (by decide) gin_8 gw2_100 (by decide +kernel : decode cX8_checkLink 6 = .ok (.getfield 12, 3)) ?_
    refine sm_get (pc := 9) (ci := 7) (j := 0) (N := 4) (T := TX7) G hb ho hy rfl (by decide) gin_7 gw1_180 (by decide +kernel : decode cX8_checkLink 9 = .ok (.getfield 50, 3)) ?_
    refine sm_get (pc := 12) (ci := 2) (j := 1) (N := 11) (T := TX2) G hb ho hy rfl (by decide) gin_2 gw1_54 (by decide +kernel : decode cX8_checkLink 12 = .ok (.getfield 110, 3)) ?_
    refine sm_icmp_lt (pc := 15) (tgt := 29) G hb (by decide +kernel : decode cX8_checkLink 15 = .ok (.if_icmp .lt 14, 3)) (by decide) ?_ ?_
    · skip
      exact sm_vret (pc := 29) G hb (by decide +kernel : decode cX8_checkLink 29 = .ok (.return_, 1)) hr
    · skip
      exact sm_throwW (pc := 18) (i := 306) (text := "there is no such link") G hb ho he hE gx_IOE (List.mem_of_getElem? (i := 32) rfl) (by rw [hR]; exact ⟨by decide, by decide⟩) (by rw [hR]; exact ⟨by show _ ≤ 1; omega, by show _ ≤ 6; omega⟩) (by decide +kernel : decode cX8_checkLink 18 = .ok (.new 336, 3)) (by decide +kernel : decode cX8_checkLink 21 = .ok (.dup, 1)) (by decide +kernel : decode cX8_checkLink 22 = .ok (.ldc_w 343, 3)) (by decide +kernel : decode cX8_checkLink 25 = .ok (.invokespecial 340, 3)) (by decide +kernel : decode cX8_checkLink 28 = .ok (.athrow, 1))
theorem kX8_checkLink {ε : gE5} (hE : gEnv ε) (N : Nat) : gCtrX ε yX8_checkLink cX8_checkLink 2 none 6 90 1 6 gyX (fX8_checkLink N) :=
  gCtrX_of hE.1 (by decide) (fun γ G hb ho hy hR he hr => fX8_checkLink_s0 N G hb ho hy hR he hr hE (by omega))

set_option maxRecDepth 100000 in
set_option maxHeartbeats 4000000 in
theorem fX8_setCapacity_s22 {γ : gG} {cs ss : Nat} {ε : gE5} (N : Nat) (G : gOK γ) (hb : gcc γ = cX8_setCapacity) (ho : gow γ = RX8) (hy : gly γ = gyX) (hR : grm γ = { frames := 7, cells := 2, slots := 12, locals := 113 }) (he : genv γ = ε) (hr : grt γ = (some .int)) (hE : gEnv ε) (hc9 : cs + 0 ≤ 2 ∧ ss + 0 ≤ 12) : gSm γ cs ss 22 (fX8_setCapacity_k22 N) := by
  unfold fX8_setCapacity_k22
  refine sm_aload_n (pc := 22) G hb (by decide +kernel : decode cX8_setCapacity 22 = .ok (.aload_n 0, 1)) rfl ?_
  refine sm_get (pc := 23) (ci := 8) (j := 0) (N := 8) (T := TX8) G hb ho hy rfl (by decide) gin_8 gw2_100 (by decide +kernel : decode cX8_setCapacity 23 = .ok (.getfield 12, 3)) ?_
  refine sm_get (pc := 26) (ci := 7) (j := 0) (N := 4) (T := TX7) G hb ho hy rfl (by decide) gin_7 gw1_180 (by decide +kernel : decode cX8_setCapacity 26 = .ok (.getfield 50, 3)) ?_
  refine sm_get (pc := 29) (ci := 2) (j := 5) (N := 11) (T := TX2) G hb ho hy rfl (by decide) gin_2 gw1_74 (by decide +kernel : decode cX8_setCapacity 29 = .ok (.getfield 130, 3)) ?_
  refine sm_iload_n (pc := 32) G hb (by decide +kernel : decode cX8_setCapacity 32 = .ok (.iload_n 1, 1)) rfl ?_
  refine sm_iald (pc := 33) G hb hy (by decide +kernel : decode cX8_setCapacity 33 = .ok (.iaload, 1)) ?_
  refine sm_istore_n (pc := 34) G hb (by decide +kernel : decode cX8_setCapacity 34 = .ok (.istore_n 3, 1)) rfl ?_
  refine sm_aload_n (pc := 35) G hb (by decide +kernel : decode cX8_setCapacity 35 = .ok (.aload_n 0, 1)) rfl ?_
  refine sm_get (pc := 36) (ci := 8) (j := 0) (N := 8) (T := TX8) G hb ho hy rfl (by decide) gin_8 gw2_100 (by decide +kernel : decode cX8_setCapacity 36 = .ok (.getfield 12, 3)) ?_
  refine sm_get (pc := 39) (ci := 7) (j := 0) (N := 4) (T := TX7) G hb ho hy rfl (by decide) gin_7 gw1_180 (by decide +kernel : decode cX8_setCapacity 39 = .ok (.getfield 50, 3)) ?_
  refine sm_get (pc := 42) (ci := 2) (j := 5) (N := 11) (T := TX2) G hb ho hy rfl (by decide) gin_2 gw1_74 (by decide +kernel : decode cX8_setCapacity 42 = .ok (.getfield 130, 3)) ?_
  refine sm_iload_n (pc := 45) G hb (by decide +kernel : decode cX8_setCapacity 45 = .ok (.iload_n 1, 1)) rfl ?_
  refine sm_iload_n (pc := 46) G hb (by decide +kernel : decode cX8_setCapacity 46 = .ok (.iload_n 2, 1)) rfl ?_
  refine sm_iast (pc := 47) G hb hy (by decide +kernel : decode cX8_setCapacity 47 = .ok (.iastore, 1)) ?_
  refine sm_iload_n (pc := 48) G hb (by decide +kernel : decode cX8_setCapacity 48 = .ok (.iload_n 3, 1)) rfl ?_
  exact sm_iret (pc := 49) G hb (by decide +kernel : decode cX8_setCapacity 49 = .ok (.ireturn, 1)) hr
set_option maxRecDepth 100000 in
set_option maxHeartbeats 4000000 in
theorem fX8_setCapacity_s0 {γ : gG} {cs ss : Nat} {ε : gE5} (N : Nat) (G : gOK γ) (hb : gcc γ = cX8_setCapacity) (ho : gow γ = RX8) (hy : gly γ = gyX) (hR : grm γ = { frames := 7, cells := 2, slots := 12, locals := 113 }) (he : genv γ = ε) (hr : grt γ = (some .int)) (hE : gEnv ε) (hc9 : cs + 2 ≤ 2 ∧ ss + 12 ≤ 12) : gSm γ cs ss 0 (fX8_setCapacity_k0 N) := by
  unfold fX8_setCapacity_k0
  refine sm_aload_n (pc := 0) G hb (by decide +kernel : decode cX8_setCapacity 0 = .ok (.aload_n 0, 1)) rfl ?_
  refine sm_iload_n (pc := 1) G hb (by decide +kernel : decode cX8_setCapacity 1 = .ok (.iload_n 1, 1)) rfl ?_
  refine sm_mono (xcav_sub gXV_sub) (sm_xcallV (pc := 2) (N := 8) (T := TX8) (C := RX8) G hb ho hy he hE.1 2 [0, 1, 2, 3, 4, 5, 6, 7, 8, 9, 10, 11, 12, 13, 14, 15, 16, 17, 18, 19, 20, 21, 22, 23, 24, 25, 26, 27, 28, 29, 30, 31, 32, 33, 34, 35, 36, 37, 38, 39, 40, 41, 42, 43, 44, 45, 46, 47, 48, 49, 50, 51, 52, 53, 54, 55, 56, 57, 58, 59, 60, 61, 62, 63, 64, 65, 66, 67, 68, 69, 70, 71, 72, 73, 74, 75, 76, 77, 78, 79, 80, 81, 82, 83, 84, 85, 86, 87, 88, 89, 90, 91, 92, 93, 94, 95, 96, 97, 98, 99, 100, 101, 102, 103, 104, 105, 106, 107, 108, 109, 110, 111, 112, 113, 114, 115, 116, 117, 118, 119, 120, 121, 122, 123, 124, 125, 126, 127, 128, 129, 130, 131, 132, 133, 134, 135, 136, 137, 138, 139, 140, 141, 142, 143, 144, 145, 146, 147, 148, 149, 150, 151, 152, 153, 154, 155, 156, 157, 158, 159, 160, 161, 162, 163, 164, 165, 166, 167, 168, 169, 170, 171, 172, 173, 174, 175, 176, 177, 178, 179, 180, 181, 182, 183, 184, 185, 186, 187, 188, 189, 190, 191, 192, 193, 194, 195, 196, 197, 198, 199, 200, 201, 202, 203] (kX8_checkLink hE N) (gCo_of (by decide +kernel)) (by rw [hR]; exact ⟨by decide, by decide⟩) (by rw [hR]; exact ⟨by show _ ≤ 2; omega, by show _ ≤ 12; omega⟩) rfl rfl (by decide +kernel) gw4_22 gw4_24 gw0_20 gw1_1 gw4_25 (by decide +kernel : decode cX8_setCapacity 2 = .ok (.invokevirtual 127, 3)) ?_)
  refine sm_iload_n (pc := 5) G hb (by decide +kernel : decode cX8_setCapacity 5 = .ok (.iload_n 2, 1)) rfl ?_
  refine sm_iconst (pc := 6) G hb (by decide +kernel : decode cX8_setCapacity 6 = .ok (.iconst 1, 1)) (by decide) ?_
  refine sm_iconst (pc := 7) G hb (by decide +kernel : decode cX8_setCapacity 7 = .ok (.iconst 5, 1)) (by decide) ?_
  refine sm_mono (xca_sub gXV_sub) (sm_xcallS (pc := 8) G hb ho hy he hE.1 3 [] (kX8_checkRange hE N) (gCo_of (by decide +kernel)) (by rw [hR]; exact ⟨by decide, by decide⟩) (by rw [hR]; exact ⟨by show _ ≤ 2; omega, by show _ ≤ 12; omega⟩) (by decide +kernel) gw3_184 gw3_185 gw1_1 gw3_186 (by decide +kernel : decode cX8_setCapacity 8 = .ok (.invokestatic 86, 3)) ?_)
  refine sm_aload_n (pc := 11) G hb (by decide +kernel : decode cX8_setCapacity 11 = .ok (.aload_n 0, 1)) rfl ?_
  refine sm_get (pc := 12) (ci := 8) (j := 3) (N := 8) (T := TX8) G hb ho hy rfl (by decide) gin_8 gw2_103 (by decide +kernel : decode cX8_setCapacity 12 = .ok (.getfield 25, 3)) ?_
  refine sm_aload_n (pc := 15) G hb (by decide +kernel : decode cX8_setCapacity 15 = .ok (.aload_n 0, 1)) rfl ?_
  refine sm_get (pc := 16) (ci := 8) (j := 0) (N := 8) (T := TX8) G hb ho hy rfl (by decide) gin_8 gw2_100 (by decide +kernel : decode cX8_setCapacity 16 = .ok (.getfield 12, 3)) ?_
  refine sm_mono (cav_sub gV_sub) (sm_callV (pc := 19) (N := 2) (T := TX1) (C := RX1) G hb ho hy he hE.1 2 [61, 62, 63, 64, 65, 66, 67, 68, 69, 70, 71, 72, 73, 74, 75, 76, 77, 78, 79, 80, 81, 82, 83, 84, 85, 86, 87, 88, 89, 90, 91, 92, 93, 94, 95, 96, 97, 98, 99, 100, 101, 102, 103, 104, 105, 106, 107, 108, 109, 110, 111, 112, 113, 114, 115, 116, 117, 118, 119, 120, 121, 122, 123, 124, 125, 126, 127, 128, 129, 130, 131, 132, 133, 134, 135, 136, 137, 138, 139, 140, 141, 142, 143, 144, 145, 146, 147, 148, 149, 150, 151, 152, 153, 154, 155, 156, 157, 158, 159, 160, 161, 162, 163, 164, 165, 166, 167, 168, 169, 170, 171, 172, 173, 174, 175, 176, 177, 178, 179, 180, 181, 182, 1, 2, 3, 4, 5, 6, 7, 8, 9, 10, 11, 12, 13, 14, 15, 16, 17, 18, 19, 20] (kX1_remember hE N) (gCo_of (by decide +kernel)) (by rw [hR]; exact ⟨by decide, by decide⟩) rfl rfl (by decide +kernel) gw3_32 gw3_33 gw3_34 gw1_5 gw3_35 (by decide +kernel : decode cX8_setCapacity 19 = .ok (.invokevirtual 123, 3)) ?_)
  refine sm_mask ?_
  exact fX8_setCapacity_s22 N G hb ho hy hR he hr hE (by omega)
theorem kX8_setCapacity {ε : gE5} (hE : gEnv ε) (N : Nat) : gCtrX ε yX8_setCapacity cX8_setCapacity 4 (some .int) 7 113 2 12 gyX (fX8_setCapacity N) :=
  gCtrX_of hE.1 (by decide) (fun γ G hb ho hy hR he hr => fX8_setCapacity_s0 N G hb ho hy hR he hr hE (by omega))

set_option maxRecDepth 100000 in
set_option maxHeartbeats 4000000 in
theorem fX8_setConflict_s36 {γ : gG} {cs ss : Nat} {ε : gE5} (N : Nat) (G : gOK γ) (hb : gcc γ = cX8_setConflict) (ho : gow γ = RX8) (hy : gly γ = gyX) (hR : grm γ = { frames := 7, cells := 3, slots := 18, locals := 113 }) (he : genv γ = ε) (hr : grt γ = (some .boolean)) (hE : gEnv ε) (hc9 : cs + 0 ≤ 3 ∧ ss + 0 ≤ 18) : gSm γ cs ss 36 (fX8_setConflict_k36 N) := by
  unfold fX8_setConflict_k36
  refine sm_aload_n (pc := 36) G hb (by decide +kernel : decode cX8_setConflict 36 = .ok (.aload_n 0, 1)) rfl ?_
  refine sm_get (pc := 37) (ci := 8) (j := 0) (N := 8) (T := TX8) G hb ho hy rfl (by decide) gin_8 gw2_100 (by decide +kernel : decode cX8_setConflict 37 = .ok (.getfield 12, 3)) ?_
  refine sm_get (pc := 40) (ci := 7) (j := 0) (N := 4) (T := TX7) G hb ho hy rfl (by decide) gin_7 gw1_180 (by decide +kernel : decode cX8_setConflict 40 = .ok (.getfield 50, 3)) ?_
  refine sm_iload_n (pc := 43) G hb (by decide +kernel : decode cX8_setConflict 43 = .ok (.iload_n 1, 1)) rfl ?_
  refine sm_iload_n (pc := 44) G hb (by decide +kernel : decode cX8_setConflict 44 = .ok (.iload_n 2, 1)) rfl ?_
  refine sm_mono (cav_sub gI_sub) (sm_callV (pc := 45) (N := 11) (T := TX2) (C := RX2) G hb ho hy he hE.1 3 [2, 3, 4, 5, 6, 7, 8, 9, 10] (kX2_inConflict hE N) (gCo_of (by decide +kernel)) (by rw [hR]; exact ⟨by decide, by decide⟩) rfl rfl (by decide +kernel) gw4_35 gw2_226 gw2_227 gw1_3 gw2_228 (by decide +kernel : decode cX8_setConflict 45 = .ok (.invokevirtual 136, 3)) ?_)
  refine sm_istore (pc := 48) G hb (by decide +kernel : decode cX8_setConflict 48 = .ok (.istore 4, 2)) ?_
  refine sm_aload_n (pc := 50) G hb (by decide +kernel : decode cX8_setConflict 50 = .ok (.aload_n 0, 1)) rfl ?_
  refine sm_get (pc := 51) (ci := 8) (j := 0) (N := 8) (T := TX8) G hb ho hy rfl (by decide) gin_8 gw2_100 (by decide +kernel : decode cX8_setConflict 51 = .ok (.getfield 12, 3)) ?_
  refine sm_get (pc := 54) (ci := 7) (j := 0) (N := 4) (T := TX7) G hb ho hy rfl (by decide) gin_7 gw1_180 (by decide +kernel : decode cX8_setConflict 54 = .ok (.getfield 50, 3)) ?_
  refine sm_iload_n (pc := 57) G hb (by decide +kernel : decode cX8_setConflict 57 = .ok (.iload_n 1, 1)) rfl ?_
  refine sm_iload_n (pc := 58) G hb (by decide +kernel : decode cX8_setConflict 58 = .ok (.iload_n 2, 1)) rfl ?_
  refine sm_iload_n (pc := 59) G hb (by decide +kernel : decode cX8_setConflict 59 = .ok (.iload_n 3, 1)) rfl ?_
  refine sm_mono (cav_sub gV_sub) (sm_callV (pc := 60) (N := 11) (T := TX2) (C := RX2) G hb ho hy he hE.1 4 [2, 3, 4, 5, 6, 7, 8, 9, 10] (kX2_putConflict hE N) (gCo_of (by decide +kernel)) (by rw [hR]; exact ⟨by decide, by decide⟩) rfl rfl (by decide +kernel) gw4_36 gw2_230 gw2_231 gw1_3 gw2_232 (by decide +kernel : decode cX8_setConflict 60 = .ok (.invokevirtual 140, 3)) ?_)
  refine sm_iload (pc := 63) G hb (by decide +kernel : decode cX8_setConflict 63 = .ok (.iload 4, 2)) ?_
  exact sm_zret (pc := 65) G hb (by decide +kernel : decode cX8_setConflict 65 = .ok (.ireturn, 1)) hr
set_option maxRecDepth 100000 in
set_option maxHeartbeats 4000000 in
theorem fX8_setConflict_s0 {γ : gG} {cs ss : Nat} {ε : gE5} (N : Nat) (G : gOK γ) (hb : gcc γ = cX8_setConflict) (ho : gow γ = RX8) (hy : gly γ = gyX) (hR : grm γ = { frames := 7, cells := 3, slots := 18, locals := 113 }) (he : genv γ = ε) (hr : grt γ = (some .boolean)) (hE : gEnv ε) (hc9 : cs + 3 ≤ 3 ∧ ss + 18 ≤ 18) : gSm γ cs ss 0 (fX8_setConflict_k0 N) := by
  unfold fX8_setConflict_k0
  refine sm_aload_n (pc := 0) G hb (by decide +kernel : decode cX8_setConflict 0 = .ok (.aload_n 0, 1)) rfl ?_
  refine sm_iload_n (pc := 1) G hb (by decide +kernel : decode cX8_setConflict 1 = .ok (.iload_n 1, 1)) rfl ?_
  refine sm_mono (xcav_sub gXV_sub) (sm_xcallV (pc := 2) (N := 8) (T := TX8) (C := RX8) G hb ho hy he hE.1 2 [0, 1, 2, 3, 4, 5, 6, 7, 8, 9, 10, 11, 12, 13, 14, 15, 16, 17, 18, 19, 20, 21, 22, 23, 24, 25, 26, 27, 28, 29, 30, 31, 32, 33, 34, 35, 36, 37, 38, 39, 40, 41, 42, 43, 44, 45, 46, 47, 48, 49, 50, 51, 52, 53, 54, 55, 56, 57, 58, 59, 60, 61, 62, 63, 64, 65, 66, 67, 68, 69, 70, 71, 72, 73, 74, 75, 76, 77, 78, 79, 80, 81, 82, 83, 84, 85, 86, 87, 88, 89, 90, 91, 92, 93, 94, 95, 96, 97, 98, 99, 100, 101, 102, 103, 104, 105, 106, 107, 108, 109, 110, 111, 112, 113, 114, 115, 116, 117, 118, 119, 120, 121, 122, 123, 124, 125, 126, 127, 128, 129, 130, 131, 132, 133, 134, 135, 136, 137, 138, 139, 140, 141, 142, 143, 144, 145, 146, 147, 148, 149, 150, 151, 152, 153, 154, 155, 156, 157, 158, 159, 160, 161, 162, 163, 164, 165, 166, 167, 168, 169, 170, 171, 172, 173, 174, 175, 176, 177, 178, 179, 180, 181, 182, 183, 184, 185, 186, 187, 188, 189, 190, 191, 192, 193, 194, 195, 196, 197, 198, 199, 200, 201, 202, 203] (kX8_checkLink hE N) (gCo_of (by decide +kernel)) (by rw [hR]; exact ⟨by decide, by decide⟩) (by rw [hR]; exact ⟨by show _ ≤ 3; omega, by show _ ≤ 18; omega⟩) rfl rfl (by decide +kernel) gw4_22 gw4_24 gw0_20 gw1_1 gw4_25 (by decide +kernel : decode cX8_setConflict 2 = .ok (.invokevirtual 127, 3)) ?_)
  refine sm_aload_n (pc := 5) G hb (by decide +kernel : decode cX8_setConflict 5 = .ok (.aload_n 0, 1)) rfl ?_
  refine sm_iload_n (pc := 6) G hb (by decide +kernel : decode cX8_setConflict 6 = .ok (.iload_n 2, 1)) rfl ?_
  refine sm_mono (xcav_sub gXV_sub) (sm_xcallV (pc := 7) (N := 8) (T := TX8) (C := RX8) G hb ho hy he hE.1 2 [0, 1, 2, 3, 4, 5, 6, 7, 8, 9, 10, 11, 12, 13, 14, 15, 16, 17, 18, 19, 20, 21, 22, 23, 24, 25, 26, 27, 28, 29, 30, 31, 32, 33, 34, 35, 36, 37, 38, 39, 40, 41, 42, 43, 44, 45, 46, 47, 48, 49, 50, 51, 52, 53, 54, 55, 56, 57, 58, 59, 60, 61, 62, 63, 64, 65, 66, 67, 68, 69, 70, 71, 72, 73, 74, 75, 76, 77, 78, 79, 80, 81, 82, 83, 84, 85, 86, 87, 88, 89, 90, 91, 92, 93, 94, 95, 96, 97, 98, 99, 100, 101, 102, 103, 104, 105, 106, 107, 108, 109, 110, 111, 112, 113, 114, 115, 116, 117, 118, 119, 120, 121, 122, 123, 124, 125, 126, 127, 128, 129, 130, 131, 132, 133, 134, 135, 136, 137, 138, 139, 140, 141, 142, 143, 144, 145, 146, 147, 148, 149, 150, 151, 152, 153, 154, 155, 156, 157, 158, 159, 160, 161, 162, 163, 164, 165, 166, 167, 168, 169, 170, 171, 172, 173, 174, 175, 176, 177, 178, 179, 180, 181, 182, 183, 184, 185, 186, 187, 188, 189, 190, 191, 192, 193, 194, 195, 196, 197, 198, 199, 200, 201, 202, 203] (kX8_checkLink hE N) (gCo_of (by decide +kernel)) (by rw [hR]; exact ⟨by decide, by decide⟩) (by rw [hR]; exact ⟨by show _ ≤ 3; omega, by show _ ≤ 18; omega⟩) rfl rfl (by decide +kernel) gw4_22 gw4_24 gw0_20 gw1_1 gw4_25 (by decide +kernel : decode cX8_setConflict 7 = .ok (.invokevirtual 127, 3)) ?_)
  refine sm_iload_n (pc := 10) G hb (by decide +kernel : decode cX8_setConflict 10 = .ok (.iload_n 1, 1)) rfl ?_
  refine sm_iload_n (pc := 11) G hb (by decide +kernel : decode cX8_setConflict 11 = .ok (.iload_n 2, 1)) rfl ?_
  refine sm_icmp_ne (pc := 12) (tgt := 25) G hb (by decide +kernel : decode cX8_setConflict 12 = .ok (.if_icmp .ne 13, 3)) (by decide) ?_ ?_
  · skip
    refine sm_aload_n (pc := 25) G hb (by decide +kernel : decode cX8_setConflict 25 = .ok (.aload_n 0, 1)) rfl ?_
    refine sm_get (pc := 26) (ci := 8) (j := 3) (N := 8) (T := TX8) G hb ho hy rfl (by decide) gin_8 gw2_103 (by decide +kernel : decode cX8_setConflict 26 = .ok (.getfield 25, 3)) ?_
    refine sm_aload_n (pc := 29) G hb (by decide +kernel : decode cX8_setConflict 29 = .ok (.aload_n 0, 1)) rfl ?_
    refine sm_get (pc := 30) (ci := 8) (j := 0) (N := 8) (T := TX8) G hb ho hy rfl (by decide) gin_8 gw2_100 (by decide +kernel : decode cX8_setConflict 30 = .ok (.getfield 12, 3)) ?_
    refine sm_mono (cav_sub gV_sub) (sm_callV (pc := 33) (N := 2) (T := TX1) (C := RX1) G hb ho hy he hE.1 2 [61, 62, 63, 64, 65, 66, 67, 68, 69, 70, 71, 72, 73, 74, 75, 76, 77, 78, 79, 80, 81, 82, 83, 84, 85, 86, 87, 88, 89, 90, 91, 92, 93, 94, 95, 96, 97, 98, 99, 100, 101, 102, 103, 104, 105, 106, 107, 108, 109, 110, 111, 112, 113, 114, 115, 116, 117, 118, 119, 120, 121, 122, 123, 124, 125, 126, 127, 128, 129, 130, 131, 132, 133, 134, 135, 136, 137, 138, 139, 140, 141, 142, 143, 144, 145, 146, 147, 148, 149, 150, 151, 152, 153, 154, 155, 156, 157, 158, 159, 160, 161, 162, 163, 164, 165, 166, 167, 168, 169, 170, 171, 172, 173, 174, 175, 176, 177, 178, 179, 180, 181, 182, 1, 2, 3, 4, 5, 6, 7, 8, 9, 10, 11, 12, 13, 14, 15, 16, 17, 18, 19, 20] (kX1_remember hE N) (gCo_of (by decide +kernel)) (by rw [hR]; exact ⟨by decide, by decide⟩) rfl rfl (by decide +kernel) gw3_32 gw3_33 gw3_34 gw1_5 gw3_35 (by decide +kernel : decode cX8_setConflict 33 = .ok (.invokevirtual 123, 3)) ?_)
    refine sm_mask ?_
    exact fX8_setConflict_s36 N G hb ho hy hR he hr hE (by omega)
  · skip
    exact sm_throw (pc := 15) (i := 307) (text := "a link is in no conflict with itself") G hb ho he hE gx_IAE (List.mem_of_getElem? (i := 33) rfl) (by rw [hR]; exact ⟨by decide, by decide⟩) (by rw [hR]; exact ⟨by show _ ≤ 3; omega, by show _ ≤ 18; omega⟩) (by decide +kernel : decode cX8_setConflict 15 = .ok (.new 93, 3)) (by decide +kernel : decode cX8_setConflict 18 = .ok (.dup, 1)) (by decide +kernel : decode cX8_setConflict 19 = .ok (.ldc 134, 2)) (by decide +kernel : decode cX8_setConflict 21 = .ok (.invokespecial 97, 3)) (by decide +kernel : decode cX8_setConflict 24 = .ok (.athrow, 1))
theorem kX8_setConflict {ε : gE5} (hE : gEnv ε) (N : Nat) : gCtrX ε yX8_setConflict cX8_setConflict 5 (some .boolean) 7 113 3 18 gyX (fX8_setConflict N) :=
  gCtrX_of hE.1 (by decide) (fun γ G hb ho hy hR he hr => fX8_setConflict_s0 N G hb ho hy hR he hr hE (by omega))

set_option maxRecDepth 100000 in
set_option maxHeartbeats 4000000 in
theorem fX8_addFlow_s23 {γ : gG} {cs ss : Nat} {ε : gE5} (N : Nat) (G : gOK γ) (hb : gcc γ = cX8_addFlow) (ho : gow γ = RX8) (hy : gly γ = gyX) (hR : grm γ = { frames := 8, cells := 6, slots := 36, locals := 133 }) (he : genv γ = ε) (hr : grt γ = (some .int)) (hE : gEnv ε) (hc9 : cs + 1 ≤ 6 ∧ ss + 6 ≤ 36) : gSm γ cs ss 23 (fX8_addFlow_k23 N) := by
  unfold fX8_addFlow_k23
  refine sm_aload_n (pc := 23) G hb (by decide +kernel : decode cX8_addFlow 23 = .ok (.aload_n 0, 1)) rfl ?_
  refine sm_get (pc := 24) (ci := 8) (j := 0) (N := 8) (T := TX8) G hb ho hy rfl (by decide) gin_8 gw2_100 (by decide +kernel : decode cX8_addFlow 24 = .ok (.getfield 12, 3)) ?_
  refine sm_get (pc := 27) (ci := 7) (j := 0) (N := 4) (T := TX7) G hb ho hy rfl (by decide) gin_7 gw1_180 (by decide +kernel : decode cX8_addFlow 27 = .ok (.getfield 50, 3)) ?_
  refine sm_get (pc := 30) (ci := 2) (j := 2) (N := 11) (T := TX2) G hb ho hy rfl (by decide) gin_2 gw1_58 (by decide +kernel : decode cX8_addFlow 30 = .ok (.getfield 144, 3)) ?_
  refine sm_bipush (pc := 33) G hb (by decide +kernel : decode cX8_addFlow 33 = .ok (.bipush 6, 2)) (by decide) ?_
  refine sm_icmp_lt (pc := 35) (tgt := 48) G hb (by decide +kernel : decode cX8_addFlow 35 = .ok (.if_icmp .lt 13, 3)) (by decide) ?_ ?_
  · skip
    refine sm_aload_n (pc := 48) G hb (by decide +kernel : decode cX8_addFlow 48 = .ok (.aload_n 0, 1)) rfl ?_
    refine sm_get (pc := 49) (ci := 8) (j := 3) (N := 8) (T := TX8) G hb ho hy rfl (by decide) gin_8 gw2_103 (by decide +kernel : decode cX8_addFlow 49 = .ok (.getfield 25, 3)) ?_
    refine sm_aload_n (pc := 52) G hb (by decide +kernel : decode cX8_addFlow 52 = .ok (.aload_n 0, 1)) rfl ?_
    refine sm_get (pc := 53) (ci := 8) (j := 0) (N := 8) (T := TX8) G hb ho hy rfl (by decide) gin_8 gw2_100 (by decide +kernel : decode cX8_addFlow 53 = .ok (.getfield 12, 3)) ?_
    refine sm_mono (cav_sub gV_sub) (sm_callV (pc := 56) (N := 2) (T := TX1) (C := RX1) G hb ho hy he hE.1 2 [61, 62, 63, 64, 65, 66, 67, 68, 69, 70, 71, 72, 73, 74, 75, 76, 77, 78, 79, 80, 81, 82, 83, 84, 85, 86, 87, 88, 89, 90, 91, 92, 93, 94, 95, 96, 97, 98, 99, 100, 101, 102, 103, 104, 105, 106, 107, 108, 109, 110, 111, 112, 113, 114, 115, 116, 117, 118, 119, 120, 121, 122, 123, 124, 125, 126, 127, 128, 129, 130, 131, 132, 133, 134, 135, 136, 137, 138, 139, 140, 141, 142, 143, 144, 145, 146, 147, 148, 149, 150, 151, 152, 153, 154, 155, 156, 157, 158, 159, 160, 161, 162, 163, 164, 165, 166, 167, 168, 169, 170, 171, 172, 173, 174, 175, 176, 177, 178, 179, 180, 181, 182, 1, 2, 3, 4, 5, 6, 7, 8, 9, 10, 11, 12, 13, 14, 15, 16, 17, 18, 19, 20] (kX1_remember hE N) (gCo_of (by decide +kernel)) (by rw [hR]; exact ⟨by decide, by decide⟩) rfl rfl (by decide +kernel) gw3_32 gw3_33 gw3_34 gw1_5 gw3_35 (by decide +kernel : decode cX8_addFlow 56 = .ok (.invokevirtual 123, 3)) ?_)
    refine sm_aload_n (pc := 59) G hb (by decide +kernel : decode cX8_addFlow 59 = .ok (.aload_n 0, 1)) rfl ?_
    refine sm_get (pc := 60) (ci := 8) (j := 0) (N := 8) (T := TX8) G hb ho hy rfl (by decide) gin_8 gw2_100 (by decide +kernel : decode cX8_addFlow 60 = .ok (.getfield 12, 3)) ?_
    refine sm_get (pc := 63) (ci := 7) (j := 0) (N := 4) (T := TX7) G hb ho hy rfl (by decide) gin_7 gw1_180 (by decide +kernel : decode cX8_addFlow 63 = .ok (.getfield 50, 3)) ?_
    refine sm_iload_n (pc := 66) G hb (by decide +kernel : decode cX8_addFlow 66 = .ok (.iload_n 1, 1)) rfl ?_
    refine sm_iload_n (pc := 67) G hb (by decide +kernel : decode cX8_addFlow 67 = .ok (.iload_n 2, 1)) rfl ?_
    refine sm_iload_n (pc := 68) G hb (by decide +kernel : decode cX8_addFlow 68 = .ok (.iload_n 3, 1)) rfl ?_
    refine sm_iload (pc := 69) G hb (by decide +kernel : decode cX8_addFlow 69 = .ok (.iload 4, 2)) ?_
    refine sm_mono (cav_sub gV_sub) (sm_callV (pc := 71) (N := 11) (T := TX2) (C := RX2) G hb ho hy he hE.1 5 [2, 3, 4, 5, 6, 7, 8, 9, 10] (kX2_putFlow hE N) (gCo_of (by decide +kernel)) (by rw [hR]; exact ⟨by decide, by decide⟩) rfl rfl (by decide +kernel) gw2_92 gw2_93 gw2_94 gw1_3 gw2_95 (by decide +kernel : decode cX8_addFlow 71 = .ok (.invokevirtual 64, 3)) ?_)
    refine sm_aload_n (pc := 74) G hb (by decide +kernel : decode cX8_addFlow 74 = .ok (.aload_n 0, 1)) rfl ?_
    refine sm_get (pc := 75) (ci := 8) (j := 0) (N := 8) (T := TX8) G hb ho hy rfl (by decide) gin_8 gw2_100 (by decide +kernel : decode cX8_addFlow 75 = .ok (.getfield 12, 3)) ?_
    refine sm_get (pc := 78) (ci := 7) (j := 0) (N := 4) (T := TX7) G hb ho hy rfl (by decide) gin_7 gw1_180 (by decide +kernel : decode cX8_addFlow 78 = .ok (.getfield 50, 3)) ?_
    refine sm_get (pc := 81) (ci := 2) (j := 2) (N := 11) (T := TX2) G hb ho hy rfl (by decide) gin_2 gw1_58 (by decide +kernel : decode cX8_addFlow 81 = .ok (.getfield 144, 3)) ?_
    refine sm_iconst (pc := 84) G hb (by decide +kernel : decode cX8_addFlow 84 = .ok (.iconst 1, 1)) (by decide) ?_
    refine sm_isub (pc := 85) G hb (by decide +kernel : decode cX8_addFlow 85 = .ok (.isub, 1)) ?_
    exact sm_iret (pc := 86) G hb (by decide +kernel : decode cX8_addFlow 86 = .ok (.ireturn, 1)) hr
  · skip
    exact sm_throw (pc := 38) (i := 308) (text := "there are too many flows") G hb ho he hE gx_ISE (List.mem_of_getElem? (i := 34) rfl) (by rw [hR]; exact ⟨by decide, by decide⟩) (by rw [hR]; exact ⟨by show _ ≤ 6; omega, by show _ ≤ 36; omega⟩) (by decide +kernel : decode cX8_addFlow 38 = .ok (.new 76, 3)) (by decide +kernel : decode cX8_addFlow 41 = .ok (.dup, 1)) (by decide +kernel : decode cX8_addFlow 42 = .ok (.ldc 147, 2)) (by decide +kernel : decode cX8_addFlow 44 = .ok (.invokespecial 80, 3)) (by decide +kernel : decode cX8_addFlow 47 = .ok (.athrow, 1))
set_option maxRecDepth 100000 in
set_option maxHeartbeats 4000000 in
theorem fX8_addFlow_s0 {γ : gG} {cs ss : Nat} {ε : gE5} (N : Nat) (G : gOK γ) (hb : gcc γ = cX8_addFlow) (ho : gow γ = RX8) (hy : gly γ = gyX) (hR : grm γ = { frames := 8, cells := 6, slots := 36, locals := 133 }) (he : genv γ = ε) (hr : grt γ = (some .int)) (hE : gEnv ε) (hc9 : cs + 6 ≤ 6 ∧ ss + 36 ≤ 36) : gSm γ cs ss 0 (fX8_addFlow_k0 N) := by
  unfold fX8_addFlow_k0
  refine sm_aload_n (pc := 0) G hb (by decide +kernel : decode cX8_addFlow 0 = .ok (.aload_n 0, 1)) rfl ?_
  refine sm_iload_n (pc := 1) G hb (by decide +kernel : decode cX8_addFlow 1 = .ok (.iload_n 1, 1)) rfl ?_
  refine sm_iload_n (pc := 2) G hb (by decide +kernel : decode cX8_addFlow 2 = .ok (.iload_n 2, 1)) rfl ?_
  refine sm_mono (xcav_sub gXV_sub) (sm_xcallV (pc := 3) (N := 8) (T := TX8) (C := RX8) G hb ho hy he hE.1 3 [0, 1, 2, 3, 4, 5, 6, 7, 8, 9, 10, 11, 12, 13, 14, 15, 16, 17, 18, 19, 20, 21, 22, 23, 24, 25, 26, 27, 28, 29, 30, 31, 32, 33, 34, 35, 36, 37, 38, 39, 40, 41, 42, 43, 44, 45, 46, 47, 48, 49, 50, 51, 52, 53, 54, 55, 56, 57, 58, 59, 60, 61, 62, 63, 64, 65, 66, 67, 68, 69, 70, 71, 72, 73, 74, 75, 76, 77, 78, 79, 80, 81, 82, 83, 84, 85, 86, 87, 88, 89, 90, 91, 92, 93, 94, 95, 96, 97, 98, 99, 100, 101, 102, 103, 104, 105, 106, 107, 108, 109, 110, 111, 112, 113, 114, 115, 116, 117, 118, 119, 120, 121, 122, 123, 124, 125, 126, 127, 128, 129, 130, 131, 132, 133, 134, 135, 136, 137, 138, 139, 140, 141, 142, 143, 144, 145, 146, 147, 148, 149, 150, 151, 152, 153, 154, 155, 156, 157, 158, 159, 160, 161, 162, 163, 164, 165, 166, 167, 168, 169, 170, 171, 172, 173, 174, 175, 176, 177, 178, 179, 180, 181, 182, 183, 184, 185, 186, 187, 188, 189, 190, 191, 192, 193, 194, 195, 196, 197, 198, 199, 200, 201, 202, 203] (kX8_checkTwoNodes hE N) (gCo_of (by decide +kernel)) (by rw [hR]; exact ⟨by decide, by decide⟩) (by rw [hR]; exact ⟨by show _ ≤ 6; omega, by show _ ≤ 36; omega⟩) rfl rfl (by decide +kernel) gw3_228 gw3_230 gw0_18 gw1_1 gw3_231 (by decide +kernel : decode cX8_addFlow 3 = .ok (.invokevirtual 113, 3)) ?_)
  refine sm_iload_n (pc := 6) G hb (by decide +kernel : decode cX8_addFlow 6 = .ok (.iload_n 3, 1)) rfl ?_
  refine sm_iconst (pc := 7) G hb (by decide +kernel : decode cX8_addFlow 7 = .ok (.iconst 0, 1)) (by decide) ?_
  refine sm_sipush (pc := 8) G hb (by decide +kernel : decode cX8_addFlow 8 = .ok (.sipush 300, 3)) (by decide) ?_
  refine sm_mono (xca_sub gXV_sub) (sm_xcallS (pc := 11) G hb ho hy he hE.1 3 [] (kX8_checkRange hE N) (gCo_of (by decide +kernel)) (by rw [hR]; exact ⟨by decide, by decide⟩) (by rw [hR]; exact ⟨by show _ ≤ 6; omega, by show _ ≤ 36; omega⟩) (by decide +kernel) gw3_184 gw3_185 gw1_1 gw3_186 (by decide +kernel : decode cX8_addFlow 11 = .ok (.invokestatic 86, 3)) ?_)
  refine sm_iload (pc := 14) G hb (by decide +kernel : decode cX8_addFlow 14 = .ok (.iload 4, 2)) ?_
  refine sm_iconst (pc := 16) G hb (by decide +kernel : decode cX8_addFlow 16 = .ok (.iconst 0, 1)) (by decide) ?_
  refine sm_sipush (pc := 17) G hb (by decide +kernel : decode cX8_addFlow 17 = .ok (.sipush 200, 3)) (by decide) ?_
  refine sm_mono (xca_sub gXV_sub) (sm_xcallS (pc := 20) G hb ho hy he hE.1 3 [] (kX8_checkRange hE N) (gCo_of (by decide +kernel)) (by rw [hR]; exact ⟨by decide, by decide⟩) (by rw [hR]; exact ⟨by show _ ≤ 6; omega, by show _ ≤ 36; omega⟩) (by decide +kernel) gw3_184 gw3_185 gw1_1 gw3_186 (by decide +kernel : decode cX8_addFlow 20 = .ok (.invokestatic 86, 3)) ?_)
  refine sm_mask ?_
  exact fX8_addFlow_s23 N G hb ho hy hR he hr hE (by omega)
theorem kX8_addFlow {ε : gE5} (hE : gEnv ε) (N : Nat) : gCtrX ε yX8_addFlow cX8_addFlow 5 (some .int) 8 133 6 36 gyX (fX8_addFlow N) :=
  gCtrX_of hE.1 (by decide) (fun γ G hb ho hy hR he hr => fX8_addFlow_s0 N G hb ho hy hR he hr hE (by omega))

set_option maxRecDepth 100000 in
set_option maxHeartbeats 4000000 in
theorem fX8_checkFlow_s0 {γ : gG} {cs ss : Nat} {ε : gE5} (N : Nat) (G : gOK γ) (hb : gcc γ = cX8_checkFlow) (ho : gow γ = RX8) (hy : gly γ = gyX) (hR : grm γ = { frames := 6, cells := 1, slots := 6, locals := 90 }) (he : genv γ = ε) (hr : grt γ = none) (hE : gEnv ε) (hc9 : cs + 1 ≤ 1 ∧ ss + 6 ≤ 6) : gSm γ cs ss 0 (fX8_checkFlow_k0 N) := by
  unfold fX8_checkFlow_k0
  refine sm_iload_n (pc := 0) G hb (by decide +kernel : decode cX8_checkFlow 0 = .ok (.iload_n 1, 1)) rfl ?_
  refine sm_if_lt (pc := 1) (tgt := 18) G hb (by decide +kernel : decode cX8_checkFlow 1 = .ok (.ifCond .lt 17, 3)) (by decide) ?_ ?_
  · skip
    exact sm_throwW (pc := 18) (i := 309) (text := "there is no such flow") G hb ho he hE gx_IOE (List.mem_of_getElem? (i := 35) rfl) (by rw [hR]; exact ⟨by decide, by decide⟩) (by rw [hR]; exact ⟨by show _ ≤ 1; omega, by show _ ≤ 6; omega⟩) (by decide +kernel : decode cX8_checkFlow 18 = .ok (.new 336, 3)) (by decide +kernel : decode cX8_checkFlow 21 = .ok (.dup, 1)) (by decide +kernel : decode cX8_checkFlow 22 = .ok (.ldc_w 345, 3)) (by decide +kernel : decode cX8_checkFlow 25 = .ok (.invokespecial 340, 3)) (by decide +kernel : decode cX8_checkFlow 28 = .ok (.athrow, 1))
  · skip
    refine sm_iload_n (pc := 4) G hb (by decide +kernel : decode cX8_checkFlow 4 = .ok (.iload_n 1, 1)) rfl ?_
    refine sm_aload_n (pc := 5) G hb (by decide +kernel : decode cX8_checkFlow 5 = .ok (.aload_n 0, 1)) rfl ?_
    refine sm_get (pc := 6) (ci := 8) (j := 0) (N := 8) (T := TX8) G hb ho hy rfl (by decide) gin_8 gw2_100 (by decide +kernel : decode cX8_checkFlow 6 = .ok (.getfield 12, 3)) ?_
    refine sm_get (pc := 9) (ci := 7) (j := 0) (N := 4) (T := TX7) G hb ho hy rfl (by decide) gin_7 gw1_180 (by decide +kernel : decode cX8_checkFlow 9 = .ok (.getfield 50, 3)) ?_
    refine sm_get (pc := 12) (ci := 2) (j := 2) (N := 11) (T := TX2) G hb ho hy rfl (by decide) gin_2 gw1_58 (by decide +kernel : decode cX8_checkFlow 12 = .ok (.getfield 144, 3)) ?_
    refine sm_icmp_lt (pc := 15) (tgt := 29) G hb (by decide +kernel : decode cX8_checkFlow 15 = .ok (.if_icmp .lt 14, 3)) (by decide) ?_ ?_
    · skip
      exact sm_vret (pc := 29) G hb (by decide +kernel : decode cX8_checkFlow 29 = .ok (.return_, 1)) hr
    · skip
      exact sm_throwW (pc := 18) (i := 309) (text := "there is no such flow") G hb ho he hE gx_IOE (List.mem_of_getElem? (i := 35) rfl) (by rw [hR]; exact ⟨by decide, by decide⟩) (by rw [hR]; exact ⟨by show _ ≤ 1; omega, by show _ ≤ 6; omega⟩) (by decide +kernel : decode cX8_checkFlow 18 = .ok (.new 336, 3)) (by decide +kernel : decode cX8_checkFlow 21 = .ok (.dup, 1)) (by decide +kernel : decode cX8_checkFlow 22 = .ok (.ldc_w 345, 3)) (by decide +kernel : decode cX8_checkFlow 25 = .ok (.invokespecial 340, 3)) (by decide +kernel : decode cX8_checkFlow 28 = .ok (.athrow, 1))
theorem kX8_checkFlow {ε : gE5} (hE : gEnv ε) (N : Nat) : gCtrX ε yX8_checkFlow cX8_checkFlow 2 none 6 90 1 6 gyX (fX8_checkFlow N) :=
  gCtrX_of hE.1 (by decide) (fun γ G hb ho hy hR he hr => fX8_checkFlow_s0 N G hb ho hy hR he hr hE (by omega))

set_option maxRecDepth 100000 in
set_option maxHeartbeats 4000000 in
theorem fX8_replaceNumber_s0 {γ : gG} {cs ss : Nat} {ε : gE5} (N : Nat) (G : gOK γ) (hb : gcc γ = cX8_replaceNumber) (ho : gow γ = RX8) (hy : gly γ = gyX) (hR : grm γ = { frames := 5, cells := 0, slots := 0, locals := 113 }) (he : genv γ = ε) (hr : grt γ = (some .int)) (hE : gEnv ε) : gSm γ cs ss 0 (fX8_replaceNumber_k0 N) := by
  unfold fX8_replaceNumber_k0
  refine sm_aload_n (pc := 0) G hb (by decide +kernel : decode cX8_replaceNumber 0 = .ok (.aload_n 0, 1)) rfl ?_
  refine sm_get (pc := 1) (ci := 8) (j := 3) (N := 8) (T := TX8) G hb ho hy rfl (by decide) gin_8 gw2_103 (by decide +kernel : decode cX8_replaceNumber 1 = .ok (.getfield 25, 3)) ?_
  refine sm_aload_n (pc := 4) G hb (by decide +kernel : decode cX8_replaceNumber 4 = .ok (.aload_n 0, 1)) rfl ?_
  refine sm_get (pc := 5) (ci := 8) (j := 0) (N := 8) (T := TX8) G hb ho hy rfl (by decide) gin_8 gw2_100 (by decide +kernel : decode cX8_replaceNumber 5 = .ok (.getfield 12, 3)) ?_
  refine sm_mono (cav_sub gV_sub) (sm_callV (pc := 8) (N := 2) (T := TX1) (C := RX1) G hb ho hy he hE.1 2 [61, 62, 63, 64, 65, 66, 67, 68, 69, 70, 71, 72, 73, 74, 75, 76, 77, 78, 79, 80, 81, 82, 83, 84, 85, 86, 87, 88, 89, 90, 91, 92, 93, 94, 95, 96, 97, 98, 99, 100, 101, 102, 103, 104, 105, 106, 107, 108, 109, 110, 111, 112, 113, 114, 115, 116, 117, 118, 119, 120, 121, 122, 123, 124, 125, 126, 127, 128, 129, 130, 131, 132, 133, 134, 135, 136, 137, 138, 139, 140, 141, 142, 143, 144, 145, 146, 147, 148, 149, 150, 151, 152, 153, 154, 155, 156, 157, 158, 159, 160, 161, 162, 163, 164, 165, 166, 167, 168, 169, 170, 171, 172, 173, 174, 175, 176, 177, 178, 179, 180, 181, 182, 1, 2, 3, 4, 5, 6, 7, 8, 9, 10, 11, 12, 13, 14, 15, 16, 17, 18, 19, 20] (kX1_remember hE N) (gCo_of (by decide +kernel)) (by rw [hR]; exact ⟨by decide, by decide⟩) rfl rfl (by decide +kernel) gw3_32 gw3_33 gw3_34 gw1_5 gw3_35 (by decide +kernel : decode cX8_replaceNumber 8 = .ok (.invokevirtual 123, 3)) ?_)
  refine sm_aload_n (pc := 11) G hb (by decide +kernel : decode cX8_replaceNumber 11 = .ok (.aload_n 0, 1)) rfl ?_
  refine sm_get (pc := 12) (ci := 8) (j := 0) (N := 8) (T := TX8) G hb ho hy rfl (by decide) gin_8 gw2_100 (by decide +kernel : decode cX8_replaceNumber 12 = .ok (.getfield 12, 3)) ?_
  refine sm_get (pc := 15) (ci := 7) (j := 0) (N := 4) (T := TX7) G hb ho hy rfl (by decide) gin_7 gw1_180 (by decide +kernel : decode cX8_replaceNumber 15 = .ok (.getfield 50, 3)) ?_
  refine sm_iload_n (pc := 18) G hb (by decide +kernel : decode cX8_replaceNumber 18 = .ok (.iload_n 1, 1)) rfl ?_
  refine sm_iload_n (pc := 19) G hb (by decide +kernel : decode cX8_replaceNumber 19 = .ok (.iload_n 2, 1)) rfl ?_
  refine sm_mono (cav_sub gI_sub) (sm_callV (pc := 20) (N := 11) (T := TX2) (C := RX2) G hb ho hy he hE.1 3 [2, 3, 4, 5, 6, 7, 8, 9, 10] (kX2_getNumber hE N) (gCo_of (by decide +kernel)) (by rw [hR]; exact ⟨by decide, by decide⟩) rfl rfl (by decide +kernel) gw3_72 gw3_73 gw3_74 gw1_3 gw3_75 (by decide +kernel : decode cX8_replaceNumber 20 = .ok (.invokevirtual 156, 3)) ?_)
  refine sm_istore (pc := 23) G hb (by decide +kernel : decode cX8_replaceNumber 23 = .ok (.istore 4, 2)) ?_
  refine sm_aload_n (pc := 25) G hb (by decide +kernel : decode cX8_replaceNumber 25 = .ok (.aload_n 0, 1)) rfl ?_
  refine sm_get (pc := 26) (ci := 8) (j := 0) (N := 8) (T := TX8) G hb ho hy rfl (by decide) gin_8 gw2_100 (by decide +kernel : decode cX8_replaceNumber 26 = .ok (.getfield 12, 3)) ?_
  refine sm_get (pc := 29) (ci := 7) (j := 0) (N := 4) (T := TX7) G hb ho hy rfl (by decide) gin_7 gw1_180 (by decide +kernel : decode cX8_replaceNumber 29 = .ok (.getfield 50, 3)) ?_
  refine sm_iload_n (pc := 32) G hb (by decide +kernel : decode cX8_replaceNumber 32 = .ok (.iload_n 1, 1)) rfl ?_
  refine sm_iload_n (pc := 33) G hb (by decide +kernel : decode cX8_replaceNumber 33 = .ok (.iload_n 2, 1)) rfl ?_
  refine sm_iload_n (pc := 34) G hb (by decide +kernel : decode cX8_replaceNumber 34 = .ok (.iload_n 3, 1)) rfl ?_
  refine sm_mono (cav_sub gV_sub) (sm_callV (pc := 35) (N := 11) (T := TX2) (C := RX2) G hb ho hy he hE.1 4 [2, 3, 4, 5, 6, 7, 8, 9, 10] (kX2_putNumber hE N) (gCo_of (by decide +kernel)) (by rw [hR]; exact ⟨by decide, by decide⟩) rfl rfl (by decide +kernel) gw4_61 gw2_97 gw2_98 gw1_3 gw2_99 (by decide +kernel : decode cX8_replaceNumber 35 = .ok (.invokevirtual 159, 3)) ?_)
  refine sm_iload (pc := 38) G hb (by decide +kernel : decode cX8_replaceNumber 38 = .ok (.iload 4, 2)) ?_
  exact sm_iret (pc := 40) G hb (by decide +kernel : decode cX8_replaceNumber 40 = .ok (.ireturn, 1)) hr
theorem kX8_replaceNumber {ε : gE5} (hE : gEnv ε) (N : Nat) : gCtr ε yX8_replaceNumber cX8_replaceNumber 5 (some .int) 5 113 gyX (fX8_replaceNumber N) :=
  gCtr_of hE.1 (by decide) (fun γ G hb ho hy hR he hr => fX8_replaceNumber_s0 N G hb ho hy hR he hr hE)
