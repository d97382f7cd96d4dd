set_option maxRecDepth 100000 in
set_option maxHeartbeats 4000000 in
theorem fJP_checkIndex_s0 {γ : gG} {cs ss : Nat} {ε : gE5} (N : Nat) (G : gOK γ) (hb : gcc γ = prog_30_method_11_code) (ho : gow γ = "jdk/internal/util/Preconditions") (hy : gly γ = gy0) (hR : grm γ = { frames := 0, cells := 0, slots := 0, locals := 0 }) (he : genv γ = ε) (hr : grt γ = (some .int)) (hE : gEnv ε) : gSm γ cs ss 0 (fJP_checkIndex_k0 N) := by
  unfold fJP_checkIndex_k0
  refine sm_iload_n (pc := 0) G hb (by decide +kernel : decode prog_30_method_11_code 0 = .ok (.iload_n 0, 1)) rfl ?_
  refine sm_if_lt (pc := 1) (tgt := 9) G hb (by decide +kernel : decode prog_30_method_11_code 1 = .ok (.ifCond .lt 8, 3)) (by decide) ?_ ?_
  · skip
    exact sm_none
  · skip
    refine sm_iload_n (pc := 4) G hb (by decide +kernel : decode prog_30_method_11_code 4 = .ok (.iload_n 0, 1)) rfl ?_
    refine sm_iload_n (pc := 5) G hb (by decide +kernel : decode prog_30_method_11_code 5 = .ok (.iload_n 1, 1)) rfl ?_
    refine sm_icmp_lt (pc := 6) (tgt := 16) G hb (by decide +kernel : decode prog_30_method_11_code 6 = .ok (.if_icmp .lt 10, 3)) (by decide) ?_ ?_
    · skip
      refine sm_iload_n (pc := 16) G hb (by decide +kernel : decode prog_30_method_11_code 16 = .ok (.iload_n 0, 1)) rfl ?_
      exact sm_iret (pc := 17) G hb (by decide +kernel : decode prog_30_method_11_code 17 = .ok (.ireturn, 1)) hr
    · skip
      exact sm_none
theorem kJP_checkIndex {ε : gE5} (hE : gEnv ε) (N : Nat) : gCtr ε (⟨"jdk/internal/util/Preconditions", "checkIndex", "(IILjava/util/function/BiFunction;)I"⟩ : MethodName) prog_30_method_11_code 3 (some .int) 0 0 gy0 (fJP_checkIndex N) :=
  gCtr_of hE.1 (by decide) (fun γ G hb ho hy hR he hr => fJP_checkIndex_s0 N G hb ho hy hR he hr hE)
theorem gFchk_sub {N : Nat} : ∀ (av : List Value) (I : gM) (z : gR × gM), gFchk av I = some z → fJP_checkIndex N av I = some z := by
  intro av I z h
  unfold gFchk at h
  split at h
  · rename_i i n w
    split at h
    · rename_i hc
      obtain ⟨hc1, hc2, hc3⟩ := hc
      rw [← h]
      have hi : ¬ (gz_lt i = true) := fun z => absurd (of_decide_eq_true z) (Int32.not_lt.mpr hc2)
      have hn : gc_lt i n = true := decide_eq_true hc3
      cases w <;> first | exact (if_neg hi).trans (if_pos hn) | exact absurd (show (2 : Nat) = 1 from hc1) (by decide)
    · cases h
  · cases h

set_option maxRecDepth 100000 in
set_option maxHeartbeats 4000000 in
theorem fJS_checkIndex_s0 {γ : gG} {cs ss : Nat} {ε : gE5} (N : Nat) (G : gOK γ) (hb : gcc γ = prog_21_method_155_code) (ho : gow γ = "java/lang/String") (hy : gly γ = gy0) (hR : grm γ = { frames := 1, cells := 0, slots := 0, locals := 22 }) (he : genv γ = ε) (hr : grt γ = none) (hE : gEnv ε) : gSm γ cs ss 0 (fJS_checkIndex_k0 N) := by
  unfold fJS_checkIndex_k0
  refine sm_iload_n (pc := 0) G hb (by decide +kernel : decode prog_21_method_155_code 0 = .ok (.iload_n 0, 1)) rfl ?_
  refine sm_iload_n (pc := 1) G hb (by decide +kernel : decode prog_21_method_155_code 1 = .ok (.iload_n 1, 1)) rfl ?_
  exact sm_chk G hb ho he hE hr (gCtr_sub (kJP_checkIndex hE N) gFchk_sub) (by rw [hR]; exact ⟨by decide, by decide⟩) gw2_173 gw2_175 gw2_176 gw1_19 gw2_177 (by decide +kernel) (by decide +kernel) (by decide +kernel) (by decide +kernel)
theorem kJS_checkIndex {ε : gE5} (hE : gEnv ε) (N : Nat) : gCtr ε (⟨"java/lang/String", "checkIndex", "(II)V"⟩ : MethodName) prog_21_method_155_code 2 none 1 22 gy0 (fJS_checkIndex N) :=
  gCtr_of hE.1 (by decide) (fun γ G hb ho hy hR he hr => fJS_checkIndex_s0 N G hb ho hy hR he hr hE)

set_option maxRecDepth 100000 in
set_option maxHeartbeats 4000000 in
theorem fJS_coder_s0 {γ : gG} {cs ss : Nat} {ε : gE5} (N : Nat) (G : gOK γ) (hb : gcc γ = prog_21_method_152_code) (ho : gow γ = "java/lang/String") (hy : gly γ = gy0) (hR : grm γ = { frames := 0, cells := 0, slots := 0, locals := 0 }) (he : genv γ = ε) (hr : grt γ = (some .byte)) (hE : gEnv ε) : gSm γ cs ss 0 (fJS_coder_k0 N) := by
  unfold fJS_coder_k0
  refine sm_getsCS (pc := 0) G hb ho he hE gw2_157 (by decide +kernel : decode prog_21_method_152_code 0 = .ok (.getstatic 38, 3)) ?_
  refine sm_if_eq (pc := 3) (tgt := 13) G hb (by decide +kernel : decode prog_21_method_152_code 3 = .ok (.ifCond .eq 10, 3)) (by decide) ?_ ?_
  · skip
    refine sm_iconst (pc := 13) G hb (by decide +kernel : decode prog_21_method_152_code 13 = .ok (.iconst 1, 1)) (by decide) ?_
    exact sm_bret (pc := 14) G hb (by decide +kernel : decode prog_21_method_152_code 14 = .ok (.ireturn, 1)) hr
  · skip
    refine sm_aload_n (pc := 6) G hb (by decide +kernel : decode prog_21_method_152_code 6 = .ok (.aload_n 0, 1)) rfl ?_
    refine sm_scod (pc := 7) G hb ho he hE gw8_111 (by decide +kernel : decode prog_21_method_152_code 7 = .ok (.getfield 15, 3)) ?_
    refine sm_goto (pc := 10) (tgt := 14) G hb (by decide +kernel : decode prog_21_method_152_code 10 = .ok (.goto 4, 3)) (by decide) ?_
    exact sm_bret (pc := 14) G hb (by decide +kernel : decode prog_21_method_152_code 14 = .ok (.ireturn, 1)) hr
theorem kJS_coder {ε : gE5} (hE : gEnv ε) (N : Nat) : gCtr ε (⟨"java/lang/String", "coder", "()B"⟩ : MethodName) prog_21_method_152_code 1 (some .byte) 0 0 gy0 (fJS_coder N) :=
  gCtr_of hE.1 (by decide) (fun γ G hb ho hy hR he hr => fJS_coder_s0 N G hb ho hy hR he hr hE)

set_option maxRecDepth 100000 in
set_option maxHeartbeats 4000000 in
theorem fJS_length_s0 {γ : gG} {cs ss : Nat} {ε : gE5} (N : Nat) (G : gOK γ) (hb : gcc γ = prog_21_method_54_code) (ho : gow γ = "java/lang/String") (hy : gly γ = gy0) (hR : grm γ = { frames := 1, cells := 0, slots := 0, locals := 20 }) (he : genv γ = ε) (hr : grt γ = (some .int)) (hE : gEnv ε) : gSm γ cs ss 0 (fJS_length_k0 N) := by
  unfold fJS_length_k0
  refine sm_aload_n (pc := 0) G hb (by decide +kernel : decode prog_21_method_54_code 0 = .ok (.aload_n 0, 1)) rfl ?_
  refine sm_sval (pc := 1) G hb ho he hE gw8_110 (by decide +kernel : decode prog_21_method_54_code 1 = .ok (.getfield 9, 3)) ?_
  refine sm_elen (pc := 4) G hb he hE (by decide +kernel : decode prog_21_method_54_code 4 = .ok (.arraylength, 1)) ?_
  refine sm_aload_n (pc := 5) G hb (by decide +kernel : decode prog_21_method_54_code 5 = .ok (.aload_n 0, 1)) rfl ?_
  refine sm_mono (cae_sub gI_sub) (sm_calle (pc := 6) G hb ho he hE 1 (kJS_coder hE N) (by rw [hR]; exact ⟨by decide, by decide⟩) (by decide +kernel) gw2_153 gw2_154 gw2_155 gw1_17 gw2_156 (by decide +kernel : decode prog_21_method_54_code 6 = .ok (.invokevirtual 335, 3)) ?_)
  refine sm_ishr (pc := 9) G hb (by decide +kernel : decode prog_21_method_54_code 9 = .ok (.ishr, 1)) ?_
  exact sm_iret (pc := 10) G hb (by decide +kernel : decode prog_21_method_54_code 10 = .ok (.ireturn, 1)) hr
theorem kJS_length {ε : gE5} (hE : gEnv ε) (N : Nat) : gCtr ε (⟨"java/lang/String", "length", "()I"⟩ : MethodName) prog_21_method_54_code 1 (some .int) 1 20 gy0 (fJS_length N) :=
  gCtr_of hE.1 (by decide) (fun γ G hb ho hy hR he hr => fJS_length_s0 N G hb ho hy hR he hr hE)

set_option maxRecDepth 100000 in
set_option maxHeartbeats 4000000 in
theorem fJS_isLatin1_s0 {γ : gG} {cs ss : Nat} {ε : gE5} (N : Nat) (G : gOK γ) (hb : gcc γ = prog_21_method_154_code) (ho : gow γ = "java/lang/String") (hy : gly γ = gy0) (hR : grm γ = { frames := 0, cells := 0, slots := 0, locals := 0 }) (he : genv γ = ε) (hr : grt γ = (some .boolean)) (hE : gEnv ε) : gSm γ cs ss 0 (fJS_isLatin1_k0 N) := by
  unfold fJS_isLatin1_k0
  refine sm_getsCS (pc := 0) G hb ho he hE gw2_157 (by decide +kernel : decode prog_21_method_154_code 0 = .ok (.getstatic 38, 3)) ?_
  refine sm_if_eq (pc := 3) (tgt := 17) G hb (by decide +kernel : decode prog_21_method_154_code 3 = .ok (.ifCond .eq 14, 3)) (by decide) ?_ ?_
  · skip
    refine sm_iconst (pc := 17) G hb (by decide +kernel : decode prog_21_method_154_code 17 = .ok (.iconst 0, 1)) (by decide) ?_
    exact sm_zret (pc := 18) G hb (by decide +kernel : decode prog_21_method_154_code 18 = .ok (.ireturn, 1)) hr
  · skip
    refine sm_aload_n (pc := 6) G hb (by decide +kernel : decode prog_21_method_154_code 6 = .ok (.aload_n 0, 1)) rfl ?_
    refine sm_scod (pc := 7) G hb ho he hE gw8_111 (by decide +kernel : decode prog_21_method_154_code 7 = .ok (.getfield 15, 3)) ?_
    refine sm_if_ne (pc := 10) (tgt := 17) G hb (by decide +kernel : decode prog_21_method_154_code 10 = .ok (.ifCond .ne 7, 3)) (by decide) ?_ ?_
    · skip
      refine sm_iconst (pc := 17) G hb (by decide +kernel : decode prog_21_method_154_code 17 = .ok (.iconst 0, 1)) (by decide) ?_
      exact sm_zret (pc := 18) G hb (by decide +kernel : decode prog_21_method_154_code 18 = .ok (.ireturn, 1)) hr
    · skip
      refine sm_iconst (pc := 13) G hb (by decide +kernel : decode prog_21_method_154_code 13 = .ok (.iconst 1, 1)) (by decide) ?_
      refine sm_goto (pc := 14) (tgt := 18) G hb (by decide +kernel : decode prog_21_method_154_code 14 = .ok (.goto 4, 3)) (by decide) ?_
      exact sm_zret (pc := 18) G hb (by decide +kernel : decode prog_21_method_154_code 18 = .ok (.ireturn, 1)) hr
theorem kJS_isLatin1 {ε : gE5} (hE : gEnv ε) (N : Nat) : gCtr ε (⟨"java/lang/String", "isLatin1", "()Z"⟩ : MethodName) prog_21_method_154_code 1 (some .boolean) 0 0 gy0 (fJS_isLatin1 N) :=
  gCtr_of hE.1 (by decide) (fun γ G hb ho hy hR he hr => fJS_isLatin1_s0 N G hb ho hy hR he hr hE)

set_option maxRecDepth 100000 in
set_option maxHeartbeats 4000000 in
theorem fJL_charAt_s0 {γ : gG} {cs ss : Nat} {ε : gE5} (N : Nat) (G : gOK γ) (hb : gcc γ = prog_22_method_2_code) (ho : gow γ = "java/lang/StringLatin1") (hy : gly γ = gy0) (hR : grm γ = { frames := 2, cells := 0, slots := 0, locals := 43 }) (he : genv γ = ε) (hr : grt γ = (some .char)) (hE : gEnv ε) : gSm γ cs ss 0 (fJL_charAt_k0 N) := by
  unfold fJL_charAt_k0
  refine sm_iload_n (pc := 0) G hb (by decide +kernel : decode prog_22_method_2_code 0 = .ok (.iload_n 1, 1)) rfl ?_
  refine sm_aload_n (pc := 1) G hb (by decide +kernel : decode prog_22_method_2_code 1 = .ok (.aload_n 0, 1)) rfl ?_
  refine sm_elen (pc := 2) G hb he hE (by decide +kernel : decode prog_22_method_2_code 2 = .ok (.arraylength, 1)) ?_
  refine sm_mono (ca_sub gV_sub) (sm_callS (pc := 3) G hb ho hy he hE.1 2 [] (kJS_checkIndex hE N) (gCo_of (by decide +kernel)) (by rw [hR]; exact ⟨by decide, by decide⟩) (by decide +kernel) gw2_170 gw2_171 gw1_17 gw2_172 (by decide +kernel : decode prog_22_method_2_code 3 = .ok (.invokestatic 9, 3)) ?_)
  refine sm_aload_n (pc := 6) G hb (by decide +kernel : decode prog_22_method_2_code 6 = .ok (.aload_n 0, 1)) rfl ?_
  refine sm_iload_n (pc := 7) G hb (by decide +kernel : decode prog_22_method_2_code 7 = .ok (.iload_n 1, 1)) rfl ?_
  refine sm_eald (pc := 8) G hb he hE (by decide +kernel : decode prog_22_method_2_code 8 = .ok (.baload, 1)) ?_
  refine sm_sipush (pc := 9) G hb (by decide +kernel : decode prog_22_method_2_code 9 = .ok (.sipush 255, 3)) (by decide) ?_
  refine sm_iand (pc := 12) G hb (by decide +kernel : decode prog_22_method_2_code 12 = .ok (.iand, 1)) ?_
  refine sm_i2c (pc := 13) G hb (by decide +kernel : decode prog_22_method_2_code 13 = .ok (.i2c, 1)) ?_
  exact sm_cret (pc := 14) G hb (by decide +kernel : decode prog_22_method_2_code 14 = .ok (.ireturn, 1)) hr
theorem kJL_charAt {ε : gE5} (hE : gEnv ε) (N : Nat) : gCtr ε (⟨"java/lang/StringLatin1", "charAt", "([BI)C"⟩ : MethodName) prog_22_method_2_code 2 (some .char) 2 43 gy0 (fJL_charAt N) :=
  gCtr_of hE.1 (by decide) (fun γ G hb ho hy hR he hr => fJL_charAt_s0 N G hb ho hy hR he hr hE)

set_option maxRecDepth 100000 in
set_option maxHeartbeats 4000000 in
theorem fJS_charAt_s0 {γ : gG} {cs ss : Nat} {ε : gE5} (N : Nat) (G : gOK γ) (hb : gcc γ = prog_21_method_56_code) (ho : gow γ = "java/lang/String") (hy : gly γ = gy0) (hR : grm γ = { frames := 3, cells := 0, slots := 0, locals := 64 }) (he : genv γ = ε) (hr : grt γ = (some .char)) (hE : gEnv ε) : gSm γ cs ss 0 (fJS_charAt_k0 N) := by
  unfold fJS_charAt_k0
  refine sm_aload_n (pc := 0) G hb (by decide +kernel : decode prog_21_method_56_code 0 = .ok (.aload_n 0, 1)) rfl ?_
  refine sm_mono (cae_sub gI_sub) (sm_calle (pc := 1) G hb ho he hE 1 (kJS_isLatin1 hE N) (by rw [hR]; exact ⟨by decide, by decide⟩) (by decide +kernel) gw2_163 gw2_164 gw2_165 gw1_17 gw2_166 (by decide +kernel : decode prog_21_method_56_code 1 = .ok (.invokevirtual 492, 3)) ?_)
  refine sm_if_eq (pc := 4) (tgt := 16) G hb (by decide +kernel : decode prog_21_method_56_code 4 = .ok (.ifCond .eq 12, 3)) (by decide) ?_ ?_
  · skip
    exact sm_none
  · skip
    refine sm_aload_n (pc := 7) G hb (by decide +kernel : decode prog_21_method_56_code 7 = .ok (.aload_n 0, 1)) rfl ?_
    refine sm_sval (pc := 8) G hb ho he hE gw8_110 (by decide +kernel : decode prog_21_method_56_code 8 = .ok (.getfield 9, 3)) ?_
    refine sm_iload_n (pc := 11) G hb (by decide +kernel : decode prog_21_method_56_code 11 = .ok (.iload_n 1, 1)) rfl ?_
    refine sm_mono (ca_sub gI_sub) (sm_callS (pc := 12) G hb ho hy he hE.1 2 [] (kJL_charAt hE N) (gCo_of (by decide +kernel)) (by rw [hR]; exact ⟨by decide, by decide⟩) (by decide +kernel) gw2_167 gw2_168 gw1_18 gw2_169 (by decide +kernel : decode prog_21_method_56_code 12 = .ok (.invokestatic 495, 3)) ?_)
    exact sm_cret (pc := 15) G hb (by decide +kernel : decode prog_21_method_56_code 15 = .ok (.ireturn, 1)) hr
theorem kJS_charAt {ε : gE5} (hE : gEnv ε) (N : Nat) : gCtr ε (⟨"java/lang/String", "charAt", "(I)C"⟩ : MethodName) prog_21_method_56_code 2 (some .char) 3 64 gy0 (fJS_charAt N) :=
  gCtr_of hE.1 (by decide) (fun γ G hb ho hy hR he hr => fJS_charAt_s0 N G hb ho hy hR he hr hE)
