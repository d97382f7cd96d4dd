def fX9_conflictStatement_k19 (N : Nat) : gK := s_mask [true, false, false] <|
  s_aload 0 <| s_callv (fX9_fail N) 1 [0, 1, 2, 3, 4, 5, 6, 7, 8, 9, 10, 11, 12, 13, 14, 15, 16, 17] <| s_vret
set_option maxRecDepth 100000 in
set_option maxHeartbeats 4000000 in
theorem fX9_conflictStatement_s19 {γ : gG} {ε : gE5} (N : Nat) (G : gOK γ) (hb : gcc γ = cX9_conflictStatement) (ho : gow γ = RX9) (hy : gly γ = gyM) (hR : grm γ = { frames := 4, cells := 0, slots := 0, locals := 93 }) (he : genv γ = ε) (hr : grt γ = none) (hE : gEnv ε) : gSm γ 19 (fX9_conflictStatement_k19 N) := by
  unfold fX9_conflictStatement_k19
  refine sm_mask ?_
  refine sm_aload_n (pc := 19) G hb (by decide +kernel : decode cX9_conflictStatement 19 = .ok (.aload_n 0, 1)) rfl ?_
  refine sm_callV (pc := 20) (N := 32) (T := TX9) (C := RX9) G hb ho hy he hE.1 1 [0, 1, 2, 3, 4, 5, 6, 7, 8, 9, 10, 11, 12, 13, 14, 15, 16, 17] (kX9_fail hE N) (gCo_of (by decide +kernel)) (by rw [hR]; exact ⟨by decide, by decide⟩) rfl rfl (by decide +kernel) gw6_158 gw6_160 gw0_42 gw1_11 gw6_161 (by decide +kernel : decode cX9_conflictStatement 20 = .ok (.invokevirtual 144, 3)) ?_
  exact sm_vret (pc := 23) G hb (by decide +kernel : decode cX9_conflictStatement 23 = .ok (.return_, 1)) hr
def fX9_conflictStatement_k82 (N : Nat) : gK := s_mask [true, true, false] <|
  s_aload 0 <| s_const 0 <| s_aload 0 <| s_get gyM 9 8 <| s_const 1 <| s_ald gyM 0 <| s_const 1 <| s_bin gb_sub <| s_iload 1 <| s_callv (fX9_takeOther N) 4 [0, 1, 2, 3, 4, 5, 6, 7, 8, 9, 10, 11, 12, 13, 14, 15, 16, 17] <| s_istore 2 <| s_aload 0 <| s_get gyM 9 8 <| s_const 131 <| s_iload 1 <| s_bin gb_add <| s_dup2 <| s_ald gyM 0 <| s_const 1 <| s_iload 2 <| s_bin gb_shl <| s_bin gb_or <| s_ast gyM 0 <| s_aload 0 <| s_get gyM 9 8 <| s_const 131 <| s_iload 2 <| s_bin gb_add <| s_dup2 <| s_ald gyM 0 <| s_const 1 <| s_iload 1 <| s_bin gb_shl <| s_bin gb_or <| s_ast gyM 0 <| s_aload 0 <| s_dup <| s_get gyM 9 15 <| s_const 1 <| s_bin gb_add <| s_put gyM 9 15 <| s_vret
set_option maxRecDepth 100000 in
set_option maxHeartbeats 4000000 in
theorem fX9_conflictStatement_s82 {γ : gG} {ε : gE5} (N : Nat) (G : gOK γ) (hb : gcc γ = cX9_conflictStatement) (ho : gow γ = RX9) (hy : gly γ = gyM) (hR : grm γ = { frames := 4, cells := 0, slots := 0, locals := 93 }) (he : genv γ = ε) (hr : grt γ = none) (hE : gEnv ε) : gSm γ 82 (fX9_conflictStatement_k82 N) := by
  unfold fX9_conflictStatement_k82
  refine sm_mask ?_
  refine sm_aload_n (pc := 82) G hb (by decide +kernel : decode cX9_conflictStatement 82 = .ok (.aload_n 0, 1)) rfl ?_
  refine sm_iconst (pc := 83) G hb (by decide +kernel : decode cX9_conflictStatement 83 = .ok (.iconst 0, 1)) (by decide) ?_
  refine sm_aload_n (pc := 84) G hb (by decide +kernel : decode cX9_conflictStatement 84 = .ok (.aload_n 0, 1)) rfl ?_
  refine sm_get (pc := 85) (ci := 9) (j := 8) (N := 32) (T := TX9) G hb ho hy rfl (by decide) gin_9 gw6_4 (by decide +kernel : decode cX9_conflictStatement 85 = .ok (.getfield 13, 3)) ?_
  refine sm_iconst (pc := 88) G hb (by decide +kernel : decode cX9_conflictStatement 88 = .ok (.iconst 1, 1)) (by decide) ?_
  refine sm_iald (pc := 89) G hb hy (by decide +kernel : decode cX9_conflictStatement 89 = .ok (.iaload, 1)) ?_
  refine sm_iconst (pc := 90) G hb (by decide +kernel : decode cX9_conflictStatement 90 = .ok (.iconst 1, 1)) (by decide) ?_
  refine sm_isub (pc := 91) G hb (by decide +kernel : decode cX9_conflictStatement 91 = .ok (.isub, 1)) ?_
  refine sm_iload_n (pc := 92) G hb (by decide +kernel : decode cX9_conflictStatement 92 = .ok (.iload_n 1, 1)) rfl ?_
  refine sm_callV (pc := 93) (N := 32) (T := TX9) (C := RX9) G hb ho hy he hE.1 4 [0, 1, 2, 3, 4, 5, 6, 7, 8, 9, 10, 11, 12, 13, 14, 15, 16, 17] (kX9_takeOther hE N) (gCo_of (by decide +kernel)) (by rw [hR]; exact ⟨by decide, by decide⟩) rfl rfl (by decide +kernel) gw6_178 gw6_180 gw0_46 gw1_11 gw6_181 (by decide +kernel : decode cX9_conflictStatement 93 = .ok (.invokevirtual 166, 3)) ?_
  refine sm_istore_n (pc := 96) G hb (by decide +kernel : decode cX9_conflictStatement 96 = .ok (.istore_n 2, 1)) rfl ?_
  refine sm_aload_n (pc := 97) G hb (by decide +kernel : decode cX9_conflictStatement 97 = .ok (.aload_n 0, 1)) rfl ?_
  refine sm_get (pc := 98) (ci := 9) (j := 8) (N := 32) (T := TX9) G hb ho hy rfl (by decide) gin_9 gw6_4 (by decide +kernel : decode cX9_conflictStatement 98 = .ok (.getfield 13, 3)) ?_
  refine sm_sipush (pc := 101) G hb (by decide +kernel : decode cX9_conflictStatement 101 = .ok (.sipush 131, 3)) (by decide) ?_
  refine sm_iload_n (pc := 104) G hb (by decide +kernel : decode cX9_conflictStatement 104 = .ok (.iload_n 1, 1)) rfl ?_
  refine sm_iadd (pc := 105) G hb (by decide +kernel : decode cX9_conflictStatement 105 = .ok (.iadd, 1)) ?_
  refine sm_dup2 (pc := 106) G hb (by decide +kernel : decode cX9_conflictStatement 106 = .ok (.dup2, 1)) ?_
  refine sm_iald (pc := 107) G hb hy (by decide +kernel : decode cX9_conflictStatement 107 = .ok (.iaload, 1)) ?_
  refine sm_iconst (pc := 108) G hb (by decide +kernel : decode cX9_conflictStatement 108 = .ok (.iconst 1, 1)) (by decide) ?_
  refine sm_iload_n (pc := 109) G hb (by decide +kernel : decode cX9_conflictStatement 109 = .ok (.iload_n 2, 1)) rfl ?_
  refine sm_ishl (pc := 110) G hb (by decide +kernel : decode cX9_conflictStatement 110 = .ok (.ishl, 1)) ?_
  refine sm_ior (pc := 111) G hb (by decide +kernel : decode cX9_conflictStatement 111 = .ok (.ior, 1)) ?_
  refine sm_iast (pc := 112) G hb hy (by decide +kernel : decode cX9_conflictStatement 112 = .ok (.iastore, 1)) ?_
  refine sm_aload_n (pc := 113) G hb (by decide +kernel : decode cX9_conflictStatement 113 = .ok (.aload_n 0, 1)) rfl ?_
  refine sm_get (pc := 114) (ci := 9) (j := 8) (N := 32) (T := TX9) G hb ho hy rfl (by decide) gin_9 gw6_4 (by decide +kernel : decode cX9_conflictStatement 114 = .ok (.getfield 13, 3)) ?_
  refine sm_sipush (pc := 117) G hb (by decide +kernel : decode cX9_conflictStatement 117 = .ok (.sipush 131, 3)) (by decide) ?_
  refine sm_iload_n (pc := 120) G hb (by decide +kernel : decode cX9_conflictStatement 120 = .ok (.iload_n 2, 1)) rfl ?_
  refine sm_iadd (pc := 121) G hb (by decide +kernel : decode cX9_conflictStatement 121 = .ok (.iadd, 1)) ?_
  refine sm_dup2 (pc := 122) G hb (by decide +kernel : decode cX9_conflictStatement 122 = .ok (.dup2, 1)) ?_
  refine sm_iald (pc := 123) G hb hy (by decide +kernel : decode cX9_conflictStatement 123 = .ok (.iaload, 1)) ?_
  refine sm_iconst (pc := 124) G hb (by decide +kernel : decode cX9_conflictStatement 124 = .ok (.iconst 1, 1)) (by decide) ?_
  refine sm_iload_n (pc := 125) G hb (by decide +kernel : decode cX9_conflictStatement 125 = .ok (.iload_n 1, 1)) rfl ?_
  refine sm_ishl (pc := 126) G hb (by decide +kernel : decode cX9_conflictStatement 126 = .ok (.ishl, 1)) ?_
  refine sm_ior (pc := 127) G hb (by decide +kernel : decode cX9_conflictStatement 127 = .ok (.ior, 1)) ?_
  refine sm_iast (pc := 128) G hb hy (by decide +kernel : decode cX9_conflictStatement 128 = .ok (.iastore, 1)) ?_
  refine sm_aload_n (pc := 129) G hb (by decide +kernel : decode cX9_conflictStatement 129 = .ok (.aload_n 0, 1)) rfl ?_
  refine sm_dup (pc := 130) G hb (by decide +kernel : decode cX9_conflictStatement 130 = .ok (.dup, 1)) ?_
  refine sm_get (pc := 131) (ci := 9) (j := 15) (N := 32) (T := TX9) G hb ho hy rfl (by decide) gin_9 gw6_11 (by decide +kernel : decode cX9_conflictStatement 131 = .ok (.getfield 153, 3)) ?_
  refine sm_iconst (pc := 134) G hb (by decide +kernel : decode cX9_conflictStatement 134 = .ok (.iconst 1, 1)) (by decide) ?_
  refine sm_iadd (pc := 135) G hb (by decide +kernel : decode cX9_conflictStatement 135 = .ok (.iadd, 1)) ?_
  refine sm_put (pc := 136) (ci := 9) (j := 15) (N := 32) (T := TX9) G hb ho hy tyX9 tyX9_ok nmX9 rfl (by decide) gin_9 gw6_11 rfl rfl (by decide +kernel : decode cX9_conflictStatement 136 = .ok (.putfield 153, 3)) ?_
  exact sm_vret (pc := 139) G hb (by decide +kernel : decode cX9_conflictStatement 139 = .ok (.return_, 1)) hr
def fX9_conflictStatement_k0 (N : Nat) : gK :=
  s_aload 0 <| s_get gyM 9 8 <| s_const 1 <| s_ald gyM 0 <| s_const 2 <| s_cmp gc_lt (fX9_conflictStatement_k19 N) (s_aload 0 <| s_get gyM 9 15 <| s_const 40 <| s_cmp gc_ne (s_aload 0 <| s_callv (fX9_step N) 1 [0, 1, 2, 3, 4, 5, 6, 7, 8, 9, 10, 11, 12, 13, 14, 15, 16, 17] <| s_aload 0 <| s_const 0 <| s_aload 0 <| s_get gyM 9 8 <| s_const 1 <| s_ald gyM 0 <| s_const 1 <| s_bin gb_sub <| s_callv (fX9_takeNumber N) 3 [0, 1, 2, 3, 4, 5, 6, 7, 8, 9, 10, 11, 12, 13, 14, 15, 16, 17] <| s_istore 1 <| s_aload 0 <| s_const 0 <| s_aload 0 <| s_get gyM 9 8 <| s_const 1 <| s_ald gyM 0 <| s_const 1 <| s_bin gb_sub <| s_callv (fX9_isNumber N) 3 [0, 1, 2, 3, 4, 5, 6, 7, 8, 9, 10, 11, 12, 13, 14, 15, 16, 17] <| s_if gz_eq (fX9_conflictStatement_k82 N) (s_aload 0 <| s_get gyM 9 8 <| s_const 131 <| s_iload 1 <| s_bin gb_add <| s_ald gyM 0 <| s_aload 0 <| s_get gyM 9 6 <| s_call (fX9_has N) 2 [] <| s_if gz_eq (fX9_conflictStatement_k82 N) (s_aload 0 <| s_callv (fX9_fail N) 1 [0, 1, 2, 3, 4, 5, 6, 7, 8, 9, 10, 11, 12, 13, 14, 15, 16, 17] <| fX9_conflictStatement_k82 N))) (fX9_conflictStatement_k19 N))
set_option maxRecDepth 100000 in
set_option maxHeartbeats 4000000 in
theorem fX9_conflictStatement_s0 {γ : gG} {ε : gE5} (N : Nat) (G : gOK γ) (hb : gcc γ = cX9_conflictStatement) (ho : gow γ = RX9) (hy : gly γ = gyM) (hR : grm γ = { frames := 4, cells := 0, slots := 0, locals := 93 }) (he : genv γ = ε) (hr : grt γ = none) (hE : gEnv ε) : gSm γ 0 (fX9_conflictStatement_k0 N) := by
  unfold fX9_conflictStatement_k0
  refine sm_aload_n (pc := 0) G hb (by decide +kernel : decode cX9_conflictStatement 0 = .ok (.aload_n 0, 1)) rfl ?_
  refine sm_get (pc := 1) (ci := 9) (j := 8) (N := 32) (T := TX9) G hb ho hy rfl (by decide) gin_9 gw6_4 (by decide +kernel : decode cX9_conflictStatement 1 = .ok (.getfield 13, 3)) ?_
  refine sm_iconst (pc := 4) G hb (by decide +kernel : decode cX9_conflictStatement 4 = .ok (.iconst 1, 1)) (by decide) ?_
  refine sm_iald (pc := 5) G hb hy (by decide +kernel : decode cX9_conflictStatement 5 = .ok (.iaload, 1)) ?_
  refine sm_iconst (pc := 6) G hb (by decide +kernel : decode cX9_conflictStatement 6 = .ok (.iconst 2, 1)) (by decide) ?_
  refine sm_icmp_lt (pc := 7) (tgt := 19) G hb (by decide +kernel : decode cX9_conflictStatement 7 = .ok (.if_icmp .lt 12, 3)) (by decide) ?_ ?_
  · skip
    exact fX9_conflictStatement_s19 N G hb ho hy hR he hr hE
  · skip
    refine sm_aload_n (pc := 10) G hb (by decide +kernel : decode cX9_conflictStatement 10 = .ok (.aload_n 0, 1)) rfl ?_
    refine sm_get (pc := 11) (ci := 9) (j := 15) (N := 32) (T := TX9) G hb ho hy rfl (by decide) gin_9 gw6_11 (by decide +kernel : decode cX9_conflictStatement 11 = .ok (.getfield 153, 3)) ?_
    refine sm_bipush (pc := 14) G hb (by decide +kernel : decode cX9_conflictStatement 14 = .ok (.bipush 40, 2)) (by decide) ?_
    refine sm_icmp_ne (pc := 16) (tgt := 24) G hb (by decide +kernel : decode cX9_conflictStatement 16 = .ok (.if_icmp .ne 8, 3)) (by decide) ?_ ?_
    · skip
      refine sm_aload_n (pc := 24) G hb (by decide +kernel : decode cX9_conflictStatement 24 = .ok (.aload_n 0, 1)) rfl ?_
      refine sm_callV (pc := 25) (N := 32) (T := TX9) (C := RX9) G hb ho hy he hE.1 1 [0, 1, 2, 3, 4, 5, 6, 7, 8, 9, 10, 11, 12, 13, 14, 15, 16, 17] (kX9_step hE N) (gCo_of (by decide +kernel)) (by rw [hR]; exact ⟨by decide, by decide⟩) rfl rfl (by decide +kernel) gw6_124 gw6_126 gw0_36 gw1_11 gw6_127 (by decide +kernel : decode cX9_conflictStatement 25 = .ok (.invokevirtual 147, 3)) ?_
      refine sm_aload_n (pc := 28) G hb (by decide +kernel : decode cX9_conflictStatement 28 = .ok (.aload_n 0, 1)) rfl ?_
      refine sm_iconst (pc := 29) G hb (by decide +kernel : decode cX9_conflictStatement 29 = .ok (.iconst 0, 1)) (by decide) ?_
      refine sm_aload_n (pc := 30) G hb (by decide +kernel : decode cX9_conflictStatement 30 = .ok (.aload_n 0, 1)) rfl ?_
      refine sm_get (pc := 31) (ci := 9) (j := 8) (N := 32) (T := TX9) G hb ho hy rfl (by decide) gin_9 gw6_4 (by decide +kernel : decode cX9_conflictStatement 31 = .ok (.getfield 13, 3)) ?_
      refine sm_iconst (pc := 34) G hb (by decide +kernel : decode cX9_conflictStatement 34 = .ok (.iconst 1, 1)) (by decide) ?_
      refine sm_iald (pc := 35) G hb hy (by decide +kernel : decode cX9_conflictStatement 35 = .ok (.iaload, 1)) ?_
      refine sm_iconst (pc := 36) G hb (by decide +kernel : decode cX9_conflictStatement 36 = .ok (.iconst 1, 1)) (by decide) ?_
      refine sm_isub (pc := 37) G hb (by decide +kernel : decode cX9_conflictStatement 37 = .ok (.isub, 1)) ?_
      refine sm_callV (pc := 38) (N := 32) (T := TX9) (C := RX9) G hb ho hy he hE.1 3 [0, 1, 2, 3, 4, 5, 6, 7, 8, 9, 10, 11, 12, 13, 14, 15, 16, 17] (kX9_takeNumber hE N) (gCo_of (by decide +kernel)) (by rw [hR]; exact ⟨by decide, by decide⟩) rfl rfl (by decide +kernel) gw6_150 gw6_152 gw0_40 gw1_11 gw6_153 (by decide +kernel : decode cX9_conflictStatement 38 = .ok (.invokevirtual 156, 3)) ?_
      refine sm_istore_n (pc := 41) G hb (by decide +kernel : decode cX9_conflictStatement 41 = .ok (.istore_n 1, 1)) rfl ?_
      refine sm_aload_n (pc := 42) G hb (by decide +kernel : decode cX9_conflictStatement 42 = .ok (.aload_n 0, 1)) rfl ?_
      refine sm_iconst (pc := 43) G hb (by decide +kernel : decode cX9_conflictStatement 43 = .ok (.iconst 0, 1)) (by decide) ?_
      refine sm_aload_n (pc := 44) G hb (by decide +kernel : decode cX9_conflictStatement 44 = .ok (.aload_n 0, 1)) rfl ?_
      refine sm_get (pc := 45) (ci := 9) (j := 8) (N := 32) (T := TX9) G hb ho hy rfl (by decide) gin_9 gw6_4 (by decide +kernel : decode cX9_conflictStatement 45 = .ok (.getfield 13, 3)) ?_
      refine sm_iconst (pc := 48) G hb (by decide +kernel : decode cX9_conflictStatement 48 = .ok (.iconst 1, 1)) (by decide) ?_
      refine sm_iald (pc := 49) G hb hy (by decide +kernel : decode cX9_conflictStatement 49 = .ok (.iaload, 1)) ?_
      refine sm_iconst (pc := 50) G hb (by decide +kernel : decode cX9_conflictStatement 50 = .ok (.iconst 1, 1)) (by decide) ?_
      refine sm_isub (pc := 51) G hb (by decide +kernel : decode cX9_conflictStatement 51 = .ok (.isub, 1)) ?_
      refine sm_callV (pc := 52) (N := 32) (T := TX9) (C := RX9) G hb ho hy he hE.1 3 [0, 1, 2, 3, 4, 5, 6, 7, 8, 9, 10, 11, 12, 13, 14, 15, 16, 17] (kX9_isNumber hE N) (gCo_of (by decide +kernel)) (by rw [hR]; exact ⟨by decide, by decide⟩) rfl rfl (by decide +kernel) gw6_154 gw6_156 gw0_41 gw1_11 gw6_157 (by decide +kernel : decode cX9_conflictStatement 52 = .ok (.invokevirtual 140, 3)) ?_
      refine sm_if_eq (pc := 55) (tgt := 82) G hb (by decide +kernel : decode cX9_conflictStatement 55 = .ok (.ifCond .eq 27, 3)) (by decide) ?_ ?_
      · skip
        exact fX9_conflictStatement_s82 N G hb ho hy hR he hr hE
      · skip
        refine sm_aload_n (pc := 58) G hb (by decide +kernel : decode cX9_conflictStatement 58 = .ok (.aload_n 0, 1)) rfl ?_
        refine sm_get (pc := 59) (ci := 9) (j := 8) (N := 32) (T := TX9) G hb ho hy rfl (by decide) gin_9 gw6_4 (by decide +kernel : decode cX9_conflictStatement 59 = .ok (.getfield 13, 3)) ?_
        refine sm_sipush (pc := 62) G hb (by decide +kernel : decode cX9_conflictStatement 62 = .ok (.sipush 131, 3)) (by decide) ?_
        refine sm_iload_n (pc := 65) G hb (by decide +kernel : decode cX9_conflictStatement 65 = .ok (.iload_n 1, 1)) rfl ?_
        refine sm_iadd (pc := 66) G hb (by decide +kernel : decode cX9_conflictStatement 66 = .ok (.iadd, 1)) ?_
        refine sm_iald (pc := 67) G hb hy (by decide +kernel : decode cX9_conflictStatement 67 = .ok (.iaload, 1)) ?_
        refine sm_aload_n (pc := 68) G hb (by decide +kernel : decode cX9_conflictStatement 68 = .ok (.aload_n 0, 1)) rfl ?_
        refine sm_get (pc := 69) (ci := 9) (j := 6) (N := 32) (T := TX9) G hb ho hy rfl (by decide) gin_9 gw6_2 (by decide +kernel : decode cX9_conflictStatement 69 = .ok (.getfield 115, 3)) ?_
        refine sm_callS (pc := 72) G hb ho hy he hE.1 2 [] (kX9_has hE N) (gCo_of (by decide +kernel)) (by rw [hR]; exact ⟨by decide, by decide⟩) (by decide +kernel) gw6_187 gw6_188 gw1_11 gw6_189 (by decide +kernel : decode cX9_conflictStatement 72 = .ok (.invokestatic 170, 3)) ?_
        refine sm_if_eq (pc := 75) (tgt := 82) G hb (by decide +kernel : decode cX9_conflictStatement 75 = .ok (.ifCond .eq 7, 3)) (by decide) ?_ ?_
        · skip
          exact fX9_conflictStatement_s82 N G hb ho hy hR he hr hE
        · skip
          refine sm_aload_n (pc := 78) G hb (by decide +kernel : decode cX9_conflictStatement 78 = .ok (.aload_n 0, 1)) rfl ?_
          refine sm_callV (pc := 79) (N := 32) (T := TX9) (C := RX9) G hb ho hy he hE.1 1 [0, 1, 2, 3, 4, 5, 6, 7, 8, 9, 10, 11, 12, 13, 14, 15, 16, 17] (kX9_fail hE N) (gCo_of (by decide +kernel)) (by rw [hR]; exact ⟨by decide, by decide⟩) rfl rfl (by decide +kernel) gw6_158 gw6_160 gw0_42 gw1_11 gw6_161 (by decide +kernel : decode cX9_conflictStatement 79 = .ok (.invokevirtual 144, 3)) ?_
          exact fX9_conflictStatement_s82 N G hb ho hy hR he hr hE
    · skip
      exact fX9_conflictStatement_s19 N G hb ho hy hR he hr hE
def fX9_conflictStatement (N : Nat) : List Value → gM → Option (gR × gM) := gFn 3 (fX9_conflictStatement_k0 N)
theorem kX9_conflictStatement {ε : gE5} (hE : gEnv ε) (N : Nat) : gCtr ε yX9_conflictStatement cX9_conflictStatement 3 none 4 93 gyM (fX9_conflictStatement N) :=
  gCtr_of hE.1 (by decide) (fun γ G hb ho hy hR he hr => fX9_conflictStatement_s0 N G hb ho hy hR he hr hE)

def fX9_copy_k3 (N : Nat) (n1 n2 : Nat) : gK := s_lp (fun K3 => s_mask [true, true, true, true, true] <|
  s_iload 4 <| s_const 2746 <| s_cmp gc_ge (s_vret) (s_aload 2 <| s_iload 3 <| s_iload 4 <| s_bin gb_add <| s_aload 0 <| s_iload 1 <| s_iload 4 <| s_bin gb_add <| s_ald (gyR2 n1 n2) 0 <| s_ast (gyR2 n1 n2) 0 <| s_iinc 4 1 <| K3)) N
set_option maxRecDepth 100000 in
set_option maxHeartbeats 4000000 in
theorem fX9_copy_s3 {γ : gG} {ε : gE5} (N : Nat) (n1 n2 : Nat) (G : gOK γ) (hb : gcc γ = cX9_copy) (ho : gow γ = RX9) (hy : gly γ = (gyR2 n1 n2)) (hR : grm γ = { frames := 0, cells := 0, slots := 0, locals := 0 }) (he : genv γ = ε) (hr : grt γ = none) (hE : gEnv ε) : gSm γ 3 (fX9_copy_k3 N n1 n2) := by
  unfold fX9_copy_k3
  refine sm_lp (fun K3 h3 => ?_) N
  refine sm_mask ?_
  refine sm_iload (pc := 3) G hb (by decide +kernel : decode cX9_copy 3 = .ok (.iload 4, 2)) ?_
  refine sm_sipush (pc := 5) G hb (by decide +kernel : decode cX9_copy 5 = .ok (.sipush 2746, 3)) (by decide) ?_
  refine sm_icmp_ge (pc := 8) (tgt := 29) G hb (by decide +kernel : decode cX9_copy 8 = .ok (.if_icmp .ge 21, 3)) (by decide) ?_ ?_
  · skip
    exact sm_vret (pc := 29) G hb (by decide +kernel : decode cX9_copy 29 = .ok (.return_, 1)) hr
  · skip
    refine sm_aload_n (pc := 11) G hb (by decide +kernel : decode cX9_copy 11 = .ok (.aload_n 2, 1)) rfl ?_
    refine sm_iload_n (pc := 12) G hb (by decide +kernel : decode cX9_copy 12 = .ok (.iload_n 3, 1)) rfl ?_
    refine sm_iload (pc := 13) G hb (by decide +kernel : decode cX9_copy 13 = .ok (.iload 4, 2)) ?_
    refine sm_iadd (pc := 15) G hb (by decide +kernel : decode cX9_copy 15 = .ok (.iadd, 1)) ?_
    refine sm_aload_n (pc := 16) G hb (by decide +kernel : decode cX9_copy 16 = .ok (.aload_n 0, 1)) rfl ?_
    refine sm_iload_n (pc := 17) G hb (by decide +kernel : decode cX9_copy 17 = .ok (.iload_n 1, 1)) rfl ?_
    refine sm_iload (pc := 18) G hb (by decide +kernel : decode cX9_copy 18 = .ok (.iload 4, 2)) ?_
    refine sm_iadd (pc := 20) G hb (by decide +kernel : decode cX9_copy 20 = .ok (.iadd, 1)) ?_
    refine sm_iald (pc := 21) G hb hy (by decide +kernel : decode cX9_copy 21 = .ok (.iaload, 1)) ?_
    refine sm_iast (pc := 22) G hb hy (by decide +kernel : decode cX9_copy 22 = .ok (.iastore, 1)) ?_
    refine sm_iinc (pc := 23) G hb (by decide +kernel : decode cX9_copy 23 = .ok (.iinc 4 1, 3)) (by decide) ?_
    refine sm_goto (pc := 26) (tgt := 3) G hb (by decide +kernel : decode cX9_copy 26 = .ok (.goto (-23), 3)) (by decide) ?_
    exact h3
def fX9_copy_k0 (N : Nat) (n1 n2 : Nat) : gK :=
  s_const 0 <| s_istore 4 <| fX9_copy_k3 N n1 n2
set_option maxRecDepth 100000 in
set_option maxHeartbeats 4000000 in
theorem fX9_copy_s0 {γ : gG} {ε : gE5} (N : Nat) (n1 n2 : Nat) (G : gOK γ) (hb : gcc γ = cX9_copy) (ho : gow γ = RX9) (hy : gly γ = (gyR2 n1 n2)) (hR : grm γ = { frames := 0, cells := 0, slots := 0, locals := 0 }) (he : genv γ = ε) (hr : grt γ = none) (hE : gEnv ε) : gSm γ 0 (fX9_copy_k0 N n1 n2) := by
  unfold fX9_copy_k0
  refine sm_iconst (pc := 0) G hb (by decide +kernel : decode cX9_copy 0 = .ok (.iconst 0, 1)) (by decide) ?_
  refine sm_istore (pc := 1) G hb (by decide +kernel : decode cX9_copy 1 = .ok (.istore 4, 2)) ?_
  exact fX9_copy_s3 N n1 n2 G hb ho hy hR he hr hE
def fX9_copy (N : Nat) (n1 n2 : Nat) : List Value → gM → Option (gR × gM) := gFn 5 (fX9_copy_k0 N n1 n2)
theorem kX9_copy {ε : gE5} (hE : gEnv ε) (N : Nat) (n1 n2 : Nat) : gCtr ε yX9_copy cX9_copy 5 none 0 0 (gyR2 n1 n2) (fX9_copy N n1 n2) :=
  gCtr_of hE.1 (by decide) (fun γ G hb ho hy hR he hr => fX9_copy_s0 N n1 n2 G hb ho hy hR he hr hE)

def fX9_takeRead_k0 (N : Nat) : gK :=
  s_aload 0 <| s_get gyM 9 8 <| s_const 0 <| s_aload 0 <| s_get gyM 9 9 <| s_const 0 <| s_call (fX9_copy N 2746 2746) 4 [2, 3] <| s_aload 0 <| s_const 0 <| s_put gyM 9 13 <| s_aload 0 <| s_const 0 <| s_putz gyM 9 16 <| s_vret
set_option maxRecDepth 100000 in
set_option maxHeartbeats 4000000 in
theorem fX9_takeRead_s0 {γ : gG} {ε : gE5} (N : Nat) (G : gOK γ) (hb : gcc γ = cX9_takeRead) (ho : gow γ = RX9) (hy : gly γ = gyM) (hR : grm γ = { frames := 1, cells := 0, slots := 0, locals := 24 }) (he : genv γ = ε) (hr : grt γ = none) (hE : gEnv ε) : gSm γ 0 (fX9_takeRead_k0 N) := by
  unfold fX9_takeRead_k0
  refine sm_aload_n (pc := 0) G hb (by decide +kernel : decode cX9_takeRead 0 = .ok (.aload_n 0, 1)) rfl ?_
  refine sm_get (pc := 1) (ci := 9) (j := 8) (N := 32) (T := TX9) G hb ho hy rfl (by decide) gin_9 gw6_4 (by decide +kernel : decode cX9_takeRead 1 = .ok (.getfield 13, 3)) ?_
  refine sm_iconst (pc := 4) G hb (by decide +kernel : decode cX9_takeRead 4 = .ok (.iconst 0, 1)) (by decide) ?_
  refine sm_aload_n (pc := 5) G hb (by decide +kernel : decode cX9_takeRead 5 = .ok (.aload_n 0, 1)) rfl ?_
  refine sm_get (pc := 6) (ci := 9) (j := 9) (N := 32) (T := TX9) G hb ho hy rfl (by decide) gin_9 gw6_5 (by decide +kernel : decode cX9_takeRead 6 = .ok (.getfield 16, 3)) ?_
  refine sm_iconst (pc := 9) G hb (by decide +kernel : decode cX9_takeRead 9 = .ok (.iconst 0, 1)) (by decide) ?_
  refine sm_callS (pc := 10) G hb ho hy he hE.1 4 [2, 3] (kX9_copy hE N 2746 2746) ⟨rfl, rfl, by decide⟩ (by rw [hR]; exact ⟨by decide, by decide⟩) (by decide +kernel) gw5_233 gw5_234 gw1_11 gw5_235 (by decide +kernel : decode cX9_takeRead 10 = .ok (.invokestatic 226, 3)) ?_
  refine sm_aload_n (pc := 13) G hb (by decide +kernel : decode cX9_takeRead 13 = .ok (.aload_n 0, 1)) rfl ?_
  refine sm_iconst (pc := 14) G hb (by decide +kernel : decode cX9_takeRead 14 = .ok (.iconst 0, 1)) (by decide) ?_
  refine sm_put (pc := 15) (ci := 9) (j := 13) (N := 32) (T := TX9) G hb ho hy tyX9 tyX9_ok nmX9 rfl (by decide) gin_9 gw6_9 rfl rfl (by decide +kernel : decode cX9_takeRead 15 = .ok (.putfield 230, 3)) ?_
  refine sm_aload_n (pc := 18) G hb (by decide +kernel : decode cX9_takeRead 18 = .ok (.aload_n 0, 1)) rfl ?_
  refine sm_iconst (pc := 19) G hb (by decide +kernel : decode cX9_takeRead 19 = .ok (.iconst 0, 1)) (by decide) ?_
  refine sm_putz (pc := 20) (ci := 9) (j := 16) (N := 32) (T := TX9) G hb ho hy tyX9 tyX9_ok nmX9 rfl (by decide) gin_9 gw6_12 rfl rfl (by decide +kernel : decode cX9_takeRead 20 = .ok (.putfield 233, 3)) ?_
  exact sm_vret (pc := 23) G hb (by decide +kernel : decode cX9_takeRead 23 = .ok (.return_, 1)) hr
def fX9_takeRead (N : Nat) : List Value → gM → Option (gR × gM) := gFn 1 (fX9_takeRead_k0 N)
theorem kX9_takeRead {ε : gE5} (hE : gEnv ε) (N : Nat) : gCtr ε yX9_takeRead cX9_takeRead 1 none 1 24 gyM (fX9_takeRead N) :=
  gCtr_of hE.1 (by decide) (fun γ G hb ho hy hR he hr => fX9_takeRead_s0 N G hb ho hy hR he hr hE)

def fX9_record_k52 (N : Nat) : gK := s_mask [true, false] <|
  s_aload 0 <| s_get gyM 9 9 <| s_const 0 <| s_aload 0 <| s_get gyM 9 12 <| s_const 2746 <| s_aload 0 <| s_get gyM 9 13 <| s_bin gb_mul <| s_call (fX9_copy N 2746 16476) 4 [3, 6] <| s_aload 0 <| s_dup <| s_get gyM 9 13 <| s_const 1 <| s_bin gb_add <| s_put gyM 9 13 <| s_vret
set_option maxRecDepth 100000 in
set_option maxHeartbeats 4000000 in
theorem fX9_record_s52 {γ : gG} {ε : gE5} (N : Nat) (G : gOK γ) (hb : gcc γ = cX9_record) (ho : gow γ = RX9) (hy : gly γ = gyM) (hR : grm γ = { frames := 1, cells := 0, slots := 0, locals := 24 }) (he : genv γ = ε) (hr : grt γ = none) (hE : gEnv ε) : gSm γ 52 (fX9_record_k52 N) := by
  unfold fX9_record_k52
  refine sm_mask ?_
  refine sm_aload_n (pc := 52) G hb (by decide +kernel : decode cX9_record 52 = .ok (.aload_n 0, 1)) rfl ?_
  refine sm_get (pc := 53) (ci := 9) (j := 9) (N := 32) (T := TX9) G hb ho hy rfl (by decide) gin_9 gw6_5 (by decide +kernel : decode cX9_record 53 = .ok (.getfield 16, 3)) ?_
  refine sm_iconst (pc := 56) G hb (by decide +kernel : decode cX9_record 56 = .ok (.iconst 0, 1)) (by decide) ?_
  refine sm_aload_n (pc := 57) G hb (by decide +kernel : decode cX9_record 57 = .ok (.aload_n 0, 1)) rfl ?_
  refine sm_get (pc := 58) (ci := 9) (j := 12) (N := 32) (T := TX9) G hb ho hy rfl (by decide) gin_9 gw6_8 (by decide +kernel : decode cX9_record 58 = .ok (.getfield 25, 3)) ?_
  refine sm_sipush (pc := 61) G hb (by decide +kernel : decode cX9_record 61 = .ok (.sipush 2746, 3)) (by decide) ?_
  refine sm_aload_n (pc := 64) G hb (by decide +kernel : decode cX9_record 64 = .ok (.aload_n 0, 1)) rfl ?_
  refine sm_get (pc := 65) (ci := 9) (j := 13) (N := 32) (T := TX9) G hb ho hy rfl (by decide) gin_9 gw6_9 (by decide +kernel : decode cX9_record 65 = .ok (.getfield 230, 3)) ?_
  refine sm_imul (pc := 68) G hb (by decide +kernel : decode cX9_record 68 = .ok (.imul, 1)) ?_
  refine sm_callS (pc := 69) G hb ho hy he hE.1 4 [3, 6] (kX9_copy hE N 2746 16476) ⟨rfl, rfl, by decide⟩ (by rw [hR]; exact ⟨by decide, by decide⟩) (by decide +kernel) gw5_233 gw5_234 gw1_11 gw5_235 (by decide +kernel : decode cX9_record 69 = .ok (.invokestatic 226, 3)) ?_
  refine sm_aload_n (pc := 72) G hb (by decide +kernel : decode cX9_record 72 = .ok (.aload_n 0, 1)) rfl ?_
  refine sm_dup (pc := 73) G hb (by decide +kernel : decode cX9_record 73 = .ok (.dup, 1)) ?_
  refine sm_get (pc := 74) (ci := 9) (j := 13) (N := 32) (T := TX9) G hb ho hy rfl (by decide) gin_9 gw6_9 (by decide +kernel : decode cX9_record 74 = .ok (.getfield 230, 3)) ?_
  refine sm_iconst (pc := 77) G hb (by decide +kernel : decode cX9_record 77 = .ok (.iconst 1, 1)) (by decide) ?_
  refine sm_iadd (pc := 78) G hb (by decide +kernel : decode cX9_record 78 = .ok (.iadd, 1)) ?_
  refine sm_put (pc := 79) (ci := 9) (j := 13) (N := 32) (T := TX9) G hb ho hy tyX9 tyX9_ok nmX9 rfl (by decide) gin_9 gw6_9 rfl rfl (by decide +kernel : decode cX9_record 79 = .ok (.putfield 230, 3)) ?_
  exact sm_vret (pc := 82) G hb (by decide +kernel : decode cX9_record 82 = .ok (.return_, 1)) hr
def fX9_record_k13 (N : Nat) : gK := s_lp (fun K13 => s_mask [true, true] <|
  s_iload 1 <| s_const 16476 <| s_cmp gc_ge (s_aload 0 <| s_dup <| s_get gyM 9 13 <| s_const 1 <| s_bin gb_sub <| s_put gyM 9 13 <| fX9_record_k52 N) (s_aload 0 <| s_get gyM 9 12 <| s_iload 1 <| s_const 2746 <| s_bin gb_sub <| s_aload 0 <| s_get gyM 9 12 <| s_iload 1 <| s_ald gyM 0 <| s_ast gyM 0 <| s_iinc 1 1 <| K13)) N
set_option maxRecDepth 100000 in
set_option maxHeartbeats 4000000 in
theorem fX9_record_s13 {γ : gG} {ε : gE5} (N : Nat) (G : gOK γ) (hb : gcc γ = cX9_record) (ho : gow γ = RX9) (hy : gly γ = gyM) (hR : grm γ = { frames := 1, cells := 0, slots := 0, locals := 24 }) (he : genv γ = ε) (hr : grt γ = none) (hE : gEnv ε) : gSm γ 13 (fX9_record_k13 N) := by
  unfold fX9_record_k13
  refine sm_lp (fun K13 h13 => ?_) N
  refine sm_mask ?_
  refine sm_iload_n (pc := 13) G hb (by decide +kernel : decode cX9_record 13 = .ok (.iload_n 1, 1)) rfl ?_
  refine sm_sipush (pc := 14) G hb (by decide +kernel : decode cX9_record 14 = .ok (.sipush 16476, 3)) (by decide) ?_
  refine sm_icmp_ge (pc := 17) (tgt := 42) G hb (by decide +kernel : decode cX9_record 17 = .ok (.if_icmp .ge 25, 3)) (by decide) ?_ ?_
  · skip
    refine sm_aload_n (pc := 42) G hb (by decide +kernel : decode cX9_record 42 = .ok (.aload_n 0, 1)) rfl ?_
    refine sm_dup (pc := 43) G hb (by decide +kernel : decode cX9_record 43 = .ok (.dup, 1)) ?_
    refine sm_get (pc := 44) (ci := 9) (j := 13) (N := 32) (T := TX9) G hb ho hy rfl (by decide) gin_9 gw6_9 (by decide +kernel : decode cX9_record 44 = .ok (.getfield 230, 3)) ?_
    refine sm_iconst (pc := 47) G hb (by decide +kernel : decode cX9_record 47 = .ok (.iconst 1, 1)) (by decide) ?_
    refine sm_isub (pc := 48) G hb (by decide +kernel : decode cX9_record 48 = .ok (.isub, 1)) ?_
    refine sm_put (pc := 49) (ci := 9) (j := 13) (N := 32) (T := TX9) G hb ho hy tyX9 tyX9_ok nmX9 rfl (by decide) gin_9 gw6_9 rfl rfl (by decide +kernel : decode cX9_record 49 = .ok (.putfield 230, 3)) ?_
    exact fX9_record_s52 N G hb ho hy hR he hr hE
  · skip
    refine sm_aload_n (pc := 20) G hb (by decide +kernel : decode cX9_record 20 = .ok (.aload_n 0, 1)) rfl ?_
    refine sm_get (pc := 21) (ci := 9) (j := 12) (N := 32) (T := TX9) G hb ho hy rfl (by decide) gin_9 gw6_8 (by decide +kernel : decode cX9_record 21 = .ok (.getfield 25, 3)) ?_
    refine sm_iload_n (pc := 24) G hb (by decide +kernel : decode cX9_record 24 = .ok (.iload_n 1, 1)) rfl ?_
    refine sm_sipush (pc := 25) G hb (by decide +kernel : decode cX9_record 25 = .ok (.sipush 2746, 3)) (by decide) ?_
    refine sm_isub (pc := 28) G hb (by decide +kernel : decode cX9_record 28 = .ok (.isub, 1)) ?_
    refine sm_aload_n (pc := 29) G hb (by decide +kernel : decode cX9_record 29 = .ok (.aload_n 0, 1)) rfl ?_
    refine sm_get (pc := 30) (ci := 9) (j := 12) (N := 32) (T := TX9) G hb ho hy rfl (by decide) gin_9 gw6_8 (by decide +kernel : decode cX9_record 30 = .ok (.getfield 25, 3)) ?_
    refine sm_iload_n (pc := 33) G hb (by decide +kernel : decode cX9_record 33 = .ok (.iload_n 1, 1)) rfl ?_
    refine sm_iald (pc := 34) G hb hy (by decide +kernel : decode cX9_record 34 = .ok (.iaload, 1)) ?_
    refine sm_iast (pc := 35) G hb hy (by decide +kernel : decode cX9_record 35 = .ok (.iastore, 1)) ?_
    refine sm_iinc (pc := 36) G hb (by decide +kernel : decode cX9_record 36 = .ok (.iinc 1 1, 3)) (by decide) ?_
    refine sm_goto (pc := 39) (tgt := 13) G hb (by decide +kernel : decode cX9_record 39 = .ok (.goto (-26), 3)) (by decide) ?_
    exact h13
def fX9_record_k0 (N : Nat) : gK :=
  s_aload 0 <| s_get gyM 9 13 <| s_const 6 <| s_cmp gc_ne (fX9_record_k52 N) (s_const 2746 <| s_istore 1 <| fX9_record_k13 N)
set_option maxRecDepth 100000 in
set_option maxHeartbeats 4000000 in
theorem fX9_record_s0 {γ : gG} {ε : gE5} (N : Nat) (G : gOK γ) (hb : gcc γ = cX9_record) (ho : gow γ = RX9) (hy : gly γ = gyM) (hR : grm γ = { frames := 1, cells := 0, slots := 0, locals := 24 }) (he : genv γ = ε) (hr : grt γ = none) (hE : gEnv ε) : gSm γ 0 (fX9_record_k0 N) := by
  unfold fX9_record_k0
  refine sm_aload_n (pc := 0) G hb (by decide +kernel : decode cX9_record 0 = .ok (.aload_n 0, 1)) rfl ?_
  refine sm_get (pc := 1) (ci := 9) (j := 13) (N := 32) (T := TX9) G hb ho hy rfl (by decide) gin_9 gw6_9 (by decide +kernel : decode cX9_record 1 = .ok (.getfield 230, 3)) ?_
  refine sm_bipush (pc := 4) G hb (by decide +kernel : decode cX9_record 4 = .ok (.bipush 6, 2)) (by decide) ?_
  refine sm_icmp_ne (pc := 6) (tgt := 52) G hb (by decide +kernel : decode cX9_record 6 = .ok (.if_icmp .ne 46, 3)) (by decide) ?_ ?_
  · skip
    exact fX9_record_s52 N G hb ho hy hR he hr hE
  · skip
    refine sm_sipush (pc := 9) G hb (by decide +kernel : decode cX9_record 9 = .ok (.sipush 2746, 3)) (by decide) ?_
    refine sm_istore_n (pc := 12) G hb (by decide +kernel : decode cX9_record 12 = .ok (.istore_n 1, 1)) rfl ?_
    exact fX9_record_s13 N G hb ho hy hR he hr hE
def fX9_record (N : Nat) : List Value → gM → Option (gR × gM) := gFn 2 (fX9_record_k0 N)
theorem kX9_record {ε : gE5} (hE : gEnv ε) (N : Nat) : gCtr ε yX9_record cX9_record 2 none 1 24 gyM (fX9_record N) :=
  gCtr_of hE.1 (by decide) (fun γ G hb ho hy hR he hr => fX9_record_s0 N G hb ho hy hR he hr hE)

def fX9_undo_k18 (N : Nat) : gK := s_mask [true] <|
  s_const 1 <| s_callv (fX9_fails N) 3 [0, 1, 2, 3, 4, 5, 6, 7, 8, 9, 10, 11, 12, 13, 14, 15, 16, 17] <| s_if gz_eq (s_aload 0 <| s_dup <| s_get gyM 9 13 <| s_const 1 <| s_bin gb_sub <| s_put gyM 9 13 <| s_aload 0 <| s_get gyM 9 12 <| s_const 2746 <| s_aload 0 <| s_get gyM 9 13 <| s_bin gb_mul <| s_aload 0 <| s_get gyM 9 9 <| s_const 0 <| s_call (fX9_copy N 16476 2746) 4 [6, 3] <| s_aload 0 <| s_get gyM 9 13 <| s_iret) (s_const 0 <| s_iret)
set_option maxRecDepth 100000 in
set_option maxHeartbeats 4000000 in
theorem fX9_undo_s18 {γ : gG} {ε : gE5} (N : Nat) (G : gOK γ) (hb : gcc γ = cX9_undo) (ho : gow γ = RX9) (hy : gly γ = gyM) (hR : grm γ = { frames := 1, cells := 0, slots := 0, locals := 24 }) (he : genv γ = ε) (hr : grt γ = (some .int)) (hE : gEnv ε) : gSm γ 18 (fX9_undo_k18 N) := by
  unfold fX9_undo_k18
  refine sm_mask ?_
  refine sm_iconst (pc := 18) G hb (by decide +kernel : decode cX9_undo 18 = .ok (.iconst 1, 1)) (by decide) ?_
  refine sm_callV (pc := 19) (N := 32) (T := TX9) (C := RX9) G hb ho hy he hE.1 3 [0, 1, 2, 3, 4, 5, 6, 7, 8, 9, 10, 11, 12, 13, 14, 15, 16, 17] (kX9_fails hE N) (gCo_of (by decide +kernel)) (by rw [hR]; exact ⟨by decide, by decide⟩) rfl rfl (by decide +kernel) gw6_105 gw6_107 gw0_34 gw1_11 gw6_108 (by decide +kernel : decode cX9_undo 19 = .ok (.invokevirtual 87, 3)) ?_
  refine sm_if_eq (pc := 22) (tgt := 27) G hb (by decide +kernel : decode cX9_undo 22 = .ok (.ifCond .eq 5, 3)) (by decide) ?_ ?_
  · skip
    refine sm_aload_n (pc := 27) G hb (by decide +kernel : decode cX9_undo 27 = .ok (.aload_n 0, 1)) rfl ?_
    refine sm_dup (pc := 28) G hb (by decide +kernel : decode cX9_undo 28 = .ok (.dup, 1)) ?_
    refine sm_get (pc := 29) (ci := 9) (j := 13) (N := 32) (T := TX9) G hb ho hy rfl (by decide) gin_9 gw6_9 (by decide +kernel : decode cX9_undo 29 = .ok (.getfield 230, 3)) ?_
    refine sm_iconst (pc := 32) G hb (by decide +kernel : decode cX9_undo 32 = .ok (.iconst 1, 1)) (by decide) ?_
    refine sm_isub (pc := 33) G hb (by decide +kernel : decode cX9_undo 33 = .ok (.isub, 1)) ?_
    refine sm_put (pc := 34) (ci := 9) (j := 13) (N := 32) (T := TX9) G hb ho hy tyX9 tyX9_ok nmX9 rfl (by decide) gin_9 gw6_9 rfl rfl (by decide +kernel : decode cX9_undo 34 = .ok (.putfield 230, 3)) ?_
    refine sm_aload_n (pc := 37) G hb (by decide +kernel : decode cX9_undo 37 = .ok (.aload_n 0, 1)) rfl ?_
    refine sm_get (pc := 38) (ci := 9) (j := 12) (N := 32) (T := TX9) G hb ho hy rfl (by decide) gin_9 gw6_8 (by decide +kernel : decode cX9_undo 38 = .ok (.getfield 25, 3)) ?_
    refine sm_sipush (pc := 41) G hb (by decide +kernel : decode cX9_undo 41 = .ok (.sipush 2746, 3)) (by decide) ?_
    refine sm_aload_n (pc := 44) G hb (by decide +kernel : decode cX9_undo 44 = .ok (.aload_n 0, 1)) rfl ?_
    refine sm_get (pc := 45) (ci := 9) (j := 13) (N := 32) (T := TX9) G hb ho hy rfl (by decide) gin_9 gw6_9 (by decide +kernel : decode cX9_undo 45 = .ok (.getfield 230, 3)) ?_
    refine sm_imul (pc := 48) G hb (by decide +kernel : decode cX9_undo 48 = .ok (.imul, 1)) ?_
    refine sm_aload_n (pc := 49) G hb (by decide +kernel : decode cX9_undo 49 = .ok (.aload_n 0, 1)) rfl ?_
    refine sm_get (pc := 50) (ci := 9) (j := 9) (N := 32) (T := TX9) G hb ho hy rfl (by decide) gin_9 gw6_5 (by decide +kernel : decode cX9_undo 50 = .ok (.getfield 16, 3)) ?_
    refine sm_iconst (pc := 53) G hb (by decide +kernel : decode cX9_undo 53 = .ok (.iconst 0, 1)) (by decide) ?_
    refine sm_callS (pc := 54) G hb ho hy he hE.1 4 [6, 3] (kX9_copy hE N 16476 2746) ⟨rfl, rfl, by decide⟩ (by rw [hR]; exact ⟨by decide, by decide⟩) (by decide +kernel) gw5_233 gw5_234 gw1_11 gw5_235 (by decide +kernel : decode cX9_undo 54 = .ok (.invokestatic 226, 3)) ?_
    refine sm_aload_n (pc := 57) G hb (by decide +kernel : decode cX9_undo 57 = .ok (.aload_n 0, 1)) rfl ?_
    refine sm_get (pc := 58) (ci := 9) (j := 13) (N := 32) (T := TX9) G hb ho hy rfl (by decide) gin_9 gw6_9 (by decide +kernel : decode cX9_undo 58 = .ok (.getfield 230, 3)) ?_
    exact sm_iret (pc := 61) G hb (by decide +kernel : decode cX9_undo 61 = .ok (.ireturn, 1)) hr
  · skip
    refine sm_iconst (pc := 25) G hb (by decide +kernel : decode cX9_undo 25 = .ok (.iconst 0, 1)) (by decide) ?_
    exact sm_iret (pc := 26) G hb (by decide +kernel : decode cX9_undo 26 = .ok (.ireturn, 1)) hr
def fX9_undo_k0 (N : Nat) : gK :=
  s_aload 0 <| s_const 0 <| s_put gyM 9 0 <| s_aload 0 <| s_aload 0 <| s_get gyM 9 13 <| s_if gz_le (s_const 0 <| fX9_undo_k18 N) (s_const 1 <| fX9_undo_k18 N)
set_option maxRecDepth 100000 in
set_option maxHeartbeats 4000000 in
theorem fX9_undo_s0 {γ : gG} {ε : gE5} (N : Nat) (G : gOK γ) (hb : gcc γ = cX9_undo) (ho : gow γ = RX9) (hy : gly γ = gyM) (hR : grm γ = { frames := 1, cells := 0, slots := 0, locals := 24 }) (he : genv γ = ε) (hr : grt γ = (some .int)) (hE : gEnv ε) : gSm γ 0 (fX9_undo_k0 N) := by
  unfold fX9_undo_k0
  refine sm_aload_n (pc := 0) G hb (by decide +kernel : decode cX9_undo 0 = .ok (.aload_n 0, 1)) rfl ?_
  refine sm_iconst (pc := 1) G hb (by decide +kernel : decode cX9_undo 1 = .ok (.iconst 0, 1)) (by decide) ?_
  refine sm_put (pc := 2) (ci := 9) (j := 0) (N := 32) (T := TX9) G hb ho hy tyX9 tyX9_ok nmX9 rfl (by decide) gin_9 gw5_236 rfl rfl (by decide +kernel : decode cX9_undo 2 = .ok (.putfield 76, 3)) ?_
  refine sm_aload_n (pc := 5) G hb (by decide +kernel : decode cX9_undo 5 = .ok (.aload_n 0, 1)) rfl ?_
  refine sm_aload_n (pc := 6) G hb (by decide +kernel : decode cX9_undo 6 = .ok (.aload_n 0, 1)) rfl ?_
  refine sm_get (pc := 7) (ci := 9) (j := 13) (N := 32) (T := TX9) G hb ho hy rfl (by decide) gin_9 gw6_9 (by decide +kernel : decode cX9_undo 7 = .ok (.getfield 230, 3)) ?_
  refine sm_if_le (pc := 10) (tgt := 17) G hb (by decide +kernel : decode cX9_undo 10 = .ok (.ifCond .le 7, 3)) (by decide) ?_ ?_
  · skip
    refine sm_iconst (pc := 17) G hb (by decide +kernel : decode cX9_undo 17 = .ok (.iconst 0, 1)) (by decide) ?_
    exact fX9_undo_s18 N G hb ho hy hR he hr hE
  · skip
    refine sm_iconst (pc := 13) G hb (by decide +kernel : decode cX9_undo 13 = .ok (.iconst 1, 1)) (by decide) ?_
    refine sm_goto (pc := 14) (tgt := 18) G hb (by decide +kernel : decode cX9_undo 14 = .ok (.goto 4, 3)) (by decide) ?_
    exact fX9_undo_s18 N G hb ho hy hR he hr hE
def fX9_undo (N : Nat) : List Value → gM → Option (gR × gM) := gFn 1 (fX9_undo_k0 N)
theorem kX9_undo {ε : gE5} (hE : gEnv ε) (N : Nat) : gCtr ε yX9_undo cX9_undo 1 (some .int) 1 24 gyM (fX9_undo N) :=
  gCtr_of hE.1 (by decide) (fun γ G hb ho hy hR he hr => fX9_undo_s0 N G hb ho hy hR he hr hE)

def fX9_undoCount_k0 (N : Nat) : gK :=
  s_aload 0 <| s_const 0 <| s_put gyM 9 0 <| s_aload 0 <| s_get gyM 9 13 <| s_iret
set_option maxRecDepth 100000 in
set_option maxHeartbeats 4000000 in
theorem fX9_undoCount_s0 {γ : gG} {ε : gE5} (N : Nat) (G : gOK γ) (hb : gcc γ = cX9_undoCount) (ho : gow γ = RX9) (hy : gly γ = gyM) (hR : grm γ = { frames := 0, cells := 0, slots := 0, locals := 0 }) (he : genv γ = ε) (hr : grt γ = (some .int)) (hE : gEnv ε) : gSm γ 0 (fX9_undoCount_k0 N) := by
  unfold fX9_undoCount_k0
  refine sm_aload_n (pc := 0) G hb (by decide +kernel : decode cX9_undoCount 0 = .ok (.aload_n 0, 1)) rfl ?_
  refine sm_iconst (pc := 1) G hb (by decide +kernel : decode cX9_undoCount 1 = .ok (.iconst 0, 1)) (by decide) ?_
  refine sm_put (pc := 2) (ci := 9) (j := 0) (N := 32) (T := TX9) G hb ho hy tyX9 tyX9_ok nmX9 rfl (by decide) gin_9 gw5_236 rfl rfl (by decide +kernel : decode cX9_undoCount 2 = .ok (.putfield 76, 3)) ?_
  refine sm_aload_n (pc := 5) G hb (by decide +kernel : decode cX9_undoCount 5 = .ok (.aload_n 0, 1)) rfl ?_
  refine sm_get (pc := 6) (ci := 9) (j := 13) (N := 32) (T := TX9) G hb ho hy rfl (by decide) gin_9 gw6_9 (by decide +kernel : decode cX9_undoCount 6 = .ok (.getfield 230, 3)) ?_
  exact sm_iret (pc := 9) G hb (by decide +kernel : decode cX9_undoCount 9 = .ok (.ireturn, 1)) hr
def fX9_undoCount (N : Nat) : List Value → gM → Option (gR × gM) := gFn 1 (fX9_undoCount_k0 N)
theorem kX9_undoCount {ε : gE5} (hE : gEnv ε) (N : Nat) : gCtr ε yX9_undoCount cX9_undoCount 1 (some .int) 0 0 gyM (fX9_undoCount N) :=
  gCtr_of hE.1 (by decide) (fun γ G hb ho hy hR he hr => fX9_undoCount_s0 N G hb ho hy hR he hr hE)

def fX9_save_k0 (N : Nat) : gK :=
  s_aload 0 <| s_const 0 <| s_put gyM 9 0 <| s_aload 0 <| s_get gyM 9 9 <| s_const 0 <| s_aload 0 <| s_get gyM 9 11 <| s_const 0 <| s_call (fX9_copy N 2746 2746) 4 [3, 5] <| s_aload 0 <| s_const 1 <| s_putz gyM 9 16 <| s_aload 0 <| s_get gyM 9 9 <| s_const 7 <| s_ald gyM 0 <| s_iret
set_option maxRecDepth 100000 in
set_option maxHeartbeats 4000000 in
theorem fX9_save_s0 {γ : gG} {ε : gE5} (N : Nat) (G : gOK γ) (hb : gcc γ = cX9_save) (ho : gow γ = RX9) (hy : gly γ = gyM) (hR : grm γ = { frames := 1, cells := 0, slots := 0, locals := 24 }) (he : genv γ = ε) (hr : grt γ = (some .int)) (hE : gEnv ε) : gSm γ 0 (fX9_save_k0 N) := by
  unfold fX9_save_k0
  refine sm_aload_n (pc := 0) G hb (by decide +kernel : decode cX9_save 0 = .ok (.aload_n 0, 1)) rfl ?_
  refine sm_iconst (pc := 1) G hb (by decide +kernel : decode cX9_save 1 = .ok (.iconst 0, 1)) (by decide) ?_
  refine sm_put (pc := 2) (ci := 9) (j := 0) (N := 32) (T := TX9) G hb ho hy tyX9 tyX9_ok nmX9 rfl (by decide) gin_9 gw5_236 rfl rfl (by decide +kernel : decode cX9_save 2 = .ok (.putfield 76, 3)) ?_
  refine sm_aload_n (pc := 5) G hb (by decide +kernel : decode cX9_save 5 = .ok (.aload_n 0, 1)) rfl ?_
  refine sm_get (pc := 6) (ci := 9) (j := 9) (N := 32) (T := TX9) G hb ho hy rfl (by decide) gin_9 gw6_5 (by decide +kernel : decode cX9_save 6 = .ok (.getfield 16, 3)) ?_
  refine sm_iconst (pc := 9) G hb (by decide +kernel : decode cX9_save 9 = .ok (.iconst 0, 1)) (by decide) ?_
  refine sm_aload_n (pc := 10) G hb (by decide +kernel : decode cX9_save 10 = .ok (.aload_n 0, 1)) rfl ?_
  refine sm_get (pc := 11) (ci := 9) (j := 11) (N := 32) (T := TX9) G hb ho hy rfl (by decide) gin_9 gw6_7 (by decide +kernel : decode cX9_save 11 = .ok (.getfield 22, 3)) ?_
  refine sm_iconst (pc := 14) G hb (by decide +kernel : decode cX9_save 14 = .ok (.iconst 0, 1)) (by decide) ?_
  refine sm_callS (pc := 15) G hb ho hy he hE.1 4 [3, 5] (kX9_copy hE N 2746 2746) ⟨rfl, rfl, by decide⟩ (by rw [hR]; exact ⟨by decide, by decide⟩) (by decide +kernel) gw5_233 gw5_234 gw1_11 gw5_235 (by decide +kernel : decode cX9_save 15 = .ok (.invokestatic 226, 3)) ?_
  refine sm_aload_n (pc := 18) G hb (by decide +kernel : decode cX9_save 18 = .ok (.aload_n 0, 1)) rfl ?_
  refine sm_iconst (pc := 19) G hb (by decide +kernel : decode cX9_save 19 = .ok (.iconst 1, 1)) (by decide) ?_
  refine sm_putz (pc := 20) (ci := 9) (j := 16) (N := 32) (T := TX9) G hb ho hy tyX9 tyX9_ok nmX9 rfl (by decide) gin_9 gw6_12 rfl rfl (by decide +kernel : decode cX9_save 20 = .ok (.putfield 233, 3)) ?_
  refine sm_aload_n (pc := 23) G hb (by decide +kernel : decode cX9_save 23 = .ok (.aload_n 0, 1)) rfl ?_
  refine sm_get (pc := 24) (ci := 9) (j := 9) (N := 32) (T := TX9) G hb ho hy rfl (by decide) gin_9 gw6_5 (by decide +kernel : decode cX9_save 24 = .ok (.getfield 16, 3)) ?_
  refine sm_bipush (pc := 27) G hb (by decide +kernel : decode cX9_save 27 = .ok (.bipush 7, 2)) (by decide) ?_
  refine sm_iald (pc := 29) G hb hy (by decide +kernel : decode cX9_save 29 = .ok (.iaload, 1)) ?_
  exact sm_iret (pc := 30) G hb (by decide +kernel : decode cX9_save 30 = .ok (.ireturn, 1)) hr
def fX9_save (N : Nat) : List Value → gM → Option (gR × gM) := gFn 1 (fX9_save_k0 N)
theorem kX9_save {ε : gE5} (hE : gEnv ε) (N : Nat) : gCtr ε yX9_save cX9_save 1 (some .int) 1 24 gyM (fX9_save N) :=
  gCtr_of hE.1 (by decide) (fun γ G hb ho hy hR he hr => fX9_save_s0 N G hb ho hy hR he hr hE)

def fX9_restore_k0 (N : Nat) : gK :=
  s_aload 0 <| s_const 0 <| s_put gyM 9 0 <| s_aload 0 <| s_aload 0 <| s_get gyM 9 16 <| s_const 1 <| s_callv (fX9_fails N) 3 [0, 1, 2, 3, 4, 5, 6, 7, 8, 9, 10, 11, 12, 13, 14, 15, 16, 17] <| s_if gz_eq (s_aload 0 <| s_get gyM 9 11 <| s_const 0 <| s_aload 0 <| s_get gyM 9 9 <| s_const 0 <| s_call (fX9_copy N 2746 2746) 4 [5, 3] <| s_aload 0 <| s_const 0 <| s_put gyM 9 13 <| s_aload 0 <| s_get gyM 9 9 <| s_const 7 <| s_ald gyM 0 <| s_iret) (s_const 0 <| s_iret)
set_option maxRecDepth 100000 in
set_option maxHeartbeats 4000000 in
theorem fX9_restore_s0 {γ : gG} {ε : gE5} (N : Nat) (G : gOK γ) (hb : gcc γ = cX9_restore) (ho : gow γ = RX9) (hy : gly γ = gyM) (hR : grm γ = { frames := 1, cells := 0, slots := 0, locals := 24 }) (he : genv γ = ε) (hr : grt γ = (some .int)) (hE : gEnv ε) : gSm γ 0 (fX9_restore_k0 N) := by
  unfold fX9_restore_k0
  refine sm_aload_n (pc := 0) G hb (by decide +kernel : decode cX9_restore 0 = .ok (.aload_n 0, 1)) rfl ?_
  refine sm_iconst (pc := 1) G hb (by decide +kernel : decode cX9_restore 1 = .ok (.iconst 0, 1)) (by decide) ?_
  refine sm_put (pc := 2) (ci := 9) (j := 0) (N := 32) (T := TX9) G hb ho hy tyX9 tyX9_ok nmX9 rfl (by decide) gin_9 gw5_236 rfl rfl (by decide +kernel : decode cX9_restore 2 = .ok (.putfield 76, 3)) ?_
  refine sm_aload_n (pc := 5) G hb (by decide +kernel : decode cX9_restore 5 = .ok (.aload_n 0, 1)) rfl ?_
  refine sm_aload_n (pc := 6) G hb (by decide +kernel : decode cX9_restore 6 = .ok (.aload_n 0, 1)) rfl ?_
  refine sm_get (pc := 7) (ci := 9) (j := 16) (N := 32) (T := TX9) G hb ho hy rfl (by decide) gin_9 gw6_12 (by decide +kernel : decode cX9_restore 7 = .ok (.getfield 233, 3)) ?_
  refine sm_iconst (pc := 10) G hb (by decide +kernel : decode cX9_restore 10 = .ok (.iconst 1, 1)) (by decide) ?_
  refine sm_callV (pc := 11) (N := 32) (T := TX9) (C := RX9) G hb ho hy he hE.1 3 [0, 1, 2, 3, 4, 5, 6, 7, 8, 9, 10, 11, 12, 13, 14, 15, 16, 17] (kX9_fails hE N) (gCo_of (by decide +kernel)) (by rw [hR]; exact ⟨by decide, by decide⟩) rfl rfl (by decide +kernel) gw6_105 gw6_107 gw0_34 gw1_11 gw6_108 (by decide +kernel : decode cX9_restore 11 = .ok (.invokevirtual 87, 3)) ?_
  refine sm_if_eq (pc := 14) (tgt := 19) G hb (by decide +kernel : decode cX9_restore 14 = .ok (.ifCond .eq 5, 3)) (by decide) ?_ ?_
  · skip
    refine sm_aload_n (pc := 19) G hb (by decide +kernel : decode cX9_restore 19 = .ok (.aload_n 0, 1)) rfl ?_
    refine sm_get (pc := 20) (ci := 9) (j := 11) (N := 32) (T := TX9) G hb ho hy rfl (by decide) gin_9 gw6_7 (by decide +kernel : decode cX9_restore 20 = .ok (.getfield 22, 3)) ?_
    refine sm_iconst (pc := 23) G hb (by decide +kernel : decode cX9_restore 23 = .ok (.iconst 0, 1)) (by decide) ?_
    refine sm_aload_n (pc := 24) G hb (by decide +kernel : decode cX9_restore 24 = .ok (.aload_n 0, 1)) rfl ?_
    refine sm_get (pc := 25) (ci := 9) (j := 9) (N := 32) (T := TX9) G hb ho hy rfl (by decide) gin_9 gw6_5 (by decide +kernel : decode cX9_restore 25 = .ok (.getfield 16, 3)) ?_
    refine sm_iconst (pc := 28) G hb (by decide +kernel : decode cX9_restore 28 = .ok (.iconst 0, 1)) (by decide) ?_
    refine sm_callS (pc := 29) G hb ho hy he hE.1 4 [5, 3] (kX9_copy hE N 2746 2746) ⟨rfl, rfl, by decide⟩ (by rw [hR]; exact ⟨by decide, by decide⟩) (by decide +kernel) gw5_233 gw5_234 gw1_11 gw5_235 (by decide +kernel : decode cX9_restore 29 = .ok (.invokestatic 226, 3)) ?_
    refine sm_aload_n (pc := 32) G hb (by decide +kernel : decode cX9_restore 32 = .ok (.aload_n 0, 1)) rfl ?_
    refine sm_iconst (pc := 33) G hb (by decide +kernel : decode cX9_restore 33 = .ok (.iconst 0, 1)) (by decide) ?_
    refine sm_put (pc := 34) (ci := 9) (j := 13) (N := 32) (T := TX9) G hb ho hy tyX9 tyX9_ok nmX9 rfl (by decide) gin_9 gw6_9 rfl rfl (by decide +kernel : decode cX9_restore 34 = .ok (.putfield 230, 3)) ?_
    refine sm_aload_n (pc := 37) G hb (by decide +kernel : decode cX9_restore 37 = .ok (.aload_n 0, 1)) rfl ?_
    refine sm_get (pc := 38) (ci := 9) (j := 9) (N := 32) (T := TX9) G hb ho hy rfl (by decide) gin_9 gw6_5 (by decide +kernel : decode cX9_restore 38 = .ok (.getfield 16, 3)) ?_
    refine sm_bipush (pc := 41) G hb (by decide +kernel : decode cX9_restore 41 = .ok (.bipush 7, 2)) (by decide) ?_
    refine sm_iald (pc := 43) G hb hy (by decide +kernel : decode cX9_restore 43 = .ok (.iaload, 1)) ?_
    exact sm_iret (pc := 44) G hb (by decide +kernel : decode cX9_restore 44 = .ok (.ireturn, 1)) hr
  · skip
    refine sm_iconst (pc := 17) G hb (by decide +kernel : decode cX9_restore 17 = .ok (.iconst 0, 1)) (by decide) ?_
    exact sm_iret (pc := 18) G hb (by decide +kernel : decode cX9_restore 18 = .ok (.ireturn, 1)) hr
def fX9_restore (N : Nat) : List Value → gM → Option (gR × gM) := gFn 1 (fX9_restore_k0 N)
theorem kX9_restore {ε : gE5} (hE : gEnv ε) (N : Nat) : gCtr ε yX9_restore cX9_restore 1 (some .int) 1 24 gyM (fX9_restore N) :=
  gCtr_of hE.1 (by decide) (fun γ G hb ho hy hR he hr => fX9_restore_s0 N G hb ho hy hR he hr hE)

def fX9_linkPart_k0 (N : Nat) : gK :=
  s_aload 0 <| s_get gyM 9 9 <| s_const 9 <| s_const 4 <| s_iload 1 <| s_bin gb_mul <| s_bin gb_add <| s_iload 2 <| s_bin gb_add <| s_ald gyM 0 <| s_iret
set_option maxRecDepth 100000 in
set_option maxHeartbeats 4000000 in
theorem fX9_linkPart_s0 {γ : gG} {ε : gE5} (N : Nat) (G : gOK γ) (hb : gcc γ = cX9_linkPart) (ho : gow γ = RX9) (hy : gly γ = gyM) (hR : grm γ = { frames := 0, cells := 0, slots := 0, locals := 0 }) (he : genv γ = ε) (hr : grt γ = (some .int)) (hE : gEnv ε) : gSm γ 0 (fX9_linkPart_k0 N) := by
  unfold fX9_linkPart_k0
  refine sm_aload_n (pc := 0) G hb (by decide +kernel : decode cX9_linkPart 0 = .ok (.aload_n 0, 1)) rfl ?_
  refine sm_get (pc := 1) (ci := 9) (j := 9) (N := 32) (T := TX9) G hb ho hy rfl (by decide) gin_9 gw6_5 (by decide +kernel : decode cX9_linkPart 1 = .ok (.getfield 16, 3)) ?_
  refine sm_bipush (pc := 4) G hb (by decide +kernel : decode cX9_linkPart 4 = .ok (.bipush 9, 2)) (by decide) ?_
  refine sm_iconst (pc := 6) G hb (by decide +kernel : decode cX9_linkPart 6 = .ok (.iconst 4, 1)) (by decide) ?_
  refine sm_iload_n (pc := 7) G hb (by decide +kernel : decode cX9_linkPart 7 = .ok (.iload_n 1, 1)) rfl ?_
  refine sm_imul (pc := 8) G hb (by decide +kernel : decode cX9_linkPart 8 = .ok (.imul, 1)) ?_
  refine sm_iadd (pc := 9) G hb (by decide +kernel : decode cX9_linkPart 9 = .ok (.iadd, 1)) ?_
  refine sm_iload_n (pc := 10) G hb (by decide +kernel : decode cX9_linkPart 10 = .ok (.iload_n 2, 1)) rfl ?_
  refine sm_iadd (pc := 11) G hb (by decide +kernel : decode cX9_linkPart 11 = .ok (.iadd, 1)) ?_
  refine sm_iald (pc := 12) G hb hy (by decide +kernel : decode cX9_linkPart 12 = .ok (.iaload, 1)) ?_
  exact sm_iret (pc := 13) G hb (by decide +kernel : decode cX9_linkPart 13 = .ok (.ireturn, 1)) hr
def fX9_linkPart (N : Nat) : List Value → gM → Option (gR × gM) := gFn 3 (fX9_linkPart_k0 N)
theorem kX9_linkPart {ε : gE5} (hE : gEnv ε) (N : Nat) : gCtr ε yX9_linkPart cX9_linkPart 3 (some .int) 0 0 gyM (fX9_linkPart N) :=
  gCtr_of hE.1 (by decide) (fun γ G hb ho hy hR he hr => fX9_linkPart_s0 N G hb ho hy hR he hr hE)

def fX9_flowPart_k0 (N : Nat) : gK :=
  s_aload 0 <| s_get gyM 9 9 <| s_const 65 <| s_const 11 <| s_iload 1 <| s_bin gb_mul <| s_bin gb_add <| s_iload 2 <| s_bin gb_add <| s_ald gyM 0 <| s_iret
set_option maxRecDepth 100000 in
set_option maxHeartbeats 4000000 in
theorem fX9_flowPart_s0 {γ : gG} {ε : gE5} (N : Nat) (G : gOK γ) (hb : gcc γ = cX9_flowPart) (ho : gow γ = RX9) (hy : gly γ = gyM) (hR : grm γ = { frames := 0, cells := 0, slots := 0, locals := 0 }) (he : genv γ = ε) (hr : grt γ = (some .int)) (hE : gEnv ε) : gSm γ 0 (fX9_flowPart_k0 N) := by
  unfold fX9_flowPart_k0
  refine sm_aload_n (pc := 0) G hb (by decide +kernel : decode cX9_flowPart 0 = .ok (.aload_n 0, 1)) rfl ?_
  refine sm_get (pc := 1) (ci := 9) (j := 9) (N := 32) (T := TX9) G hb ho hy rfl (by decide) gin_9 gw6_5 (by decide +kernel : decode cX9_flowPart 1 = .ok (.getfield 16, 3)) ?_
  refine sm_bipush (pc := 4) G hb (by decide +kernel : decode cX9_flowPart 4 = .ok (.bipush 65, 2)) (by decide) ?_
  refine sm_bipush (pc := 6) G hb (by decide +kernel : decode cX9_flowPart 6 = .ok (.bipush 11, 2)) (by decide) ?_
  refine sm_iload_n (pc := 8) G hb (by decide +kernel : decode cX9_flowPart 8 = .ok (.iload_n 1, 1)) rfl ?_
  refine sm_imul (pc := 9) G hb (by decide +kernel : decode cX9_flowPart 9 = .ok (.imul, 1)) ?_
  refine sm_iadd (pc := 10) G hb (by decide +kernel : decode cX9_flowPart 10 = .ok (.iadd, 1)) ?_
  refine sm_iload_n (pc := 11) G hb (by decide +kernel : decode cX9_flowPart 11 = .ok (.iload_n 2, 1)) rfl ?_
  refine sm_iadd (pc := 12) G hb (by decide +kernel : decode cX9_flowPart 12 = .ok (.iadd, 1)) ?_
  refine sm_iald (pc := 13) G hb hy (by decide +kernel : decode cX9_flowPart 13 = .ok (.iaload, 1)) ?_
  exact sm_iret (pc := 14) G hb (by decide +kernel : decode cX9_flowPart 14 = .ok (.ireturn, 1)) hr
def fX9_flowPart (N : Nat) : List Value → gM → Option (gR × gM) := gFn 3 (fX9_flowPart_k0 N)
theorem kX9_flowPart {ε : gE5} (hE : gEnv ε) (N : Nat) : gCtr ε yX9_flowPart cX9_flowPart 3 (some .int) 0 0 gyM (fX9_flowPart N) :=
  gCtr_of hE.1 (by decide) (fun γ G hb ho hy hR he hr => fX9_flowPart_s0 N G hb ho hy hR he hr hE)

def fX9_count_k0 (N : Nat) : gK :=
  s_aload 0 <| s_get gyM 9 9 <| s_const 65 <| s_const 11 <| s_iload 1 <| s_bin gb_mul <| s_bin gb_add <| s_iload 2 <| s_bin gb_add <| s_dup2 <| s_ald gyM 0 <| s_iload 3 <| s_bin gb_add <| s_ast gyM 0 <| s_vret
set_option maxRecDepth 100000 in
set_option maxHeartbeats 4000000 in
theorem fX9_count_s0 {γ : gG} {ε : gE5} (N : Nat) (G : gOK γ) (hb : gcc γ = cX9_count) (ho : gow γ = RX9) (hy : gly γ = gyM) (hR : grm γ = { frames := 0, cells := 0, slots := 0, locals := 0 }) (he : genv γ = ε) (hr : grt γ = none) (hE : gEnv ε) : gSm γ 0 (fX9_count_k0 N) := by
  unfold fX9_count_k0
  refine sm_aload_n (pc := 0) G hb (by decide +kernel : decode cX9_count 0 = .ok (.aload_n 0, 1)) rfl ?_
  refine sm_get (pc := 1) (ci := 9) (j := 9) (N := 32) (T := TX9) G hb ho hy rfl (by decide) gin_9 gw6_5 (by decide +kernel : decode cX9_count 1 = .ok (.getfield 16, 3)) ?_
  refine sm_bipush (pc := 4) G hb (by decide +kernel : decode cX9_count 4 = .ok (.bipush 65, 2)) (by decide) ?_
  refine sm_bipush (pc := 6) G hb (by decide +kernel : decode cX9_count 6 = .ok (.bipush 11, 2)) (by decide) ?_
  refine sm_iload_n (pc := 8) G hb (by decide +kernel : decode cX9_count 8 = .ok (.iload_n 1, 1)) rfl ?_
  refine sm_imul (pc := 9) G hb (by decide +kernel : decode cX9_count 9 = .ok (.imul, 1)) ?_
  refine sm_iadd (pc := 10) G hb (by decide +kernel : decode cX9_count 10 = .ok (.iadd, 1)) ?_
  refine sm_iload_n (pc := 11) G hb (by decide +kernel : decode cX9_count 11 = .ok (.iload_n 2, 1)) rfl ?_
  refine sm_iadd (pc := 12) G hb (by decide +kernel : decode cX9_count 12 = .ok (.iadd, 1)) ?_
  refine sm_dup2 (pc := 13) G hb (by decide +kernel : decode cX9_count 13 = .ok (.dup2, 1)) ?_
  refine sm_iald (pc := 14) G hb hy (by decide +kernel : decode cX9_count 14 = .ok (.iaload, 1)) ?_
  refine sm_iload_n (pc := 15) G hb (by decide +kernel : decode cX9_count 15 = .ok (.iload_n 3, 1)) rfl ?_
  refine sm_iadd (pc := 16) G hb (by decide +kernel : decode cX9_count 16 = .ok (.iadd, 1)) ?_
  refine sm_iast (pc := 17) G hb hy (by decide +kernel : decode cX9_count 17 = .ok (.iastore, 1)) ?_
  exact sm_vret (pc := 18) G hb (by decide +kernel : decode cX9_count 18 = .ok (.return_, 1)) hr
def fX9_count (N : Nat) : List Value → gM → Option (gR × gM) := gFn 4 (fX9_count_k0 N)
theorem kX9_count {ε : gE5} (hE : gEnv ε) (N : Nat) : gCtr ε yX9_count cX9_count 4 none 0 0 gyM (fX9_count N) :=
  gCtr_of hE.1 (by decide) (fun γ G hb ho hy hR he hr => fX9_count_s0 N G hb ho hy hR he hr hE)

def fX9_packetPart_k0 (N : Nat) : gK :=
  s_aload 0 <| s_get gyM 9 9 <| s_const 246 <| s_const 5 <| s_iload 1 <| s_bin gb_mul <| s_bin gb_add <| s_iload 2 <| s_bin gb_add <| s_ald gyM 0 <| s_iret
set_option maxRecDepth 100000 in
set_option maxHeartbeats 4000000 in
theorem fX9_packetPart_s0 {γ : gG} {ε : gE5} (N : Nat) (G : gOK γ) (hb : gcc γ = cX9_packetPart) (ho : gow γ = RX9) (hy : gly γ = gyM) (hR : grm γ = { frames := 0, cells := 0, slots := 0, locals := 0 }) (he : genv γ = ε) (hr : grt γ = (some .int)) (hE : gEnv ε) : gSm γ 0 (fX9_packetPart_k0 N) := by
  unfold fX9_packetPart_k0
  refine sm_aload_n (pc := 0) G hb (by decide +kernel : decode cX9_packetPart 0 = .ok (.aload_n 0, 1)) rfl ?_
  refine sm_get (pc := 1) (ci := 9) (j := 9) (N := 32) (T := TX9) G hb ho hy rfl (by decide) gin_9 gw6_5 (by decide +kernel : decode cX9_packetPart 1 = .ok (.getfield 16, 3)) ?_
  refine sm_sipush (pc := 4) G hb (by decide +kernel : decode cX9_packetPart 4 = .ok (.sipush 246, 3)) (by decide) ?_
  refine sm_iconst (pc := 7) G hb (by decide +kernel : decode cX9_packetPart 7 = .ok (.iconst 5, 1)) (by decide) ?_
  refine sm_iload_n (pc := 8) G hb (by decide +kernel : decode cX9_packetPart 8 = .ok (.iload_n 1, 1)) rfl ?_
  refine sm_imul (pc := 9) G hb (by decide +kernel : decode cX9_packetPart 9 = .ok (.imul, 1)) ?_
  refine sm_iadd (pc := 10) G hb (by decide +kernel : decode cX9_packetPart 10 = .ok (.iadd, 1)) ?_
  refine sm_iload_n (pc := 11) G hb (by decide +kernel : decode cX9_packetPart 11 = .ok (.iload_n 2, 1)) rfl ?_
  refine sm_iadd (pc := 12) G hb (by decide +kernel : decode cX9_packetPart 12 = .ok (.iadd, 1)) ?_
  refine sm_iald (pc := 13) G hb hy (by decide +kernel : decode cX9_packetPart 13 = .ok (.iaload, 1)) ?_
  exact sm_iret (pc := 14) G hb (by decide +kernel : decode cX9_packetPart 14 = .ok (.ireturn, 1)) hr
def fX9_packetPart (N : Nat) : List Value → gM → Option (gR × gM) := gFn 3 (fX9_packetPart_k0 N)
theorem kX9_packetPart {ε : gE5} (hE : gEnv ε) (N : Nat) : gCtr ε yX9_packetPart cX9_packetPart 3 (some .int) 0 0 gyM (fX9_packetPart N) :=
  gCtr_of hE.1 (by decide) (fun γ G hb ho hy hR he hr => fX9_packetPart_s0 N G hb ho hy hR he hr hE)

def fX9_goalOf_k0 (N : Nat) : gK :=
  s_aload 0 <| s_aload 0 <| s_iload 1 <| s_const 0 <| s_callv (fX9_packetPart N) 3 [0, 1, 2, 3, 4, 5, 6, 7, 8, 9, 10, 11, 12, 13, 14, 15, 16, 17] <| s_const 1 <| s_callv (fX9_flowPart N) 3 [0, 1, 2, 3, 4, 5, 6, 7, 8, 9, 10, 11, 12, 13, 14, 15, 16, 17] <| s_iret
set_option maxRecDepth 100000 in
set_option maxHeartbeats 4000000 in
theorem fX9_goalOf_s0 {γ : gG} {ε : gE5} (N : Nat) (G : gOK γ) (hb : gcc γ = cX9_goalOf) (ho : gow γ = RX9) (hy : gly γ = gyM) (hR : grm γ = { frames := 1, cells := 0, slots := 0, locals := 22 }) (he : genv γ = ε) (hr : grt γ = (some .int)) (hE : gEnv ε) : gSm γ 0 (fX9_goalOf_k0 N) := by
  unfold fX9_goalOf_k0
  refine sm_aload_n (pc := 0) G hb (by decide +kernel : decode cX9_goalOf 0 = .ok (.aload_n 0, 1)) rfl ?_
  refine sm_aload_n (pc := 1) G hb (by decide +kernel : decode cX9_goalOf 1 = .ok (.aload_n 0, 1)) rfl ?_
  refine sm_iload_n (pc := 2) G hb (by decide +kernel : decode cX9_goalOf 2 = .ok (.iload_n 1, 1)) rfl ?_
  refine sm_iconst (pc := 3) G hb (by decide +kernel : decode cX9_goalOf 3 = .ok (.iconst 0, 1)) (by decide) ?_
  refine sm_callV (pc := 4) (N := 32) (T := TX9) (C := RX9) G hb ho hy he hE.1 3 [0, 1, 2, 3, 4, 5, 6, 7, 8, 9, 10, 11, 12, 13, 14, 15, 16, 17] (kX9_packetPart hE N) (gCo_of (by decide +kernel)) (by rw [hR]; exact ⟨by decide, by decide⟩) rfl rfl (by decide +kernel) gw7_84 gw7_86 gw0_63 gw1_11 gw7_87 (by decide +kernel : decode cX9_goalOf 4 = .ok (.invokevirtual 237, 3)) ?_
  refine sm_iconst (pc := 7) G hb (by decide +kernel : decode cX9_goalOf 7 = .ok (.iconst 1, 1)) (by decide) ?_
  refine sm_callV (pc := 8) (N := 32) (T := TX9) (C := RX9) G hb ho hy he hE.1 3 [0, 1, 2, 3, 4, 5, 6, 7, 8, 9, 10, 11, 12, 13, 14, 15, 16, 17] (kX9_flowPart hE N) (gCo_of (by decide +kernel)) (by rw [hR]; exact ⟨by decide, by decide⟩) rfl rfl (by decide +kernel) gw7_64 gw7_66 gw0_59 gw1_11 gw7_67 (by decide +kernel : decode cX9_goalOf 8 = .ok (.invokevirtual 240, 3)) ?_
  exact sm_iret (pc := 11) G hb (by decide +kernel : decode cX9_goalOf 11 = .ok (.ireturn, 1)) hr
def fX9_goalOf (N : Nat) : List Value → gM → Option (gR × gM) := gFn 2 (fX9_goalOf_k0 N)
theorem kX9_goalOf {ε : gE5} (hE : gEnv ε) (N : Nat) : gCtr ε yX9_goalOf cX9_goalOf 2 (some .int) 1 22 gyM (fX9_goalOf N) :=
  gCtr_of hE.1 (by decide) (fun γ G hb ho hy hR he hr => fX9_goalOf_s0 N G hb ho hy hR he hr hE)

def fX9_isQueued_k0 (N : Nat) : gK :=
  s_aload 0 <| s_iload 1 <| s_const 4 <| s_callv (fX9_packetPart N) 3 [0, 1, 2, 3, 4, 5, 6, 7, 8, 9, 10, 11, 12, 13, 14, 15, 16, 17] <| s_iload 2 <| s_cmp gc_ne (s_const 0 <| s_zret) (s_aload 0 <| s_iload 1 <| s_callv (fX9_goalOf N) 2 [0, 1, 2, 3, 4, 5, 6, 7, 8, 9, 10, 11, 12, 13, 14, 15, 16, 17] <| s_iload 3 <| s_cmp gc_ne (s_const 0 <| s_zret) (s_const 1 <| s_zret))
set_option maxRecDepth 100000 in
set_option maxHeartbeats 4000000 in
theorem fX9_isQueued_s0 {γ : gG} {ε : gE5} (N : Nat) (G : gOK γ) (hb : gcc γ = cX9_isQueued) (ho : gow γ = RX9) (hy : gly γ = gyM) (hR : grm γ = { frames := 2, cells := 0, slots := 0, locals := 43 }) (he : genv γ = ε) (hr : grt γ = (some .boolean)) (hE : gEnv ε) : gSm γ 0 (fX9_isQueued_k0 N) := by
  unfold fX9_isQueued_k0
  refine sm_aload_n (pc := 0) G hb (by decide +kernel : decode cX9_isQueued 0 = .ok (.aload_n 0, 1)) rfl ?_
  refine sm_iload_n (pc := 1) G hb (by decide +kernel : decode cX9_isQueued 1 = .ok (.iload_n 1, 1)) rfl ?_
  refine sm_iconst (pc := 2) G hb (by decide +kernel : decode cX9_isQueued 2 = .ok (.iconst 4, 1)) (by decide) ?_
  refine sm_callV (pc := 3) (N := 32) (T := TX9) (C := RX9) G hb ho hy he hE.1 3 [0, 1, 2, 3, 4, 5, 6, 7, 8, 9, 10, 11, 12, 13, 14, 15, 16, 17] (kX9_packetPart hE N) (gCo_of (by decide +kernel)) (by rw [hR]; exact ⟨by decide, by decide⟩) rfl rfl (by decide +kernel) gw7_84 gw7_86 gw0_63 gw1_11 gw7_87 (by decide +kernel : decode cX9_isQueued 3 = .ok (.invokevirtual 237, 3)) ?_
  refine sm_iload_n (pc := 6) G hb (by decide +kernel : decode cX9_isQueued 6 = .ok (.iload_n 2, 1)) rfl ?_
  refine sm_icmp_ne (pc := 7) (tgt := 23) G hb (by decide +kernel : decode cX9_isQueued 7 = .ok (.if_icmp .ne 16, 3)) (by decide) ?_ ?_
  · skip
    refine sm_iconst (pc := 23) G hb (by decide +kernel : decode cX9_isQueued 23 = .ok (.iconst 0, 1)) (by decide) ?_
    exact sm_zret (pc := 24) G hb (by decide +kernel : decode cX9_isQueued 24 = .ok (.ireturn, 1)) hr
  · skip
    refine sm_aload_n (pc := 10) G hb (by decide +kernel : decode cX9_isQueued 10 = .ok (.aload_n 0, 1)) rfl ?_
    refine sm_iload_n (pc := 11) G hb (by decide +kernel : decode cX9_isQueued 11 = .ok (.iload_n 1, 1)) rfl ?_
    refine sm_callV (pc := 12) (N := 32) (T := TX9) (C := RX9) G hb ho hy he hE.1 2 [0, 1, 2, 3, 4, 5, 6, 7, 8, 9, 10, 11, 12, 13, 14, 15, 16, 17] (kX9_goalOf hE N) (gCo_of (by decide +kernel)) (by rw [hR]; exact ⟨by decide, by decide⟩) rfl rfl (by decide +kernel) gw7_88 gw7_90 gw0_64 gw1_11 gw7_91 (by decide +kernel : decode cX9_isQueued 12 = .ok (.invokevirtual 243, 3)) ?_
    refine sm_iload_n (pc := 15) G hb (by decide +kernel : decode cX9_isQueued 15 = .ok (.iload_n 3, 1)) rfl ?_
    refine sm_icmp_ne (pc := 16) (tgt := 23) G hb (by decide +kernel : decode cX9_isQueued 16 = .ok (.if_icmp .ne 7, 3)) (by decide) ?_ ?_
    · skip
      refine sm_iconst (pc := 23) G hb (by decide +kernel : decode cX9_isQueued 23 = .ok (.iconst 0, 1)) (by decide) ?_
      exact sm_zret (pc := 24) G hb (by decide +kernel : decode cX9_isQueued 24 = .ok (.ireturn, 1)) hr
    · skip
      refine sm_iconst (pc := 19) G hb (by decide +kernel : decode cX9_isQueued 19 = .ok (.iconst 1, 1)) (by decide) ?_
      refine sm_goto (pc := 20) (tgt := 24) G hb (by decide +kernel : decode cX9_isQueued 20 = .ok (.goto 4, 3)) (by decide) ?_
      exact sm_zret (pc := 24) G hb (by decide +kernel : decode cX9_isQueued 24 = .ok (.ireturn, 1)) hr
def fX9_isQueued (N : Nat) : List Value → gM → Option (gR × gM) := gFn 4 (fX9_isQueued_k0 N)
theorem kX9_isQueued {ε : gE5} (hE : gEnv ε) (N : Nat) : gCtr ε yX9_isQueued cX9_isQueued 4 (some .boolean) 2 43 gyM (fX9_isQueued N) :=
  gCtr_of hE.1 (by decide) (fun γ G hb ho hy hR he hr => fX9_isQueued_s0 N G hb ho hy hR he hr hE)

def fX9_queued_k35 (N : Nat) (K5 : gK) : gK := s_mask [true, true, true, false, true] <|
  s_bin gb_add <| s_istore 3 <| s_iinc 4 1 <| K5
set_option maxRecDepth 100000 in
set_option maxHeartbeats 4000000 in
theorem fX9_queued_s35 {γ : gG} {ε : gE5} (N : Nat) (G : gOK γ) (hb : gcc γ = cX9_queued) (ho : gow γ = RX9) (hy : gly γ = gyM) (hR : grm γ = { frames := 3, cells := 0, slots := 0, locals := 66 }) (he : genv γ = ε) (hr : grt γ = (some .int)) (hE : gEnv ε) (K5 : gK) (h5 : gSm γ 5 K5) : gSm γ 35 (fX9_queued_k35 N K5) := by
  unfold fX9_queued_k35
  refine sm_mask ?_
  refine sm_iadd (pc := 35) G hb (by decide +kernel : decode cX9_queued 35 = .ok (.iadd, 1)) ?_
  refine sm_istore_n (pc := 36) G hb (by decide +kernel : decode cX9_queued 36 = .ok (.istore_n 3, 1)) rfl ?_
  refine sm_iinc (pc := 37) G hb (by decide +kernel : decode cX9_queued 37 = .ok (.iinc 4 1, 3)) (by decide) ?_
  refine sm_goto (pc := 40) (tgt := 5) G hb (by decide +kernel : decode cX9_queued 40 = .ok (.goto (-35), 3)) (by decide) ?_
  exact h5
def fX9_queued_k5 (N : Nat) : gK := s_lp (fun K5 => s_mask [true, true, true, true, true] <|
  s_iload 4 <| s_aload 0 <| s_get gyM 9 9 <| s_const 245 <| s_ald gyM 0 <| s_cmp gc_ge (s_iload 3 <| s_iret) (s_iload 3 <| s_aload 0 <| s_iload 4 <| s_iload 1 <| s_iload 2 <| s_callv (fX9_isQueued N) 4 [0, 1, 2, 3, 4, 5, 6, 7, 8, 9, 10, 11, 12, 13, 14, 15, 16, 17] <| s_if gz_eq (s_const 0 <| fX9_queued_k35 N K5) (s_const 1 <| fX9_queued_k35 N K5))) N
set_option maxRecDepth 100000 in
set_option maxHeartbeats 4000000 in
theorem fX9_queued_s5 {γ : gG} {ε : gE5} (N : Nat) (G : gOK γ) (hb : gcc γ = cX9_queued) (ho : gow γ = RX9) (hy : gly γ = gyM) (hR : grm γ = { frames := 3, cells := 0, slots := 0, locals := 66 }) (he : genv γ = ε) (hr : grt γ = (some .int)) (hE : gEnv ε) : gSm γ 5 (fX9_queued_k5 N) := by
  unfold fX9_queued_k5
  refine sm_lp (fun K5 h5 => ?_) N
  refine sm_mask ?_
  refine sm_iload (pc := 5) G hb (by decide +kernel : decode cX9_queued 5 = .ok (.iload 4, 2)) ?_
  refine sm_aload_n (pc := 7) G hb (by decide +kernel : decode cX9_queued 7 = .ok (.aload_n 0, 1)) rfl ?_
  refine sm_get (pc := 8) (ci := 9) (j := 9) (N := 32) (T := TX9) G hb ho hy rfl (by decide) gin_9 gw6_5 (by decide +kernel : decode cX9_queued 8 = .ok (.getfield 16, 3)) ?_
  refine sm_sipush (pc := 11) G hb (by decide +kernel : decode cX9_queued 11 = .ok (.sipush 245, 3)) (by decide) ?_
  refine sm_iald (pc := 14) G hb hy (by decide +kernel : decode cX9_queued 14 = .ok (.iaload, 1)) ?_
  refine sm_icmp_ge (pc := 15) (tgt := 43) G hb (by decide +kernel : decode cX9_queued 15 = .ok (.if_icmp .ge 28, 3)) (by decide) ?_ ?_
  · skip
    refine sm_iload_n (pc := 43) G hb (by decide +kernel : decode cX9_queued 43 = .ok (.iload_n 3, 1)) rfl ?_
    exact sm_iret (pc := 44) G hb (by decide +kernel : decode cX9_queued 44 = .ok (.ireturn, 1)) hr
  · skip
    refine sm_iload_n (pc := 18) G hb (by decide +kernel : decode cX9_queued 18 = .ok (.iload_n 3, 1)) rfl ?_
    refine sm_aload_n (pc := 19) G hb (by decide +kernel : decode cX9_queued 19 = .ok (.aload_n 0, 1)) rfl ?_
    refine sm_iload (pc := 20) G hb (by decide +kernel : decode cX9_queued 20 = .ok (.iload 4, 2)) ?_
    refine sm_iload_n (pc := 22) G hb (by decide +kernel : decode cX9_queued 22 = .ok (.iload_n 1, 1)) rfl ?_
    refine sm_iload_n (pc := 23) G hb (by decide +kernel : decode cX9_queued 23 = .ok (.iload_n 2, 1)) rfl ?_
    refine sm_callV (pc := 24) (N := 32) (T := TX9) (C := RX9) G hb ho hy he hE.1 4 [0, 1, 2, 3, 4, 5, 6, 7, 8, 9, 10, 11, 12, 13, 14, 15, 16, 17] (kX9_isQueued hE N) (gCo_of (by decide +kernel)) (by rw [hR]; exact ⟨by decide, by decide⟩) rfl rfl (by decide +kernel) gw7_80 gw7_82 gw0_62 gw1_11 gw7_83 (by decide +kernel : decode cX9_queued 24 = .ok (.invokevirtual 246, 3)) ?_
    refine sm_if_eq (pc := 27) (tgt := 34) G hb (by decide +kernel : decode cX9_queued 27 = .ok (.ifCond .eq 7, 3)) (by decide) ?_ ?_
    · skip
      refine sm_iconst (pc := 34) G hb (by decide +kernel : decode cX9_queued 34 = .ok (.iconst 0, 1)) (by decide) ?_
      exact fX9_queued_s35 N G hb ho hy hR he hr hE K5 h5
    · skip
      refine sm_iconst (pc := 30) G hb (by decide +kernel : decode cX9_queued 30 = .ok (.iconst 1, 1)) (by decide) ?_
      refine sm_goto (pc := 31) (tgt := 35) G hb (by decide +kernel : decode cX9_queued 31 = .ok (.goto 4, 3)) (by decide) ?_
      exact fX9_queued_s35 N G hb ho hy hR he hr hE K5 h5
def fX9_queued_k0 (N : Nat) : gK :=
  s_const 0 <| s_istore 3 <| s_const 0 <| s_istore 4 <| fX9_queued_k5 N
set_option maxRecDepth 100000 in
set_option maxHeartbeats 4000000 in
theorem fX9_queued_s0 {γ : gG} {ε : gE5} (N : Nat) (G : gOK γ) (hb : gcc γ = cX9_queued) (ho : gow γ = RX9) (hy : gly γ = gyM) (hR : grm γ = { frames := 3, cells := 0, slots := 0, locals := 66 }) (he : genv γ = ε) (hr : grt γ = (some .int)) (hE : gEnv ε) : gSm γ 0 (fX9_queued_k0 N) := by
  unfold fX9_queued_k0
  refine sm_iconst (pc := 0) G hb (by decide +kernel : decode cX9_queued 0 = .ok (.iconst 0, 1)) (by decide) ?_
  refine sm_istore_n (pc := 1) G hb (by decide +kernel : decode cX9_queued 1 = .ok (.istore_n 3, 1)) rfl ?_
  refine sm_iconst (pc := 2) G hb (by decide +kernel : decode cX9_queued 2 = .ok (.iconst 0, 1)) (by decide) ?_
  refine sm_istore (pc := 3) G hb (by decide +kernel : decode cX9_queued 3 = .ok (.istore 4, 2)) ?_
  exact fX9_queued_s5 N G hb ho hy hR he hr hE
def fX9_queued (N : Nat) : List Value → gM → Option (gR × gM) := gFn 5 (fX9_queued_k0 N)
theorem kX9_queued {ε : gE5} (hE : gEnv ε) (N : Nat) : gCtr ε yX9_queued cX9_queued 5 (some .int) 3 66 gyM (fX9_queued N) :=
  gCtr_of hE.1 (by decide) (fun γ G hb ho hy hR he hr => fX9_queued_s0 N G hb ho hy hR he hr hE)

def fX9_shadowOf_k0 (N : Nat) : gK :=
  s_aload 0 <| s_get gyM 9 9 <| s_const 145 <| s_const 10 <| s_iload 1 <| s_bin gb_mul <| s_bin gb_add <| s_iload 2 <| s_bin gb_add <| s_ald gyM 0 <| s_iret
set_option maxRecDepth 100000 in
set_option maxHeartbeats 4000000 in
theorem fX9_shadowOf_s0 {γ : gG} {ε : gE5} (N : Nat) (G : gOK γ) (hb : gcc γ = cX9_shadowOf) (ho : gow γ = RX9) (hy : gly γ = gyM) (hR : grm γ = { frames := 0, cells := 0, slots := 0, locals := 0 }) (he : genv γ = ε) (hr : grt γ = (some .int)) (hE : gEnv ε) : gSm γ 0 (fX9_shadowOf_k0 N) := by
  unfold fX9_shadowOf_k0
  refine sm_aload_n (pc := 0) G hb (by decide +kernel : decode cX9_shadowOf 0 = .ok (.aload_n 0, 1)) rfl ?_
  refine sm_get (pc := 1) (ci := 9) (j := 9) (N := 32) (T := TX9) G hb ho hy rfl (by decide) gin_9 gw6_5 (by decide +kernel : decode cX9_shadowOf 1 = .ok (.getfield 16, 3)) ?_
  refine sm_sipush (pc := 4) G hb (by decide +kernel : decode cX9_shadowOf 4 = .ok (.sipush 145, 3)) (by decide) ?_
  refine sm_bipush (pc := 7) G hb (by decide +kernel : decode cX9_shadowOf 7 = .ok (.bipush 10, 2)) (by decide) ?_
  refine sm_iload_n (pc := 9) G hb (by decide +kernel : decode cX9_shadowOf 9 = .ok (.iload_n 1, 1)) rfl ?_
  refine sm_imul (pc := 10) G hb (by decide +kernel : decode cX9_shadowOf 10 = .ok (.imul, 1)) ?_
  refine sm_iadd (pc := 11) G hb (by decide +kernel : decode cX9_shadowOf 11 = .ok (.iadd, 1)) ?_
  refine sm_iload_n (pc := 12) G hb (by decide +kernel : decode cX9_shadowOf 12 = .ok (.iload_n 2, 1)) rfl ?_
  refine sm_iadd (pc := 13) G hb (by decide +kernel : decode cX9_shadowOf 13 = .ok (.iadd, 1)) ?_
  refine sm_iald (pc := 14) G hb hy (by decide +kernel : decode cX9_shadowOf 14 = .ok (.iaload, 1)) ?_
  exact sm_iret (pc := 15) G hb (by decide +kernel : decode cX9_shadowOf 15 = .ok (.ireturn, 1)) hr
def fX9_shadowOf (N : Nat) : List Value → gM → Option (gR × gM) := gFn 3 (fX9_shadowOf_k0 N)
theorem kX9_shadowOf {ε : gE5} (hE : gEnv ε) (N : Nat) : gCtr ε yX9_shadowOf cX9_shadowOf 3 (some .int) 0 0 gyM (fX9_shadowOf N) :=
  gCtr_of hE.1 (by decide) (fun γ G hb ho hy hR he hr => fX9_shadowOf_s0 N G hb ho hy hR he hr hE)

def fX9_stayAll_k2 (N : Nat) : gK := s_lp (fun K2 => s_mask [true, true] <|
  s_iload 1 <| s_const 500 <| s_cmp gc_ge (s_vret) (s_aload 0 <| s_get gyM 9 17 <| s_iload 1 <| s_const 0 <| s_ast gyM 1 <| s_iinc 1 1 <| K2)) N
set_option maxRecDepth 100000 in
set_option maxHeartbeats 4000000 in
theorem fX9_stayAll_s2 {γ : gG} {ε : gE5} (N : Nat) (G : gOK γ) (hb : gcc γ = cX9_stayAll) (ho : gow γ = RX9) (hy : gly γ = gyM) (hR : grm γ = { frames := 0, cells := 0, slots := 0, locals := 0 }) (he : genv γ = ε) (hr : grt γ = none) (hE : gEnv ε) : gSm γ 2 (fX9_stayAll_k2 N) := by
  unfold fX9_stayAll_k2
  refine sm_lp (fun K2 h2 => ?_) N
  refine sm_mask ?_
  refine sm_iload_n (pc := 2) G hb (by decide +kernel : decode cX9_stayAll 2 = .ok (.iload_n 1, 1)) rfl ?_
  refine sm_sipush (pc := 3) G hb (by decide +kernel : decode cX9_stayAll 3 = .ok (.sipush 500, 3)) (by decide) ?_
  refine sm_icmp_ge (pc := 6) (tgt := 22) G hb (by decide +kernel : decode cX9_stayAll 6 = .ok (.if_icmp .ge 16, 3)) (by decide) ?_ ?_
  · skip
    exact sm_vret (pc := 22) G hb (by decide +kernel : decode cX9_stayAll 22 = .ok (.return_, 1)) hr
  · skip
    refine sm_aload_n (pc := 9) G hb (by decide +kernel : decode cX9_stayAll 9 = .ok (.aload_n 0, 1)) rfl ?_
    refine sm_get (pc := 10) (ci := 9) (j := 17) (N := 32) (T := TX9) G hb ho hy rfl (by decide) gin_9 gw6_13 (by decide +kernel : decode cX9_stayAll 10 = .ok (.getfield 28, 3)) ?_
    refine sm_iload_n (pc := 13) G hb (by decide +kernel : decode cX9_stayAll 13 = .ok (.iload_n 1, 1)) rfl ?_
    refine sm_iconst (pc := 14) G hb (by decide +kernel : decode cX9_stayAll 14 = .ok (.iconst 0, 1)) (by decide) ?_
    refine sm_zast (pc := 15) G hb hy (by decide +kernel : decode cX9_stayAll 15 = .ok (.bastore, 1)) ?_
    refine sm_iinc (pc := 16) G hb (by decide +kernel : decode cX9_stayAll 16 = .ok (.iinc 1 1, 3)) (by decide) ?_
    refine sm_goto (pc := 19) (tgt := 2) G hb (by decide +kernel : decode cX9_stayAll 19 = .ok (.goto (-17), 3)) (by decide) ?_
    exact h2
def fX9_stayAll_k0 (N : Nat) : gK :=
  s_const 0 <| s_istore 1 <| fX9_stayAll_k2 N
set_option maxRecDepth 100000 in
set_option maxHeartbeats 4000000 in
theorem fX9_stayAll_s0 {γ : gG} {ε : gE5} (N : Nat) (G : gOK γ) (hb : gcc γ = cX9_stayAll) (ho : gow γ = RX9) (hy : gly γ = gyM) (hR : grm γ = { frames := 0, cells := 0, slots := 0, locals := 0 }) (he : genv γ = ε) (hr : grt γ = none) (hE : gEnv ε) : gSm γ 0 (fX9_stayAll_k0 N) := by
  unfold fX9_stayAll_k0
  refine sm_iconst (pc := 0) G hb (by decide +kernel : decode cX9_stayAll 0 = .ok (.iconst 0, 1)) (by decide) ?_
  refine sm_istore_n (pc := 1) G hb (by decide +kernel : decode cX9_stayAll 1 = .ok (.istore_n 1, 1)) rfl ?_
  exact fX9_stayAll_s2 N G hb ho hy hR he hr hE
def fX9_stayAll (N : Nat) : List Value → gM → Option (gR × gM) := gFn 2 (fX9_stayAll_k0 N)
theorem kX9_stayAll {ε : gE5} (hE : gEnv ε) (N : Nat) : gCtr ε yX9_stayAll cX9_stayAll 2 none 0 0 gyM (fX9_stayAll N) :=
  gCtr_of hE.1 (by decide) (fun γ G hb ho hy hR he hr => fX9_stayAll_s0 N G hb ho hy hR he hr hE)

def fX9_closeUp_k73 (N : Nat) (K4 : gK) : gK := s_mask [true, false, true, false] <|
  s_bin gb_add <| s_istore 1 <| s_iinc 2 1 <| K4
set_option maxRecDepth 100000 in
set_option maxHeartbeats 4000000 in
theorem fX9_closeUp_s73 {γ : gG} {ε : gE5} (N : Nat) (G : gOK γ) (hb : gcc γ = cX9_closeUp) (ho : gow γ = RX9) (hy : gly γ = gyM) (hR : grm γ = { frames := 1, cells := 0, slots := 0, locals := 22 }) (he : genv γ = ε) (hr : grt γ = (some .int)) (hE : gEnv ε) (K4 : gK) (h4 : gSm γ 4 K4) : gSm γ 73 (fX9_closeUp_k73 N K4) := by
  unfold fX9_closeUp_k73
  refine sm_mask ?_
  refine sm_iadd (pc := 73) G hb (by decide +kernel : decode cX9_closeUp 73 = .ok (.iadd, 1)) ?_
  refine sm_istore_n (pc := 74) G hb (by decide +kernel : decode cX9_closeUp 74 = .ok (.istore_n 1, 1)) rfl ?_
  refine sm_iinc (pc := 75) G hb (by decide +kernel : decode cX9_closeUp 75 = .ok (.iinc 2 1, 3)) (by decide) ?_
  refine sm_goto (pc := 78) (tgt := 4) G hb (by decide +kernel : decode cX9_closeUp 78 = .ok (.goto (-74), 3)) (by decide) ?_
  exact h4
def fX9_closeUp_k58 (N : Nat) (K4 : gK) : gK := s_mask [true, true, true, false] <|
  s_iload 1 <| s_aload 0 <| s_get gyM 9 17 <| s_iload 2 <| s_ald gyM 1 <| s_if gz_eq (s_const 1 <| fX9_closeUp_k73 N K4) (s_const 0 <| fX9_closeUp_k73 N K4)
set_option maxRecDepth 100000 in
set_option maxHeartbeats 4000000 in
theorem fX9_closeUp_s58 {γ : gG} {ε : gE5} (N : Nat) (G : gOK γ) (hb : gcc γ = cX9_closeUp) (ho : gow γ = RX9) (hy : gly γ = gyM) (hR : grm γ = { frames := 1, cells := 0, slots := 0, locals := 22 }) (he : genv γ = ε) (hr : grt γ = (some .int)) (hE : gEnv ε) (K4 : gK) (h4 : gSm γ 4 K4) : gSm γ 58 (fX9_closeUp_k58 N K4) := by
  unfold fX9_closeUp_k58
  refine sm_mask ?_
  refine sm_iload_n (pc := 58) G hb (by decide +kernel : decode cX9_closeUp 58 = .ok (.iload_n 1, 1)) rfl ?_
  refine sm_aload_n (pc := 59) G hb (by decide +kernel : decode cX9_closeUp 59 = .ok (.aload_n 0, 1)) rfl ?_
  refine sm_get (pc := 60) (ci := 9) (j := 17) (N := 32) (T := TX9) G hb ho hy rfl (by decide) gin_9 gw6_13 (by decide +kernel : decode cX9_closeUp 60 = .ok (.getfield 28, 3)) ?_
  refine sm_iload_n (pc := 63) G hb (by decide +kernel : decode cX9_closeUp 63 = .ok (.iload_n 2, 1)) rfl ?_
  refine sm_zald (pc := 64) G hb hy (by decide +kernel : decode cX9_closeUp 64 = .ok (.baload, 1)) ?_
  refine sm_if_eq (pc := 65) (tgt := 72) G hb (by decide +kernel : decode cX9_closeUp 65 = .ok (.ifCond .eq 7, 3)) (by decide) ?_ ?_
  · skip
    refine sm_iconst (pc := 72) G hb (by decide +kernel : decode cX9_closeUp 72 = .ok (.iconst 1, 1)) (by decide) ?_
    exact fX9_closeUp_s73 N G hb ho hy hR he hr hE K4 h4
  · skip
    refine sm_iconst (pc := 68) G hb (by decide +kernel : decode cX9_closeUp 68 = .ok (.iconst 0, 1)) (by decide) ?_
    refine sm_goto (pc := 69) (tgt := 73) G hb (by decide +kernel : decode cX9_closeUp 69 = .ok (.goto 4, 3)) (by decide) ?_
    exact fX9_closeUp_s73 N G hb ho hy hR he hr hE K4 h4
def fX9_closeUp_k18 (N : Nat) (K4 : gK) : gK := s_lp (fun K18 => s_mask [true, true, true, true] <|
  s_iload 3 <| s_const 5 <| s_cmp gc_ge (fX9_closeUp_k58 N K4) (s_aload 0 <| s_get gyM 9 17 <| s_iload 2 <| s_ald gyM 1 <| s_if gz_ne (fX9_closeUp_k58 N K4) (s_aload 0 <| s_get gyM 9 9 <| s_const 246 <| s_const 5 <| s_iload 1 <| s_bin gb_mul <| s_bin gb_add <| s_iload 3 <| s_bin gb_add <| s_aload 0 <| s_iload 2 <| s_iload 3 <| s_callv (fX9_packetPart N) 3 [0, 1, 2, 3, 4, 5, 6, 7, 8, 9, 10, 11, 12, 13, 14, 15, 16, 17] <| s_ast gyM 0 <| s_iinc 3 1 <| K18))) N
set_option maxRecDepth 100000 in
set_option maxHeartbeats 4000000 in
theorem fX9_closeUp_s18 {γ : gG} {ε : gE5} (N : Nat) (G : gOK γ) (hb : gcc γ = cX9_closeUp) (ho : gow γ = RX9) (hy : gly γ = gyM) (hR : grm γ = { frames := 1, cells := 0, slots := 0, locals := 22 }) (he : genv γ = ε) (hr : grt γ = (some .int)) (hE : gEnv ε) (K4 : gK) (h4 : gSm γ 4 K4) : gSm γ 18 (fX9_closeUp_k18 N K4) := by
  unfold fX9_closeUp_k18
  refine sm_lp (fun K18 h18 => ?_) N
  refine sm_mask ?_
  refine sm_iload_n (pc := 18) G hb (by decide +kernel : decode cX9_closeUp 18 = .ok (.iload_n 3, 1)) rfl ?_
  refine sm_iconst (pc := 19) G hb (by decide +kernel : decode cX9_closeUp 19 = .ok (.iconst 5, 1)) (by decide) ?_
  refine sm_icmp_ge (pc := 20) (tgt := 58) G hb (by decide +kernel : decode cX9_closeUp 20 = .ok (.if_icmp .ge 38, 3)) (by decide) ?_ ?_
  · skip
    exact fX9_closeUp_s58 N G hb ho hy hR he hr hE K4 h4
  · skip
    refine sm_aload_n (pc := 23) G hb (by decide +kernel : decode cX9_closeUp 23 = .ok (.aload_n 0, 1)) rfl ?_
    refine sm_get (pc := 24) (ci := 9) (j := 17) (N := 32) (T := TX9) G hb ho hy rfl (by decide) gin_9 gw6_13 (by decide +kernel : decode cX9_closeUp 24 = .ok (.getfield 28, 3)) ?_
    refine sm_iload_n (pc := 27) G hb (by decide +kernel : decode cX9_closeUp 27 = .ok (.iload_n 2, 1)) rfl ?_
    refine sm_zald (pc := 28) G hb hy (by decide +kernel : decode cX9_closeUp 28 = .ok (.baload, 1)) ?_
    refine sm_if_ne (pc := 29) (tgt := 58) G hb (by decide +kernel : decode cX9_closeUp 29 = .ok (.ifCond .ne 29, 3)) (by decide) ?_ ?_
    · skip
      exact fX9_closeUp_s58 N G hb ho hy hR he hr hE K4 h4
    · skip
      refine sm_aload_n (pc := 32) G hb (by decide +kernel : decode cX9_closeUp 32 = .ok (.aload_n 0, 1)) rfl ?_
      refine sm_get (pc := 33) (ci := 9) (j := 9) (N := 32) (T := TX9) G hb ho hy rfl (by decide) gin_9 gw6_5 (by decide +kernel : decode cX9_closeUp 33 = .ok (.getfield 16, 3)) ?_
      refine sm_sipush (pc := 36) G hb (by decide +kernel : decode cX9_closeUp 36 = .ok (.sipush 246, 3)) (by decide) ?_
      refine sm_iconst (pc := 39) G hb (by decide +kernel : decode cX9_closeUp 39 = .ok (.iconst 5, 1)) (by decide) ?_
      refine sm_iload_n (pc := 40) G hb (by decide +kernel : decode cX9_closeUp 40 = .ok (.iload_n 1, 1)) rfl ?_
      refine sm_imul (pc := 41) G hb (by decide +kernel : decode cX9_closeUp 41 = .ok (.imul, 1)) ?_
      refine sm_iadd (pc := 42) G hb (by decide +kernel : decode cX9_closeUp 42 = .ok (.iadd, 1)) ?_
      refine sm_iload_n (pc := 43) G hb (by decide +kernel : decode cX9_closeUp 43 = .ok (.iload_n 3, 1)) rfl ?_
      refine sm_iadd (pc := 44) G hb (by decide +kernel : decode cX9_closeUp 44 = .ok (.iadd, 1)) ?_
      refine sm_aload_n (pc := 45) G hb (by decide +kernel : decode cX9_closeUp 45 = .ok (.aload_n 0, 1)) rfl ?_
      refine sm_iload_n (pc := 46) G hb (by decide +kernel : decode cX9_closeUp 46 = .ok (.iload_n 2, 1)) rfl ?_
      refine sm_iload_n (pc := 47) G hb (by decide +kernel : decode cX9_closeUp 47 = .ok (.iload_n 3, 1)) rfl ?_
      refine sm_callV (pc := 48) (N := 32) (T := TX9) (C := RX9) G hb ho hy he hE.1 3 [0, 1, 2, 3, 4, 5, 6, 7, 8, 9, 10, 11, 12, 13, 14, 15, 16, 17] (kX9_packetPart hE N) (gCo_of (by decide +kernel)) (by rw [hR]; exact ⟨by decide, by decide⟩) rfl rfl (by decide +kernel) gw7_84 gw7_86 gw0_63 gw1_11 gw7_87 (by decide +kernel : decode cX9_closeUp 48 = .ok (.invokevirtual 237, 3)) ?_
      refine sm_iast (pc := 51) G hb hy (by decide +kernel : decode cX9_closeUp 51 = .ok (.iastore, 1)) ?_
      refine sm_iinc (pc := 52) G hb (by decide +kernel : decode cX9_closeUp 52 = .ok (.iinc 3 1, 3)) (by decide) ?_
      refine sm_goto (pc := 55) (tgt := 18) G hb (by decide +kernel : decode cX9_closeUp 55 = .ok (.goto (-37), 3)) (by decide) ?_
      exact h18
def fX9_closeUp_k4 (N : Nat) : gK := s_lp (fun K4 => s_mask [true, true, true, false] <|
  s_iload 2 <| s_aload 0 <| s_get gyM 9 9 <| s_const 245 <| s_ald gyM 0 <| s_cmp gc_ge (s_aload 0 <| s_get gyM 9 9 <| s_const 245 <| s_ald gyM 0 <| s_iload 1 <| s_bin gb_sub <| s_istore 2 <| s_aload 0 <| s_get gyM 9 9 <| s_const 245 <| s_iload 1 <| s_ast gyM 0 <| s_iload 2 <| s_iret) (s_const 0 <| s_istore 3 <| fX9_closeUp_k18 N K4)) N
set_option maxRecDepth 100000 in
set_option maxHeartbeats 4000000 in
theorem fX9_closeUp_s4 {γ : gG} {ε : gE5} (N : Nat) (G : gOK γ) (hb : gcc γ = cX9_closeUp) (ho : gow γ = RX9) (hy : gly γ = gyM) (hR : grm γ = { frames := 1, cells := 0, slots := 0, locals := 22 }) (he : genv γ = ε) (hr : grt γ = (some .int)) (hE : gEnv ε) : gSm γ 4 (fX9_closeUp_k4 N) := by
  unfold fX9_closeUp_k4
  refine sm_lp (fun K4 h4 => ?_) N
  refine sm_mask ?_
  refine sm_iload_n (pc := 4) G hb (by decide +kernel : decode cX9_closeUp 4 = .ok (.iload_n 2, 1)) rfl ?_
  refine sm_aload_n (pc := 5) G hb (by decide +kernel : decode cX9_closeUp 5 = .ok (.aload_n 0, 1)) rfl ?_
  refine sm_get (pc := 6) (ci := 9) (j := 9) (N := 32) (T := TX9) G hb ho hy rfl (by decide) gin_9 gw6_5 (by decide +kernel : decode cX9_closeUp 6 = .ok (.getfield 16, 3)) ?_
  refine sm_sipush (pc := 9) G hb (by decide +kernel : decode cX9_closeUp 9 = .ok (.sipush 245, 3)) (by decide) ?_
  refine sm_iald (pc := 12) G hb hy (by decide +kernel : decode cX9_closeUp 12 = .ok (.iaload, 1)) ?_
  refine sm_icmp_ge (pc := 13) (tgt := 81) G hb (by decide +kernel : decode cX9_closeUp 13 = .ok (.if_icmp .ge 68, 3)) (by decide) ?_ ?_
  · skip
    refine sm_aload_n (pc := 81) G hb (by decide +kernel : decode cX9_closeUp 81 = .ok (.aload_n 0, 1)) rfl ?_
    refine sm_get (pc := 82) (ci := 9) (j := 9) (N := 32) (T := TX9) G hb ho hy rfl (by decide) gin_9 gw6_5 (by decide +kernel : decode cX9_closeUp 82 = .ok (.getfield 16, 3)) ?_
    refine sm_sipush (pc := 85) G hb (by decide +kernel : decode cX9_closeUp 85 = .ok (.sipush 245, 3)) (by decide) ?_
    refine sm_iald (pc := 88) G hb hy (by decide +kernel : decode cX9_closeUp 88 = .ok (.iaload, 1)) ?_
    refine sm_iload_n (pc := 89) G hb (by decide +kernel : decode cX9_closeUp 89 = .ok (.iload_n 1, 1)) rfl ?_
    refine sm_isub (pc := 90) G hb (by decide +kernel : decode cX9_closeUp 90 = .ok (.isub, 1)) ?_
    refine sm_istore_n (pc := 91) G hb (by decide +kernel : decode cX9_closeUp 91 = .ok (.istore_n 2, 1)) rfl ?_
    refine sm_aload_n (pc := 92) G hb (by decide +kernel : decode cX9_closeUp 92 = .ok (.aload_n 0, 1)) rfl ?_
    refine sm_get (pc := 93) (ci := 9) (j := 9) (N := 32) (T := TX9) G hb ho hy rfl (by decide) gin_9 gw6_5 (by decide +kernel : decode cX9_closeUp 93 = .ok (.getfield 16, 3)) ?_
    refine sm_sipush (pc := 96) G hb (by decide +kernel : decode cX9_closeUp 96 = .ok (.sipush 245, 3)) (by decide) ?_
    refine sm_iload_n (pc := 99) G hb (by decide +kernel : decode cX9_closeUp 99 = .ok (.iload_n 1, 1)) rfl ?_
    refine sm_iast (pc := 100) G hb hy (by decide +kernel : decode cX9_closeUp 100 = .ok (.iastore, 1)) ?_
    refine sm_iload_n (pc := 101) G hb (by decide +kernel : decode cX9_closeUp 101 = .ok (.iload_n 2, 1)) rfl ?_
    exact sm_iret (pc := 102) G hb (by decide +kernel : decode cX9_closeUp 102 = .ok (.ireturn, 1)) hr
  · skip
    refine sm_iconst (pc := 16) G hb (by decide +kernel : decode cX9_closeUp 16 = .ok (.iconst 0, 1)) (by decide) ?_
    refine sm_istore_n (pc := 17) G hb (by decide +kernel : decode cX9_closeUp 17 = .ok (.istore_n 3, 1)) rfl ?_
    exact fX9_closeUp_s18 N G hb ho hy hR he hr hE K4 h4
def fX9_closeUp_k0 (N : Nat) : gK :=
  s_const 0 <| s_istore 1 <| s_const 0 <| s_istore 2 <| fX9_closeUp_k4 N
set_option maxRecDepth 100000 in
set_option maxHeartbeats 4000000 in
theorem fX9_closeUp_s0 {γ : gG} {ε : gE5} (N : Nat) (G : gOK γ) (hb : gcc γ = cX9_closeUp) (ho : gow γ = RX9) (hy : gly γ = gyM) (hR : grm γ = { frames := 1, cells := 0, slots := 0, locals := 22 }) (he : genv γ = ε) (hr : grt γ = (some .int)) (hE : gEnv ε) : gSm γ 0 (fX9_closeUp_k0 N) := by
  unfold fX9_closeUp_k0
  refine sm_iconst (pc := 0) G hb (by decide +kernel : decode cX9_closeUp 0 = .ok (.iconst 0, 1)) (by decide) ?_
  refine sm_istore_n (pc := 1) G hb (by decide +kernel : decode cX9_closeUp 1 = .ok (.istore_n 1, 1)) rfl ?_
  refine sm_iconst (pc := 2) G hb (by decide +kernel : decode cX9_closeUp 2 = .ok (.iconst 0, 1)) (by decide) ?_
  refine sm_istore_n (pc := 3) G hb (by decide +kernel : decode cX9_closeUp 3 = .ok (.istore_n 2, 1)) rfl ?_
  exact fX9_closeUp_s4 N G hb ho hy hR he hr hE
def fX9_closeUp (N : Nat) : List Value → gM → Option (gR × gM) := gFn 4 (fX9_closeUp_k0 N)
theorem kX9_closeUp {ε : gE5} (hE : gEnv ε) (N : Nat) : gCtr ε yX9_closeUp cX9_closeUp 4 (some .int) 1 22 gyM (fX9_closeUp N) :=
  gCtr_of hE.1 (by decide) (fun γ G hb ho hy hR he hr => fX9_closeUp_s0 N G hb ho hy hR he hr hE)

def fX9_come_k0 (N : Nat) : gK :=
  s_const 246 <| s_const 5 <| s_aload 0 <| s_get gyM 9 9 <| s_const 245 <| s_ald gyM 0 <| s_bin gb_mul <| s_bin gb_add <| s_istore 6 <| s_aload 0 <| s_get gyM 9 9 <| s_iload 6 <| s_const 0 <| s_bin gb_add <| s_iload 1 <| s_ast gyM 0 <| s_aload 0 <| s_get gyM 9 9 <| s_iload 6 <| s_const 1 <| s_bin gb_add <| s_iload 2 <| s_ast gyM 0 <| s_aload 0 <| s_get gyM 9 9 <| s_iload 6 <| s_const 2 <| s_bin gb_add <| s_iload 3 <| s_ast gyM 0 <| s_aload 0 <| s_get gyM 9 9 <| s_iload 6 <| s_const 3 <| s_bin gb_add <| s_iload 4 <| s_ast gyM 0 <| s_aload 0 <| s_get gyM 9 9 <| s_iload 6 <| s_const 4 <| s_bin gb_add <| s_iload 5 <| s_ast gyM 0 <| s_aload 0 <| s_get gyM 9 9 <| s_const 245 <| s_dup2 <| s_ald gyM 0 <| s_const 1 <| s_bin gb_add <| s_ast gyM 0 <| s_vret
set_option maxRecDepth 100000 in
set_option maxHeartbeats 4000000 in
theorem fX9_come_s0 {γ : gG} {ε : gE5} (N : Nat) (G : gOK γ) (hb : gcc γ = cX9_come) (ho : gow γ = RX9) (hy : gly γ = gyM) (hR : grm γ = { frames := 0, cells := 0, slots := 0, locals := 0 }) (he : genv γ = ε) (hr : grt γ = none) (hE : gEnv ε) : gSm γ 0 (fX9_come_k0 N) := by
  unfold fX9_come_k0
  refine sm_sipush (pc := 0) G hb (by decide +kernel : decode cX9_come 0 = .ok (.sipush 246, 3)) (by decide) ?_
  refine sm_iconst (pc := 3) G hb (by decide +kernel : decode cX9_come 3 = .ok (.iconst 5, 1)) (by decide) ?_
  refine sm_aload_n (pc := 4) G hb (by decide +kernel : decode cX9_come 4 = .ok (.aload_n 0, 1)) rfl ?_
  refine sm_get (pc := 5) (ci := 9) (j := 9) (N := 32) (T := TX9) G hb ho hy rfl (by decide) gin_9 gw6_5 (by decide +kernel : decode cX9_come 5 = .ok (.getfield 16, 3)) ?_
  refine sm_sipush (pc := 8) G hb (by decide +kernel : decode cX9_come 8 = .ok (.sipush 245, 3)) (by decide) ?_
  refine sm_iald (pc := 11) G hb hy (by decide +kernel : decode cX9_come 11 = .ok (.iaload, 1)) ?_
  refine sm_imul (pc := 12) G hb (by decide +kernel : decode cX9_come 12 = .ok (.imul, 1)) ?_
  refine sm_iadd (pc := 13) G hb (by decide +kernel : decode cX9_come 13 = .ok (.iadd, 1)) ?_
  refine sm_istore (pc := 14) G hb (by decide +kernel : decode cX9_come 14 = .ok (.istore 6, 2)) ?_
  refine sm_aload_n (pc := 16) G hb (by decide +kernel : decode cX9_come 16 = .ok (.aload_n 0, 1)) rfl ?_
  refine sm_get (pc := 17) (ci := 9) (j := 9) (N := 32) (T := TX9) G hb ho hy rfl (by decide) gin_9 gw6_5 (by decide +kernel : decode cX9_come 17 = .ok (.getfield 16, 3)) ?_
  refine sm_iload (pc := 20) G hb (by decide +kernel : decode cX9_come 20 = .ok (.iload 6, 2)) ?_
  refine sm_iconst (pc := 22) G hb (by decide +kernel : decode cX9_come 22 = .ok (.iconst 0, 1)) (by decide) ?_
  refine sm_iadd (pc := 23) G hb (by decide +kernel : decode cX9_come 23 = .ok (.iadd, 1)) ?_
  refine sm_iload_n (pc := 24) G hb (by decide +kernel : decode cX9_come 24 = .ok (.iload_n 1, 1)) rfl ?_
  refine sm_iast (pc := 25) G hb hy (by decide +kernel : decode cX9_come 25 = .ok (.iastore, 1)) ?_
  refine sm_aload_n (pc := 26) G hb (by decide +kernel : decode cX9_come 26 = .ok (.aload_n 0, 1)) rfl ?_
  refine sm_get (pc := 27) (ci := 9) (j := 9) (N := 32) (T := TX9) G hb ho hy rfl (by decide) gin_9 gw6_5 (by decide +kernel : decode cX9_come 27 = .ok (.getfield 16, 3)) ?_
  refine sm_iload (pc := 30) G hb (by decide +kernel : decode cX9_come 30 = .ok (.iload 6, 2)) ?_
  refine sm_iconst (pc := 32) G hb (by decide +kernel : decode cX9_come 32 = .ok (.iconst 1, 1)) (by decide) ?_
  refine sm_iadd (pc := 33) G hb (by decide +kernel : decode cX9_come 33 = .ok (.iadd, 1)) ?_
  refine sm_iload_n (pc := 34) G hb (by decide +kernel : decode cX9_come 34 = .ok (.iload_n 2, 1)) rfl ?_
  refine sm_iast (pc := 35) G hb hy (by decide +kernel : decode cX9_come 35 = .ok (.iastore, 1)) ?_
  refine sm_aload_n (pc := 36) G hb (by decide +kernel : decode cX9_come 36 = .ok (.aload_n 0, 1)) rfl ?_
  refine sm_get (pc := 37) (ci := 9) (j := 9) (N := 32) (T := TX9) G hb ho hy rfl (by decide) gin_9 gw6_5 (by decide +kernel : decode cX9_come 37 = .ok (.getfield 16, 3)) ?_
  refine sm_iload (pc := 40) G hb (by decide +kernel : decode cX9_come 40 = .ok (.iload 6, 2)) ?_
  refine sm_iconst (pc := 42) G hb (by decide +kernel : decode cX9_come 42 = .ok (.iconst 2, 1)) (by decide) ?_
  refine sm_iadd (pc := 43) G hb (by decide +kernel : decode cX9_come 43 = .ok (.iadd, 1)) ?_
  refine sm_iload_n (pc := 44) G hb (by decide +kernel : decode cX9_come 44 = .ok (.iload_n 3, 1)) rfl ?_
  refine sm_iast (pc := 45) G hb hy (by decide +kernel : decode cX9_come 45 = .ok (.iastore, 1)) ?_
  refine sm_aload_n (pc := 46) G hb (by decide +kernel : decode cX9_come 46 = .ok (.aload_n 0, 1)) rfl ?_
  refine sm_get (pc := 47) (ci := 9) (j := 9) (N := 32) (T := TX9) G hb ho hy rfl (by decide) gin_9 gw6_5 (by decide +kernel : decode cX9_come 47 = .ok (.getfield 16, 3)) ?_
  refine sm_iload (pc := 50) G hb (by decide +kernel : decode cX9_come 50 = .ok (.iload 6, 2)) ?_
  refine sm_iconst (pc := 52) G hb (by decide +kernel : decode cX9_come 52 = .ok (.iconst 3, 1)) (by decide) ?_
  refine sm_iadd (pc := 53) G hb (by decide +kernel : decode cX9_come 53 = .ok (.iadd, 1)) ?_
  refine sm_iload (pc := 54) G hb (by decide +kernel : decode cX9_come 54 = .ok (.iload 4, 2)) ?_
  refine sm_iast (pc := 56) G hb hy (by decide +kernel : decode cX9_come 56 = .ok (.iastore, 1)) ?_
  refine sm_aload_n (pc := 57) G hb (by decide +kernel : decode cX9_come 57 = .ok (.aload_n 0, 1)) rfl ?_
  refine sm_get (pc := 58) (ci := 9) (j := 9) (N := 32) (T := TX9) G hb ho hy rfl (by decide) gin_9 gw6_5 (by decide +kernel : decode cX9_come 58 = .ok (.getfield 16, 3)) ?_
  refine sm_iload (pc := 61) G hb (by decide +kernel : decode cX9_come 61 = .ok (.iload 6, 2)) ?_
  refine sm_iconst (pc := 63) G hb (by decide +kernel : decode cX9_come 63 = .ok (.iconst 4, 1)) (by decide) ?_
  refine sm_iadd (pc := 64) G hb (by decide +kernel : decode cX9_come 64 = .ok (.iadd, 1)) ?_
  refine sm_iload (pc := 65) G hb (by decide +kernel : decode cX9_come 65 = .ok (.iload 5, 2)) ?_
  refine sm_iast (pc := 67) G hb hy (by decide +kernel : decode cX9_come 67 = .ok (.iastore, 1)) ?_
  refine sm_aload_n (pc := 68) G hb (by decide +kernel : decode cX9_come 68 = .ok (.aload_n 0, 1)) rfl ?_
  refine sm_get (pc := 69) (ci := 9) (j := 9) (N := 32) (T := TX9) G hb ho hy rfl (by decide) gin_9 gw6_5 (by decide +kernel : decode cX9_come 69 = .ok (.getfield 16, 3)) ?_
  refine sm_sipush (pc := 72) G hb (by decide +kernel : decode cX9_come 72 = .ok (.sipush 245, 3)) (by decide) ?_
  refine sm_dup2 (pc := 75) G hb (by decide +kernel : decode cX9_come 75 = .ok (.dup2, 1)) ?_
  refine sm_iald (pc := 76) G hb hy (by decide +kernel : decode cX9_come 76 = .ok (.iaload, 1)) ?_
  refine sm_iconst (pc := 77) G hb (by decide +kernel : decode cX9_come 77 = .ok (.iconst 1, 1)) (by decide) ?_
  refine sm_iadd (pc := 78) G hb (by decide +kernel : decode cX9_come 78 = .ok (.iadd, 1)) ?_
  refine sm_iast (pc := 79) G hb hy (by decide +kernel : decode cX9_come 79 = .ok (.iastore, 1)) ?_
  exact sm_vret (pc := 80) G hb (by decide +kernel : decode cX9_come 80 = .ok (.return_, 1)) hr
def fX9_come (N : Nat) : List Value → gM → Option (gR × gM) := gFn 7 (fX9_come_k0 N)
theorem kX9_come {ε : gE5} (hE : gEnv ε) (N : Nat) : gCtr ε yX9_come cX9_come 7 none 0 0 gyM (fX9_come N) :=
  gCtr_of hE.1 (by decide) (fun γ G hb ho hy hR he hr => fX9_come_s0 N G hb ho hy hR he hr hE)

def fX9_layHops_k65 (N : Nat) (K45 : gK) (K52 : gK) : gK := s_lp (fun K65 => s_mask [true, true, true, true, true, false, false] <|
  s_iload 4 <| s_iload 1 <| s_cmp gc_ge (s_iinc 3 1 <| K52) (s_aload 0 <| s_get gyM 9 18 <| s_const 10 <| s_aload 0 <| s_iload 3 <| s_const 1 <| s_callv (fX9_linkPart N) 3 [0, 1, 2, 3, 4, 5, 6, 7, 8, 9, 10, 11, 12, 13, 14, 15, 16, 17] <| s_bin gb_mul <| s_iload 4 <| s_bin gb_add <| s_ald gyM 0 <| s_const 1 <| s_bin gb_add <| s_istore 5 <| s_const 10 <| s_aload 0 <| s_iload 3 <| s_const 0 <| s_callv (fX9_linkPart N) 3 [0, 1, 2, 3, 4, 5, 6, 7, 8, 9, 10, 11, 12, 13, 14, 15, 16, 17] <| s_bin gb_mul <| s_iload 4 <| s_bin gb_add <| s_istore 6 <| s_aload 0 <| s_get gyM 9 18 <| s_iload 6 <| s_aload 0 <| s_get gyM 9 18 <| s_iload 6 <| s_ald gyM 0 <| s_iload 5 <| s_jmath gj_min <| s_ast gyM 0 <| s_iinc 4 1 <| K65)) N
set_option maxRecDepth 100000 in
set_option maxHeartbeats 4000000 in
theorem fX9_layHops_s65 {γ : gG} {ε : gE5} (N : Nat) (G : gOK γ) (hb : gcc γ = cX9_layHops) (ho : gow γ = RX9) (hy : gly γ = gyM) (hR : grm γ = { frames := 1, cells := 0, slots := 0, locals := 22 }) (he : genv γ = ε) (hr : grt γ = none) (hE : gEnv ε) (K45 : gK) (h45 : gSm γ 45 K45) (K52 : gK) (h52 : gSm γ 52 K52) : gSm γ 65 (fX9_layHops_k65 N K45 K52) := by
  unfold fX9_layHops_k65
  refine sm_lp (fun K65 h65 => ?_) N
  refine sm_mask ?_
  refine sm_iload (pc := 65) G hb (by decide +kernel : decode cX9_layHops 65 = .ok (.iload 4, 2)) ?_
  refine sm_iload_n (pc := 67) G hb (by decide +kernel : decode cX9_layHops 67 = .ok (.iload_n 1, 1)) rfl ?_
  refine sm_icmp_ge (pc := 68) (tgt := 131) G hb (by decide +kernel : decode cX9_layHops 68 = .ok (.if_icmp .ge 63, 3)) (by decide) ?_ ?_
  · skip
    refine sm_iinc (pc := 131) G hb (by decide +kernel : decode cX9_layHops 131 = .ok (.iinc 3 1, 3)) (by decide) ?_
    refine sm_goto (pc := 134) (tgt := 52) G hb (by decide +kernel : decode cX9_layHops 134 = .ok (.goto (-82), 3)) (by decide) ?_
    exact h52
  · skip
    refine sm_aload_n (pc := 71) G hb (by decide +kernel : decode cX9_layHops 71 = .ok (.aload_n 0, 1)) rfl ?_
    refine sm_get (pc := 72) (ci := 9) (j := 18) (N := 32) (T := TX9) G hb ho hy rfl (by decide) gin_9 gw6_14 (by decide +kernel : decode cX9_layHops 72 = .ok (.getfield 32, 3)) ?_
    refine sm_bipush (pc := 75) G hb (by decide +kernel : decode cX9_layHops 75 = .ok (.bipush 10, 2)) (by decide) ?_
    refine sm_aload_n (pc := 77) G hb (by decide +kernel : decode cX9_layHops 77 = .ok (.aload_n 0, 1)) rfl ?_
    refine sm_iload_n (pc := 78) G hb (by decide +kernel : decode cX9_layHops 78 = .ok (.iload_n 3, 1)) rfl ?_
    refine sm_iconst (pc := 79) G hb (by decide +kernel : decode cX9_layHops 79 = .ok (.iconst 1, 1)) (by decide) ?_
    refine sm_callV (pc := 80) (N := 32) (T := TX9) (C := RX9) G hb ho hy he hE.1 3 [0, 1, 2, 3, 4, 5, 6, 7, 8, 9, 10, 11, 12, 13, 14, 15, 16, 17] (kX9_linkPart hE N) (gCo_of (by decide +kernel)) (by rw [hR]; exact ⟨by decide, by decide⟩) rfl rfl (by decide +kernel) gw7_143 gw7_145 gw0_74 gw1_11 gw7_146 (by decide +kernel : decode cX9_layHops 80 = .ok (.invokevirtual 250, 3)) ?_
    refine sm_imul (pc := 83) G hb (by decide +kernel : decode cX9_layHops 83 = .ok (.imul, 1)) ?_
    refine sm_iload (pc := 84) G hb (by decide +kernel : decode cX9_layHops 84 = .ok (.iload 4, 2)) ?_
    refine sm_iadd (pc := 86) G hb (by decide +kernel : decode cX9_layHops 86 = .ok (.iadd, 1)) ?_
    refine sm_iald (pc := 87) G hb hy (by decide +kernel : decode cX9_layHops 87 = .ok (.iaload, 1)) ?_
    refine sm_iconst (pc := 88) G hb (by decide +kernel : decode cX9_layHops 88 = .ok (.iconst 1, 1)) (by decide) ?_
    refine sm_iadd (pc := 89) G hb (by decide +kernel : decode cX9_layHops 89 = .ok (.iadd, 1)) ?_
    refine sm_istore (pc := 90) G hb (by decide +kernel : decode cX9_layHops 90 = .ok (.istore 5, 2)) ?_
    refine sm_bipush (pc := 92) G hb (by decide +kernel : decode cX9_layHops 92 = .ok (.bipush 10, 2)) (by decide) ?_
    refine sm_aload_n (pc := 94) G hb (by decide +kernel : decode cX9_layHops 94 = .ok (.aload_n 0, 1)) rfl ?_
    refine sm_iload_n (pc := 95) G hb (by decide +kernel : decode cX9_layHops 95 = .ok (.iload_n 3, 1)) rfl ?_
    refine sm_iconst (pc := 96) G hb (by decide +kernel : decode cX9_layHops 96 = .ok (.iconst 0, 1)) (by decide) ?_
    refine sm_callV (pc := 97) (N := 32) (T := TX9) (C := RX9) G hb ho hy he hE.1 3 [0, 1, 2, 3, 4, 5, 6, 7, 8, 9, 10, 11, 12, 13, 14, 15, 16, 17] (kX9_linkPart hE N) (gCo_of (by decide +kernel)) (by rw [hR]; exact ⟨by decide, by decide⟩) rfl rfl (by decide +kernel) gw7_143 gw7_145 gw0_74 gw1_11 gw7_146 (by decide +kernel : decode cX9_layHops 97 = .ok (.invokevirtual 250, 3)) ?_
    refine sm_imul (pc := 100) G hb (by decide +kernel : decode cX9_layHops 100 = .ok (.imul, 1)) ?_
    refine sm_iload (pc := 101) G hb (by decide +kernel : decode cX9_layHops 101 = .ok (.iload 4, 2)) ?_
    refine sm_iadd (pc := 103) G hb (by decide +kernel : decode cX9_layHops 103 = .ok (.iadd, 1)) ?_
    refine sm_istore (pc := 104) G hb (by decide +kernel : decode cX9_layHops 104 = .ok (.istore 6, 2)) ?_
    refine sm_aload_n (pc := 106) G hb (by decide +kernel : decode cX9_layHops 106 = .ok (.aload_n 0, 1)) rfl ?_
    refine sm_get (pc := 107) (ci := 9) (j := 18) (N := 32) (T := TX9) G hb ho hy rfl (by decide) gin_9 gw6_14 (by decide +kernel : decode cX9_layHops 107 = .ok (.getfield 32, 3)) ?_
    refine sm_iload (pc := 110) G hb (by decide +kernel : decode cX9_layHops 110 = .ok (.iload 6, 2)) ?_
    refine sm_aload_n (pc := 112) G hb (by decide +kernel : decode cX9_layHops 112 = .ok (.aload_n 0, 1)) rfl ?_
    refine sm_get (pc := 113) (ci := 9) (j := 18) (N := 32) (T := TX9) G hb ho hy rfl (by decide) gin_9 gw6_14 (by decide +kernel : decode cX9_layHops 113 = .ok (.getfield 32, 3)) ?_
    refine sm_iload (pc := 116) G hb (by decide +kernel : decode cX9_layHops 116 = .ok (.iload 6, 2)) ?_
    refine sm_iald (pc := 118) G hb hy (by decide +kernel : decode cX9_layHops 118 = .ok (.iaload, 1)) ?_
    refine sm_iload (pc := 119) G hb (by decide +kernel : decode cX9_layHops 119 = .ok (.iload 5, 2)) ?_
    refine sm_jmin (pc := 121) G hb ho (by rw [hR]; exact ⟨by decide, by decide⟩) gw6_138 gw4_178 gw1_21 gw4_179 (by decide +kernel : decode cX9_layHops 121 = .ok (.invokestatic 118, 3)) ?_
    refine sm_iast (pc := 124) G hb hy (by decide +kernel : decode cX9_layHops 124 = .ok (.iastore, 1)) ?_
    refine sm_iinc (pc := 125) G hb (by decide +kernel : decode cX9_layHops 125 = .ok (.iinc 4 1, 3)) (by decide) ?_
    refine sm_goto (pc := 128) (tgt := 65) G hb (by decide +kernel : decode cX9_layHops 128 = .ok (.goto (-63), 3)) (by decide) ?_
    exact h65
def fX9_layHops_k52 (N : Nat) (K45 : gK) : gK := s_lp (fun K52 => s_mask [true, true, true, true, false, false, false] <|
  s_iload 3 <| s_aload 0 <| s_get gyM 9 9 <| s_const 1 <| s_ald gyM 0 <| s_cmp gc_ge (s_iinc 2 1 <| K45) (s_const 0 <| s_istore 4 <| fX9_layHops_k65 N K45 K52)) N
set_option maxRecDepth 100000 in
set_option maxHeartbeats 4000000 in
theorem fX9_layHops_s52 {γ : gG} {ε : gE5} (N : Nat) (G : gOK γ) (hb : gcc γ = cX9_layHops) (ho : gow γ = RX9) (hy : gly γ = gyM) (hR : grm γ = { frames := 1, cells := 0, slots := 0, locals := 22 }) (he : genv γ = ε) (hr : grt γ = none) (hE : gEnv ε) (K45 : gK) (h45 : gSm γ 45 K45) : gSm γ 52 (fX9_layHops_k52 N K45) := by
  unfold fX9_layHops_k52
  refine sm_lp (fun K52 h52 => ?_) N
  refine sm_mask ?_
  refine sm_iload_n (pc := 52) G hb (by decide +kernel : decode cX9_layHops 52 = .ok (.iload_n 3, 1)) rfl ?_
  refine sm_aload_n (pc := 53) G hb (by decide +kernel : decode cX9_layHops 53 = .ok (.aload_n 0, 1)) rfl ?_
  refine sm_get (pc := 54) (ci := 9) (j := 9) (N := 32) (T := TX9) G hb ho hy rfl (by decide) gin_9 gw6_5 (by decide +kernel : decode cX9_layHops 54 = .ok (.getfield 16, 3)) ?_
  refine sm_iconst (pc := 57) G hb (by decide +kernel : decode cX9_layHops 57 = .ok (.iconst 1, 1)) (by decide) ?_
  refine sm_iald (pc := 58) G hb hy (by decide +kernel : decode cX9_layHops 58 = .ok (.iaload, 1)) ?_
  refine sm_icmp_ge (pc := 59) (tgt := 137) G hb (by decide +kernel : decode cX9_layHops 59 = .ok (.if_icmp .ge 78, 3)) (by decide) ?_ ?_
  · skip
    refine sm_iinc (pc := 137) G hb (by decide +kernel : decode cX9_layHops 137 = .ok (.iinc 2 1, 3)) (by decide) ?_
    refine sm_goto (pc := 140) (tgt := 45) G hb (by decide +kernel : decode cX9_layHops 140 = .ok (.goto (-95), 3)) (by decide) ?_
    exact h45
  · skip
    refine sm_iconst (pc := 62) G hb (by decide +kernel : decode cX9_layHops 62 = .ok (.iconst 0, 1)) (by decide) ?_
    refine sm_istore (pc := 63) G hb (by decide +kernel : decode cX9_layHops 63 = .ok (.istore 4, 2)) ?_
    exact fX9_layHops_s65 N G hb ho hy hR he hr hE K45 h45 K52 h52
def fX9_layHops_k45 (N : Nat) : gK := s_lp (fun K45 => s_mask [true, true, true, false, false, false, false] <|
  s_iload 2 <| s_iload 1 <| s_cmp gc_ge (s_vret) (s_const 0 <| s_istore 3 <| fX9_layHops_k52 N K45)) N
set_option maxRecDepth 100000 in
set_option maxHeartbeats 4000000 in
theorem fX9_layHops_s45 {γ : gG} {ε : gE5} (N : Nat) (G : gOK γ) (hb : gcc γ = cX9_layHops) (ho : gow γ = RX9) (hy : gly γ = gyM) (hR : grm γ = { frames := 1, cells := 0, slots := 0, locals := 22 }) (he : genv γ = ε) (hr : grt γ = none) (hE : gEnv ε) : gSm γ 45 (fX9_layHops_k45 N) := by
  unfold fX9_layHops_k45
  refine sm_lp (fun K45 h45 => ?_) N
  refine sm_mask ?_
  refine sm_iload_n (pc := 45) G hb (by decide +kernel : decode cX9_layHops 45 = .ok (.iload_n 2, 1)) rfl ?_
  refine sm_iload_n (pc := 46) G hb (by decide +kernel : decode cX9_layHops 46 = .ok (.iload_n 1, 1)) rfl ?_
  refine sm_icmp_ge (pc := 47) (tgt := 143) G hb (by decide +kernel : decode cX9_layHops 47 = .ok (.if_icmp .ge 96, 3)) (by decide) ?_ ?_
  · skip
    exact sm_vret (pc := 143) G hb (by decide +kernel : decode cX9_layHops 143 = .ok (.return_, 1)) hr
  · skip
    refine sm_iconst (pc := 50) G hb (by decide +kernel : decode cX9_layHops 50 = .ok (.iconst 0, 1)) (by decide) ?_
    refine sm_istore_n (pc := 51) G hb (by decide +kernel : decode cX9_layHops 51 = .ok (.istore_n 3, 1)) rfl ?_
    exact fX9_layHops_s52 N G hb ho hy hR he hr hE K45 h45
def fX9_layHops_k36 (N : Nat) (K9 : gK) : gK := s_mask [true, true, true, false, false, false, false] <|
  s_ast gyM 0 <| s_iinc 2 1 <| K9
set_option maxRecDepth 100000 in
set_option maxHeartbeats 4000000 in
theorem fX9_layHops_s36 {γ : gG} {ε : gE5} (N : Nat) (G : gOK γ) (hb : gcc γ = cX9_layHops) (ho : gow γ = RX9) (hy : gly γ = gyM) (hR : grm γ = { frames := 1, cells := 0, slots := 0, locals := 22 }) (he : genv γ = ε) (hr : grt γ = none) (hE : gEnv ε) (K9 : gK) (h9 : gSm γ 9 K9) : gSm γ 36 (fX9_layHops_k36 N K9) := by
  unfold fX9_layHops_k36
  refine sm_mask ?_
  refine sm_iast (pc := 36) G hb hy (by decide +kernel : decode cX9_layHops 36 = .ok (.iastore, 1)) ?_
  refine sm_iinc (pc := 37) G hb (by decide +kernel : decode cX9_layHops 37 = .ok (.iinc 2 1, 3)) (by decide) ?_
  refine sm_goto (pc := 40) (tgt := 9) G hb (by decide +kernel : decode cX9_layHops 40 = .ok (.goto (-31), 3)) (by decide) ?_
  exact h9
def fX9_layHops_k9 (N : Nat) : gK := s_lp (fun K9 => s_mask [true, true, true, false, false, false, false] <|
  s_iload 2 <| s_const 100 <| s_cmp gc_ge (s_const 0 <| s_istore 2 <| fX9_layHops_k45 N) (s_aload 0 <| s_get gyM 9 18 <| s_iload 2 <| s_iload 2 <| s_const 10 <| s_div gb_div <| s_iload 2 <| s_const 10 <| s_div gb_rem <| s_cmp gc_ne (s_iload 1 <| fX9_layHops_k36 N K9) (s_const 0 <| fX9_layHops_k36 N K9))) N
set_option maxRecDepth 100000 in
set_option maxHeartbeats 4000000 in
theorem fX9_layHops_s9 {γ : gG} {ε : gE5} (N : Nat) (G : gOK γ) (hb : gcc γ = cX9_layHops) (ho : gow γ = RX9) (hy : gly γ = gyM) (hR : grm γ = { frames := 1, cells := 0, slots := 0, locals := 22 }) (he : genv γ = ε) (hr : grt γ = none) (hE : gEnv ε) : gSm γ 9 (fX9_layHops_k9 N) := by
  unfold fX9_layHops_k9
  refine sm_lp (fun K9 h9 => ?_) N
  refine sm_mask ?_
  refine sm_iload_n (pc := 9) G hb (by decide +kernel : decode cX9_layHops 9 = .ok (.iload_n 2, 1)) rfl ?_
  refine sm_bipush (pc := 10) G hb (by decide +kernel : decode cX9_layHops 10 = .ok (.bipush 100, 2)) (by decide) ?_
  refine sm_icmp_ge (pc := 12) (tgt := 43) G hb (by decide +kernel : decode cX9_layHops 12 = .ok (.if_icmp .ge 31, 3)) (by decide) ?_ ?_
  · skip
    refine sm_iconst (pc := 43) G hb (by decide +kernel : decode cX9_layHops 43 = .ok (.iconst 0, 1)) (by decide) ?_
    refine sm_istore_n (pc := 44) G hb (by decide +kernel : decode cX9_layHops 44 = .ok (.istore_n 2, 1)) rfl ?_
    exact fX9_layHops_s45 N G hb ho hy hR he hr hE
  · skip
    refine sm_aload_n (pc := 15) G hb (by decide +kernel : decode cX9_layHops 15 = .ok (.aload_n 0, 1)) rfl ?_
    refine sm_get (pc := 16) (ci := 9) (j := 18) (N := 32) (T := TX9) G hb ho hy rfl (by decide) gin_9 gw6_14 (by decide +kernel : decode cX9_layHops 16 = .ok (.getfield 32, 3)) ?_
    refine sm_iload_n (pc := 19) G hb (by decide +kernel : decode cX9_layHops 19 = .ok (.iload_n 2, 1)) rfl ?_
    refine sm_iload_n (pc := 20) G hb (by decide +kernel : decode cX9_layHops 20 = .ok (.iload_n 2, 1)) rfl ?_
    refine sm_bipush (pc := 21) G hb (by decide +kernel : decode cX9_layHops 21 = .ok (.bipush 10, 2)) (by decide) ?_
    refine sm_idiv (pc := 23) G hb (by decide +kernel : decode cX9_layHops 23 = .ok (.idiv, 1)) ?_
    refine sm_iload_n (pc := 24) G hb (by decide +kernel : decode cX9_layHops 24 = .ok (.iload_n 2, 1)) rfl ?_
    refine sm_bipush (pc := 25) G hb (by decide +kernel : decode cX9_layHops 25 = .ok (.bipush 10, 2)) (by decide) ?_
    refine sm_irem (pc := 27) G hb (by decide +kernel : decode cX9_layHops 27 = .ok (.irem, 1)) ?_
    refine sm_icmp_ne (pc := 28) (tgt := 35) G hb (by decide +kernel : decode cX9_layHops 28 = .ok (.if_icmp .ne 7, 3)) (by decide) ?_ ?_
    · skip
      refine sm_iload_n (pc := 35) G hb (by decide +kernel : decode cX9_layHops 35 = .ok (.iload_n 1, 1)) rfl ?_
      exact fX9_layHops_s36 N G hb ho hy hR he hr hE K9 h9
    · skip
      refine sm_iconst (pc := 31) G hb (by decide +kernel : decode cX9_layHops 31 = .ok (.iconst 0, 1)) (by decide) ?_
      refine sm_goto (pc := 32) (tgt := 36) G hb (by decide +kernel : decode cX9_layHops 32 = .ok (.goto 4, 3)) (by decide) ?_
      exact fX9_layHops_s36 N G hb ho hy hR he hr hE K9 h9
def fX9_layHops_k0 (N : Nat) : gK :=
  s_aload 0 <| s_get gyM 9 9 <| s_const 0 <| s_ald gyM 0 <| s_istore 1 <| s_const 0 <| s_istore 2 <| fX9_layHops_k9 N
set_option maxRecDepth 100000 in
set_option maxHeartbeats 4000000 in
theorem fX9_layHops_s0 {γ : gG} {ε : gE5} (N : Nat) (G : gOK γ) (hb : gcc γ = cX9_layHops) (ho : gow γ = RX9) (hy : gly γ = gyM) (hR : grm γ = { frames := 1, cells := 0, slots := 0, locals := 22 }) (he : genv γ = ε) (hr : grt γ = none) (hE : gEnv ε) : gSm γ 0 (fX9_layHops_k0 N) := by
  unfold fX9_layHops_k0
  refine sm_aload_n (pc := 0) G hb (by decide +kernel : decode cX9_layHops 0 = .ok (.aload_n 0, 1)) rfl ?_
  refine sm_get (pc := 1) (ci := 9) (j := 9) (N := 32) (T := TX9) G hb ho hy rfl (by decide) gin_9 gw6_5 (by decide +kernel : decode cX9_layHops 1 = .ok (.getfield 16, 3)) ?_
  refine sm_iconst (pc := 4) G hb (by decide +kernel : decode cX9_layHops 4 = .ok (.iconst 0, 1)) (by decide) ?_
  refine sm_iald (pc := 5) G hb hy (by decide +kernel : decode cX9_layHops 5 = .ok (.iaload, 1)) ?_
  refine sm_istore_n (pc := 6) G hb (by decide +kernel : decode cX9_layHops 6 = .ok (.istore_n 1, 1)) rfl ?_
  refine sm_iconst (pc := 7) G hb (by decide +kernel : decode cX9_layHops 7 = .ok (.iconst 0, 1)) (by decide) ?_
  refine sm_istore_n (pc := 8) G hb (by decide +kernel : decode cX9_layHops 8 = .ok (.istore_n 2, 1)) rfl ?_
  exact fX9_layHops_s9 N G hb ho hy hR he hr hE
def fX9_layHops (N : Nat) : List Value → gM → Option (gR × gM) := gFn 7 (fX9_layHops_k0 N)
theorem kX9_layHops {ε : gE5} (hE : gEnv ε) (N : Nat) : gCtr ε yX9_layHops cX9_layHops 7 none 1 22 gyM (fX9_layHops N) :=
  gCtr_of hE.1 (by decide) (fun γ G hb ho hy hR he hr => fX9_layHops_s0 N G hb ho hy hR he hr hE)

def fX9_layPressures_k141 (N : Nat) (K71 : gK) : gK := s_mask [true, true, false] <|
  s_ast gyM 0 <| s_iinc 1 1 <| K71
set_option maxRecDepth 100000 in
set_option maxHeartbeats 4000000 in
theorem fX9_layPressures_s141 {γ : gG} {ε : gE5} (N : Nat) (G : gOK γ) (hb : gcc γ = cX9_layPressures) (ho : gow γ = RX9) (hy : gly γ = gyM) (hR : grm γ = { frames := 2, cells := 0, slots := 0, locals := 48 }) (he : genv γ = ε) (hr : grt γ = none) (hE : gEnv ε) (K71 : gK) (h71 : gSm γ 71 K71) : gSm γ 141 (fX9_layPressures_k141 N K71) := by
  unfold fX9_layPressures_k141
  refine sm_mask ?_
  refine sm_iast (pc := 141) G hb hy (by decide +kernel : decode cX9_layPressures 141 = .ok (.iastore, 1)) ?_
  refine sm_iinc (pc := 142) G hb (by decide +kernel : decode cX9_layPressures 142 = .ok (.iinc 1 1, 3)) (by decide) ?_
  refine sm_goto (pc := 145) (tgt := 71) G hb (by decide +kernel : decode cX9_layPressures 145 = .ok (.goto (-74), 3)) (by decide) ?_
  exact h71
def fX9_layPressures_k105 (N : Nat) (K71 : gK) : gK := s_mask [true, true, false] <|
  s_istore 2 <| s_aload 0 <| s_get gyM 9 19 <| s_iload 1 <| s_iload 1 <| s_const 10 <| s_div gb_div <| s_iload 1 <| s_const 10 <| s_div gb_rem <| s_cmp gc_ne (s_iload 2 <| s_aload 0 <| s_get gyM 9 9 <| s_const 5 <| s_ald gyM 0 <| s_aload 0 <| s_get gyM 9 18 <| s_iload 1 <| s_ald gyM 0 <| s_bin gb_mul <| s_bin gb_add <| fX9_layPressures_k141 N K71) (s_const 0 <| fX9_layPressures_k141 N K71)
set_option maxRecDepth 100000 in
set_option maxHeartbeats 4000000 in
theorem fX9_layPressures_s105 {γ : gG} {ε : gE5} (N : Nat) (G : gOK γ) (hb : gcc γ = cX9_layPressures) (ho : gow γ = RX9) (hy : gly γ = gyM) (hR : grm γ = { frames := 2, cells := 0, slots := 0, locals := 48 }) (he : genv γ = ε) (hr : grt γ = none) (hE : gEnv ε) (K71 : gK) (h71 : gSm γ 71 K71) : gSm γ 105 (fX9_layPressures_k105 N K71) := by
  unfold fX9_layPressures_k105
  refine sm_mask ?_
  refine sm_istore_n (pc := 105) G hb (by decide +kernel : decode cX9_layPressures 105 = .ok (.istore_n 2, 1)) rfl ?_
  refine sm_aload_n (pc := 106) G hb (by decide +kernel : decode cX9_layPressures 106 = .ok (.aload_n 0, 1)) rfl ?_
  refine sm_get (pc := 107) (ci := 9) (j := 19) (N := 32) (T := TX9) G hb ho hy rfl (by decide) gin_9 gw6_15 (by decide +kernel : decode cX9_layPressures 107 = .ok (.getfield 35, 3)) ?_
  refine sm_iload_n (pc := 110) G hb (by decide +kernel : decode cX9_layPressures 110 = .ok (.iload_n 1, 1)) rfl ?_
  refine sm_iload_n (pc := 111) G hb (by decide +kernel : decode cX9_layPressures 111 = .ok (.iload_n 1, 1)) rfl ?_
  refine sm_bipush (pc := 112) G hb (by decide +kernel : decode cX9_layPressures 112 = .ok (.bipush 10, 2)) (by decide) ?_
  refine sm_idiv (pc := 114) G hb (by decide +kernel : decode cX9_layPressures 114 = .ok (.idiv, 1)) ?_
  refine sm_iload_n (pc := 115) G hb (by decide +kernel : decode cX9_layPressures 115 = .ok (.iload_n 1, 1)) rfl ?_
  refine sm_bipush (pc := 116) G hb (by decide +kernel : decode cX9_layPressures 116 = .ok (.bipush 10, 2)) (by decide) ?_
  refine sm_irem (pc := 118) G hb (by decide +kernel : decode cX9_layPressures 118 = .ok (.irem, 1)) ?_
  refine sm_icmp_ne (pc := 119) (tgt := 126) G hb (by decide +kernel : decode cX9_layPressures 119 = .ok (.if_icmp .ne 7, 3)) (by decide) ?_ ?_
  · skip
    refine sm_iload_n (pc := 126) G hb (by decide +kernel : decode cX9_layPressures 126 = .ok (.iload_n 2, 1)) rfl ?_
    refine sm_aload_n (pc := 127) G hb (by decide +kernel : decode cX9_layPressures 127 = .ok (.aload_n 0, 1)) rfl ?_
    refine sm_get (pc := 128) (ci := 9) (j := 9) (N := 32) (T := TX9) G hb ho hy rfl (by decide) gin_9 gw6_5 (by decide +kernel : decode cX9_layPressures 128 = .ok (.getfield 16, 3)) ?_
    refine sm_iconst (pc := 131) G hb (by decide +kernel : decode cX9_layPressures 131 = .ok (.iconst 5, 1)) (by decide) ?_
    refine sm_iald (pc := 132) G hb hy (by decide +kernel : decode cX9_layPressures 132 = .ok (.iaload, 1)) ?_
    refine sm_aload_n (pc := 133) G hb (by decide +kernel : decode cX9_layPressures 133 = .ok (.aload_n 0, 1)) rfl ?_
    refine sm_get (pc := 134) (ci := 9) (j := 18) (N := 32) (T := TX9) G hb ho hy rfl (by decide) gin_9 gw6_14 (by decide +kernel : decode cX9_layPressures 134 = .ok (.getfield 32, 3)) ?_
    refine sm_iload_n (pc := 137) G hb (by decide +kernel : decode cX9_layPressures 137 = .ok (.iload_n 1, 1)) rfl ?_
    refine sm_iald (pc := 138) G hb hy (by decide +kernel : decode cX9_layPressures 138 = .ok (.iaload, 1)) ?_
    refine sm_imul (pc := 139) G hb (by decide +kernel : decode cX9_layPressures 139 = .ok (.imul, 1)) ?_
    refine sm_iadd (pc := 140) G hb (by decide +kernel : decode cX9_layPressures 140 = .ok (.iadd, 1)) ?_
    exact fX9_layPressures_s141 N G hb ho hy hR he hr hE K71 h71
  · skip
    refine sm_iconst (pc := 122) G hb (by decide +kernel : decode cX9_layPressures 122 = .ok (.iconst 0, 1)) (by decide) ?_
    refine sm_goto (pc := 123) (tgt := 141) G hb (by decide +kernel : decode cX9_layPressures 123 = .ok (.goto 18, 3)) (by decide) ?_
    exact fX9_layPressures_s141 N G hb ho hy hR he hr hE K71 h71
def fX9_layPressures_k71 (N : Nat) : gK := s_lp (fun K71 => s_mask [true, true, false] <|
  s_iload 1 <| s_const 100 <| s_cmp gc_ge (s_vret) (s_aload 0 <| s_get gyM 9 9 <| s_const 3 <| s_ald gyM 0 <| s_if gz_ne (s_aload 0 <| s_get gyM 9 9 <| s_const 145 <| s_iload 1 <| s_bin gb_add <| s_ald gyM 0 <| fX9_layPressures_k105 N K71) (s_aload 0 <| s_get gyM 9 20 <| s_iload 1 <| s_ald gyM 0 <| fX9_layPressures_k105 N K71))) N
set_option maxRecDepth 100000 in
set_option maxHeartbeats 4000000 in
theorem fX9_layPressures_s71 {γ : gG} {ε : gE5} (N : Nat) (G : gOK γ) (hb : gcc γ = cX9_layPressures) (ho : gow γ = RX9) (hy : gly γ = gyM) (hR : grm γ = { frames := 2, cells := 0, slots := 0, locals := 48 }) (he : genv γ = ε) (hr : grt γ = none) (hE : gEnv ε) : gSm γ 71 (fX9_layPressures_k71 N) := by
  unfold fX9_layPressures_k71
  refine sm_lp (fun K71 h71 => ?_) N
  refine sm_mask ?_
  refine sm_iload_n (pc := 71) G hb (by decide +kernel : decode cX9_layPressures 71 = .ok (.iload_n 1, 1)) rfl ?_
  refine sm_bipush (pc := 72) G hb (by decide +kernel : decode cX9_layPressures 72 = .ok (.bipush 100, 2)) (by decide) ?_
  refine sm_icmp_ge (pc := 74) (tgt := 148) G hb (by decide +kernel : decode cX9_layPressures 74 = .ok (.if_icmp .ge 74, 3)) (by decide) ?_ ?_
  · skip
    exact sm_vret (pc := 148) G hb (by decide +kernel : decode cX9_layPressures 148 = .ok (.return_, 1)) hr
  · skip
    refine sm_aload_n (pc := 77) G hb (by decide +kernel : decode cX9_layPressures 77 = .ok (.aload_n 0, 1)) rfl ?_
    refine sm_get (pc := 78) (ci := 9) (j := 9) (N := 32) (T := TX9) G hb ho hy rfl (by decide) gin_9 gw6_5 (by decide +kernel : decode cX9_layPressures 78 = .ok (.getfield 16, 3)) ?_
    refine sm_iconst (pc := 81) G hb (by decide +kernel : decode cX9_layPressures 81 = .ok (.iconst 3, 1)) (by decide) ?_
    refine sm_iald (pc := 82) G hb hy (by decide +kernel : decode cX9_layPressures 82 = .ok (.iaload, 1)) ?_
    refine sm_if_ne (pc := 83) (tgt := 95) G hb (by decide +kernel : decode cX9_layPressures 83 = .ok (.ifCond .ne 12, 3)) (by decide) ?_ ?_
    · skip
      refine sm_aload_n (pc := 95) G hb (by decide +kernel : decode cX9_layPressures 95 = .ok (.aload_n 0, 1)) rfl ?_
      refine sm_get (pc := 96) (ci := 9) (j := 9) (N := 32) (T := TX9) G hb ho hy rfl (by decide) gin_9 gw6_5 (by decide +kernel : decode cX9_layPressures 96 = .ok (.getfield 16, 3)) ?_
      refine sm_sipush (pc := 99) G hb (by decide +kernel : decode cX9_layPressures 99 = .ok (.sipush 145, 3)) (by decide) ?_
      refine sm_iload_n (pc := 102) G hb (by decide +kernel : decode cX9_layPressures 102 = .ok (.iload_n 1, 1)) rfl ?_
      refine sm_iadd (pc := 103) G hb (by decide +kernel : decode cX9_layPressures 103 = .ok (.iadd, 1)) ?_
      refine sm_iald (pc := 104) G hb hy (by decide +kernel : decode cX9_layPressures 104 = .ok (.iaload, 1)) ?_
      exact fX9_layPressures_s105 N G hb ho hy hR he hr hE K71 h71
    · skip
      refine sm_aload_n (pc := 86) G hb (by decide +kernel : decode cX9_layPressures 86 = .ok (.aload_n 0, 1)) rfl ?_
      refine sm_get (pc := 87) (ci := 9) (j := 20) (N := 32) (T := TX9) G hb ho hy rfl (by decide) gin_9 gw6_16 (by decide +kernel : decode cX9_layPressures 87 = .ok (.getfield 38, 3)) ?_
      refine sm_iload_n (pc := 90) G hb (by decide +kernel : decode cX9_layPressures 90 = .ok (.iload_n 1, 1)) rfl ?_
      refine sm_iald (pc := 91) G hb hy (by decide +kernel : decode cX9_layPressures 91 = .ok (.iaload, 1)) ?_
      refine sm_goto (pc := 92) (tgt := 105) G hb (by decide +kernel : decode cX9_layPressures 92 = .ok (.goto 13, 3)) (by decide) ?_
      exact fX9_layPressures_s105 N G hb ho hy hR he hr hE K71 h71
def fX9_layPressures_k27 (N : Nat) : gK := s_lp (fun K27 => s_mask [true, true, false] <|
  s_iload 1 <| s_aload 0 <| s_get gyM 9 9 <| s_const 245 <| s_ald gyM 0 <| s_cmp gc_ge (s_const 0 <| s_istore 1 <| fX9_layPressures_k71 N) (s_aload 0 <| s_get gyM 9 20 <| s_const 10 <| s_aload 0 <| s_iload 1 <| s_const 4 <| s_callv (fX9_packetPart N) 3 [0, 1, 2, 3, 4, 5, 6, 7, 8, 9, 10, 11, 12, 13, 14, 15, 16, 17] <| s_bin gb_mul <| s_aload 0 <| s_iload 1 <| s_callv (fX9_goalOf N) 2 [0, 1, 2, 3, 4, 5, 6, 7, 8, 9, 10, 11, 12, 13, 14, 15, 16, 17] <| s_bin gb_add <| s_dup2 <| s_ald gyM 0 <| s_const 1 <| s_bin gb_add <| s_ast gyM 0 <| s_iinc 1 1 <| K27)) N
set_option maxRecDepth 100000 in
set_option maxHeartbeats 4000000 in
theorem fX9_layPressures_s27 {γ : gG} {ε : gE5} (N : Nat) (G : gOK γ) (hb : gcc γ = cX9_layPressures) (ho : gow γ = RX9) (hy : gly γ = gyM) (hR : grm γ = { frames := 2, cells := 0, slots := 0, locals := 48 }) (he : genv γ = ε) (hr : grt γ = none) (hE : gEnv ε) : gSm γ 27 (fX9_layPressures_k27 N) := by
  unfold fX9_layPressures_k27
  refine sm_lp (fun K27 h27 => ?_) N
  refine sm_mask ?_
  refine sm_iload_n (pc := 27) G hb (by decide +kernel : decode cX9_layPressures 27 = .ok (.iload_n 1, 1)) rfl ?_
  refine sm_aload_n (pc := 28) G hb (by decide +kernel : decode cX9_layPressures 28 = .ok (.aload_n 0, 1)) rfl ?_
  refine sm_get (pc := 29) (ci := 9) (j := 9) (N := 32) (T := TX9) G hb ho hy rfl (by decide) gin_9 gw6_5 (by decide +kernel : decode cX9_layPressures 29 = .ok (.getfield 16, 3)) ?_
  refine sm_sipush (pc := 32) G hb (by decide +kernel : decode cX9_layPressures 32 = .ok (.sipush 245, 3)) (by decide) ?_
  refine sm_iald (pc := 35) G hb hy (by decide +kernel : decode cX9_layPressures 35 = .ok (.iaload, 1)) ?_
  refine sm_icmp_ge (pc := 36) (tgt := 69) G hb (by decide +kernel : decode cX9_layPressures 36 = .ok (.if_icmp .ge 33, 3)) (by decide) ?_ ?_
  · skip
    refine sm_iconst (pc := 69) G hb (by decide +kernel : decode cX9_layPressures 69 = .ok (.iconst 0, 1)) (by decide) ?_
    refine sm_istore_n (pc := 70) G hb (by decide +kernel : decode cX9_layPressures 70 = .ok (.istore_n 1, 1)) rfl ?_
    exact fX9_layPressures_s71 N G hb ho hy hR he hr hE
  · skip
    refine sm_aload_n (pc := 39) G hb (by decide +kernel : decode cX9_layPressures 39 = .ok (.aload_n 0, 1)) rfl ?_
    refine sm_get (pc := 40) (ci := 9) (j := 20) (N := 32) (T := TX9) G hb ho hy rfl (by decide) gin_9 gw6_16 (by decide +kernel : decode cX9_layPressures 40 = .ok (.getfield 38, 3)) ?_
    refine sm_bipush (pc := 43) G hb (by decide +kernel : decode cX9_layPressures 43 = .ok (.bipush 10, 2)) (by decide) ?_
    refine sm_aload_n (pc := 45) G hb (by decide +kernel : decode cX9_layPressures 45 = .ok (.aload_n 0, 1)) rfl ?_
    refine sm_iload_n (pc := 46) G hb (by decide +kernel : decode cX9_layPressures 46 = .ok (.iload_n 1, 1)) rfl ?_
    refine sm_iconst (pc := 47) G hb (by decide +kernel : decode cX9_layPressures 47 = .ok (.iconst 4, 1)) (by decide) ?_
    refine sm_callV (pc := 48) (N := 32) (T := TX9) (C := RX9) G hb ho hy he hE.1 3 [0, 1, 2, 3, 4, 5, 6, 7, 8, 9, 10, 11, 12, 13, 14, 15, 16, 17] (kX9_packetPart hE N) (gCo_of (by decide +kernel)) (by rw [hR]; exact ⟨by decide, by decide⟩) rfl rfl (by decide +kernel) gw7_84 gw7_86 gw0_63 gw1_11 gw7_87 (by decide +kernel : decode cX9_layPressures 48 = .ok (.invokevirtual 237, 3)) ?_
    refine sm_imul (pc := 51) G hb (by decide +kernel : decode cX9_layPressures 51 = .ok (.imul, 1)) ?_
    refine sm_aload_n (pc := 52) G hb (by decide +kernel : decode cX9_layPressures 52 = .ok (.aload_n 0, 1)) rfl ?_
    refine sm_iload_n (pc := 53) G hb (by decide +kernel : decode cX9_layPressures 53 = .ok (.iload_n 1, 1)) rfl ?_
    refine sm_callV (pc := 54) (N := 32) (T := TX9) (C := RX9) G hb ho hy he hE.1 2 [0, 1, 2, 3, 4, 5, 6, 7, 8, 9, 10, 11, 12, 13, 14, 15, 16, 17] (kX9_goalOf hE N) (gCo_of (by decide +kernel)) (by rw [hR]; exact ⟨by decide, by decide⟩) rfl rfl (by decide +kernel) gw7_88 gw7_90 gw0_64 gw1_11 gw7_91 (by decide +kernel : decode cX9_layPressures 54 = .ok (.invokevirtual 243, 3)) ?_
    refine sm_iadd (pc := 57) G hb (by decide +kernel : decode cX9_layPressures 57 = .ok (.iadd, 1)) ?_
    refine sm_dup2 (pc := 58) G hb (by decide +kernel : decode cX9_layPressures 58 = .ok (.dup2, 1)) ?_
    refine sm_iald (pc := 59) G hb hy (by decide +kernel : decode cX9_layPressures 59 = .ok (.iaload, 1)) ?_
    refine sm_iconst (pc := 60) G hb (by decide +kernel : decode cX9_layPressures 60 = .ok (.iconst 1, 1)) (by decide) ?_
    refine sm_iadd (pc := 61) G hb (by decide +kernel : decode cX9_layPressures 61 = .ok (.iadd, 1)) ?_
    refine sm_iast (pc := 62) G hb hy (by decide +kernel : decode cX9_layPressures 62 = .ok (.iastore, 1)) ?_
    refine sm_iinc (pc := 63) G hb (by decide +kernel : decode cX9_layPressures 63 = .ok (.iinc 1 1, 3)) (by decide) ?_
    refine sm_goto (pc := 66) (tgt := 27) G hb (by decide +kernel : decode cX9_layPressures 66 = .ok (.goto (-39), 3)) (by decide) ?_
    exact h27
def fX9_layPressures_k6 (N : Nat) : gK := s_lp (fun K6 => s_mask [true, true, false] <|
  s_iload 1 <| s_const 100 <| s_cmp gc_ge (s_const 0 <| s_istore 1 <| fX9_layPressures_k27 N) (s_aload 0 <| s_get gyM 9 20 <| s_iload 1 <| s_const 0 <| s_ast gyM 0 <| s_iinc 1 1 <| K6)) N
set_option maxRecDepth 100000 in
set_option maxHeartbeats 4000000 in
theorem fX9_layPressures_s6 {γ : gG} {ε : gE5} (N : Nat) (G : gOK γ) (hb : gcc γ = cX9_layPressures) (ho : gow γ = RX9) (hy : gly γ = gyM) (hR : grm γ = { frames := 2, cells := 0, slots := 0, locals := 48 }) (he : genv γ = ε) (hr : grt γ = none) (hE : gEnv ε) : gSm γ 6 (fX9_layPressures_k6 N) := by
  unfold fX9_layPressures_k6
  refine sm_lp (fun K6 h6 => ?_) N
  refine sm_mask ?_
  refine sm_iload_n (pc := 6) G hb (by decide +kernel : decode cX9_layPressures 6 = .ok (.iload_n 1, 1)) rfl ?_
  refine sm_bipush (pc := 7) G hb (by decide +kernel : decode cX9_layPressures 7 = .ok (.bipush 100, 2)) (by decide) ?_
  refine sm_icmp_ge (pc := 9) (tgt := 25) G hb (by decide +kernel : decode cX9_layPressures 9 = .ok (.if_icmp .ge 16, 3)) (by decide) ?_ ?_
  · skip
    refine sm_iconst (pc := 25) G hb (by decide +kernel : decode cX9_layPressures 25 = .ok (.iconst 0, 1)) (by decide) ?_
    refine sm_istore_n (pc := 26) G hb (by decide +kernel : decode cX9_layPressures 26 = .ok (.istore_n 1, 1)) rfl ?_
    exact fX9_layPressures_s27 N G hb ho hy hR he hr hE
  · skip
    refine sm_aload_n (pc := 12) G hb (by decide +kernel : decode cX9_layPressures 12 = .ok (.aload_n 0, 1)) rfl ?_
    refine sm_get (pc := 13) (ci := 9) (j := 20) (N := 32) (T := TX9) G hb ho hy rfl (by decide) gin_9 gw6_16 (by decide +kernel : decode cX9_layPressures 13 = .ok (.getfield 38, 3)) ?_
    refine sm_iload_n (pc := 16) G hb (by decide +kernel : decode cX9_layPressures 16 = .ok (.iload_n 1, 1)) rfl ?_
    refine sm_iconst (pc := 17) G hb (by decide +kernel : decode cX9_layPressures 17 = .ok (.iconst 0, 1)) (by decide) ?_
    refine sm_iast (pc := 18) G hb hy (by decide +kernel : decode cX9_layPressures 18 = .ok (.iastore, 1)) ?_
    refine sm_iinc (pc := 19) G hb (by decide +kernel : decode cX9_layPressures 19 = .ok (.iinc 1 1, 3)) (by decide) ?_
    refine sm_goto (pc := 22) (tgt := 6) G hb (by decide +kernel : decode cX9_layPressures 22 = .ok (.goto (-16), 3)) (by decide) ?_
    exact h6
def fX9_layPressures_k0 (N : Nat) : gK :=
  s_aload 0 <| s_callv (fX9_layHops N) 1 [0, 1, 2, 3, 4, 5, 6, 7, 8, 9, 10, 11, 12, 13, 14, 15, 16, 17] <| s_const 0 <| s_istore 1 <| fX9_layPressures_k6 N
set_option maxRecDepth 100000 in
set_option maxHeartbeats 4000000 in
theorem fX9_layPressures_s0 {γ : gG} {ε : gE5} (N : Nat) (G : gOK γ) (hb : gcc γ = cX9_layPressures) (ho : gow γ = RX9) (hy : gly γ = gyM) (hR : grm γ = { frames := 2, cells := 0, slots := 0, locals := 48 }) (he : genv γ = ε) (hr : grt γ = none) (hE : gEnv ε) : gSm γ 0 (fX9_layPressures_k0 N) := by
  unfold fX9_layPressures_k0
  refine sm_aload_n (pc := 0) G hb (by decide +kernel : decode cX9_layPressures 0 = .ok (.aload_n 0, 1)) rfl ?_
  refine sm_callV (pc := 1) (N := 32) (T := TX9) (C := RX9) G hb ho hy he hE.1 1 [0, 1, 2, 3, 4, 5, 6, 7, 8, 9, 10, 11, 12, 13, 14, 15, 16, 17] (kX9_layHops hE N) (gCo_of (by decide +kernel)) (by rw [hR]; exact ⟨by decide, by decide⟩) rfl rfl (by decide +kernel) gw7_139 gw7_141 gw0_73 gw1_11 gw7_142 (by decide +kernel : decode cX9_layPressures 1 = .ok (.invokevirtual 253, 3)) ?_
  refine sm_iconst (pc := 4) G hb (by decide +kernel : decode cX9_layPressures 4 = .ok (.iconst 0, 1)) (by decide) ?_
  refine sm_istore_n (pc := 5) G hb (by decide +kernel : decode cX9_layPressures 5 = .ok (.istore_n 1, 1)) rfl ?_
  exact fX9_layPressures_s6 N G hb ho hy hR he hr hE
def fX9_layPressures (N : Nat) : List Value → gM → Option (gR × gM) := gFn 3 (fX9_layPressures_k0 N)
theorem kX9_layPressures {ε : gE5} (hE : gEnv ε) (N : Nat) : gCtr ε yX9_layPressures cX9_layPressures 3 none 2 48 gyM (fX9_layPressures N) :=
  gCtr_of hE.1 (by decide) (fun γ G hb ho hy hR he hr => fX9_layPressures_s0 N G hb ho hy hR he hr hE)

def fX9_isPossible_k46 (N : Nat) : gK := s_mask [false, false, false, false] <|
  s_const 1 <| s_zret
set_option maxRecDepth 100000 in
set_option maxHeartbeats 4000000 in
theorem fX9_isPossible_s46 {γ : gG} {ε : gE5} (N : Nat) (G : gOK γ) (hb : gcc γ = cX9_isPossible) (ho : gow γ = RX9) (hy : gly γ = gyM) (hR : grm γ = { frames := 0, cells := 0, slots := 0, locals := 0 }) (he : genv γ = ε) (hr : grt γ = (some .boolean)) (hE : gEnv ε) : gSm γ 46 (fX9_isPossible_k46 N) := by
  unfold fX9_isPossible_k46
  refine sm_mask ?_
  refine sm_iconst (pc := 46) G hb (by decide +kernel : decode cX9_isPossible 46 = .ok (.iconst 1, 1)) (by decide) ?_
  refine sm_goto (pc := 47) (tgt := 51) G hb (by decide +kernel : decode cX9_isPossible 47 = .ok (.goto 4, 3)) (by decide) ?_
  exact sm_zret (pc := 51) G hb (by decide +kernel : decode cX9_isPossible 51 = .ok (.ireturn, 1)) hr
def fX9_isPossible_k0 (N : Nat) : gK :=
  s_const 10 <| s_iload 1 <| s_bin gb_mul <| s_iload 2 <| s_bin gb_add <| s_istore 3 <| s_iload 2 <| s_iload 1 <| s_cmp gc_eq (s_const 0 <| s_zret) (s_aload 0 <| s_get gyM 9 9 <| s_const 3 <| s_ald gyM 0 <| s_if gz_ne (s_aload 0 <| s_get gyM 9 9 <| s_const 145 <| s_iload 3 <| s_bin gb_add <| s_ald gyM 0 <| s_if gz_le (s_const 0 <| s_zret) (fX9_isPossible_k46 N)) (s_aload 0 <| s_get gyM 9 20 <| s_iload 3 <| s_ald gyM 0 <| s_if gz_le (s_const 0 <| s_zret) (fX9_isPossible_k46 N)))
set_option maxRecDepth 100000 in
set_option maxHeartbeats 4000000 in
theorem fX9_isPossible_s0 {γ : gG} {ε : gE5} (N : Nat) (G : gOK γ) (hb : gcc γ = cX9_isPossible) (ho : gow γ = RX9) (hy : gly γ = gyM) (hR : grm γ = { frames := 0, cells := 0, slots := 0, locals := 0 }) (he : genv γ = ε) (hr : grt γ = (some .boolean)) (hE : gEnv ε) : gSm γ 0 (fX9_isPossible_k0 N) := by
  unfold fX9_isPossible_k0
  refine sm_bipush (pc := 0) G hb (by decide +kernel : decode cX9_isPossible 0 = .ok (.bipush 10, 2)) (by decide) ?_
  refine sm_iload_n (pc := 2) G hb (by decide +kernel : decode cX9_isPossible 2 = .ok (.iload_n 1, 1)) rfl ?_
  refine sm_imul (pc := 3) G hb (by decide +kernel : decode cX9_isPossible 3 = .ok (.imul, 1)) ?_
  refine sm_iload_n (pc := 4) G hb (by decide +kernel : decode cX9_isPossible 4 = .ok (.iload_n 2, 1)) rfl ?_
  refine sm_iadd (pc := 5) G hb (by decide +kernel : decode cX9_isPossible 5 = .ok (.iadd, 1)) ?_
  refine sm_istore_n (pc := 6) G hb (by decide +kernel : decode cX9_isPossible 6 = .ok (.istore_n 3, 1)) rfl ?_
  refine sm_iload_n (pc := 7) G hb (by decide +kernel : decode cX9_isPossible 7 = .ok (.iload_n 2, 1)) rfl ?_
  refine sm_iload_n (pc := 8) G hb (by decide +kernel : decode cX9_isPossible 8 = .ok (.iload_n 1, 1)) rfl ?_
  refine sm_icmp_eq (pc := 9) (tgt := 50) G hb (by decide +kernel : decode cX9_isPossible 9 = .ok (.if_icmp .eq 41, 3)) (by decide) ?_ ?_
  · skip
    refine sm_iconst (pc := 50) G hb (by decide +kernel : decode cX9_isPossible 50 = .ok (.iconst 0, 1)) (by decide) ?_
    exact sm_zret (pc := 51) G hb (by decide +kernel : decode cX9_isPossible 51 = .ok (.ireturn, 1)) hr
  · skip
    refine sm_aload_n (pc := 12) G hb (by decide +kernel : decode cX9_isPossible 12 = .ok (.aload_n 0, 1)) rfl ?_
    refine sm_get (pc := 13) (ci := 9) (j := 9) (N := 32) (T := TX9) G hb ho hy rfl (by decide) gin_9 gw6_5 (by decide +kernel : decode cX9_isPossible 13 = .ok (.getfield 16, 3)) ?_
    refine sm_iconst (pc := 16) G hb (by decide +kernel : decode cX9_isPossible 16 = .ok (.iconst 3, 1)) (by decide) ?_
    refine sm_iald (pc := 17) G hb hy (by decide +kernel : decode cX9_isPossible 17 = .ok (.iaload, 1)) ?_
    refine sm_if_ne (pc := 18) (tgt := 33) G hb (by decide +kernel : decode cX9_isPossible 18 = .ok (.ifCond .ne 15, 3)) (by decide) ?_ ?_
    · skip
      refine sm_aload_n (pc := 33) G hb (by decide +kernel : decode cX9_isPossible 33 = .ok (.aload_n 0, 1)) rfl ?_
      refine sm_get (pc := 34) (ci := 9) (j := 9) (N := 32) (T := TX9) G hb ho hy rfl (by decide) gin_9 gw6_5 (by decide +kernel : decode cX9_isPossible 34 = .ok (.getfield 16, 3)) ?_
      refine sm_sipush (pc := 37) G hb (by decide +kernel : decode cX9_isPossible 37 = .ok (.sipush 145, 3)) (by decide) ?_
      refine sm_iload_n (pc := 40) G hb (by decide +kernel : decode cX9_isPossible 40 = .ok (.iload_n 3, 1)) rfl ?_
      refine sm_iadd (pc := 41) G hb (by decide +kernel : decode cX9_isPossible 41 = .ok (.iadd, 1)) ?_
      refine sm_iald (pc := 42) G hb hy (by decide +kernel : decode cX9_isPossible 42 = .ok (.iaload, 1)) ?_
      refine sm_if_le (pc := 43) (tgt := 50) G hb (by decide +kernel : decode cX9_isPossible 43 = .ok (.ifCond .le 7, 3)) (by decide) ?_ ?_
      · skip
        refine sm_iconst (pc := 50) G hb (by decide +kernel : decode cX9_isPossible 50 = .ok (.iconst 0, 1)) (by decide) ?_
        exact sm_zret (pc := 51) G hb (by decide +kernel : decode cX9_isPossible 51 = .ok (.ireturn, 1)) hr
      · skip
        exact fX9_isPossible_s46 N G hb ho hy hR he hr hE
    · skip
      refine sm_aload_n (pc := 21) G hb (by decide +kernel : decode cX9_isPossible 21 = .ok (.aload_n 0, 1)) rfl ?_
      refine sm_get (pc := 22) (ci := 9) (j := 20) (N := 32) (T := TX9) G hb ho hy rfl (by decide) gin_9 gw6_16 (by decide +kernel : decode cX9_isPossible 22 = .ok (.getfield 38, 3)) ?_
      refine sm_iload_n (pc := 25) G hb (by decide +kernel : decode cX9_isPossible 25 = .ok (.iload_n 3, 1)) rfl ?_
      refine sm_iald (pc := 26) G hb hy (by decide +kernel : decode cX9_isPossible 26 = .ok (.iaload, 1)) ?_
      refine sm_if_le (pc := 27) (tgt := 50) G hb (by decide +kernel : decode cX9_isPossible 27 = .ok (.ifCond .le 23, 3)) (by decide) ?_ ?_
      · skip
        refine sm_iconst (pc := 50) G hb (by decide +kernel : decode cX9_isPossible 50 = .ok (.iconst 0, 1)) (by decide) ?_
        exact sm_zret (pc := 51) G hb (by decide +kernel : decode cX9_isPossible 51 = .ok (.ireturn, 1)) hr
      · skip
        refine sm_goto (pc := 30) (tgt := 46) G hb (by decide +kernel : decode cX9_isPossible 30 = .ok (.goto 16, 3)) (by decide) ?_
        exact fX9_isPossible_s46 N G hb ho hy hR he hr hE
def fX9_isPossible (N : Nat) : List Value → gM → Option (gR × gM) := gFn 4 (fX9_isPossible_k0 N)
theorem kX9_isPossible {ε : gE5} (hE : gEnv ε) (N : Nat) : gCtr ε yX9_isPossible cX9_isPossible 4 (some .boolean) 0 0 gyM (fX9_isPossible N) :=
  gCtr_of hE.1 (by decide) (fun γ G hb ho hy hR he hr => fX9_isPossible_s0 N G hb ho hy hR he hr hE)
