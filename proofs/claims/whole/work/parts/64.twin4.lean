set_option maxRecDepth 100000 in
set_option maxHeartbeats 4000000 in
theorem fX9_maxFlow_s37 {γ : gG} {cs ss : Nat} {ε : gE5} (N : Nat) (G : gOK γ) (hb : gcc γ = cX9_maxFlow) (ho : gow γ = RX9) (hy : gly γ = gyM) (hR : grm γ = { frames := 3, cells := 0, slots := 0, locals := 68 }) (he : genv γ = ε) (hr : grt γ = (some .int)) (hE : gEnv ε) : gSm γ cs ss 37 (fX9_maxFlow_k37 N) := by
  unfold fX9_maxFlow_k37
  refine sm_iconst (pc := 37) G hb (by decide +kernel : decode cX9_maxFlow 37 = .ok (.iconst 0, 1)) (by decide) ?_
  refine sm_goto (pc := 38) (tgt := 47) G hb (by decide +kernel : decode cX9_maxFlow 38 = .ok (.goto 9, 3)) (by decide) ?_
  exact sm_iret (pc := 47) G hb (by decide +kernel : decode cX9_maxFlow 47 = .ok (.ireturn, 1)) hr
set_option maxRecDepth 100000 in
set_option maxHeartbeats 4000000 in
theorem fX9_maxFlow_s30 {γ : gG} {cs ss : Nat} {ε : gE5} (N : Nat) (G : gOK γ) (hb : gcc γ = cX9_maxFlow) (ho : gow γ = RX9) (hy : gly γ = gyM) (hR : grm γ = { frames := 3, cells := 0, slots := 0, locals := 68 }) (he : genv γ = ε) (hr : grt γ = (some .int)) (hE : gEnv ε) : gSm γ cs ss 30 (fX9_maxFlow_k30 N) := by
  unfold fX9_maxFlow_k30
  refine sm_iconst (pc := 30) G hb (by decide +kernel : decode cX9_maxFlow 30 = .ok (.iconst 2, 1)) (by decide) ?_
  refine sm_mono (cav_sub gI_sub) (sm_callV (pc := 31) (N := 32) (T := TX9) (C := RX9) G hb ho hy he hE.1 3 [0, 1, 2, 3, 4, 5, 6, 7, 8, 9, 10, 11, 12, 13, 14, 15, 16, 17] (kX9_fails hE N) (gCo_of (by decide +kernel)) (by rw [hR]; exact ⟨by decide, by decide⟩) rfl rfl (by decide +kernel) gw6_105 gw6_107 gw0_34 gw1_11 gw6_108 (by decide +kernel : decode cX9_maxFlow 31 = .ok (.invokevirtual 87, 3)) ?_)
  refine sm_if_eq (pc := 34) (tgt := 41) G hb (by decide +kernel : decode cX9_maxFlow 34 = .ok (.ifCond .eq 7, 3)) (by decide) ?_ ?_
  · skip
    refine sm_aload_n (pc := 41) G hb (by decide +kernel : decode cX9_maxFlow 41 = .ok (.aload_n 0, 1)) rfl ?_
    refine sm_iload_n (pc := 42) G hb (by decide +kernel : decode cX9_maxFlow 42 = .ok (.iload_n 1, 1)) rfl ?_
    refine sm_iload_n (pc := 43) G hb (by decide +kernel : decode cX9_maxFlow 43 = .ok (.iload_n 2, 1)) rfl ?_
    refine sm_mono (cav_sub gI_sub) (sm_callV (pc := 44) (N := 32) (T := TX9) (C := RX9) G hb ho hy he hE.1 3 [0, 1, 2, 3, 4, 5, 6, 7, 8, 9, 10, 11, 12, 13, 14, 15, 16, 17] (kX9_greatestFlow hE N) (gCo_of (by decide +kernel)) (by rw [hR]; exact ⟨by decide, by decide⟩) rfl rfl (by decide +kernel) gw7_223 gw7_225 gw0_87 gw1_11 gw7_226 (by decide +kernel : decode cX9_maxFlow 44 = .ok (.invokevirtual 395, 3)) ?_)
    exact sm_iret (pc := 47) G hb (by decide +kernel : decode cX9_maxFlow 47 = .ok (.ireturn, 1)) hr
  · skip
    refine sm_mask ?_
    exact fX9_maxFlow_s37 N G hb ho hy hR he hr hE
set_option maxRecDepth 100000 in
set_option maxHeartbeats 4000000 in
theorem fX9_maxFlow_s0 {γ : gG} {cs ss : Nat} {ε : gE5} (N : Nat) (G : gOK γ) (hb : gcc γ = cX9_maxFlow) (ho : gow γ = RX9) (hy : gly γ = gyM) (hR : grm γ = { frames := 3, cells := 0, slots := 0, locals := 68 }) (he : genv γ = ε) (hr : grt γ = (some .int)) (hE : gEnv ε) : gSm γ cs ss 0 (fX9_maxFlow_k0 N) := by
  unfold fX9_maxFlow_k0
  refine sm_aload_n (pc := 0) G hb (by decide +kernel : decode cX9_maxFlow 0 = .ok (.aload_n 0, 1)) rfl ?_
  refine sm_iconst (pc := 1) G hb (by decide +kernel : decode cX9_maxFlow 1 = .ok (.iconst 0, 1)) (by decide) ?_
  refine sm_put (pc := 2) (ci := 9) (j := 0) (N := 32) (T := TX9) G hb ho hy tyX9 tyX9_ok nmX9 rfl (by decide) gin_9 gw5_236 rfl rfl (by decide +kernel : decode cX9_maxFlow 2 = .ok (.putfield 76, 3)) ?_
  refine sm_aload_n (pc := 5) G hb (by decide +kernel : decode cX9_maxFlow 5 = .ok (.aload_n 0, 1)) rfl ?_
  refine sm_aload_n (pc := 6) G hb (by decide +kernel : decode cX9_maxFlow 6 = .ok (.aload_n 0, 1)) rfl ?_
  refine sm_iload_n (pc := 7) G hb (by decide +kernel : decode cX9_maxFlow 7 = .ok (.iload_n 1, 1)) rfl ?_
  refine sm_iload_n (pc := 8) G hb (by decide +kernel : decode cX9_maxFlow 8 = .ok (.iload_n 2, 1)) rfl ?_
  refine sm_mono (cav_sub gI_sub) (sm_callV (pc := 9) (N := 32) (T := TX9) (C := RX9) G hb ho hy he hE.1 3 [0, 1, 2, 3, 4, 5, 6, 7, 8, 9, 10, 11, 12, 13, 14, 15, 16, 17] (kX9_areNodes hE N) (gCo_of (by decide +kernel)) (by rw [hR]; exact ⟨by decide, by decide⟩) rfl rfl (by decide +kernel) gw6_236 gw6_238 gw0_51 gw1_11 gw6_239 (by decide +kernel : decode cX9_maxFlow 9 = .ok (.invokevirtual 340, 3)) ?_)
  refine sm_iconst (pc := 12) G hb (by decide +kernel : decode cX9_maxFlow 12 = .ok (.iconst 1, 1)) (by decide) ?_
  refine sm_mono (cav_sub gI_sub) (sm_callV (pc := 13) (N := 32) (T := TX9) (C := RX9) G hb ho hy he hE.1 3 [0, 1, 2, 3, 4, 5, 6, 7, 8, 9, 10, 11, 12, 13, 14, 15, 16, 17] (kX9_fails hE N) (gCo_of (by decide +kernel)) (by rw [hR]; exact ⟨by decide, by decide⟩) rfl rfl (by decide +kernel) gw6_105 gw6_107 gw0_34 gw1_11 gw6_108 (by decide +kernel : decode cX9_maxFlow 13 = .ok (.invokevirtual 87, 3)) ?_)
  refine sm_if_ne (pc := 16) (tgt := 37) G hb (by decide +kernel : decode cX9_maxFlow 16 = .ok (.ifCond .ne 21, 3)) (by decide) ?_ ?_
  · skip
    refine sm_mask ?_
    exact fX9_maxFlow_s37 N G hb ho hy hR he hr hE
  · skip
    refine sm_aload_n (pc := 19) G hb (by decide +kernel : decode cX9_maxFlow 19 = .ok (.aload_n 0, 1)) rfl ?_
    refine sm_iload_n (pc := 20) G hb (by decide +kernel : decode cX9_maxFlow 20 = .ok (.iload_n 1, 1)) rfl ?_
    refine sm_iload_n (pc := 21) G hb (by decide +kernel : decode cX9_maxFlow 21 = .ok (.iload_n 2, 1)) rfl ?_
    refine sm_icmp_eq (pc := 22) (tgt := 29) G hb (by decide +kernel : decode cX9_maxFlow 22 = .ok (.if_icmp .eq 7, 3)) (by decide) ?_ ?_
    · skip
      refine sm_iconst (pc := 29) G hb (by decide +kernel : decode cX9_maxFlow 29 = .ok (.iconst 0, 1)) (by decide) ?_
      refine sm_mask ?_
      exact fX9_maxFlow_s30 N G hb ho hy hR he hr hE
    · skip
      refine sm_iconst (pc := 25) G hb (by decide +kernel : decode cX9_maxFlow 25 = .ok (.iconst 1, 1)) (by decide) ?_
      refine sm_goto (pc := 26) (tgt := 30) G hb (by decide +kernel : decode cX9_maxFlow 26 = .ok (.goto 4, 3)) (by decide) ?_
      refine sm_mask ?_
      exact fX9_maxFlow_s30 N G hb ho hy hR he hr hE
theorem kX9_maxFlow {ε : gE5} (hE : gEnv ε) (N : Nat) : gCtr ε yX9_maxFlow cX9_maxFlow 3 (some .int) 3 68 gyM (fX9_maxFlow N) :=
  gCtr_of hE.1 (by decide) (fun γ G hb ho hy hR he hr => fX9_maxFlow_s0 N G hb ho hy hR he hr hE)

set_option maxRecDepth 100000 in
set_option maxHeartbeats 4000000 in
theorem fX9_cutSide_s30 {γ : gG} {cs ss : Nat} {ε : gE5} (N : Nat) (G : gOK γ) (hb : gcc γ = cX9_cutSide) (ho : gow γ = RX9) (hy : gly γ = gyM) (hR : grm γ = { frames := 3, cells := 0, slots := 0, locals := 68 }) (he : genv γ = ε) (hr : grt γ = (some .int)) (hE : gEnv ε) : gSm γ cs ss 30 (fX9_cutSide_k30 N) := by
  unfold fX9_cutSide_k30
  refine sm_iconst (pc := 30) G hb (by decide +kernel : decode cX9_cutSide 30 = .ok (.iconst 2, 1)) (by decide) ?_
  refine sm_mono (cav_sub gI_sub) (sm_callV (pc := 31) (N := 32) (T := TX9) (C := RX9) G hb ho hy he hE.1 3 [0, 1, 2, 3, 4, 5, 6, 7, 8, 9, 10, 11, 12, 13, 14, 15, 16, 17] (kX9_fails hE N) (gCo_of (by decide +kernel)) (by rw [hR]; exact ⟨by decide, by decide⟩) rfl rfl (by decide +kernel) gw6_105 gw6_107 gw0_34 gw1_11 gw6_108 (by decide +kernel : decode cX9_cutSide 31 = .ok (.invokevirtual 87, 3)) ?_)
  refine sm_if_eq (pc := 34) (tgt := 39) G hb (by decide +kernel : decode cX9_cutSide 34 = .ok (.ifCond .eq 5, 3)) (by decide) ?_ ?_
  · skip
    refine sm_aload_n (pc := 39) G hb (by decide +kernel : decode cX9_cutSide 39 = .ok (.aload_n 0, 1)) rfl ?_
    refine sm_iload_n (pc := 40) G hb (by decide +kernel : decode cX9_cutSide 40 = .ok (.iload_n 1, 1)) rfl ?_
    refine sm_iload_n (pc := 41) G hb (by decide +kernel : decode cX9_cutSide 41 = .ok (.iload_n 2, 1)) rfl ?_
    refine sm_mono (cav_sub gI_sub) (sm_callV (pc := 42) (N := 32) (T := TX9) (C := RX9) G hb ho hy he hE.1 3 [0, 1, 2, 3, 4, 5, 6, 7, 8, 9, 10, 11, 12, 13, 14, 15, 16, 17] (kX9_greatestFlow hE N) (gCo_of (by decide +kernel)) (by rw [hR]; exact ⟨by decide, by decide⟩) rfl rfl (by decide +kernel) gw7_223 gw7_225 gw0_87 gw1_11 gw7_226 (by decide +kernel : decode cX9_cutSide 42 = .ok (.invokevirtual 395, 3)) ?_)
    refine sm_istore_n (pc := 45) G hb (by decide +kernel : decode cX9_cutSide 45 = .ok (.istore_n 3, 1)) rfl ?_
    refine sm_aload_n (pc := 46) G hb (by decide +kernel : decode cX9_cutSide 46 = .ok (.aload_n 0, 1)) rfl ?_
    refine sm_get (pc := 47) (ci := 9) (j := 30) (N := 32) (T := TX9) G hb ho hy rfl (by decide) gin_9 gw6_26 (by decide +kernel : decode cX9_cutSide 47 = .ok (.getfield 389, 3)) ?_
    exact sm_iret (pc := 50) G hb (by decide +kernel : decode cX9_cutSide 50 = .ok (.ireturn, 1)) hr
  · skip
    refine sm_iconst (pc := 37) G hb (by decide +kernel : decode cX9_cutSide 37 = .ok (.iconst 0, 1)) (by decide) ?_
    exact sm_iret (pc := 38) G hb (by decide +kernel : decode cX9_cutSide 38 = .ok (.ireturn, 1)) hr
set_option maxRecDepth 100000 in
set_option maxHeartbeats 4000000 in
theorem fX9_cutSide_s0 {γ : gG} {cs ss : Nat} {ε : gE5} (N : Nat) (G : gOK γ) (hb : gcc γ = cX9_cutSide) (ho : gow γ = RX9) (hy : gly γ = gyM) (hR : grm γ = { frames := 3, cells := 0, slots := 0, locals := 68 }) (he : genv γ = ε) (hr : grt γ = (some .int)) (hE : gEnv ε) : gSm γ cs ss 0 (fX9_cutSide_k0 N) := by
  unfold fX9_cutSide_k0
  refine sm_aload_n (pc := 0) G hb (by decide +kernel : decode cX9_cutSide 0 = .ok (.aload_n 0, 1)) rfl ?_
  refine sm_iconst (pc := 1) G hb (by decide +kernel : decode cX9_cutSide 1 = .ok (.iconst 0, 1)) (by decide) ?_
  refine sm_put (pc := 2) (ci := 9) (j := 0) (N := 32) (T := TX9) G hb ho hy tyX9 tyX9_ok nmX9 rfl (by decide) gin_9 gw5_236 rfl rfl (by decide +kernel : decode cX9_cutSide 2 = .ok (.putfield 76, 3)) ?_
  refine sm_aload_n (pc := 5) G hb (by decide +kernel : decode cX9_cutSide 5 = .ok (.aload_n 0, 1)) rfl ?_
  refine sm_aload_n (pc := 6) G hb (by decide +kernel : decode cX9_cutSide 6 = .ok (.aload_n 0, 1)) rfl ?_
  refine sm_iload_n (pc := 7) G hb (by decide +kernel : decode cX9_cutSide 7 = .ok (.iload_n 1, 1)) rfl ?_
  refine sm_iload_n (pc := 8) G hb (by decide +kernel : decode cX9_cutSide 8 = .ok (.iload_n 2, 1)) rfl ?_
  refine sm_mono (cav_sub gI_sub) (sm_callV (pc := 9) (N := 32) (T := TX9) (C := RX9) G hb ho hy he hE.1 3 [0, 1, 2, 3, 4, 5, 6, 7, 8, 9, 10, 11, 12, 13, 14, 15, 16, 17] (kX9_areNodes hE N) (gCo_of (by decide +kernel)) (by rw [hR]; exact ⟨by decide, by decide⟩) rfl rfl (by decide +kernel) gw6_236 gw6_238 gw0_51 gw1_11 gw6_239 (by decide +kernel : decode cX9_cutSide 9 = .ok (.invokevirtual 340, 3)) ?_)
  refine sm_iconst (pc := 12) G hb (by decide +kernel : decode cX9_cutSide 12 = .ok (.iconst 1, 1)) (by decide) ?_
  refine sm_mono (cav_sub gI_sub) (sm_callV (pc := 13) (N := 32) (T := TX9) (C := RX9) G hb ho hy he hE.1 3 [0, 1, 2, 3, 4, 5, 6, 7, 8, 9, 10, 11, 12, 13, 14, 15, 16, 17] (kX9_fails hE N) (gCo_of (by decide +kernel)) (by rw [hR]; exact ⟨by decide, by decide⟩) rfl rfl (by decide +kernel) gw6_105 gw6_107 gw0_34 gw1_11 gw6_108 (by decide +kernel : decode cX9_cutSide 13 = .ok (.invokevirtual 87, 3)) ?_)
  refine sm_if_ne (pc := 16) (tgt := 37) G hb (by decide +kernel : decode cX9_cutSide 16 = .ok (.ifCond .ne 21, 3)) (by decide) ?_ ?_
  · skip
    refine sm_iconst (pc := 37) G hb (by decide +kernel : decode cX9_cutSide 37 = .ok (.iconst 0, 1)) (by decide) ?_
    exact sm_iret (pc := 38) G hb (by decide +kernel : decode cX9_cutSide 38 = .ok (.ireturn, 1)) hr
  · skip
    refine sm_aload_n (pc := 19) G hb (by decide +kernel : decode cX9_cutSide 19 = .ok (.aload_n 0, 1)) rfl ?_
    refine sm_iload_n (pc := 20) G hb (by decide +kernel : decode cX9_cutSide 20 = .ok (.iload_n 1, 1)) rfl ?_
    refine sm_iload_n (pc := 21) G hb (by decide +kernel : decode cX9_cutSide 21 = .ok (.iload_n 2, 1)) rfl ?_
    refine sm_icmp_eq (pc := 22) (tgt := 29) G hb (by decide +kernel : decode cX9_cutSide 22 = .ok (.if_icmp .eq 7, 3)) (by decide) ?_ ?_
    · skip
      refine sm_iconst (pc := 29) G hb (by decide +kernel : decode cX9_cutSide 29 = .ok (.iconst 0, 1)) (by decide) ?_
      refine sm_mask ?_
      exact fX9_cutSide_s30 N G hb ho hy hR he hr hE
    · skip
      refine sm_iconst (pc := 25) G hb (by decide +kernel : decode cX9_cutSide 25 = .ok (.iconst 1, 1)) (by decide) ?_
      refine sm_goto (pc := 26) (tgt := 30) G hb (by decide +kernel : decode cX9_cutSide 26 = .ok (.goto 4, 3)) (by decide) ?_
      refine sm_mask ?_
      exact fX9_cutSide_s30 N G hb ho hy hR he hr hE
theorem kX9_cutSide {ε : gE5} (hE : gEnv ε) (N : Nat) : gCtr ε yX9_cutSide cX9_cutSide 4 (some .int) 3 68 gyM (fX9_cutSide N) :=
  gCtr_of hE.1 (by decide) (fun γ G hb ho hy hR he hr => fX9_cutSide_s0 N G hb ho hy hR he hr hE)

set_option maxRecDepth 100000 in
set_option maxHeartbeats 4000000 in
theorem fX9_overloaded_s55 {γ : gG} {cs ss : Nat} {ε : gE5} (N : Nat) (G : gOK γ) (hb : gcc γ = cX9_overloaded) (ho : gow γ = RX9) (hy : gly γ = gyM) (hR : grm γ = { frames := 3, cells := 0, slots := 0, locals := 68 }) (he : genv γ = ε) (hr : grt γ = (some .int)) (hE : gEnv ε) (K9 : gK) (h9 : gSm γ cs ss 9 K9) : gSm γ cs ss 55 (fX9_overloaded_k55 N K9) := by
  unfold fX9_overloaded_k55
  refine sm_ior (pc := 55) G hb (by decide +kernel : decode cX9_overloaded 55 = .ok (.ior, 1)) ?_
  refine sm_istore_n (pc := 56) G hb (by decide +kernel : decode cX9_overloaded 56 = .ok (.istore_n 1, 1)) rfl ?_
  refine sm_iinc (pc := 57) G hb (by decide +kernel : decode cX9_overloaded 57 = .ok (.iinc 2 1, 3)) (by decide) ?_
  refine sm_goto (pc := 60) (tgt := 9) G hb (by decide +kernel : decode cX9_overloaded 60 = .ok (.goto (-51), 3)) (by decide) ?_
  refine sm_mask ?_
  exact h9
set_option maxRecDepth 100000 in
set_option maxHeartbeats 4000000 in
theorem fX9_overloaded_s41 {γ : gG} {cs ss : Nat} {ε : gE5} (N : Nat) (G : gOK γ) (hb : gcc γ = cX9_overloaded) (ho : gow γ = RX9) (hy : gly γ = gyM) (hR : grm γ = { frames := 3, cells := 0, slots := 0, locals := 68 }) (he : genv γ = ε) (hr : grt γ = (some .int)) (hE : gEnv ε) (K9 : gK) (h9 : gSm γ cs ss 9 K9) : gSm γ cs ss 41 (fX9_overloaded_k41 N K9) := by
  unfold fX9_overloaded_k41
  refine sm_mono (cav_sub gI_sub) (sm_callV (pc := 41) (N := 32) (T := TX9) (C := RX9) G hb ho hy he hE.1 3 [0, 1, 2, 3, 4, 5, 6, 7, 8, 9, 10, 11, 12, 13, 14, 15, 16, 17] (kX9_greatestFlow hE N) (gCo_of (by decide +kernel)) (by rw [hR]; exact ⟨by decide, by decide⟩) rfl rfl (by decide +kernel) gw7_223 gw7_225 gw0_87 gw1_11 gw7_226 (by decide +kernel : decode cX9_overloaded 41 = .ok (.invokevirtual 395, 3)) ?_)
  refine sm_imul (pc := 44) G hb (by decide +kernel : decode cX9_overloaded 44 = .ok (.imul, 1)) ?_
  refine sm_icmp_le (pc := 45) (tgt := 54) G hb (by decide +kernel : decode cX9_overloaded 45 = .ok (.if_icmp .le 9, 3)) (by decide) ?_ ?_
  · skip
    refine sm_iconst (pc := 54) G hb (by decide +kernel : decode cX9_overloaded 54 = .ok (.iconst 0, 1)) (by decide) ?_
    refine sm_mask ?_
    exact fX9_overloaded_s55 N G hb ho hy hR he hr hE K9 h9
  · skip
    refine sm_iconst (pc := 48) G hb (by decide +kernel : decode cX9_overloaded 48 = .ok (.iconst 1, 1)) (by decide) ?_
    refine sm_iload_n (pc := 49) G hb (by decide +kernel : decode cX9_overloaded 49 = .ok (.iload_n 2, 1)) rfl ?_
    refine sm_ishl (pc := 50) G hb (by decide +kernel : decode cX9_overloaded 50 = .ok (.ishl, 1)) ?_
    refine sm_goto (pc := 51) (tgt := 55) G hb (by decide +kernel : decode cX9_overloaded 51 = .ok (.goto 4, 3)) (by decide) ?_
    refine sm_mask ?_
    exact fX9_overloaded_s55 N G hb ho hy hR he hr hE K9 h9
set_option maxRecDepth 100000 in
set_option maxHeartbeats 4000000 in
theorem fX9_overloaded_s9 {γ : gG} {cs ss : Nat} {ε : gE5} (N : Nat) (G : gOK γ) (hb : gcc γ = cX9_overloaded) (ho : gow γ = RX9) (hy : gly γ = gyM) (hR : grm γ = { frames := 3, cells := 0, slots := 0, locals := 68 }) (he : genv γ = ε) (hr : grt γ = (some .int)) (hE : gEnv ε) : gSm γ cs ss 9 (fX9_overloaded_k9 N) := by
  unfold fX9_overloaded_k9
  refine sm_lp (fun K9 h9 => ?_) N
  unfold fX9_overloaded_b9
  refine sm_iload_n (pc := 9) G hb (by decide +kernel : decode cX9_overloaded 9 = .ok (.iload_n 2, 1)) rfl ?_
  refine sm_aload_n (pc := 10) G hb (by decide +kernel : decode cX9_overloaded 10 = .ok (.aload_n 0, 1)) rfl ?_
  refine sm_get (pc := 11) (ci := 9) (j := 9) (N := 32) (T := TX9) G hb ho hy rfl (by decide) gin_9 gw6_5 (by decide +kernel : decode cX9_overloaded 11 = .ok (.getfield 16, 3)) ?_
  refine sm_iconst (pc := 14) G hb (by decide +kernel : decode cX9_overloaded 14 = .ok (.iconst 2, 1)) (by decide) ?_
  refine sm_iald (pc := 15) G hb hy (by decide +kernel : decode cX9_overloaded 15 = .ok (.iaload, 1)) ?_
  refine sm_icmp_ge (pc := 16) (tgt := 63) G hb (by decide +kernel : decode cX9_overloaded 16 = .ok (.if_icmp .ge 47, 3)) (by decide) ?_ ?_
  · skip
    refine sm_iload_n (pc := 63) G hb (by decide +kernel : decode cX9_overloaded 63 = .ok (.iload_n 1, 1)) rfl ?_
    exact sm_iret (pc := 64) G hb (by decide +kernel : decode cX9_overloaded 64 = .ok (.ireturn, 1)) hr
  · skip
    refine sm_iload_n (pc := 19) G hb (by decide +kernel : decode cX9_overloaded 19 = .ok (.iload_n 1, 1)) rfl ?_
    refine sm_aload_n (pc := 20) G hb (by decide +kernel : decode cX9_overloaded 20 = .ok (.aload_n 0, 1)) rfl ?_
    refine sm_iload_n (pc := 21) G hb (by decide +kernel : decode cX9_overloaded 21 = .ok (.iload_n 2, 1)) rfl ?_
    refine sm_iconst (pc := 22) G hb (by decide +kernel : decode cX9_overloaded 22 = .ok (.iconst 2, 1)) (by decide) ?_
    refine sm_mono (cav_sub gI_sub) (sm_callV (pc := 23) (N := 32) (T := TX9) (C := RX9) G hb ho hy he hE.1 3 [0, 1, 2, 3, 4, 5, 6, 7, 8, 9, 10, 11, 12, 13, 14, 15, 16, 17] (kX9_flowPart hE N) (gCo_of (by decide +kernel)) (by rw [hR]; exact ⟨by decide, by decide⟩) rfl rfl (by decide +kernel) gw7_64 gw7_66 gw0_59 gw1_11 gw7_67 (by decide +kernel : decode cX9_overloaded 23 = .ok (.invokevirtual 240, 3)) ?_)
    refine sm_bipush (pc := 26) G hb (by decide +kernel : decode cX9_overloaded 26 = .ok (.bipush 100, 2)) (by decide) ?_
    refine sm_aload_n (pc := 28) G hb (by decide +kernel : decode cX9_overloaded 28 = .ok (.aload_n 0, 1)) rfl ?_
    refine sm_aload_n (pc := 29) G hb (by decide +kernel : decode cX9_overloaded 29 = .ok (.aload_n 0, 1)) rfl ?_
    refine sm_iload_n (pc := 30) G hb (by decide +kernel : decode cX9_overloaded 30 = .ok (.iload_n 2, 1)) rfl ?_
    refine sm_iconst (pc := 31) G hb (by decide +kernel : decode cX9_overloaded 31 = .ok (.iconst 0, 1)) (by decide) ?_
    refine sm_mono (cav_sub gI_sub) (sm_callV (pc := 32) (N := 32) (T := TX9) (C := RX9) G hb ho hy he hE.1 3 [0, 1, 2, 3, 4, 5, 6, 7, 8, 9, 10, 11, 12, 13, 14, 15, 16, 17] (kX9_flowPart hE N) (gCo_of (by decide +kernel)) (by rw [hR]; exact ⟨by decide, by decide⟩) rfl rfl (by decide +kernel) gw7_64 gw7_66 gw0_59 gw1_11 gw7_67 (by decide +kernel : decode cX9_overloaded 32 = .ok (.invokevirtual 240, 3)) ?_)
    refine sm_aload_n (pc := 35) G hb (by decide +kernel : decode cX9_overloaded 35 = .ok (.aload_n 0, 1)) rfl ?_
    refine sm_iload_n (pc := 36) G hb (by decide +kernel : decode cX9_overloaded 36 = .ok (.iload_n 2, 1)) rfl ?_
    refine sm_iconst (pc := 37) G hb (by decide +kernel : decode cX9_overloaded 37 = .ok (.iconst 1, 1)) (by decide) ?_
    refine sm_mono (cav_sub gI_sub) (sm_callV (pc := 38) (N := 32) (T := TX9) (C := RX9) G hb ho hy he hE.1 3 [0, 1, 2, 3, 4, 5, 6, 7, 8, 9, 10, 11, 12, 13, 14, 15, 16, 17] (kX9_flowPart hE N) (gCo_of (by decide +kernel)) (by rw [hR]; exact ⟨by decide, by decide⟩) rfl rfl (by decide +kernel) gw7_64 gw7_66 gw0_59 gw1_11 gw7_67 (by decide +kernel : decode cX9_overloaded 38 = .ok (.invokevirtual 240, 3)) ?_)
    refine sm_mask ?_
    exact fX9_overloaded_s41 N G hb ho hy hR he hr hE K9 h9
set_option maxRecDepth 100000 in
set_option maxHeartbeats 4000000 in
theorem fX9_overloaded_s0 {γ : gG} {cs ss : Nat} {ε : gE5} (N : Nat) (G : gOK γ) (hb : gcc γ = cX9_overloaded) (ho : gow γ = RX9) (hy : gly γ = gyM) (hR : grm γ = { frames := 3, cells := 0, slots := 0, locals := 68 }) (he : genv γ = ε) (hr : grt γ = (some .int)) (hE : gEnv ε) : gSm γ cs ss 0 (fX9_overloaded_k0 N) := by
  unfold fX9_overloaded_k0
  refine sm_aload_n (pc := 0) G hb (by decide +kernel : decode cX9_overloaded 0 = .ok (.aload_n 0, 1)) rfl ?_
  refine sm_iconst (pc := 1) G hb (by decide +kernel : decode cX9_overloaded 1 = .ok (.iconst 0, 1)) (by decide) ?_
  refine sm_put (pc := 2) (ci := 9) (j := 0) (N := 32) (T := TX9) G hb ho hy tyX9 tyX9_ok nmX9 rfl (by decide) gin_9 gw5_236 rfl rfl (by decide +kernel : decode cX9_overloaded 2 = .ok (.putfield 76, 3)) ?_
  refine sm_iconst (pc := 5) G hb (by decide +kernel : decode cX9_overloaded 5 = .ok (.iconst 0, 1)) (by decide) ?_
  refine sm_istore_n (pc := 6) G hb (by decide +kernel : decode cX9_overloaded 6 = .ok (.istore_n 1, 1)) rfl ?_
  refine sm_iconst (pc := 7) G hb (by decide +kernel : decode cX9_overloaded 7 = .ok (.iconst 0, 1)) (by decide) ?_
  refine sm_istore_n (pc := 8) G hb (by decide +kernel : decode cX9_overloaded 8 = .ok (.istore_n 2, 1)) rfl ?_
  refine sm_mask ?_
  exact fX9_overloaded_s9 N G hb ho hy hR he hr hE
theorem kX9_overloaded {ε : gE5} (hE : gEnv ε) (N : Nat) : gCtr ε yX9_overloaded cX9_overloaded 3 (some .int) 3 68 gyM (fX9_overloaded N) :=
  gCtr_of hE.1 (by decide) (fun γ G hb ho hy hR he hr => fX9_overloaded_s0 N G hb ho hy hR he hr hE)

set_option maxRecDepth 100000 in
set_option maxHeartbeats 4000000 in
theorem fX9_queue_s37 {γ : gG} {cs ss : Nat} {ε : gE5} (N : Nat) (G : gOK γ) (hb : gcc γ = cX9_queue) (ho : gow γ = RX9) (hy : gly γ = gyM) (hR : grm γ = { frames := 4, cells := 0, slots := 0, locals := 90 }) (he : genv γ = ε) (hr : grt γ = (some .int)) (hE : gEnv ε) : gSm γ cs ss 37 (fX9_queue_k37 N) := by
  unfold fX9_queue_k37
  refine sm_iconst (pc := 37) G hb (by decide +kernel : decode cX9_queue 37 = .ok (.iconst 0, 1)) (by decide) ?_
  refine sm_goto (pc := 38) (tgt := 47) G hb (by decide +kernel : decode cX9_queue 38 = .ok (.goto 9, 3)) (by decide) ?_
  exact sm_iret (pc := 47) G hb (by decide +kernel : decode cX9_queue 47 = .ok (.ireturn, 1)) hr
set_option maxRecDepth 100000 in
set_option maxHeartbeats 4000000 in
theorem fX9_queue_s30 {γ : gG} {cs ss : Nat} {ε : gE5} (N : Nat) (G : gOK γ) (hb : gcc γ = cX9_queue) (ho : gow γ = RX9) (hy : gly γ = gyM) (hR : grm γ = { frames := 4, cells := 0, slots := 0, locals := 90 }) (he : genv γ = ε) (hr : grt γ = (some .int)) (hE : gEnv ε) : gSm γ cs ss 30 (fX9_queue_k30 N) := by
  unfold fX9_queue_k30
  refine sm_iconst (pc := 30) G hb (by decide +kernel : decode cX9_queue 30 = .ok (.iconst 2, 1)) (by decide) ?_
  refine sm_mono (cav_sub gI_sub) (sm_callV (pc := 31) (N := 32) (T := TX9) (C := RX9) G hb ho hy he hE.1 3 [0, 1, 2, 3, 4, 5, 6, 7, 8, 9, 10, 11, 12, 13, 14, 15, 16, 17] (kX9_fails hE N) (gCo_of (by decide +kernel)) (by rw [hR]; exact ⟨by decide, by decide⟩) rfl rfl (by decide +kernel) gw6_105 gw6_107 gw0_34 gw1_11 gw6_108 (by decide +kernel : decode cX9_queue 31 = .ok (.invokevirtual 87, 3)) ?_)
  refine sm_if_eq (pc := 34) (tgt := 41) G hb (by decide +kernel : decode cX9_queue 34 = .ok (.ifCond .eq 7, 3)) (by decide) ?_ ?_
  · skip
    refine sm_aload_n (pc := 41) G hb (by decide +kernel : decode cX9_queue 41 = .ok (.aload_n 0, 1)) rfl ?_
    refine sm_iload_n (pc := 42) G hb (by decide +kernel : decode cX9_queue 42 = .ok (.iload_n 1, 1)) rfl ?_
    refine sm_iload_n (pc := 43) G hb (by decide +kernel : decode cX9_queue 43 = .ok (.iload_n 2, 1)) rfl ?_
    refine sm_mono (cav_sub gI_sub) (sm_callV (pc := 44) (N := 32) (T := TX9) (C := RX9) G hb ho hy he hE.1 3 [0, 1, 2, 3, 4, 5, 6, 7, 8, 9, 10, 11, 12, 13, 14, 15, 16, 17] (kX9_queued hE N) (gCo_of (by decide +kernel)) (by rw [hR]; exact ⟨by decide, by decide⟩) rfl rfl (by decide +kernel) gw8_3 gw8_5 gw0_89 gw1_11 gw8_6 (by decide +kernel : decode cX9_queue 44 = .ok (.invokevirtual 398, 3)) ?_)
    exact sm_iret (pc := 47) G hb (by decide +kernel : decode cX9_queue 47 = .ok (.ireturn, 1)) hr
  · skip
    refine sm_mask ?_
    exact fX9_queue_s37 N G hb ho hy hR he hr hE
set_option maxRecDepth 100000 in
set_option maxHeartbeats 4000000 in
theorem fX9_queue_s0 {γ : gG} {cs ss : Nat} {ε : gE5} (N : Nat) (G : gOK γ) (hb : gcc γ = cX9_queue) (ho : gow γ = RX9) (hy : gly γ = gyM) (hR : grm γ = { frames := 4, cells := 0, slots := 0, locals := 90 }) (he : genv γ = ε) (hr : grt γ = (some .int)) (hE : gEnv ε) : gSm γ cs ss 0 (fX9_queue_k0 N) := by
  unfold fX9_queue_k0
  refine sm_aload_n (pc := 0) G hb (by decide +kernel : decode cX9_queue 0 = .ok (.aload_n 0, 1)) rfl ?_
  refine sm_iconst (pc := 1) G hb (by decide +kernel : decode cX9_queue 1 = .ok (.iconst 0, 1)) (by decide) ?_
  refine sm_put (pc := 2) (ci := 9) (j := 0) (N := 32) (T := TX9) G hb ho hy tyX9 tyX9_ok nmX9 rfl (by decide) gin_9 gw5_236 rfl rfl (by decide +kernel : decode cX9_queue 2 = .ok (.putfield 76, 3)) ?_
  refine sm_aload_n (pc := 5) G hb (by decide +kernel : decode cX9_queue 5 = .ok (.aload_n 0, 1)) rfl ?_
  refine sm_aload_n (pc := 6) G hb (by decide +kernel : decode cX9_queue 6 = .ok (.aload_n 0, 1)) rfl ?_
  refine sm_iload_n (pc := 7) G hb (by decide +kernel : decode cX9_queue 7 = .ok (.iload_n 1, 1)) rfl ?_
  refine sm_iload_n (pc := 8) G hb (by decide +kernel : decode cX9_queue 8 = .ok (.iload_n 2, 1)) rfl ?_
  refine sm_mono (cav_sub gI_sub) (sm_callV (pc := 9) (N := 32) (T := TX9) (C := RX9) G hb ho hy he hE.1 3 [0, 1, 2, 3, 4, 5, 6, 7, 8, 9, 10, 11, 12, 13, 14, 15, 16, 17] (kX9_areNodes hE N) (gCo_of (by decide +kernel)) (by rw [hR]; exact ⟨by decide, by decide⟩) rfl rfl (by decide +kernel) gw6_236 gw6_238 gw0_51 gw1_11 gw6_239 (by decide +kernel : decode cX9_queue 9 = .ok (.invokevirtual 340, 3)) ?_)
  refine sm_iconst (pc := 12) G hb (by decide +kernel : decode cX9_queue 12 = .ok (.iconst 1, 1)) (by decide) ?_
  refine sm_mono (cav_sub gI_sub) (sm_callV (pc := 13) (N := 32) (T := TX9) (C := RX9) G hb ho hy he hE.1 3 [0, 1, 2, 3, 4, 5, 6, 7, 8, 9, 10, 11, 12, 13, 14, 15, 16, 17] (kX9_fails hE N) (gCo_of (by decide +kernel)) (by rw [hR]; exact ⟨by decide, by decide⟩) rfl rfl (by decide +kernel) gw6_105 gw6_107 gw0_34 gw1_11 gw6_108 (by decide +kernel : decode cX9_queue 13 = .ok (.invokevirtual 87, 3)) ?_)
  refine sm_if_ne (pc := 16) (tgt := 37) G hb (by decide +kernel : decode cX9_queue 16 = .ok (.ifCond .ne 21, 3)) (by decide) ?_ ?_
  · skip
    refine sm_mask ?_
    exact fX9_queue_s37 N G hb ho hy hR he hr hE
  · skip
    refine sm_aload_n (pc := 19) G hb (by decide +kernel : decode cX9_queue 19 = .ok (.aload_n 0, 1)) rfl ?_
    refine sm_iload_n (pc := 20) G hb (by decide +kernel : decode cX9_queue 20 = .ok (.iload_n 1, 1)) rfl ?_
    refine sm_iload_n (pc := 21) G hb (by decide +kernel : decode cX9_queue 21 = .ok (.iload_n 2, 1)) rfl ?_
    refine sm_icmp_eq (pc := 22) (tgt := 29) G hb (by decide +kernel : decode cX9_queue 22 = .ok (.if_icmp .eq 7, 3)) (by decide) ?_ ?_
    · skip
      refine sm_iconst (pc := 29) G hb (by decide +kernel : decode cX9_queue 29 = .ok (.iconst 0, 1)) (by decide) ?_
      refine sm_mask ?_
      exact fX9_queue_s30 N G hb ho hy hR he hr hE
    · skip
      refine sm_iconst (pc := 25) G hb (by decide +kernel : decode cX9_queue 25 = .ok (.iconst 1, 1)) (by decide) ?_
      refine sm_goto (pc := 26) (tgt := 30) G hb (by decide +kernel : decode cX9_queue 26 = .ok (.goto 4, 3)) (by decide) ?_
      refine sm_mask ?_
      exact fX9_queue_s30 N G hb ho hy hR he hr hE
theorem kX9_queue {ε : gE5} (hE : gEnv ε) (N : Nat) : gCtr ε yX9_queue cX9_queue 3 (some .int) 4 90 gyM (fX9_queue N) :=
  gCtr_of hE.1 (by decide) (fun γ G hb ho hy hR he hr => fX9_queue_s0 N G hb ho hy hR he hr hE)

set_option maxRecDepth 100000 in
set_option maxHeartbeats 4000000 in
theorem fX9_shadow_s37 {γ : gG} {cs ss : Nat} {ε : gE5} (N : Nat) (G : gOK γ) (hb : gcc γ = cX9_shadow) (ho : gow γ = RX9) (hy : gly γ = gyM) (hR : grm γ = { frames := 3, cells := 0, slots := 0, locals := 68 }) (he : genv γ = ε) (hr : grt γ = (some .int)) (hE : gEnv ε) : gSm γ cs ss 37 (fX9_shadow_k37 N) := by
  unfold fX9_shadow_k37
  refine sm_iconst (pc := 37) G hb (by decide +kernel : decode cX9_shadow 37 = .ok (.iconst 0, 1)) (by decide) ?_
  refine sm_goto (pc := 38) (tgt := 47) G hb (by decide +kernel : decode cX9_shadow 38 = .ok (.goto 9, 3)) (by decide) ?_
  exact sm_iret (pc := 47) G hb (by decide +kernel : decode cX9_shadow 47 = .ok (.ireturn, 1)) hr
set_option maxRecDepth 100000 in
set_option maxHeartbeats 4000000 in
theorem fX9_shadow_s30 {γ : gG} {cs ss : Nat} {ε : gE5} (N : Nat) (G : gOK γ) (hb : gcc γ = cX9_shadow) (ho : gow γ = RX9) (hy : gly γ = gyM) (hR : grm γ = { frames := 3, cells := 0, slots := 0, locals := 68 }) (he : genv γ = ε) (hr : grt γ = (some .int)) (hE : gEnv ε) : gSm γ cs ss 30 (fX9_shadow_k30 N) := by
  unfold fX9_shadow_k30
  refine sm_iconst (pc := 30) G hb (by decide +kernel : decode cX9_shadow 30 = .ok (.iconst 2, 1)) (by decide) ?_
  refine sm_mono (cav_sub gI_sub) (sm_callV (pc := 31) (N := 32) (T := TX9) (C := RX9) G hb ho hy he hE.1 3 [0, 1, 2, 3, 4, 5, 6, 7, 8, 9, 10, 11, 12, 13, 14, 15, 16, 17] (kX9_fails hE N) (gCo_of (by decide +kernel)) (by rw [hR]; exact ⟨by decide, by decide⟩) rfl rfl (by decide +kernel) gw6_105 gw6_107 gw0_34 gw1_11 gw6_108 (by decide +kernel : decode cX9_shadow 31 = .ok (.invokevirtual 87, 3)) ?_)
  refine sm_if_eq (pc := 34) (tgt := 41) G hb (by decide +kernel : decode cX9_shadow 34 = .ok (.ifCond .eq 7, 3)) (by decide) ?_ ?_
  · skip
    refine sm_aload_n (pc := 41) G hb (by decide +kernel : decode cX9_shadow 41 = .ok (.aload_n 0, 1)) rfl ?_
    refine sm_iload_n (pc := 42) G hb (by decide +kernel : decode cX9_shadow 42 = .ok (.iload_n 1, 1)) rfl ?_
    refine sm_iload_n (pc := 43) G hb (by decide +kernel : decode cX9_shadow 43 = .ok (.iload_n 2, 1)) rfl ?_
    refine sm_mono (cav_sub gI_sub) (sm_callV (pc := 44) (N := 32) (T := TX9) (C := RX9) G hb ho hy he hE.1 3 [0, 1, 2, 3, 4, 5, 6, 7, 8, 9, 10, 11, 12, 13, 14, 15, 16, 17] (kX9_shadowOf hE N) (gCo_of (by decide +kernel)) (by rw [hR]; exact ⟨by decide, by decide⟩) rfl rfl (by decide +kernel) gw8_11 gw8_13 gw0_90 gw1_11 gw8_14 (by decide +kernel : decode cX9_shadow 44 = .ok (.invokevirtual 401, 3)) ?_)
    exact sm_iret (pc := 47) G hb (by decide +kernel : decode cX9_shadow 47 = .ok (.ireturn, 1)) hr
  · skip
    refine sm_mask ?_
    exact fX9_shadow_s37 N G hb ho hy hR he hr hE
set_option maxRecDepth 100000 in
set_option maxHeartbeats 4000000 in
theorem fX9_shadow_s0 {γ : gG} {cs ss : Nat} {ε : gE5} (N : Nat) (G : gOK γ) (hb : gcc γ = cX9_shadow) (ho : gow γ = RX9) (hy : gly γ = gyM) (hR : grm γ = { frames := 3, cells := 0, slots := 0, locals := 68 }) (he : genv γ = ε) (hr : grt γ = (some .int)) (hE : gEnv ε) : gSm γ cs ss 0 (fX9_shadow_k0 N) := by
  unfold fX9_shadow_k0
  refine sm_aload_n (pc := 0) G hb (by decide +kernel : decode cX9_shadow 0 = .ok (.aload_n 0, 1)) rfl ?_
  refine sm_iconst (pc := 1) G hb (by decide +kernel : decode cX9_shadow 1 = .ok (.iconst 0, 1)) (by decide) ?_
  refine sm_put (pc := 2) (ci := 9) (j := 0) (N := 32) (T := TX9) G hb ho hy tyX9 tyX9_ok nmX9 rfl (by decide) gin_9 gw5_236 rfl rfl (by decide +kernel : decode cX9_shadow 2 = .ok (.putfield 76, 3)) ?_
  refine sm_aload_n (pc := 5) G hb (by decide +kernel : decode cX9_shadow 5 = .ok (.aload_n 0, 1)) rfl ?_
  refine sm_aload_n (pc := 6) G hb (by decide +kernel : decode cX9_shadow 6 = .ok (.aload_n 0, 1)) rfl ?_
  refine sm_iload_n (pc := 7) G hb (by decide +kernel : decode cX9_shadow 7 = .ok (.iload_n 1, 1)) rfl ?_
  refine sm_iload_n (pc := 8) G hb (by decide +kernel : decode cX9_shadow 8 = .ok (.iload_n 2, 1)) rfl ?_
  refine sm_mono (cav_sub gI_sub) (sm_callV (pc := 9) (N := 32) (T := TX9) (C := RX9) G hb ho hy he hE.1 3 [0, 1, 2, 3, 4, 5, 6, 7, 8, 9, 10, 11, 12, 13, 14, 15, 16, 17] (kX9_areNodes hE N) (gCo_of (by decide +kernel)) (by rw [hR]; exact ⟨by decide, by decide⟩) rfl rfl (by decide +kernel) gw6_236 gw6_238 gw0_51 gw1_11 gw6_239 (by decide +kernel : decode cX9_shadow 9 = .ok (.invokevirtual 340, 3)) ?_)
  refine sm_iconst (pc := 12) G hb (by decide +kernel : decode cX9_shadow 12 = .ok (.iconst 1, 1)) (by decide) ?_
  refine sm_mono (cav_sub gI_sub) (sm_callV (pc := 13) (N := 32) (T := TX9) (C := RX9) G hb ho hy he hE.1 3 [0, 1, 2, 3, 4, 5, 6, 7, 8, 9, 10, 11, 12, 13, 14, 15, 16, 17] (kX9_fails hE N) (gCo_of (by decide +kernel)) (by rw [hR]; exact ⟨by decide, by decide⟩) rfl rfl (by decide +kernel) gw6_105 gw6_107 gw0_34 gw1_11 gw6_108 (by decide +kernel : decode cX9_shadow 13 = .ok (.invokevirtual 87, 3)) ?_)
  refine sm_if_ne (pc := 16) (tgt := 37) G hb (by decide +kernel : decode cX9_shadow 16 = .ok (.ifCond .ne 21, 3)) (by decide) ?_ ?_
  · skip
    refine sm_mask ?_
    exact fX9_shadow_s37 N G hb ho hy hR he hr hE
  · skip
    refine sm_aload_n (pc := 19) G hb (by decide +kernel : decode cX9_shadow 19 = .ok (.aload_n 0, 1)) rfl ?_
    refine sm_iload_n (pc := 20) G hb (by decide +kernel : decode cX9_shadow 20 = .ok (.iload_n 1, 1)) rfl ?_
    refine sm_iload_n (pc := 21) G hb (by decide +kernel : decode cX9_shadow 21 = .ok (.iload_n 2, 1)) rfl ?_
    refine sm_icmp_eq (pc := 22) (tgt := 29) G hb (by decide +kernel : decode cX9_shadow 22 = .ok (.if_icmp .eq 7, 3)) (by decide) ?_ ?_
    · skip
      refine sm_iconst (pc := 29) G hb (by decide +kernel : decode cX9_shadow 29 = .ok (.iconst 0, 1)) (by decide) ?_
      refine sm_mask ?_
      exact fX9_shadow_s30 N G hb ho hy hR he hr hE
    · skip
      refine sm_iconst (pc := 25) G hb (by decide +kernel : decode cX9_shadow 25 = .ok (.iconst 1, 1)) (by decide) ?_
      refine sm_goto (pc := 26) (tgt := 30) G hb (by decide +kernel : decode cX9_shadow 26 = .ok (.goto 4, 3)) (by decide) ?_
      refine sm_mask ?_
      exact fX9_shadow_s30 N G hb ho hy hR he hr hE
theorem kX9_shadow {ε : gE5} (hE : gEnv ε) (N : Nat) : gCtr ε yX9_shadow cX9_shadow 3 (some .int) 3 68 gyM (fX9_shadow N) :=
  gCtr_of hE.1 (by decide) (fun γ G hb ho hy hR he hr => fX9_shadow_s0 N G hb ho hy hR he hr hE)

set_option maxRecDepth 100000 in
set_option maxHeartbeats 4000000 in
theorem fX9_packet_s109 {γ : gG} {cs ss : Nat} {ε : gE5} (N : Nat) (G : gOK γ) (hb : gcc γ = cX9_packet) (ho : gow γ = RX9) (hy : gly γ = gyM) (hR : grm γ = { frames := 3, cells := 0, slots := 0, locals := 68 }) (he : genv γ = ε) (hr : grt γ = (some .int)) (hE : gEnv ε) : gSm γ cs ss 109 (fX9_packet_k109 N) := by
  unfold fX9_packet_k109
  refine sm_aload_n (pc := 109) G hb (by decide +kernel : decode cX9_packet 109 = .ok (.aload_n 0, 1)) rfl ?_
  refine sm_iconst (pc := 110) G hb (by decide +kernel : decode cX9_packet 110 = .ok (.iconst 3, 1)) (by decide) ?_
  refine sm_put (pc := 111) (ci := 9) (j := 0) (N := 32) (T := TX9) G hb ho hy tyX9 tyX9_ok nmX9 rfl (by decide) gin_9 gw5_236 rfl rfl (by decide +kernel : decode cX9_packet 111 = .ok (.putfield 76, 3)) ?_
  refine sm_iconst (pc := 114) G hb (by decide +kernel : decode cX9_packet 114 = .ok (.iconst 0, 1)) (by decide) ?_
  exact sm_iret (pc := 115) G hb (by decide +kernel : decode cX9_packet 115 = .ok (.ireturn, 1)) hr
set_option maxRecDepth 100000 in
set_option maxHeartbeats 4000000 in
theorem fX9_packet_s103 {γ : gG} {cs ss : Nat} {ε : gE5} (N : Nat) (G : gOK γ) (hb : gcc γ = cX9_packet) (ho : gow γ = RX9) (hy : gly γ = gyM) (hR : grm γ = { frames := 3, cells := 0, slots := 0, locals := 68 }) (he : genv γ = ε) (hr : grt γ = (some .int)) (hE : gEnv ε) (K58 : gK) (h58 : gSm γ cs ss 58 K58) : gSm γ cs ss 103 (fX9_packet_k103 N K58) := by
  unfold fX9_packet_k103
  refine sm_iinc (pc := 103) G hb (by decide +kernel : decode cX9_packet 103 = .ok (.iinc 6 1, 3)) (by decide) ?_
  refine sm_goto (pc := 106) (tgt := 58) G hb (by decide +kernel : decode cX9_packet 106 = .ok (.goto (-48), 3)) (by decide) ?_
  refine sm_mask ?_
  exact h58
set_option maxRecDepth 100000 in
set_option maxHeartbeats 4000000 in
theorem fX9_packet_s58 {γ : gG} {cs ss : Nat} {ε : gE5} (N : Nat) (G : gOK γ) (hb : gcc γ = cX9_packet) (ho : gow γ = RX9) (hy : gly γ = gyM) (hR : grm γ = { frames := 3, cells := 0, slots := 0, locals := 68 }) (he : genv γ = ε) (hr : grt γ = (some .int)) (hE : gEnv ε) : gSm γ cs ss 58 (fX9_packet_k58 N) := by
  unfold fX9_packet_k58
  refine sm_lp (fun K58 h58 => ?_) N
  unfold fX9_packet_b58
  refine sm_iload (pc := 58) G hb (by decide +kernel : decode cX9_packet 58 = .ok (.iload 6, 2)) ?_
  refine sm_aload_n (pc := 60) G hb (by decide +kernel : decode cX9_packet 60 = .ok (.aload_n 0, 1)) rfl ?_
  refine sm_get (pc := 61) (ci := 9) (j := 9) (N := 32) (T := TX9) G hb ho hy rfl (by decide) gin_9 gw6_5 (by decide +kernel : decode cX9_packet 61 = .ok (.getfield 16, 3)) ?_
  refine sm_sipush (pc := 64) G hb (by decide +kernel : decode cX9_packet 64 = .ok (.sipush 245, 3)) (by decide) ?_
  refine sm_iald (pc := 67) G hb hy (by decide +kernel : decode cX9_packet 67 = .ok (.iaload, 1)) ?_
  refine sm_icmp_ge (pc := 68) (tgt := 109) G hb (by decide +kernel : decode cX9_packet 68 = .ok (.if_icmp .ge 41, 3)) (by decide) ?_ ?_
  · skip
    refine sm_mask ?_
    exact fX9_packet_s109 N G hb ho hy hR he hr hE
  · skip
    refine sm_iload_n (pc := 71) G hb (by decide +kernel : decode cX9_packet 71 = .ok (.iload_n 3, 1)) rfl ?_
    refine sm_if_lt (pc := 72) (tgt := 109) G hb (by decide +kernel : decode cX9_packet 72 = .ok (.ifCond .lt 37, 3)) (by decide) ?_ ?_
    · skip
      refine sm_mask ?_
      exact fX9_packet_s109 N G hb ho hy hR he hr hE
    · skip
      refine sm_aload_n (pc := 75) G hb (by decide +kernel : decode cX9_packet 75 = .ok (.aload_n 0, 1)) rfl ?_
      refine sm_iload (pc := 76) G hb (by decide +kernel : decode cX9_packet 76 = .ok (.iload 6, 2)) ?_
      refine sm_iload_n (pc := 78) G hb (by decide +kernel : decode cX9_packet 78 = .ok (.iload_n 1, 1)) rfl ?_
      refine sm_iload_n (pc := 79) G hb (by decide +kernel : decode cX9_packet 79 = .ok (.iload_n 2, 1)) rfl ?_
      refine sm_mono (cav_sub gI_sub) (sm_callV (pc := 80) (N := 32) (T := TX9) (C := RX9) G hb ho hy he hE.1 4 [0, 1, 2, 3, 4, 5, 6, 7, 8, 9, 10, 11, 12, 13, 14, 15, 16, 17] (kX9_isQueued hE N) (gCo_of (by decide +kernel)) (by rw [hR]; exact ⟨by decide, by decide⟩) rfl rfl (by decide +kernel) gw7_80 gw7_82 gw0_62 gw1_11 gw7_83 (by decide +kernel : decode cX9_packet 80 = .ok (.invokevirtual 246, 3)) ?_)
      refine sm_if_eq (pc := 83) (tgt := 103) G hb (by decide +kernel : decode cX9_packet 83 = .ok (.ifCond .eq 20, 3)) (by decide) ?_ ?_
      · skip
        refine sm_mask ?_
        exact fX9_packet_s103 N G hb ho hy hR he hr hE K58 h58
      · skip
        refine sm_iload (pc := 86) G hb (by decide +kernel : decode cX9_packet 86 = .ok (.iload 5, 2)) ?_
        refine sm_if_ne (pc := 88) (tgt := 100) G hb (by decide +kernel : decode cX9_packet 88 = .ok (.ifCond .ne 12, 3)) (by decide) ?_ ?_
        · skip
          refine sm_iinc (pc := 100) G hb (by decide +kernel : decode cX9_packet 100 = .ok (.iinc 5 (-1), 3)) (by decide) ?_
          refine sm_mask ?_
          exact fX9_packet_s103 N G hb ho hy hR he hr hE K58 h58
        · skip
          refine sm_aload_n (pc := 91) G hb (by decide +kernel : decode cX9_packet 91 = .ok (.aload_n 0, 1)) rfl ?_
          refine sm_iload (pc := 92) G hb (by decide +kernel : decode cX9_packet 92 = .ok (.iload 6, 2)) ?_
          refine sm_iload (pc := 94) G hb (by decide +kernel : decode cX9_packet 94 = .ok (.iload 4, 2)) ?_
          refine sm_mono (cav_sub gI_sub) (sm_callV (pc := 96) (N := 32) (T := TX9) (C := RX9) G hb ho hy he hE.1 3 [0, 1, 2, 3, 4, 5, 6, 7, 8, 9, 10, 11, 12, 13, 14, 15, 16, 17] (kX9_packetPart hE N) (gCo_of (by decide +kernel)) (by rw [hR]; exact ⟨by decide, by decide⟩) rfl rfl (by decide +kernel) gw7_84 gw7_86 gw0_63 gw1_11 gw7_87 (by decide +kernel : decode cX9_packet 96 = .ok (.invokevirtual 237, 3)) ?_)
          exact sm_iret (pc := 99) G hb (by decide +kernel : decode cX9_packet 99 = .ok (.ireturn, 1)) hr
set_option maxRecDepth 100000 in
set_option maxHeartbeats 4000000 in
theorem fX9_packet_s43 {γ : gG} {cs ss : Nat} {ε : gE5} (N : Nat) (G : gOK γ) (hb : gcc γ = cX9_packet) (ho : gow γ = RX9) (hy : gly γ = gyM) (hR : grm γ = { frames := 3, cells := 0, slots := 0, locals := 68 }) (he : genv γ = ε) (hr : grt γ = (some .int)) (hE : gEnv ε) : gSm γ cs ss 43 (fX9_packet_k43 N) := by
  unfold fX9_packet_k43
  refine sm_iconst (pc := 43) G hb (by decide +kernel : decode cX9_packet 43 = .ok (.iconst 2, 1)) (by decide) ?_
  refine sm_mono (cav_sub gI_sub) (sm_callV (pc := 44) (N := 32) (T := TX9) (C := RX9) G hb ho hy he hE.1 3 [0, 1, 2, 3, 4, 5, 6, 7, 8, 9, 10, 11, 12, 13, 14, 15, 16, 17] (kX9_fails hE N) (gCo_of (by decide +kernel)) (by rw [hR]; exact ⟨by decide, by decide⟩) rfl rfl (by decide +kernel) gw6_105 gw6_107 gw0_34 gw1_11 gw6_108 (by decide +kernel : decode cX9_packet 44 = .ok (.invokevirtual 87, 3)) ?_)
  refine sm_if_eq (pc := 47) (tgt := 52) G hb (by decide +kernel : decode cX9_packet 47 = .ok (.ifCond .eq 5, 3)) (by decide) ?_ ?_
  · skip
    refine sm_iload_n (pc := 52) G hb (by decide +kernel : decode cX9_packet 52 = .ok (.iload_n 3, 1)) rfl ?_
    refine sm_istore (pc := 53) G hb (by decide +kernel : decode cX9_packet 53 = .ok (.istore 5, 2)) ?_
    refine sm_iconst (pc := 55) G hb (by decide +kernel : decode cX9_packet 55 = .ok (.iconst 0, 1)) (by decide) ?_
    refine sm_istore (pc := 56) G hb (by decide +kernel : decode cX9_packet 56 = .ok (.istore 6, 2)) ?_
    refine sm_mask ?_
    exact fX9_packet_s58 N G hb ho hy hR he hr hE
  · skip
    refine sm_iconst (pc := 50) G hb (by decide +kernel : decode cX9_packet 50 = .ok (.iconst 0, 1)) (by decide) ?_
    exact sm_iret (pc := 51) G hb (by decide +kernel : decode cX9_packet 51 = .ok (.ireturn, 1)) hr
set_option maxRecDepth 100000 in
set_option maxHeartbeats 4000000 in
theorem fX9_packet_s42 {γ : gG} {cs ss : Nat} {ε : gE5} (N : Nat) (G : gOK γ) (hb : gcc γ = cX9_packet) (ho : gow γ = RX9) (hy : gly γ = gyM) (hR : grm γ = { frames := 3, cells := 0, slots := 0, locals := 68 }) (he : genv γ = ε) (hr : grt γ = (some .int)) (hE : gEnv ε) : gSm γ cs ss 42 (fX9_packet_k42 N) := by
  unfold fX9_packet_k42
  refine sm_iconst (pc := 42) G hb (by decide +kernel : decode cX9_packet 42 = .ok (.iconst 0, 1)) (by decide) ?_
  refine sm_mask ?_
  exact fX9_packet_s43 N G hb ho hy hR he hr hE
set_option maxRecDepth 100000 in
set_option maxHeartbeats 4000000 in
theorem fX9_packet_s35 {γ : gG} {cs ss : Nat} {ε : gE5} (N : Nat) (G : gOK γ) (hb : gcc γ = cX9_packet) (ho : gow γ = RX9) (hy : gly γ = gyM) (hR : grm γ = { frames := 3, cells := 0, slots := 0, locals := 68 }) (he : genv γ = ε) (hr : grt γ = (some .int)) (hE : gEnv ε) : gSm γ cs ss 35 (fX9_packet_k35 N) := by
  unfold fX9_packet_k35
  refine sm_if_eq (pc := 35) (tgt := 42) G hb (by decide +kernel : decode cX9_packet 35 = .ok (.ifCond .eq 7, 3)) (by decide) ?_ ?_
  · skip
    refine sm_mask ?_
    exact fX9_packet_s42 N G hb ho hy hR he hr hE
  · skip
    refine sm_iconst (pc := 38) G hb (by decide +kernel : decode cX9_packet 38 = .ok (.iconst 1, 1)) (by decide) ?_
    refine sm_goto (pc := 39) (tgt := 43) G hb (by decide +kernel : decode cX9_packet 39 = .ok (.goto 4, 3)) (by decide) ?_
    refine sm_mask ?_
    exact fX9_packet_s43 N G hb ho hy hR he hr hE
set_option maxRecDepth 100000 in
set_option maxHeartbeats 4000000 in
theorem fX9_packet_s0 {γ : gG} {cs ss : Nat} {ε : gE5} (N : Nat) (G : gOK γ) (hb : gcc γ = cX9_packet) (ho : gow γ = RX9) (hy : gly γ = gyM) (hR : grm γ = { frames := 3, cells := 0, slots := 0, locals := 68 }) (he : genv γ = ε) (hr : grt γ = (some .int)) (hE : gEnv ε) : gSm γ cs ss 0 (fX9_packet_k0 N) := by
  unfold fX9_packet_k0
  refine sm_aload_n (pc := 0) G hb (by decide +kernel : decode cX9_packet 0 = .ok (.aload_n 0, 1)) rfl ?_
  refine sm_iconst (pc := 1) G hb (by decide +kernel : decode cX9_packet 1 = .ok (.iconst 0, 1)) (by decide) ?_
  refine sm_put (pc := 2) (ci := 9) (j := 0) (N := 32) (T := TX9) G hb ho hy tyX9 tyX9_ok nmX9 rfl (by decide) gin_9 gw5_236 rfl rfl (by decide +kernel : decode cX9_packet 2 = .ok (.putfield 76, 3)) ?_
  refine sm_aload_n (pc := 5) G hb (by decide +kernel : decode cX9_packet 5 = .ok (.aload_n 0, 1)) rfl ?_
  refine sm_aload_n (pc := 6) G hb (by decide +kernel : decode cX9_packet 6 = .ok (.aload_n 0, 1)) rfl ?_
  refine sm_iload_n (pc := 7) G hb (by decide +kernel : decode cX9_packet 7 = .ok (.iload_n 1, 1)) rfl ?_
  refine sm_iload_n (pc := 8) G hb (by decide +kernel : decode cX9_packet 8 = .ok (.iload_n 2, 1)) rfl ?_
  refine sm_mono (cav_sub gI_sub) (sm_callV (pc := 9) (N := 32) (T := TX9) (C := RX9) G hb ho hy he hE.1 3 [0, 1, 2, 3, 4, 5, 6, 7, 8, 9, 10, 11, 12, 13, 14, 15, 16, 17] (kX9_areNodes hE N) (gCo_of (by decide +kernel)) (by rw [hR]; exact ⟨by decide, by decide⟩) rfl rfl (by decide +kernel) gw6_236 gw6_238 gw0_51 gw1_11 gw6_239 (by decide +kernel : decode cX9_packet 9 = .ok (.invokevirtual 340, 3)) ?_)
  refine sm_iconst (pc := 12) G hb (by decide +kernel : decode cX9_packet 12 = .ok (.iconst 1, 1)) (by decide) ?_
  refine sm_mono (cav_sub gI_sub) (sm_callV (pc := 13) (N := 32) (T := TX9) (C := RX9) G hb ho hy he hE.1 3 [0, 1, 2, 3, 4, 5, 6, 7, 8, 9, 10, 11, 12, 13, 14, 15, 16, 17] (kX9_fails hE N) (gCo_of (by decide +kernel)) (by rw [hR]; exact ⟨by decide, by decide⟩) rfl rfl (by decide +kernel) gw6_105 gw6_107 gw0_34 gw1_11 gw6_108 (by decide +kernel : decode cX9_packet 13 = .ok (.invokevirtual 87, 3)) ?_)
  refine sm_if_ne (pc := 16) (tgt := 50) G hb (by decide +kernel : decode cX9_packet 16 = .ok (.ifCond .ne 34, 3)) (by decide) ?_ ?_
  · skip
    refine sm_iconst (pc := 50) G hb (by decide +kernel : decode cX9_packet 50 = .ok (.iconst 0, 1)) (by decide) ?_
    exact sm_iret (pc := 51) G hb (by decide +kernel : decode cX9_packet 51 = .ok (.ireturn, 1)) hr
  · skip
    refine sm_aload_n (pc := 19) G hb (by decide +kernel : decode cX9_packet 19 = .ok (.aload_n 0, 1)) rfl ?_
    refine sm_iload_n (pc := 20) G hb (by decide +kernel : decode cX9_packet 20 = .ok (.iload_n 1, 1)) rfl ?_
    refine sm_iload_n (pc := 21) G hb (by decide +kernel : decode cX9_packet 21 = .ok (.iload_n 2, 1)) rfl ?_
    refine sm_icmp_eq (pc := 22) (tgt := 42) G hb (by decide +kernel : decode cX9_packet 22 = .ok (.if_icmp .eq 20, 3)) (by decide) ?_ ?_
    · skip
      refine sm_mask ?_
      exact fX9_packet_s42 N G hb ho hy hR he hr hE
    · skip
      refine sm_iload (pc := 25) G hb (by decide +kernel : decode cX9_packet 25 = .ok (.iload 4, 2)) ?_
      refine sm_i2l (pc := 27) G hb (by decide +kernel : decode cX9_packet 27 = .ok (.i2l, 1)) ?_
      refine sm_lconst (pc := 28) G hb (by decide +kernel : decode cX9_packet 28 = .ok (.lconst 0, 1)) (by decide) ?_
      refine sm_ldc2 (pc := 29) G hb ho (by decide +kernel : decode cX9_packet 29 = .ok (.ldc2_w 361, 3)) gw7_47 ?_
      refine sm_mono (ca_sub gI_sub) (sm_callS (pc := 32) G hb ho hy he hE.1 3 [] (kX9_in hE N) (gCo_of (by decide +kernel)) (by rw [hR]; exact ⟨by decide, by decide⟩) (by decide +kernel) gw6_113 gw6_114 gw1_11 gw6_115 (by decide +kernel : decode cX9_packet 32 = .ok (.invokestatic 91, 3)) ?_)
      refine sm_mask ?_
      exact fX9_packet_s35 N G hb ho hy hR he hr hE
theorem kX9_packet {ε : gE5} (hE : gEnv ε) (N : Nat) : gCtr ε yX9_packet cX9_packet 7 (some .int) 3 68 gyM (fX9_packet N) :=
  gCtr_of hE.1 (by decide) (fun γ G hb ho hy hR he hr => fX9_packet_s0 N G hb ho hy hR he hr hE)

set_option maxRecDepth 100000 in
set_option maxHeartbeats 4000000 in
theorem fX9_squares_s17 {γ : gG} {cs ss : Nat} {ε : gE5} (N : Nat) (G : gOK γ) (hb : gcc γ = cX9_squares) (ho : gow γ = RX9) (hy : gly γ = gyM) (hR : grm γ = { frames := 4, cells := 0, slots := 0, locals := 90 }) (he : genv γ = ε) (hr : grt γ = (some .long)) (hE : gEnv ε) (K4 : gK) (h4 : gSm γ cs ss 4 K4) : gSm γ cs ss 17 (fX9_squares_k17 N K4) := by
  unfold fX9_squares_k17
  refine sm_lp (fun K17 h17 => ?_) N
  unfold fX9_squares_b17
  refine sm_iload (pc := 17) G hb (by decide +kernel : decode cX9_squares 17 = .ok (.iload 4, 2)) ?_
  refine sm_aload_n (pc := 19) G hb (by decide +kernel : decode cX9_squares 19 = .ok (.aload_n 0, 1)) rfl ?_
  refine sm_get (pc := 20) (ci := 9) (j := 9) (N := 32) (T := TX9) G hb ho hy rfl (by decide) gin_9 gw6_5 (by decide +kernel : decode cX9_squares 20 = .ok (.getfield 16, 3)) ?_
  refine sm_iconst (pc := 23) G hb (by decide +kernel : decode cX9_squares 23 = .ok (.iconst 0, 1)) (by decide) ?_
  refine sm_iald (pc := 24) G hb hy (by decide +kernel : decode cX9_squares 24 = .ok (.iaload, 1)) ?_
  refine sm_icmp_ge (pc := 25) (tgt := 52) G hb (by decide +kernel : decode cX9_squares 25 = .ok (.if_icmp .ge 27, 3)) (by decide) ?_ ?_
  · skip
    refine sm_iinc (pc := 52) G hb (by decide +kernel : decode cX9_squares 52 = .ok (.iinc 3 1, 3)) (by decide) ?_
    refine sm_goto (pc := 55) (tgt := 4) G hb (by decide +kernel : decode cX9_squares 55 = .ok (.goto (-51), 3)) (by decide) ?_
    refine sm_mask ?_
    exact h4
  · skip
    refine sm_aload_n (pc := 28) G hb (by decide +kernel : decode cX9_squares 28 = .ok (.aload_n 0, 1)) rfl ?_
    refine sm_iload_n (pc := 29) G hb (by decide +kernel : decode cX9_squares 29 = .ok (.iload_n 3, 1)) rfl ?_
    refine sm_iload (pc := 30) G hb (by decide +kernel : decode cX9_squares 30 = .ok (.iload 4, 2)) ?_
    refine sm_mono (cav_sub gI_sub) (sm_callV (pc := 32) (N := 32) (T := TX9) (C := RX9) G hb ho hy he hE.1 3 [0, 1, 2, 3, 4, 5, 6, 7, 8, 9, 10, 11, 12, 13, 14, 15, 16, 17] (kX9_queued hE N) (gCo_of (by decide +kernel)) (by rw [hR]; exact ⟨by decide, by decide⟩) rfl rfl (by decide +kernel) gw8_3 gw8_5 gw0_89 gw1_11 gw8_6 (by decide +kernel : decode cX9_squares 32 = .ok (.invokevirtual 398, 3)) ?_)
    refine sm_i2l (pc := 35) G hb (by decide +kernel : decode cX9_squares 35 = .ok (.i2l, 1)) ?_
    refine sm_lstore (pc := 36) G hb (by decide +kernel : decode cX9_squares 36 = .ok (.lstore 5, 2)) ?_
    refine sm_lload_n (pc := 38) G hb (by decide +kernel : decode cX9_squares 38 = .ok (.lload_n 1, 1)) rfl ?_
    refine sm_lload (pc := 39) G hb (by decide +kernel : decode cX9_squares 39 = .ok (.lload 5, 2)) ?_
    refine sm_lload (pc := 41) G hb (by decide +kernel : decode cX9_squares 41 = .ok (.lload 5, 2)) ?_
    refine sm_lmul (pc := 43) G hb (by decide +kernel : decode cX9_squares 43 = .ok (.lmul, 1)) ?_
    refine sm_ladd (pc := 44) G hb (by decide +kernel : decode cX9_squares 44 = .ok (.ladd, 1)) ?_
    refine sm_lstore_n (pc := 45) G hb (by decide +kernel : decode cX9_squares 45 = .ok (.lstore_n 1, 1)) rfl ?_
    refine sm_iinc (pc := 46) G hb (by decide +kernel : decode cX9_squares 46 = .ok (.iinc 4 1, 3)) (by decide) ?_
    refine sm_goto (pc := 49) (tgt := 17) G hb (by decide +kernel : decode cX9_squares 49 = .ok (.goto (-32), 3)) (by decide) ?_
    refine sm_mask ?_
    exact h17
set_option maxRecDepth 100000 in
set_option maxHeartbeats 4000000 in
theorem fX9_squares_s4 {γ : gG} {cs ss : Nat} {ε : gE5} (N : Nat) (G : gOK γ) (hb : gcc γ = cX9_squares) (ho : gow γ = RX9) (hy : gly γ = gyM) (hR : grm γ = { frames := 4, cells := 0, slots := 0, locals := 90 }) (he : genv γ = ε) (hr : grt γ = (some .long)) (hE : gEnv ε) : gSm γ cs ss 4 (fX9_squares_k4 N) := by
  unfold fX9_squares_k4
  refine sm_lp (fun K4 h4 => ?_) N
  unfold fX9_squares_b4
  refine sm_iload_n (pc := 4) G hb (by decide +kernel : decode cX9_squares 4 = .ok (.iload_n 3, 1)) rfl ?_
  refine sm_aload_n (pc := 5) G hb (by decide +kernel : decode cX9_squares 5 = .ok (.aload_n 0, 1)) rfl ?_
  refine sm_get (pc := 6) (ci := 9) (j := 9) (N := 32) (T := TX9) G hb ho hy rfl (by decide) gin_9 gw6_5 (by decide +kernel : decode cX9_squares 6 = .ok (.getfield 16, 3)) ?_
  refine sm_iconst (pc := 9) G hb (by decide +kernel : decode cX9_squares 9 = .ok (.iconst 0, 1)) (by decide) ?_
  refine sm_iald (pc := 10) G hb hy (by decide +kernel : decode cX9_squares 10 = .ok (.iaload, 1)) ?_
  refine sm_icmp_ge (pc := 11) (tgt := 58) G hb (by decide +kernel : decode cX9_squares 11 = .ok (.if_icmp .ge 47, 3)) (by decide) ?_ ?_
  · skip
    refine sm_lload_n (pc := 58) G hb (by decide +kernel : decode cX9_squares 58 = .ok (.lload_n 1, 1)) rfl ?_
    exact sm_lret (pc := 59) G hb (by decide +kernel : decode cX9_squares 59 = .ok (.lreturn, 1)) hr
  · skip
    refine sm_iconst (pc := 14) G hb (by decide +kernel : decode cX9_squares 14 = .ok (.iconst 0, 1)) (by decide) ?_
    refine sm_istore (pc := 15) G hb (by decide +kernel : decode cX9_squares 15 = .ok (.istore 4, 2)) ?_
    refine sm_mask ?_
    exact fX9_squares_s17 N G hb ho hy hR he hr hE K4 h4
set_option maxRecDepth 100000 in
set_option maxHeartbeats 4000000 in
theorem fX9_squares_s0 {γ : gG} {cs ss : Nat} {ε : gE5} (N : Nat) (G : gOK γ) (hb : gcc γ = cX9_squares) (ho : gow γ = RX9) (hy : gly γ = gyM) (hR : grm γ = { frames := 4, cells := 0, slots := 0, locals := 90 }) (he : genv γ = ε) (hr : grt γ = (some .long)) (hE : gEnv ε) : gSm γ cs ss 0 (fX9_squares_k0 N) := by
  unfold fX9_squares_k0
  refine sm_lconst (pc := 0) G hb (by decide +kernel : decode cX9_squares 0 = .ok (.lconst 0, 1)) (by decide) ?_
  refine sm_lstore_n (pc := 1) G hb (by decide +kernel : decode cX9_squares 1 = .ok (.lstore_n 1, 1)) rfl ?_
  refine sm_iconst (pc := 2) G hb (by decide +kernel : decode cX9_squares 2 = .ok (.iconst 0, 1)) (by decide) ?_
  refine sm_istore_n (pc := 3) G hb (by decide +kernel : decode cX9_squares 3 = .ok (.istore_n 3, 1)) rfl ?_
  refine sm_mask ?_
  exact fX9_squares_s4 N G hb ho hy hR he hr hE
theorem kX9_squares {ε : gE5} (hE : gEnv ε) (N : Nat) : gCtr ε yX9_squares cX9_squares 7 (some .long) 4 90 gyM (fX9_squares N) :=
  gCtr_of hE.1 (by decide) (fun γ G hb ho hy hR he hr => fX9_squares_s0 N G hb ho hy hR he hr hE)

set_option maxRecDepth 100000 in
set_option maxHeartbeats 4000000 in
theorem fX9_totalOf_s0 {γ : gG} {cs ss : Nat} {ε : gE5} (N : Nat) (G : gOK γ) (hb : gcc γ = cX9_totalOf) (ho : gow γ = RX9) (hy : gly γ = gyM) (hR : grm γ = { frames := 5, cells := 0, slots := 0, locals := 116 }) (he : genv γ = ε) (hr : grt γ = (some .long)) (hE : gEnv ε) : gSm γ cs ss 0 (fX9_totalOf_k0 N) := by
  unfold fX9_totalOf_k0
  refine sm_iload_n (pc := 0) G hb (by decide +kernel : decode cX9_totalOf 0 = .ok (.iload_n 1, 1)) rfl ?_
  refine sm_mono tab_sub (sm_table (pc := 1) (tgt := 75) G hb [36, 45, 55, 64, 70] (by decide +kernel : decode cX9_totalOf 1 = .ok (.tableswitch 74 0 4 #[35, 44, 54, 63, 69], 35)) (by decide) (by decide) ?_ ?_ rfl)
  · skip
    refine sm_aload_n (pc := 75) G hb (by decide +kernel : decode cX9_totalOf 75 = .ok (.aload_n 0, 1)) rfl ?_
    refine sm_iconst (pc := 76) G hb (by decide +kernel : decode cX9_totalOf 76 = .ok (.iconst 1, 1)) (by decide) ?_
    refine sm_mono (cav_sub gJ_sub) (sm_callV (pc := 77) (N := 32) (T := TX9) (C := RX9) G hb ho hy he hE.1 2 [0, 1, 2, 3, 4, 5, 6, 7, 8, 9, 10, 11, 12, 13, 14, 15, 16, 17] (kX9_shadows hE N) (gCo_of (by decide +kernel)) (by rw [hR]; exact ⟨by decide, by decide⟩) rfl rfl (by decide +kernel) gw7_100 gw7_102 gw0_66 gw1_11 gw7_103 (by decide +kernel : decode cX9_totalOf 77 = .ok (.invokevirtual 368, 3)) ?_)
    exact sm_lret (pc := 80) G hb (by decide +kernel : decode cX9_totalOf 80 = .ok (.lreturn, 1)) hr
  · skip
    intro i t k h1 h2
    match i, h1, h2 with
    | 0, h1, h2 =>
      cases h1; cases h2
      refine sm_aload_n (pc := 36) G hb (by decide +kernel : decode cX9_totalOf 36 = .ok (.aload_n 0, 1)) rfl ?_
      refine sm_get (pc := 37) (ci := 9) (j := 9) (N := 32) (T := TX9) G hb ho hy rfl (by decide) gin_9 gw6_5 (by decide +kernel : decode cX9_totalOf 37 = .ok (.getfield 16, 3)) ?_
      refine sm_bipush (pc := 40) G hb (by decide +kernel : decode cX9_totalOf 40 = .ok (.bipush 7, 2)) (by decide) ?_
      refine sm_iald (pc := 42) G hb hy (by decide +kernel : decode cX9_totalOf 42 = .ok (.iaload, 1)) ?_
      refine sm_i2l (pc := 43) G hb (by decide +kernel : decode cX9_totalOf 43 = .ok (.i2l, 1)) ?_
      exact sm_lret (pc := 44) G hb (by decide +kernel : decode cX9_totalOf 44 = .ok (.lreturn, 1)) hr
    | 1, h1, h2 =>
      cases h1; cases h2
      refine sm_aload_n (pc := 45) G hb (by decide +kernel : decode cX9_totalOf 45 = .ok (.aload_n 0, 1)) rfl ?_
      refine sm_get (pc := 46) (ci := 9) (j := 9) (N := 32) (T := TX9) G hb ho hy rfl (by decide) gin_9 gw6_5 (by decide +kernel : decode cX9_totalOf 46 = .ok (.getfield 16, 3)) ?_
      refine sm_sipush (pc := 49) G hb (by decide +kernel : decode cX9_totalOf 49 = .ok (.sipush 245, 3)) (by decide) ?_
      refine sm_iald (pc := 52) G hb hy (by decide +kernel : decode cX9_totalOf 52 = .ok (.iaload, 1)) ?_
      refine sm_i2l (pc := 53) G hb (by decide +kernel : decode cX9_totalOf 53 = .ok (.i2l, 1)) ?_
      exact sm_lret (pc := 54) G hb (by decide +kernel : decode cX9_totalOf 54 = .ok (.lreturn, 1)) hr
    | 2, h1, h2 =>
      cases h1; cases h2
      refine sm_aload_n (pc := 55) G hb (by decide +kernel : decode cX9_totalOf 55 = .ok (.aload_n 0, 1)) rfl ?_
      refine sm_get (pc := 56) (ci := 9) (j := 9) (N := 32) (T := TX9) G hb ho hy rfl (by decide) gin_9 gw6_5 (by decide +kernel : decode cX9_totalOf 56 = .ok (.getfield 16, 3)) ?_
      refine sm_bipush (pc := 59) G hb (by decide +kernel : decode cX9_totalOf 59 = .ok (.bipush 8, 2)) (by decide) ?_
      refine sm_iald (pc := 61) G hb hy (by decide +kernel : decode cX9_totalOf 61 = .ok (.iaload, 1)) ?_
      refine sm_i2l (pc := 62) G hb (by decide +kernel : decode cX9_totalOf 62 = .ok (.i2l, 1)) ?_
      exact sm_lret (pc := 63) G hb (by decide +kernel : decode cX9_totalOf 63 = .ok (.lreturn, 1)) hr
    | 3, h1, h2 =>
      cases h1; cases h2
      refine sm_aload_n (pc := 64) G hb (by decide +kernel : decode cX9_totalOf 64 = .ok (.aload_n 0, 1)) rfl ?_
      refine sm_iconst (pc := 65) G hb (by decide +kernel : decode cX9_totalOf 65 = .ok (.iconst 0, 1)) (by decide) ?_
      refine sm_mono (cav_sub gJ_sub) (sm_callV (pc := 66) (N := 32) (T := TX9) (C := RX9) G hb ho hy he hE.1 2 [0, 1, 2, 3, 4, 5, 6, 7, 8, 9, 10, 11, 12, 13, 14, 15, 16, 17] (kX9_shadows hE N) (gCo_of (by decide +kernel)) (by rw [hR]; exact ⟨by decide, by decide⟩) rfl rfl (by decide +kernel) gw7_100 gw7_102 gw0_66 gw1_11 gw7_103 (by decide +kernel : decode cX9_totalOf 66 = .ok (.invokevirtual 368, 3)) ?_)
      exact sm_lret (pc := 69) G hb (by decide +kernel : decode cX9_totalOf 69 = .ok (.lreturn, 1)) hr
    | 4, h1, h2 =>
      cases h1; cases h2
      refine sm_aload_n (pc := 70) G hb (by decide +kernel : decode cX9_totalOf 70 = .ok (.aload_n 0, 1)) rfl ?_
      refine sm_mono (cav_sub gJ_sub) (sm_callV (pc := 71) (N := 32) (T := TX9) (C := RX9) G hb ho hy he hE.1 1 [0, 1, 2, 3, 4, 5, 6, 7, 8, 9, 10, 11, 12, 13, 14, 15, 16, 17] (kX9_squares hE N) (gCo_of (by decide +kernel)) (by rw [hR]; exact ⟨by decide, by decide⟩) rfl rfl (by decide +kernel) gw8_27 gw8_29 gw0_92 gw1_11 gw8_30 (by decide +kernel : decode cX9_totalOf 71 = .ok (.invokevirtual 404, 3)) ?_)
      exact sm_lret (pc := 74) G hb (by decide +kernel : decode cX9_totalOf 74 = .ok (.lreturn, 1)) hr
    | i + 5, h1, h2 =>
      simp at h1
theorem kX9_totalOf {ε : gE5} (hE : gEnv ε) (N : Nat) : gCtr ε yX9_totalOf cX9_totalOf 2 (some .long) 5 116 gyM (fX9_totalOf N) :=
  gCtr_of hE.1 (by decide) (fun γ G hb ho hy hR he hr => fX9_totalOf_s0 N G hb ho hy hR he hr hE)

set_option maxRecDepth 100000 in
set_option maxHeartbeats 4000000 in
theorem fX9_total_s0 {γ : gG} {cs ss : Nat} {ε : gE5} (N : Nat) (G : gOK γ) (hb : gcc γ = cX9_total) (ho : gow γ = RX9) (hy : gly γ = gyM) (hR : grm γ = { frames := 6, cells := 0, slots := 0, locals := 137 }) (he : genv γ = ε) (hr : grt γ = (some .long)) (hE : gEnv ε) : gSm γ cs ss 0 (fX9_total_k0 N) := by
  unfold fX9_total_k0
  refine sm_aload_n (pc := 0) G hb (by decide +kernel : decode cX9_total 0 = .ok (.aload_n 0, 1)) rfl ?_
  refine sm_iconst (pc := 1) G hb (by decide +kernel : decode cX9_total 1 = .ok (.iconst 0, 1)) (by decide) ?_
  refine sm_put (pc := 2) (ci := 9) (j := 0) (N := 32) (T := TX9) G hb ho hy tyX9 tyX9_ok nmX9 rfl (by decide) gin_9 gw5_236 rfl rfl (by decide +kernel : decode cX9_total 2 = .ok (.putfield 76, 3)) ?_
  refine sm_aload_n (pc := 5) G hb (by decide +kernel : decode cX9_total 5 = .ok (.aload_n 0, 1)) rfl ?_
  refine sm_iload_n (pc := 6) G hb (by decide +kernel : decode cX9_total 6 = .ok (.iload_n 1, 1)) rfl ?_
  refine sm_i2l (pc := 7) G hb (by decide +kernel : decode cX9_total 7 = .ok (.i2l, 1)) ?_
  refine sm_lconst (pc := 8) G hb (by decide +kernel : decode cX9_total 8 = .ok (.lconst 0, 1)) (by decide) ?_
  refine sm_ldc2 (pc := 9) G hb ho (by decide +kernel : decode cX9_total 9 = .ok (.ldc2_w 343, 3)) gw7_4 ?_
  refine sm_mono (ca_sub gI_sub) (sm_callS (pc := 12) G hb ho hy he hE.1 3 [] (kX9_in hE N) (gCo_of (by decide +kernel)) (by rw [hR]; exact ⟨by decide, by decide⟩) (by decide +kernel) gw6_113 gw6_114 gw1_11 gw6_115 (by decide +kernel : decode cX9_total 12 = .ok (.invokestatic 91, 3)) ?_)
  refine sm_iconst (pc := 15) G hb (by decide +kernel : decode cX9_total 15 = .ok (.iconst 1, 1)) (by decide) ?_
  refine sm_mono (cav_sub gI_sub) (sm_callV (pc := 16) (N := 32) (T := TX9) (C := RX9) G hb ho hy he hE.1 3 [0, 1, 2, 3, 4, 5, 6, 7, 8, 9, 10, 11, 12, 13, 14, 15, 16, 17] (kX9_fails hE N) (gCo_of (by decide +kernel)) (by rw [hR]; exact ⟨by decide, by decide⟩) rfl rfl (by decide +kernel) gw6_105 gw6_107 gw0_34 gw1_11 gw6_108 (by decide +kernel : decode cX9_total 16 = .ok (.invokevirtual 87, 3)) ?_)
  refine sm_if_eq (pc := 19) (tgt := 26) G hb (by decide +kernel : decode cX9_total 19 = .ok (.ifCond .eq 7, 3)) (by decide) ?_ ?_
  · skip
    refine sm_aload_n (pc := 26) G hb (by decide +kernel : decode cX9_total 26 = .ok (.aload_n 0, 1)) rfl ?_
    refine sm_iload_n (pc := 27) G hb (by decide +kernel : decode cX9_total 27 = .ok (.iload_n 1, 1)) rfl ?_
    refine sm_mono (cav_sub gJ_sub) (sm_callV (pc := 28) (N := 32) (T := TX9) (C := RX9) G hb ho hy he hE.1 2 [0, 1, 2, 3, 4, 5, 6, 7, 8, 9, 10, 11, 12, 13, 14, 15, 16, 17] (kX9_totalOf hE N) (gCo_of (by decide +kernel)) (by rw [hR]; exact ⟨by decide, by decide⟩) rfl rfl (by decide +kernel) gw8_23 gw8_25 gw0_91 gw1_11 gw8_26 (by decide +kernel : decode cX9_total 28 = .ok (.invokevirtual 408, 3)) ?_)
    exact sm_lret (pc := 31) G hb (by decide +kernel : decode cX9_total 31 = .ok (.lreturn, 1)) hr
  · skip
    refine sm_lconst (pc := 22) G hb (by decide +kernel : decode cX9_total 22 = .ok (.lconst 0, 1)) (by decide) ?_
    refine sm_goto (pc := 23) (tgt := 31) G hb (by decide +kernel : decode cX9_total 23 = .ok (.goto 8, 3)) (by decide) ?_
    exact sm_lret (pc := 31) G hb (by decide +kernel : decode cX9_total 31 = .ok (.lreturn, 1)) hr
theorem kX9_total {ε : gE5} (hE : gEnv ε) (N : Nat) : gCtr ε yX9_total cX9_total 2 (some .long) 6 137 gyM (fX9_total N) :=
  gCtr_of hE.1 (by decide) (fun γ G hb ho hy hR he hr => fX9_total_s0 N G hb ho hy hR he hr hE)

set_option maxRecDepth 100000 in
set_option maxHeartbeats 4000000 in
theorem fX9_fullest_s92 {γ : gG} {cs ss : Nat} {ε : gE5} (N : Nat) (G : gOK γ) (hb : gcc γ = cX9_fullest) (ho : gow γ = RX9) (hy : gly γ = gyM) (hR : grm γ = { frames := 4, cells := 0, slots := 0, locals := 90 }) (he : genv γ = ε) (hr : grt γ = (some .int)) (hE : gEnv ε) : gSm γ cs ss 92 (fX9_fullest_k92 N) := by
  unfold fX9_fullest_k92
  refine sm_iconst (pc := 92) G hb (by decide +kernel : decode cX9_fullest 92 = .ok (.iconst 1, 1)) (by decide) ?_
  refine sm_mono (cav_sub gI_sub) (sm_callV (pc := 93) (N := 32) (T := TX9) (C := RX9) G hb ho hy he hE.1 3 [0, 1, 2, 3, 4, 5, 6, 7, 8, 9, 10, 11, 12, 13, 14, 15, 16, 17] (kX9_fails hE N) (gCo_of (by decide +kernel)) (by rw [hR]; exact ⟨by decide, by decide⟩) rfl rfl (by decide +kernel) gw6_105 gw6_107 gw0_34 gw1_11 gw6_108 (by decide +kernel : decode cX9_fullest 93 = .ok (.invokevirtual 87, 3)) ?_)
  refine sm_if_eq (pc := 96) (tgt := 103) G hb (by decide +kernel : decode cX9_fullest 96 = .ok (.ifCond .eq 7, 3)) (by decide) ?_ ?_
  · skip
    refine sm_iload_n (pc := 103) G hb (by decide +kernel : decode cX9_fullest 103 = .ok (.iload_n 1, 1)) rfl ?_
    exact sm_iret (pc := 104) G hb (by decide +kernel : decode cX9_fullest 104 = .ok (.ireturn, 1)) hr
  · skip
    refine sm_iconst (pc := 99) G hb (by decide +kernel : decode cX9_fullest 99 = .ok (.iconst 0, 1)) (by decide) ?_
    refine sm_goto (pc := 100) (tgt := 104) G hb (by decide +kernel : decode cX9_fullest 100 = .ok (.goto 4, 3)) (by decide) ?_
    exact sm_iret (pc := 104) G hb (by decide +kernel : decode cX9_fullest 104 = .ok (.ireturn, 1)) hr
set_option maxRecDepth 100000 in
set_option maxHeartbeats 4000000 in
theorem fX9_fullest_s61 {γ : gG} {cs ss : Nat} {ε : gE5} (N : Nat) (G : gOK γ) (hb : gcc γ = cX9_fullest) (ho : gow γ = RX9) (hy : gly γ = gyM) (hR : grm γ = { frames := 4, cells := 0, slots := 0, locals := 90 }) (he : genv γ = ε) (hr : grt γ = (some .int)) (hE : gEnv ε) (K11 : gK) (h11 : gSm γ cs ss 11 K11) (K24 : gK) (h24 : gSm γ cs ss 24 K24) : gSm γ cs ss 61 (fX9_fullest_k61 N K11 K24) := by
  unfold fX9_fullest_k61
  refine sm_istore_n (pc := 61) G hb (by decide +kernel : decode cX9_fullest 61 = .ok (.istore_n 1, 1)) rfl ?_
  refine sm_iload_n (pc := 62) G hb (by decide +kernel : decode cX9_fullest 62 = .ok (.iload_n 2, 1)) rfl ?_
  refine sm_iload (pc := 63) G hb (by decide +kernel : decode cX9_fullest 63 = .ok (.iload 5, 2)) ?_
  refine sm_jmax (pc := 65) G hb ho (by rw [hR]; exact ⟨by decide, by decide⟩) gw7_155 gw4_157 gw1_21 gw4_158 (by decide +kernel : decode cX9_fullest 65 = .ok (.invokestatic 259, 3)) ?_
  refine sm_istore_n (pc := 68) G hb (by decide +kernel : decode cX9_fullest 68 = .ok (.istore_n 2, 1)) rfl ?_
  refine sm_iinc (pc := 69) G hb (by decide +kernel : decode cX9_fullest 69 = .ok (.iinc 4 1, 3)) (by decide) ?_
  refine sm_goto (pc := 72) (tgt := 24) G hb (by decide +kernel : decode cX9_fullest 72 = .ok (.goto (-48), 3)) (by decide) ?_
  refine sm_mask ?_
  exact h24
set_option maxRecDepth 100000 in
set_option maxHeartbeats 4000000 in
theorem fX9_fullest_s24 {γ : gG} {cs ss : Nat} {ε : gE5} (N : Nat) (G : gOK γ) (hb : gcc γ = cX9_fullest) (ho : gow γ = RX9) (hy : gly γ = gyM) (hR : grm γ = { frames := 4, cells := 0, slots := 0, locals := 90 }) (he : genv γ = ε) (hr : grt γ = (some .int)) (hE : gEnv ε) (K11 : gK) (h11 : gSm γ cs ss 11 K11) : gSm γ cs ss 24 (fX9_fullest_k24 N K11) := by
  unfold fX9_fullest_k24
  refine sm_lp (fun K24 h24 => ?_) N
  unfold fX9_fullest_b24
  refine sm_iload (pc := 24) G hb (by decide +kernel : decode cX9_fullest 24 = .ok (.iload 4, 2)) ?_
  refine sm_aload_n (pc := 26) G hb (by decide +kernel : decode cX9_fullest 26 = .ok (.aload_n 0, 1)) rfl ?_
  refine sm_get (pc := 27) (ci := 9) (j := 9) (N := 32) (T := TX9) G hb ho hy rfl (by decide) gin_9 gw6_5 (by decide +kernel : decode cX9_fullest 27 = .ok (.getfield 16, 3)) ?_
  refine sm_iconst (pc := 30) G hb (by decide +kernel : decode cX9_fullest 30 = .ok (.iconst 0, 1)) (by decide) ?_
  refine sm_iald (pc := 31) G hb hy (by decide +kernel : decode cX9_fullest 31 = .ok (.iaload, 1)) ?_
  refine sm_icmp_ge (pc := 32) (tgt := 75) G hb (by decide +kernel : decode cX9_fullest 32 = .ok (.if_icmp .ge 43, 3)) (by decide) ?_ ?_
  · skip
    refine sm_iinc (pc := 75) G hb (by decide +kernel : decode cX9_fullest 75 = .ok (.iinc 3 1, 3)) (by decide) ?_
    refine sm_goto (pc := 78) (tgt := 11) G hb (by decide +kernel : decode cX9_fullest 78 = .ok (.goto (-67), 3)) (by decide) ?_
    refine sm_mask ?_
    exact h11
  · skip
    refine sm_aload_n (pc := 35) G hb (by decide +kernel : decode cX9_fullest 35 = .ok (.aload_n 0, 1)) rfl ?_
    refine sm_iload_n (pc := 36) G hb (by decide +kernel : decode cX9_fullest 36 = .ok (.iload_n 3, 1)) rfl ?_
    refine sm_iload (pc := 37) G hb (by decide +kernel : decode cX9_fullest 37 = .ok (.iload 4, 2)) ?_
    refine sm_mono (cav_sub gI_sub) (sm_callV (pc := 39) (N := 32) (T := TX9) (C := RX9) G hb ho hy he hE.1 3 [0, 1, 2, 3, 4, 5, 6, 7, 8, 9, 10, 11, 12, 13, 14, 15, 16, 17] (kX9_queued hE N) (gCo_of (by decide +kernel)) (by rw [hR]; exact ⟨by decide, by decide⟩) rfl rfl (by decide +kernel) gw8_3 gw8_5 gw0_89 gw1_11 gw8_6 (by decide +kernel : decode cX9_fullest 39 = .ok (.invokevirtual 398, 3)) ?_)
    refine sm_istore (pc := 42) G hb (by decide +kernel : decode cX9_fullest 42 = .ok (.istore 5, 2)) ?_
    refine sm_iload (pc := 44) G hb (by decide +kernel : decode cX9_fullest 44 = .ok (.iload 5, 2)) ?_
    refine sm_iload_n (pc := 46) G hb (by decide +kernel : decode cX9_fullest 46 = .ok (.iload_n 2, 1)) rfl ?_
    refine sm_icmp_le (pc := 47) (tgt := 60) G hb (by decide +kernel : decode cX9_fullest 47 = .ok (.if_icmp .le 13, 3)) (by decide) ?_ ?_
    · skip
      refine sm_iload_n (pc := 60) G hb (by decide +kernel : decode cX9_fullest 60 = .ok (.iload_n 1, 1)) rfl ?_
      refine sm_mask ?_
      exact fX9_fullest_s61 N G hb ho hy hR he hr hE K11 h11 K24 h24
    · skip
      refine sm_bipush (pc := 50) G hb (by decide +kernel : decode cX9_fullest 50 = .ok (.bipush 100, 2)) (by decide) ?_
      refine sm_iload_n (pc := 52) G hb (by decide +kernel : decode cX9_fullest 52 = .ok (.iload_n 3, 1)) rfl ?_
      refine sm_imul (pc := 53) G hb (by decide +kernel : decode cX9_fullest 53 = .ok (.imul, 1)) ?_
      refine sm_iload (pc := 54) G hb (by decide +kernel : decode cX9_fullest 54 = .ok (.iload 4, 2)) ?_
      refine sm_iadd (pc := 56) G hb (by decide +kernel : decode cX9_fullest 56 = .ok (.iadd, 1)) ?_
      refine sm_goto (pc := 57) (tgt := 61) G hb (by decide +kernel : decode cX9_fullest 57 = .ok (.goto 4, 3)) (by decide) ?_
      refine sm_mask ?_
      exact fX9_fullest_s61 N G hb ho hy hR he hr hE K11 h11 K24 h24
set_option maxRecDepth 100000 in
set_option maxHeartbeats 4000000 in
theorem fX9_fullest_s11 {γ : gG} {cs ss : Nat} {ε : gE5} (N : Nat) (G : gOK γ) (hb : gcc γ = cX9_fullest) (ho : gow γ = RX9) (hy : gly γ = gyM) (hR : grm γ = { frames := 4, cells := 0, slots := 0, locals := 90 }) (he : genv γ = ε) (hr : grt γ = (some .int)) (hE : gEnv ε) : gSm γ cs ss 11 (fX9_fullest_k11 N) := by
  unfold fX9_fullest_k11
  refine sm_lp (fun K11 h11 => ?_) N
  unfold fX9_fullest_b11
  refine sm_iload_n (pc := 11) G hb (by decide +kernel : decode cX9_fullest 11 = .ok (.iload_n 3, 1)) rfl ?_
  refine sm_aload_n (pc := 12) G hb (by decide +kernel : decode cX9_fullest 12 = .ok (.aload_n 0, 1)) rfl ?_
  refine sm_get (pc := 13) (ci := 9) (j := 9) (N := 32) (T := TX9) G hb ho hy rfl (by decide) gin_9 gw6_5 (by decide +kernel : decode cX9_fullest 13 = .ok (.getfield 16, 3)) ?_
  refine sm_iconst (pc := 16) G hb (by decide +kernel : decode cX9_fullest 16 = .ok (.iconst 0, 1)) (by decide) ?_
  refine sm_iald (pc := 17) G hb hy (by decide +kernel : decode cX9_fullest 17 = .ok (.iaload, 1)) ?_
  refine sm_icmp_ge (pc := 18) (tgt := 81) G hb (by decide +kernel : decode cX9_fullest 18 = .ok (.if_icmp .ge 63, 3)) (by decide) ?_ ?_
  · skip
    refine sm_aload_n (pc := 81) G hb (by decide +kernel : decode cX9_fullest 81 = .ok (.aload_n 0, 1)) rfl ?_
    refine sm_iload_n (pc := 82) G hb (by decide +kernel : decode cX9_fullest 82 = .ok (.iload_n 1, 1)) rfl ?_
    refine sm_iconst (pc := 83) G hb (by decide +kernel : decode cX9_fullest 83 = .ok (.iconst (-1), 1)) (by decide) ?_
    refine sm_icmp_eq (pc := 84) (tgt := 91) G hb (by decide +kernel : decode cX9_fullest 84 = .ok (.if_icmp .eq 7, 3)) (by decide) ?_ ?_
    · skip
      refine sm_iconst (pc := 91) G hb (by decide +kernel : decode cX9_fullest 91 = .ok (.iconst 0, 1)) (by decide) ?_
      refine sm_mask ?_
      exact fX9_fullest_s92 N G hb ho hy hR he hr hE
    · skip
      refine sm_iconst (pc := 87) G hb (by decide +kernel : decode cX9_fullest 87 = .ok (.iconst 1, 1)) (by decide) ?_
      refine sm_goto (pc := 88) (tgt := 92) G hb (by decide +kernel : decode cX9_fullest 88 = .ok (.goto 4, 3)) (by decide) ?_
      refine sm_mask ?_
      exact fX9_fullest_s92 N G hb ho hy hR he hr hE
  · skip
    refine sm_iconst (pc := 21) G hb (by decide +kernel : decode cX9_fullest 21 = .ok (.iconst 0, 1)) (by decide) ?_
    refine sm_istore (pc := 22) G hb (by decide +kernel : decode cX9_fullest 22 = .ok (.istore 4, 2)) ?_
    refine sm_mask ?_
    exact fX9_fullest_s24 N G hb ho hy hR he hr hE K11 h11
set_option maxRecDepth 100000 in
set_option maxHeartbeats 4000000 in
theorem fX9_fullest_s0 {γ : gG} {cs ss : Nat} {ε : gE5} (N : Nat) (G : gOK γ) (hb : gcc γ = cX9_fullest) (ho : gow γ = RX9) (hy : gly γ = gyM) (hR : grm γ = { frames := 4, cells := 0, slots := 0, locals := 90 }) (he : genv γ = ε) (hr : grt γ = (some .int)) (hE : gEnv ε) : gSm γ cs ss 0 (fX9_fullest_k0 N) := by
  unfold fX9_fullest_k0
  refine sm_aload_n (pc := 0) G hb (by decide +kernel : decode cX9_fullest 0 = .ok (.aload_n 0, 1)) rfl ?_
  refine sm_iconst (pc := 1) G hb (by decide +kernel : decode cX9_fullest 1 = .ok (.iconst 0, 1)) (by decide) ?_
  refine sm_put (pc := 2) (ci := 9) (j := 0) (N := 32) (T := TX9) G hb ho hy tyX9 tyX9_ok nmX9 rfl (by decide) gin_9 gw5_236 rfl rfl (by decide +kernel : decode cX9_fullest 2 = .ok (.putfield 76, 3)) ?_
  refine sm_iconst (pc := 5) G hb (by decide +kernel : decode cX9_fullest 5 = .ok (.iconst (-1), 1)) (by decide) ?_
  refine sm_istore_n (pc := 6) G hb (by decide +kernel : decode cX9_fullest 6 = .ok (.istore_n 1, 1)) rfl ?_
  refine sm_iconst (pc := 7) G hb (by decide +kernel : decode cX9_fullest 7 = .ok (.iconst 0, 1)) (by decide) ?_
  refine sm_istore_n (pc := 8) G hb (by decide +kernel : decode cX9_fullest 8 = .ok (.istore_n 2, 1)) rfl ?_
  refine sm_iconst (pc := 9) G hb (by decide +kernel : decode cX9_fullest 9 = .ok (.iconst 0, 1)) (by decide) ?_
  refine sm_istore_n (pc := 10) G hb (by decide +kernel : decode cX9_fullest 10 = .ok (.istore_n 3, 1)) rfl ?_
  refine sm_mask ?_
  exact fX9_fullest_s11 N G hb ho hy hR he hr hE
theorem kX9_fullest {ε : gE5} (hE : gEnv ε) (N : Nat) : gCtr ε yX9_fullest cX9_fullest 6 (some .int) 4 90 gyM (fX9_fullest N) :=
  gCtr_of hE.1 (by decide) (fun γ G hb ho hy hR he hr => fX9_fullest_s0 N G hb ho hy hR he hr hE)

set_option maxRecDepth 100000 in
set_option maxHeartbeats 4000000 in
theorem fX9_urgent_s94 {γ : gG} {cs ss : Nat} {ε : gE5} (N : Nat) (G : gOK γ) (hb : gcc γ = cX9_urgent) (ho : gow γ = RX9) (hy : gly γ = gyM) (hR : grm γ = { frames := 1, cells := 0, slots := 0, locals := 22 }) (he : genv γ = ε) (hr : grt γ = (some .int)) (hE : gEnv ε) : gSm γ cs ss 94 (fX9_urgent_k94 N) := by
  unfold fX9_urgent_k94
  refine sm_iconst (pc := 94) G hb (by decide +kernel : decode cX9_urgent 94 = .ok (.iconst 1, 1)) (by decide) ?_
  refine sm_mono (cav_sub gI_sub) (sm_callV (pc := 95) (N := 32) (T := TX9) (C := RX9) G hb ho hy he hE.1 3 [0, 1, 2, 3, 4, 5, 6, 7, 8, 9, 10, 11, 12, 13, 14, 15, 16, 17] (kX9_fails hE N) (gCo_of (by decide +kernel)) (by rw [hR]; exact ⟨by decide, by decide⟩) rfl rfl (by decide +kernel) gw6_105 gw6_107 gw0_34 gw1_11 gw6_108 (by decide +kernel : decode cX9_urgent 95 = .ok (.invokevirtual 87, 3)) ?_)
  refine sm_if_eq (pc := 98) (tgt := 105) G hb (by decide +kernel : decode cX9_urgent 98 = .ok (.ifCond .eq 7, 3)) (by decide) ?_ ?_
  · skip
    refine sm_iload_n (pc := 105) G hb (by decide +kernel : decode cX9_urgent 105 = .ok (.iload_n 1, 1)) rfl ?_
    exact sm_iret (pc := 106) G hb (by decide +kernel : decode cX9_urgent 106 = .ok (.ireturn, 1)) hr
  · skip
    refine sm_iconst (pc := 101) G hb (by decide +kernel : decode cX9_urgent 101 = .ok (.iconst 0, 1)) (by decide) ?_
    refine sm_goto (pc := 102) (tgt := 106) G hb (by decide +kernel : decode cX9_urgent 102 = .ok (.goto 4, 3)) (by decide) ?_
    exact sm_iret (pc := 106) G hb (by decide +kernel : decode cX9_urgent 106 = .ok (.ireturn, 1)) hr
set_option maxRecDepth 100000 in
set_option maxHeartbeats 4000000 in
theorem fX9_urgent_s76 {γ : gG} {cs ss : Nat} {ε : gE5} (N : Nat) (G : gOK γ) (hb : gcc γ = cX9_urgent) (ho : gow γ = RX9) (hy : gly γ = gyM) (hR : grm γ = { frames := 1, cells := 0, slots := 0, locals := 22 }) (he : genv γ = ε) (hr : grt γ = (some .int)) (hE : gEnv ε) (K9 : gK) (h9 : gSm γ cs ss 9 K9) : gSm γ cs ss 76 (fX9_urgent_k76 N K9) := by
  unfold fX9_urgent_k76
  refine sm_istore_n (pc := 76) G hb (by decide +kernel : decode cX9_urgent 76 = .ok (.istore_n 1, 1)) rfl ?_
  refine sm_iinc (pc := 77) G hb (by decide +kernel : decode cX9_urgent 77 = .ok (.iinc 2 1, 3)) (by decide) ?_
  refine sm_goto (pc := 80) (tgt := 9) G hb (by decide +kernel : decode cX9_urgent 80 = .ok (.goto (-71), 3)) (by decide) ?_
  refine sm_mask ?_
  exact h9
set_option maxRecDepth 100000 in
set_option maxHeartbeats 4000000 in
theorem fX9_urgent_s75 {γ : gG} {cs ss : Nat} {ε : gE5} (N : Nat) (G : gOK γ) (hb : gcc γ = cX9_urgent) (ho : gow γ = RX9) (hy : gly γ = gyM) (hR : grm γ = { frames := 1, cells := 0, slots := 0, locals := 22 }) (he : genv γ = ε) (hr : grt γ = (some .int)) (hE : gEnv ε) (K9 : gK) (h9 : gSm γ cs ss 9 K9) : gSm γ cs ss 75 (fX9_urgent_k75 N K9) := by
  unfold fX9_urgent_k75
  refine sm_iload_n (pc := 75) G hb (by decide +kernel : decode cX9_urgent 75 = .ok (.iload_n 1, 1)) rfl ?_
  refine sm_mask ?_
  exact fX9_urgent_s76 N G hb ho hy hR he hr hE K9 h9
set_option maxRecDepth 100000 in
set_option maxHeartbeats 4000000 in
theorem fX9_urgent_s70 {γ : gG} {cs ss : Nat} {ε : gE5} (N : Nat) (G : gOK γ) (hb : gcc γ = cX9_urgent) (ho : gow γ = RX9) (hy : gly γ = gyM) (hR : grm γ = { frames := 1, cells := 0, slots := 0, locals := 22 }) (he : genv γ = ε) (hr : grt γ = (some .int)) (hE : gEnv ε) (K9 : gK) (h9 : gSm γ cs ss 9 K9) : gSm γ cs ss 70 (fX9_urgent_k70 N K9) := by
  unfold fX9_urgent_k70
  refine sm_iload (pc := 70) G hb (by decide +kernel : decode cX9_urgent 70 = .ok (.iload 4, 2)) ?_
  refine sm_goto (pc := 72) (tgt := 76) G hb (by decide +kernel : decode cX9_urgent 72 = .ok (.goto 4, 3)) (by decide) ?_
  refine sm_mask ?_
  exact fX9_urgent_s76 N G hb ho hy hR he hr hE K9 h9
set_option maxRecDepth 100000 in
set_option maxHeartbeats 4000000 in
theorem fX9_urgent_s40 {γ : gG} {cs ss : Nat} {ε : gE5} (N : Nat) (G : gOK γ) (hb : gcc γ = cX9_urgent) (ho : gow γ = RX9) (hy : gly γ = gyM) (hR : grm γ = { frames := 1, cells := 0, slots := 0, locals := 22 }) (he : genv γ = ε) (hr : grt γ = (some .int)) (hE : gEnv ε) (K9 : gK) (h9 : gSm γ cs ss 9 K9) : gSm γ cs ss 40 (fX9_urgent_k40 N K9) := by
  unfold fX9_urgent_k40
  refine sm_iload_n (pc := 40) G hb (by decide +kernel : decode cX9_urgent 40 = .ok (.iload_n 3, 1)) rfl ?_
  refine sm_iadd (pc := 41) G hb (by decide +kernel : decode cX9_urgent 41 = .ok (.iadd, 1)) ?_
  refine sm_aload_n (pc := 42) G hb (by decide +kernel : decode cX9_urgent 42 = .ok (.aload_n 0, 1)) rfl ?_
  refine sm_get (pc := 43) (ci := 9) (j := 9) (N := 32) (T := TX9) G hb ho hy rfl (by decide) gin_9 gw6_5 (by decide +kernel : decode cX9_urgent 43 = .ok (.getfield 16, 3)) ?_
  refine sm_bipush (pc := 46) G hb (by decide +kernel : decode cX9_urgent 46 = .ok (.bipush 7, 2)) (by decide) ?_
  refine sm_iald (pc := 48) G hb hy (by decide +kernel : decode cX9_urgent 48 = .ok (.iaload, 1)) ?_
  refine sm_isub (pc := 49) G hb (by decide +kernel : decode cX9_urgent 49 = .ok (.isub, 1)) ?_
  refine sm_jmax (pc := 50) G hb ho (by rw [hR]; exact ⟨by decide, by decide⟩) gw7_155 gw4_157 gw1_21 gw4_158 (by decide +kernel : decode cX9_urgent 50 = .ok (.invokestatic 259, 3)) ?_
  refine sm_istore (pc := 53) G hb (by decide +kernel : decode cX9_urgent 53 = .ok (.istore 4, 2)) ?_
  refine sm_iload_n (pc := 55) G hb (by decide +kernel : decode cX9_urgent 55 = .ok (.iload_n 3, 1)) rfl ?_
  refine sm_if_le (pc := 56) (tgt := 75) G hb (by decide +kernel : decode cX9_urgent 56 = .ok (.ifCond .le 19, 3)) (by decide) ?_ ?_
  · skip
    refine sm_mask ?_
    exact fX9_urgent_s75 N G hb ho hy hR he hr hE K9 h9
  · skip
    refine sm_iload_n (pc := 59) G hb (by decide +kernel : decode cX9_urgent 59 = .ok (.iload_n 1, 1)) rfl ?_
    refine sm_iconst (pc := 60) G hb (by decide +kernel : decode cX9_urgent 60 = .ok (.iconst (-1), 1)) (by decide) ?_
    refine sm_icmp_eq (pc := 61) (tgt := 70) G hb (by decide +kernel : decode cX9_urgent 61 = .ok (.if_icmp .eq 9, 3)) (by decide) ?_ ?_
    · skip
      refine sm_mask ?_
      exact fX9_urgent_s70 N G hb ho hy hR he hr hE K9 h9
    · skip
      refine sm_iload (pc := 64) G hb (by decide +kernel : decode cX9_urgent 64 = .ok (.iload 4, 2)) ?_
      refine sm_iload_n (pc := 66) G hb (by decide +kernel : decode cX9_urgent 66 = .ok (.iload_n 1, 1)) rfl ?_
      refine sm_icmp_ge (pc := 67) (tgt := 75) G hb (by decide +kernel : decode cX9_urgent 67 = .ok (.if_icmp .ge 8, 3)) (by decide) ?_ ?_
      · skip
        refine sm_mask ?_
        exact fX9_urgent_s75 N G hb ho hy hR he hr hE K9 h9
      · skip
        refine sm_mask ?_
        exact fX9_urgent_s70 N G hb ho hy hR he hr hE K9 h9
set_option maxRecDepth 100000 in
set_option maxHeartbeats 4000000 in
theorem fX9_urgent_s9 {γ : gG} {cs ss : Nat} {ε : gE5} (N : Nat) (G : gOK γ) (hb : gcc γ = cX9_urgent) (ho : gow γ = RX9) (hy : gly γ = gyM) (hR : grm γ = { frames := 1, cells := 0, slots := 0, locals := 22 }) (he : genv γ = ε) (hr : grt γ = (some .int)) (hE : gEnv ε) : gSm γ cs ss 9 (fX9_urgent_k9 N) := by
  unfold fX9_urgent_k9
  refine sm_lp (fun K9 h9 => ?_) N
  unfold fX9_urgent_b9
  refine sm_iload_n (pc := 9) G hb (by decide +kernel : decode cX9_urgent 9 = .ok (.iload_n 2, 1)) rfl ?_
  refine sm_aload_n (pc := 10) G hb (by decide +kernel : decode cX9_urgent 10 = .ok (.aload_n 0, 1)) rfl ?_
  refine sm_get (pc := 11) (ci := 9) (j := 9) (N := 32) (T := TX9) G hb ho hy rfl (by decide) gin_9 gw6_5 (by decide +kernel : decode cX9_urgent 11 = .ok (.getfield 16, 3)) ?_
  refine sm_sipush (pc := 14) G hb (by decide +kernel : decode cX9_urgent 14 = .ok (.sipush 245, 3)) (by decide) ?_
  refine sm_iald (pc := 17) G hb hy (by decide +kernel : decode cX9_urgent 17 = .ok (.iaload, 1)) ?_
  refine sm_icmp_ge (pc := 18) (tgt := 83) G hb (by decide +kernel : decode cX9_urgent 18 = .ok (.if_icmp .ge 65, 3)) (by decide) ?_ ?_
  · skip
    refine sm_aload_n (pc := 83) G hb (by decide +kernel : decode cX9_urgent 83 = .ok (.aload_n 0, 1)) rfl ?_
    refine sm_iload_n (pc := 84) G hb (by decide +kernel : decode cX9_urgent 84 = .ok (.iload_n 1, 1)) rfl ?_
    refine sm_iconst (pc := 85) G hb (by decide +kernel : decode cX9_urgent 85 = .ok (.iconst (-1), 1)) (by decide) ?_
    refine sm_icmp_eq (pc := 86) (tgt := 93) G hb (by decide +kernel : decode cX9_urgent 86 = .ok (.if_icmp .eq 7, 3)) (by decide) ?_ ?_
    · skip
      refine sm_iconst (pc := 93) G hb (by decide +kernel : decode cX9_urgent 93 = .ok (.iconst 0, 1)) (by decide) ?_
      refine sm_mask ?_
      exact fX9_urgent_s94 N G hb ho hy hR he hr hE
    · skip
      refine sm_iconst (pc := 89) G hb (by decide +kernel : decode cX9_urgent 89 = .ok (.iconst 1, 1)) (by decide) ?_
      refine sm_goto (pc := 90) (tgt := 94) G hb (by decide +kernel : decode cX9_urgent 90 = .ok (.goto 4, 3)) (by decide) ?_
      refine sm_mask ?_
      exact fX9_urgent_s94 N G hb ho hy hR he hr hE
  · skip
    refine sm_aload_n (pc := 21) G hb (by decide +kernel : decode cX9_urgent 21 = .ok (.aload_n 0, 1)) rfl ?_
    refine sm_aload_n (pc := 22) G hb (by decide +kernel : decode cX9_urgent 22 = .ok (.aload_n 0, 1)) rfl ?_
    refine sm_iload_n (pc := 23) G hb (by decide +kernel : decode cX9_urgent 23 = .ok (.iload_n 2, 1)) rfl ?_
    refine sm_iconst (pc := 24) G hb (by decide +kernel : decode cX9_urgent 24 = .ok (.iconst 0, 1)) (by decide) ?_
    refine sm_mono (cav_sub gI_sub) (sm_callV (pc := 25) (N := 32) (T := TX9) (C := RX9) G hb ho hy he hE.1 3 [0, 1, 2, 3, 4, 5, 6, 7, 8, 9, 10, 11, 12, 13, 14, 15, 16, 17] (kX9_packetPart hE N) (gCo_of (by decide +kernel)) (by rw [hR]; exact ⟨by decide, by decide⟩) rfl rfl (by decide +kernel) gw7_84 gw7_86 gw0_63 gw1_11 gw7_87 (by decide +kernel : decode cX9_urgent 25 = .ok (.invokevirtual 237, 3)) ?_)
    refine sm_iconst (pc := 28) G hb (by decide +kernel : decode cX9_urgent 28 = .ok (.iconst 3, 1)) (by decide) ?_
    refine sm_mono (cav_sub gI_sub) (sm_callV (pc := 29) (N := 32) (T := TX9) (C := RX9) G hb ho hy he hE.1 3 [0, 1, 2, 3, 4, 5, 6, 7, 8, 9, 10, 11, 12, 13, 14, 15, 16, 17] (kX9_flowPart hE N) (gCo_of (by decide +kernel)) (by rw [hR]; exact ⟨by decide, by decide⟩) rfl rfl (by decide +kernel) gw7_64 gw7_66 gw0_59 gw1_11 gw7_67 (by decide +kernel : decode cX9_urgent 29 = .ok (.invokevirtual 240, 3)) ?_)
    refine sm_istore_n (pc := 32) G hb (by decide +kernel : decode cX9_urgent 32 = .ok (.istore_n 3, 1)) rfl ?_
    refine sm_iconst (pc := 33) G hb (by decide +kernel : decode cX9_urgent 33 = .ok (.iconst 0, 1)) (by decide) ?_
    refine sm_aload_n (pc := 34) G hb (by decide +kernel : decode cX9_urgent 34 = .ok (.aload_n 0, 1)) rfl ?_
    refine sm_iload_n (pc := 35) G hb (by decide +kernel : decode cX9_urgent 35 = .ok (.iload_n 2, 1)) rfl ?_
    refine sm_iconst (pc := 36) G hb (by decide +kernel : decode cX9_urgent 36 = .ok (.iconst 1, 1)) (by decide) ?_
    refine sm_mono (cav_sub gI_sub) (sm_callV (pc := 37) (N := 32) (T := TX9) (C := RX9) G hb ho hy he hE.1 3 [0, 1, 2, 3, 4, 5, 6, 7, 8, 9, 10, 11, 12, 13, 14, 15, 16, 17] (kX9_packetPart hE N) (gCo_of (by decide +kernel)) (by rw [hR]; exact ⟨by decide, by decide⟩) rfl rfl (by decide +kernel) gw7_84 gw7_86 gw0_63 gw1_11 gw7_87 (by decide +kernel : decode cX9_urgent 37 = .ok (.invokevirtual 237, 3)) ?_)
    refine sm_mask ?_
    exact fX9_urgent_s40 N G hb ho hy hR he hr hE K9 h9
set_option maxRecDepth 100000 in
set_option maxHeartbeats 4000000 in
theorem fX9_urgent_s0 {γ : gG} {cs ss : Nat} {ε : gE5} (N : Nat) (G : gOK γ) (hb : gcc γ = cX9_urgent) (ho : gow γ = RX9) (hy : gly γ = gyM) (hR : grm γ = { frames := 1, cells := 0, slots := 0, locals := 22 }) (he : genv γ = ε) (hr : grt γ = (some .int)) (hE : gEnv ε) : gSm γ cs ss 0 (fX9_urgent_k0 N) := by
  unfold fX9_urgent_k0
  refine sm_aload_n (pc := 0) G hb (by decide +kernel : decode cX9_urgent 0 = .ok (.aload_n 0, 1)) rfl ?_
  refine sm_iconst (pc := 1) G hb (by decide +kernel : decode cX9_urgent 1 = .ok (.iconst 0, 1)) (by decide) ?_
  refine sm_put (pc := 2) (ci := 9) (j := 0) (N := 32) (T := TX9) G hb ho hy tyX9 tyX9_ok nmX9 rfl (by decide) gin_9 gw5_236 rfl rfl (by decide +kernel : decode cX9_urgent 2 = .ok (.putfield 76, 3)) ?_
  refine sm_iconst (pc := 5) G hb (by decide +kernel : decode cX9_urgent 5 = .ok (.iconst (-1), 1)) (by decide) ?_
  refine sm_istore_n (pc := 6) G hb (by decide +kernel : decode cX9_urgent 6 = .ok (.istore_n 1, 1)) rfl ?_
  refine sm_iconst (pc := 7) G hb (by decide +kernel : decode cX9_urgent 7 = .ok (.iconst 0, 1)) (by decide) ?_
  refine sm_istore_n (pc := 8) G hb (by decide +kernel : decode cX9_urgent 8 = .ok (.istore_n 2, 1)) rfl ?_
  refine sm_mask ?_
  exact fX9_urgent_s9 N G hb ho hy hR he hr hE
theorem kX9_urgent {ε : gE5} (hE : gEnv ε) (N : Nat) : gCtr ε yX9_urgent cX9_urgent 5 (some .int) 1 22 gyM (fX9_urgent N) :=
  gCtr_of hE.1 (by decide) (fun γ G hb ho hy hR he hr => fX9_urgent_s0 N G hb ho hy hR he hr hE)

set_option maxRecDepth 100000 in
set_option maxHeartbeats 4000000 in
theorem fX9_sumOf_s4 {γ : gG} {cs ss : Nat} {ε : gE5} (N : Nat) (G : gOK γ) (hb : gcc γ = cX9_sumOf) (ho : gow γ = RX9) (hy : gly γ = gyM) (hR : grm γ = { frames := 1, cells := 0, slots := 0, locals := 22 }) (he : genv γ = ε) (hr : grt γ = (some .int)) (hE : gEnv ε) : gSm γ cs ss 4 (fX9_sumOf_k4 N) := by
  unfold fX9_sumOf_k4
  refine sm_lp (fun K4 h4 => ?_) N
  unfold fX9_sumOf_b4
  refine sm_iload_n (pc := 4) G hb (by decide +kernel : decode cX9_sumOf 4 = .ok (.iload_n 3, 1)) rfl ?_
  refine sm_aload_n (pc := 5) G hb (by decide +kernel : decode cX9_sumOf 5 = .ok (.aload_n 0, 1)) rfl ?_
  refine sm_get (pc := 6) (ci := 9) (j := 9) (N := 32) (T := TX9) G hb ho hy rfl (by decide) gin_9 gw6_5 (by decide +kernel : decode cX9_sumOf 6 = .ok (.getfield 16, 3)) ?_
  refine sm_iconst (pc := 9) G hb (by decide +kernel : decode cX9_sumOf 9 = .ok (.iconst 2, 1)) (by decide) ?_
  refine sm_iald (pc := 10) G hb hy (by decide +kernel : decode cX9_sumOf 10 = .ok (.iaload, 1)) ?_
  refine sm_icmp_ge (pc := 11) (tgt := 29) G hb (by decide +kernel : decode cX9_sumOf 11 = .ok (.if_icmp .ge 18, 3)) (by decide) ?_ ?_
  · skip
    refine sm_iload_n (pc := 29) G hb (by decide +kernel : decode cX9_sumOf 29 = .ok (.iload_n 2, 1)) rfl ?_
    exact sm_iret (pc := 30) G hb (by decide +kernel : decode cX9_sumOf 30 = .ok (.ireturn, 1)) hr
  · skip
    refine sm_iload_n (pc := 14) G hb (by decide +kernel : decode cX9_sumOf 14 = .ok (.iload_n 2, 1)) rfl ?_
    refine sm_aload_n (pc := 15) G hb (by decide +kernel : decode cX9_sumOf 15 = .ok (.aload_n 0, 1)) rfl ?_
    refine sm_iload_n (pc := 16) G hb (by decide +kernel : decode cX9_sumOf 16 = .ok (.iload_n 3, 1)) rfl ?_
    refine sm_iload_n (pc := 17) G hb (by decide +kernel : decode cX9_sumOf 17 = .ok (.iload_n 1, 1)) rfl ?_
    refine sm_mono (cav_sub gI_sub) (sm_callV (pc := 18) (N := 32) (T := TX9) (C := RX9) G hb ho hy he hE.1 3 [0, 1, 2, 3, 4, 5, 6, 7, 8, 9, 10, 11, 12, 13, 14, 15, 16, 17] (kX9_flowPart hE N) (gCo_of (by decide +kernel)) (by rw [hR]; exact ⟨by decide, by decide⟩) rfl rfl (by decide +kernel) gw7_64 gw7_66 gw0_59 gw1_11 gw7_67 (by decide +kernel : decode cX9_sumOf 18 = .ok (.invokevirtual 240, 3)) ?_)
    refine sm_iadd (pc := 21) G hb (by decide +kernel : decode cX9_sumOf 21 = .ok (.iadd, 1)) ?_
    refine sm_istore_n (pc := 22) G hb (by decide +kernel : decode cX9_sumOf 22 = .ok (.istore_n 2, 1)) rfl ?_
    refine sm_iinc (pc := 23) G hb (by decide +kernel : decode cX9_sumOf 23 = .ok (.iinc 3 1, 3)) (by decide) ?_
    refine sm_goto (pc := 26) (tgt := 4) G hb (by decide +kernel : decode cX9_sumOf 26 = .ok (.goto (-22), 3)) (by decide) ?_
    refine sm_mask ?_
    exact h4
set_option maxRecDepth 100000 in
set_option maxHeartbeats 4000000 in
theorem fX9_sumOf_s0 {γ : gG} {cs ss : Nat} {ε : gE5} (N : Nat) (G : gOK γ) (hb : gcc γ = cX9_sumOf) (ho : gow γ = RX9) (hy : gly γ = gyM) (hR : grm γ = { frames := 1, cells := 0, slots := 0, locals := 22 }) (he : genv γ = ε) (hr : grt γ = (some .int)) (hE : gEnv ε) : gSm γ cs ss 0 (fX9_sumOf_k0 N) := by
  unfold fX9_sumOf_k0
  refine sm_iconst (pc := 0) G hb (by decide +kernel : decode cX9_sumOf 0 = .ok (.iconst 0, 1)) (by decide) ?_
  refine sm_istore_n (pc := 1) G hb (by decide +kernel : decode cX9_sumOf 1 = .ok (.istore_n 2, 1)) rfl ?_
  refine sm_iconst (pc := 2) G hb (by decide +kernel : decode cX9_sumOf 2 = .ok (.iconst 0, 1)) (by decide) ?_
  refine sm_istore_n (pc := 3) G hb (by decide +kernel : decode cX9_sumOf 3 = .ok (.istore_n 3, 1)) rfl ?_
  refine sm_mask ?_
  exact fX9_sumOf_s4 N G hb ho hy hR he hr hE
theorem kX9_sumOf {ε : gE5} (hE : gEnv ε) (N : Nat) : gCtr ε yX9_sumOf cX9_sumOf 4 (some .int) 1 22 gyM (fX9_sumOf N) :=
  gCtr_of hE.1 (by decide) (fun γ G hb ho hy hR he hr => fX9_sumOf_s0 N G hb ho hy hR he hr hE)
