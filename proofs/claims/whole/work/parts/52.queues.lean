set_option maxRecDepth 100000 in
set_option maxHeartbeats 4000000 in
theorem fX4_clear_s0 {γ : gG} {cs ss : Nat} {ε : gE5} (N : Nat) (G : gOK γ) (hb : gcc γ = cX4_clear) (ho : gow γ = RX4) (hy : gly γ = gyQ) (hR : grm γ = { frames := 1, cells := 0, slots := 0, locals := 23 }) (he : genv γ = ε) (hr : grt γ = none) (hE : gEnv ε) : gSm γ cs ss 0 (fX4_clear_k0 N) := by
  unfold fX4_clear_k0
  refine sm_aload_n (pc := 0) G hb (by decide +kernel : decode cX4_clear 0 = .ok (.aload_n 0, 1)) rfl ?_
  refine sm_get (pc := 1) (ci := 4) (j := 2) (N := 12) (T := TX4) G hb ho hy rfl (by decide) gin_4 gw1_123 (by decide +kernel : decode cX4_clear 1 = .ok (.getfield 18, 3)) ?_
  refine sm_iconst (pc := 4) G hb (by decide +kernel : decode cX4_clear 4 = .ok (.iconst 0, 1)) (by decide) ?_
  refine sm_mono (ca_sub gV_sub) (sm_callS (pc := 5) G hb ho hy he hE.1 2 [3] (kJF_fill hE N 100) ⟨rfl, rfl, by decide⟩ (by rw [hR]; exact ⟨by decide, by decide⟩) (by decide +kernel) gw3_219 gw2_79 gw1_10 gw2_80 (by decide +kernel : decode cX4_clear 5 = .ok (.invokestatic 43, 3)) ?_)
  refine sm_aload_n (pc := 8) G hb (by decide +kernel : decode cX4_clear 8 = .ok (.aload_n 0, 1)) rfl ?_
  refine sm_get (pc := 9) (ci := 4) (j := 3) (N := 12) (T := TX4) G hb ho hy rfl (by decide) gin_4 gw1_128 (by decide +kernel : decode cX4_clear 9 = .ok (.getfield 21, 3)) ?_
  refine sm_iconst (pc := 12) G hb (by decide +kernel : decode cX4_clear 12 = .ok (.iconst 0, 1)) (by decide) ?_
  refine sm_mono (ca_sub gV_sub) (sm_callS (pc := 13) G hb ho hy he hE.1 2 [4] (kJF_fill hE N 100) ⟨rfl, rfl, by decide⟩ (by rw [hR]; exact ⟨by decide, by decide⟩) (by decide +kernel) gw3_219 gw2_79 gw1_10 gw2_80 (by decide +kernel : decode cX4_clear 13 = .ok (.invokestatic 43, 3)) ?_)
  refine sm_aload_n (pc := 16) G hb (by decide +kernel : decode cX4_clear 16 = .ok (.aload_n 0, 1)) rfl ?_
  refine sm_iconst (pc := 17) G hb (by decide +kernel : decode cX4_clear 17 = .ok (.iconst 0, 1)) (by decide) ?_
  refine sm_put (pc := 18) (ci := 4) (j := 9) (N := 12) (T := TX4) G hb ho hy tyX4 tyX4_ok nmX4 rfl (by decide) gin_4 gw1_148 rfl rfl (by decide +kernel : decode cX4_clear 18 = .ok (.putfield 49, 3)) ?_
  refine sm_aload_n (pc := 21) G hb (by decide +kernel : decode cX4_clear 21 = .ok (.aload_n 0, 1)) rfl ?_
  refine sm_iconst (pc := 22) G hb (by decide +kernel : decode cX4_clear 22 = .ok (.iconst (-1), 1)) (by decide) ?_
  refine sm_put (pc := 23) (ci := 4) (j := 10) (N := 12) (T := TX4) G hb ho hy tyX4 tyX4_ok nmX4 rfl (by decide) gin_4 gw1_149 rfl rfl (by decide +kernel : decode cX4_clear 23 = .ok (.putfield 39, 3)) ?_
  refine sm_aload_n (pc := 26) G hb (by decide +kernel : decode cX4_clear 26 = .ok (.aload_n 0, 1)) rfl ?_
  refine sm_iconst (pc := 27) G hb (by decide +kernel : decode cX4_clear 27 = .ok (.iconst 0, 1)) (by decide) ?_
  refine sm_put (pc := 28) (ci := 4) (j := 11) (N := 12) (T := TX4) G hb ho hy tyX4 tyX4_ok nmX4 rfl (by decide) gin_4 gw1_150 rfl rfl (by decide +kernel : decode cX4_clear 28 = .ok (.putfield 52, 3)) ?_
  exact sm_vret (pc := 31) G hb (by decide +kernel : decode cX4_clear 31 = .ok (.return_, 1)) hr
theorem kX4_clear {ε : gE5} (hE : gEnv ε) (N : Nat) : gCtr ε yX4_clear cX4_clear 1 none 1 23 gyQ (fX4_clear N) :=
  gCtr_of hE.1 (by decide) (fun γ G hb ho hy hR he hr => fX4_clear_s0 N G hb ho hy hR he hr hE)

set_option maxRecDepth 100000 in
set_option maxHeartbeats 4000000 in
theorem fX4_putLast_s38 {γ : gG} {cs ss : Nat} {ε : gE5} (N : Nat) (G : gOK γ) (hb : gcc γ = cX4_putLast) (ho : gow γ = RX4) (hy : gly γ = gyQ) (hR : grm γ = { frames := 0, cells := 0, slots := 0, locals := 0 }) (he : genv γ = ε) (hr : grt γ = none) (hE : gEnv ε) : gSm γ cs ss 38 (fX4_putLast_k38 N) := by
  unfold fX4_putLast_k38
  refine sm_aload_n (pc := 38) G hb (by decide +kernel : decode cX4_putLast 38 = .ok (.aload_n 0, 1)) rfl ?_
  refine sm_get (pc := 39) (ci := 4) (j := 1) (N := 12) (T := TX4) G hb ho hy rfl (by decide) gin_4 gw1_122 (by decide +kernel : decode cX4_putLast 39 = .ok (.getfield 15, 3)) ?_
  refine sm_iload_n (pc := 42) G hb (by decide +kernel : decode cX4_putLast 42 = .ok (.iload_n 1, 1)) rfl ?_
  refine sm_iload_n (pc := 43) G hb (by decide +kernel : decode cX4_putLast 43 = .ok (.iload_n 2, 1)) rfl ?_
  refine sm_iast (pc := 44) G hb hy (by decide +kernel : decode cX4_putLast 44 = .ok (.iastore, 1)) ?_
  refine sm_aload_n (pc := 45) G hb (by decide +kernel : decode cX4_putLast 45 = .ok (.aload_n 0, 1)) rfl ?_
  refine sm_get (pc := 46) (ci := 4) (j := 2) (N := 12) (T := TX4) G hb ho hy rfl (by decide) gin_4 gw1_123 (by decide +kernel : decode cX4_putLast 46 = .ok (.getfield 18, 3)) ?_
  refine sm_iload_n (pc := 49) G hb (by decide +kernel : decode cX4_putLast 49 = .ok (.iload_n 1, 1)) rfl ?_
  refine sm_dup2 (pc := 50) G hb (by decide +kernel : decode cX4_putLast 50 = .ok (.dup2, 1)) ?_
  refine sm_iald (pc := 51) G hb hy (by decide +kernel : decode cX4_putLast 51 = .ok (.iaload, 1)) ?_
  refine sm_iconst (pc := 52) G hb (by decide +kernel : decode cX4_putLast 52 = .ok (.iconst 1, 1)) (by decide) ?_
  refine sm_iadd (pc := 53) G hb (by decide +kernel : decode cX4_putLast 53 = .ok (.iadd, 1)) ?_
  refine sm_iast (pc := 54) G hb hy (by decide +kernel : decode cX4_putLast 54 = .ok (.iastore, 1)) ?_
  exact sm_vret (pc := 55) G hb (by decide +kernel : decode cX4_putLast 55 = .ok (.return_, 1)) hr
set_option maxRecDepth 100000 in
set_option maxHeartbeats 4000000 in
theorem fX4_putLast_s0 {γ : gG} {cs ss : Nat} {ε : gE5} (N : Nat) (G : gOK γ) (hb : gcc γ = cX4_putLast) (ho : gow γ = RX4) (hy : gly γ = gyQ) (hR : grm γ = { frames := 0, cells := 0, slots := 0, locals := 0 }) (he : genv γ = ε) (hr : grt γ = none) (hE : gEnv ε) : gSm γ cs ss 0 (fX4_putLast_k0 N) := by
  unfold fX4_putLast_k0
  refine sm_aload_n (pc := 0) G hb (by decide +kernel : decode cX4_putLast 0 = .ok (.aload_n 0, 1)) rfl ?_
  refine sm_get (pc := 1) (ci := 4) (j := 4) (N := 12) (T := TX4) G hb ho hy rfl (by decide) gin_4 gw1_132 (by decide +kernel : decode cX4_putLast 1 = .ok (.getfield 24, 3)) ?_
  refine sm_iload_n (pc := 4) G hb (by decide +kernel : decode cX4_putLast 4 = .ok (.iload_n 2, 1)) rfl ?_
  refine sm_iconst (pc := 5) G hb (by decide +kernel : decode cX4_putLast 5 = .ok (.iconst (-1), 1)) (by decide) ?_
  refine sm_iast (pc := 6) G hb hy (by decide +kernel : decode cX4_putLast 6 = .ok (.iastore, 1)) ?_
  refine sm_aload_n (pc := 7) G hb (by decide +kernel : decode cX4_putLast 7 = .ok (.aload_n 0, 1)) rfl ?_
  refine sm_get (pc := 8) (ci := 4) (j := 2) (N := 12) (T := TX4) G hb ho hy rfl (by decide) gin_4 gw1_123 (by decide +kernel : decode cX4_putLast 8 = .ok (.getfield 18, 3)) ?_
  refine sm_iload_n (pc := 11) G hb (by decide +kernel : decode cX4_putLast 11 = .ok (.iload_n 1, 1)) rfl ?_
  refine sm_iald (pc := 12) G hb hy (by decide +kernel : decode cX4_putLast 12 = .ok (.iaload, 1)) ?_
  refine sm_if_ne (pc := 13) (tgt := 26) G hb (by decide +kernel : decode cX4_putLast 13 = .ok (.ifCond .ne 13, 3)) (by decide) ?_ ?_
  · skip
    refine sm_aload_n (pc := 26) G hb (by decide +kernel : decode cX4_putLast 26 = .ok (.aload_n 0, 1)) rfl ?_
    refine sm_get (pc := 27) (ci := 4) (j := 4) (N := 12) (T := TX4) G hb ho hy rfl (by decide) gin_4 gw1_132 (by decide +kernel : decode cX4_putLast 27 = .ok (.getfield 24, 3)) ?_
    refine sm_aload_n (pc := 30) G hb (by decide +kernel : decode cX4_putLast 30 = .ok (.aload_n 0, 1)) rfl ?_
    refine sm_get (pc := 31) (ci := 4) (j := 1) (N := 12) (T := TX4) G hb ho hy rfl (by decide) gin_4 gw1_122 (by decide +kernel : decode cX4_putLast 31 = .ok (.getfield 15, 3)) ?_
    refine sm_iload_n (pc := 34) G hb (by decide +kernel : decode cX4_putLast 34 = .ok (.iload_n 1, 1)) rfl ?_
    refine sm_iald (pc := 35) G hb hy (by decide +kernel : decode cX4_putLast 35 = .ok (.iaload, 1)) ?_
    refine sm_iload_n (pc := 36) G hb (by decide +kernel : decode cX4_putLast 36 = .ok (.iload_n 2, 1)) rfl ?_
    refine sm_iast (pc := 37) G hb hy (by decide +kernel : decode cX4_putLast 37 = .ok (.iastore, 1)) ?_
    refine sm_mask ?_
    exact fX4_putLast_s38 N G hb ho hy hR he hr hE
  · skip
    refine sm_aload_n (pc := 16) G hb (by decide +kernel : decode cX4_putLast 16 = .ok (.aload_n 0, 1)) rfl ?_
    refine sm_get (pc := 17) (ci := 4) (j := 0) (N := 12) (T := TX4) G hb ho hy rfl (by decide) gin_4 gw1_120 (by decide +kernel : decode cX4_putLast 17 = .ok (.getfield 9, 3)) ?_
    refine sm_iload_n (pc := 20) G hb (by decide +kernel : decode cX4_putLast 20 = .ok (.iload_n 1, 1)) rfl ?_
    refine sm_iload_n (pc := 21) G hb (by decide +kernel : decode cX4_putLast 21 = .ok (.iload_n 2, 1)) rfl ?_
    refine sm_iast (pc := 22) G hb hy (by decide +kernel : decode cX4_putLast 22 = .ok (.iastore, 1)) ?_
    refine sm_goto (pc := 23) (tgt := 38) G hb (by decide +kernel : decode cX4_putLast 23 = .ok (.goto 15, 3)) (by decide) ?_
    refine sm_mask ?_
    exact fX4_putLast_s38 N G hb ho hy hR he hr hE
theorem kX4_putLast {ε : gE5} (hE : gEnv ε) (N : Nat) : gCtr ε yX4_putLast cX4_putLast 3 none 0 0 gyQ (fX4_putLast N) :=
  gCtr_of hE.1 (by decide) (fun γ G hb ho hy hR he hr => fX4_putLast_s0 N G hb ho hy hR he hr hE)

set_option maxRecDepth 100000 in
set_option maxHeartbeats 4000000 in
theorem fX4_enter_s72 {γ : gG} {cs ss : Nat} {ε : gE5} (N : Nat) (G : gOK γ) (hb : gcc γ = cX4_enter) (ho : gow γ = RX4) (hy : gly γ = gyQ) (hR : grm γ = { frames := 1, cells := 0, slots := 0, locals := 22 }) (he : genv γ = ε) (hr : grt γ = (some .boolean)) (hE : gEnv ε) : gSm γ cs ss 72 (fX4_enter_k72 N) := by
  unfold fX4_enter_k72
  refine sm_aload_n (pc := 72) G hb (by decide +kernel : decode cX4_enter 72 = .ok (.aload_n 0, 1)) rfl ?_
  refine sm_get (pc := 73) (ci := 4) (j := 5) (N := 12) (T := TX4) G hb ho hy rfl (by decide) gin_4 gw1_134 (by decide +kernel : decode cX4_enter 73 = .ok (.getfield 27, 3)) ?_
  refine sm_iload (pc := 76) G hb (by decide +kernel : decode cX4_enter 76 = .ok (.iload 5, 2)) ?_
  refine sm_iload_n (pc := 78) G hb (by decide +kernel : decode cX4_enter 78 = .ok (.iload_n 2, 1)) rfl ?_
  refine sm_iast (pc := 79) G hb hy (by decide +kernel : decode cX4_enter 79 = .ok (.iastore, 1)) ?_
  refine sm_aload_n (pc := 80) G hb (by decide +kernel : decode cX4_enter 80 = .ok (.aload_n 0, 1)) rfl ?_
  refine sm_get (pc := 81) (ci := 4) (j := 6) (N := 12) (T := TX4) G hb ho hy rfl (by decide) gin_4 gw1_138 (by decide +kernel : decode cX4_enter 81 = .ok (.getfield 30, 3)) ?_
  refine sm_iload (pc := 84) G hb (by decide +kernel : decode cX4_enter 84 = .ok (.iload 5, 2)) ?_
  refine sm_iload_n (pc := 86) G hb (by decide +kernel : decode cX4_enter 86 = .ok (.iload_n 3, 1)) rfl ?_
  refine sm_iast (pc := 87) G hb hy (by decide +kernel : decode cX4_enter 87 = .ok (.iastore, 1)) ?_
  refine sm_aload_n (pc := 88) G hb (by decide +kernel : decode cX4_enter 88 = .ok (.aload_n 0, 1)) rfl ?_
  refine sm_get (pc := 89) (ci := 4) (j := 7) (N := 12) (T := TX4) G hb ho hy rfl (by decide) gin_4 gw1_142 (by decide +kernel : decode cX4_enter 89 = .ok (.getfield 33, 3)) ?_
  refine sm_iload (pc := 92) G hb (by decide +kernel : decode cX4_enter 92 = .ok (.iload 5, 2)) ?_
  refine sm_iconst (pc := 94) G hb (by decide +kernel : decode cX4_enter 94 = .ok (.iconst 0, 1)) (by decide) ?_
  refine sm_iast (pc := 95) G hb hy (by decide +kernel : decode cX4_enter 95 = .ok (.iastore, 1)) ?_
  refine sm_aload_n (pc := 96) G hb (by decide +kernel : decode cX4_enter 96 = .ok (.aload_n 0, 1)) rfl ?_
  refine sm_get (pc := 97) (ci := 4) (j := 8) (N := 12) (T := TX4) G hb ho hy rfl (by decide) gin_4 gw1_145 (by decide +kernel : decode cX4_enter 97 = .ok (.getfield 36, 3)) ?_
  refine sm_iload (pc := 100) G hb (by decide +kernel : decode cX4_enter 100 = .ok (.iload 5, 2)) ?_
  refine sm_iconst (pc := 102) G hb (by decide +kernel : decode cX4_enter 102 = .ok (.iconst 1, 1)) (by decide) ?_
  refine sm_iload (pc := 103) G hb (by decide +kernel : decode cX4_enter 103 = .ok (.iload 4, 2)) ?_
  refine sm_ishl (pc := 105) G hb (by decide +kernel : decode cX4_enter 105 = .ok (.ishl, 1)) ?_
  refine sm_iast (pc := 106) G hb hy (by decide +kernel : decode cX4_enter 106 = .ok (.iastore, 1)) ?_
  refine sm_aload_n (pc := 107) G hb (by decide +kernel : decode cX4_enter 107 = .ok (.aload_n 0, 1)) rfl ?_
  refine sm_dup (pc := 108) G hb (by decide +kernel : decode cX4_enter 108 = .ok (.dup, 1)) ?_
  refine sm_get (pc := 109) (ci := 4) (j := 11) (N := 12) (T := TX4) G hb ho hy rfl (by decide) gin_4 gw1_150 (by decide +kernel : decode cX4_enter 109 = .ok (.getfield 52, 3)) ?_
  refine sm_iconst (pc := 112) G hb (by decide +kernel : decode cX4_enter 112 = .ok (.iconst 1, 1)) (by decide) ?_
  refine sm_iadd (pc := 113) G hb (by decide +kernel : decode cX4_enter 113 = .ok (.iadd, 1)) ?_
  refine sm_put (pc := 114) (ci := 4) (j := 11) (N := 12) (T := TX4) G hb ho hy tyX4 tyX4_ok nmX4 rfl (by decide) gin_4 gw1_150 rfl rfl (by decide +kernel : decode cX4_enter 114 = .ok (.putfield 52, 3)) ?_
  refine sm_aload_n (pc := 117) G hb (by decide +kernel : decode cX4_enter 117 = .ok (.aload_n 0, 1)) rfl ?_
  refine sm_iload_n (pc := 118) G hb (by decide +kernel : decode cX4_enter 118 = .ok (.iload_n 1, 1)) rfl ?_
  refine sm_iload (pc := 119) G hb (by decide +kernel : decode cX4_enter 119 = .ok (.iload 5, 2)) ?_
  refine sm_mono (cav_sub gV_sub) (sm_callV (pc := 121) (N := 12) (T := TX4) (C := RX4) G hb ho hy he hE.1 3 [0, 1, 2, 3, 4, 5, 6, 7, 8, 9] (kX4_putLast hE N) (gCo_of (by decide +kernel)) (by rw [hR]; exact ⟨by decide, by decide⟩) rfl rfl (by decide +kernel) gw4_94 gw4_95 gw4_96 gw1_4 gw4_97 (by decide +kernel : decode cX4_enter 121 = .ok (.invokevirtual 59, 3)) ?_)
  refine sm_iconst (pc := 124) G hb (by decide +kernel : decode cX4_enter 124 = .ok (.iconst 1, 1)) (by decide) ?_
  exact sm_zret (pc := 125) G hb (by decide +kernel : decode cX4_enter 125 = .ok (.ireturn, 1)) hr
set_option maxRecDepth 100000 in
set_option maxHeartbeats 4000000 in
theorem fX4_enter_s30 {γ : gG} {cs ss : Nat} {ε : gE5} (N : Nat) (G : gOK γ) (hb : gcc γ = cX4_enter) (ho : gow γ = RX4) (hy : gly γ = gyQ) (hR : grm γ = { frames := 1, cells := 0, slots := 0, locals := 22 }) (he : genv γ = ε) (hr : grt γ = (some .boolean)) (hE : gEnv ε) : gSm γ cs ss 30 (fX4_enter_k30 N) := by
  unfold fX4_enter_k30
  refine sm_aload_n (pc := 30) G hb (by decide +kernel : decode cX4_enter 30 = .ok (.aload_n 0, 1)) rfl ?_
  refine sm_get (pc := 31) (ci := 4) (j := 10) (N := 12) (T := TX4) G hb ho hy rfl (by decide) gin_4 gw1_149 (by decide +kernel : decode cX4_enter 31 = .ok (.getfield 39, 3)) ?_
  refine sm_istore (pc := 34) G hb (by decide +kernel : decode cX4_enter 34 = .ok (.istore 5, 2)) ?_
  refine sm_iload (pc := 36) G hb (by decide +kernel : decode cX4_enter 36 = .ok (.iload 5, 2)) ?_
  refine sm_iconst (pc := 38) G hb (by decide +kernel : decode cX4_enter 38 = .ok (.iconst (-1), 1)) (by decide) ?_
  refine sm_icmp_eq (pc := 39) (tgt := 56) G hb (by decide +kernel : decode cX4_enter 39 = .ok (.if_icmp .eq 17, 3)) (by decide) ?_ ?_
  · skip
    refine sm_aload_n (pc := 56) G hb (by decide +kernel : decode cX4_enter 56 = .ok (.aload_n 0, 1)) rfl ?_
    refine sm_get (pc := 57) (ci := 4) (j := 9) (N := 12) (T := TX4) G hb ho hy rfl (by decide) gin_4 gw1_148 (by decide +kernel : decode cX4_enter 57 = .ok (.getfield 49, 3)) ?_
    refine sm_istore (pc := 60) G hb (by decide +kernel : decode cX4_enter 60 = .ok (.istore 5, 2)) ?_
    refine sm_aload_n (pc := 62) G hb (by decide +kernel : decode cX4_enter 62 = .ok (.aload_n 0, 1)) rfl ?_
    refine sm_dup (pc := 63) G hb (by decide +kernel : decode cX4_enter 63 = .ok (.dup, 1)) ?_
    refine sm_get (pc := 64) (ci := 4) (j := 9) (N := 12) (T := TX4) G hb ho hy rfl (by decide) gin_4 gw1_148 (by decide +kernel : decode cX4_enter 64 = .ok (.getfield 49, 3)) ?_
    refine sm_iconst (pc := 67) G hb (by decide +kernel : decode cX4_enter 67 = .ok (.iconst 1, 1)) (by decide) ?_
    refine sm_iadd (pc := 68) G hb (by decide +kernel : decode cX4_enter 68 = .ok (.iadd, 1)) ?_
    refine sm_put (pc := 69) (ci := 4) (j := 9) (N := 12) (T := TX4) G hb ho hy tyX4 tyX4_ok nmX4 rfl (by decide) gin_4 gw1_148 rfl rfl (by decide +kernel : decode cX4_enter 69 = .ok (.putfield 49, 3)) ?_
    refine sm_mask ?_
    exact fX4_enter_s72 N G hb ho hy hR he hr hE
  · skip
    refine sm_aload_n (pc := 42) G hb (by decide +kernel : decode cX4_enter 42 = .ok (.aload_n 0, 1)) rfl ?_
    refine sm_aload_n (pc := 43) G hb (by decide +kernel : decode cX4_enter 43 = .ok (.aload_n 0, 1)) rfl ?_
    refine sm_get (pc := 44) (ci := 4) (j := 4) (N := 12) (T := TX4) G hb ho hy rfl (by decide) gin_4 gw1_132 (by decide +kernel : decode cX4_enter 44 = .ok (.getfield 24, 3)) ?_
    refine sm_iload (pc := 47) G hb (by decide +kernel : decode cX4_enter 47 = .ok (.iload 5, 2)) ?_
    refine sm_iald (pc := 49) G hb hy (by decide +kernel : decode cX4_enter 49 = .ok (.iaload, 1)) ?_
    refine sm_put (pc := 50) (ci := 4) (j := 10) (N := 12) (T := TX4) G hb ho hy tyX4 tyX4_ok nmX4 rfl (by decide) gin_4 gw1_149 rfl rfl (by decide +kernel : decode cX4_enter 50 = .ok (.putfield 39, 3)) ?_
    refine sm_goto (pc := 53) (tgt := 72) G hb (by decide +kernel : decode cX4_enter 53 = .ok (.goto 19, 3)) (by decide) ?_
    refine sm_mask ?_
    exact fX4_enter_s72 N G hb ho hy hR he hr hE
set_option maxRecDepth 100000 in
set_option maxHeartbeats 4000000 in
theorem fX4_enter_s0 {γ : gG} {cs ss : Nat} {ε : gE5} (N : Nat) (G : gOK γ) (hb : gcc γ = cX4_enter) (ho : gow γ = RX4) (hy : gly γ = gyQ) (hR : grm γ = { frames := 1, cells := 0, slots := 0, locals := 22 }) (he : genv γ = ε) (hr : grt γ = (some .boolean)) (hE : gEnv ε) : gSm γ cs ss 0 (fX4_enter_k0 N) := by
  unfold fX4_enter_k0
  refine sm_aload_n (pc := 0) G hb (by decide +kernel : decode cX4_enter 0 = .ok (.aload_n 0, 1)) rfl ?_
  refine sm_get (pc := 1) (ci := 4) (j := 11) (N := 12) (T := TX4) G hb ho hy rfl (by decide) gin_4 gw1_150 (by decide +kernel : decode cX4_enter 1 = .ok (.getfield 52, 3)) ?_
  refine sm_sipush (pc := 4) G hb (by decide +kernel : decode cX4_enter 4 = .ok (.sipush 500, 3)) (by decide) ?_
  refine sm_icmp_ge (pc := 7) (tgt := 28) G hb (by decide +kernel : decode cX4_enter 7 = .ok (.if_icmp .ge 21, 3)) (by decide) ?_ ?_
  · skip
    refine sm_iconst (pc := 28) G hb (by decide +kernel : decode cX4_enter 28 = .ok (.iconst 0, 1)) (by decide) ?_
    exact sm_zret (pc := 29) G hb (by decide +kernel : decode cX4_enter 29 = .ok (.ireturn, 1)) hr
  · skip
    refine sm_aload_n (pc := 10) G hb (by decide +kernel : decode cX4_enter 10 = .ok (.aload_n 0, 1)) rfl ?_
    refine sm_get (pc := 11) (ci := 4) (j := 10) (N := 12) (T := TX4) G hb ho hy rfl (by decide) gin_4 gw1_149 (by decide +kernel : decode cX4_enter 11 = .ok (.getfield 39, 3)) ?_
    refine sm_iconst (pc := 14) G hb (by decide +kernel : decode cX4_enter 14 = .ok (.iconst (-1), 1)) (by decide) ?_
    refine sm_icmp_ne (pc := 15) (tgt := 30) G hb (by decide +kernel : decode cX4_enter 15 = .ok (.if_icmp .ne 15, 3)) (by decide) ?_ ?_
    · skip
      refine sm_mask ?_
      exact fX4_enter_s30 N G hb ho hy hR he hr hE
    · skip
      refine sm_aload_n (pc := 18) G hb (by decide +kernel : decode cX4_enter 18 = .ok (.aload_n 0, 1)) rfl ?_
      refine sm_get (pc := 19) (ci := 4) (j := 9) (N := 12) (T := TX4) G hb ho hy rfl (by decide) gin_4 gw1_148 (by decide +kernel : decode cX4_enter 19 = .ok (.getfield 49, 3)) ?_
      refine sm_sipush (pc := 22) G hb (by decide +kernel : decode cX4_enter 22 = .ok (.sipush 500, 3)) (by decide) ?_
      refine sm_icmp_lt (pc := 25) (tgt := 30) G hb (by decide +kernel : decode cX4_enter 25 = .ok (.if_icmp .lt 5, 3)) (by decide) ?_ ?_
      · skip
        refine sm_mask ?_
        exact fX4_enter_s30 N G hb ho hy hR he hr hE
      · skip
        refine sm_iconst (pc := 28) G hb (by decide +kernel : decode cX4_enter 28 = .ok (.iconst 0, 1)) (by decide) ?_
        exact sm_zret (pc := 29) G hb (by decide +kernel : decode cX4_enter 29 = .ok (.ireturn, 1)) hr
theorem kX4_enter {ε : gE5} (hE : gEnv ε) (N : Nat) : gCtr ε yX4_enter cX4_enter 6 (some .boolean) 1 22 gyQ (fX4_enter N) :=
  gCtr_of hE.1 (by decide) (fun γ G hb ho hy hR he hr => fX4_enter_s0 N G hb ho hy hR he hr hE)

set_option maxRecDepth 100000 in
set_option maxHeartbeats 4000000 in
theorem fX4_takeBehind_s88 {γ : gG} {cs ss : Nat} {ε : gE5} (N : Nat) (G : gOK γ) (hb : gcc γ = cX4_takeBehind) (ho : gow γ = RX4) (hy : gly γ = gyQ) (hR : grm γ = { frames := 0, cells := 0, slots := 0, locals := 0 }) (he : genv γ = ε) (hr : grt γ = (some .int)) (hE : gEnv ε) : gSm γ cs ss 88 (fX4_takeBehind_k88 N) := by
  unfold fX4_takeBehind_k88
  refine sm_aload_n (pc := 88) G hb (by decide +kernel : decode cX4_takeBehind 88 = .ok (.aload_n 0, 1)) rfl ?_
  refine sm_get (pc := 89) (ci := 4) (j := 2) (N := 12) (T := TX4) G hb ho hy rfl (by decide) gin_4 gw1_123 (by decide +kernel : decode cX4_takeBehind 89 = .ok (.getfield 18, 3)) ?_
  refine sm_iload_n (pc := 92) G hb (by decide +kernel : decode cX4_takeBehind 92 = .ok (.iload_n 1, 1)) rfl ?_
  refine sm_dup2 (pc := 93) G hb (by decide +kernel : decode cX4_takeBehind 93 = .ok (.dup2, 1)) ?_
  refine sm_iald (pc := 94) G hb hy (by decide +kernel : decode cX4_takeBehind 94 = .ok (.iaload, 1)) ?_
  refine sm_iconst (pc := 95) G hb (by decide +kernel : decode cX4_takeBehind 95 = .ok (.iconst 1, 1)) (by decide) ?_
  refine sm_isub (pc := 96) G hb (by decide +kernel : decode cX4_takeBehind 96 = .ok (.isub, 1)) ?_
  refine sm_iast (pc := 97) G hb hy (by decide +kernel : decode cX4_takeBehind 97 = .ok (.iastore, 1)) ?_
  refine sm_iload_n (pc := 98) G hb (by decide +kernel : decode cX4_takeBehind 98 = .ok (.iload_n 3, 1)) rfl ?_
  exact sm_iret (pc := 99) G hb (by decide +kernel : decode cX4_takeBehind 99 = .ok (.ireturn, 1)) hr
set_option maxRecDepth 100000 in
set_option maxHeartbeats 4000000 in
theorem fX4_takeBehind_s71 {γ : gG} {cs ss : Nat} {ε : gE5} (N : Nat) (G : gOK γ) (hb : gcc γ = cX4_takeBehind) (ho : gow γ = RX4) (hy : gly γ = gyQ) (hR : grm γ = { frames := 0, cells := 0, slots := 0, locals := 0 }) (he : genv γ = ε) (hr : grt γ = (some .int)) (hE : gEnv ε) : gSm γ cs ss 71 (fX4_takeBehind_k71 N) := by
  unfold fX4_takeBehind_k71
  refine sm_aload_n (pc := 71) G hb (by decide +kernel : decode cX4_takeBehind 71 = .ok (.aload_n 0, 1)) rfl ?_
  refine sm_get (pc := 72) (ci := 4) (j := 4) (N := 12) (T := TX4) G hb ho hy rfl (by decide) gin_4 gw1_132 (by decide +kernel : decode cX4_takeBehind 72 = .ok (.getfield 24, 3)) ?_
  refine sm_iload_n (pc := 75) G hb (by decide +kernel : decode cX4_takeBehind 75 = .ok (.iload_n 3, 1)) rfl ?_
  refine sm_iald (pc := 76) G hb hy (by decide +kernel : decode cX4_takeBehind 76 = .ok (.iaload, 1)) ?_
  refine sm_iconst (pc := 77) G hb (by decide +kernel : decode cX4_takeBehind 77 = .ok (.iconst (-1), 1)) (by decide) ?_
  refine sm_icmp_ne (pc := 78) (tgt := 88) G hb (by decide +kernel : decode cX4_takeBehind 78 = .ok (.if_icmp .ne 10, 3)) (by decide) ?_ ?_
  · skip
    refine sm_mask ?_
    exact fX4_takeBehind_s88 N G hb ho hy hR he hr hE
  · skip
    refine sm_aload_n (pc := 81) G hb (by decide +kernel : decode cX4_takeBehind 81 = .ok (.aload_n 0, 1)) rfl ?_
    refine sm_get (pc := 82) (ci := 4) (j := 1) (N := 12) (T := TX4) G hb ho hy rfl (by decide) gin_4 gw1_122 (by decide +kernel : decode cX4_takeBehind 82 = .ok (.getfield 15, 3)) ?_
    refine sm_iload_n (pc := 85) G hb (by decide +kernel : decode cX4_takeBehind 85 = .ok (.iload_n 1, 1)) rfl ?_
    refine sm_iload_n (pc := 86) G hb (by decide +kernel : decode cX4_takeBehind 86 = .ok (.iload_n 2, 1)) rfl ?_
    refine sm_iast (pc := 87) G hb hy (by decide +kernel : decode cX4_takeBehind 87 = .ok (.iastore, 1)) ?_
    refine sm_mask ?_
    exact fX4_takeBehind_s88 N G hb ho hy hR he hr hE
set_option maxRecDepth 100000 in
set_option maxHeartbeats 4000000 in
theorem fX4_takeBehind_s31 {γ : gG} {cs ss : Nat} {ε : gE5} (N : Nat) (G : gOK γ) (hb : gcc γ = cX4_takeBehind) (ho : gow γ = RX4) (hy : gly γ = gyQ) (hR : grm γ = { frames := 0, cells := 0, slots := 0, locals := 0 }) (he : genv γ = ε) (hr : grt γ = (some .int)) (hE : gEnv ε) : gSm γ cs ss 31 (fX4_takeBehind_k31 N) := by
  unfold fX4_takeBehind_k31
  refine sm_istore_n (pc := 31) G hb (by decide +kernel : decode cX4_takeBehind 31 = .ok (.istore_n 3, 1)) rfl ?_
  refine sm_iload_n (pc := 32) G hb (by decide +kernel : decode cX4_takeBehind 32 = .ok (.iload_n 3, 1)) rfl ?_
  refine sm_iconst (pc := 33) G hb (by decide +kernel : decode cX4_takeBehind 33 = .ok (.iconst (-1), 1)) (by decide) ?_
  refine sm_icmp_ne (pc := 34) (tgt := 39) G hb (by decide +kernel : decode cX4_takeBehind 34 = .ok (.if_icmp .ne 5, 3)) (by decide) ?_ ?_
  · skip
    refine sm_iload_n (pc := 39) G hb (by decide +kernel : decode cX4_takeBehind 39 = .ok (.iload_n 2, 1)) rfl ?_
    refine sm_iconst (pc := 40) G hb (by decide +kernel : decode cX4_takeBehind 40 = .ok (.iconst (-1), 1)) (by decide) ?_
    refine sm_icmp_ne (pc := 41) (tgt := 59) G hb (by decide +kernel : decode cX4_takeBehind 41 = .ok (.if_icmp .ne 18, 3)) (by decide) ?_ ?_
    · skip
      refine sm_aload_n (pc := 59) G hb (by decide +kernel : decode cX4_takeBehind 59 = .ok (.aload_n 0, 1)) rfl ?_
      refine sm_get (pc := 60) (ci := 4) (j := 4) (N := 12) (T := TX4) G hb ho hy rfl (by decide) gin_4 gw1_132 (by decide +kernel : decode cX4_takeBehind 60 = .ok (.getfield 24, 3)) ?_
      refine sm_iload_n (pc := 63) G hb (by decide +kernel : decode cX4_takeBehind 63 = .ok (.iload_n 2, 1)) rfl ?_
      refine sm_aload_n (pc := 64) G hb (by decide +kernel : decode cX4_takeBehind 64 = .ok (.aload_n 0, 1)) rfl ?_
      refine sm_get (pc := 65) (ci := 4) (j := 4) (N := 12) (T := TX4) G hb ho hy rfl (by decide) gin_4 gw1_132 (by decide +kernel : decode cX4_takeBehind 65 = .ok (.getfield 24, 3)) ?_
      refine sm_iload_n (pc := 68) G hb (by decide +kernel : decode cX4_takeBehind 68 = .ok (.iload_n 3, 1)) rfl ?_
      refine sm_iald (pc := 69) G hb hy (by decide +kernel : decode cX4_takeBehind 69 = .ok (.iaload, 1)) ?_
      refine sm_iast (pc := 70) G hb hy (by decide +kernel : decode cX4_takeBehind 70 = .ok (.iastore, 1)) ?_
      refine sm_mask ?_
      exact fX4_takeBehind_s71 N G hb ho hy hR he hr hE
    · skip
      refine sm_aload_n (pc := 44) G hb (by decide +kernel : decode cX4_takeBehind 44 = .ok (.aload_n 0, 1)) rfl ?_
      refine sm_get (pc := 45) (ci := 4) (j := 0) (N := 12) (T := TX4) G hb ho hy rfl (by decide) gin_4 gw1_120 (by decide +kernel : decode cX4_takeBehind 45 = .ok (.getfield 9, 3)) ?_
      refine sm_iload_n (pc := 48) G hb (by decide +kernel : decode cX4_takeBehind 48 = .ok (.iload_n 1, 1)) rfl ?_
      refine sm_aload_n (pc := 49) G hb (by decide +kernel : decode cX4_takeBehind 49 = .ok (.aload_n 0, 1)) rfl ?_
      refine sm_get (pc := 50) (ci := 4) (j := 4) (N := 12) (T := TX4) G hb ho hy rfl (by decide) gin_4 gw1_132 (by decide +kernel : decode cX4_takeBehind 50 = .ok (.getfield 24, 3)) ?_
      refine sm_iload_n (pc := 53) G hb (by decide +kernel : decode cX4_takeBehind 53 = .ok (.iload_n 3, 1)) rfl ?_
      refine sm_iald (pc := 54) G hb hy (by decide +kernel : decode cX4_takeBehind 54 = .ok (.iaload, 1)) ?_
      refine sm_iast (pc := 55) G hb hy (by decide +kernel : decode cX4_takeBehind 55 = .ok (.iastore, 1)) ?_
      refine sm_goto (pc := 56) (tgt := 71) G hb (by decide +kernel : decode cX4_takeBehind 56 = .ok (.goto 15, 3)) (by decide) ?_
      refine sm_mask ?_
      exact fX4_takeBehind_s71 N G hb ho hy hR he hr hE
  · skip
    refine sm_iconst (pc := 37) G hb (by decide +kernel : decode cX4_takeBehind 37 = .ok (.iconst (-1), 1)) (by decide) ?_
    exact sm_iret (pc := 38) G hb (by decide +kernel : decode cX4_takeBehind 38 = .ok (.ireturn, 1)) hr
set_option maxRecDepth 100000 in
set_option maxHeartbeats 4000000 in
theorem fX4_takeBehind_s0 {γ : gG} {cs ss : Nat} {ε : gE5} (N : Nat) (G : gOK γ) (hb : gcc γ = cX4_takeBehind) (ho : gow γ = RX4) (hy : gly γ = gyQ) (hR : grm γ = { frames := 0, cells := 0, slots := 0, locals := 0 }) (he : genv γ = ε) (hr : grt γ = (some .int)) (hE : gEnv ε) : gSm γ cs ss 0 (fX4_takeBehind_k0 N) := by
  unfold fX4_takeBehind_k0
  refine sm_aload_n (pc := 0) G hb (by decide +kernel : decode cX4_takeBehind 0 = .ok (.aload_n 0, 1)) rfl ?_
  refine sm_get (pc := 1) (ci := 4) (j := 2) (N := 12) (T := TX4) G hb ho hy rfl (by decide) gin_4 gw1_123 (by decide +kernel : decode cX4_takeBehind 1 = .ok (.getfield 18, 3)) ?_
  refine sm_iload_n (pc := 4) G hb (by decide +kernel : decode cX4_takeBehind 4 = .ok (.iload_n 1, 1)) rfl ?_
  refine sm_iald (pc := 5) G hb hy (by decide +kernel : decode cX4_takeBehind 5 = .ok (.iaload, 1)) ?_
  refine sm_if_ne (pc := 6) (tgt := 11) G hb (by decide +kernel : decode cX4_takeBehind 6 = .ok (.ifCond .ne 5, 3)) (by decide) ?_ ?_
  · skip
    refine sm_iload_n (pc := 11) G hb (by decide +kernel : decode cX4_takeBehind 11 = .ok (.iload_n 2, 1)) rfl ?_
    refine sm_iconst (pc := 12) G hb (by decide +kernel : decode cX4_takeBehind 12 = .ok (.iconst (-1), 1)) (by decide) ?_
    refine sm_icmp_ne (pc := 13) (tgt := 25) G hb (by decide +kernel : decode cX4_takeBehind 13 = .ok (.if_icmp .ne 12, 3)) (by decide) ?_ ?_
    · skip
      refine sm_aload_n (pc := 25) G hb (by decide +kernel : decode cX4_takeBehind 25 = .ok (.aload_n 0, 1)) rfl ?_
      refine sm_get (pc := 26) (ci := 4) (j := 4) (N := 12) (T := TX4) G hb ho hy rfl (by decide) gin_4 gw1_132 (by decide +kernel : decode cX4_takeBehind 26 = .ok (.getfield 24, 3)) ?_
      refine sm_iload_n (pc := 29) G hb (by decide +kernel : decode cX4_takeBehind 29 = .ok (.iload_n 2, 1)) rfl ?_
      refine sm_iald (pc := 30) G hb hy (by decide +kernel : decode cX4_takeBehind 30 = .ok (.iaload, 1)) ?_
      refine sm_mask ?_
      exact fX4_takeBehind_s31 N G hb ho hy hR he hr hE
    · skip
      refine sm_aload_n (pc := 16) G hb (by decide +kernel : decode cX4_takeBehind 16 = .ok (.aload_n 0, 1)) rfl ?_
      refine sm_get (pc := 17) (ci := 4) (j := 0) (N := 12) (T := TX4) G hb ho hy rfl (by decide) gin_4 gw1_120 (by decide +kernel : decode cX4_takeBehind 17 = .ok (.getfield 9, 3)) ?_
      refine sm_iload_n (pc := 20) G hb (by decide +kernel : decode cX4_takeBehind 20 = .ok (.iload_n 1, 1)) rfl ?_
      refine sm_iald (pc := 21) G hb hy (by decide +kernel : decode cX4_takeBehind 21 = .ok (.iaload, 1)) ?_
      refine sm_goto (pc := 22) (tgt := 31) G hb (by decide +kernel : decode cX4_takeBehind 22 = .ok (.goto 9, 3)) (by decide) ?_
      refine sm_mask ?_
      exact fX4_takeBehind_s31 N G hb ho hy hR he hr hE
  · skip
    refine sm_iconst (pc := 9) G hb (by decide +kernel : decode cX4_takeBehind 9 = .ok (.iconst (-1), 1)) (by decide) ?_
    exact sm_iret (pc := 10) G hb (by decide +kernel : decode cX4_takeBehind 10 = .ok (.ireturn, 1)) hr
theorem kX4_takeBehind {ε : gE5} (hE : gEnv ε) (N : Nat) : gCtr ε yX4_takeBehind cX4_takeBehind 4 (some .int) 0 0 gyQ (fX4_takeBehind N) :=
  gCtr_of hE.1 (by decide) (fun γ G hb ho hy hR he hr => fX4_takeBehind_s0 N G hb ho hy hR he hr hE)

set_option maxRecDepth 100000 in
set_option maxHeartbeats 4000000 in
theorem fX4_release_s0 {γ : gG} {cs ss : Nat} {ε : gE5} (N : Nat) (G : gOK γ) (hb : gcc γ = cX4_release) (ho : gow γ = RX4) (hy : gly γ = gyQ) (hR : grm γ = { frames := 0, cells := 0, slots := 0, locals := 0 }) (he : genv γ = ε) (hr : grt γ = none) (hE : gEnv ε) : gSm γ cs ss 0 (fX4_release_k0 N) := by
  unfold fX4_release_k0
  refine sm_aload_n (pc := 0) G hb (by decide +kernel : decode cX4_release 0 = .ok (.aload_n 0, 1)) rfl ?_
  refine sm_get (pc := 1) (ci := 4) (j := 4) (N := 12) (T := TX4) G hb ho hy rfl (by decide) gin_4 gw1_132 (by decide +kernel : decode cX4_release 1 = .ok (.getfield 24, 3)) ?_
  refine sm_iload_n (pc := 4) G hb (by decide +kernel : decode cX4_release 4 = .ok (.iload_n 1, 1)) rfl ?_
  refine sm_aload_n (pc := 5) G hb (by decide +kernel : decode cX4_release 5 = .ok (.aload_n 0, 1)) rfl ?_
  refine sm_get (pc := 6) (ci := 4) (j := 10) (N := 12) (T := TX4) G hb ho hy rfl (by decide) gin_4 gw1_149 (by decide +kernel : decode cX4_release 6 = .ok (.getfield 39, 3)) ?_
  refine sm_iast (pc := 9) G hb hy (by decide +kernel : decode cX4_release 9 = .ok (.iastore, 1)) ?_
  refine sm_aload_n (pc := 10) G hb (by decide +kernel : decode cX4_release 10 = .ok (.aload_n 0, 1)) rfl ?_
  refine sm_iload_n (pc := 11) G hb (by decide +kernel : decode cX4_release 11 = .ok (.iload_n 1, 1)) rfl ?_
  refine sm_put (pc := 12) (ci := 4) (j := 10) (N := 12) (T := TX4) G hb ho hy tyX4 tyX4_ok nmX4 rfl (by decide) gin_4 gw1_149 rfl rfl (by decide +kernel : decode cX4_release 12 = .ok (.putfield 39, 3)) ?_
  refine sm_aload_n (pc := 15) G hb (by decide +kernel : decode cX4_release 15 = .ok (.aload_n 0, 1)) rfl ?_
  refine sm_dup (pc := 16) G hb (by decide +kernel : decode cX4_release 16 = .ok (.dup, 1)) ?_
  refine sm_get (pc := 17) (ci := 4) (j := 11) (N := 12) (T := TX4) G hb ho hy rfl (by decide) gin_4 gw1_150 (by decide +kernel : decode cX4_release 17 = .ok (.getfield 52, 3)) ?_
  refine sm_iconst (pc := 20) G hb (by decide +kernel : decode cX4_release 20 = .ok (.iconst 1, 1)) (by decide) ?_
  refine sm_isub (pc := 21) G hb (by decide +kernel : decode cX4_release 21 = .ok (.isub, 1)) ?_
  refine sm_put (pc := 22) (ci := 4) (j := 11) (N := 12) (T := TX4) G hb ho hy tyX4 tyX4_ok nmX4 rfl (by decide) gin_4 gw1_150 rfl rfl (by decide +kernel : decode cX4_release 22 = .ok (.putfield 52, 3)) ?_
  exact sm_vret (pc := 25) G hb (by decide +kernel : decode cX4_release 25 = .ok (.return_, 1)) hr
theorem kX4_release {ε : gE5} (hE : gEnv ε) (N : Nat) : gCtr ε yX4_release cX4_release 2 none 0 0 gyQ (fX4_release N) :=
  gCtr_of hE.1 (by decide) (fun γ G hb ho hy hR he hr => fX4_release_s0 N G hb ho hy hR he hr hE)

set_option maxRecDepth 100000 in
set_option maxHeartbeats 4000000 in
theorem fX4_find_s26 {γ : gG} {cs ss : Nat} {ε : gE5} (N : Nat) (G : gOK γ) (hb : gcc γ = cX4_find) (ho : gow γ = RX4) (hy : gly γ = gyQ) (hR : grm γ = { frames := 0, cells := 0, slots := 0, locals := 0 }) (he : genv γ = ε) (hr : grt γ = (some .int)) (hE : gEnv ε) : gSm γ cs ss 26 (fX4_find_k26 N) := by
  unfold fX4_find_k26
  refine sm_lp (fun K26 h26 => ?_) N
  unfold fX4_find_b26
  refine sm_iload (pc := 26) G hb (by decide +kernel : decode cX4_find 26 = .ok (.iload 4, 2)) ?_
  refine sm_iload_n (pc := 28) G hb (by decide +kernel : decode cX4_find 28 = .ok (.iload_n 2, 1)) rfl ?_
  refine sm_icmp_ge (pc := 29) (tgt := 50) G hb (by decide +kernel : decode cX4_find 29 = .ok (.if_icmp .ge 21, 3)) (by decide) ?_ ?_
  · skip
    refine sm_iload_n (pc := 50) G hb (by decide +kernel : decode cX4_find 50 = .ok (.iload_n 3, 1)) rfl ?_
    exact sm_iret (pc := 51) G hb (by decide +kernel : decode cX4_find 51 = .ok (.ireturn, 1)) hr
  · skip
    refine sm_iload_n (pc := 32) G hb (by decide +kernel : decode cX4_find 32 = .ok (.iload_n 3, 1)) rfl ?_
    refine sm_iconst (pc := 33) G hb (by decide +kernel : decode cX4_find 33 = .ok (.iconst (-1), 1)) (by decide) ?_
    refine sm_icmp_eq (pc := 34) (tgt := 50) G hb (by decide +kernel : decode cX4_find 34 = .ok (.if_icmp .eq 16, 3)) (by decide) ?_ ?_
    · skip
      refine sm_iload_n (pc := 50) G hb (by decide +kernel : decode cX4_find 50 = .ok (.iload_n 3, 1)) rfl ?_
      exact sm_iret (pc := 51) G hb (by decide +kernel : decode cX4_find 51 = .ok (.ireturn, 1)) hr
    · skip
      refine sm_aload_n (pc := 37) G hb (by decide +kernel : decode cX4_find 37 = .ok (.aload_n 0, 1)) rfl ?_
      refine sm_get (pc := 38) (ci := 4) (j := 4) (N := 12) (T := TX4) G hb ho hy rfl (by decide) gin_4 gw1_132 (by decide +kernel : decode cX4_find 38 = .ok (.getfield 24, 3)) ?_
      refine sm_iload_n (pc := 41) G hb (by decide +kernel : decode cX4_find 41 = .ok (.iload_n 3, 1)) rfl ?_
      refine sm_iald (pc := 42) G hb hy (by decide +kernel : decode cX4_find 42 = .ok (.iaload, 1)) ?_
      refine sm_istore_n (pc := 43) G hb (by decide +kernel : decode cX4_find 43 = .ok (.istore_n 3, 1)) rfl ?_
      refine sm_iinc (pc := 44) G hb (by decide +kernel : decode cX4_find 44 = .ok (.iinc 4 1, 3)) (by decide) ?_
      refine sm_goto (pc := 47) (tgt := 26) G hb (by decide +kernel : decode cX4_find 47 = .ok (.goto (-21), 3)) (by decide) ?_
      refine sm_mask ?_
      exact h26
set_option maxRecDepth 100000 in
set_option maxHeartbeats 4000000 in
theorem fX4_find_s0 {γ : gG} {cs ss : Nat} {ε : gE5} (N : Nat) (G : gOK γ) (hb : gcc γ = cX4_find) (ho : gow γ = RX4) (hy : gly γ = gyQ) (hR : grm γ = { frames := 0, cells := 0, slots := 0, locals := 0 }) (he : genv γ = ε) (hr : grt γ = (some .int)) (hE : gEnv ε) : gSm γ cs ss 0 (fX4_find_k0 N) := by
  unfold fX4_find_k0
  refine sm_iload_n (pc := 0) G hb (by decide +kernel : decode cX4_find 0 = .ok (.iload_n 2, 1)) rfl ?_
  refine sm_if_lt (pc := 1) (tgt := 14) G hb (by decide +kernel : decode cX4_find 1 = .ok (.ifCond .lt 13, 3)) (by decide) ?_ ?_
  · skip
    refine sm_iconst (pc := 14) G hb (by decide +kernel : decode cX4_find 14 = .ok (.iconst (-1), 1)) (by decide) ?_
    exact sm_iret (pc := 15) G hb (by decide +kernel : decode cX4_find 15 = .ok (.ireturn, 1)) hr
  · skip
    refine sm_iload_n (pc := 4) G hb (by decide +kernel : decode cX4_find 4 = .ok (.iload_n 2, 1)) rfl ?_
    refine sm_aload_n (pc := 5) G hb (by decide +kernel : decode cX4_find 5 = .ok (.aload_n 0, 1)) rfl ?_
    refine sm_get (pc := 6) (ci := 4) (j := 2) (N := 12) (T := TX4) G hb ho hy rfl (by decide) gin_4 gw1_123 (by decide +kernel : decode cX4_find 6 = .ok (.getfield 18, 3)) ?_
    refine sm_iload_n (pc := 9) G hb (by decide +kernel : decode cX4_find 9 = .ok (.iload_n 1, 1)) rfl ?_
    refine sm_iald (pc := 10) G hb hy (by decide +kernel : decode cX4_find 10 = .ok (.iaload, 1)) ?_
    refine sm_icmp_lt (pc := 11) (tgt := 16) G hb (by decide +kernel : decode cX4_find 11 = .ok (.if_icmp .lt 5, 3)) (by decide) ?_ ?_
    · skip
      refine sm_aload_n (pc := 16) G hb (by decide +kernel : decode cX4_find 16 = .ok (.aload_n 0, 1)) rfl ?_
      refine sm_get (pc := 17) (ci := 4) (j := 0) (N := 12) (T := TX4) G hb ho hy rfl (by decide) gin_4 gw1_120 (by decide +kernel : decode cX4_find 17 = .ok (.getfield 9, 3)) ?_
      refine sm_iload_n (pc := 20) G hb (by decide +kernel : decode cX4_find 20 = .ok (.iload_n 1, 1)) rfl ?_
      refine sm_iald (pc := 21) G hb hy (by decide +kernel : decode cX4_find 21 = .ok (.iaload, 1)) ?_
      refine sm_istore_n (pc := 22) G hb (by decide +kernel : decode cX4_find 22 = .ok (.istore_n 3, 1)) rfl ?_
      refine sm_iconst (pc := 23) G hb (by decide +kernel : decode cX4_find 23 = .ok (.iconst 0, 1)) (by decide) ?_
      refine sm_istore (pc := 24) G hb (by decide +kernel : decode cX4_find 24 = .ok (.istore 4, 2)) ?_
      refine sm_mask ?_
      exact fX4_find_s26 N G hb ho hy hR he hr hE
    · skip
      refine sm_iconst (pc := 14) G hb (by decide +kernel : decode cX4_find 14 = .ok (.iconst (-1), 1)) (by decide) ?_
      exact sm_iret (pc := 15) G hb (by decide +kernel : decode cX4_find 15 = .ok (.ireturn, 1)) hr
theorem kX4_find {ε : gE5} (hE : gEnv ε) (N : Nat) : gCtr ε yX4_find cX4_find 5 (some .int) 0 0 gyQ (fX4_find N) :=
  gCtr_of hE.1 (by decide) (fun γ G hb ho hy hR he hr => fX4_find_s0 N G hb ho hy hR he hr hE)

set_option maxRecDepth 100000 in
set_option maxHeartbeats 4000000 in
theorem fX4_copyFrom_s106 {γ : gG} {cs ss : Nat} {ε : gE5} (N : Nat) (G : gOK γ) (hb : gcc γ = cX4_copyFrom) (ho : gow γ = RX4) (hy : gly γ = gyQ2) (hR : grm γ = { frames := 2, cells := 0, slots := 0, locals := 48 }) (he : genv γ = ε) (hr : grt γ = none) (hE : gEnv ε) : gSm γ cs ss 106 (fX4_copyFrom_k106 N) := by
  unfold fX4_copyFrom_k106
  refine sm_aload_n (pc := 106) G hb (by decide +kernel : decode cX4_copyFrom 106 = .ok (.aload_n 1, 1)) rfl ?_
  refine sm_get (pc := 107) (ci := 4) (j := 6) (N := 12) (T := TX4) G hb ho hy rfl (by decide) gin_4 gw1_138 (by decide +kernel : decode cX4_copyFrom 107 = .ok (.getfield 30, 3)) ?_
  refine sm_aload_n (pc := 110) G hb (by decide +kernel : decode cX4_copyFrom 110 = .ok (.aload_n 0, 1)) rfl ?_
  refine sm_get (pc := 111) (ci := 4) (j := 6) (N := 12) (T := TX4) G hb ho hy rfl (by decide) gin_4 gw1_138 (by decide +kernel : decode cX4_copyFrom 111 = .ok (.getfield 30, 3)) ?_
  refine sm_aload_n (pc := 114) G hb (by decide +kernel : decode cX4_copyFrom 114 = .ok (.aload_n 0, 1)) rfl ?_
  refine sm_get (pc := 115) (ci := 4) (j := 9) (N := 12) (T := TX4) G hb ho hy rfl (by decide) gin_4 gw1_148 (by decide +kernel : decode cX4_copyFrom 115 = .ok (.getfield 49, 3)) ?_
  refine sm_mono (ca_sub gV_sub) (sm_callSN (pc := 118) G hb ho hy he hE.1 3 [17, 7] (kX8_copyRow hE N 500 500) ⟨rfl, rfl, by decide⟩ (by rw [hR]; exact ⟨by decide, by decide⟩) (by decide +kernel) gw3_54 gw3_45 gw1_1 gw3_46 (by decide +kernel : decode cX4_copyFrom 118 = .ok (.invokestatic 55, 3)) ?_)
  refine sm_aload_n (pc := 121) G hb (by decide +kernel : decode cX4_copyFrom 121 = .ok (.aload_n 1, 1)) rfl ?_
  refine sm_get (pc := 122) (ci := 4) (j := 7) (N := 12) (T := TX4) G hb ho hy rfl (by decide) gin_4 gw1_142 (by decide +kernel : decode cX4_copyFrom 122 = .ok (.getfield 33, 3)) ?_
  refine sm_aload_n (pc := 125) G hb (by decide +kernel : decode cX4_copyFrom 125 = .ok (.aload_n 0, 1)) rfl ?_
  refine sm_get (pc := 126) (ci := 4) (j := 7) (N := 12) (T := TX4) G hb ho hy rfl (by decide) gin_4 gw1_142 (by decide +kernel : decode cX4_copyFrom 126 = .ok (.getfield 33, 3)) ?_
  refine sm_aload_n (pc := 129) G hb (by decide +kernel : decode cX4_copyFrom 129 = .ok (.aload_n 0, 1)) rfl ?_
  refine sm_get (pc := 130) (ci := 4) (j := 9) (N := 12) (T := TX4) G hb ho hy rfl (by decide) gin_4 gw1_148 (by decide +kernel : decode cX4_copyFrom 130 = .ok (.getfield 49, 3)) ?_
  refine sm_mono (ca_sub gV_sub) (sm_callSN (pc := 133) G hb ho hy he hE.1 3 [18, 8] (kX8_copyRow hE N 500 500) ⟨rfl, rfl, by decide⟩ (by rw [hR]; exact ⟨by decide, by decide⟩) (by decide +kernel) gw3_54 gw3_45 gw1_1 gw3_46 (by decide +kernel : decode cX4_copyFrom 133 = .ok (.invokestatic 55, 3)) ?_)
  refine sm_aload_n (pc := 136) G hb (by decide +kernel : decode cX4_copyFrom 136 = .ok (.aload_n 1, 1)) rfl ?_
  refine sm_get (pc := 137) (ci := 4) (j := 8) (N := 12) (T := TX4) G hb ho hy rfl (by decide) gin_4 gw1_145 (by decide +kernel : decode cX4_copyFrom 137 = .ok (.getfield 36, 3)) ?_
  refine sm_aload_n (pc := 140) G hb (by decide +kernel : decode cX4_copyFrom 140 = .ok (.aload_n 0, 1)) rfl ?_
  refine sm_get (pc := 141) (ci := 4) (j := 8) (N := 12) (T := TX4) G hb ho hy rfl (by decide) gin_4 gw1_145 (by decide +kernel : decode cX4_copyFrom 141 = .ok (.getfield 36, 3)) ?_
  refine sm_aload_n (pc := 144) G hb (by decide +kernel : decode cX4_copyFrom 144 = .ok (.aload_n 0, 1)) rfl ?_
  refine sm_get (pc := 145) (ci := 4) (j := 9) (N := 12) (T := TX4) G hb ho hy rfl (by decide) gin_4 gw1_148 (by decide +kernel : decode cX4_copyFrom 145 = .ok (.getfield 49, 3)) ?_
  refine sm_mono (ca_sub gV_sub) (sm_callSN (pc := 148) G hb ho hy he hE.1 3 [19, 9] (kX8_copyRow hE N 500 500) ⟨rfl, rfl, by decide⟩ (by rw [hR]; exact ⟨by decide, by decide⟩) (by decide +kernel) gw3_54 gw3_45 gw1_1 gw3_46 (by decide +kernel : decode cX4_copyFrom 148 = .ok (.invokestatic 55, 3)) ?_)
  exact sm_vret (pc := 151) G hb (by decide +kernel : decode cX4_copyFrom 151 = .ok (.return_, 1)) hr
set_option maxRecDepth 100000 in
set_option maxHeartbeats 4000000 in
theorem fX4_copyFrom_s39 {γ : gG} {cs ss : Nat} {ε : gE5} (N : Nat) (G : gOK γ) (hb : gcc γ = cX4_copyFrom) (ho : gow γ = RX4) (hy : gly γ = gyQ2) (hR : grm γ = { frames := 2, cells := 0, slots := 0, locals := 48 }) (he : genv γ = ε) (hr : grt γ = none) (hE : gEnv ε) : gSm γ cs ss 39 (fX4_copyFrom_k39 N) := by
  unfold fX4_copyFrom_k39
  refine sm_aload_n (pc := 39) G hb (by decide +kernel : decode cX4_copyFrom 39 = .ok (.aload_n 1, 1)) rfl ?_
  refine sm_get (pc := 40) (ci := 4) (j := 3) (N := 12) (T := TX4) G hb ho hy rfl (by decide) gin_4 gw1_128 (by decide +kernel : decode cX4_copyFrom 40 = .ok (.getfield 21, 3)) ?_
  refine sm_aload_n (pc := 43) G hb (by decide +kernel : decode cX4_copyFrom 43 = .ok (.aload_n 0, 1)) rfl ?_
  refine sm_get (pc := 44) (ci := 4) (j := 3) (N := 12) (T := TX4) G hb ho hy rfl (by decide) gin_4 gw1_128 (by decide +kernel : decode cX4_copyFrom 44 = .ok (.getfield 21, 3)) ?_
  refine sm_bipush (pc := 47) G hb (by decide +kernel : decode cX4_copyFrom 47 = .ok (.bipush 100, 2)) (by decide) ?_
  refine sm_mono (ca_sub gV_sub) (sm_callSN (pc := 49) G hb ho hy he hE.1 3 [14, 4] (kX8_copyRow hE N 100 100) ⟨rfl, rfl, by decide⟩ (by rw [hR]; exact ⟨by decide, by decide⟩) (by decide +kernel) gw3_54 gw3_45 gw1_1 gw3_46 (by decide +kernel : decode cX4_copyFrom 49 = .ok (.invokestatic 55, 3)) ?_)
  refine sm_aload_n (pc := 52) G hb (by decide +kernel : decode cX4_copyFrom 52 = .ok (.aload_n 0, 1)) rfl ?_
  refine sm_aload_n (pc := 53) G hb (by decide +kernel : decode cX4_copyFrom 53 = .ok (.aload_n 1, 1)) rfl ?_
  refine sm_get (pc := 54) (ci := 4) (j := 9) (N := 12) (T := TX4) G hb ho hy rfl (by decide) gin_4 gw1_148 (by decide +kernel : decode cX4_copyFrom 54 = .ok (.getfield 49, 3)) ?_
  refine sm_put (pc := 57) (ci := 4) (j := 9) (N := 12) (T := TX4) G hb ho hy tyX4 tyX4_ok nmX4 rfl (by decide) gin_4 gw1_148 rfl rfl (by decide +kernel : decode cX4_copyFrom 57 = .ok (.putfield 49, 3)) ?_
  refine sm_aload_n (pc := 60) G hb (by decide +kernel : decode cX4_copyFrom 60 = .ok (.aload_n 0, 1)) rfl ?_
  refine sm_aload_n (pc := 61) G hb (by decide +kernel : decode cX4_copyFrom 61 = .ok (.aload_n 1, 1)) rfl ?_
  refine sm_get (pc := 62) (ci := 4) (j := 10) (N := 12) (T := TX4) G hb ho hy rfl (by decide) gin_4 gw1_149 (by decide +kernel : decode cX4_copyFrom 62 = .ok (.getfield 39, 3)) ?_
  refine sm_put (pc := 65) (ci := 4) (j := 10) (N := 12) (T := TX4) G hb ho hy tyX4 tyX4_ok nmX4 rfl (by decide) gin_4 gw1_149 rfl rfl (by decide +kernel : decode cX4_copyFrom 65 = .ok (.putfield 39, 3)) ?_
  refine sm_aload_n (pc := 68) G hb (by decide +kernel : decode cX4_copyFrom 68 = .ok (.aload_n 0, 1)) rfl ?_
  refine sm_aload_n (pc := 69) G hb (by decide +kernel : decode cX4_copyFrom 69 = .ok (.aload_n 1, 1)) rfl ?_
  refine sm_get (pc := 70) (ci := 4) (j := 11) (N := 12) (T := TX4) G hb ho hy rfl (by decide) gin_4 gw1_150 (by decide +kernel : decode cX4_copyFrom 70 = .ok (.getfield 52, 3)) ?_
  refine sm_put (pc := 73) (ci := 4) (j := 11) (N := 12) (T := TX4) G hb ho hy tyX4 tyX4_ok nmX4 rfl (by decide) gin_4 gw1_150 rfl rfl (by decide +kernel : decode cX4_copyFrom 73 = .ok (.putfield 52, 3)) ?_
  refine sm_aload_n (pc := 76) G hb (by decide +kernel : decode cX4_copyFrom 76 = .ok (.aload_n 1, 1)) rfl ?_
  refine sm_get (pc := 77) (ci := 4) (j := 4) (N := 12) (T := TX4) G hb ho hy rfl (by decide) gin_4 gw1_132 (by decide +kernel : decode cX4_copyFrom 77 = .ok (.getfield 24, 3)) ?_
  refine sm_aload_n (pc := 80) G hb (by decide +kernel : decode cX4_copyFrom 80 = .ok (.aload_n 0, 1)) rfl ?_
  refine sm_get (pc := 81) (ci := 4) (j := 4) (N := 12) (T := TX4) G hb ho hy rfl (by decide) gin_4 gw1_132 (by decide +kernel : decode cX4_copyFrom 81 = .ok (.getfield 24, 3)) ?_
  refine sm_aload_n (pc := 84) G hb (by decide +kernel : decode cX4_copyFrom 84 = .ok (.aload_n 0, 1)) rfl ?_
  refine sm_get (pc := 85) (ci := 4) (j := 9) (N := 12) (T := TX4) G hb ho hy rfl (by decide) gin_4 gw1_148 (by decide +kernel : decode cX4_copyFrom 85 = .ok (.getfield 49, 3)) ?_
  refine sm_mono (ca_sub gV_sub) (sm_callSN (pc := 88) G hb ho hy he hE.1 3 [15, 5] (kX8_copyRow hE N 500 500) ⟨rfl, rfl, by decide⟩ (by rw [hR]; exact ⟨by decide, by decide⟩) (by decide +kernel) gw3_54 gw3_45 gw1_1 gw3_46 (by decide +kernel : decode cX4_copyFrom 88 = .ok (.invokestatic 55, 3)) ?_)
  refine sm_aload_n (pc := 91) G hb (by decide +kernel : decode cX4_copyFrom 91 = .ok (.aload_n 1, 1)) rfl ?_
  refine sm_get (pc := 92) (ci := 4) (j := 5) (N := 12) (T := TX4) G hb ho hy rfl (by decide) gin_4 gw1_134 (by decide +kernel : decode cX4_copyFrom 92 = .ok (.getfield 27, 3)) ?_
  refine sm_aload_n (pc := 95) G hb (by decide +kernel : decode cX4_copyFrom 95 = .ok (.aload_n 0, 1)) rfl ?_
  refine sm_get (pc := 96) (ci := 4) (j := 5) (N := 12) (T := TX4) G hb ho hy rfl (by decide) gin_4 gw1_134 (by decide +kernel : decode cX4_copyFrom 96 = .ok (.getfield 27, 3)) ?_
  refine sm_aload_n (pc := 99) G hb (by decide +kernel : decode cX4_copyFrom 99 = .ok (.aload_n 0, 1)) rfl ?_
  refine sm_get (pc := 100) (ci := 4) (j := 9) (N := 12) (T := TX4) G hb ho hy rfl (by decide) gin_4 gw1_148 (by decide +kernel : decode cX4_copyFrom 100 = .ok (.getfield 49, 3)) ?_
  refine sm_mono (ca_sub gV_sub) (sm_callSN (pc := 103) G hb ho hy he hE.1 3 [16, 6] (kX8_copyRow hE N 500 500) ⟨rfl, rfl, by decide⟩ (by rw [hR]; exact ⟨by decide, by decide⟩) (by decide +kernel) gw3_54 gw3_45 gw1_1 gw3_46 (by decide +kernel : decode cX4_copyFrom 103 = .ok (.invokestatic 55, 3)) ?_)
  refine sm_mask ?_
  exact fX4_copyFrom_s106 N G hb ho hy hR he hr hE
set_option maxRecDepth 100000 in
set_option maxHeartbeats 4000000 in
theorem fX4_copyFrom_s0 {γ : gG} {cs ss : Nat} {ε : gE5} (N : Nat) (G : gOK γ) (hb : gcc γ = cX4_copyFrom) (ho : gow γ = RX4) (hy : gly γ = gyQ2) (hR : grm γ = { frames := 2, cells := 0, slots := 0, locals := 48 }) (he : genv γ = ε) (hr : grt γ = none) (hE : gEnv ε) : gSm γ cs ss 0 (fX4_copyFrom_k0 N) := by
  unfold fX4_copyFrom_k0
  refine sm_aload_n (pc := 0) G hb (by decide +kernel : decode cX4_copyFrom 0 = .ok (.aload_n 1, 1)) rfl ?_
  refine sm_get (pc := 1) (ci := 4) (j := 0) (N := 12) (T := TX4) G hb ho hy rfl (by decide) gin_4 gw1_120 (by decide +kernel : decode cX4_copyFrom 1 = .ok (.getfield 9, 3)) ?_
  refine sm_aload_n (pc := 4) G hb (by decide +kernel : decode cX4_copyFrom 4 = .ok (.aload_n 0, 1)) rfl ?_
  refine sm_get (pc := 5) (ci := 4) (j := 0) (N := 12) (T := TX4) G hb ho hy rfl (by decide) gin_4 gw1_120 (by decide +kernel : decode cX4_copyFrom 5 = .ok (.getfield 9, 3)) ?_
  refine sm_bipush (pc := 8) G hb (by decide +kernel : decode cX4_copyFrom 8 = .ok (.bipush 100, 2)) (by decide) ?_
  refine sm_mono (ca_sub gV_sub) (sm_callSN (pc := 10) G hb ho hy he hE.1 3 [11, 1] (kX8_copyRow hE N 100 100) ⟨rfl, rfl, by decide⟩ (by rw [hR]; exact ⟨by decide, by decide⟩) (by decide +kernel) gw3_54 gw3_45 gw1_1 gw3_46 (by decide +kernel : decode cX4_copyFrom 10 = .ok (.invokestatic 55, 3)) ?_)
  refine sm_aload_n (pc := 13) G hb (by decide +kernel : decode cX4_copyFrom 13 = .ok (.aload_n 1, 1)) rfl ?_
  refine sm_get (pc := 14) (ci := 4) (j := 1) (N := 12) (T := TX4) G hb ho hy rfl (by decide) gin_4 gw1_122 (by decide +kernel : decode cX4_copyFrom 14 = .ok (.getfield 15, 3)) ?_
  refine sm_aload_n (pc := 17) G hb (by decide +kernel : decode cX4_copyFrom 17 = .ok (.aload_n 0, 1)) rfl ?_
  refine sm_get (pc := 18) (ci := 4) (j := 1) (N := 12) (T := TX4) G hb ho hy rfl (by decide) gin_4 gw1_122 (by decide +kernel : decode cX4_copyFrom 18 = .ok (.getfield 15, 3)) ?_
  refine sm_bipush (pc := 21) G hb (by decide +kernel : decode cX4_copyFrom 21 = .ok (.bipush 100, 2)) (by decide) ?_
  refine sm_mono (ca_sub gV_sub) (sm_callSN (pc := 23) G hb ho hy he hE.1 3 [12, 2] (kX8_copyRow hE N 100 100) ⟨rfl, rfl, by decide⟩ (by rw [hR]; exact ⟨by decide, by decide⟩) (by decide +kernel) gw3_54 gw3_45 gw1_1 gw3_46 (by decide +kernel : decode cX4_copyFrom 23 = .ok (.invokestatic 55, 3)) ?_)
  refine sm_aload_n (pc := 26) G hb (by decide +kernel : decode cX4_copyFrom 26 = .ok (.aload_n 1, 1)) rfl ?_
  refine sm_get (pc := 27) (ci := 4) (j := 2) (N := 12) (T := TX4) G hb ho hy rfl (by decide) gin_4 gw1_123 (by decide +kernel : decode cX4_copyFrom 27 = .ok (.getfield 18, 3)) ?_
  refine sm_aload_n (pc := 30) G hb (by decide +kernel : decode cX4_copyFrom 30 = .ok (.aload_n 0, 1)) rfl ?_
  refine sm_get (pc := 31) (ci := 4) (j := 2) (N := 12) (T := TX4) G hb ho hy rfl (by decide) gin_4 gw1_123 (by decide +kernel : decode cX4_copyFrom 31 = .ok (.getfield 18, 3)) ?_
  refine sm_bipush (pc := 34) G hb (by decide +kernel : decode cX4_copyFrom 34 = .ok (.bipush 100, 2)) (by decide) ?_
  refine sm_mono (ca_sub gV_sub) (sm_callSN (pc := 36) G hb ho hy he hE.1 3 [13, 3] (kX8_copyRow hE N 100 100) ⟨rfl, rfl, by decide⟩ (by rw [hR]; exact ⟨by decide, by decide⟩) (by decide +kernel) gw3_54 gw3_45 gw1_1 gw3_46 (by decide +kernel : decode cX4_copyFrom 36 = .ok (.invokestatic 55, 3)) ?_)
  refine sm_mask ?_
  exact fX4_copyFrom_s39 N G hb ho hy hR he hr hE
theorem kX4_copyFrom {ε : gE5} (hE : gEnv ε) (N : Nat) : gCtr ε yX4_copyFrom cX4_copyFrom 2 none 2 48 gyQ2 (fX4_copyFrom N) :=
  gCtr_of hE.1 (by decide) (fun γ G hb ho hy hR he hr => fX4_copyFrom_s0 N G hb ho hy hR he hr hE)
