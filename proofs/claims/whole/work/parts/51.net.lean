set_option maxRecDepth 100000 in
set_option maxHeartbeats 4000000 in
theorem fX2_findLink_s32 {γ : gG} {cs ss : Nat} {ε : gE5} (N : Nat) (G : gOK γ) (hb : gcc γ = cX2_findLink) (ho : gow γ = RX2) (hy : gly γ = gyNet) (hR : grm γ = { frames := 0, cells := 0, slots := 0, locals := 0 }) (he : genv γ = ε) (hr : grt γ = (some .int)) (hE : gEnv ε) (K2 : gK) (h2 : gSm γ cs ss 2 K2) : gSm γ cs ss 32 (fX2_findLink_k32 N K2) := by
  unfold fX2_findLink_k32
  refine sm_iinc (pc := 32) G hb (by decide +kernel : decode cX2_findLink 32 = .ok (.iinc 3 1, 3)) (by decide) ?_
  refine sm_goto (pc := 35) (tgt := 2) G hb (by decide +kernel : decode cX2_findLink 35 = .ok (.goto (-33), 3)) (by decide) ?_
  refine sm_mask ?_
  exact h2
set_option maxRecDepth 100000 in
set_option maxHeartbeats 4000000 in
theorem fX2_findLink_s2 {γ : gG} {cs ss : Nat} {ε : gE5} (N : Nat) (G : gOK γ) (hb : gcc γ = cX2_findLink) (ho : gow γ = RX2) (hy : gly γ = gyNet) (hR : grm γ = { frames := 0, cells := 0, slots := 0, locals := 0 }) (he : genv γ = ε) (hr : grt γ = (some .int)) (hE : gEnv ε) : gSm γ cs ss 2 (fX2_findLink_k2 N) := by
  unfold fX2_findLink_k2
  refine sm_lp (fun K2 h2 => ?_) N
  unfold fX2_findLink_b2
  refine sm_iload_n (pc := 2) G hb (by decide +kernel : decode cX2_findLink 2 = .ok (.iload_n 3, 1)) rfl ?_
  refine sm_aload_n (pc := 3) G hb (by decide +kernel : decode cX2_findLink 3 = .ok (.aload_n 0, 1)) rfl ?_
  refine sm_get (pc := 4) (ci := 2) (j := 1) (N := 11) (T := TX2) G hb ho hy rfl (by decide) gin_2 gw1_50 (by decide +kernel : decode cX2_findLink 4 = .ok (.getfield 40, 3)) ?_
  refine sm_icmp_ge (pc := 7) (tgt := 38) G hb (by decide +kernel : decode cX2_findLink 7 = .ok (.if_icmp .ge 31, 3)) (by decide) ?_ ?_
  · skip
    refine sm_iconst (pc := 38) G hb (by decide +kernel : decode cX2_findLink 38 = .ok (.iconst (-1), 1)) (by decide) ?_
    exact sm_iret (pc := 39) G hb (by decide +kernel : decode cX2_findLink 39 = .ok (.ireturn, 1)) hr
  · skip
    refine sm_aload_n (pc := 10) G hb (by decide +kernel : decode cX2_findLink 10 = .ok (.aload_n 0, 1)) rfl ?_
    refine sm_get (pc := 11) (ci := 2) (j := 3) (N := 11) (T := TX2) G hb ho hy rfl (by decide) gin_2 gw1_60 (by decide +kernel : decode cX2_findLink 11 = .ok (.getfield 9, 3)) ?_
    refine sm_iload_n (pc := 14) G hb (by decide +kernel : decode cX2_findLink 14 = .ok (.iload_n 3, 1)) rfl ?_
    refine sm_iald (pc := 15) G hb hy (by decide +kernel : decode cX2_findLink 15 = .ok (.iaload, 1)) ?_
    refine sm_iload_n (pc := 16) G hb (by decide +kernel : decode cX2_findLink 16 = .ok (.iload_n 1, 1)) rfl ?_
    refine sm_icmp_ne (pc := 17) (tgt := 32) G hb (by decide +kernel : decode cX2_findLink 17 = .ok (.if_icmp .ne 15, 3)) (by decide) ?_ ?_
    · skip
      refine sm_mask ?_
      exact fX2_findLink_s32 N G hb ho hy hR he hr hE K2 h2
    · skip
      refine sm_aload_n (pc := 20) G hb (by decide +kernel : decode cX2_findLink 20 = .ok (.aload_n 0, 1)) rfl ?_
      refine sm_get (pc := 21) (ci := 2) (j := 4) (N := 11) (T := TX2) G hb ho hy rfl (by decide) gin_2 gw1_65 (by decide +kernel : decode cX2_findLink 21 = .ok (.getfield 15, 3)) ?_
      refine sm_iload_n (pc := 24) G hb (by decide +kernel : decode cX2_findLink 24 = .ok (.iload_n 3, 1)) rfl ?_
      refine sm_iald (pc := 25) G hb hy (by decide +kernel : decode cX2_findLink 25 = .ok (.iaload, 1)) ?_
      refine sm_iload_n (pc := 26) G hb (by decide +kernel : decode cX2_findLink 26 = .ok (.iload_n 2, 1)) rfl ?_
      refine sm_icmp_ne (pc := 27) (tgt := 32) G hb (by decide +kernel : decode cX2_findLink 27 = .ok (.if_icmp .ne 5, 3)) (by decide) ?_ ?_
      · skip
        refine sm_mask ?_
        exact fX2_findLink_s32 N G hb ho hy hR he hr hE K2 h2
      · skip
        refine sm_iload_n (pc := 30) G hb (by decide +kernel : decode cX2_findLink 30 = .ok (.iload_n 3, 1)) rfl ?_
        exact sm_iret (pc := 31) G hb (by decide +kernel : decode cX2_findLink 31 = .ok (.ireturn, 1)) hr
set_option maxRecDepth 100000 in
set_option maxHeartbeats 4000000 in
theorem fX2_findLink_s0 {γ : gG} {cs ss : Nat} {ε : gE5} (N : Nat) (G : gOK γ) (hb : gcc γ = cX2_findLink) (ho : gow γ = RX2) (hy : gly γ = gyNet) (hR : grm γ = { frames := 0, cells := 0, slots := 0, locals := 0 }) (he : genv γ = ε) (hr : grt γ = (some .int)) (hE : gEnv ε) : gSm γ cs ss 0 (fX2_findLink_k0 N) := by
  unfold fX2_findLink_k0
  refine sm_iconst (pc := 0) G hb (by decide +kernel : decode cX2_findLink 0 = .ok (.iconst 0, 1)) (by decide) ?_
  refine sm_istore_n (pc := 1) G hb (by decide +kernel : decode cX2_findLink 1 = .ok (.istore_n 3, 1)) rfl ?_
  refine sm_mask ?_
  exact fX2_findLink_s2 N G hb ho hy hR he hr hE
theorem kX2_findLink {ε : gE5} (hE : gEnv ε) (N : Nat) : gCtr ε yX2_findLink cX2_findLink 4 (some .int) 0 0 gyNet (fX2_findLink N) :=
  gCtr_of hE.1 (by decide) (fun γ G hb ho hy hR he hr => fX2_findLink_s0 N G hb ho hy hR he hr hE)

set_option maxRecDepth 100000 in
set_option maxHeartbeats 4000000 in
theorem fX2_shortenDistances_s81 {γ : gG} {cs ss : Nat} {ε : gE5} (N : Nat) (G : gOK γ) (hb : gcc γ = cX2_shortenDistances) (ho : gow γ = RX2) (hy : gly γ = gyNet) (hR : grm γ = { frames := 1, cells := 0, slots := 0, locals := 21 }) (he : genv γ = ε) (hr : grt γ = none) (hE : gEnv ε) (K2 : gK) (h2 : gSm γ cs ss 2 K2) (K25 : gK) (h25 : gSm γ cs ss 25 K25) : gSm γ cs ss 81 (fX2_shortenDistances_k81 N K2 K25) := by
  unfold fX2_shortenDistances_k81
  refine sm_iinc (pc := 81) G hb (by decide +kernel : decode cX2_shortenDistances 81 = .ok (.iinc 5 1, 3)) (by decide) ?_
  refine sm_goto (pc := 84) (tgt := 25) G hb (by decide +kernel : decode cX2_shortenDistances 84 = .ok (.goto (-59), 3)) (by decide) ?_
  refine sm_mask ?_
  exact h25
set_option maxRecDepth 100000 in
set_option maxHeartbeats 4000000 in
theorem fX2_shortenDistances_s78 {γ : gG} {cs ss : Nat} {ε : gE5} (N : Nat) (G : gOK γ) (hb : gcc γ = cX2_shortenDistances) (ho : gow γ = RX2) (hy : gly γ = gyNet) (hR : grm γ = { frames := 1, cells := 0, slots := 0, locals := 21 }) (he : genv γ = ε) (hr : grt γ = none) (hE : gEnv ε) (K2 : gK) (h2 : gSm γ cs ss 2 K2) (K25 : gK) (h25 : gSm γ cs ss 25 K25) : gSm γ cs ss 78 (fX2_shortenDistances_k78 N K2 K25) := by
  unfold fX2_shortenDistances_k78
  refine sm_iload (pc := 78) G hb (by decide +kernel : decode cX2_shortenDistances 78 = .ok (.iload 6, 2)) ?_
  refine sm_iast (pc := 80) G hb hy (by decide +kernel : decode cX2_shortenDistances 80 = .ok (.iastore, 1)) ?_
  refine sm_mask ?_
  exact fX2_shortenDistances_s81 N G hb ho hy hR he hr hE K2 h2 K25 h25
set_option maxRecDepth 100000 in
set_option maxHeartbeats 4000000 in
theorem fX2_shortenDistances_s25 {γ : gG} {cs ss : Nat} {ε : gE5} (N : Nat) (G : gOK γ) (hb : gcc γ = cX2_shortenDistances) (ho : gow γ = RX2) (hy : gly γ = gyNet) (hR : grm γ = { frames := 1, cells := 0, slots := 0, locals := 21 }) (he : genv γ = ε) (hr : grt γ = none) (hE : gEnv ε) (K2 : gK) (h2 : gSm γ cs ss 2 K2) : gSm γ cs ss 25 (fX2_shortenDistances_k25 N K2) := by
  unfold fX2_shortenDistances_k25
  refine sm_lp (fun K25 h25 => ?_) N
  unfold fX2_shortenDistances_b25
  refine sm_iload (pc := 25) G hb (by decide +kernel : decode cX2_shortenDistances 25 = .ok (.iload 5, 2)) ?_
  refine sm_aload_n (pc := 27) G hb (by decide +kernel : decode cX2_shortenDistances 27 = .ok (.aload_n 0, 1)) rfl ?_
  refine sm_get (pc := 28) (ci := 2) (j := 0) (N := 11) (T := TX2) G hb ho hy rfl (by decide) gin_2 gw1_45 (by decide +kernel : decode cX2_shortenDistances 28 = .ok (.getfield 36, 3)) ?_
  refine sm_icmp_ge (pc := 31) (tgt := 87) G hb (by decide +kernel : decode cX2_shortenDistances 31 = .ok (.if_icmp .ge 56, 3)) (by decide) ?_ ?_
  · skip
    refine sm_iinc (pc := 87) G hb (by decide +kernel : decode cX2_shortenDistances 87 = .ok (.iinc 3 1, 3)) (by decide) ?_
    refine sm_goto (pc := 90) (tgt := 2) G hb (by decide +kernel : decode cX2_shortenDistances 90 = .ok (.goto (-88), 3)) (by decide) ?_
    refine sm_mask ?_
    exact h2
  · skip
    refine sm_iload (pc := 34) G hb (by decide +kernel : decode cX2_shortenDistances 34 = .ok (.iload 4, 2)) ?_
    refine sm_iconst (pc := 36) G hb (by decide +kernel : decode cX2_shortenDistances 36 = .ok (.iconst 1, 1)) (by decide) ?_
    refine sm_iadd (pc := 37) G hb (by decide +kernel : decode cX2_shortenDistances 37 = .ok (.iadd, 1)) ?_
    refine sm_aload_n (pc := 38) G hb (by decide +kernel : decode cX2_shortenDistances 38 = .ok (.aload_n 0, 1)) rfl ?_
    refine sm_get (pc := 39) (ci := 2) (j := 10) (N := 11) (T := TX2) G hb ho hy rfl (by decide) gin_2 gw1_87 (by decide +kernel : decode cX2_shortenDistances 39 = .ok (.getfield 33, 3)) ?_
    refine sm_iload_n (pc := 42) G hb (by decide +kernel : decode cX2_shortenDistances 42 = .ok (.iload_n 2, 1)) rfl ?_
    refine sm_iload (pc := 43) G hb (by decide +kernel : decode cX2_shortenDistances 43 = .ok (.iload 5, 2)) ?_
    refine sm_mono (ca_sub gI_sub) (sm_callSN (pc := 45) G hb ho hy he hE.1 2 [] (kX8_pair hE N) (gCo_of (by decide +kernel)) (by rw [hR]; exact ⟨by decide, by decide⟩) (by decide +kernel) gw2_81 gw2_82 gw1_1 gw2_83 (by decide +kernel : decode cX2_shortenDistances 45 = .ok (.invokestatic 52, 3)) ?_)
    refine sm_iald (pc := 48) G hb hy (by decide +kernel : decode cX2_shortenDistances 48 = .ok (.iaload, 1)) ?_
    refine sm_iadd (pc := 49) G hb (by decide +kernel : decode cX2_shortenDistances 49 = .ok (.iadd, 1)) ?_
    refine sm_istore (pc := 50) G hb (by decide +kernel : decode cX2_shortenDistances 50 = .ok (.istore 6, 2)) ?_
    refine sm_iload (pc := 52) G hb (by decide +kernel : decode cX2_shortenDistances 52 = .ok (.iload 6, 2)) ?_
    refine sm_aload_n (pc := 54) G hb (by decide +kernel : decode cX2_shortenDistances 54 = .ok (.aload_n 0, 1)) rfl ?_
    refine sm_get (pc := 55) (ci := 2) (j := 10) (N := 11) (T := TX2) G hb ho hy rfl (by decide) gin_2 gw1_87 (by decide +kernel : decode cX2_shortenDistances 55 = .ok (.getfield 33, 3)) ?_
    refine sm_iload_n (pc := 58) G hb (by decide +kernel : decode cX2_shortenDistances 58 = .ok (.iload_n 3, 1)) rfl ?_
    refine sm_iload (pc := 59) G hb (by decide +kernel : decode cX2_shortenDistances 59 = .ok (.iload 5, 2)) ?_
    refine sm_mono (ca_sub gI_sub) (sm_callSN (pc := 61) G hb ho hy he hE.1 2 [] (kX8_pair hE N) (gCo_of (by decide +kernel)) (by rw [hR]; exact ⟨by decide, by decide⟩) (by decide +kernel) gw2_81 gw2_82 gw1_1 gw2_83 (by decide +kernel : decode cX2_shortenDistances 61 = .ok (.invokestatic 52, 3)) ?_)
    refine sm_iald (pc := 64) G hb hy (by decide +kernel : decode cX2_shortenDistances 64 = .ok (.iaload, 1)) ?_
    refine sm_icmp_ge (pc := 65) (tgt := 81) G hb (by decide +kernel : decode cX2_shortenDistances 65 = .ok (.if_icmp .ge 16, 3)) (by decide) ?_ ?_
    · skip
      refine sm_mask ?_
      exact fX2_shortenDistances_s81 N G hb ho hy hR he hr hE K2 h2 K25 h25
    · skip
      refine sm_aload_n (pc := 68) G hb (by decide +kernel : decode cX2_shortenDistances 68 = .ok (.aload_n 0, 1)) rfl ?_
      refine sm_get (pc := 69) (ci := 2) (j := 10) (N := 11) (T := TX2) G hb ho hy rfl (by decide) gin_2 gw1_87 (by decide +kernel : decode cX2_shortenDistances 69 = .ok (.getfield 33, 3)) ?_
      refine sm_iload_n (pc := 72) G hb (by decide +kernel : decode cX2_shortenDistances 72 = .ok (.iload_n 3, 1)) rfl ?_
      refine sm_iload (pc := 73) G hb (by decide +kernel : decode cX2_shortenDistances 73 = .ok (.iload 5, 2)) ?_
      refine sm_mono (ca_sub gI_sub) (sm_callSN (pc := 75) G hb ho hy he hE.1 2 [] (kX8_pair hE N) (gCo_of (by decide +kernel)) (by rw [hR]; exact ⟨by decide, by decide⟩) (by decide +kernel) gw2_81 gw2_82 gw1_1 gw2_83 (by decide +kernel : decode cX2_shortenDistances 75 = .ok (.invokestatic 52, 3)) ?_)
      refine sm_mask ?_
      exact fX2_shortenDistances_s78 N G hb ho hy hR he hr hE K2 h2 K25 h25
set_option maxRecDepth 100000 in
set_option maxHeartbeats 4000000 in
theorem fX2_shortenDistances_s2 {γ : gG} {cs ss : Nat} {ε : gE5} (N : Nat) (G : gOK γ) (hb : gcc γ = cX2_shortenDistances) (ho : gow γ = RX2) (hy : gly γ = gyNet) (hR : grm γ = { frames := 1, cells := 0, slots := 0, locals := 21 }) (he : genv γ = ε) (hr : grt γ = none) (hE : gEnv ε) : gSm γ cs ss 2 (fX2_shortenDistances_k2 N) := by
  unfold fX2_shortenDistances_k2
  refine sm_lp (fun K2 h2 => ?_) N
  unfold fX2_shortenDistances_b2
  refine sm_iload_n (pc := 2) G hb (by decide +kernel : decode cX2_shortenDistances 2 = .ok (.iload_n 3, 1)) rfl ?_
  refine sm_aload_n (pc := 3) G hb (by decide +kernel : decode cX2_shortenDistances 3 = .ok (.aload_n 0, 1)) rfl ?_
  refine sm_get (pc := 4) (ci := 2) (j := 0) (N := 11) (T := TX2) G hb ho hy rfl (by decide) gin_2 gw1_45 (by decide +kernel : decode cX2_shortenDistances 4 = .ok (.getfield 36, 3)) ?_
  refine sm_icmp_ge (pc := 7) (tgt := 93) G hb (by decide +kernel : decode cX2_shortenDistances 7 = .ok (.if_icmp .ge 86, 3)) (by decide) ?_ ?_
  · skip
    exact sm_vret (pc := 93) G hb (by decide +kernel : decode cX2_shortenDistances 93 = .ok (.return_, 1)) hr
  · skip
    refine sm_aload_n (pc := 10) G hb (by decide +kernel : decode cX2_shortenDistances 10 = .ok (.aload_n 0, 1)) rfl ?_
    refine sm_get (pc := 11) (ci := 2) (j := 10) (N := 11) (T := TX2) G hb ho hy rfl (by decide) gin_2 gw1_87 (by decide +kernel : decode cX2_shortenDistances 11 = .ok (.getfield 33, 3)) ?_
    refine sm_iload_n (pc := 14) G hb (by decide +kernel : decode cX2_shortenDistances 14 = .ok (.iload_n 3, 1)) rfl ?_
    refine sm_iload_n (pc := 15) G hb (by decide +kernel : decode cX2_shortenDistances 15 = .ok (.iload_n 1, 1)) rfl ?_
    refine sm_mono (ca_sub gI_sub) (sm_callSN (pc := 16) G hb ho hy he hE.1 2 [] (kX8_pair hE N) (gCo_of (by decide +kernel)) (by rw [hR]; exact ⟨by decide, by decide⟩) (by decide +kernel) gw2_81 gw2_82 gw1_1 gw2_83 (by decide +kernel : decode cX2_shortenDistances 16 = .ok (.invokestatic 52, 3)) ?_)
    refine sm_iald (pc := 19) G hb hy (by decide +kernel : decode cX2_shortenDistances 19 = .ok (.iaload, 1)) ?_
    refine sm_istore (pc := 20) G hb (by decide +kernel : decode cX2_shortenDistances 20 = .ok (.istore 4, 2)) ?_
    refine sm_iconst (pc := 22) G hb (by decide +kernel : decode cX2_shortenDistances 22 = .ok (.iconst 0, 1)) (by decide) ?_
    refine sm_istore (pc := 23) G hb (by decide +kernel : decode cX2_shortenDistances 23 = .ok (.istore 5, 2)) ?_
    refine sm_mask ?_
    exact fX2_shortenDistances_s25 N G hb ho hy hR he hr hE K2 h2
set_option maxRecDepth 100000 in
set_option maxHeartbeats 4000000 in
theorem fX2_shortenDistances_s0 {γ : gG} {cs ss : Nat} {ε : gE5} (N : Nat) (G : gOK γ) (hb : gcc γ = cX2_shortenDistances) (ho : gow γ = RX2) (hy : gly γ = gyNet) (hR : grm γ = { frames := 1, cells := 0, slots := 0, locals := 21 }) (he : genv γ = ε) (hr : grt γ = none) (hE : gEnv ε) : gSm γ cs ss 0 (fX2_shortenDistances_k0 N) := by
  unfold fX2_shortenDistances_k0
  refine sm_iconst (pc := 0) G hb (by decide +kernel : decode cX2_shortenDistances 0 = .ok (.iconst 0, 1)) (by decide) ?_
  refine sm_istore_n (pc := 1) G hb (by decide +kernel : decode cX2_shortenDistances 1 = .ok (.istore_n 3, 1)) rfl ?_
  refine sm_mask ?_
  exact fX2_shortenDistances_s2 N G hb ho hy hR he hr hE
theorem kX2_shortenDistances {ε : gE5} (hE : gEnv ε) (N : Nat) : gCtr ε yX2_shortenDistances cX2_shortenDistances 7 none 1 21 gyNet (fX2_shortenDistances N) :=
  gCtr_of hE.1 (by decide) (fun γ G hb ho hy hR he hr => fX2_shortenDistances_s0 N G hb ho hy hR he hr hE)

set_option maxRecDepth 100000 in
set_option maxHeartbeats 4000000 in
theorem fX2_putLink_s0 {γ : gG} {cs ss : Nat} {ε : gE5} (N : Nat) (G : gOK γ) (hb : gcc γ = cX2_putLink) (ho : gow γ = RX2) (hy : gly γ = gyNet) (hR : grm γ = { frames := 2, cells := 0, slots := 0, locals := 47 }) (he : genv γ = ε) (hr : grt γ = none) (hE : gEnv ε) : gSm γ cs ss 0 (fX2_putLink_k0 N) := by
  unfold fX2_putLink_k0
  refine sm_aload_n (pc := 0) G hb (by decide +kernel : decode cX2_putLink 0 = .ok (.aload_n 0, 1)) rfl ?_
  refine sm_get (pc := 1) (ci := 2) (j := 1) (N := 11) (T := TX2) G hb ho hy rfl (by decide) gin_2 gw1_50 (by decide +kernel : decode cX2_putLink 1 = .ok (.getfield 40, 3)) ?_
  refine sm_bipush (pc := 4) G hb (by decide +kernel : decode cX2_putLink 4 = .ok (.bipush 14, 2)) (by decide) ?_
  refine sm_icmp_lt (pc := 6) (tgt := 10) G hb (by decide +kernel : decode cX2_putLink 6 = .ok (.if_icmp .lt 4, 3)) (by decide) ?_ ?_
  · skip
    refine sm_aload_n (pc := 10) G hb (by decide +kernel : decode cX2_putLink 10 = .ok (.aload_n 0, 1)) rfl ?_
    refine sm_get (pc := 11) (ci := 2) (j := 3) (N := 11) (T := TX2) G hb ho hy rfl (by decide) gin_2 gw1_60 (by decide +kernel : decode cX2_putLink 11 = .ok (.getfield 9, 3)) ?_
    refine sm_aload_n (pc := 14) G hb (by decide +kernel : decode cX2_putLink 14 = .ok (.aload_n 0, 1)) rfl ?_
    refine sm_get (pc := 15) (ci := 2) (j := 1) (N := 11) (T := TX2) G hb ho hy rfl (by decide) gin_2 gw1_50 (by decide +kernel : decode cX2_putLink 15 = .ok (.getfield 40, 3)) ?_
    refine sm_iload_n (pc := 18) G hb (by decide +kernel : decode cX2_putLink 18 = .ok (.iload_n 1, 1)) rfl ?_
    refine sm_iast (pc := 19) G hb hy (by decide +kernel : decode cX2_putLink 19 = .ok (.iastore, 1)) ?_
    refine sm_aload_n (pc := 20) G hb (by decide +kernel : decode cX2_putLink 20 = .ok (.aload_n 0, 1)) rfl ?_
    refine sm_get (pc := 21) (ci := 2) (j := 4) (N := 11) (T := TX2) G hb ho hy rfl (by decide) gin_2 gw1_65 (by decide +kernel : decode cX2_putLink 21 = .ok (.getfield 15, 3)) ?_
    refine sm_aload_n (pc := 24) G hb (by decide +kernel : decode cX2_putLink 24 = .ok (.aload_n 0, 1)) rfl ?_
    refine sm_get (pc := 25) (ci := 2) (j := 1) (N := 11) (T := TX2) G hb ho hy rfl (by decide) gin_2 gw1_50 (by decide +kernel : decode cX2_putLink 25 = .ok (.getfield 40, 3)) ?_
    refine sm_iload_n (pc := 28) G hb (by decide +kernel : decode cX2_putLink 28 = .ok (.iload_n 2, 1)) rfl ?_
    refine sm_iast (pc := 29) G hb hy (by decide +kernel : decode cX2_putLink 29 = .ok (.iastore, 1)) ?_
    refine sm_aload_n (pc := 30) G hb (by decide +kernel : decode cX2_putLink 30 = .ok (.aload_n 0, 1)) rfl ?_
    refine sm_get (pc := 31) (ci := 2) (j := 5) (N := 11) (T := TX2) G hb ho hy rfl (by decide) gin_2 gw1_70 (by decide +kernel : decode cX2_putLink 31 = .ok (.getfield 18, 3)) ?_
    refine sm_aload_n (pc := 34) G hb (by decide +kernel : decode cX2_putLink 34 = .ok (.aload_n 0, 1)) rfl ?_
    refine sm_get (pc := 35) (ci := 2) (j := 1) (N := 11) (T := TX2) G hb ho hy rfl (by decide) gin_2 gw1_50 (by decide +kernel : decode cX2_putLink 35 = .ok (.getfield 40, 3)) ?_
    refine sm_iload_n (pc := 38) G hb (by decide +kernel : decode cX2_putLink 38 = .ok (.iload_n 3, 1)) rfl ?_
    refine sm_iast (pc := 39) G hb hy (by decide +kernel : decode cX2_putLink 39 = .ok (.iastore, 1)) ?_
    refine sm_aload_n (pc := 40) G hb (by decide +kernel : decode cX2_putLink 40 = .ok (.aload_n 0, 1)) rfl ?_
    refine sm_get (pc := 41) (ci := 2) (j := 6) (N := 11) (T := TX2) G hb ho hy rfl (by decide) gin_2 gw1_75 (by decide +kernel : decode cX2_putLink 41 = .ok (.getfield 21, 3)) ?_
    refine sm_aload_n (pc := 44) G hb (by decide +kernel : decode cX2_putLink 44 = .ok (.aload_n 0, 1)) rfl ?_
    refine sm_get (pc := 45) (ci := 2) (j := 1) (N := 11) (T := TX2) G hb ho hy rfl (by decide) gin_2 gw1_50 (by decide +kernel : decode cX2_putLink 45 = .ok (.getfield 40, 3)) ?_
    refine sm_iconst (pc := 48) G hb (by decide +kernel : decode cX2_putLink 48 = .ok (.iconst 0, 1)) (by decide) ?_
    refine sm_iast (pc := 49) G hb hy (by decide +kernel : decode cX2_putLink 49 = .ok (.iastore, 1)) ?_
    refine sm_aload_n (pc := 50) G hb (by decide +kernel : decode cX2_putLink 50 = .ok (.aload_n 0, 1)) rfl ?_
    refine sm_get (pc := 51) (ci := 2) (j := 7) (N := 11) (T := TX2) G hb ho hy rfl (by decide) gin_2 gw1_78 (by decide +kernel : decode cX2_putLink 51 = .ok (.getfield 24, 3)) ?_
    refine sm_aload_n (pc := 54) G hb (by decide +kernel : decode cX2_putLink 54 = .ok (.aload_n 0, 1)) rfl ?_
    refine sm_get (pc := 55) (ci := 2) (j := 1) (N := 11) (T := TX2) G hb ho hy rfl (by decide) gin_2 gw1_50 (by decide +kernel : decode cX2_putLink 55 = .ok (.getfield 40, 3)) ?_
    refine sm_iconst (pc := 58) G hb (by decide +kernel : decode cX2_putLink 58 = .ok (.iconst 0, 1)) (by decide) ?_
    refine sm_iast (pc := 59) G hb hy (by decide +kernel : decode cX2_putLink 59 = .ok (.iastore, 1)) ?_
    refine sm_aload_n (pc := 60) G hb (by decide +kernel : decode cX2_putLink 60 = .ok (.aload_n 0, 1)) rfl ?_
    refine sm_dup (pc := 61) G hb (by decide +kernel : decode cX2_putLink 61 = .ok (.dup, 1)) ?_
    refine sm_get (pc := 62) (ci := 2) (j := 1) (N := 11) (T := TX2) G hb ho hy rfl (by decide) gin_2 gw1_50 (by decide +kernel : decode cX2_putLink 62 = .ok (.getfield 40, 3)) ?_
    refine sm_iconst (pc := 65) G hb (by decide +kernel : decode cX2_putLink 65 = .ok (.iconst 1, 1)) (by decide) ?_
    refine sm_iadd (pc := 66) G hb (by decide +kernel : decode cX2_putLink 66 = .ok (.iadd, 1)) ?_
    refine sm_put (pc := 67) (ci := 2) (j := 1) (N := 11) (T := TX2) G hb ho hy tyX2 tyX2_ok nmX2 rfl (by decide) gin_2 gw1_50 rfl rfl (by decide +kernel : decode cX2_putLink 67 = .ok (.putfield 40, 3)) ?_
    refine sm_aload_n (pc := 70) G hb (by decide +kernel : decode cX2_putLink 70 = .ok (.aload_n 0, 1)) rfl ?_
    refine sm_iload_n (pc := 71) G hb (by decide +kernel : decode cX2_putLink 71 = .ok (.iload_n 1, 1)) rfl ?_
    refine sm_iload_n (pc := 72) G hb (by decide +kernel : decode cX2_putLink 72 = .ok (.iload_n 2, 1)) rfl ?_
    refine sm_mono (cav_sub gV_sub) (sm_callV (pc := 73) (N := 11) (T := TX2) (C := RX2) G hb ho hy he hE.1 3 [0, 1, 2, 3, 4, 5, 6, 7, 8] (kX2_shortenDistances hE N) (gCo_of (by decide +kernel)) (by rw [hR]; exact ⟨by decide, by decide⟩) rfl rfl (by decide +kernel) gw2_88 gw2_90 gw0_0 gw1_3 gw2_91 (by decide +kernel : decode cX2_putLink 73 = .ok (.invokevirtual 60, 3)) ?_)
    exact sm_vret (pc := 76) G hb (by decide +kernel : decode cX2_putLink 76 = .ok (.return_, 1)) hr
  · skip
    exact sm_vret (pc := 9) G hb (by decide +kernel : decode cX2_putLink 9 = .ok (.return_, 1)) hr
theorem kX2_putLink {ε : gE5} (hE : gEnv ε) (N : Nat) : gCtr ε yX2_putLink cX2_putLink 4 none 2 47 gyNet (fX2_putLink N) :=
  gCtr_of hE.1 (by decide) (fun γ G hb ho hy hR he hr => fX2_putLink_s0 N G hb ho hy hR he hr hE)

set_option maxRecDepth 100000 in
set_option maxHeartbeats 4000000 in
theorem fX2_inConflict_s0 {γ : gG} {cs ss : Nat} {ε : gE5} (N : Nat) (G : gOK γ) (hb : gcc γ = cX2_inConflict) (ho : gow γ = RX2) (hy : gly γ = gyNet) (hR : grm γ = { frames := 0, cells := 0, slots := 0, locals := 0 }) (he : genv γ = ε) (hr : grt γ = (some .boolean)) (hE : gEnv ε) : gSm γ cs ss 0 (fX2_inConflict_k0 N) := by
  unfold fX2_inConflict_k0
  refine sm_aload_n (pc := 0) G hb (by decide +kernel : decode cX2_inConflict 0 = .ok (.aload_n 0, 1)) rfl ?_
  refine sm_get (pc := 1) (ci := 2) (j := 7) (N := 11) (T := TX2) G hb ho hy rfl (by decide) gin_2 gw1_78 (by decide +kernel : decode cX2_inConflict 1 = .ok (.getfield 24, 3)) ?_
  refine sm_iload_n (pc := 4) G hb (by decide +kernel : decode cX2_inConflict 4 = .ok (.iload_n 1, 1)) rfl ?_
  refine sm_iald (pc := 5) G hb hy (by decide +kernel : decode cX2_inConflict 5 = .ok (.iaload, 1)) ?_
  refine sm_iload_n (pc := 6) G hb (by decide +kernel : decode cX2_inConflict 6 = .ok (.iload_n 2, 1)) rfl ?_
  refine sm_ishr (pc := 7) G hb (by decide +kernel : decode cX2_inConflict 7 = .ok (.ishr, 1)) ?_
  refine sm_iconst (pc := 8) G hb (by decide +kernel : decode cX2_inConflict 8 = .ok (.iconst 1, 1)) (by decide) ?_
  refine sm_iand (pc := 9) G hb (by decide +kernel : decode cX2_inConflict 9 = .ok (.iand, 1)) ?_
  refine sm_iconst (pc := 10) G hb (by decide +kernel : decode cX2_inConflict 10 = .ok (.iconst 1, 1)) (by decide) ?_
  refine sm_icmp_ne (pc := 11) (tgt := 18) G hb (by decide +kernel : decode cX2_inConflict 11 = .ok (.if_icmp .ne 7, 3)) (by decide) ?_ ?_
  · skip
    refine sm_iconst (pc := 18) G hb (by decide +kernel : decode cX2_inConflict 18 = .ok (.iconst 0, 1)) (by decide) ?_
    exact sm_zret (pc := 19) G hb (by decide +kernel : decode cX2_inConflict 19 = .ok (.ireturn, 1)) hr
  · skip
    refine sm_iconst (pc := 14) G hb (by decide +kernel : decode cX2_inConflict 14 = .ok (.iconst 1, 1)) (by decide) ?_
    refine sm_goto (pc := 15) (tgt := 19) G hb (by decide +kernel : decode cX2_inConflict 15 = .ok (.goto 4, 3)) (by decide) ?_
    exact sm_zret (pc := 19) G hb (by decide +kernel : decode cX2_inConflict 19 = .ok (.ireturn, 1)) hr
theorem kX2_inConflict {ε : gE5} (hE : gEnv ε) (N : Nat) : gCtr ε yX2_inConflict cX2_inConflict 3 (some .boolean) 0 0 gyNet (fX2_inConflict N) :=
  gCtr_of hE.1 (by decide) (fun γ G hb ho hy hR he hr => fX2_inConflict_s0 N G hb ho hy hR he hr hE)

set_option maxRecDepth 100000 in
set_option maxHeartbeats 4000000 in
theorem fX2_putConflict_s0 {γ : gG} {cs ss : Nat} {ε : gE5} (N : Nat) (G : gOK γ) (hb : gcc γ = cX2_putConflict) (ho : gow γ = RX2) (hy : gly γ = gyNet) (hR : grm γ = { frames := 0, cells := 0, slots := 0, locals := 0 }) (he : genv γ = ε) (hr : grt γ = none) (hE : gEnv ε) : gSm γ cs ss 0 (fX2_putConflict_k0 N) := by
  unfold fX2_putConflict_k0
  refine sm_iload_n (pc := 0) G hb (by decide +kernel : decode cX2_putConflict 0 = .ok (.iload_n 3, 1)) rfl ?_
  refine sm_if_eq (pc := 1) (tgt := 31) G hb (by decide +kernel : decode cX2_putConflict 1 = .ok (.ifCond .eq 30, 3)) (by decide) ?_ ?_
  · skip
    refine sm_aload_n (pc := 31) G hb (by decide +kernel : decode cX2_putConflict 31 = .ok (.aload_n 0, 1)) rfl ?_
    refine sm_get (pc := 32) (ci := 2) (j := 7) (N := 11) (T := TX2) G hb ho hy rfl (by decide) gin_2 gw1_78 (by decide +kernel : decode cX2_putConflict 32 = .ok (.getfield 24, 3)) ?_
    refine sm_iload_n (pc := 35) G hb (by decide +kernel : decode cX2_putConflict 35 = .ok (.iload_n 1, 1)) rfl ?_
    refine sm_dup2 (pc := 36) G hb (by decide +kernel : decode cX2_putConflict 36 = .ok (.dup2, 1)) ?_
    refine sm_iald (pc := 37) G hb hy (by decide +kernel : decode cX2_putConflict 37 = .ok (.iaload, 1)) ?_
    refine sm_iconst (pc := 38) G hb (by decide +kernel : decode cX2_putConflict 38 = .ok (.iconst 1, 1)) (by decide) ?_
    refine sm_iload_n (pc := 39) G hb (by decide +kernel : decode cX2_putConflict 39 = .ok (.iload_n 2, 1)) rfl ?_
    refine sm_ishl (pc := 40) G hb (by decide +kernel : decode cX2_putConflict 40 = .ok (.ishl, 1)) ?_
    refine sm_iconst (pc := 41) G hb (by decide +kernel : decode cX2_putConflict 41 = .ok (.iconst (-1), 1)) (by decide) ?_
    refine sm_ixor (pc := 42) G hb (by decide +kernel : decode cX2_putConflict 42 = .ok (.ixor, 1)) ?_
    refine sm_iand (pc := 43) G hb (by decide +kernel : decode cX2_putConflict 43 = .ok (.iand, 1)) ?_
    refine sm_iast (pc := 44) G hb hy (by decide +kernel : decode cX2_putConflict 44 = .ok (.iastore, 1)) ?_
    refine sm_aload_n (pc := 45) G hb (by decide +kernel : decode cX2_putConflict 45 = .ok (.aload_n 0, 1)) rfl ?_
    refine sm_get (pc := 46) (ci := 2) (j := 7) (N := 11) (T := TX2) G hb ho hy rfl (by decide) gin_2 gw1_78 (by decide +kernel : decode cX2_putConflict 46 = .ok (.getfield 24, 3)) ?_
    refine sm_iload_n (pc := 49) G hb (by decide +kernel : decode cX2_putConflict 49 = .ok (.iload_n 2, 1)) rfl ?_
    refine sm_dup2 (pc := 50) G hb (by decide +kernel : decode cX2_putConflict 50 = .ok (.dup2, 1)) ?_
    refine sm_iald (pc := 51) G hb hy (by decide +kernel : decode cX2_putConflict 51 = .ok (.iaload, 1)) ?_
    refine sm_iconst (pc := 52) G hb (by decide +kernel : decode cX2_putConflict 52 = .ok (.iconst 1, 1)) (by decide) ?_
    refine sm_iload_n (pc := 53) G hb (by decide +kernel : decode cX2_putConflict 53 = .ok (.iload_n 1, 1)) rfl ?_
    refine sm_ishl (pc := 54) G hb (by decide +kernel : decode cX2_putConflict 54 = .ok (.ishl, 1)) ?_
    refine sm_iconst (pc := 55) G hb (by decide +kernel : decode cX2_putConflict 55 = .ok (.iconst (-1), 1)) (by decide) ?_
    refine sm_ixor (pc := 56) G hb (by decide +kernel : decode cX2_putConflict 56 = .ok (.ixor, 1)) ?_
    refine sm_iand (pc := 57) G hb (by decide +kernel : decode cX2_putConflict 57 = .ok (.iand, 1)) ?_
    refine sm_iast (pc := 58) G hb hy (by decide +kernel : decode cX2_putConflict 58 = .ok (.iastore, 1)) ?_
    exact sm_vret (pc := 59) G hb (by decide +kernel : decode cX2_putConflict 59 = .ok (.return_, 1)) hr
  · skip
    refine sm_aload_n (pc := 4) G hb (by decide +kernel : decode cX2_putConflict 4 = .ok (.aload_n 0, 1)) rfl ?_
    refine sm_get (pc := 5) (ci := 2) (j := 7) (N := 11) (T := TX2) G hb ho hy rfl (by decide) gin_2 gw1_78 (by decide +kernel : decode cX2_putConflict 5 = .ok (.getfield 24, 3)) ?_
    refine sm_iload_n (pc := 8) G hb (by decide +kernel : decode cX2_putConflict 8 = .ok (.iload_n 1, 1)) rfl ?_
    refine sm_dup2 (pc := 9) G hb (by decide +kernel : decode cX2_putConflict 9 = .ok (.dup2, 1)) ?_
    refine sm_iald (pc := 10) G hb hy (by decide +kernel : decode cX2_putConflict 10 = .ok (.iaload, 1)) ?_
    refine sm_iconst (pc := 11) G hb (by decide +kernel : decode cX2_putConflict 11 = .ok (.iconst 1, 1)) (by decide) ?_
    refine sm_iload_n (pc := 12) G hb (by decide +kernel : decode cX2_putConflict 12 = .ok (.iload_n 2, 1)) rfl ?_
    refine sm_ishl (pc := 13) G hb (by decide +kernel : decode cX2_putConflict 13 = .ok (.ishl, 1)) ?_
    refine sm_ior (pc := 14) G hb (by decide +kernel : decode cX2_putConflict 14 = .ok (.ior, 1)) ?_
    refine sm_iast (pc := 15) G hb hy (by decide +kernel : decode cX2_putConflict 15 = .ok (.iastore, 1)) ?_
    refine sm_aload_n (pc := 16) G hb (by decide +kernel : decode cX2_putConflict 16 = .ok (.aload_n 0, 1)) rfl ?_
    refine sm_get (pc := 17) (ci := 2) (j := 7) (N := 11) (T := TX2) G hb ho hy rfl (by decide) gin_2 gw1_78 (by decide +kernel : decode cX2_putConflict 17 = .ok (.getfield 24, 3)) ?_
    refine sm_iload_n (pc := 20) G hb (by decide +kernel : decode cX2_putConflict 20 = .ok (.iload_n 2, 1)) rfl ?_
    refine sm_dup2 (pc := 21) G hb (by decide +kernel : decode cX2_putConflict 21 = .ok (.dup2, 1)) ?_
    refine sm_iald (pc := 22) G hb hy (by decide +kernel : decode cX2_putConflict 22 = .ok (.iaload, 1)) ?_
    refine sm_iconst (pc := 23) G hb (by decide +kernel : decode cX2_putConflict 23 = .ok (.iconst 1, 1)) (by decide) ?_
    refine sm_iload_n (pc := 24) G hb (by decide +kernel : decode cX2_putConflict 24 = .ok (.iload_n 1, 1)) rfl ?_
    refine sm_ishl (pc := 25) G hb (by decide +kernel : decode cX2_putConflict 25 = .ok (.ishl, 1)) ?_
    refine sm_ior (pc := 26) G hb (by decide +kernel : decode cX2_putConflict 26 = .ok (.ior, 1)) ?_
    refine sm_iast (pc := 27) G hb hy (by decide +kernel : decode cX2_putConflict 27 = .ok (.iastore, 1)) ?_
    refine sm_goto (pc := 28) (tgt := 59) G hb (by decide +kernel : decode cX2_putConflict 28 = .ok (.goto 31, 3)) (by decide) ?_
    exact sm_vret (pc := 59) G hb (by decide +kernel : decode cX2_putConflict 59 = .ok (.return_, 1)) hr
theorem kX2_putConflict {ε : gE5} (hE : gEnv ε) (N : Nat) : gCtr ε yX2_putConflict cX2_putConflict 4 none 0 0 gyNet (fX2_putConflict N) :=
  gCtr_of hE.1 (by decide) (fun γ G hb ho hy hR he hr => fX2_putConflict_s0 N G hb ho hy hR he hr hE)

set_option maxRecDepth 100000 in
set_option maxHeartbeats 4000000 in
theorem fX2_getNumber_s0 {γ : gG} {cs ss : Nat} {ε : gE5} (N : Nat) (G : gOK γ) (hb : gcc γ = cX2_getNumber) (ho : gow γ = RX2) (hy : gly γ = gyNet) (hR : grm γ = { frames := 0, cells := 0, slots := 0, locals := 0 }) (he : genv γ = ε) (hr : grt γ = (some .int)) (hE : gEnv ε) : gSm γ cs ss 0 (fX2_getNumber_k0 N) := by
  unfold fX2_getNumber_k0
  refine sm_aload_n (pc := 0) G hb (by decide +kernel : decode cX2_getNumber 0 = .ok (.aload_n 0, 1)) rfl ?_
  refine sm_get (pc := 1) (ci := 2) (j := 9) (N := 11) (T := TX2) G hb ho hy rfl (by decide) gin_2 gw1_86 (by decide +kernel : decode cX2_getNumber 1 = .ok (.getfield 30, 3)) ?_
  refine sm_iload_n (pc := 4) G hb (by decide +kernel : decode cX2_getNumber 4 = .ok (.iload_n 1, 1)) rfl ?_
  refine sm_bipush (pc := 5) G hb (by decide +kernel : decode cX2_getNumber 5 = .ok (.bipush 11, 2)) (by decide) ?_
  refine sm_imul (pc := 7) G hb (by decide +kernel : decode cX2_getNumber 7 = .ok (.imul, 1)) ?_
  refine sm_iload_n (pc := 8) G hb (by decide +kernel : decode cX2_getNumber 8 = .ok (.iload_n 2, 1)) rfl ?_
  refine sm_iadd (pc := 9) G hb (by decide +kernel : decode cX2_getNumber 9 = .ok (.iadd, 1)) ?_
  refine sm_iald (pc := 10) G hb hy (by decide +kernel : decode cX2_getNumber 10 = .ok (.iaload, 1)) ?_
  exact sm_iret (pc := 11) G hb (by decide +kernel : decode cX2_getNumber 11 = .ok (.ireturn, 1)) hr
theorem kX2_getNumber {ε : gE5} (hE : gEnv ε) (N : Nat) : gCtr ε yX2_getNumber cX2_getNumber 3 (some .int) 0 0 gyNet (fX2_getNumber N) :=
  gCtr_of hE.1 (by decide) (fun γ G hb ho hy hR he hr => fX2_getNumber_s0 N G hb ho hy hR he hr hE)

set_option maxRecDepth 100000 in
set_option maxHeartbeats 4000000 in
theorem fX2_putNumber_s0 {γ : gG} {cs ss : Nat} {ε : gE5} (N : Nat) (G : gOK γ) (hb : gcc γ = cX2_putNumber) (ho : gow γ = RX2) (hy : gly γ = gyNet) (hR : grm γ = { frames := 0, cells := 0, slots := 0, locals := 0 }) (he : genv γ = ε) (hr : grt γ = none) (hE : gEnv ε) : gSm γ cs ss 0 (fX2_putNumber_k0 N) := by
  unfold fX2_putNumber_k0
  refine sm_aload_n (pc := 0) G hb (by decide +kernel : decode cX2_putNumber 0 = .ok (.aload_n 0, 1)) rfl ?_
  refine sm_get (pc := 1) (ci := 2) (j := 9) (N := 11) (T := TX2) G hb ho hy rfl (by decide) gin_2 gw1_86 (by decide +kernel : decode cX2_putNumber 1 = .ok (.getfield 30, 3)) ?_
  refine sm_iload_n (pc := 4) G hb (by decide +kernel : decode cX2_putNumber 4 = .ok (.iload_n 1, 1)) rfl ?_
  refine sm_bipush (pc := 5) G hb (by decide +kernel : decode cX2_putNumber 5 = .ok (.bipush 11, 2)) (by decide) ?_
  refine sm_imul (pc := 7) G hb (by decide +kernel : decode cX2_putNumber 7 = .ok (.imul, 1)) ?_
  refine sm_iload_n (pc := 8) G hb (by decide +kernel : decode cX2_putNumber 8 = .ok (.iload_n 2, 1)) rfl ?_
  refine sm_iadd (pc := 9) G hb (by decide +kernel : decode cX2_putNumber 9 = .ok (.iadd, 1)) ?_
  refine sm_iload_n (pc := 10) G hb (by decide +kernel : decode cX2_putNumber 10 = .ok (.iload_n 3, 1)) rfl ?_
  refine sm_iast (pc := 11) G hb hy (by decide +kernel : decode cX2_putNumber 11 = .ok (.iastore, 1)) ?_
  exact sm_vret (pc := 12) G hb (by decide +kernel : decode cX2_putNumber 12 = .ok (.return_, 1)) hr
theorem kX2_putNumber {ε : gE5} (hE : gEnv ε) (N : Nat) : gCtr ε yX2_putNumber cX2_putNumber 4 none 0 0 gyNet (fX2_putNumber N) :=
  gCtr_of hE.1 (by decide) (fun γ G hb ho hy hR he hr => fX2_putNumber_s0 N G hb ho hy hR he hr hE)

set_option maxRecDepth 100000 in
set_option maxHeartbeats 4000000 in
theorem fX2_addNumber_s0 {γ : gG} {cs ss : Nat} {ε : gE5} (N : Nat) (G : gOK γ) (hb : gcc γ = cX2_addNumber) (ho : gow γ = RX2) (hy : gly γ = gyNet) (hR : grm γ = { frames := 0, cells := 0, slots := 0, locals := 0 }) (he : genv γ = ε) (hr : grt γ = none) (hE : gEnv ε) : gSm γ cs ss 0 (fX2_addNumber_k0 N) := by
  unfold fX2_addNumber_k0
  refine sm_aload_n (pc := 0) G hb (by decide +kernel : decode cX2_addNumber 0 = .ok (.aload_n 0, 1)) rfl ?_
  refine sm_get (pc := 1) (ci := 2) (j := 9) (N := 11) (T := TX2) G hb ho hy rfl (by decide) gin_2 gw1_86 (by decide +kernel : decode cX2_addNumber 1 = .ok (.getfield 30, 3)) ?_
  refine sm_iload_n (pc := 4) G hb (by decide +kernel : decode cX2_addNumber 4 = .ok (.iload_n 1, 1)) rfl ?_
  refine sm_bipush (pc := 5) G hb (by decide +kernel : decode cX2_addNumber 5 = .ok (.bipush 11, 2)) (by decide) ?_
  refine sm_imul (pc := 7) G hb (by decide +kernel : decode cX2_addNumber 7 = .ok (.imul, 1)) ?_
  refine sm_iload_n (pc := 8) G hb (by decide +kernel : decode cX2_addNumber 8 = .ok (.iload_n 2, 1)) rfl ?_
  refine sm_iadd (pc := 9) G hb (by decide +kernel : decode cX2_addNumber 9 = .ok (.iadd, 1)) ?_
  refine sm_dup2 (pc := 10) G hb (by decide +kernel : decode cX2_addNumber 10 = .ok (.dup2, 1)) ?_
  refine sm_iald (pc := 11) G hb hy (by decide +kernel : decode cX2_addNumber 11 = .ok (.iaload, 1)) ?_
  refine sm_iload_n (pc := 12) G hb (by decide +kernel : decode cX2_addNumber 12 = .ok (.iload_n 3, 1)) rfl ?_
  refine sm_iadd (pc := 13) G hb (by decide +kernel : decode cX2_addNumber 13 = .ok (.iadd, 1)) ?_
  refine sm_iast (pc := 14) G hb hy (by decide +kernel : decode cX2_addNumber 14 = .ok (.iastore, 1)) ?_
  exact sm_vret (pc := 15) G hb (by decide +kernel : decode cX2_addNumber 15 = .ok (.return_, 1)) hr
theorem kX2_addNumber {ε : gE5} (hE : gEnv ε) (N : Nat) : gCtr ε yX2_addNumber cX2_addNumber 4 none 0 0 gyNet (fX2_addNumber N) :=
  gCtr_of hE.1 (by decide) (fun γ G hb ho hy hR he hr => fX2_addNumber_s0 N G hb ho hy hR he hr hE)

set_option maxRecDepth 100000 in
set_option maxHeartbeats 4000000 in
theorem fX2_putFlow_s67 {γ : gG} {cs ss : Nat} {ε : gE5} (N : Nat) (G : gOK γ) (hb : gcc γ = cX2_putFlow) (ho : gow γ = RX2) (hy : gly γ = gyNet) (hR : grm γ = { frames := 1, cells := 0, slots := 0, locals := 23 }) (he : genv γ = ε) (hr : grt γ = none) (hE : gEnv ε) : gSm γ cs ss 67 (fX2_putFlow_k67 N) := by
  unfold fX2_putFlow_k67
  refine sm_aload_n (pc := 67) G hb (by decide +kernel : decode cX2_putFlow 67 = .ok (.aload_n 0, 1)) rfl ?_
  refine sm_iload (pc := 68) G hb (by decide +kernel : decode cX2_putFlow 68 = .ok (.iload 5, 2)) ?_
  refine sm_iconst (pc := 70) G hb (by decide +kernel : decode cX2_putFlow 70 = .ok (.iconst 2, 1)) (by decide) ?_
  refine sm_iload_n (pc := 71) G hb (by decide +kernel : decode cX2_putFlow 71 = .ok (.iload_n 3, 1)) rfl ?_
  refine sm_mono (cav_sub gV_sub) (sm_callV (pc := 72) (N := 11) (T := TX2) (C := RX2) G hb ho hy he hE.1 4 [0, 1, 2, 3, 4, 5, 6, 7, 8] (kX2_putNumber hE N) (gCo_of (by decide +kernel)) (by rw [hR]; exact ⟨by decide, by decide⟩) rfl rfl (by decide +kernel) gw2_96 gw2_97 gw2_98 gw1_3 gw2_99 (by decide +kernel : decode cX2_putFlow 72 = .ok (.invokevirtual 64, 3)) ?_)
  refine sm_aload_n (pc := 75) G hb (by decide +kernel : decode cX2_putFlow 75 = .ok (.aload_n 0, 1)) rfl ?_
  refine sm_iload (pc := 76) G hb (by decide +kernel : decode cX2_putFlow 76 = .ok (.iload 5, 2)) ?_
  refine sm_iconst (pc := 78) G hb (by decide +kernel : decode cX2_putFlow 78 = .ok (.iconst 3, 1)) (by decide) ?_
  refine sm_iload (pc := 79) G hb (by decide +kernel : decode cX2_putFlow 79 = .ok (.iload 4, 2)) ?_
  refine sm_mono (cav_sub gV_sub) (sm_callV (pc := 81) (N := 11) (T := TX2) (C := RX2) G hb ho hy he hE.1 4 [0, 1, 2, 3, 4, 5, 6, 7, 8] (kX2_putNumber hE N) (gCo_of (by decide +kernel)) (by rw [hR]; exact ⟨by decide, by decide⟩) rfl rfl (by decide +kernel) gw2_96 gw2_97 gw2_98 gw1_3 gw2_99 (by decide +kernel : decode cX2_putFlow 81 = .ok (.invokevirtual 64, 3)) ?_)
  exact sm_vret (pc := 84) G hb (by decide +kernel : decode cX2_putFlow 84 = .ok (.return_, 1)) hr
set_option maxRecDepth 100000 in
set_option maxHeartbeats 4000000 in
theorem fX2_putFlow_s29 {γ : gG} {cs ss : Nat} {ε : gE5} (N : Nat) (G : gOK γ) (hb : gcc γ = cX2_putFlow) (ho : gow γ = RX2) (hy : gly γ = gyNet) (hR : grm γ = { frames := 1, cells := 0, slots := 0, locals := 23 }) (he : genv γ = ε) (hr : grt γ = none) (hE : gEnv ε) : gSm γ cs ss 29 (fX2_putFlow_k29 N) := by
  unfold fX2_putFlow_k29
  refine sm_lp (fun K29 h29 => ?_) N
  unfold fX2_putFlow_b29
  refine sm_iload (pc := 29) G hb (by decide +kernel : decode cX2_putFlow 29 = .ok (.iload 6, 2)) ?_
  refine sm_bipush (pc := 31) G hb (by decide +kernel : decode cX2_putFlow 31 = .ok (.bipush 11, 2)) (by decide) ?_
  refine sm_icmp_ge (pc := 33) (tgt := 51) G hb (by decide +kernel : decode cX2_putFlow 33 = .ok (.if_icmp .ge 18, 3)) (by decide) ?_ ?_
  · skip
    refine sm_aload_n (pc := 51) G hb (by decide +kernel : decode cX2_putFlow 51 = .ok (.aload_n 0, 1)) rfl ?_
    refine sm_iload (pc := 52) G hb (by decide +kernel : decode cX2_putFlow 52 = .ok (.iload 5, 2)) ?_
    refine sm_iconst (pc := 54) G hb (by decide +kernel : decode cX2_putFlow 54 = .ok (.iconst 0, 1)) (by decide) ?_
    refine sm_iload_n (pc := 55) G hb (by decide +kernel : decode cX2_putFlow 55 = .ok (.iload_n 1, 1)) rfl ?_
    refine sm_mono (cav_sub gV_sub) (sm_callV (pc := 56) (N := 11) (T := TX2) (C := RX2) G hb ho hy he hE.1 4 [0, 1, 2, 3, 4, 5, 6, 7, 8] (kX2_putNumber hE N) (gCo_of (by decide +kernel)) (by rw [hR]; exact ⟨by decide, by decide⟩) rfl rfl (by decide +kernel) gw2_96 gw2_97 gw2_98 gw1_3 gw2_99 (by decide +kernel : decode cX2_putFlow 56 = .ok (.invokevirtual 64, 3)) ?_)
    refine sm_aload_n (pc := 59) G hb (by decide +kernel : decode cX2_putFlow 59 = .ok (.aload_n 0, 1)) rfl ?_
    refine sm_iload (pc := 60) G hb (by decide +kernel : decode cX2_putFlow 60 = .ok (.iload 5, 2)) ?_
    refine sm_iconst (pc := 62) G hb (by decide +kernel : decode cX2_putFlow 62 = .ok (.iconst 1, 1)) (by decide) ?_
    refine sm_iload_n (pc := 63) G hb (by decide +kernel : decode cX2_putFlow 63 = .ok (.iload_n 2, 1)) rfl ?_
    refine sm_mono (cav_sub gV_sub) (sm_callV (pc := 64) (N := 11) (T := TX2) (C := RX2) G hb ho hy he hE.1 4 [0, 1, 2, 3, 4, 5, 6, 7, 8] (kX2_putNumber hE N) (gCo_of (by decide +kernel)) (by rw [hR]; exact ⟨by decide, by decide⟩) rfl rfl (by decide +kernel) gw2_96 gw2_97 gw2_98 gw1_3 gw2_99 (by decide +kernel : decode cX2_putFlow 64 = .ok (.invokevirtual 64, 3)) ?_)
    refine sm_mask ?_
    exact fX2_putFlow_s67 N G hb ho hy hR he hr hE
  · skip
    refine sm_aload_n (pc := 36) G hb (by decide +kernel : decode cX2_putFlow 36 = .ok (.aload_n 0, 1)) rfl ?_
    refine sm_iload (pc := 37) G hb (by decide +kernel : decode cX2_putFlow 37 = .ok (.iload 5, 2)) ?_
    refine sm_iload (pc := 39) G hb (by decide +kernel : decode cX2_putFlow 39 = .ok (.iload 6, 2)) ?_
    refine sm_iconst (pc := 41) G hb (by decide +kernel : decode cX2_putFlow 41 = .ok (.iconst 0, 1)) (by decide) ?_
    refine sm_mono (cav_sub gV_sub) (sm_callV (pc := 42) (N := 11) (T := TX2) (C := RX2) G hb ho hy he hE.1 4 [0, 1, 2, 3, 4, 5, 6, 7, 8] (kX2_putNumber hE N) (gCo_of (by decide +kernel)) (by rw [hR]; exact ⟨by decide, by decide⟩) rfl rfl (by decide +kernel) gw2_96 gw2_97 gw2_98 gw1_3 gw2_99 (by decide +kernel : decode cX2_putFlow 42 = .ok (.invokevirtual 64, 3)) ?_)
    refine sm_iinc (pc := 45) G hb (by decide +kernel : decode cX2_putFlow 45 = .ok (.iinc 6 1, 3)) (by decide) ?_
    refine sm_goto (pc := 48) (tgt := 29) G hb (by decide +kernel : decode cX2_putFlow 48 = .ok (.goto (-19), 3)) (by decide) ?_
    refine sm_mask ?_
    exact h29
set_option maxRecDepth 100000 in
set_option maxHeartbeats 4000000 in
theorem fX2_putFlow_s0 {γ : gG} {cs ss : Nat} {ε : gE5} (N : Nat) (G : gOK γ) (hb : gcc γ = cX2_putFlow) (ho : gow γ = RX2) (hy : gly γ = gyNet) (hR : grm γ = { frames := 1, cells := 0, slots := 0, locals := 23 }) (he : genv γ = ε) (hr : grt γ = none) (hE : gEnv ε) : gSm γ cs ss 0 (fX2_putFlow_k0 N) := by
  unfold fX2_putFlow_k0
  refine sm_aload_n (pc := 0) G hb (by decide +kernel : decode cX2_putFlow 0 = .ok (.aload_n 0, 1)) rfl ?_
  refine sm_get (pc := 1) (ci := 2) (j := 2) (N := 11) (T := TX2) G hb ho hy rfl (by decide) gin_2 gw1_56 (by decide +kernel : decode cX2_putFlow 1 = .ok (.getfield 43, 3)) ?_
  refine sm_bipush (pc := 4) G hb (by decide +kernel : decode cX2_putFlow 4 = .ok (.bipush 6, 2)) (by decide) ?_
  refine sm_icmp_lt (pc := 6) (tgt := 10) G hb (by decide +kernel : decode cX2_putFlow 6 = .ok (.if_icmp .lt 4, 3)) (by decide) ?_ ?_
  · skip
    refine sm_aload_n (pc := 10) G hb (by decide +kernel : decode cX2_putFlow 10 = .ok (.aload_n 0, 1)) rfl ?_
    refine sm_get (pc := 11) (ci := 2) (j := 2) (N := 11) (T := TX2) G hb ho hy rfl (by decide) gin_2 gw1_56 (by decide +kernel : decode cX2_putFlow 11 = .ok (.getfield 43, 3)) ?_
    refine sm_istore (pc := 14) G hb (by decide +kernel : decode cX2_putFlow 14 = .ok (.istore 5, 2)) ?_
    refine sm_aload_n (pc := 16) G hb (by decide +kernel : decode cX2_putFlow 16 = .ok (.aload_n 0, 1)) rfl ?_
    refine sm_dup (pc := 17) G hb (by decide +kernel : decode cX2_putFlow 17 = .ok (.dup, 1)) ?_
    refine sm_get (pc := 18) (ci := 2) (j := 2) (N := 11) (T := TX2) G hb ho hy rfl (by decide) gin_2 gw1_56 (by decide +kernel : decode cX2_putFlow 18 = .ok (.getfield 43, 3)) ?_
    refine sm_iconst (pc := 21) G hb (by decide +kernel : decode cX2_putFlow 21 = .ok (.iconst 1, 1)) (by decide) ?_
    refine sm_iadd (pc := 22) G hb (by decide +kernel : decode cX2_putFlow 22 = .ok (.iadd, 1)) ?_
    refine sm_put (pc := 23) (ci := 2) (j := 2) (N := 11) (T := TX2) G hb ho hy tyX2 tyX2_ok nmX2 rfl (by decide) gin_2 gw1_56 rfl rfl (by decide +kernel : decode cX2_putFlow 23 = .ok (.putfield 43, 3)) ?_
    refine sm_iconst (pc := 26) G hb (by decide +kernel : decode cX2_putFlow 26 = .ok (.iconst 0, 1)) (by decide) ?_
    refine sm_istore (pc := 27) G hb (by decide +kernel : decode cX2_putFlow 27 = .ok (.istore 6, 2)) ?_
    refine sm_mask ?_
    exact fX2_putFlow_s29 N G hb ho hy hR he hr hE
  · skip
    exact sm_vret (pc := 9) G hb (by decide +kernel : decode cX2_putFlow 9 = .ok (.return_, 1)) hr
theorem kX2_putFlow {ε : gE5} (hE : gEnv ε) (N : Nat) : gCtr ε yX2_putFlow cX2_putFlow 7 none 1 23 gyNet (fX2_putFlow N) :=
  gCtr_of hE.1 (by decide) (fun γ G hb ho hy hR he hr => fX2_putFlow_s0 N G hb ho hy hR he hr hE)

set_option maxRecDepth 100000 in
set_option maxHeartbeats 4000000 in
theorem fX2_sumNumber_s4 {γ : gG} {cs ss : Nat} {ε : gE5} (N : Nat) (G : gOK γ) (hb : gcc γ = cX2_sumNumber) (ho : gow γ = RX2) (hy : gly γ = gyNet) (hR : grm γ = { frames := 1, cells := 0, slots := 0, locals := 22 }) (he : genv γ = ε) (hr : grt γ = (some .int)) (hE : gEnv ε) : gSm γ cs ss 4 (fX2_sumNumber_k4 N) := by
  unfold fX2_sumNumber_k4
  refine sm_lp (fun K4 h4 => ?_) N
  unfold fX2_sumNumber_b4
  refine sm_iload_n (pc := 4) G hb (by decide +kernel : decode cX2_sumNumber 4 = .ok (.iload_n 3, 1)) rfl ?_
  refine sm_aload_n (pc := 5) G hb (by decide +kernel : decode cX2_sumNumber 5 = .ok (.aload_n 0, 1)) rfl ?_
  refine sm_get (pc := 6) (ci := 2) (j := 2) (N := 11) (T := TX2) G hb ho hy rfl (by decide) gin_2 gw1_56 (by decide +kernel : decode cX2_sumNumber 6 = .ok (.getfield 43, 3)) ?_
  refine sm_icmp_ge (pc := 9) (tgt := 27) G hb (by decide +kernel : decode cX2_sumNumber 9 = .ok (.if_icmp .ge 18, 3)) (by decide) ?_ ?_
  · skip
    refine sm_iload_n (pc := 27) G hb (by decide +kernel : decode cX2_sumNumber 27 = .ok (.iload_n 2, 1)) rfl ?_
    exact sm_iret (pc := 28) G hb (by decide +kernel : decode cX2_sumNumber 28 = .ok (.ireturn, 1)) hr
  · skip
    refine sm_iload_n (pc := 12) G hb (by decide +kernel : decode cX2_sumNumber 12 = .ok (.iload_n 2, 1)) rfl ?_
    refine sm_aload_n (pc := 13) G hb (by decide +kernel : decode cX2_sumNumber 13 = .ok (.aload_n 0, 1)) rfl ?_
    refine sm_iload_n (pc := 14) G hb (by decide +kernel : decode cX2_sumNumber 14 = .ok (.iload_n 3, 1)) rfl ?_
    refine sm_iload_n (pc := 15) G hb (by decide +kernel : decode cX2_sumNumber 15 = .ok (.iload_n 1, 1)) rfl ?_
    refine sm_mono (cav_sub gI_sub) (sm_callV (pc := 16) (N := 11) (T := TX2) (C := RX2) G hb ho hy he hE.1 3 [0, 1, 2, 3, 4, 5, 6, 7, 8] (kX2_getNumber hE N) (gCo_of (by decide +kernel)) (by rw [hR]; exact ⟨by decide, by decide⟩) rfl rfl (by decide +kernel) gw4_204 gw3_73 gw3_74 gw1_3 gw3_75 (by decide +kernel : decode cX2_sumNumber 16 = .ok (.invokevirtual 68, 3)) ?_)
    refine sm_iadd (pc := 19) G hb (by decide +kernel : decode cX2_sumNumber 19 = .ok (.iadd, 1)) ?_
    refine sm_istore_n (pc := 20) G hb (by decide +kernel : decode cX2_sumNumber 20 = .ok (.istore_n 2, 1)) rfl ?_
    refine sm_iinc (pc := 21) G hb (by decide +kernel : decode cX2_sumNumber 21 = .ok (.iinc 3 1, 3)) (by decide) ?_
    refine sm_goto (pc := 24) (tgt := 4) G hb (by decide +kernel : decode cX2_sumNumber 24 = .ok (.goto (-20), 3)) (by decide) ?_
    refine sm_mask ?_
    exact h4
set_option maxRecDepth 100000 in
set_option maxHeartbeats 4000000 in
theorem fX2_sumNumber_s0 {γ : gG} {cs ss : Nat} {ε : gE5} (N : Nat) (G : gOK γ) (hb : gcc γ = cX2_sumNumber) (ho : gow γ = RX2) (hy : gly γ = gyNet) (hR : grm γ = { frames := 1, cells := 0, slots := 0, locals := 22 }) (he : genv γ = ε) (hr : grt γ = (some .int)) (hE : gEnv ε) : gSm γ cs ss 0 (fX2_sumNumber_k0 N) := by
  unfold fX2_sumNumber_k0
  refine sm_iconst (pc := 0) G hb (by decide +kernel : decode cX2_sumNumber 0 = .ok (.iconst 0, 1)) (by decide) ?_
  refine sm_istore_n (pc := 1) G hb (by decide +kernel : decode cX2_sumNumber 1 = .ok (.istore_n 2, 1)) rfl ?_
  refine sm_iconst (pc := 2) G hb (by decide +kernel : decode cX2_sumNumber 2 = .ok (.iconst 0, 1)) (by decide) ?_
  refine sm_istore_n (pc := 3) G hb (by decide +kernel : decode cX2_sumNumber 3 = .ok (.istore_n 3, 1)) rfl ?_
  refine sm_mask ?_
  exact fX2_sumNumber_s4 N G hb ho hy hR he hr hE
theorem kX2_sumNumber {ε : gE5} (hE : gEnv ε) (N : Nat) : gCtr ε yX2_sumNumber cX2_sumNumber 4 (some .int) 1 22 gyNet (fX2_sumNumber N) :=
  gCtr_of hE.1 (by decide) (fun γ G hb ho hy hR he hr => fX2_sumNumber_s0 N G hb ho hy hR he hr hE)

set_option maxRecDepth 100000 in
set_option maxHeartbeats 4000000 in
theorem fX2_hasBudget_s2 {γ : gG} {cs ss : Nat} {ε : gE5} (N : Nat) (G : gOK γ) (hb : gcc γ = cX2_hasBudget) (ho : gow γ = RX2) (hy : gly γ = gyNet) (hR : grm γ = { frames := 1, cells := 0, slots := 0, locals := 22 }) (he : genv γ = ε) (hr : grt γ = (some .boolean)) (hE : gEnv ε) : gSm γ cs ss 2 (fX2_hasBudget_k2 N) := by
  unfold fX2_hasBudget_k2
  refine sm_lp (fun K2 h2 => ?_) N
  unfold fX2_hasBudget_b2
  refine sm_iload_n (pc := 2) G hb (by decide +kernel : decode cX2_hasBudget 2 = .ok (.iload_n 1, 1)) rfl ?_
  refine sm_aload_n (pc := 3) G hb (by decide +kernel : decode cX2_hasBudget 3 = .ok (.aload_n 0, 1)) rfl ?_
  refine sm_get (pc := 4) (ci := 2) (j := 2) (N := 11) (T := TX2) G hb ho hy rfl (by decide) gin_2 gw1_56 (by decide +kernel : decode cX2_hasBudget 4 = .ok (.getfield 43, 3)) ?_
  refine sm_icmp_ge (pc := 7) (tgt := 27) G hb (by decide +kernel : decode cX2_hasBudget 7 = .ok (.if_icmp .ge 20, 3)) (by decide) ?_ ?_
  · skip
    refine sm_iconst (pc := 27) G hb (by decide +kernel : decode cX2_hasBudget 27 = .ok (.iconst 0, 1)) (by decide) ?_
    exact sm_zret (pc := 28) G hb (by decide +kernel : decode cX2_hasBudget 28 = .ok (.ireturn, 1)) hr
  · skip
    refine sm_aload_n (pc := 10) G hb (by decide +kernel : decode cX2_hasBudget 10 = .ok (.aload_n 0, 1)) rfl ?_
    refine sm_iload_n (pc := 11) G hb (by decide +kernel : decode cX2_hasBudget 11 = .ok (.iload_n 1, 1)) rfl ?_
    refine sm_iconst (pc := 12) G hb (by decide +kernel : decode cX2_hasBudget 12 = .ok (.iconst 3, 1)) (by decide) ?_
    refine sm_mono (cav_sub gI_sub) (sm_callV (pc := 13) (N := 11) (T := TX2) (C := RX2) G hb ho hy he hE.1 3 [0, 1, 2, 3, 4, 5, 6, 7, 8] (kX2_getNumber hE N) (gCo_of (by decide +kernel)) (by rw [hR]; exact ⟨by decide, by decide⟩) rfl rfl (by decide +kernel) gw4_204 gw3_73 gw3_74 gw1_3 gw3_75 (by decide +kernel : decode cX2_hasBudget 13 = .ok (.invokevirtual 68, 3)) ?_)
    refine sm_if_le (pc := 16) (tgt := 21) G hb (by decide +kernel : decode cX2_hasBudget 16 = .ok (.ifCond .le 5, 3)) (by decide) ?_ ?_
    · skip
      refine sm_iinc (pc := 21) G hb (by decide +kernel : decode cX2_hasBudget 21 = .ok (.iinc 1 1, 3)) (by decide) ?_
      refine sm_goto (pc := 24) (tgt := 2) G hb (by decide +kernel : decode cX2_hasBudget 24 = .ok (.goto (-22), 3)) (by decide) ?_
      refine sm_mask ?_
      exact h2
    · skip
      refine sm_iconst (pc := 19) G hb (by decide +kernel : decode cX2_hasBudget 19 = .ok (.iconst 1, 1)) (by decide) ?_
      exact sm_zret (pc := 20) G hb (by decide +kernel : decode cX2_hasBudget 20 = .ok (.ireturn, 1)) hr
set_option maxRecDepth 100000 in
set_option maxHeartbeats 4000000 in
theorem fX2_hasBudget_s0 {γ : gG} {cs ss : Nat} {ε : gE5} (N : Nat) (G : gOK γ) (hb : gcc γ = cX2_hasBudget) (ho : gow γ = RX2) (hy : gly γ = gyNet) (hR : grm γ = { frames := 1, cells := 0, slots := 0, locals := 22 }) (he : genv γ = ε) (hr : grt γ = (some .boolean)) (hE : gEnv ε) : gSm γ cs ss 0 (fX2_hasBudget_k0 N) := by
  unfold fX2_hasBudget_k0
  refine sm_iconst (pc := 0) G hb (by decide +kernel : decode cX2_hasBudget 0 = .ok (.iconst 0, 1)) (by decide) ?_
  refine sm_istore_n (pc := 1) G hb (by decide +kernel : decode cX2_hasBudget 1 = .ok (.istore_n 1, 1)) rfl ?_
  refine sm_mask ?_
  exact fX2_hasBudget_s2 N G hb ho hy hR he hr hE
theorem kX2_hasBudget {ε : gE5} (hE : gEnv ε) (N : Nat) : gCtr ε yX2_hasBudget cX2_hasBudget 2 (some .boolean) 1 22 gyNet (fX2_hasBudget N) :=
  gCtr_of hE.1 (by decide) (fun γ G hb ho hy hR he hr => fX2_hasBudget_s0 N G hb ho hy hR he hr hE)

set_option maxRecDepth 100000 in
set_option maxHeartbeats 4000000 in
theorem fX2_clear_s41 {γ : gG} {cs ss : Nat} {ε : gE5} (N : Nat) (G : gOK γ) (hb : gcc γ = cX2_clear) (ho : gow γ = RX2) (hy : gly γ = gyNet) (hR : grm γ = { frames := 1, cells := 0, slots := 0, locals := 23 }) (he : genv γ = ε) (hr : grt γ = none) (hE : gEnv ε) : gSm γ cs ss 41 (fX2_clear_k41 N) := by
  unfold fX2_clear_k41
  refine sm_lp (fun K41 h41 => ?_) N
  unfold fX2_clear_b41
  refine sm_iload_n (pc := 41) G hb (by decide +kernel : decode cX2_clear 41 = .ok (.iload_n 2, 1)) rfl ?_
  refine sm_iload_n (pc := 42) G hb (by decide +kernel : decode cX2_clear 42 = .ok (.iload_n 1, 1)) rfl ?_
  refine sm_icmp_ge (pc := 43) (tgt := 63) G hb (by decide +kernel : decode cX2_clear 43 = .ok (.if_icmp .ge 20, 3)) (by decide) ?_ ?_
  · skip
    exact sm_vret (pc := 63) G hb (by decide +kernel : decode cX2_clear 63 = .ok (.return_, 1)) hr
  · skip
    refine sm_aload_n (pc := 46) G hb (by decide +kernel : decode cX2_clear 46 = .ok (.aload_n 0, 1)) rfl ?_
    refine sm_get (pc := 47) (ci := 2) (j := 10) (N := 11) (T := TX2) G hb ho hy rfl (by decide) gin_2 gw1_87 (by decide +kernel : decode cX2_clear 47 = .ok (.getfield 33, 3)) ?_
    refine sm_iload_n (pc := 50) G hb (by decide +kernel : decode cX2_clear 50 = .ok (.iload_n 2, 1)) rfl ?_
    refine sm_iload_n (pc := 51) G hb (by decide +kernel : decode cX2_clear 51 = .ok (.iload_n 2, 1)) rfl ?_
    refine sm_mono (ca_sub gI_sub) (sm_callSN (pc := 52) G hb ho hy he hE.1 2 [] (kX8_pair hE N) (gCo_of (by decide +kernel)) (by rw [hR]; exact ⟨by decide, by decide⟩) (by decide +kernel) gw2_81 gw2_82 gw1_1 gw2_83 (by decide +kernel : decode cX2_clear 52 = .ok (.invokestatic 52, 3)) ?_)
    refine sm_iconst (pc := 55) G hb (by decide +kernel : decode cX2_clear 55 = .ok (.iconst 0, 1)) (by decide) ?_
    refine sm_iast (pc := 56) G hb hy (by decide +kernel : decode cX2_clear 56 = .ok (.iastore, 1)) ?_
    refine sm_iinc (pc := 57) G hb (by decide +kernel : decode cX2_clear 57 = .ok (.iinc 2 1, 3)) (by decide) ?_
    refine sm_goto (pc := 60) (tgt := 41) G hb (by decide +kernel : decode cX2_clear 60 = .ok (.goto (-19), 3)) (by decide) ?_
    refine sm_mask ?_
    exact h41
set_option maxRecDepth 100000 in
set_option maxHeartbeats 4000000 in
theorem fX2_clear_s0 {γ : gG} {cs ss : Nat} {ε : gE5} (N : Nat) (G : gOK γ) (hb : gcc γ = cX2_clear) (ho : gow γ = RX2) (hy : gly γ = gyNet) (hR : grm γ = { frames := 1, cells := 0, slots := 0, locals := 23 }) (he : genv γ = ε) (hr : grt γ = none) (hE : gEnv ε) : gSm γ cs ss 0 (fX2_clear_k0 N) := by
  unfold fX2_clear_k0
  refine sm_aload_n (pc := 0) G hb (by decide +kernel : decode cX2_clear 0 = .ok (.aload_n 0, 1)) rfl ?_
  refine sm_iload_n (pc := 1) G hb (by decide +kernel : decode cX2_clear 1 = .ok (.iload_n 1, 1)) rfl ?_
  refine sm_put (pc := 2) (ci := 2) (j := 0) (N := 11) (T := TX2) G hb ho hy tyX2 tyX2_ok nmX2 rfl (by decide) gin_2 gw1_45 rfl rfl (by decide +kernel : decode cX2_clear 2 = .ok (.putfield 36, 3)) ?_
  refine sm_aload_n (pc := 5) G hb (by decide +kernel : decode cX2_clear 5 = .ok (.aload_n 0, 1)) rfl ?_
  refine sm_iconst (pc := 6) G hb (by decide +kernel : decode cX2_clear 6 = .ok (.iconst 0, 1)) (by decide) ?_
  refine sm_put (pc := 7) (ci := 2) (j := 1) (N := 11) (T := TX2) G hb ho hy tyX2 tyX2_ok nmX2 rfl (by decide) gin_2 gw1_50 rfl rfl (by decide +kernel : decode cX2_clear 7 = .ok (.putfield 40, 3)) ?_
  refine sm_aload_n (pc := 10) G hb (by decide +kernel : decode cX2_clear 10 = .ok (.aload_n 0, 1)) rfl ?_
  refine sm_iconst (pc := 11) G hb (by decide +kernel : decode cX2_clear 11 = .ok (.iconst 0, 1)) (by decide) ?_
  refine sm_put (pc := 12) (ci := 2) (j := 2) (N := 11) (T := TX2) G hb ho hy tyX2 tyX2_ok nmX2 rfl (by decide) gin_2 gw1_56 rfl rfl (by decide +kernel : decode cX2_clear 12 = .ok (.putfield 43, 3)) ?_
  refine sm_aload_n (pc := 15) G hb (by decide +kernel : decode cX2_clear 15 = .ok (.aload_n 0, 1)) rfl ?_
  refine sm_get (pc := 16) (ci := 2) (j := 8) (N := 11) (T := TX2) G hb ho hy rfl (by decide) gin_2 gw1_81 (by decide +kernel : decode cX2_clear 16 = .ok (.getfield 27, 3)) ?_
  refine sm_iconst (pc := 19) G hb (by decide +kernel : decode cX2_clear 19 = .ok (.iconst 0, 1)) (by decide) ?_
  refine sm_mono (ca_sub gV_sub) (sm_callS (pc := 20) G hb ho hy he hE.1 2 [6] (kJF_fill hE N 4) ⟨rfl, rfl, by decide⟩ (by rw [hR]; exact ⟨by decide, by decide⟩) (by decide +kernel) gw2_78 gw2_79 gw1_10 gw2_80 (by decide +kernel : decode cX2_clear 20 = .ok (.invokestatic 46, 3)) ?_)
  refine sm_aload_n (pc := 23) G hb (by decide +kernel : decode cX2_clear 23 = .ok (.aload_n 0, 1)) rfl ?_
  refine sm_get (pc := 24) (ci := 2) (j := 8) (N := 11) (T := TX2) G hb ho hy rfl (by decide) gin_2 gw1_81 (by decide +kernel : decode cX2_clear 24 = .ok (.getfield 27, 3)) ?_
  refine sm_iconst (pc := 27) G hb (by decide +kernel : decode cX2_clear 27 = .ok (.iconst 1, 1)) (by decide) ?_
  refine sm_bipush (pc := 28) G hb (by decide +kernel : decode cX2_clear 28 = .ok (.bipush 10, 2)) (by decide) ?_
  refine sm_iast (pc := 30) G hb hy (by decide +kernel : decode cX2_clear 30 = .ok (.iastore, 1)) ?_
  refine sm_aload_n (pc := 31) G hb (by decide +kernel : decode cX2_clear 31 = .ok (.aload_n 0, 1)) rfl ?_
  refine sm_get (pc := 32) (ci := 2) (j := 10) (N := 11) (T := TX2) G hb ho hy rfl (by decide) gin_2 gw1_87 (by decide +kernel : decode cX2_clear 32 = .ok (.getfield 33, 3)) ?_
  refine sm_iload_n (pc := 35) G hb (by decide +kernel : decode cX2_clear 35 = .ok (.iload_n 1, 1)) rfl ?_
  refine sm_mono (ca_sub gV_sub) (sm_callS (pc := 36) G hb ho hy he hE.1 2 [8] (kJF_fill hE N 100) ⟨rfl, rfl, by decide⟩ (by rw [hR]; exact ⟨by decide, by decide⟩) (by decide +kernel) gw2_78 gw2_79 gw1_10 gw2_80 (by decide +kernel : decode cX2_clear 36 = .ok (.invokestatic 46, 3)) ?_)
  refine sm_iconst (pc := 39) G hb (by decide +kernel : decode cX2_clear 39 = .ok (.iconst 0, 1)) (by decide) ?_
  refine sm_istore_n (pc := 40) G hb (by decide +kernel : decode cX2_clear 40 = .ok (.istore_n 2, 1)) rfl ?_
  refine sm_mask ?_
  exact fX2_clear_s41 N G hb ho hy hR he hr hE
theorem kX2_clear {ε : gE5} (hE : gEnv ε) (N : Nat) : gCtr ε yX2_clear cX2_clear 3 none 1 23 gyNet (fX2_clear N) :=
  gCtr_of hE.1 (by decide) (fun γ G hb ho hy hR he hr => fX2_clear_s0 N G hb ho hy hR he hr hE)

set_option maxRecDepth 100000 in
set_option maxHeartbeats 4000000 in
theorem fX2_copyFrom_s101 {γ : gG} {cs ss : Nat} {ε : gE5} (N : Nat) (G : gOK γ) (hb : gcc γ = cX2_copyFrom) (ho : gow γ = RX2) (hy : gly γ = gyNet2) (hR : grm γ = { frames := 2, cells := 0, slots := 0, locals := 48 }) (he : genv γ = ε) (hr : grt γ = none) (hE : gEnv ε) : gSm γ cs ss 101 (fX2_copyFrom_k101 N) := by
  unfold fX2_copyFrom_k101
  refine sm_aload_n (pc := 101) G hb (by decide +kernel : decode cX2_copyFrom 101 = .ok (.aload_n 1, 1)) rfl ?_
  refine sm_get (pc := 102) (ci := 2) (j := 9) (N := 11) (T := TX2) G hb ho hy rfl (by decide) gin_2 gw1_86 (by decide +kernel : decode cX2_copyFrom 102 = .ok (.getfield 30, 3)) ?_
  refine sm_aload_n (pc := 105) G hb (by decide +kernel : decode cX2_copyFrom 105 = .ok (.aload_n 0, 1)) rfl ?_
  refine sm_get (pc := 106) (ci := 2) (j := 9) (N := 11) (T := TX2) G hb ho hy rfl (by decide) gin_2 gw1_86 (by decide +kernel : decode cX2_copyFrom 106 = .ok (.getfield 30, 3)) ?_
  refine sm_bipush (pc := 109) G hb (by decide +kernel : decode cX2_copyFrom 109 = .ok (.bipush 66, 2)) (by decide) ?_
  refine sm_mono (ca_sub gV_sub) (sm_callSN (pc := 111) G hb ho hy he hE.1 3 [16, 7] (kX8_copyRow hE N 66 66) ⟨rfl, rfl, by decide⟩ (by rw [hR]; exact ⟨by decide, by decide⟩) (by decide +kernel) gw3_44 gw3_45 gw1_1 gw3_46 (by decide +kernel : decode cX2_copyFrom 111 = .ok (.invokestatic 56, 3)) ?_)
  refine sm_aload_n (pc := 114) G hb (by decide +kernel : decode cX2_copyFrom 114 = .ok (.aload_n 1, 1)) rfl ?_
  refine sm_get (pc := 115) (ci := 2) (j := 10) (N := 11) (T := TX2) G hb ho hy rfl (by decide) gin_2 gw1_87 (by decide +kernel : decode cX2_copyFrom 115 = .ok (.getfield 33, 3)) ?_
  refine sm_aload_n (pc := 118) G hb (by decide +kernel : decode cX2_copyFrom 118 = .ok (.aload_n 0, 1)) rfl ?_
  refine sm_get (pc := 119) (ci := 2) (j := 10) (N := 11) (T := TX2) G hb ho hy rfl (by decide) gin_2 gw1_87 (by decide +kernel : decode cX2_copyFrom 119 = .ok (.getfield 33, 3)) ?_
  refine sm_bipush (pc := 122) G hb (by decide +kernel : decode cX2_copyFrom 122 = .ok (.bipush 100, 2)) (by decide) ?_
  refine sm_mono (ca_sub gV_sub) (sm_callSN (pc := 124) G hb ho hy he hE.1 3 [17, 8] (kX8_copyRow hE N 100 100) ⟨rfl, rfl, by decide⟩ (by rw [hR]; exact ⟨by decide, by decide⟩) (by decide +kernel) gw3_44 gw3_45 gw1_1 gw3_46 (by decide +kernel : decode cX2_copyFrom 124 = .ok (.invokestatic 56, 3)) ?_)
  exact sm_vret (pc := 127) G hb (by decide +kernel : decode cX2_copyFrom 127 = .ok (.return_, 1)) hr
set_option maxRecDepth 100000 in
set_option maxHeartbeats 4000000 in
theorem fX2_copyFrom_s63 {γ : gG} {cs ss : Nat} {ε : gE5} (N : Nat) (G : gOK γ) (hb : gcc γ = cX2_copyFrom) (ho : gow γ = RX2) (hy : gly γ = gyNet2) (hR : grm γ = { frames := 2, cells := 0, slots := 0, locals := 48 }) (he : genv γ = ε) (hr : grt γ = none) (hE : gEnv ε) : gSm γ cs ss 63 (fX2_copyFrom_k63 N) := by
  unfold fX2_copyFrom_k63
  refine sm_aload_n (pc := 63) G hb (by decide +kernel : decode cX2_copyFrom 63 = .ok (.aload_n 1, 1)) rfl ?_
  refine sm_get (pc := 64) (ci := 2) (j := 6) (N := 11) (T := TX2) G hb ho hy rfl (by decide) gin_2 gw1_75 (by decide +kernel : decode cX2_copyFrom 64 = .ok (.getfield 21, 3)) ?_
  refine sm_aload_n (pc := 67) G hb (by decide +kernel : decode cX2_copyFrom 67 = .ok (.aload_n 0, 1)) rfl ?_
  refine sm_get (pc := 68) (ci := 2) (j := 6) (N := 11) (T := TX2) G hb ho hy rfl (by decide) gin_2 gw1_75 (by decide +kernel : decode cX2_copyFrom 68 = .ok (.getfield 21, 3)) ?_
  refine sm_bipush (pc := 71) G hb (by decide +kernel : decode cX2_copyFrom 71 = .ok (.bipush 14, 2)) (by decide) ?_
  refine sm_mono (ca_sub gV_sub) (sm_callSN (pc := 73) G hb ho hy he hE.1 3 [13, 4] (kX8_copyRow hE N 14 14) ⟨rfl, rfl, by decide⟩ (by rw [hR]; exact ⟨by decide, by decide⟩) (by decide +kernel) gw3_44 gw3_45 gw1_1 gw3_46 (by decide +kernel : decode cX2_copyFrom 73 = .ok (.invokestatic 56, 3)) ?_)
  refine sm_aload_n (pc := 76) G hb (by decide +kernel : decode cX2_copyFrom 76 = .ok (.aload_n 1, 1)) rfl ?_
  refine sm_get (pc := 77) (ci := 2) (j := 7) (N := 11) (T := TX2) G hb ho hy rfl (by decide) gin_2 gw1_78 (by decide +kernel : decode cX2_copyFrom 77 = .ok (.getfield 24, 3)) ?_
  refine sm_aload_n (pc := 80) G hb (by decide +kernel : decode cX2_copyFrom 80 = .ok (.aload_n 0, 1)) rfl ?_
  refine sm_get (pc := 81) (ci := 2) (j := 7) (N := 11) (T := TX2) G hb ho hy rfl (by decide) gin_2 gw1_78 (by decide +kernel : decode cX2_copyFrom 81 = .ok (.getfield 24, 3)) ?_
  refine sm_bipush (pc := 84) G hb (by decide +kernel : decode cX2_copyFrom 84 = .ok (.bipush 14, 2)) (by decide) ?_
  refine sm_mono (ca_sub gV_sub) (sm_callSN (pc := 86) G hb ho hy he hE.1 3 [14, 5] (kX8_copyRow hE N 14 14) ⟨rfl, rfl, by decide⟩ (by rw [hR]; exact ⟨by decide, by decide⟩) (by decide +kernel) gw3_44 gw3_45 gw1_1 gw3_46 (by decide +kernel : decode cX2_copyFrom 86 = .ok (.invokestatic 56, 3)) ?_)
  refine sm_aload_n (pc := 89) G hb (by decide +kernel : decode cX2_copyFrom 89 = .ok (.aload_n 1, 1)) rfl ?_
  refine sm_get (pc := 90) (ci := 2) (j := 8) (N := 11) (T := TX2) G hb ho hy rfl (by decide) gin_2 gw1_81 (by decide +kernel : decode cX2_copyFrom 90 = .ok (.getfield 27, 3)) ?_
  refine sm_aload_n (pc := 93) G hb (by decide +kernel : decode cX2_copyFrom 93 = .ok (.aload_n 0, 1)) rfl ?_
  refine sm_get (pc := 94) (ci := 2) (j := 8) (N := 11) (T := TX2) G hb ho hy rfl (by decide) gin_2 gw1_81 (by decide +kernel : decode cX2_copyFrom 94 = .ok (.getfield 27, 3)) ?_
  refine sm_iconst (pc := 97) G hb (by decide +kernel : decode cX2_copyFrom 97 = .ok (.iconst 4, 1)) (by decide) ?_
  refine sm_mono (ca_sub gV_sub) (sm_callSN (pc := 98) G hb ho hy he hE.1 3 [15, 6] (kX8_copyRow hE N 4 4) ⟨rfl, rfl, by decide⟩ (by rw [hR]; exact ⟨by decide, by decide⟩) (by decide +kernel) gw3_44 gw3_45 gw1_1 gw3_46 (by decide +kernel : decode cX2_copyFrom 98 = .ok (.invokestatic 56, 3)) ?_)
  refine sm_mask ?_
  exact fX2_copyFrom_s101 N G hb ho hy hR he hr hE
set_option maxRecDepth 100000 in
set_option maxHeartbeats 4000000 in
theorem fX2_copyFrom_s0 {γ : gG} {cs ss : Nat} {ε : gE5} (N : Nat) (G : gOK γ) (hb : gcc γ = cX2_copyFrom) (ho : gow γ = RX2) (hy : gly γ = gyNet2) (hR : grm γ = { frames := 2, cells := 0, slots := 0, locals := 48 }) (he : genv γ = ε) (hr : grt γ = none) (hE : gEnv ε) : gSm γ cs ss 0 (fX2_copyFrom_k0 N) := by
  unfold fX2_copyFrom_k0
  refine sm_aload_n (pc := 0) G hb (by decide +kernel : decode cX2_copyFrom 0 = .ok (.aload_n 0, 1)) rfl ?_
  refine sm_aload_n (pc := 1) G hb (by decide +kernel : decode cX2_copyFrom 1 = .ok (.aload_n 1, 1)) rfl ?_
  refine sm_get (pc := 2) (ci := 2) (j := 0) (N := 11) (T := TX2) G hb ho hy rfl (by decide) gin_2 gw1_45 (by decide +kernel : decode cX2_copyFrom 2 = .ok (.getfield 36, 3)) ?_
  refine sm_put (pc := 5) (ci := 2) (j := 0) (N := 11) (T := TX2) G hb ho hy tyX2 tyX2_ok nmX2 rfl (by decide) gin_2 gw1_45 rfl rfl (by decide +kernel : decode cX2_copyFrom 5 = .ok (.putfield 36, 3)) ?_
  refine sm_aload_n (pc := 8) G hb (by decide +kernel : decode cX2_copyFrom 8 = .ok (.aload_n 0, 1)) rfl ?_
  refine sm_aload_n (pc := 9) G hb (by decide +kernel : decode cX2_copyFrom 9 = .ok (.aload_n 1, 1)) rfl ?_
  refine sm_get (pc := 10) (ci := 2) (j := 1) (N := 11) (T := TX2) G hb ho hy rfl (by decide) gin_2 gw1_50 (by decide +kernel : decode cX2_copyFrom 10 = .ok (.getfield 40, 3)) ?_
  refine sm_put (pc := 13) (ci := 2) (j := 1) (N := 11) (T := TX2) G hb ho hy tyX2 tyX2_ok nmX2 rfl (by decide) gin_2 gw1_50 rfl rfl (by decide +kernel : decode cX2_copyFrom 13 = .ok (.putfield 40, 3)) ?_
  refine sm_aload_n (pc := 16) G hb (by decide +kernel : decode cX2_copyFrom 16 = .ok (.aload_n 0, 1)) rfl ?_
  refine sm_aload_n (pc := 17) G hb (by decide +kernel : decode cX2_copyFrom 17 = .ok (.aload_n 1, 1)) rfl ?_
  refine sm_get (pc := 18) (ci := 2) (j := 2) (N := 11) (T := TX2) G hb ho hy rfl (by decide) gin_2 gw1_56 (by decide +kernel : decode cX2_copyFrom 18 = .ok (.getfield 43, 3)) ?_
  refine sm_put (pc := 21) (ci := 2) (j := 2) (N := 11) (T := TX2) G hb ho hy tyX2 tyX2_ok nmX2 rfl (by decide) gin_2 gw1_56 rfl rfl (by decide +kernel : decode cX2_copyFrom 21 = .ok (.putfield 43, 3)) ?_
  refine sm_aload_n (pc := 24) G hb (by decide +kernel : decode cX2_copyFrom 24 = .ok (.aload_n 1, 1)) rfl ?_
  refine sm_get (pc := 25) (ci := 2) (j := 3) (N := 11) (T := TX2) G hb ho hy rfl (by decide) gin_2 gw1_60 (by decide +kernel : decode cX2_copyFrom 25 = .ok (.getfield 9, 3)) ?_
  refine sm_aload_n (pc := 28) G hb (by decide +kernel : decode cX2_copyFrom 28 = .ok (.aload_n 0, 1)) rfl ?_
  refine sm_get (pc := 29) (ci := 2) (j := 3) (N := 11) (T := TX2) G hb ho hy rfl (by decide) gin_2 gw1_60 (by decide +kernel : decode cX2_copyFrom 29 = .ok (.getfield 9, 3)) ?_
  refine sm_bipush (pc := 32) G hb (by decide +kernel : decode cX2_copyFrom 32 = .ok (.bipush 14, 2)) (by decide) ?_
  refine sm_mono (ca_sub gV_sub) (sm_callSN (pc := 34) G hb ho hy he hE.1 3 [10, 1] (kX8_copyRow hE N 14 14) ⟨rfl, rfl, by decide⟩ (by rw [hR]; exact ⟨by decide, by decide⟩) (by decide +kernel) gw3_44 gw3_45 gw1_1 gw3_46 (by decide +kernel : decode cX2_copyFrom 34 = .ok (.invokestatic 56, 3)) ?_)
  refine sm_aload_n (pc := 37) G hb (by decide +kernel : decode cX2_copyFrom 37 = .ok (.aload_n 1, 1)) rfl ?_
  refine sm_get (pc := 38) (ci := 2) (j := 4) (N := 11) (T := TX2) G hb ho hy rfl (by decide) gin_2 gw1_65 (by decide +kernel : decode cX2_copyFrom 38 = .ok (.getfield 15, 3)) ?_
  refine sm_aload_n (pc := 41) G hb (by decide +kernel : decode cX2_copyFrom 41 = .ok (.aload_n 0, 1)) rfl ?_
  refine sm_get (pc := 42) (ci := 2) (j := 4) (N := 11) (T := TX2) G hb ho hy rfl (by decide) gin_2 gw1_65 (by decide +kernel : decode cX2_copyFrom 42 = .ok (.getfield 15, 3)) ?_
  refine sm_bipush (pc := 45) G hb (by decide +kernel : decode cX2_copyFrom 45 = .ok (.bipush 14, 2)) (by decide) ?_
  refine sm_mono (ca_sub gV_sub) (sm_callSN (pc := 47) G hb ho hy he hE.1 3 [11, 2] (kX8_copyRow hE N 14 14) ⟨rfl, rfl, by decide⟩ (by rw [hR]; exact ⟨by decide, by decide⟩) (by decide +kernel) gw3_44 gw3_45 gw1_1 gw3_46 (by decide +kernel : decode cX2_copyFrom 47 = .ok (.invokestatic 56, 3)) ?_)
  refine sm_aload_n (pc := 50) G hb (by decide +kernel : decode cX2_copyFrom 50 = .ok (.aload_n 1, 1)) rfl ?_
  refine sm_get (pc := 51) (ci := 2) (j := 5) (N := 11) (T := TX2) G hb ho hy rfl (by decide) gin_2 gw1_70 (by decide +kernel : decode cX2_copyFrom 51 = .ok (.getfield 18, 3)) ?_
  refine sm_aload_n (pc := 54) G hb (by decide +kernel : decode cX2_copyFrom 54 = .ok (.aload_n 0, 1)) rfl ?_
  refine sm_get (pc := 55) (ci := 2) (j := 5) (N := 11) (T := TX2) G hb ho hy rfl (by decide) gin_2 gw1_70 (by decide +kernel : decode cX2_copyFrom 55 = .ok (.getfield 18, 3)) ?_
  refine sm_bipush (pc := 58) G hb (by decide +kernel : decode cX2_copyFrom 58 = .ok (.bipush 14, 2)) (by decide) ?_
  refine sm_mono (ca_sub gV_sub) (sm_callSN (pc := 60) G hb ho hy he hE.1 3 [12, 3] (kX8_copyRow hE N 14 14) ⟨rfl, rfl, by decide⟩ (by rw [hR]; exact ⟨by decide, by decide⟩) (by decide +kernel) gw3_44 gw3_45 gw1_1 gw3_46 (by decide +kernel : decode cX2_copyFrom 60 = .ok (.invokestatic 56, 3)) ?_)
  refine sm_mask ?_
  exact fX2_copyFrom_s63 N G hb ho hy hR he hr hE
theorem kX2_copyFrom {ε : gE5} (hE : gEnv ε) (N : Nat) : gCtr ε yX2_copyFrom cX2_copyFrom 2 none 2 48 gyNet2 (fX2_copyFrom N) :=
  gCtr_of hE.1 (by decide) (fun γ G hb ho hy hR he hr => fX2_copyFrom_s0 N G hb ho hy hR he hr hE)
