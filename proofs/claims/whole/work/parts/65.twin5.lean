set_option maxRecDepth 100000 in
set_option maxHeartbeats 4000000 in
theorem fX9_search_s112 {γ : gG} {cs ss : Nat} {ε : gE5} (N : Nat) (g : List Value → gM → Option (gR × gM)) (d : Nat) (hg : gCtr ε yX9_search cX9_search 8 none (2 + d) (44 + d * 27) gyM g) (G : gOK γ) (hb : gcc γ = cX9_search) (ho : gow γ = RX9) (hy : gly γ = gyM) (hR : grm γ = { frames := 2 + (d + 1), cells := 0, slots := 0, locals := 44 + (d + 1) * 27 }) (he : genv γ = ε) (hr : grt γ = none) (hE : gEnv ε) : gSm γ cs ss 112 (fX9_search_k112 N g) := by
  unfold fX9_search_k112
  refine sm_iload (pc := 112) G hb (by decide +kernel : decode cX9_search 112 = .ok (.iload 5, 2)) ?_
  refine sm_if_eq (pc := 114) (tgt := 139) G hb (by decide +kernel : decode cX9_search 114 = .ok (.ifCond .eq 25, 3)) (by decide) ?_ ?_
  · skip
    exact sm_vret (pc := 139) G hb (by decide +kernel : decode cX9_search 139 = .ok (.return_, 1)) hr
  · skip
    refine sm_aload_n (pc := 117) G hb (by decide +kernel : decode cX9_search 117 = .ok (.aload_n 0, 1)) rfl ?_
    refine sm_iload_n (pc := 118) G hb (by decide +kernel : decode cX9_search 118 = .ok (.iload_n 1, 1)) rfl ?_
    refine sm_iconst (pc := 119) G hb (by decide +kernel : decode cX9_search 119 = .ok (.iconst 1, 1)) (by decide) ?_
    refine sm_isub (pc := 120) G hb (by decide +kernel : decode cX9_search 120 = .ok (.isub, 1)) ?_
    refine sm_iload_n (pc := 121) G hb (by decide +kernel : decode cX9_search 121 = .ok (.iload_n 2, 1)) rfl ?_
    refine sm_iconst (pc := 122) G hb (by decide +kernel : decode cX9_search 122 = .ok (.iconst 1, 1)) (by decide) ?_
    refine sm_iload_n (pc := 123) G hb (by decide +kernel : decode cX9_search 123 = .ok (.iload_n 1, 1)) rfl ?_
    refine sm_ishl (pc := 124) G hb (by decide +kernel : decode cX9_search 124 = .ok (.ishl, 1)) ?_
    refine sm_ior (pc := 125) G hb (by decide +kernel : decode cX9_search 125 = .ok (.ior, 1)) ?_
    refine sm_iload_n (pc := 126) G hb (by decide +kernel : decode cX9_search 126 = .ok (.iload_n 3, 1)) rfl ?_
    refine sm_aload_n (pc := 127) G hb (by decide +kernel : decode cX9_search 127 = .ok (.aload_n 0, 1)) rfl ?_
    refine sm_get (pc := 128) (ci := 9) (j := 22) (N := 32) (T := TX9) G hb ho hy rfl (by decide) gin_9 gw6_18 (by decide +kernel : decode cX9_search 128 = .ok (.getfield 44, 3)) ?_
    refine sm_iload_n (pc := 131) G hb (by decide +kernel : decode cX9_search 131 = .ok (.iload_n 1, 1)) rfl ?_
    refine sm_iald (pc := 132) G hb hy (by decide +kernel : decode cX9_search 132 = .ok (.iaload, 1)) ?_
    refine sm_iadd (pc := 133) G hb (by decide +kernel : decode cX9_search 133 = .ok (.iadd, 1)) ?_
    refine sm_iload (pc := 134) G hb (by decide +kernel : decode cX9_search 134 = .ok (.iload 6, 2)) ?_
    refine sm_mono (cav_sub gV_sub) (sm_callV (pc := 136) (N := 32) (T := TX9) (C := RX9) G hb ho hy he hE.1 5 [0, 1, 2, 3, 4, 5, 6, 7, 8, 9, 10, 11, 12, 13, 14, 15, 16, 17] hg ⟨rfl, rfl, by decide⟩ (by rw [hR]; exact ⟨by show _ ≤ 2 + (d + 1); omega, by show _ ≤ 44 + (d + 1) * 27; omega⟩) rfl rfl (by decide +kernel) gw7_164 gw7_166 gw0_79 gw1_11 gw7_167 (by decide +kernel : decode cX9_search 136 = .ok (.invokevirtual 278, 3)) ?_)
    exact sm_vret (pc := 139) G hb (by decide +kernel : decode cX9_search 139 = .ok (.return_, 1)) hr
set_option maxRecDepth 100000 in
set_option maxHeartbeats 4000000 in
theorem fX9_search_s94 {γ : gG} {cs ss : Nat} {ε : gE5} (N : Nat) (g : List Value → gM → Option (gR × gM)) (d : Nat) (hg : gCtr ε yX9_search cX9_search 8 none (2 + d) (44 + d * 27) gyM g) (G : gOK γ) (hb : gcc γ = cX9_search) (ho : gow γ = RX9) (hy : gly γ = gyM) (hR : grm γ = { frames := 2 + (d + 1), cells := 0, slots := 0, locals := 44 + (d + 1) * 27 }) (he : genv γ = ε) (hr : grt γ = none) (hE : gEnv ε) : gSm γ cs ss 94 (fX9_search_k94 N g) := by
  unfold fX9_search_k94
  refine sm_istore (pc := 94) G hb (by decide +kernel : decode cX9_search 94 = .ok (.istore 7, 2)) ?_
  refine sm_iload (pc := 96) G hb (by decide +kernel : decode cX9_search 96 = .ok (.iload 7, 2)) ?_
  refine sm_if_ne (pc := 98) (tgt := 112) G hb (by decide +kernel : decode cX9_search 98 = .ok (.ifCond .ne 14, 3)) (by decide) ?_ ?_
  · skip
    refine sm_mask ?_
    exact fX9_search_s112 N g d hg G hb ho hy hR he hr hE
  · skip
    refine sm_aload_n (pc := 101) G hb (by decide +kernel : decode cX9_search 101 = .ok (.aload_n 0, 1)) rfl ?_
    refine sm_iload_n (pc := 102) G hb (by decide +kernel : decode cX9_search 102 = .ok (.iload_n 1, 1)) rfl ?_
    refine sm_iconst (pc := 103) G hb (by decide +kernel : decode cX9_search 103 = .ok (.iconst 1, 1)) (by decide) ?_
    refine sm_isub (pc := 104) G hb (by decide +kernel : decode cX9_search 104 = .ok (.isub, 1)) ?_
    refine sm_iload_n (pc := 105) G hb (by decide +kernel : decode cX9_search 105 = .ok (.iload_n 2, 1)) rfl ?_
    refine sm_iload_n (pc := 106) G hb (by decide +kernel : decode cX9_search 106 = .ok (.iload_n 3, 1)) rfl ?_
    refine sm_iload (pc := 107) G hb (by decide +kernel : decode cX9_search 107 = .ok (.iload 6, 2)) ?_
    refine sm_mono (cav_sub gV_sub) (sm_callV (pc := 109) (N := 32) (T := TX9) (C := RX9) G hb ho hy he hE.1 5 [0, 1, 2, 3, 4, 5, 6, 7, 8, 9, 10, 11, 12, 13, 14, 15, 16, 17] hg ⟨rfl, rfl, by decide⟩ (by rw [hR]; exact ⟨by show _ ≤ 2 + (d + 1); omega, by show _ ≤ 44 + (d + 1) * 27; omega⟩) rfl rfl (by decide +kernel) gw7_164 gw7_166 gw0_79 gw1_11 gw7_167 (by decide +kernel : decode cX9_search 109 = .ok (.invokevirtual 278, 3)) ?_)
    refine sm_mask ?_
    exact fX9_search_s112 N g d hg G hb ho hy hR he hr hE
set_option maxRecDepth 100000 in
set_option maxHeartbeats 4000000 in
theorem fX9_search_s93 {γ : gG} {cs ss : Nat} {ε : gE5} (N : Nat) (g : List Value → gM → Option (gR × gM)) (d : Nat) (hg : gCtr ε yX9_search cX9_search 8 none (2 + d) (44 + d * 27) gyM g) (G : gOK γ) (hb : gcc γ = cX9_search) (ho : gow γ = RX9) (hy : gly γ = gyM) (hR : grm γ = { frames := 2 + (d + 1), cells := 0, slots := 0, locals := 44 + (d + 1) * 27 }) (he : genv γ = ε) (hr : grt γ = none) (hE : gEnv ε) : gSm γ cs ss 93 (fX9_search_k93 N g) := by
  unfold fX9_search_k93
  refine sm_iconst (pc := 93) G hb (by decide +kernel : decode cX9_search 93 = .ok (.iconst 0, 1)) (by decide) ?_
  refine sm_mask ?_
  exact fX9_search_s94 N g d hg G hb ho hy hR he hr hE
set_option maxRecDepth 100000 in
set_option maxHeartbeats 4000000 in
theorem fX9_search_s63 {γ : gG} {cs ss : Nat} {ε : gE5} (N : Nat) (g : List Value → gM → Option (gR × gM)) (d : Nat) (hg : gCtr ε yX9_search cX9_search 8 none (2 + d) (44 + d * 27) gyM g) (G : gOK γ) (hb : gcc γ = cX9_search) (ho : gow γ = RX9) (hy : gly γ = gyM) (hR : grm γ = { frames := 2 + (d + 1), cells := 0, slots := 0, locals := 44 + (d + 1) * 27 }) (he : genv γ = ε) (hr : grt γ = none) (hE : gEnv ε) : gSm γ cs ss 63 (fX9_search_k63 N g) := by
  unfold fX9_search_k63
  refine sm_istore (pc := 63) G hb (by decide +kernel : decode cX9_search 63 = .ok (.istore 5, 2)) ?_
  refine sm_iload (pc := 65) G hb (by decide +kernel : decode cX9_search 65 = .ok (.iload 4, 2)) ?_
  refine sm_aload_n (pc := 67) G hb (by decide +kernel : decode cX9_search 67 = .ok (.aload_n 0, 1)) rfl ?_
  refine sm_get (pc := 68) (ci := 9) (j := 22) (N := 32) (T := TX9) G hb ho hy rfl (by decide) gin_9 gw6_18 (by decide +kernel : decode cX9_search 68 = .ok (.getfield 44, 3)) ?_
  refine sm_iload_n (pc := 71) G hb (by decide +kernel : decode cX9_search 71 = .ok (.iload_n 1, 1)) rfl ?_
  refine sm_iald (pc := 72) G hb hy (by decide +kernel : decode cX9_search 72 = .ok (.iaload, 1)) ?_
  refine sm_isub (pc := 73) G hb (by decide +kernel : decode cX9_search 73 = .ok (.isub, 1)) ?_
  refine sm_istore (pc := 74) G hb (by decide +kernel : decode cX9_search 74 = .ok (.istore 6, 2)) ?_
  refine sm_iload (pc := 76) G hb (by decide +kernel : decode cX9_search 76 = .ok (.iload 5, 2)) ?_
  refine sm_if_eq (pc := 78) (tgt := 93) G hb (by decide +kernel : decode cX9_search 78 = .ok (.ifCond .eq 15, 3)) (by decide) ?_ ?_
  · skip
    refine sm_mask ?_
    exact fX9_search_s93 N g d hg G hb ho hy hR he hr hE
  · skip
    refine sm_aload_n (pc := 81) G hb (by decide +kernel : decode cX9_search 81 = .ok (.aload_n 0, 1)) rfl ?_
    refine sm_iload_n (pc := 82) G hb (by decide +kernel : decode cX9_search 82 = .ok (.iload_n 1, 1)) rfl ?_
    refine sm_mono (cav_sub gI_sub) (sm_callV (pc := 83) (N := 32) (T := TX9) (C := RX9) G hb ho hy he hE.1 2 [0, 1, 2, 3, 4, 5, 6, 7, 8, 9, 10, 11, 12, 13, 14, 15, 16, 17] (kX9_hasRival hE N) ⟨rfl, rfl, by decide⟩ (by rw [hR]; exact ⟨by show _ ≤ 2 + (d + 1); omega, by show _ ≤ 44 + (d + 1) * 27; omega⟩) rfl rfl (by decide +kernel) gw7_168 gw7_170 gw0_80 gw1_11 gw7_171 (by decide +kernel : decode cX9_search 83 = .ok (.invokevirtual 275, 3)) ?_)
    refine sm_if_ne (pc := 86) (tgt := 93) G hb (by decide +kernel : decode cX9_search 86 = .ok (.ifCond .ne 7, 3)) (by decide) ?_ ?_
    · skip
      refine sm_mask ?_
      exact fX9_search_s93 N g d hg G hb ho hy hR he hr hE
    · skip
      refine sm_iconst (pc := 89) G hb (by decide +kernel : decode cX9_search 89 = .ok (.iconst 1, 1)) (by decide) ?_
      refine sm_goto (pc := 90) (tgt := 94) G hb (by decide +kernel : decode cX9_search 90 = .ok (.goto 4, 3)) (by decide) ?_
      refine sm_mask ?_
      exact fX9_search_s94 N g d hg G hb ho hy hR he hr hE
set_option maxRecDepth 100000 in
set_option maxHeartbeats 4000000 in
theorem fX9_search_s62 {γ : gG} {cs ss : Nat} {ε : gE5} (N : Nat) (g : List Value → gM → Option (gR × gM)) (d : Nat) (hg : gCtr ε yX9_search cX9_search 8 none (2 + d) (44 + d * 27) gyM g) (G : gOK γ) (hb : gcc γ = cX9_search) (ho : gow γ = RX9) (hy : gly γ = gyM) (hR : grm γ = { frames := 2 + (d + 1), cells := 0, slots := 0, locals := 44 + (d + 1) * 27 }) (he : genv γ = ε) (hr : grt γ = none) (hE : gEnv ε) : gSm γ cs ss 62 (fX9_search_k62 N g) := by
  unfold fX9_search_k62
  refine sm_iconst (pc := 62) G hb (by decide +kernel : decode cX9_search 62 = .ok (.iconst 0, 1)) (by decide) ?_
  refine sm_mask ?_
  exact fX9_search_s63 N g d hg G hb ho hy hR he hr hE
set_option maxRecDepth 100000 in
set_option maxHeartbeats 4000000 in
theorem fX9_search_s19 {γ : gG} {cs ss : Nat} {ε : gE5} (N : Nat) (g : List Value → gM → Option (gR × gM)) (d : Nat) (hg : gCtr ε yX9_search cX9_search 8 none (2 + d) (44 + d * 27) gyM g) (G : gOK γ) (hb : gcc γ = cX9_search) (ho : gow γ = RX9) (hy : gly γ = gyM) (hR : grm γ = { frames := 2 + (d + 1), cells := 0, slots := 0, locals := 44 + (d + 1) * 27 }) (he : genv γ = ε) (hr : grt γ = none) (hE : gEnv ε) : gSm γ cs ss 19 (fX9_search_k19 N g) := by
  unfold fX9_search_k19
  refine sm_iload_n (pc := 19) G hb (by decide +kernel : decode cX9_search 19 = .ok (.iload_n 1, 1)) rfl ?_
  refine sm_if_ge (pc := 20) (tgt := 34) G hb (by decide +kernel : decode cX9_search 20 = .ok (.ifCond .ge 14, 3)) (by decide) ?_ ?_
  · skip
    refine sm_aload_n (pc := 34) G hb (by decide +kernel : decode cX9_search 34 = .ok (.aload_n 0, 1)) rfl ?_
    refine sm_get (pc := 35) (ci := 9) (j := 22) (N := 32) (T := TX9) G hb ho hy rfl (by decide) gin_9 gw6_18 (by decide +kernel : decode cX9_search 35 = .ok (.getfield 44, 3)) ?_
    refine sm_iload_n (pc := 38) G hb (by decide +kernel : decode cX9_search 38 = .ok (.iload_n 1, 1)) rfl ?_
    refine sm_iald (pc := 39) G hb hy (by decide +kernel : decode cX9_search 39 = .ok (.iaload, 1)) ?_
    refine sm_if_le (pc := 40) (tgt := 62) G hb (by decide +kernel : decode cX9_search 40 = .ok (.ifCond .le 22, 3)) (by decide) ?_ ?_
    · skip
      refine sm_mask ?_
      exact fX9_search_s62 N g d hg G hb ho hy hR he hr hE
    · skip
      refine sm_aload_n (pc := 43) G hb (by decide +kernel : decode cX9_search 43 = .ok (.aload_n 0, 1)) rfl ?_
      refine sm_get (pc := 44) (ci := 9) (j := 9) (N := 32) (T := TX9) G hb ho hy rfl (by decide) gin_9 gw6_5 (by decide +kernel : decode cX9_search 44 = .ok (.getfield 16, 3)) ?_
      refine sm_sipush (pc := 47) G hb (by decide +kernel : decode cX9_search 47 = .ok (.sipush 131, 3)) (by decide) ?_
      refine sm_iload_n (pc := 50) G hb (by decide +kernel : decode cX9_search 50 = .ok (.iload_n 1, 1)) rfl ?_
      refine sm_iadd (pc := 51) G hb (by decide +kernel : decode cX9_search 51 = .ok (.iadd, 1)) ?_
      refine sm_iald (pc := 52) G hb hy (by decide +kernel : decode cX9_search 52 = .ok (.iaload, 1)) ?_
      refine sm_iload_n (pc := 53) G hb (by decide +kernel : decode cX9_search 53 = .ok (.iload_n 2, 1)) rfl ?_
      refine sm_iand (pc := 54) G hb (by decide +kernel : decode cX9_search 54 = .ok (.iand, 1)) ?_
      refine sm_if_ne (pc := 55) (tgt := 62) G hb (by decide +kernel : decode cX9_search 55 = .ok (.ifCond .ne 7, 3)) (by decide) ?_ ?_
      · skip
        refine sm_mask ?_
        exact fX9_search_s62 N g d hg G hb ho hy hR he hr hE
      · skip
        refine sm_iconst (pc := 58) G hb (by decide +kernel : decode cX9_search 58 = .ok (.iconst 1, 1)) (by decide) ?_
        refine sm_goto (pc := 59) (tgt := 63) G hb (by decide +kernel : decode cX9_search 59 = .ok (.goto 4, 3)) (by decide) ?_
        refine sm_mask ?_
        exact fX9_search_s63 N g d hg G hb ho hy hR he hr hE
  · skip
    refine sm_aload_n (pc := 23) G hb (by decide +kernel : decode cX9_search 23 = .ok (.aload_n 0, 1)) rfl ?_
    refine sm_iload_n (pc := 24) G hb (by decide +kernel : decode cX9_search 24 = .ok (.iload_n 2, 1)) rfl ?_
    refine sm_put (pc := 25) (ci := 9) (j := 23) (N := 32) (T := TX9) G hb ho hy tyX9 tyX9_ok nmX9 rfl (by decide) gin_9 gw6_19 rfl rfl (by decide +kernel : decode cX9_search 25 = .ok (.putfield 272, 3)) ?_
    refine sm_aload_n (pc := 28) G hb (by decide +kernel : decode cX9_search 28 = .ok (.aload_n 0, 1)) rfl ?_
    refine sm_iload_n (pc := 29) G hb (by decide +kernel : decode cX9_search 29 = .ok (.iload_n 3, 1)) rfl ?_
    refine sm_put (pc := 30) (ci := 9) (j := 24) (N := 32) (T := TX9) G hb ho hy tyX9 tyX9_ok nmX9 rfl (by decide) gin_9 gw6_20 rfl rfl (by decide +kernel : decode cX9_search 30 = .ok (.putfield 269, 3)) ?_
    exact sm_vret (pc := 33) G hb (by decide +kernel : decode cX9_search 33 = .ok (.return_, 1)) hr
set_option maxRecDepth 100000 in
set_option maxHeartbeats 4000000 in
theorem fX9_search_s0 {γ : gG} {cs ss : Nat} {ε : gE5} (N : Nat) (g : List Value → gM → Option (gR × gM)) (d : Nat) (hg : gCtr ε yX9_search cX9_search 8 none (2 + d) (44 + d * 27) gyM g) (G : gOK γ) (hb : gcc γ = cX9_search) (ho : gow γ = RX9) (hy : gly γ = gyM) (hR : grm γ = { frames := 2 + (d + 1), cells := 0, slots := 0, locals := 44 + (d + 1) * 27 }) (he : genv γ = ε) (hr : grt γ = none) (hE : gEnv ε) : gSm γ cs ss 0 (fX9_search_k0 N g) := by
  unfold fX9_search_k0
  refine sm_iload_n (pc := 0) G hb (by decide +kernel : decode cX9_search 0 = .ok (.iload_n 3, 1)) rfl ?_
  refine sm_iload (pc := 1) G hb (by decide +kernel : decode cX9_search 1 = .ok (.iload 4, 2)) ?_
  refine sm_iadd (pc := 3) G hb (by decide +kernel : decode cX9_search 3 = .ok (.iadd, 1)) ?_
  refine sm_aload_n (pc := 4) G hb (by decide +kernel : decode cX9_search 4 = .ok (.aload_n 0, 1)) rfl ?_
  refine sm_get (pc := 5) (ci := 9) (j := 24) (N := 32) (T := TX9) G hb ho hy rfl (by decide) gin_9 gw6_20 (by decide +kernel : decode cX9_search 5 = .ok (.getfield 269, 3)) ?_
  refine sm_icmp_gt (pc := 8) (tgt := 19) G hb (by decide +kernel : decode cX9_search 8 = .ok (.if_icmp .gt 11, 3)) (by decide) ?_ ?_
  · skip
    refine sm_mask ?_
    exact fX9_search_s19 N g d hg G hb ho hy hR he hr hE
  · skip
    refine sm_aload_n (pc := 11) G hb (by decide +kernel : decode cX9_search 11 = .ok (.aload_n 0, 1)) rfl ?_
    refine sm_get (pc := 12) (ci := 9) (j := 24) (N := 32) (T := TX9) G hb ho hy rfl (by decide) gin_9 gw6_20 (by decide +kernel : decode cX9_search 12 = .ok (.getfield 269, 3)) ?_
    refine sm_if_lt (pc := 15) (tgt := 19) G hb (by decide +kernel : decode cX9_search 15 = .ok (.ifCond .lt 4, 3)) (by decide) ?_ ?_
    · skip
      refine sm_mask ?_
      exact fX9_search_s19 N g d hg G hb ho hy hR he hr hE
    · skip
      exact sm_vret (pc := 18) G hb (by decide +kernel : decode cX9_search 18 = .ok (.return_, 1)) hr
theorem kX9_search {ε : gE5} (hE : gEnv ε) (N : Nat) : ∀ d : Nat, gCtr ε yX9_search cX9_search 8 none (2 + d) (44 + d * 27) gyM (fX9_search N d)
  | 0 => by
    obtain ⟨l, E, n0, D, cA, ra⟩ := ε
    intro ad sz av I J r _ _ _ hf
    cases hf
  | d + 1 => gCtr_of hE.1 (by decide) (fun γ G hb ho hy hR he hr => fX9_search_s0 N (fX9_search N d) d (kX9_search hE N d) G hb ho hy hR he hr hE)

set_option maxRecDepth 100000 in
set_option maxHeartbeats 4000000 in
theorem fX9_exact_s4 {γ : gG} {cs ss : Nat} {ε : gE5} (N : Nat) (G : gOK γ) (hb : gcc γ = cX9_exact) (ho : gow γ = RX9) (hy : gly γ = gyM) (hR : grm γ = { frames := 19, cells := 0, slots := 0, locals := 503 }) (he : genv γ = ε) (hr : grt γ = (some .int)) (hE : gEnv ε) : gSm γ cs ss 4 (fX9_exact_k4 N) := by
  unfold fX9_exact_k4
  refine sm_lp (fun K4 h4 => ?_) N
  unfold fX9_exact_b4
  refine sm_iload_n (pc := 4) G hb (by decide +kernel : decode cX9_exact 4 = .ok (.iload_n 2, 1)) rfl ?_
  refine sm_aload_n (pc := 5) G hb (by decide +kernel : decode cX9_exact 5 = .ok (.aload_n 0, 1)) rfl ?_
  refine sm_get (pc := 6) (ci := 9) (j := 9) (N := 32) (T := TX9) G hb ho hy rfl (by decide) gin_9 gw6_5 (by decide +kernel : decode cX9_exact 6 = .ok (.getfield 16, 3)) ?_
  refine sm_iconst (pc := 9) G hb (by decide +kernel : decode cX9_exact 9 = .ok (.iconst 1, 1)) (by decide) ?_
  refine sm_iald (pc := 10) G hb hy (by decide +kernel : decode cX9_exact 10 = .ok (.iaload, 1)) ?_
  refine sm_icmp_ge (pc := 11) (tgt := 29) G hb (by decide +kernel : decode cX9_exact 11 = .ok (.if_icmp .ge 18, 3)) (by decide) ?_ ?_
  · skip
    refine sm_aload_n (pc := 29) G hb (by decide +kernel : decode cX9_exact 29 = .ok (.aload_n 0, 1)) rfl ?_
    refine sm_iconst (pc := 30) G hb (by decide +kernel : decode cX9_exact 30 = .ok (.iconst 0, 1)) (by decide) ?_
    refine sm_put (pc := 31) (ci := 9) (j := 23) (N := 32) (T := TX9) G hb ho hy tyX9 tyX9_ok nmX9 rfl (by decide) gin_9 gw6_19 rfl rfl (by decide +kernel : decode cX9_exact 31 = .ok (.putfield 272, 3)) ?_
    refine sm_aload_n (pc := 34) G hb (by decide +kernel : decode cX9_exact 34 = .ok (.aload_n 0, 1)) rfl ?_
    refine sm_iconst (pc := 35) G hb (by decide +kernel : decode cX9_exact 35 = .ok (.iconst (-1), 1)) (by decide) ?_
    refine sm_put (pc := 36) (ci := 9) (j := 24) (N := 32) (T := TX9) G hb ho hy tyX9 tyX9_ok nmX9 rfl (by decide) gin_9 gw6_20 rfl rfl (by decide +kernel : decode cX9_exact 36 = .ok (.putfield 269, 3)) ?_
    refine sm_aload_n (pc := 39) G hb (by decide +kernel : decode cX9_exact 39 = .ok (.aload_n 0, 1)) rfl ?_
    refine sm_aload_n (pc := 40) G hb (by decide +kernel : decode cX9_exact 40 = .ok (.aload_n 0, 1)) rfl ?_
    refine sm_get (pc := 41) (ci := 9) (j := 9) (N := 32) (T := TX9) G hb ho hy rfl (by decide) gin_9 gw6_5 (by decide +kernel : decode cX9_exact 41 = .ok (.getfield 16, 3)) ?_
    refine sm_iconst (pc := 44) G hb (by decide +kernel : decode cX9_exact 44 = .ok (.iconst 1, 1)) (by decide) ?_
    refine sm_iald (pc := 45) G hb hy (by decide +kernel : decode cX9_exact 45 = .ok (.iaload, 1)) ?_
    refine sm_iconst (pc := 46) G hb (by decide +kernel : decode cX9_exact 46 = .ok (.iconst 1, 1)) (by decide) ?_
    refine sm_isub (pc := 47) G hb (by decide +kernel : decode cX9_exact 47 = .ok (.isub, 1)) ?_
    refine sm_iconst (pc := 48) G hb (by decide +kernel : decode cX9_exact 48 = .ok (.iconst 0, 1)) (by decide) ?_
    refine sm_iconst (pc := 49) G hb (by decide +kernel : decode cX9_exact 49 = .ok (.iconst 0, 1)) (by decide) ?_
    refine sm_iload_n (pc := 50) G hb (by decide +kernel : decode cX9_exact 50 = .ok (.iload_n 1, 1)) rfl ?_
    refine sm_mono (cav_sub gV_sub) (sm_callV (pc := 51) (N := 32) (T := TX9) (C := RX9) G hb ho hy he hE.1 5 [0, 1, 2, 3, 4, 5, 6, 7, 8, 9, 10, 11, 12, 13, 14, 15, 16, 17] (kX9_search hE N 16) ⟨rfl, rfl, by decide⟩ (by rw [hR]; exact ⟨by decide, by decide⟩) rfl rfl (by decide +kernel) gw7_164 gw7_166 gw0_79 gw1_11 gw7_167 (by decide +kernel : decode cX9_exact 51 = .ok (.invokevirtual 278, 3)) ?_)
    refine sm_aload_n (pc := 54) G hb (by decide +kernel : decode cX9_exact 54 = .ok (.aload_n 0, 1)) rfl ?_
    refine sm_get (pc := 55) (ci := 9) (j := 23) (N := 32) (T := TX9) G hb ho hy rfl (by decide) gin_9 gw6_19 (by decide +kernel : decode cX9_exact 55 = .ok (.getfield 272, 3)) ?_
    exact sm_iret (pc := 58) G hb (by decide +kernel : decode cX9_exact 58 = .ok (.ireturn, 1)) hr
  · skip
    refine sm_iload_n (pc := 14) G hb (by decide +kernel : decode cX9_exact 14 = .ok (.iload_n 1, 1)) rfl ?_
    refine sm_aload_n (pc := 15) G hb (by decide +kernel : decode cX9_exact 15 = .ok (.aload_n 0, 1)) rfl ?_
    refine sm_get (pc := 16) (ci := 9) (j := 22) (N := 32) (T := TX9) G hb ho hy rfl (by decide) gin_9 gw6_18 (by decide +kernel : decode cX9_exact 16 = .ok (.getfield 44, 3)) ?_
    refine sm_iload_n (pc := 19) G hb (by decide +kernel : decode cX9_exact 19 = .ok (.iload_n 2, 1)) rfl ?_
    refine sm_iald (pc := 20) G hb hy (by decide +kernel : decode cX9_exact 20 = .ok (.iaload, 1)) ?_
    refine sm_iadd (pc := 21) G hb (by decide +kernel : decode cX9_exact 21 = .ok (.iadd, 1)) ?_
    refine sm_istore_n (pc := 22) G hb (by decide +kernel : decode cX9_exact 22 = .ok (.istore_n 1, 1)) rfl ?_
    refine sm_iinc (pc := 23) G hb (by decide +kernel : decode cX9_exact 23 = .ok (.iinc 2 1, 3)) (by decide) ?_
    refine sm_goto (pc := 26) (tgt := 4) G hb (by decide +kernel : decode cX9_exact 26 = .ok (.goto (-22), 3)) (by decide) ?_
    refine sm_mask ?_
    exact h4
set_option maxRecDepth 100000 in
set_option maxHeartbeats 4000000 in
theorem fX9_exact_s0 {γ : gG} {cs ss : Nat} {ε : gE5} (N : Nat) (G : gOK γ) (hb : gcc γ = cX9_exact) (ho : gow γ = RX9) (hy : gly γ = gyM) (hR : grm γ = { frames := 19, cells := 0, slots := 0, locals := 503 }) (he : genv γ = ε) (hr : grt γ = (some .int)) (hE : gEnv ε) : gSm γ cs ss 0 (fX9_exact_k0 N) := by
  unfold fX9_exact_k0
  refine sm_iconst (pc := 0) G hb (by decide +kernel : decode cX9_exact 0 = .ok (.iconst 0, 1)) (by decide) ?_
  refine sm_istore_n (pc := 1) G hb (by decide +kernel : decode cX9_exact 1 = .ok (.istore_n 1, 1)) rfl ?_
  refine sm_iconst (pc := 2) G hb (by decide +kernel : decode cX9_exact 2 = .ok (.iconst 0, 1)) (by decide) ?_
  refine sm_istore_n (pc := 3) G hb (by decide +kernel : decode cX9_exact 3 = .ok (.istore_n 2, 1)) rfl ?_
  refine sm_mask ?_
  exact fX9_exact_s4 N G hb ho hy hR he hr hE
theorem kX9_exact {ε : gE5} (hE : gEnv ε) (N : Nat) : gCtr ε yX9_exact cX9_exact 3 (some .int) 19 503 gyM (fX9_exact N) :=
  gCtr_of hE.1 (by decide) (fun γ G hb ho hy hR he hr => fX9_exact_s0 N G hb ho hy hR he hr hE)

set_option maxRecDepth 100000 in
set_option maxHeartbeats 4000000 in
theorem fX9_scheduleBy_s0 {γ : gG} {cs ss : Nat} {ε : gE5} (N : Nat) (G : gOK γ) (hb : gcc γ = cX9_scheduleBy) (ho : gow γ = RX9) (hy : gly γ = gyM) (hR : grm γ = { frames := 20, cells := 0, slots := 0, locals := 525 }) (he : genv γ = ε) (hr : grt γ = (some .int)) (hE : gEnv ε) : gSm γ cs ss 0 (fX9_scheduleBy_k0 N) := by
  unfold fX9_scheduleBy_k0
  refine sm_aload_n (pc := 0) G hb (by decide +kernel : decode cX9_scheduleBy 0 = .ok (.aload_n 0, 1)) rfl ?_
  refine sm_mono (cav_sub gV_sub) (sm_callV (pc := 1) (N := 32) (T := TX9) (C := RX9) G hb ho hy he hE.1 1 [0, 1, 2, 3, 4, 5, 6, 7, 8, 9, 10, 11, 12, 13, 14, 15, 16, 17] (kX9_layWeights hE N) (gCo_of (by decide +kernel)) (by rw [hR]; exact ⟨by decide, by decide⟩) rfl rfl (by decide +kernel) gw7_131 gw7_133 gw0_71 gw1_11 gw7_134 (by decide +kernel : decode cX9_scheduleBy 1 = .ok (.invokevirtual 282, 3)) ?_)
  refine sm_iload_n (pc := 4) G hb (by decide +kernel : decode cX9_scheduleBy 4 = .ok (.iload_n 1, 1)) rfl ?_
  refine sm_if_ne (pc := 5) (tgt := 15) G hb (by decide +kernel : decode cX9_scheduleBy 5 = .ok (.ifCond .ne 10, 3)) (by decide) ?_ ?_
  · skip
    refine sm_aload_n (pc := 15) G hb (by decide +kernel : decode cX9_scheduleBy 15 = .ok (.aload_n 0, 1)) rfl ?_
    refine sm_mono (cav_sub gI_sub) (sm_callV (pc := 16) (N := 32) (T := TX9) (C := RX9) G hb ho hy he hE.1 1 [0, 1, 2, 3, 4, 5, 6, 7, 8, 9, 10, 11, 12, 13, 14, 15, 16, 17] (kX9_exact hE N) (gCo_of (by decide +kernel)) (by rw [hR]; exact ⟨by decide, by decide⟩) rfl rfl (by decide +kernel) gw7_160 gw7_162 gw0_78 gw1_11 gw7_163 (by decide +kernel : decode cX9_scheduleBy 16 = .ok (.invokevirtual 287, 3)) ?_)
    exact sm_iret (pc := 19) G hb (by decide +kernel : decode cX9_scheduleBy 19 = .ok (.ireturn, 1)) hr
  · skip
    refine sm_aload_n (pc := 8) G hb (by decide +kernel : decode cX9_scheduleBy 8 = .ok (.aload_n 0, 1)) rfl ?_
    refine sm_mono (cav_sub gI_sub) (sm_callV (pc := 9) (N := 32) (T := TX9) (C := RX9) G hb ho hy he hE.1 1 [0, 1, 2, 3, 4, 5, 6, 7, 8, 9, 10, 11, 12, 13, 14, 15, 16, 17] (kX9_greedy hE N) (gCo_of (by decide +kernel)) (by rw [hR]; exact ⟨by decide, by decide⟩) rfl rfl (by decide +kernel) gw7_156 gw7_158 gw0_77 gw1_11 gw7_159 (by decide +kernel : decode cX9_scheduleBy 9 = .ok (.invokevirtual 285, 3)) ?_)
    refine sm_goto (pc := 12) (tgt := 19) G hb (by decide +kernel : decode cX9_scheduleBy 12 = .ok (.goto 7, 3)) (by decide) ?_
    exact sm_iret (pc := 19) G hb (by decide +kernel : decode cX9_scheduleBy 19 = .ok (.ireturn, 1)) hr
theorem kX9_scheduleBy {ε : gE5} (hE : gEnv ε) (N : Nat) : gCtr ε yX9_scheduleBy cX9_scheduleBy 2 (some .int) 20 525 gyM (fX9_scheduleBy N) :=
  gCtr_of hE.1 (by decide) (fun γ G hb ho hy hR he hr => fX9_scheduleBy_s0 N G hb ho hy hR he hr hE)

set_option maxRecDepth 100000 in
set_option maxHeartbeats 4000000 in
theorem fX9_slot_s19 {γ : gG} {cs ss : Nat} {ε : gE5} (N : Nat) (G : gOK γ) (hb : gcc γ = cX9_slot) (ho : gow γ = RX9) (hy : gly γ = gyM) (hR : grm γ = { frames := 21, cells := 0, slots := 0, locals := 546 }) (he : genv γ = ε) (hr : grt γ = none) (hE : gEnv ε) : gSm γ cs ss 19 (fX9_slot_k19 N) := by
  unfold fX9_slot_k19
  refine sm_aload_n (pc := 19) G hb (by decide +kernel : decode cX9_slot 19 = .ok (.aload_n 0, 1)) rfl ?_
  refine sm_mono (cav_sub gV_sub) (sm_callV (pc := 20) (N := 32) (T := TX9) (C := RX9) G hb ho hy he hE.1 1 [0, 1, 2, 3, 4, 5, 6, 7, 8, 9, 10, 11, 12, 13, 14, 15, 16, 17] (kX9_expire hE N) (gCo_of (by decide +kernel)) (by rw [hR]; exact ⟨by decide, by decide⟩) rfl rfl (by decide +kernel) gw7_188 gw7_190 gw0_85 gw1_11 gw7_191 (by decide +kernel : decode cX9_slot 20 = .ok (.invokevirtual 331, 3)) ?_)
  refine sm_aload_n (pc := 23) G hb (by decide +kernel : decode cX9_slot 23 = .ok (.aload_n 0, 1)) rfl ?_
  refine sm_get (pc := 24) (ci := 9) (j := 9) (N := 32) (T := TX9) G hb ho hy rfl (by decide) gin_9 gw6_5 (by decide +kernel : decode cX9_slot 24 = .ok (.getfield 16, 3)) ?_
  refine sm_bipush (pc := 27) G hb (by decide +kernel : decode cX9_slot 27 = .ok (.bipush 7, 2)) (by decide) ?_
  refine sm_dup2 (pc := 29) G hb (by decide +kernel : decode cX9_slot 29 = .ok (.dup2, 1)) ?_
  refine sm_iald (pc := 30) G hb hy (by decide +kernel : decode cX9_slot 30 = .ok (.iaload, 1)) ?_
  refine sm_iconst (pc := 31) G hb (by decide +kernel : decode cX9_slot 31 = .ok (.iconst 1, 1)) (by decide) ?_
  refine sm_iadd (pc := 32) G hb (by decide +kernel : decode cX9_slot 32 = .ok (.iadd, 1)) ?_
  refine sm_iast (pc := 33) G hb hy (by decide +kernel : decode cX9_slot 33 = .ok (.iastore, 1)) ?_
  refine sm_aload_n (pc := 34) G hb (by decide +kernel : decode cX9_slot 34 = .ok (.aload_n 0, 1)) rfl ?_
  refine sm_get (pc := 35) (ci := 9) (j := 9) (N := 32) (T := TX9) G hb ho hy rfl (by decide) gin_9 gw6_5 (by decide +kernel : decode cX9_slot 35 = .ok (.getfield 16, 3)) ?_
  refine sm_bipush (pc := 38) G hb (by decide +kernel : decode cX9_slot 38 = .ok (.bipush 8, 2)) (by decide) ?_
  refine sm_aload_n (pc := 40) G hb (by decide +kernel : decode cX9_slot 40 = .ok (.aload_n 0, 1)) rfl ?_
  refine sm_get (pc := 41) (ci := 9) (j := 9) (N := 32) (T := TX9) G hb ho hy rfl (by decide) gin_9 gw6_5 (by decide +kernel : decode cX9_slot 41 = .ok (.getfield 16, 3)) ?_
  refine sm_bipush (pc := 44) G hb (by decide +kernel : decode cX9_slot 44 = .ok (.bipush 8, 2)) (by decide) ?_
  refine sm_iald (pc := 46) G hb hy (by decide +kernel : decode cX9_slot 46 = .ok (.iaload, 1)) ?_
  refine sm_aload_n (pc := 47) G hb (by decide +kernel : decode cX9_slot 47 = .ok (.aload_n 0, 1)) rfl ?_
  refine sm_get (pc := 48) (ci := 9) (j := 9) (N := 32) (T := TX9) G hb ho hy rfl (by decide) gin_9 gw6_5 (by decide +kernel : decode cX9_slot 48 = .ok (.getfield 16, 3)) ?_
  refine sm_sipush (pc := 51) G hb (by decide +kernel : decode cX9_slot 51 = .ok (.sipush 245, 3)) (by decide) ?_
  refine sm_iald (pc := 54) G hb hy (by decide +kernel : decode cX9_slot 54 = .ok (.iaload, 1)) ?_
  refine sm_jmax (pc := 55) G hb ho (by rw [hR]; exact ⟨by decide, by decide⟩) gw7_155 gw4_157 gw1_21 gw4_158 (by decide +kernel : decode cX9_slot 55 = .ok (.invokestatic 259, 3)) ?_
  refine sm_iast (pc := 58) G hb hy (by decide +kernel : decode cX9_slot 58 = .ok (.iastore, 1)) ?_
  exact sm_vret (pc := 59) G hb (by decide +kernel : decode cX9_slot 59 = .ok (.return_, 1)) hr
set_option maxRecDepth 100000 in
set_option maxHeartbeats 4000000 in
theorem fX9_slot_s0 {γ : gG} {cs ss : Nat} {ε : gE5} (N : Nat) (G : gOK γ) (hb : gcc γ = cX9_slot) (ho : gow γ = RX9) (hy : gly γ = gyM) (hR : grm γ = { frames := 21, cells := 0, slots := 0, locals := 546 }) (he : genv γ = ε) (hr : grt γ = none) (hE : gEnv ε) : gSm γ cs ss 0 (fX9_slot_k0 N) := by
  unfold fX9_slot_k0
  refine sm_aload_n (pc := 0) G hb (by decide +kernel : decode cX9_slot 0 = .ok (.aload_n 0, 1)) rfl ?_
  refine sm_mono (cav_sub gV_sub) (sm_callV (pc := 1) (N := 32) (T := TX9) (C := RX9) G hb ho hy he hE.1 1 [0, 1, 2, 3, 4, 5, 6, 7, 8, 9, 10, 11, 12, 13, 14, 15, 16, 17] (kX9_arrivals hE N) (gCo_of (by decide +kernel)) (by rw [hR]; exact ⟨by decide, by decide⟩) rfl rfl (by decide +kernel) gw7_120 gw7_122 gw0_69 gw1_11 gw7_123 (by decide +kernel : decode cX9_slot 1 = .ok (.invokevirtual 322, 3)) ?_)
  refine sm_aload_n (pc := 4) G hb (by decide +kernel : decode cX9_slot 4 = .ok (.aload_n 0, 1)) rfl ?_
  refine sm_aload_n (pc := 5) G hb (by decide +kernel : decode cX9_slot 5 = .ok (.aload_n 0, 1)) rfl ?_
  refine sm_aload_n (pc := 6) G hb (by decide +kernel : decode cX9_slot 6 = .ok (.aload_n 0, 1)) rfl ?_
  refine sm_get (pc := 7) (ci := 9) (j := 9) (N := 32) (T := TX9) G hb ho hy rfl (by decide) gin_9 gw6_5 (by decide +kernel : decode cX9_slot 7 = .ok (.getfield 16, 3)) ?_
  refine sm_bipush (pc := 10) G hb (by decide +kernel : decode cX9_slot 10 = .ok (.bipush 6, 2)) (by decide) ?_
  refine sm_iald (pc := 12) G hb hy (by decide +kernel : decode cX9_slot 12 = .ok (.iaload, 1)) ?_
  refine sm_mono (cav_sub gI_sub) (sm_callV (pc := 13) (N := 32) (T := TX9) (C := RX9) G hb ho hy he hE.1 2 [0, 1, 2, 3, 4, 5, 6, 7, 8, 9, 10, 11, 12, 13, 14, 15, 16, 17] (kX9_scheduleBy hE N) (gCo_of (by decide +kernel)) (by rw [hR]; exact ⟨by decide, by decide⟩) rfl rfl (by decide +kernel) gw7_127 gw7_129 gw0_70 gw1_11 gw7_130 (by decide +kernel : decode cX9_slot 13 = .ok (.invokevirtual 325, 3)) ?_)
  refine sm_mono (cav_sub gV_sub) (sm_callV (pc := 16) (N := 32) (T := TX9) (C := RX9) G hb ho hy he hE.1 2 [0, 1, 2, 3, 4, 5, 6, 7, 8, 9, 10, 11, 12, 13, 14, 15, 16, 17] (kX9_transmit hE N) (gCo_of (by decide +kernel)) (by rw [hR]; exact ⟨by decide, by decide⟩) rfl rfl (by decide +kernel) gw7_172 gw7_174 gw0_81 gw1_11 gw7_175 (by decide +kernel : decode cX9_slot 16 = .ok (.invokevirtual 328, 3)) ?_)
  refine sm_mask ?_
  exact fX9_slot_s19 N G hb ho hy hR he hr hE
theorem kX9_slot {ε : gE5} (hE : gEnv ε) (N : Nat) : gCtr ε yX9_slot cX9_slot 1 none 21 546 gyM (fX9_slot N) :=
  gCtr_of hE.1 (by decide) (fun γ G hb ho hy hR he hr => fX9_slot_s0 N G hb ho hy hR he hr hE)

set_option maxRecDepth 100000 in
set_option maxHeartbeats 4000000 in
theorem fX9_slots_s2 {γ : gG} {cs ss : Nat} {ε : gE5} (N : Nat) (G : gOK γ) (hb : gcc γ = cX9_slots) (ho : gow γ = RX9) (hy : gly γ = gyM) (hR : grm γ = { frames := 22, cells := 0, slots := 0, locals := 566 }) (he : genv γ = ε) (hr : grt γ = none) (hE : gEnv ε) : gSm γ cs ss 2 (fX9_slots_k2 N) := by
  unfold fX9_slots_k2
  refine sm_lp (fun K2 h2 => ?_) N
  unfold fX9_slots_b2
  refine sm_iload_n (pc := 2) G hb (by decide +kernel : decode cX9_slots 2 = .ok (.iload_n 2, 1)) rfl ?_
  refine sm_iload_n (pc := 3) G hb (by decide +kernel : decode cX9_slots 3 = .ok (.iload_n 1, 1)) rfl ?_
  refine sm_icmp_ge (pc := 4) (tgt := 17) G hb (by decide +kernel : decode cX9_slots 4 = .ok (.if_icmp .ge 13, 3)) (by decide) ?_ ?_
  · skip
    exact sm_vret (pc := 17) G hb (by decide +kernel : decode cX9_slots 17 = .ok (.return_, 1)) hr
  · skip
    refine sm_aload_n (pc := 7) G hb (by decide +kernel : decode cX9_slots 7 = .ok (.aload_n 0, 1)) rfl ?_
    refine sm_mono (cav_sub gV_sub) (sm_callV (pc := 8) (N := 32) (T := TX9) (C := RX9) G hb ho hy he hE.1 1 [0, 1, 2, 3, 4, 5, 6, 7, 8, 9, 10, 11, 12, 13, 14, 15, 16, 17] (kX9_slot hE N) (gCo_of (by decide +kernel)) (by rw [hR]; exact ⟨by decide, by decide⟩) rfl rfl (by decide +kernel) gw7_116 gw7_118 gw0_68 gw1_11 gw7_119 (by decide +kernel : decode cX9_slots 8 = .ok (.invokevirtual 334, 3)) ?_)
    refine sm_iinc (pc := 11) G hb (by decide +kernel : decode cX9_slots 11 = .ok (.iinc 2 1, 3)) (by decide) ?_
    refine sm_goto (pc := 14) (tgt := 2) G hb (by decide +kernel : decode cX9_slots 14 = .ok (.goto (-12), 3)) (by decide) ?_
    refine sm_mask ?_
    exact h2
set_option maxRecDepth 100000 in
set_option maxHeartbeats 4000000 in
theorem fX9_slots_s0 {γ : gG} {cs ss : Nat} {ε : gE5} (N : Nat) (G : gOK γ) (hb : gcc γ = cX9_slots) (ho : gow γ = RX9) (hy : gly γ = gyM) (hR : grm γ = { frames := 22, cells := 0, slots := 0, locals := 566 }) (he : genv γ = ε) (hr : grt γ = none) (hE : gEnv ε) : gSm γ cs ss 0 (fX9_slots_k0 N) := by
  unfold fX9_slots_k0
  refine sm_iconst (pc := 0) G hb (by decide +kernel : decode cX9_slots 0 = .ok (.iconst 0, 1)) (by decide) ?_
  refine sm_istore_n (pc := 1) G hb (by decide +kernel : decode cX9_slots 1 = .ok (.istore_n 2, 1)) rfl ?_
  refine sm_mask ?_
  exact fX9_slots_s2 N G hb ho hy hR he hr hE
theorem kX9_slots {ε : gE5} (hE : gEnv ε) (N : Nat) : gCtr ε yX9_slots cX9_slots 3 none 22 566 gyM (fX9_slots N) :=
  gCtr_of hE.1 (by decide) (fun γ G hb ho hy hR he hr => fX9_slots_s0 N G hb ho hy hR he hr hE)

set_option maxRecDepth 100000 in
set_option maxHeartbeats 4000000 in
theorem fX9_run_s51 {γ : gG} {cs ss : Nat} {ε : gE5} (N : Nat) (G : gOK γ) (hb : gcc γ = cX9_run) (ho : gow γ = RX9) (hy : gly γ = gyM) (hR : grm γ = { frames := 23, cells := 0, slots := 0, locals := 588 }) (he : genv γ = ε) (hr : grt γ = (some .int)) (hE : gEnv ε) : gSm γ cs ss 51 (fX9_run_k51 N) := by
  unfold fX9_run_k51
  refine sm_aload_n (pc := 51) G hb (by decide +kernel : decode cX9_run 51 = .ok (.aload_n 0, 1)) rfl ?_
  refine sm_get (pc := 52) (ci := 9) (j := 9) (N := 32) (T := TX9) G hb ho hy rfl (by decide) gin_9 gw6_5 (by decide +kernel : decode cX9_run 52 = .ok (.getfield 16, 3)) ?_
  refine sm_sipush (pc := 55) G hb (by decide +kernel : decode cX9_run 55 = .ok (.sipush 245, 3)) (by decide) ?_
  refine sm_iald (pc := 58) G hb hy (by decide +kernel : decode cX9_run 58 = .ok (.iaload, 1)) ?_
  exact sm_iret (pc := 59) G hb (by decide +kernel : decode cX9_run 59 = .ok (.ireturn, 1)) hr
set_option maxRecDepth 100000 in
set_option maxHeartbeats 4000000 in
theorem fX9_run_s33 {γ : gG} {cs ss : Nat} {ε : gE5} (N : Nat) (G : gOK γ) (hb : gcc γ = cX9_run) (ho : gow γ = RX9) (hy : gly γ = gyM) (hR : grm γ = { frames := 23, cells := 0, slots := 0, locals := 588 }) (he : genv γ = ε) (hr : grt γ = (some .int)) (hE : gEnv ε) : gSm γ cs ss 33 (fX9_run_k33 N) := by
  unfold fX9_run_k33
  refine sm_iconst (pc := 33) G hb (by decide +kernel : decode cX9_run 33 = .ok (.iconst 1, 1)) (by decide) ?_
  refine sm_mono (cav_sub gI_sub) (sm_callV (pc := 34) (N := 32) (T := TX9) (C := RX9) G hb ho hy he hE.1 3 [0, 1, 2, 3, 4, 5, 6, 7, 8, 9, 10, 11, 12, 13, 14, 15, 16, 17] (kX9_fails hE N) (gCo_of (by decide +kernel)) (by rw [hR]; exact ⟨by decide, by decide⟩) rfl rfl (by decide +kernel) gw6_105 gw6_107 gw0_34 gw1_11 gw6_108 (by decide +kernel : decode cX9_run 34 = .ok (.invokevirtual 87, 3)) ?_)
  refine sm_if_eq (pc := 37) (tgt := 42) G hb (by decide +kernel : decode cX9_run 37 = .ok (.ifCond .eq 5, 3)) (by decide) ?_ ?_
  · skip
    refine sm_aload_n (pc := 42) G hb (by decide +kernel : decode cX9_run 42 = .ok (.aload_n 0, 1)) rfl ?_
    refine sm_mono (cav_sub gV_sub) (sm_callV (pc := 43) (N := 32) (T := TX9) (C := RX9) G hb ho hy he hE.1 1 [0, 1, 2, 3, 4, 5, 6, 7, 8, 9, 10, 11, 12, 13, 14, 15, 16, 17] (kX9_record hE N) (gCo_of (by decide +kernel)) (by rw [hR]; exact ⟨by decide, by decide⟩) rfl rfl (by decide +kernel) gw7_5 gw7_7 gw0_53 gw1_11 gw7_8 (by decide +kernel : decode cX9_run 43 = .ok (.invokevirtual 345, 3)) ?_)
    refine sm_aload_n (pc := 46) G hb (by decide +kernel : decode cX9_run 46 = .ok (.aload_n 0, 1)) rfl ?_
    refine sm_iload_n (pc := 47) G hb (by decide +kernel : decode cX9_run 47 = .ok (.iload_n 1, 1)) rfl ?_
    refine sm_mono (cav_sub gV_sub) (sm_callV (pc := 48) (N := 32) (T := TX9) (C := RX9) G hb ho hy he hE.1 2 [0, 1, 2, 3, 4, 5, 6, 7, 8, 9, 10, 11, 12, 13, 14, 15, 16, 17] (kX9_slots hE N) (gCo_of (by decide +kernel)) (by rw [hR]; exact ⟨by decide, by decide⟩) rfl rfl (by decide +kernel) gw7_112 gw7_114 gw0_67 gw1_11 gw7_115 (by decide +kernel : decode cX9_run 48 = .ok (.invokevirtual 377, 3)) ?_)
    refine sm_mask ?_
    exact fX9_run_s51 N G hb ho hy hR he hr hE
  · skip
    refine sm_iconst (pc := 40) G hb (by decide +kernel : decode cX9_run 40 = .ok (.iconst 0, 1)) (by decide) ?_
    exact sm_iret (pc := 41) G hb (by decide +kernel : decode cX9_run 41 = .ok (.ireturn, 1)) hr
set_option maxRecDepth 100000 in
set_option maxHeartbeats 4000000 in
theorem fX9_run_s32 {γ : gG} {cs ss : Nat} {ε : gE5} (N : Nat) (G : gOK γ) (hb : gcc γ = cX9_run) (ho : gow γ = RX9) (hy : gly γ = gyM) (hR : grm γ = { frames := 23, cells := 0, slots := 0, locals := 588 }) (he : genv γ = ε) (hr : grt γ = (some .int)) (hE : gEnv ε) : gSm γ cs ss 32 (fX9_run_k32 N) := by
  unfold fX9_run_k32
  refine sm_iconst (pc := 32) G hb (by decide +kernel : decode cX9_run 32 = .ok (.iconst 0, 1)) (by decide) ?_
  refine sm_mask ?_
  exact fX9_run_s33 N G hb ho hy hR he hr hE
set_option maxRecDepth 100000 in
set_option maxHeartbeats 4000000 in
theorem fX9_run_s0 {γ : gG} {cs ss : Nat} {ε : gE5} (N : Nat) (G : gOK γ) (hb : gcc γ = cX9_run) (ho : gow γ = RX9) (hy : gly γ = gyM) (hR : grm γ = { frames := 23, cells := 0, slots := 0, locals := 588 }) (he : genv γ = ε) (hr : grt γ = (some .int)) (hE : gEnv ε) : gSm γ cs ss 0 (fX9_run_k0 N) := by
  unfold fX9_run_k0
  refine sm_aload_n (pc := 0) G hb (by decide +kernel : decode cX9_run 0 = .ok (.aload_n 0, 1)) rfl ?_
  refine sm_iconst (pc := 1) G hb (by decide +kernel : decode cX9_run 1 = .ok (.iconst 0, 1)) (by decide) ?_
  refine sm_put (pc := 2) (ci := 9) (j := 0) (N := 32) (T := TX9) G hb ho hy tyX9 tyX9_ok nmX9 rfl (by decide) gin_9 gw5_236 rfl rfl (by decide +kernel : decode cX9_run 2 = .ok (.putfield 76, 3)) ?_
  refine sm_aload_n (pc := 5) G hb (by decide +kernel : decode cX9_run 5 = .ok (.aload_n 0, 1)) rfl ?_
  refine sm_iload_n (pc := 6) G hb (by decide +kernel : decode cX9_run 6 = .ok (.iload_n 1, 1)) rfl ?_
  refine sm_mono (ca_sub gI_sub) (sm_callS (pc := 7) G hb ho hy he hE.1 1 [] (kX9_areSlots hE N) (gCo_of (by decide +kernel)) (by rw [hR]; exact ⟨by decide, by decide⟩) (by decide +kernel) gw7_108 gw7_109 gw1_11 gw7_110 (by decide +kernel : decode cX9_run 7 = .ok (.invokestatic 374, 3)) ?_)
  refine sm_if_eq (pc := 10) (tgt := 32) G hb (by decide +kernel : decode cX9_run 10 = .ok (.ifCond .eq 22, 3)) (by decide) ?_ ?_
  · skip
    refine sm_mask ?_
    exact fX9_run_s32 N G hb ho hy hR he hr hE
  · skip
    refine sm_aload_n (pc := 13) G hb (by decide +kernel : decode cX9_run 13 = .ok (.aload_n 0, 1)) rfl ?_
    refine sm_get (pc := 14) (ci := 9) (j := 9) (N := 32) (T := TX9) G hb ho hy rfl (by decide) gin_9 gw6_5 (by decide +kernel : decode cX9_run 14 = .ok (.getfield 16, 3)) ?_
    refine sm_bipush (pc := 17) G hb (by decide +kernel : decode cX9_run 17 = .ok (.bipush 7, 2)) (by decide) ?_
    refine sm_iald (pc := 19) G hb hy (by decide +kernel : decode cX9_run 19 = .ok (.iaload, 1)) ?_
    refine sm_iload_n (pc := 20) G hb (by decide +kernel : decode cX9_run 20 = .ok (.iload_n 1, 1)) rfl ?_
    refine sm_iadd (pc := 21) G hb (by decide +kernel : decode cX9_run 21 = .ok (.iadd, 1)) ?_
    refine sm_sipush (pc := 22) G hb (by decide +kernel : decode cX9_run 22 = .ok (.sipush 9999, 3)) (by decide) ?_
    refine sm_icmp_gt (pc := 25) (tgt := 32) G hb (by decide +kernel : decode cX9_run 25 = .ok (.if_icmp .gt 7, 3)) (by decide) ?_ ?_
    · skip
      refine sm_mask ?_
      exact fX9_run_s32 N G hb ho hy hR he hr hE
    · skip
      refine sm_iconst (pc := 28) G hb (by decide +kernel : decode cX9_run 28 = .ok (.iconst 1, 1)) (by decide) ?_
      refine sm_goto (pc := 29) (tgt := 33) G hb (by decide +kernel : decode cX9_run 29 = .ok (.goto 4, 3)) (by decide) ?_
      refine sm_mask ?_
      exact fX9_run_s33 N G hb ho hy hR he hr hE
theorem kX9_run {ε : gE5} (hE : gEnv ε) (N : Nat) : gCtr ε yX9_run cX9_run 2 (some .int) 23 588 gyM (fX9_run N) :=
  gCtr_of hE.1 (by decide) (fun γ G hb ho hy hR he hr => fX9_run_s0 N G hb ho hy hR he hr hE)

set_option maxRecDepth 100000 in
set_option maxHeartbeats 4000000 in
theorem fX9_carries_s112 {γ : gG} {cs ss : Nat} {ε : gE5} (N : Nat) (G : gOK γ) (hb : gcc γ = cX9_carries) (ho : gow γ = RX9) (hy : gly γ = gyM) (hR : grm γ = { frames := 21, cells := 0, slots := 0, locals := 546 }) (he : genv γ = ε) (hr : grt γ = (some .int)) (hE : gEnv ε) (K37 : gK) (h37 : gSm γ cs ss 37 K37) : gSm γ cs ss 112 (fX9_carries_k112 N K37) := by
  unfold fX9_carries_k112
  refine sm_isub (pc := 112) G hb (by decide +kernel : decode cX9_carries 112 = .ok (.isub, 1)) ?_
  refine sm_istore_n (pc := 113) G hb (by decide +kernel : decode cX9_carries 113 = .ok (.istore_n 3, 1)) rfl ?_
  refine sm_iinc (pc := 114) G hb (by decide +kernel : decode cX9_carries 114 = .ok (.iinc 4 1, 3)) (by decide) ?_
  refine sm_goto (pc := 117) (tgt := 37) G hb (by decide +kernel : decode cX9_carries 117 = .ok (.goto (-80), 3)) (by decide) ?_
  refine sm_mask ?_
  exact h37
set_option maxRecDepth 100000 in
set_option maxHeartbeats 4000000 in
theorem fX9_carries_s111 {γ : gG} {cs ss : Nat} {ε : gE5} (N : Nat) (G : gOK γ) (hb : gcc γ = cX9_carries) (ho : gow γ = RX9) (hy : gly γ = gyM) (hR : grm γ = { frames := 21, cells := 0, slots := 0, locals := 546 }) (he : genv γ = ε) (hr : grt γ = (some .int)) (hE : gEnv ε) (K37 : gK) (h37 : gSm γ cs ss 37 K37) : gSm γ cs ss 111 (fX9_carries_k111 N K37) := by
  unfold fX9_carries_k111
  refine sm_iconst (pc := 111) G hb (by decide +kernel : decode cX9_carries 111 = .ok (.iconst 0, 1)) (by decide) ?_
  refine sm_mask ?_
  exact fX9_carries_s112 N G hb ho hy hR he hr hE K37 h37
set_option maxRecDepth 100000 in
set_option maxHeartbeats 4000000 in
theorem fX9_carries_s80 {γ : gG} {cs ss : Nat} {ε : gE5} (N : Nat) (G : gOK γ) (hb : gcc γ = cX9_carries) (ho : gow γ = RX9) (hy : gly γ = gyM) (hR : grm γ = { frames := 21, cells := 0, slots := 0, locals := 546 }) (he : genv γ = ε) (hr : grt γ = (some .int)) (hE : gEnv ε) (K37 : gK) (h37 : gSm γ cs ss 37 K37) : gSm γ cs ss 80 (fX9_carries_k80 N K37) := by
  unfold fX9_carries_k80
  refine sm_istore (pc := 80) G hb (by decide +kernel : decode cX9_carries 80 = .ok (.istore 5, 2)) ?_
  refine sm_iload_n (pc := 82) G hb (by decide +kernel : decode cX9_carries 82 = .ok (.iload_n 3, 1)) rfl ?_
  refine sm_iload_n (pc := 83) G hb (by decide +kernel : decode cX9_carries 83 = .ok (.iload_n 2, 1)) rfl ?_
  refine sm_iload (pc := 84) G hb (by decide +kernel : decode cX9_carries 84 = .ok (.iload 4, 2)) ?_
  refine sm_mono (ca_sub gI_sub) (sm_callS (pc := 86) G hb ho hy he hE.1 2 [] (kX9_has hE N) (gCo_of (by decide +kernel)) (by rw [hR]; exact ⟨by decide, by decide⟩) (by decide +kernel) gw6_187 gw6_188 gw1_11 gw6_189 (by decide +kernel : decode cX9_carries 86 = .ok (.invokestatic 170, 3)) ?_)
  refine sm_if_eq (pc := 89) (tgt := 111) G hb (by decide +kernel : decode cX9_carries 89 = .ok (.ifCond .eq 22, 3)) (by decide) ?_ ?_
  · skip
    refine sm_mask ?_
    exact fX9_carries_s111 N G hb ho hy hR he hr hE K37 h37
  · skip
    refine sm_iload (pc := 92) G hb (by decide +kernel : decode cX9_carries 92 = .ok (.iload 5, 2)) ?_
    refine sm_if_eq (pc := 94) (tgt := 111) G hb (by decide +kernel : decode cX9_carries 94 = .ok (.ifCond .eq 17, 3)) (by decide) ?_ ?_
    · skip
      refine sm_mask ?_
      exact fX9_carries_s111 N G hb ho hy hR he hr hE K37 h37
    · skip
      refine sm_iload_n (pc := 97) G hb (by decide +kernel : decode cX9_carries 97 = .ok (.iload_n 3, 1)) rfl ?_
      refine sm_aload_n (pc := 98) G hb (by decide +kernel : decode cX9_carries 98 = .ok (.aload_n 0, 1)) rfl ?_
      refine sm_iload (pc := 99) G hb (by decide +kernel : decode cX9_carries 99 = .ok (.iload 4, 2)) ?_
      refine sm_iconst (pc := 101) G hb (by decide +kernel : decode cX9_carries 101 = .ok (.iconst 2, 1)) (by decide) ?_
      refine sm_mono (cav_sub gI_sub) (sm_callV (pc := 102) (N := 32) (T := TX9) (C := RX9) G hb ho hy he hE.1 3 [0, 1, 2, 3, 4, 5, 6, 7, 8, 9, 10, 11, 12, 13, 14, 15, 16, 17] (kX9_linkPart hE N) (gCo_of (by decide +kernel)) (by rw [hR]; exact ⟨by decide, by decide⟩) rfl rfl (by decide +kernel) gw7_143 gw7_145 gw0_74 gw1_11 gw7_146 (by decide +kernel : decode cX9_carries 102 = .ok (.invokevirtual 250, 3)) ?_)
      refine sm_jmin (pc := 105) G hb ho (by rw [hR]; exact ⟨by decide, by decide⟩) gw6_138 gw4_178 gw1_21 gw4_179 (by decide +kernel : decode cX9_carries 105 = .ok (.invokestatic 118, 3)) ?_
      refine sm_goto (pc := 108) (tgt := 112) G hb (by decide +kernel : decode cX9_carries 108 = .ok (.goto 4, 3)) (by decide) ?_
      refine sm_mask ?_
      exact fX9_carries_s112 N G hb ho hy hR he hr hE K37 h37
set_option maxRecDepth 100000 in
set_option maxHeartbeats 4000000 in
theorem fX9_carries_s79 {γ : gG} {cs ss : Nat} {ε : gE5} (N : Nat) (G : gOK γ) (hb : gcc γ = cX9_carries) (ho : gow γ = RX9) (hy : gly γ = gyM) (hR : grm γ = { frames := 21, cells := 0, slots := 0, locals := 546 }) (he : genv γ = ε) (hr : grt γ = (some .int)) (hE : gEnv ε) (K37 : gK) (h37 : gSm γ cs ss 37 K37) : gSm γ cs ss 79 (fX9_carries_k79 N K37) := by
  unfold fX9_carries_k79
  refine sm_iconst (pc := 79) G hb (by decide +kernel : decode cX9_carries 79 = .ok (.iconst 0, 1)) (by decide) ?_
  refine sm_mask ?_
  exact fX9_carries_s80 N G hb ho hy hR he hr hE K37 h37
set_option maxRecDepth 100000 in
set_option maxHeartbeats 4000000 in
theorem fX9_carries_s37 {γ : gG} {cs ss : Nat} {ε : gE5} (N : Nat) (G : gOK γ) (hb : gcc γ = cX9_carries) (ho : gow γ = RX9) (hy : gly γ = gyM) (hR : grm γ = { frames := 21, cells := 0, slots := 0, locals := 546 }) (he : genv γ = ε) (hr : grt γ = (some .int)) (hE : gEnv ε) : gSm γ cs ss 37 (fX9_carries_k37 N) := by
  unfold fX9_carries_k37
  refine sm_lp (fun K37 h37 => ?_) N
  unfold fX9_carries_b37
  refine sm_iload (pc := 37) G hb (by decide +kernel : decode cX9_carries 37 = .ok (.iload 4, 2)) ?_
  refine sm_iload_n (pc := 39) G hb (by decide +kernel : decode cX9_carries 39 = .ok (.iload_n 1, 1)) rfl ?_
  refine sm_icmp_ge (pc := 40) (tgt := 120) G hb (by decide +kernel : decode cX9_carries 40 = .ok (.if_icmp .ge 80, 3)) (by decide) ?_ ?_
  · skip
    refine sm_iload_n (pc := 120) G hb (by decide +kernel : decode cX9_carries 120 = .ok (.iload_n 3, 1)) rfl ?_
    refine sm_aload_n (pc := 121) G hb (by decide +kernel : decode cX9_carries 121 = .ok (.aload_n 0, 1)) rfl ?_
    refine sm_iload_n (pc := 122) G hb (by decide +kernel : decode cX9_carries 122 = .ok (.iload_n 1, 1)) rfl ?_
    refine sm_iconst (pc := 123) G hb (by decide +kernel : decode cX9_carries 123 = .ok (.iconst 2, 1)) (by decide) ?_
    refine sm_mono (cav_sub gI_sub) (sm_callV (pc := 124) (N := 32) (T := TX9) (C := RX9) G hb ho hy he hE.1 3 [0, 1, 2, 3, 4, 5, 6, 7, 8, 9, 10, 11, 12, 13, 14, 15, 16, 17] (kX9_linkPart hE N) (gCo_of (by decide +kernel)) (by rw [hR]; exact ⟨by decide, by decide⟩) rfl rfl (by decide +kernel) gw7_143 gw7_145 gw0_74 gw1_11 gw7_146 (by decide +kernel : decode cX9_carries 124 = .ok (.invokevirtual 250, 3)) ?_)
    refine sm_jmin (pc := 127) G hb ho (by rw [hR]; exact ⟨by decide, by decide⟩) gw6_138 gw4_178 gw1_21 gw4_179 (by decide +kernel : decode cX9_carries 127 = .ok (.invokestatic 118, 3)) ?_
    exact sm_iret (pc := 130) G hb (by decide +kernel : decode cX9_carries 130 = .ok (.ireturn, 1)) hr
  · skip
    refine sm_aload_n (pc := 43) G hb (by decide +kernel : decode cX9_carries 43 = .ok (.aload_n 0, 1)) rfl ?_
    refine sm_iload (pc := 44) G hb (by decide +kernel : decode cX9_carries 44 = .ok (.iload 4, 2)) ?_
    refine sm_iconst (pc := 46) G hb (by decide +kernel : decode cX9_carries 46 = .ok (.iconst 0, 1)) (by decide) ?_
    refine sm_mono (cav_sub gI_sub) (sm_callV (pc := 47) (N := 32) (T := TX9) (C := RX9) G hb ho hy he hE.1 3 [0, 1, 2, 3, 4, 5, 6, 7, 8, 9, 10, 11, 12, 13, 14, 15, 16, 17] (kX9_linkPart hE N) (gCo_of (by decide +kernel)) (by rw [hR]; exact ⟨by decide, by decide⟩) rfl rfl (by decide +kernel) gw7_143 gw7_145 gw0_74 gw1_11 gw7_146 (by decide +kernel : decode cX9_carries 47 = .ok (.invokevirtual 250, 3)) ?_)
    refine sm_aload_n (pc := 50) G hb (by decide +kernel : decode cX9_carries 50 = .ok (.aload_n 0, 1)) rfl ?_
    refine sm_iload_n (pc := 51) G hb (by decide +kernel : decode cX9_carries 51 = .ok (.iload_n 1, 1)) rfl ?_
    refine sm_iconst (pc := 52) G hb (by decide +kernel : decode cX9_carries 52 = .ok (.iconst 0, 1)) (by decide) ?_
    refine sm_mono (cav_sub gI_sub) (sm_callV (pc := 53) (N := 32) (T := TX9) (C := RX9) G hb ho hy he hE.1 3 [0, 1, 2, 3, 4, 5, 6, 7, 8, 9, 10, 11, 12, 13, 14, 15, 16, 17] (kX9_linkPart hE N) (gCo_of (by decide +kernel)) (by rw [hR]; exact ⟨by decide, by decide⟩) rfl rfl (by decide +kernel) gw7_143 gw7_145 gw0_74 gw1_11 gw7_146 (by decide +kernel : decode cX9_carries 53 = .ok (.invokevirtual 250, 3)) ?_)
    refine sm_icmp_ne (pc := 56) (tgt := 79) G hb (by decide +kernel : decode cX9_carries 56 = .ok (.if_icmp .ne 23, 3)) (by decide) ?_ ?_
    · skip
      refine sm_mask ?_
      exact fX9_carries_s79 N G hb ho hy hR he hr hE K37 h37
    · skip
      refine sm_aload_n (pc := 59) G hb (by decide +kernel : decode cX9_carries 59 = .ok (.aload_n 0, 1)) rfl ?_
      refine sm_get (pc := 60) (ci := 9) (j := 21) (N := 32) (T := TX9) G hb ho hy rfl (by decide) gin_9 gw6_17 (by decide +kernel : decode cX9_carries 60 = .ok (.getfield 41, 3)) ?_
      refine sm_iload (pc := 63) G hb (by decide +kernel : decode cX9_carries 63 = .ok (.iload 4, 2)) ?_
      refine sm_iald (pc := 65) G hb hy (by decide +kernel : decode cX9_carries 65 = .ok (.iaload, 1)) ?_
      refine sm_aload_n (pc := 66) G hb (by decide +kernel : decode cX9_carries 66 = .ok (.aload_n 0, 1)) rfl ?_
      refine sm_get (pc := 67) (ci := 9) (j := 21) (N := 32) (T := TX9) G hb ho hy rfl (by decide) gin_9 gw6_17 (by decide +kernel : decode cX9_carries 67 = .ok (.getfield 41, 3)) ?_
      refine sm_iload_n (pc := 70) G hb (by decide +kernel : decode cX9_carries 70 = .ok (.iload_n 1, 1)) rfl ?_
      refine sm_iald (pc := 71) G hb hy (by decide +kernel : decode cX9_carries 71 = .ok (.iaload, 1)) ?_
      refine sm_icmp_ne (pc := 72) (tgt := 79) G hb (by decide +kernel : decode cX9_carries 72 = .ok (.if_icmp .ne 7, 3)) (by decide) ?_ ?_
      · skip
        refine sm_mask ?_
        exact fX9_carries_s79 N G hb ho hy hR he hr hE K37 h37
      · skip
        refine sm_iconst (pc := 75) G hb (by decide +kernel : decode cX9_carries 75 = .ok (.iconst 1, 1)) (by decide) ?_
        refine sm_goto (pc := 76) (tgt := 80) G hb (by decide +kernel : decode cX9_carries 76 = .ok (.goto 4, 3)) (by decide) ?_
        refine sm_mask ?_
        exact fX9_carries_s80 N G hb ho hy hR he hr hE K37 h37
set_option maxRecDepth 100000 in
set_option maxHeartbeats 4000000 in
theorem fX9_carries_s0 {γ : gG} {cs ss : Nat} {ε : gE5} (N : Nat) (G : gOK γ) (hb : gcc γ = cX9_carries) (ho : gow γ = RX9) (hy : gly γ = gyM) (hR : grm γ = { frames := 21, cells := 0, slots := 0, locals := 546 }) (he : genv γ = ε) (hr : grt γ = (some .int)) (hE : gEnv ε) : gSm γ cs ss 0 (fX9_carries_k0 N) := by
  unfold fX9_carries_k0
  refine sm_aload_n (pc := 0) G hb (by decide +kernel : decode cX9_carries 0 = .ok (.aload_n 0, 1)) rfl ?_
  refine sm_aload_n (pc := 1) G hb (by decide +kernel : decode cX9_carries 1 = .ok (.aload_n 0, 1)) rfl ?_
  refine sm_get (pc := 2) (ci := 9) (j := 9) (N := 32) (T := TX9) G hb ho hy rfl (by decide) gin_9 gw6_5 (by decide +kernel : decode cX9_carries 2 = .ok (.getfield 16, 3)) ?_
  refine sm_bipush (pc := 5) G hb (by decide +kernel : decode cX9_carries 5 = .ok (.bipush 6, 2)) (by decide) ?_
  refine sm_iald (pc := 7) G hb hy (by decide +kernel : decode cX9_carries 7 = .ok (.iaload, 1)) ?_
  refine sm_mono (cav_sub gI_sub) (sm_callV (pc := 8) (N := 32) (T := TX9) (C := RX9) G hb ho hy he hE.1 2 [0, 1, 2, 3, 4, 5, 6, 7, 8, 9, 10, 11, 12, 13, 14, 15, 16, 17] (kX9_scheduleBy hE N) (gCo_of (by decide +kernel)) (by rw [hR]; exact ⟨by decide, by decide⟩) rfl rfl (by decide +kernel) gw7_127 gw7_129 gw0_70 gw1_11 gw7_130 (by decide +kernel : decode cX9_carries 8 = .ok (.invokevirtual 325, 3)) ?_)
  refine sm_istore_n (pc := 11) G hb (by decide +kernel : decode cX9_carries 11 = .ok (.istore_n 2, 1)) rfl ?_
  refine sm_aload_n (pc := 12) G hb (by decide +kernel : decode cX9_carries 12 = .ok (.aload_n 0, 1)) rfl ?_
  refine sm_get (pc := 13) (ci := 9) (j := 20) (N := 32) (T := TX9) G hb ho hy rfl (by decide) gin_9 gw6_16 (by decide +kernel : decode cX9_carries 13 = .ok (.getfield 38, 3)) ?_
  refine sm_bipush (pc := 16) G hb (by decide +kernel : decode cX9_carries 16 = .ok (.bipush 10, 2)) (by decide) ?_
  refine sm_aload_n (pc := 18) G hb (by decide +kernel : decode cX9_carries 18 = .ok (.aload_n 0, 1)) rfl ?_
  refine sm_iload_n (pc := 19) G hb (by decide +kernel : decode cX9_carries 19 = .ok (.iload_n 1, 1)) rfl ?_
  refine sm_iconst (pc := 20) G hb (by decide +kernel : decode cX9_carries 20 = .ok (.iconst 0, 1)) (by decide) ?_
  refine sm_mono (cav_sub gI_sub) (sm_callV (pc := 21) (N := 32) (T := TX9) (C := RX9) G hb ho hy he hE.1 3 [0, 1, 2, 3, 4, 5, 6, 7, 8, 9, 10, 11, 12, 13, 14, 15, 16, 17] (kX9_linkPart hE N) (gCo_of (by decide +kernel)) (by rw [hR]; exact ⟨by decide, by decide⟩) rfl rfl (by decide +kernel) gw7_143 gw7_145 gw0_74 gw1_11 gw7_146 (by decide +kernel : decode cX9_carries 21 = .ok (.invokevirtual 250, 3)) ?_)
  refine sm_imul (pc := 24) G hb (by decide +kernel : decode cX9_carries 24 = .ok (.imul, 1)) ?_
  refine sm_aload_n (pc := 25) G hb (by decide +kernel : decode cX9_carries 25 = .ok (.aload_n 0, 1)) rfl ?_
  refine sm_get (pc := 26) (ci := 9) (j := 21) (N := 32) (T := TX9) G hb ho hy rfl (by decide) gin_9 gw6_17 (by decide +kernel : decode cX9_carries 26 = .ok (.getfield 41, 3)) ?_
  refine sm_iload_n (pc := 29) G hb (by decide +kernel : decode cX9_carries 29 = .ok (.iload_n 1, 1)) rfl ?_
  refine sm_iald (pc := 30) G hb hy (by decide +kernel : decode cX9_carries 30 = .ok (.iaload, 1)) ?_
  refine sm_iadd (pc := 31) G hb (by decide +kernel : decode cX9_carries 31 = .ok (.iadd, 1)) ?_
  refine sm_iald (pc := 32) G hb hy (by decide +kernel : decode cX9_carries 32 = .ok (.iaload, 1)) ?_
  refine sm_istore_n (pc := 33) G hb (by decide +kernel : decode cX9_carries 33 = .ok (.istore_n 3, 1)) rfl ?_
  refine sm_iconst (pc := 34) G hb (by decide +kernel : decode cX9_carries 34 = .ok (.iconst 0, 1)) (by decide) ?_
  refine sm_istore (pc := 35) G hb (by decide +kernel : decode cX9_carries 35 = .ok (.istore 4, 2)) ?_
  refine sm_mask ?_
  exact fX9_carries_s37 N G hb ho hy hR he hr hE
theorem kX9_carries {ε : gE5} (hE : gEnv ε) (N : Nat) : gCtr ε yX9_carries cX9_carries 6 (some .int) 21 546 gyM (fX9_carries N) :=
  gCtr_of hE.1 (by decide) (fun γ G hb ho hy hR he hr => fX9_carries_s0 N G hb ho hy hR he hr hE)

set_option maxRecDepth 100000 in
set_option maxHeartbeats 4000000 in
theorem fX9_link_s60 {γ : gG} {cs ss : Nat} {ε : gE5} (N : Nat) (G : gOK γ) (hb : gcc γ = cX9_link) (ho : gow γ = RX9) (hy : gly γ = gyM) (hR : grm γ = { frames := 22, cells := 0, slots := 0, locals := 571 }) (he : genv γ = ε) (hr : grt γ = (some .int)) (hE : gEnv ε) : gSm γ cs ss 60 (fX9_link_k60 N) := by
  unfold fX9_link_k60
  refine sm_istore_n (pc := 60) G hb (by decide +kernel : decode cX9_link 60 = .ok (.istore_n 3, 1)) rfl ?_
  refine sm_iload_n (pc := 61) G hb (by decide +kernel : decode cX9_link 61 = .ok (.iload_n 2, 1)) rfl ?_
  refine sm_bipush (pc := 62) G hb (by decide +kernel : decode cX9_link 62 = .ok (.bipush 6, 2)) (by decide) ?_
  refine sm_icmp_ge (pc := 64) (tgt := 88) G hb (by decide +kernel : decode cX9_link 64 = .ok (.if_icmp .ge 24, 3)) (by decide) ?_ ?_
  · skip
    refine sm_iload_n (pc := 88) G hb (by decide +kernel : decode cX9_link 88 = .ok (.iload_n 3, 1)) rfl ?_
    refine sm_iload_n (pc := 89) G hb (by decide +kernel : decode cX9_link 89 = .ok (.iload_n 1, 1)) rfl ?_
    refine sm_mono (ca_sub gI_sub) (sm_callS (pc := 90) G hb ho hy he hE.1 2 [] (kX9_has hE N) (gCo_of (by decide +kernel)) (by rw [hR]; exact ⟨by decide, by decide⟩) (by decide +kernel) gw6_187 gw6_188 gw1_11 gw6_189 (by decide +kernel : decode cX9_link 90 = .ok (.invokestatic 170, 3)) ?_)
    refine sm_istore (pc := 93) G hb (by decide +kernel : decode cX9_link 93 = .ok (.istore 4, 2)) ?_
    refine sm_iload_n (pc := 95) G hb (by decide +kernel : decode cX9_link 95 = .ok (.iload_n 2, 1)) rfl ?_
    refine sm_bipush (pc := 96) G hb (by decide +kernel : decode cX9_link 96 = .ok (.bipush 6, 2)) (by decide) ?_
    refine sm_icmp_ne (pc := 98) (tgt := 112) G hb (by decide +kernel : decode cX9_link 98 = .ok (.if_icmp .ne 14, 3)) (by decide) ?_ ?_
    · skip
      refine sm_iload (pc := 112) G hb (by decide +kernel : decode cX9_link 112 = .ok (.iload 4, 2)) ?_
      refine sm_if_eq (pc := 114) (tgt := 125) G hb (by decide +kernel : decode cX9_link 114 = .ok (.ifCond .eq 11, 3)) (by decide) ?_ ?_
      · skip
        refine sm_iconst (pc := 125) G hb (by decide +kernel : decode cX9_link 125 = .ok (.iconst 0, 1)) (by decide) ?_
        exact sm_iret (pc := 126) G hb (by decide +kernel : decode cX9_link 126 = .ok (.ireturn, 1)) hr
      · skip
        refine sm_aload_n (pc := 117) G hb (by decide +kernel : decode cX9_link 117 = .ok (.aload_n 0, 1)) rfl ?_
        refine sm_iload_n (pc := 118) G hb (by decide +kernel : decode cX9_link 118 = .ok (.iload_n 1, 1)) rfl ?_
        refine sm_mono (cav_sub gI_sub) (sm_callV (pc := 119) (N := 32) (T := TX9) (C := RX9) G hb ho hy he hE.1 2 [0, 1, 2, 3, 4, 5, 6, 7, 8, 9, 10, 11, 12, 13, 14, 15, 16, 17] (kX9_carries hE N) (gCo_of (by decide +kernel)) (by rw [hR]; exact ⟨by decide, by decide⟩) rfl rfl (by decide +kernel) gw7_202 gw7_204 gw0_86 gw1_11 gw7_205 (by decide +kernel : decode cX9_link 119 = .ok (.invokevirtual 384, 3)) ?_)
        refine sm_goto (pc := 122) (tgt := 126) G hb (by decide +kernel : decode cX9_link 122 = .ok (.goto 4, 3)) (by decide) ?_
        exact sm_iret (pc := 126) G hb (by decide +kernel : decode cX9_link 126 = .ok (.ireturn, 1)) hr
    · skip
      refine sm_iload (pc := 101) G hb (by decide +kernel : decode cX9_link 101 = .ok (.iload 4, 2)) ?_
      refine sm_if_eq (pc := 103) (tgt := 110) G hb (by decide +kernel : decode cX9_link 103 = .ok (.ifCond .eq 7, 3)) (by decide) ?_ ?_
      · skip
        refine sm_iconst (pc := 110) G hb (by decide +kernel : decode cX9_link 110 = .ok (.iconst 0, 1)) (by decide) ?_
        exact sm_iret (pc := 111) G hb (by decide +kernel : decode cX9_link 111 = .ok (.ireturn, 1)) hr
      · skip
        refine sm_iconst (pc := 106) G hb (by decide +kernel : decode cX9_link 106 = .ok (.iconst 1, 1)) (by decide) ?_
        refine sm_goto (pc := 107) (tgt := 111) G hb (by decide +kernel : decode cX9_link 107 = .ok (.goto 4, 3)) (by decide) ?_
        exact sm_iret (pc := 111) G hb (by decide +kernel : decode cX9_link 111 = .ok (.ireturn, 1)) hr
  · skip
    refine sm_iload_n (pc := 67) G hb (by decide +kernel : decode cX9_link 67 = .ok (.iload_n 2, 1)) rfl ?_
    refine sm_iconst (pc := 68) G hb (by decide +kernel : decode cX9_link 68 = .ok (.iconst 4, 1)) (by decide) ?_
    refine sm_icmp_ne (pc := 69) (tgt := 81) G hb (by decide +kernel : decode cX9_link 69 = .ok (.if_icmp .ne 12, 3)) (by decide) ?_ ?_
    · skip
      refine sm_aload_n (pc := 81) G hb (by decide +kernel : decode cX9_link 81 = .ok (.aload_n 0, 1)) rfl ?_
      refine sm_get (pc := 82) (ci := 9) (j := 22) (N := 32) (T := TX9) G hb ho hy rfl (by decide) gin_9 gw6_18 (by decide +kernel : decode cX9_link 82 = .ok (.getfield 44, 3)) ?_
      refine sm_iload_n (pc := 85) G hb (by decide +kernel : decode cX9_link 85 = .ok (.iload_n 1, 1)) rfl ?_
      refine sm_iald (pc := 86) G hb hy (by decide +kernel : decode cX9_link 86 = .ok (.iaload, 1)) ?_
      exact sm_iret (pc := 87) G hb (by decide +kernel : decode cX9_link 87 = .ok (.ireturn, 1)) hr
    · skip
      refine sm_aload_n (pc := 72) G hb (by decide +kernel : decode cX9_link 72 = .ok (.aload_n 0, 1)) rfl ?_
      refine sm_get (pc := 73) (ci := 9) (j := 21) (N := 32) (T := TX9) G hb ho hy rfl (by decide) gin_9 gw6_17 (by decide +kernel : decode cX9_link 73 = .ok (.getfield 41, 3)) ?_
      refine sm_iload_n (pc := 76) G hb (by decide +kernel : decode cX9_link 76 = .ok (.iload_n 1, 1)) rfl ?_
      refine sm_iald (pc := 77) G hb hy (by decide +kernel : decode cX9_link 77 = .ok (.iaload, 1)) ?_
      refine sm_goto (pc := 78) (tgt := 87) G hb (by decide +kernel : decode cX9_link 78 = .ok (.goto 9, 3)) (by decide) ?_
      exact sm_iret (pc := 87) G hb (by decide +kernel : decode cX9_link 87 = .ok (.ireturn, 1)) hr
set_option maxRecDepth 100000 in
set_option maxHeartbeats 4000000 in
theorem fX9_link_s28 {γ : gG} {cs ss : Nat} {ε : gE5} (N : Nat) (G : gOK γ) (hb : gcc γ = cX9_link) (ho : gow γ = RX9) (hy : gly γ = gyM) (hR : grm γ = { frames := 22, cells := 0, slots := 0, locals := 571 }) (he : genv γ = ε) (hr : grt γ = (some .int)) (hE : gEnv ε) : gSm γ cs ss 28 (fX9_link_k28 N) := by
  unfold fX9_link_k28
  refine sm_iconst (pc := 28) G hb (by decide +kernel : decode cX9_link 28 = .ok (.iconst 2, 1)) (by decide) ?_
  refine sm_mono (cav_sub gI_sub) (sm_callV (pc := 29) (N := 32) (T := TX9) (C := RX9) G hb ho hy he hE.1 3 [0, 1, 2, 3, 4, 5, 6, 7, 8, 9, 10, 11, 12, 13, 14, 15, 16, 17] (kX9_fails hE N) (gCo_of (by decide +kernel)) (by rw [hR]; exact ⟨by decide, by decide⟩) rfl rfl (by decide +kernel) gw6_105 gw6_107 gw0_34 gw1_11 gw6_108 (by decide +kernel : decode cX9_link 29 = .ok (.invokevirtual 87, 3)) ?_)
  refine sm_if_eq (pc := 32) (tgt := 37) G hb (by decide +kernel : decode cX9_link 32 = .ok (.ifCond .eq 5, 3)) (by decide) ?_ ?_
  · skip
    refine sm_iload_n (pc := 37) G hb (by decide +kernel : decode cX9_link 37 = .ok (.iload_n 2, 1)) rfl ?_
    refine sm_iconst (pc := 38) G hb (by decide +kernel : decode cX9_link 38 = .ok (.iconst 4, 1)) (by decide) ?_
    refine sm_icmp_ge (pc := 39) (tgt := 49) G hb (by decide +kernel : decode cX9_link 39 = .ok (.if_icmp .ge 10, 3)) (by decide) ?_ ?_
    · skip
      refine sm_aload_n (pc := 49) G hb (by decide +kernel : decode cX9_link 49 = .ok (.aload_n 0, 1)) rfl ?_
      refine sm_aload_n (pc := 50) G hb (by decide +kernel : decode cX9_link 50 = .ok (.aload_n 0, 1)) rfl ?_
      refine sm_get (pc := 51) (ci := 9) (j := 9) (N := 32) (T := TX9) G hb ho hy rfl (by decide) gin_9 gw6_5 (by decide +kernel : decode cX9_link 51 = .ok (.getfield 16, 3)) ?_
      refine sm_bipush (pc := 54) G hb (by decide +kernel : decode cX9_link 54 = .ok (.bipush 6, 2)) (by decide) ?_
      refine sm_iald (pc := 56) G hb hy (by decide +kernel : decode cX9_link 56 = .ok (.iaload, 1)) ?_
      refine sm_mono (cav_sub gI_sub) (sm_callV (pc := 57) (N := 32) (T := TX9) (C := RX9) G hb ho hy he hE.1 2 [0, 1, 2, 3, 4, 5, 6, 7, 8, 9, 10, 11, 12, 13, 14, 15, 16, 17] (kX9_scheduleBy hE N) (gCo_of (by decide +kernel)) (by rw [hR]; exact ⟨by decide, by decide⟩) rfl rfl (by decide +kernel) gw7_127 gw7_129 gw0_70 gw1_11 gw7_130 (by decide +kernel : decode cX9_link 57 = .ok (.invokevirtual 325, 3)) ?_)
      refine sm_mask ?_
      exact fX9_link_s60 N G hb ho hy hR he hr hE
    · skip
      refine sm_aload_n (pc := 42) G hb (by decide +kernel : decode cX9_link 42 = .ok (.aload_n 0, 1)) rfl ?_
      refine sm_iload_n (pc := 43) G hb (by decide +kernel : decode cX9_link 43 = .ok (.iload_n 1, 1)) rfl ?_
      refine sm_iload_n (pc := 44) G hb (by decide +kernel : decode cX9_link 44 = .ok (.iload_n 2, 1)) rfl ?_
      refine sm_mono (cav_sub gI_sub) (sm_callV (pc := 45) (N := 32) (T := TX9) (C := RX9) G hb ho hy he hE.1 3 [0, 1, 2, 3, 4, 5, 6, 7, 8, 9, 10, 11, 12, 13, 14, 15, 16, 17] (kX9_linkPart hE N) (gCo_of (by decide +kernel)) (by rw [hR]; exact ⟨by decide, by decide⟩) rfl rfl (by decide +kernel) gw7_143 gw7_145 gw0_74 gw1_11 gw7_146 (by decide +kernel : decode cX9_link 45 = .ok (.invokevirtual 250, 3)) ?_)
      exact sm_iret (pc := 48) G hb (by decide +kernel : decode cX9_link 48 = .ok (.ireturn, 1)) hr
  · skip
    refine sm_iconst (pc := 35) G hb (by decide +kernel : decode cX9_link 35 = .ok (.iconst 0, 1)) (by decide) ?_
    exact sm_iret (pc := 36) G hb (by decide +kernel : decode cX9_link 36 = .ok (.ireturn, 1)) hr
set_option maxRecDepth 100000 in
set_option maxHeartbeats 4000000 in
theorem fX9_link_s0 {γ : gG} {cs ss : Nat} {ε : gE5} (N : Nat) (G : gOK γ) (hb : gcc γ = cX9_link) (ho : gow γ = RX9) (hy : gly γ = gyM) (hR : grm γ = { frames := 22, cells := 0, slots := 0, locals := 571 }) (he : genv γ = ε) (hr : grt γ = (some .int)) (hE : gEnv ε) : gSm γ cs ss 0 (fX9_link_k0 N) := by
  unfold fX9_link_k0
  refine sm_aload_n (pc := 0) G hb (by decide +kernel : decode cX9_link 0 = .ok (.aload_n 0, 1)) rfl ?_
  refine sm_iconst (pc := 1) G hb (by decide +kernel : decode cX9_link 1 = .ok (.iconst 0, 1)) (by decide) ?_
  refine sm_put (pc := 2) (ci := 9) (j := 0) (N := 32) (T := TX9) G hb ho hy tyX9 tyX9_ok nmX9 rfl (by decide) gin_9 gw5_236 rfl rfl (by decide +kernel : decode cX9_link 2 = .ok (.putfield 76, 3)) ?_
  refine sm_aload_n (pc := 5) G hb (by decide +kernel : decode cX9_link 5 = .ok (.aload_n 0, 1)) rfl ?_
  refine sm_aload_n (pc := 6) G hb (by decide +kernel : decode cX9_link 6 = .ok (.aload_n 0, 1)) rfl ?_
  refine sm_iload_n (pc := 7) G hb (by decide +kernel : decode cX9_link 7 = .ok (.iload_n 1, 1)) rfl ?_
  refine sm_mono (cav_sub gI_sub) (sm_callV (pc := 8) (N := 32) (T := TX9) (C := RX9) G hb ho hy he hE.1 2 [0, 1, 2, 3, 4, 5, 6, 7, 8, 9, 10, 11, 12, 13, 14, 15, 16, 17] (kX9_isLink hE N) (gCo_of (by decide +kernel)) (by rw [hR]; exact ⟨by decide, by decide⟩) rfl rfl (by decide +kernel) gw7_13 gw7_15 gw0_54 gw1_11 gw7_16 (by decide +kernel : decode cX9_link 8 = .ok (.invokevirtual 348, 3)) ?_)
  refine sm_iconst (pc := 11) G hb (by decide +kernel : decode cX9_link 11 = .ok (.iconst 1, 1)) (by decide) ?_
  refine sm_mono (cav_sub gI_sub) (sm_callV (pc := 12) (N := 32) (T := TX9) (C := RX9) G hb ho hy he hE.1 3 [0, 1, 2, 3, 4, 5, 6, 7, 8, 9, 10, 11, 12, 13, 14, 15, 16, 17] (kX9_fails hE N) (gCo_of (by decide +kernel)) (by rw [hR]; exact ⟨by decide, by decide⟩) rfl rfl (by decide +kernel) gw6_105 gw6_107 gw0_34 gw1_11 gw6_108 (by decide +kernel : decode cX9_link 12 = .ok (.invokevirtual 87, 3)) ?_)
  refine sm_if_ne (pc := 15) (tgt := 35) G hb (by decide +kernel : decode cX9_link 15 = .ok (.ifCond .ne 20, 3)) (by decide) ?_ ?_
  · skip
    refine sm_iconst (pc := 35) G hb (by decide +kernel : decode cX9_link 35 = .ok (.iconst 0, 1)) (by decide) ?_
    exact sm_iret (pc := 36) G hb (by decide +kernel : decode cX9_link 36 = .ok (.ireturn, 1)) hr
  · skip
    refine sm_aload_n (pc := 18) G hb (by decide +kernel : decode cX9_link 18 = .ok (.aload_n 0, 1)) rfl ?_
    refine sm_iload_n (pc := 19) G hb (by decide +kernel : decode cX9_link 19 = .ok (.iload_n 2, 1)) rfl ?_
    refine sm_i2l (pc := 20) G hb (by decide +kernel : decode cX9_link 20 = .ok (.i2l, 1)) ?_
    refine sm_lconst (pc := 21) G hb (by decide +kernel : decode cX9_link 21 = .ok (.lconst 0, 1)) (by decide) ?_
    refine sm_ldc2 (pc := 22) G hb ho (by decide +kernel : decode cX9_link 22 = .ok (.ldc2_w 382, 3)) gw7_201 ?_
    refine sm_mono (ca_sub gI_sub) (sm_callS (pc := 25) G hb ho hy he hE.1 3 [] (kX9_in hE N) (gCo_of (by decide +kernel)) (by rw [hR]; exact ⟨by decide, by decide⟩) (by decide +kernel) gw6_113 gw6_114 gw1_11 gw6_115 (by decide +kernel : decode cX9_link 25 = .ok (.invokestatic 91, 3)) ?_)
    refine sm_mask ?_
    exact fX9_link_s28 N G hb ho hy hR he hr hE
theorem kX9_link {ε : gE5} (hE : gEnv ε) (N : Nat) : gCtr ε yX9_link cX9_link 5 (some .int) 22 571 gyM (fX9_link N) :=
  gCtr_of hE.1 (by decide) (fun γ G hb ho hy hR he hr => fX9_link_s0 N G hb ho hy hR he hr hE)

set_option maxRecDepth 100000 in
set_option maxHeartbeats 4000000 in
theorem fX9_common_s0 {γ : gG} {cs ss : Nat} {ε : gE5} (N : Nat) (g : List Value → gM → Option (gR × gM)) (d : Nat) (hg : gCtr ε yX9_common cX9_common 2 (some .int) (0 + d) (0 + d * 21) gy0 g) (G : gOK γ) (hb : gcc γ = cX9_common) (ho : gow γ = RX9) (hy : gly γ = gy0) (hR : grm γ = { frames := 0 + (d + 1), cells := 0, slots := 0, locals := 0 + (d + 1) * 21 }) (he : genv γ = ε) (hr : grt γ = (some .int)) (hE : gEnv ε) : gSm γ cs ss 0 (fX9_common_k0 N g) := by
  unfold fX9_common_k0
  refine sm_iload_n (pc := 0) G hb (by decide +kernel : decode cX9_common 0 = .ok (.iload_n 1, 1)) rfl ?_
  refine sm_if_ne (pc := 1) (tgt := 8) G hb (by decide +kernel : decode cX9_common 1 = .ok (.ifCond .ne 7, 3)) (by decide) ?_ ?_
  · skip
    refine sm_iload_n (pc := 8) G hb (by decide +kernel : decode cX9_common 8 = .ok (.iload_n 1, 1)) rfl ?_
    refine sm_iload_n (pc := 9) G hb (by decide +kernel : decode cX9_common 9 = .ok (.iload_n 0, 1)) rfl ?_
    refine sm_iload_n (pc := 10) G hb (by decide +kernel : decode cX9_common 10 = .ok (.iload_n 1, 1)) rfl ?_
    refine sm_irem (pc := 11) G hb (by decide +kernel : decode cX9_common 11 = .ok (.irem, 1)) ?_
    refine sm_mono (ca_sub gI_sub) (sm_callS (pc := 12) G hb ho hy he hE.1 2 [] hg ⟨rfl, rfl, by decide⟩ (by rw [hR]; exact ⟨by show _ ≤ 0 + (d + 1); omega, by show _ ≤ 0 + (d + 1) * 21; omega⟩) (by decide +kernel) gw8_43 gw8_44 gw1_11 gw8_45 (by decide +kernel : decode cX9_common 12 = .ok (.invokestatic 412, 3)) ?_)
    exact sm_iret (pc := 15) G hb (by decide +kernel : decode cX9_common 15 = .ok (.ireturn, 1)) hr
  · skip
    refine sm_iload_n (pc := 4) G hb (by decide +kernel : decode cX9_common 4 = .ok (.iload_n 0, 1)) rfl ?_
    refine sm_goto (pc := 5) (tgt := 15) G hb (by decide +kernel : decode cX9_common 5 = .ok (.goto 10, 3)) (by decide) ?_
    exact sm_iret (pc := 15) G hb (by decide +kernel : decode cX9_common 15 = .ok (.ireturn, 1)) hr
theorem kX9_common {ε : gE5} (hE : gEnv ε) (N : Nat) : ∀ d : Nat, gCtr ε yX9_common cX9_common 2 (some .int) (0 + d) (0 + d * 21) gy0 (fX9_common N d)
  | 0 => by
    obtain ⟨l, E, n0, D, cA, ra⟩ := ε
    intro ad sz av I J r _ _ _ hf
    cases hf
  | d + 1 => gCtr_of hE.1 (by decide) (fun γ G hb ho hy hR he hr => fX9_common_s0 N (fX9_common N d) d (kX9_common hE N d) G hb ho hy hR he hr hE)

set_option maxRecDepth 100000 in
set_option maxHeartbeats 4000000 in
theorem fX9_meanDelay_s74 {γ : gG} {cs ss : Nat} {ε : gE5} (N : Nat) (G : gOK γ) (hb : gcc γ = cX9_meanDelay) (ho : gow γ = RX9) (hy : gly γ = gyM) (hR : grm γ = { frames := 71, cells := 0, slots := 0, locals := 1491 }) (he : genv γ = ε) (hr : grt γ = (some .int)) (hE : gEnv ε) : gSm γ cs ss 74 (fX9_meanDelay_k74 N) := by
  unfold fX9_meanDelay_k74
  refine sm_mono (cav_sub gI_sub) (sm_callV (pc := 74) (N := 32) (T := TX9) (C := RX9) G hb ho hy he hE.1 3 [0, 1, 2, 3, 4, 5, 6, 7, 8, 9, 10, 11, 12, 13, 14, 15, 16, 17] (kX9_flowPart hE N) (gCo_of (by decide +kernel)) (by rw [hR]; exact ⟨by decide, by decide⟩) rfl rfl (by decide +kernel) gw7_64 gw7_66 gw0_59 gw1_11 gw7_67 (by decide +kernel : decode cX9_meanDelay 74 = .ok (.invokevirtual 240, 3)) ?_)
  refine sm_iload_n (pc := 77) G hb (by decide +kernel : decode cX9_meanDelay 77 = .ok (.iload_n 3, 1)) rfl ?_
  refine sm_idiv (pc := 78) G hb (by decide +kernel : decode cX9_meanDelay 78 = .ok (.idiv, 1)) ?_
  exact sm_iret (pc := 79) G hb (by decide +kernel : decode cX9_meanDelay 79 = .ok (.ireturn, 1)) hr
set_option maxRecDepth 100000 in
set_option maxHeartbeats 4000000 in
theorem fX9_meanDelay_s57 {γ : gG} {cs ss : Nat} {ε : gE5} (N : Nat) (G : gOK γ) (hb : gcc γ = cX9_meanDelay) (ho : gow γ = RX9) (hy : gly γ = gyM) (hR : grm γ = { frames := 71, cells := 0, slots := 0, locals := 1491 }) (he : genv γ = ε) (hr : grt γ = (some .int)) (hE : gEnv ε) : gSm γ cs ss 57 (fX9_meanDelay_k57 N) := by
  unfold fX9_meanDelay_k57
  refine sm_mono (ca_sub gI_sub) (sm_callS (pc := 57) G hb ho hy he hE.1 2 [] (kX9_common hE N 70) ⟨rfl, rfl, by decide⟩ (by rw [hR]; exact ⟨by decide, by decide⟩) (by decide +kernel) gw8_43 gw8_44 gw1_11 gw8_45 (by decide +kernel : decode cX9_meanDelay 57 = .ok (.invokestatic 412, 3)) ?_)
  refine sm_istore_n (pc := 60) G hb (by decide +kernel : decode cX9_meanDelay 60 = .ok (.istore_n 3, 1)) rfl ?_
  refine sm_aload_n (pc := 61) G hb (by decide +kernel : decode cX9_meanDelay 61 = .ok (.aload_n 0, 1)) rfl ?_
  refine sm_iload_n (pc := 62) G hb (by decide +kernel : decode cX9_meanDelay 62 = .ok (.iload_n 1, 1)) rfl ?_
  refine sm_iload_n (pc := 63) G hb (by decide +kernel : decode cX9_meanDelay 63 = .ok (.iload_n 2, 1)) rfl ?_
  refine sm_if_eq (pc := 64) (tgt := 72) G hb (by decide +kernel : decode cX9_meanDelay 64 = .ok (.ifCond .eq 8, 3)) (by decide) ?_ ?_
  · skip
    refine sm_bipush (pc := 72) G hb (by decide +kernel : decode cX9_meanDelay 72 = .ok (.bipush 9, 2)) (by decide) ?_
    refine sm_mask ?_
    exact fX9_meanDelay_s74 N G hb ho hy hR he hr hE
  · skip
    refine sm_bipush (pc := 67) G hb (by decide +kernel : decode cX9_meanDelay 67 = .ok (.bipush 6, 2)) (by decide) ?_
    refine sm_goto (pc := 69) (tgt := 74) G hb (by decide +kernel : decode cX9_meanDelay 69 = .ok (.goto 5, 3)) (by decide) ?_
    refine sm_mask ?_
    exact fX9_meanDelay_s74 N G hb ho hy hR he hr hE
set_option maxRecDepth 100000 in
set_option maxHeartbeats 4000000 in
theorem fX9_meanDelay_s34 {γ : gG} {cs ss : Nat} {ε : gE5} (N : Nat) (G : gOK γ) (hb : gcc γ = cX9_meanDelay) (ho : gow γ = RX9) (hy : gly γ = gyM) (hR : grm γ = { frames := 71, cells := 0, slots := 0, locals := 1491 }) (he : genv γ = ε) (hr : grt γ = (some .int)) (hE : gEnv ε) : gSm γ cs ss 34 (fX9_meanDelay_k34 N) := by
  unfold fX9_meanDelay_k34
  refine sm_iconst (pc := 34) G hb (by decide +kernel : decode cX9_meanDelay 34 = .ok (.iconst 2, 1)) (by decide) ?_
  refine sm_mono (cav_sub gI_sub) (sm_callV (pc := 35) (N := 32) (T := TX9) (C := RX9) G hb ho hy he hE.1 3 [0, 1, 2, 3, 4, 5, 6, 7, 8, 9, 10, 11, 12, 13, 14, 15, 16, 17] (kX9_fails hE N) (gCo_of (by decide +kernel)) (by rw [hR]; exact ⟨by decide, by decide⟩) rfl rfl (by decide +kernel) gw6_105 gw6_107 gw0_34 gw1_11 gw6_108 (by decide +kernel : decode cX9_meanDelay 35 = .ok (.invokevirtual 87, 3)) ?_)
  refine sm_if_eq (pc := 38) (tgt := 43) G hb (by decide +kernel : decode cX9_meanDelay 38 = .ok (.ifCond .eq 5, 3)) (by decide) ?_ ?_
  · skip
    refine sm_aload_n (pc := 43) G hb (by decide +kernel : decode cX9_meanDelay 43 = .ok (.aload_n 0, 1)) rfl ?_
    refine sm_iload_n (pc := 44) G hb (by decide +kernel : decode cX9_meanDelay 44 = .ok (.iload_n 1, 1)) rfl ?_
    refine sm_bipush (pc := 45) G hb (by decide +kernel : decode cX9_meanDelay 45 = .ok (.bipush 9, 2)) (by decide) ?_
    refine sm_mono (cav_sub gI_sub) (sm_callV (pc := 47) (N := 32) (T := TX9) (C := RX9) G hb ho hy he hE.1 3 [0, 1, 2, 3, 4, 5, 6, 7, 8, 9, 10, 11, 12, 13, 14, 15, 16, 17] (kX9_flowPart hE N) (gCo_of (by decide +kernel)) (by rw [hR]; exact ⟨by decide, by decide⟩) rfl rfl (by decide +kernel) gw7_64 gw7_66 gw0_59 gw1_11 gw7_67 (by decide +kernel : decode cX9_meanDelay 47 = .ok (.invokevirtual 240, 3)) ?_)
    refine sm_aload_n (pc := 50) G hb (by decide +kernel : decode cX9_meanDelay 50 = .ok (.aload_n 0, 1)) rfl ?_
    refine sm_iload_n (pc := 51) G hb (by decide +kernel : decode cX9_meanDelay 51 = .ok (.iload_n 1, 1)) rfl ?_
    refine sm_bipush (pc := 52) G hb (by decide +kernel : decode cX9_meanDelay 52 = .ok (.bipush 6, 2)) (by decide) ?_
    refine sm_mono (cav_sub gI_sub) (sm_callV (pc := 54) (N := 32) (T := TX9) (C := RX9) G hb ho hy he hE.1 3 [0, 1, 2, 3, 4, 5, 6, 7, 8, 9, 10, 11, 12, 13, 14, 15, 16, 17] (kX9_flowPart hE N) (gCo_of (by decide +kernel)) (by rw [hR]; exact ⟨by decide, by decide⟩) rfl rfl (by decide +kernel) gw7_64 gw7_66 gw0_59 gw1_11 gw7_67 (by decide +kernel : decode cX9_meanDelay 54 = .ok (.invokevirtual 240, 3)) ?_)
    refine sm_mask ?_
    exact fX9_meanDelay_s57 N G hb ho hy hR he hr hE
  · skip
    refine sm_iconst (pc := 41) G hb (by decide +kernel : decode cX9_meanDelay 41 = .ok (.iconst 0, 1)) (by decide) ?_
    exact sm_iret (pc := 42) G hb (by decide +kernel : decode cX9_meanDelay 42 = .ok (.ireturn, 1)) hr
set_option maxRecDepth 100000 in
set_option maxHeartbeats 4000000 in
theorem fX9_meanDelay_s26 {γ : gG} {cs ss : Nat} {ε : gE5} (N : Nat) (G : gOK γ) (hb : gcc γ = cX9_meanDelay) (ho : gow γ = RX9) (hy : gly γ = gyM) (hR : grm γ = { frames := 71, cells := 0, slots := 0, locals := 1491 }) (he : genv γ = ε) (hr : grt γ = (some .int)) (hE : gEnv ε) : gSm γ cs ss 26 (fX9_meanDelay_k26 N) := by
  unfold fX9_meanDelay_k26
  refine sm_if_le (pc := 26) (tgt := 33) G hb (by decide +kernel : decode cX9_meanDelay 26 = .ok (.ifCond .le 7, 3)) (by decide) ?_ ?_
  · skip
    refine sm_iconst (pc := 33) G hb (by decide +kernel : decode cX9_meanDelay 33 = .ok (.iconst 0, 1)) (by decide) ?_
    refine sm_mask ?_
    exact fX9_meanDelay_s34 N G hb ho hy hR he hr hE
  · skip
    refine sm_iconst (pc := 29) G hb (by decide +kernel : decode cX9_meanDelay 29 = .ok (.iconst 1, 1)) (by decide) ?_
    refine sm_goto (pc := 30) (tgt := 34) G hb (by decide +kernel : decode cX9_meanDelay 30 = .ok (.goto 4, 3)) (by decide) ?_
    refine sm_mask ?_
    exact fX9_meanDelay_s34 N G hb ho hy hR he hr hE
set_option maxRecDepth 100000 in
set_option maxHeartbeats 4000000 in
theorem fX9_meanDelay_s0 {γ : gG} {cs ss : Nat} {ε : gE5} (N : Nat) (G : gOK γ) (hb : gcc γ = cX9_meanDelay) (ho : gow γ = RX9) (hy : gly γ = gyM) (hR : grm γ = { frames := 71, cells := 0, slots := 0, locals := 1491 }) (he : genv γ = ε) (hr : grt γ = (some .int)) (hE : gEnv ε) : gSm γ cs ss 0 (fX9_meanDelay_k0 N) := by
  unfold fX9_meanDelay_k0
  refine sm_aload_n (pc := 0) G hb (by decide +kernel : decode cX9_meanDelay 0 = .ok (.aload_n 0, 1)) rfl ?_
  refine sm_iconst (pc := 1) G hb (by decide +kernel : decode cX9_meanDelay 1 = .ok (.iconst 0, 1)) (by decide) ?_
  refine sm_put (pc := 2) (ci := 9) (j := 0) (N := 32) (T := TX9) G hb ho hy tyX9 tyX9_ok nmX9 rfl (by decide) gin_9 gw5_236 rfl rfl (by decide +kernel : decode cX9_meanDelay 2 = .ok (.putfield 76, 3)) ?_
  refine sm_aload_n (pc := 5) G hb (by decide +kernel : decode cX9_meanDelay 5 = .ok (.aload_n 0, 1)) rfl ?_
  refine sm_aload_n (pc := 6) G hb (by decide +kernel : decode cX9_meanDelay 6 = .ok (.aload_n 0, 1)) rfl ?_
  refine sm_iload_n (pc := 7) G hb (by decide +kernel : decode cX9_meanDelay 7 = .ok (.iload_n 1, 1)) rfl ?_
  refine sm_mono (cav_sub gI_sub) (sm_callV (pc := 8) (N := 32) (T := TX9) (C := RX9) G hb ho hy he hE.1 2 [0, 1, 2, 3, 4, 5, 6, 7, 8, 9, 10, 11, 12, 13, 14, 15, 16, 17] (kX9_isFlow hE N) (gCo_of (by decide +kernel)) (by rw [hR]; exact ⟨by decide, by decide⟩) rfl rfl (by decide +kernel) gw7_35 gw7_37 gw0_56 gw1_11 gw7_38 (by decide +kernel : decode cX9_meanDelay 8 = .ok (.invokevirtual 358, 3)) ?_)
  refine sm_iconst (pc := 11) G hb (by decide +kernel : decode cX9_meanDelay 11 = .ok (.iconst 1, 1)) (by decide) ?_
  refine sm_mono (cav_sub gI_sub) (sm_callV (pc := 12) (N := 32) (T := TX9) (C := RX9) G hb ho hy he hE.1 3 [0, 1, 2, 3, 4, 5, 6, 7, 8, 9, 10, 11, 12, 13, 14, 15, 16, 17] (kX9_fails hE N) (gCo_of (by decide +kernel)) (by rw [hR]; exact ⟨by decide, by decide⟩) rfl rfl (by decide +kernel) gw6_105 gw6_107 gw0_34 gw1_11 gw6_108 (by decide +kernel : decode cX9_meanDelay 12 = .ok (.invokevirtual 87, 3)) ?_)
  refine sm_if_ne (pc := 15) (tgt := 41) G hb (by decide +kernel : decode cX9_meanDelay 15 = .ok (.ifCond .ne 26, 3)) (by decide) ?_ ?_
  · skip
    refine sm_iconst (pc := 41) G hb (by decide +kernel : decode cX9_meanDelay 41 = .ok (.iconst 0, 1)) (by decide) ?_
    exact sm_iret (pc := 42) G hb (by decide +kernel : decode cX9_meanDelay 42 = .ok (.ireturn, 1)) hr
  · skip
    refine sm_aload_n (pc := 18) G hb (by decide +kernel : decode cX9_meanDelay 18 = .ok (.aload_n 0, 1)) rfl ?_
    refine sm_aload_n (pc := 19) G hb (by decide +kernel : decode cX9_meanDelay 19 = .ok (.aload_n 0, 1)) rfl ?_
    refine sm_iload_n (pc := 20) G hb (by decide +kernel : decode cX9_meanDelay 20 = .ok (.iload_n 1, 1)) rfl ?_
    refine sm_bipush (pc := 21) G hb (by decide +kernel : decode cX9_meanDelay 21 = .ok (.bipush 6, 2)) (by decide) ?_
    refine sm_mono (cav_sub gI_sub) (sm_callV (pc := 23) (N := 32) (T := TX9) (C := RX9) G hb ho hy he hE.1 3 [0, 1, 2, 3, 4, 5, 6, 7, 8, 9, 10, 11, 12, 13, 14, 15, 16, 17] (kX9_flowPart hE N) (gCo_of (by decide +kernel)) (by rw [hR]; exact ⟨by decide, by decide⟩) rfl rfl (by decide +kernel) gw7_64 gw7_66 gw0_59 gw1_11 gw7_67 (by decide +kernel : decode cX9_meanDelay 23 = .ok (.invokevirtual 240, 3)) ?_)
    refine sm_mask ?_
    exact fX9_meanDelay_s26 N G hb ho hy hR he hr hE
theorem kX9_meanDelay {ε : gE5} (hE : gEnv ε) (N : Nat) : gCtr ε yX9_meanDelay cX9_meanDelay 4 (some .int) 71 1491 gyM (fX9_meanDelay N) :=
  gCtr_of hE.1 (by decide) (fun γ G hb ho hy hR he hr => fX9_meanDelay_s0 N G hb ho hy hR he hr hE)

set_option maxRecDepth 100000 in
set_option maxHeartbeats 4000000 in
theorem fX9_schedule_s0 {γ : gG} {cs ss : Nat} {ε : gE5} (N : Nat) (G : gOK γ) (hb : gcc γ = cX9_schedule) (ho : gow γ = RX9) (hy : gly γ = gyM) (hR : grm γ = { frames := 21, cells := 0, slots := 0, locals := 546 }) (he : genv γ = ε) (hr : grt γ = (some .int)) (hE : gEnv ε) : gSm γ cs ss 0 (fX9_schedule_k0 N) := by
  unfold fX9_schedule_k0
  refine sm_aload_n (pc := 0) G hb (by decide +kernel : decode cX9_schedule 0 = .ok (.aload_n 0, 1)) rfl ?_
  refine sm_iconst (pc := 1) G hb (by decide +kernel : decode cX9_schedule 1 = .ok (.iconst 0, 1)) (by decide) ?_
  refine sm_put (pc := 2) (ci := 9) (j := 0) (N := 32) (T := TX9) G hb ho hy tyX9 tyX9_ok nmX9 rfl (by decide) gin_9 gw5_236 rfl rfl (by decide +kernel : decode cX9_schedule 2 = .ok (.putfield 76, 3)) ?_
  refine sm_aload_n (pc := 5) G hb (by decide +kernel : decode cX9_schedule 5 = .ok (.aload_n 0, 1)) rfl ?_
  refine sm_iload_n (pc := 6) G hb (by decide +kernel : decode cX9_schedule 6 = .ok (.iload_n 1, 1)) rfl ?_
  refine sm_i2l (pc := 7) G hb (by decide +kernel : decode cX9_schedule 7 = .ok (.i2l, 1)) ?_
  refine sm_lconst (pc := 8) G hb (by decide +kernel : decode cX9_schedule 8 = .ok (.lconst 0, 1)) (by decide) ?_
  refine sm_lconst (pc := 9) G hb (by decide +kernel : decode cX9_schedule 9 = .ok (.lconst 1, 1)) (by decide) ?_
  refine sm_mono (ca_sub gI_sub) (sm_callS (pc := 10) G hb ho hy he hE.1 3 [] (kX9_in hE N) (gCo_of (by decide +kernel)) (by rw [hR]; exact ⟨by decide, by decide⟩) (by decide +kernel) gw6_113 gw6_114 gw1_11 gw6_115 (by decide +kernel : decode cX9_schedule 10 = .ok (.invokestatic 91, 3)) ?_)
  refine sm_iconst (pc := 13) G hb (by decide +kernel : decode cX9_schedule 13 = .ok (.iconst 1, 1)) (by decide) ?_
  refine sm_mono (cav_sub gI_sub) (sm_callV (pc := 14) (N := 32) (T := TX9) (C := RX9) G hb ho hy he hE.1 3 [0, 1, 2, 3, 4, 5, 6, 7, 8, 9, 10, 11, 12, 13, 14, 15, 16, 17] (kX9_fails hE N) (gCo_of (by decide +kernel)) (by rw [hR]; exact ⟨by decide, by decide⟩) rfl rfl (by decide +kernel) gw6_105 gw6_107 gw0_34 gw1_11 gw6_108 (by decide +kernel : decode cX9_schedule 14 = .ok (.invokevirtual 87, 3)) ?_)
  refine sm_if_eq (pc := 17) (tgt := 24) G hb (by decide +kernel : decode cX9_schedule 17 = .ok (.ifCond .eq 7, 3)) (by decide) ?_ ?_
  · skip
    refine sm_aload_n (pc := 24) G hb (by decide +kernel : decode cX9_schedule 24 = .ok (.aload_n 0, 1)) rfl ?_
    refine sm_iload_n (pc := 25) G hb (by decide +kernel : decode cX9_schedule 25 = .ok (.iload_n 1, 1)) rfl ?_
    refine sm_mono (cav_sub gI_sub) (sm_callV (pc := 26) (N := 32) (T := TX9) (C := RX9) G hb ho hy he hE.1 2 [0, 1, 2, 3, 4, 5, 6, 7, 8, 9, 10, 11, 12, 13, 14, 15, 16, 17] (kX9_scheduleBy hE N) (gCo_of (by decide +kernel)) (by rw [hR]; exact ⟨by decide, by decide⟩) rfl rfl (by decide +kernel) gw7_127 gw7_129 gw0_70 gw1_11 gw7_130 (by decide +kernel : decode cX9_schedule 26 = .ok (.invokevirtual 325, 3)) ?_)
    exact sm_iret (pc := 29) G hb (by decide +kernel : decode cX9_schedule 29 = .ok (.ireturn, 1)) hr
  · skip
    refine sm_iconst (pc := 20) G hb (by decide +kernel : decode cX9_schedule 20 = .ok (.iconst 0, 1)) (by decide) ?_
    refine sm_goto (pc := 21) (tgt := 29) G hb (by decide +kernel : decode cX9_schedule 21 = .ok (.goto 8, 3)) (by decide) ?_
    exact sm_iret (pc := 29) G hb (by decide +kernel : decode cX9_schedule 29 = .ok (.ireturn, 1)) hr
theorem kX9_schedule {ε : gE5} (hE : gEnv ε) (N : Nat) : gCtr ε yX9_schedule cX9_schedule 2 (some .int) 21 546 gyM (fX9_schedule N) :=
  gCtr_of hE.1 (by decide) (fun γ G hb ho hy hR he hr => fX9_schedule_s0 N G hb ho hy hR he hr hE)

set_option maxRecDepth 100000 in
set_option maxHeartbeats 4000000 in
theorem fX9_scheduleWeight_s65 {γ : gG} {cs ss : Nat} {ε : gE5} (N : Nat) (G : gOK γ) (hb : gcc γ = cX9_scheduleWeight) (ho : gow γ = RX9) (hy : gly γ = gyM) (hR : grm γ = { frames := 21, cells := 0, slots := 0, locals := 546 }) (he : genv γ = ε) (hr : grt γ = (some .int)) (hE : gEnv ε) (K33 : gK) (h33 : gSm γ cs ss 33 K33) : gSm γ cs ss 65 (fX9_scheduleWeight_k65 N K33) := by
  unfold fX9_scheduleWeight_k65
  refine sm_iadd (pc := 65) G hb (by decide +kernel : decode cX9_scheduleWeight 65 = .ok (.iadd, 1)) ?_
  refine sm_istore_n (pc := 66) G hb (by decide +kernel : decode cX9_scheduleWeight 66 = .ok (.istore_n 3, 1)) rfl ?_
  refine sm_iinc (pc := 67) G hb (by decide +kernel : decode cX9_scheduleWeight 67 = .ok (.iinc 4 1, 3)) (by decide) ?_
  refine sm_goto (pc := 70) (tgt := 33) G hb (by decide +kernel : decode cX9_scheduleWeight 70 = .ok (.goto (-37), 3)) (by decide) ?_
  refine sm_mask ?_
  exact h33
set_option maxRecDepth 100000 in
set_option maxHeartbeats 4000000 in
theorem fX9_scheduleWeight_s33 {γ : gG} {cs ss : Nat} {ε : gE5} (N : Nat) (G : gOK γ) (hb : gcc γ = cX9_scheduleWeight) (ho : gow γ = RX9) (hy : gly γ = gyM) (hR : grm γ = { frames := 21, cells := 0, slots := 0, locals := 546 }) (he : genv γ = ε) (hr : grt γ = (some .int)) (hE : gEnv ε) : gSm γ cs ss 33 (fX9_scheduleWeight_k33 N) := by
  unfold fX9_scheduleWeight_k33
  refine sm_lp (fun K33 h33 => ?_) N
  unfold fX9_scheduleWeight_b33
  refine sm_iload (pc := 33) G hb (by decide +kernel : decode cX9_scheduleWeight 33 = .ok (.iload 4, 2)) ?_
  refine sm_aload_n (pc := 35) G hb (by decide +kernel : decode cX9_scheduleWeight 35 = .ok (.aload_n 0, 1)) rfl ?_
  refine sm_get (pc := 36) (ci := 9) (j := 9) (N := 32) (T := TX9) G hb ho hy rfl (by decide) gin_9 gw6_5 (by decide +kernel : decode cX9_scheduleWeight 36 = .ok (.getfield 16, 3)) ?_
  refine sm_iconst (pc := 39) G hb (by decide +kernel : decode cX9_scheduleWeight 39 = .ok (.iconst 1, 1)) (by decide) ?_
  refine sm_iald (pc := 40) G hb hy (by decide +kernel : decode cX9_scheduleWeight 40 = .ok (.iaload, 1)) ?_
  refine sm_icmp_ge (pc := 41) (tgt := 73) G hb (by decide +kernel : decode cX9_scheduleWeight 41 = .ok (.if_icmp .ge 32, 3)) (by decide) ?_ ?_
  · skip
    refine sm_iload_n (pc := 73) G hb (by decide +kernel : decode cX9_scheduleWeight 73 = .ok (.iload_n 3, 1)) rfl ?_
    exact sm_iret (pc := 74) G hb (by decide +kernel : decode cX9_scheduleWeight 74 = .ok (.ireturn, 1)) hr
  · skip
    refine sm_iload_n (pc := 44) G hb (by decide +kernel : decode cX9_scheduleWeight 44 = .ok (.iload_n 3, 1)) rfl ?_
    refine sm_iload_n (pc := 45) G hb (by decide +kernel : decode cX9_scheduleWeight 45 = .ok (.iload_n 2, 1)) rfl ?_
    refine sm_iload (pc := 46) G hb (by decide +kernel : decode cX9_scheduleWeight 46 = .ok (.iload 4, 2)) ?_
    refine sm_mono (ca_sub gI_sub) (sm_callS (pc := 48) G hb ho hy he hE.1 2 [] (kX9_has hE N) (gCo_of (by decide +kernel)) (by rw [hR]; exact ⟨by decide, by decide⟩) (by decide +kernel) gw6_187 gw6_188 gw1_11 gw6_189 (by decide +kernel : decode cX9_scheduleWeight 48 = .ok (.invokestatic 170, 3)) ?_)
    refine sm_if_eq (pc := 51) (tgt := 64) G hb (by decide +kernel : decode cX9_scheduleWeight 51 = .ok (.ifCond .eq 13, 3)) (by decide) ?_ ?_
    · skip
      refine sm_iconst (pc := 64) G hb (by decide +kernel : decode cX9_scheduleWeight 64 = .ok (.iconst 0, 1)) (by decide) ?_
      refine sm_mask ?_
      exact fX9_scheduleWeight_s65 N G hb ho hy hR he hr hE K33 h33
    · skip
      refine sm_aload_n (pc := 54) G hb (by decide +kernel : decode cX9_scheduleWeight 54 = .ok (.aload_n 0, 1)) rfl ?_
      refine sm_get (pc := 55) (ci := 9) (j := 22) (N := 32) (T := TX9) G hb ho hy rfl (by decide) gin_9 gw6_18 (by decide +kernel : decode cX9_scheduleWeight 55 = .ok (.getfield 44, 3)) ?_
      refine sm_iload (pc := 58) G hb (by decide +kernel : decode cX9_scheduleWeight 58 = .ok (.iload 4, 2)) ?_
      refine sm_iald (pc := 60) G hb hy (by decide +kernel : decode cX9_scheduleWeight 60 = .ok (.iaload, 1)) ?_
      refine sm_goto (pc := 61) (tgt := 65) G hb (by decide +kernel : decode cX9_scheduleWeight 61 = .ok (.goto 4, 3)) (by decide) ?_
      refine sm_mask ?_
      exact fX9_scheduleWeight_s65 N G hb ho hy hR he hr hE K33 h33
set_option maxRecDepth 100000 in
set_option maxHeartbeats 4000000 in
theorem fX9_scheduleWeight_s27 {γ : gG} {cs ss : Nat} {ε : gE5} (N : Nat) (G : gOK γ) (hb : gcc γ = cX9_scheduleWeight) (ho : gow γ = RX9) (hy : gly γ = gyM) (hR : grm γ = { frames := 21, cells := 0, slots := 0, locals := 546 }) (he : genv γ = ε) (hr : grt γ = (some .int)) (hE : gEnv ε) : gSm γ cs ss 27 (fX9_scheduleWeight_k27 N) := by
  unfold fX9_scheduleWeight_k27
  refine sm_istore_n (pc := 27) G hb (by decide +kernel : decode cX9_scheduleWeight 27 = .ok (.istore_n 2, 1)) rfl ?_
  refine sm_iconst (pc := 28) G hb (by decide +kernel : decode cX9_scheduleWeight 28 = .ok (.iconst 0, 1)) (by decide) ?_
  refine sm_istore_n (pc := 29) G hb (by decide +kernel : decode cX9_scheduleWeight 29 = .ok (.istore_n 3, 1)) rfl ?_
  refine sm_iconst (pc := 30) G hb (by decide +kernel : decode cX9_scheduleWeight 30 = .ok (.iconst 0, 1)) (by decide) ?_
  refine sm_istore (pc := 31) G hb (by decide +kernel : decode cX9_scheduleWeight 31 = .ok (.istore 4, 2)) ?_
  refine sm_mask ?_
  exact fX9_scheduleWeight_s33 N G hb ho hy hR he hr hE
set_option maxRecDepth 100000 in
set_option maxHeartbeats 4000000 in
theorem fX9_scheduleWeight_s0 {γ : gG} {cs ss : Nat} {ε : gE5} (N : Nat) (G : gOK γ) (hb : gcc γ = cX9_scheduleWeight) (ho : gow γ = RX9) (hy : gly γ = gyM) (hR : grm γ = { frames := 21, cells := 0, slots := 0, locals := 546 }) (he : genv γ = ε) (hr : grt γ = (some .int)) (hE : gEnv ε) : gSm γ cs ss 0 (fX9_scheduleWeight_k0 N) := by
  unfold fX9_scheduleWeight_k0
  refine sm_aload_n (pc := 0) G hb (by decide +kernel : decode cX9_scheduleWeight 0 = .ok (.aload_n 0, 1)) rfl ?_
  refine sm_iconst (pc := 1) G hb (by decide +kernel : decode cX9_scheduleWeight 1 = .ok (.iconst 0, 1)) (by decide) ?_
  refine sm_put (pc := 2) (ci := 9) (j := 0) (N := 32) (T := TX9) G hb ho hy tyX9 tyX9_ok nmX9 rfl (by decide) gin_9 gw5_236 rfl rfl (by decide +kernel : decode cX9_scheduleWeight 2 = .ok (.putfield 76, 3)) ?_
  refine sm_aload_n (pc := 5) G hb (by decide +kernel : decode cX9_scheduleWeight 5 = .ok (.aload_n 0, 1)) rfl ?_
  refine sm_iload_n (pc := 6) G hb (by decide +kernel : decode cX9_scheduleWeight 6 = .ok (.iload_n 1, 1)) rfl ?_
  refine sm_i2l (pc := 7) G hb (by decide +kernel : decode cX9_scheduleWeight 7 = .ok (.i2l, 1)) ?_
  refine sm_lconst (pc := 8) G hb (by decide +kernel : decode cX9_scheduleWeight 8 = .ok (.lconst 0, 1)) (by decide) ?_
  refine sm_lconst (pc := 9) G hb (by decide +kernel : decode cX9_scheduleWeight 9 = .ok (.lconst 1, 1)) (by decide) ?_
  refine sm_mono (ca_sub gI_sub) (sm_callS (pc := 10) G hb ho hy he hE.1 3 [] (kX9_in hE N) (gCo_of (by decide +kernel)) (by rw [hR]; exact ⟨by decide, by decide⟩) (by decide +kernel) gw6_113 gw6_114 gw1_11 gw6_115 (by decide +kernel : decode cX9_scheduleWeight 10 = .ok (.invokestatic 91, 3)) ?_)
  refine sm_iconst (pc := 13) G hb (by decide +kernel : decode cX9_scheduleWeight 13 = .ok (.iconst 1, 1)) (by decide) ?_
  refine sm_mono (cav_sub gI_sub) (sm_callV (pc := 14) (N := 32) (T := TX9) (C := RX9) G hb ho hy he hE.1 3 [0, 1, 2, 3, 4, 5, 6, 7, 8, 9, 10, 11, 12, 13, 14, 15, 16, 17] (kX9_fails hE N) (gCo_of (by decide +kernel)) (by rw [hR]; exact ⟨by decide, by decide⟩) rfl rfl (by decide +kernel) gw6_105 gw6_107 gw0_34 gw1_11 gw6_108 (by decide +kernel : decode cX9_scheduleWeight 14 = .ok (.invokevirtual 87, 3)) ?_)
  refine sm_if_eq (pc := 17) (tgt := 22) G hb (by decide +kernel : decode cX9_scheduleWeight 17 = .ok (.ifCond .eq 5, 3)) (by decide) ?_ ?_
  · skip
    refine sm_aload_n (pc := 22) G hb (by decide +kernel : decode cX9_scheduleWeight 22 = .ok (.aload_n 0, 1)) rfl ?_
    refine sm_iload_n (pc := 23) G hb (by decide +kernel : decode cX9_scheduleWeight 23 = .ok (.iload_n 1, 1)) rfl ?_
    refine sm_mono (cav_sub gI_sub) (sm_callV (pc := 24) (N := 32) (T := TX9) (C := RX9) G hb ho hy he hE.1 2 [0, 1, 2, 3, 4, 5, 6, 7, 8, 9, 10, 11, 12, 13, 14, 15, 16, 17] (kX9_scheduleBy hE N) (gCo_of (by decide +kernel)) (by rw [hR]; exact ⟨by decide, by decide⟩) rfl rfl (by decide +kernel) gw7_127 gw7_129 gw0_70 gw1_11 gw7_130 (by decide +kernel : decode cX9_scheduleWeight 24 = .ok (.invokevirtual 325, 3)) ?_)
    refine sm_mask ?_
    exact fX9_scheduleWeight_s27 N G hb ho hy hR he hr hE
  · skip
    refine sm_iconst (pc := 20) G hb (by decide +kernel : decode cX9_scheduleWeight 20 = .ok (.iconst 0, 1)) (by decide) ?_
    exact sm_iret (pc := 21) G hb (by decide +kernel : decode cX9_scheduleWeight 21 = .ok (.ireturn, 1)) hr
theorem kX9_scheduleWeight {ε : gE5} (hE : gEnv ε) (N : Nat) : gCtr ε yX9_scheduleWeight cX9_scheduleWeight 5 (some .int) 21 546 gyM (fX9_scheduleWeight N) :=
  gCtr_of hE.1 (by decide) (fun γ G hb ho hy hR he hr => fX9_scheduleWeight_s0 N G hb ho hy hR he hr hE)

set_option maxRecDepth 100000 in
set_option maxHeartbeats 4000000 in
theorem fX9_forecast_s57 {γ : gG} {cs ss : Nat} {ε : gE5} (N : Nat) (G : gOK γ) (hb : gcc γ = cX9_forecast) (ho : gow γ = RX9) (hy : gly γ = gyM) (hR : grm γ = { frames := 23, cells := 0, slots := 0, locals := 588 }) (he : genv γ = ε) (hr : grt γ = (some .long)) (hE : gEnv ε) : gSm γ cs ss 57 (fX9_forecast_k57 N) := by
  unfold fX9_forecast_k57
  refine sm_aload_n (pc := 57) G hb (by decide +kernel : decode cX9_forecast 57 = .ok (.aload_n 0, 1)) rfl ?_
  refine sm_iload_n (pc := 58) G hb (by decide +kernel : decode cX9_forecast 58 = .ok (.iload_n 2, 1)) rfl ?_
  refine sm_mono (cav_sub gJ_sub) (sm_callV (pc := 59) (N := 32) (T := TX9) (C := RX9) G hb ho hy he hE.1 2 [0, 1, 2, 3, 4, 5, 6, 7, 8, 9, 10, 11, 12, 13, 14, 15, 16, 17] (kX9_totalOf hE N) (gCo_of (by decide +kernel)) (by rw [hR]; exact ⟨by decide, by decide⟩) rfl rfl (by decide +kernel) gw8_23 gw8_25 gw0_91 gw1_11 gw8_26 (by decide +kernel : decode cX9_forecast 59 = .ok (.invokevirtual 408, 3)) ?_)
  refine sm_lstore_n (pc := 62) G hb (by decide +kernel : decode cX9_forecast 62 = .ok (.lstore_n 3, 1)) rfl ?_
  refine sm_aload_n (pc := 63) G hb (by decide +kernel : decode cX9_forecast 63 = .ok (.aload_n 0, 1)) rfl ?_
  refine sm_get (pc := 64) (ci := 9) (j := 10) (N := 32) (T := TX9) G hb ho hy rfl (by decide) gin_9 gw6_6 (by decide +kernel : decode cX9_forecast 64 = .ok (.getfield 19, 3)) ?_
  refine sm_iconst (pc := 67) G hb (by decide +kernel : decode cX9_forecast 67 = .ok (.iconst 0, 1)) (by decide) ?_
  refine sm_aload_n (pc := 68) G hb (by decide +kernel : decode cX9_forecast 68 = .ok (.aload_n 0, 1)) rfl ?_
  refine sm_get (pc := 69) (ci := 9) (j := 9) (N := 32) (T := TX9) G hb ho hy rfl (by decide) gin_9 gw6_5 (by decide +kernel : decode cX9_forecast 69 = .ok (.getfield 16, 3)) ?_
  refine sm_iconst (pc := 72) G hb (by decide +kernel : decode cX9_forecast 72 = .ok (.iconst 0, 1)) (by decide) ?_
  refine sm_mono (ca_sub gV_sub) (sm_callS (pc := 73) G hb ho hy he hE.1 4 [4, 3] (kX9_copy hE N 2746 2746) ⟨rfl, rfl, by decide⟩ (by rw [hR]; exact ⟨by decide, by decide⟩) (by decide +kernel) gw5_233 gw5_234 gw1_11 gw5_235 (by decide +kernel : decode cX9_forecast 73 = .ok (.invokestatic 226, 3)) ?_)
  refine sm_lload_n (pc := 76) G hb (by decide +kernel : decode cX9_forecast 76 = .ok (.lload_n 3, 1)) rfl ?_
  exact sm_lret (pc := 77) G hb (by decide +kernel : decode cX9_forecast 77 = .ok (.lreturn, 1)) hr
set_option maxRecDepth 100000 in
set_option maxHeartbeats 4000000 in
theorem fX9_forecast_s30 {γ : gG} {cs ss : Nat} {ε : gE5} (N : Nat) (G : gOK γ) (hb : gcc γ = cX9_forecast) (ho : gow γ = RX9) (hy : gly γ = gyM) (hR : grm γ = { frames := 23, cells := 0, slots := 0, locals := 588 }) (he : genv γ = ε) (hr : grt γ = (some .long)) (hE : gEnv ε) : gSm γ cs ss 30 (fX9_forecast_k30 N) := by
  unfold fX9_forecast_k30
  refine sm_iconst (pc := 30) G hb (by decide +kernel : decode cX9_forecast 30 = .ok (.iconst 1, 1)) (by decide) ?_
  refine sm_mono (cav_sub gI_sub) (sm_callV (pc := 31) (N := 32) (T := TX9) (C := RX9) G hb ho hy he hE.1 3 [0, 1, 2, 3, 4, 5, 6, 7, 8, 9, 10, 11, 12, 13, 14, 15, 16, 17] (kX9_fails hE N) (gCo_of (by decide +kernel)) (by rw [hR]; exact ⟨by decide, by decide⟩) rfl rfl (by decide +kernel) gw6_105 gw6_107 gw0_34 gw1_11 gw6_108 (by decide +kernel : decode cX9_forecast 31 = .ok (.invokevirtual 87, 3)) ?_)
  refine sm_if_eq (pc := 34) (tgt := 39) G hb (by decide +kernel : decode cX9_forecast 34 = .ok (.ifCond .eq 5, 3)) (by decide) ?_ ?_
  · skip
    refine sm_aload_n (pc := 39) G hb (by decide +kernel : decode cX9_forecast 39 = .ok (.aload_n 0, 1)) rfl ?_
    refine sm_get (pc := 40) (ci := 9) (j := 9) (N := 32) (T := TX9) G hb ho hy rfl (by decide) gin_9 gw6_5 (by decide +kernel : decode cX9_forecast 40 = .ok (.getfield 16, 3)) ?_
    refine sm_iconst (pc := 43) G hb (by decide +kernel : decode cX9_forecast 43 = .ok (.iconst 0, 1)) (by decide) ?_
    refine sm_aload_n (pc := 44) G hb (by decide +kernel : decode cX9_forecast 44 = .ok (.aload_n 0, 1)) rfl ?_
    refine sm_get (pc := 45) (ci := 9) (j := 10) (N := 32) (T := TX9) G hb ho hy rfl (by decide) gin_9 gw6_6 (by decide +kernel : decode cX9_forecast 45 = .ok (.getfield 19, 3)) ?_
    refine sm_iconst (pc := 48) G hb (by decide +kernel : decode cX9_forecast 48 = .ok (.iconst 0, 1)) (by decide) ?_
    refine sm_mono (ca_sub gV_sub) (sm_callS (pc := 49) G hb ho hy he hE.1 4 [3, 4] (kX9_copy hE N 2746 2746) ⟨rfl, rfl, by decide⟩ (by rw [hR]; exact ⟨by decide, by decide⟩) (by decide +kernel) gw5_233 gw5_234 gw1_11 gw5_235 (by decide +kernel : decode cX9_forecast 49 = .ok (.invokestatic 226, 3)) ?_)
    refine sm_aload_n (pc := 52) G hb (by decide +kernel : decode cX9_forecast 52 = .ok (.aload_n 0, 1)) rfl ?_
    refine sm_iload_n (pc := 53) G hb (by decide +kernel : decode cX9_forecast 53 = .ok (.iload_n 1, 1)) rfl ?_
    refine sm_mono (cav_sub gV_sub) (sm_callV (pc := 54) (N := 32) (T := TX9) (C := RX9) G hb ho hy he hE.1 2 [0, 1, 2, 3, 4, 5, 6, 7, 8, 9, 10, 11, 12, 13, 14, 15, 16, 17] (kX9_slots hE N) (gCo_of (by decide +kernel)) (by rw [hR]; exact ⟨by decide, by decide⟩) rfl rfl (by decide +kernel) gw7_112 gw7_114 gw0_67 gw1_11 gw7_115 (by decide +kernel : decode cX9_forecast 54 = .ok (.invokevirtual 377, 3)) ?_)
    refine sm_mask ?_
    exact fX9_forecast_s57 N G hb ho hy hR he hr hE
  · skip
    refine sm_lconst (pc := 37) G hb (by decide +kernel : decode cX9_forecast 37 = .ok (.lconst 0, 1)) (by decide) ?_
    exact sm_lret (pc := 38) G hb (by decide +kernel : decode cX9_forecast 38 = .ok (.lreturn, 1)) hr
set_option maxRecDepth 100000 in
set_option maxHeartbeats 4000000 in
theorem fX9_forecast_s29 {γ : gG} {cs ss : Nat} {ε : gE5} (N : Nat) (G : gOK γ) (hb : gcc γ = cX9_forecast) (ho : gow γ = RX9) (hy : gly γ = gyM) (hR : grm γ = { frames := 23, cells := 0, slots := 0, locals := 588 }) (he : genv γ = ε) (hr : grt γ = (some .long)) (hE : gEnv ε) : gSm γ cs ss 29 (fX9_forecast_k29 N) := by
  unfold fX9_forecast_k29
  refine sm_iconst (pc := 29) G hb (by decide +kernel : decode cX9_forecast 29 = .ok (.iconst 0, 1)) (by decide) ?_
  refine sm_mask ?_
  exact fX9_forecast_s30 N G hb ho hy hR he hr hE
set_option maxRecDepth 100000 in
set_option maxHeartbeats 4000000 in
theorem fX9_forecast_s0 {γ : gG} {cs ss : Nat} {ε : gE5} (N : Nat) (G : gOK γ) (hb : gcc γ = cX9_forecast) (ho : gow γ = RX9) (hy : gly γ = gyM) (hR : grm γ = { frames := 23, cells := 0, slots := 0, locals := 588 }) (he : genv γ = ε) (hr : grt γ = (some .long)) (hE : gEnv ε) : gSm γ cs ss 0 (fX9_forecast_k0 N) := by
  unfold fX9_forecast_k0
  refine sm_aload_n (pc := 0) G hb (by decide +kernel : decode cX9_forecast 0 = .ok (.aload_n 0, 1)) rfl ?_
  refine sm_iconst (pc := 1) G hb (by decide +kernel : decode cX9_forecast 1 = .ok (.iconst 0, 1)) (by decide) ?_
  refine sm_put (pc := 2) (ci := 9) (j := 0) (N := 32) (T := TX9) G hb ho hy tyX9 tyX9_ok nmX9 rfl (by decide) gin_9 gw5_236 rfl rfl (by decide +kernel : decode cX9_forecast 2 = .ok (.putfield 76, 3)) ?_
  refine sm_aload_n (pc := 5) G hb (by decide +kernel : decode cX9_forecast 5 = .ok (.aload_n 0, 1)) rfl ?_
  refine sm_iload_n (pc := 6) G hb (by decide +kernel : decode cX9_forecast 6 = .ok (.iload_n 1, 1)) rfl ?_
  refine sm_mono (ca_sub gI_sub) (sm_callS (pc := 7) G hb ho hy he hE.1 1 [] (kX9_areSlots hE N) (gCo_of (by decide +kernel)) (by rw [hR]; exact ⟨by decide, by decide⟩) (by decide +kernel) gw7_108 gw7_109 gw1_11 gw7_110 (by decide +kernel : decode cX9_forecast 7 = .ok (.invokestatic 374, 3)) ?_)
  refine sm_if_eq (pc := 10) (tgt := 29) G hb (by decide +kernel : decode cX9_forecast 10 = .ok (.ifCond .eq 19, 3)) (by decide) ?_ ?_
  · skip
    refine sm_mask ?_
    exact fX9_forecast_s29 N G hb ho hy hR he hr hE
  · skip
    refine sm_iload_n (pc := 13) G hb (by decide +kernel : decode cX9_forecast 13 = .ok (.iload_n 2, 1)) rfl ?_
    refine sm_i2l (pc := 14) G hb (by decide +kernel : decode cX9_forecast 14 = .ok (.i2l, 1)) ?_
    refine sm_lconst (pc := 15) G hb (by decide +kernel : decode cX9_forecast 15 = .ok (.lconst 0, 1)) (by decide) ?_
    refine sm_ldc2 (pc := 16) G hb ho (by decide +kernel : decode cX9_forecast 16 = .ok (.ldc2_w 343, 3)) gw7_4 ?_
    refine sm_mono (ca_sub gI_sub) (sm_callS (pc := 19) G hb ho hy he hE.1 3 [] (kX9_in hE N) (gCo_of (by decide +kernel)) (by rw [hR]; exact ⟨by decide, by decide⟩) (by decide +kernel) gw6_113 gw6_114 gw1_11 gw6_115 (by decide +kernel : decode cX9_forecast 19 = .ok (.invokestatic 91, 3)) ?_)
    refine sm_if_eq (pc := 22) (tgt := 29) G hb (by decide +kernel : decode cX9_forecast 22 = .ok (.ifCond .eq 7, 3)) (by decide) ?_ ?_
    · skip
      refine sm_mask ?_
      exact fX9_forecast_s29 N G hb ho hy hR he hr hE
    · skip
      refine sm_iconst (pc := 25) G hb (by decide +kernel : decode cX9_forecast 25 = .ok (.iconst 1, 1)) (by decide) ?_
      refine sm_goto (pc := 26) (tgt := 30) G hb (by decide +kernel : decode cX9_forecast 26 = .ok (.goto 4, 3)) (by decide) ?_
      refine sm_mask ?_
      exact fX9_forecast_s30 N G hb ho hy hR he hr hE
theorem kX9_forecast {ε : gE5} (hE : gEnv ε) (N : Nat) : gCtr ε yX9_forecast cX9_forecast 5 (some .long) 23 588 gyM (fX9_forecast N) :=
  gCtr_of hE.1 (by decide) (fun γ G hb ho hy hR he hr => fX9_forecast_s0 N G hb ho hy hR he hr hE)

set_option maxRecDepth 100000 in
set_option maxHeartbeats 4000000 in
theorem fX9_forecastFlow_s70 {γ : gG} {cs ss : Nat} {ε : gE5} (N : Nat) (G : gOK γ) (hb : gcc γ = cX9_forecastFlow) (ho : gow γ = RX9) (hy : gly γ = gyM) (hR : grm γ = { frames := 23, cells := 0, slots := 0, locals := 588 }) (he : genv γ = ε) (hr : grt γ = (some .int)) (hE : gEnv ε) : gSm γ cs ss 70 (fX9_forecastFlow_k70 N) := by
  unfold fX9_forecastFlow_k70
  refine sm_aload_n (pc := 70) G hb (by decide +kernel : decode cX9_forecastFlow 70 = .ok (.aload_n 0, 1)) rfl ?_
  refine sm_iload_n (pc := 71) G hb (by decide +kernel : decode cX9_forecastFlow 71 = .ok (.iload_n 1, 1)) rfl ?_
  refine sm_iload_n (pc := 72) G hb (by decide +kernel : decode cX9_forecastFlow 72 = .ok (.iload_n 3, 1)) rfl ?_
  refine sm_mono (cav_sub gI_sub) (sm_callV (pc := 73) (N := 32) (T := TX9) (C := RX9) G hb ho hy he hE.1 3 [0, 1, 2, 3, 4, 5, 6, 7, 8, 9, 10, 11, 12, 13, 14, 15, 16, 17] (kX9_flowPart hE N) (gCo_of (by decide +kernel)) (by rw [hR]; exact ⟨by decide, by decide⟩) rfl rfl (by decide +kernel) gw7_64 gw7_66 gw0_59 gw1_11 gw7_67 (by decide +kernel : decode cX9_forecastFlow 73 = .ok (.invokevirtual 240, 3)) ?_)
  refine sm_istore (pc := 76) G hb (by decide +kernel : decode cX9_forecastFlow 76 = .ok (.istore 4, 2)) ?_
  refine sm_aload_n (pc := 78) G hb (by decide +kernel : decode cX9_forecastFlow 78 = .ok (.aload_n 0, 1)) rfl ?_
  refine sm_get (pc := 79) (ci := 9) (j := 10) (N := 32) (T := TX9) G hb ho hy rfl (by decide) gin_9 gw6_6 (by decide +kernel : decode cX9_forecastFlow 79 = .ok (.getfield 19, 3)) ?_
  refine sm_iconst (pc := 82) G hb (by decide +kernel : decode cX9_forecastFlow 82 = .ok (.iconst 0, 1)) (by decide) ?_
  refine sm_aload_n (pc := 83) G hb (by decide +kernel : decode cX9_forecastFlow 83 = .ok (.aload_n 0, 1)) rfl ?_
  refine sm_get (pc := 84) (ci := 9) (j := 9) (N := 32) (T := TX9) G hb ho hy rfl (by decide) gin_9 gw6_5 (by decide +kernel : decode cX9_forecastFlow 84 = .ok (.getfield 16, 3)) ?_
  refine sm_iconst (pc := 87) G hb (by decide +kernel : decode cX9_forecastFlow 87 = .ok (.iconst 0, 1)) (by decide) ?_
  refine sm_mono (ca_sub gV_sub) (sm_callS (pc := 88) G hb ho hy he hE.1 4 [4, 3] (kX9_copy hE N 2746 2746) ⟨rfl, rfl, by decide⟩ (by rw [hR]; exact ⟨by decide, by decide⟩) (by decide +kernel) gw5_233 gw5_234 gw1_11 gw5_235 (by decide +kernel : decode cX9_forecastFlow 88 = .ok (.invokestatic 226, 3)) ?_)
  refine sm_iload (pc := 91) G hb (by decide +kernel : decode cX9_forecastFlow 91 = .ok (.iload 4, 2)) ?_
  exact sm_iret (pc := 93) G hb (by decide +kernel : decode cX9_forecastFlow 93 = .ok (.ireturn, 1)) hr
set_option maxRecDepth 100000 in
set_option maxHeartbeats 4000000 in
theorem fX9_forecastFlow_s43 {γ : gG} {cs ss : Nat} {ε : gE5} (N : Nat) (G : gOK γ) (hb : gcc γ = cX9_forecastFlow) (ho : gow γ = RX9) (hy : gly γ = gyM) (hR : grm γ = { frames := 23, cells := 0, slots := 0, locals := 588 }) (he : genv γ = ε) (hr : grt γ = (some .int)) (hE : gEnv ε) : gSm γ cs ss 43 (fX9_forecastFlow_k43 N) := by
  unfold fX9_forecastFlow_k43
  refine sm_iconst (pc := 43) G hb (by decide +kernel : decode cX9_forecastFlow 43 = .ok (.iconst 2, 1)) (by decide) ?_
  refine sm_mono (cav_sub gI_sub) (sm_callV (pc := 44) (N := 32) (T := TX9) (C := RX9) G hb ho hy he hE.1 3 [0, 1, 2, 3, 4, 5, 6, 7, 8, 9, 10, 11, 12, 13, 14, 15, 16, 17] (kX9_fails hE N) (gCo_of (by decide +kernel)) (by rw [hR]; exact ⟨by decide, by decide⟩) rfl rfl (by decide +kernel) gw6_105 gw6_107 gw0_34 gw1_11 gw6_108 (by decide +kernel : decode cX9_forecastFlow 44 = .ok (.invokevirtual 87, 3)) ?_)
  refine sm_if_eq (pc := 47) (tgt := 52) G hb (by decide +kernel : decode cX9_forecastFlow 47 = .ok (.ifCond .eq 5, 3)) (by decide) ?_ ?_
  · skip
    refine sm_aload_n (pc := 52) G hb (by decide +kernel : decode cX9_forecastFlow 52 = .ok (.aload_n 0, 1)) rfl ?_
    refine sm_get (pc := 53) (ci := 9) (j := 9) (N := 32) (T := TX9) G hb ho hy rfl (by decide) gin_9 gw6_5 (by decide +kernel : decode cX9_forecastFlow 53 = .ok (.getfield 16, 3)) ?_
    refine sm_iconst (pc := 56) G hb (by decide +kernel : decode cX9_forecastFlow 56 = .ok (.iconst 0, 1)) (by decide) ?_
    refine sm_aload_n (pc := 57) G hb (by decide +kernel : decode cX9_forecastFlow 57 = .ok (.aload_n 0, 1)) rfl ?_
    refine sm_get (pc := 58) (ci := 9) (j := 10) (N := 32) (T := TX9) G hb ho hy rfl (by decide) gin_9 gw6_6 (by decide +kernel : decode cX9_forecastFlow 58 = .ok (.getfield 19, 3)) ?_
    refine sm_iconst (pc := 61) G hb (by decide +kernel : decode cX9_forecastFlow 61 = .ok (.iconst 0, 1)) (by decide) ?_
    refine sm_mono (ca_sub gV_sub) (sm_callS (pc := 62) G hb ho hy he hE.1 4 [3, 4] (kX9_copy hE N 2746 2746) ⟨rfl, rfl, by decide⟩ (by rw [hR]; exact ⟨by decide, by decide⟩) (by decide +kernel) gw5_233 gw5_234 gw1_11 gw5_235 (by decide +kernel : decode cX9_forecastFlow 62 = .ok (.invokestatic 226, 3)) ?_)
    refine sm_aload_n (pc := 65) G hb (by decide +kernel : decode cX9_forecastFlow 65 = .ok (.aload_n 0, 1)) rfl ?_
    refine sm_iload_n (pc := 66) G hb (by decide +kernel : decode cX9_forecastFlow 66 = .ok (.iload_n 2, 1)) rfl ?_
    refine sm_mono (cav_sub gV_sub) (sm_callV (pc := 67) (N := 32) (T := TX9) (C := RX9) G hb ho hy he hE.1 2 [0, 1, 2, 3, 4, 5, 6, 7, 8, 9, 10, 11, 12, 13, 14, 15, 16, 17] (kX9_slots hE N) (gCo_of (by decide +kernel)) (by rw [hR]; exact ⟨by decide, by decide⟩) rfl rfl (by decide +kernel) gw7_112 gw7_114 gw0_67 gw1_11 gw7_115 (by decide +kernel : decode cX9_forecastFlow 67 = .ok (.invokevirtual 377, 3)) ?_)
    refine sm_mask ?_
    exact fX9_forecastFlow_s70 N G hb ho hy hR he hr hE
  · skip
    refine sm_iconst (pc := 50) G hb (by decide +kernel : decode cX9_forecastFlow 50 = .ok (.iconst 0, 1)) (by decide) ?_
    exact sm_iret (pc := 51) G hb (by decide +kernel : decode cX9_forecastFlow 51 = .ok (.ireturn, 1)) hr
set_option maxRecDepth 100000 in
set_option maxHeartbeats 4000000 in
theorem fX9_forecastFlow_s42 {γ : gG} {cs ss : Nat} {ε : gE5} (N : Nat) (G : gOK γ) (hb : gcc γ = cX9_forecastFlow) (ho : gow γ = RX9) (hy : gly γ = gyM) (hR : grm γ = { frames := 23, cells := 0, slots := 0, locals := 588 }) (he : genv γ = ε) (hr : grt γ = (some .int)) (hE : gEnv ε) : gSm γ cs ss 42 (fX9_forecastFlow_k42 N) := by
  unfold fX9_forecastFlow_k42
  refine sm_iconst (pc := 42) G hb (by decide +kernel : decode cX9_forecastFlow 42 = .ok (.iconst 0, 1)) (by decide) ?_
  refine sm_mask ?_
  exact fX9_forecastFlow_s43 N G hb ho hy hR he hr hE
set_option maxRecDepth 100000 in
set_option maxHeartbeats 4000000 in
theorem fX9_forecastFlow_s23 {γ : gG} {cs ss : Nat} {ε : gE5} (N : Nat) (G : gOK γ) (hb : gcc γ = cX9_forecastFlow) (ho : gow γ = RX9) (hy : gly γ = gyM) (hR : grm γ = { frames := 23, cells := 0, slots := 0, locals := 588 }) (he : genv γ = ε) (hr : grt γ = (some .int)) (hE : gEnv ε) : gSm γ cs ss 23 (fX9_forecastFlow_k23 N) := by
  unfold fX9_forecastFlow_k23
  refine sm_if_eq (pc := 23) (tgt := 42) G hb (by decide +kernel : decode cX9_forecastFlow 23 = .ok (.ifCond .eq 19, 3)) (by decide) ?_ ?_
  · skip
    refine sm_mask ?_
    exact fX9_forecastFlow_s42 N G hb ho hy hR he hr hE
  · skip
    refine sm_iload_n (pc := 26) G hb (by decide +kernel : decode cX9_forecastFlow 26 = .ok (.iload_n 3, 1)) rfl ?_
    refine sm_i2l (pc := 27) G hb (by decide +kernel : decode cX9_forecastFlow 27 = .ok (.i2l, 1)) ?_
    refine sm_lconst (pc := 28) G hb (by decide +kernel : decode cX9_forecastFlow 28 = .ok (.lconst 0, 1)) (by decide) ?_
    refine sm_ldc2 (pc := 29) G hb ho (by decide +kernel : decode cX9_forecastFlow 29 = .ok (.ldc2_w 387, 3)) gw7_214 ?_
    refine sm_mono (ca_sub gI_sub) (sm_callS (pc := 32) G hb ho hy he hE.1 3 [] (kX9_in hE N) (gCo_of (by decide +kernel)) (by rw [hR]; exact ⟨by decide, by decide⟩) (by decide +kernel) gw6_113 gw6_114 gw1_11 gw6_115 (by decide +kernel : decode cX9_forecastFlow 32 = .ok (.invokestatic 91, 3)) ?_)
    refine sm_if_eq (pc := 35) (tgt := 42) G hb (by decide +kernel : decode cX9_forecastFlow 35 = .ok (.ifCond .eq 7, 3)) (by decide) ?_ ?_
    · skip
      refine sm_mask ?_
      exact fX9_forecastFlow_s42 N G hb ho hy hR he hr hE
    · skip
      refine sm_iconst (pc := 38) G hb (by decide +kernel : decode cX9_forecastFlow 38 = .ok (.iconst 1, 1)) (by decide) ?_
      refine sm_goto (pc := 39) (tgt := 43) G hb (by decide +kernel : decode cX9_forecastFlow 39 = .ok (.goto 4, 3)) (by decide) ?_
      refine sm_mask ?_
      exact fX9_forecastFlow_s43 N G hb ho hy hR he hr hE
set_option maxRecDepth 100000 in
set_option maxHeartbeats 4000000 in
theorem fX9_forecastFlow_s0 {γ : gG} {cs ss : Nat} {ε : gE5} (N : Nat) (G : gOK γ) (hb : gcc γ = cX9_forecastFlow) (ho : gow γ = RX9) (hy : gly γ = gyM) (hR : grm γ = { frames := 23, cells := 0, slots := 0, locals := 588 }) (he : genv γ = ε) (hr : grt γ = (some .int)) (hE : gEnv ε) : gSm γ cs ss 0 (fX9_forecastFlow_k0 N) := by
  unfold fX9_forecastFlow_k0
  refine sm_aload_n (pc := 0) G hb (by decide +kernel : decode cX9_forecastFlow 0 = .ok (.aload_n 0, 1)) rfl ?_
  refine sm_iconst (pc := 1) G hb (by decide +kernel : decode cX9_forecastFlow 1 = .ok (.iconst 0, 1)) (by decide) ?_
  refine sm_put (pc := 2) (ci := 9) (j := 0) (N := 32) (T := TX9) G hb ho hy tyX9 tyX9_ok nmX9 rfl (by decide) gin_9 gw5_236 rfl rfl (by decide +kernel : decode cX9_forecastFlow 2 = .ok (.putfield 76, 3)) ?_
  refine sm_aload_n (pc := 5) G hb (by decide +kernel : decode cX9_forecastFlow 5 = .ok (.aload_n 0, 1)) rfl ?_
  refine sm_aload_n (pc := 6) G hb (by decide +kernel : decode cX9_forecastFlow 6 = .ok (.aload_n 0, 1)) rfl ?_
  refine sm_iload_n (pc := 7) G hb (by decide +kernel : decode cX9_forecastFlow 7 = .ok (.iload_n 1, 1)) rfl ?_
  refine sm_mono (cav_sub gI_sub) (sm_callV (pc := 8) (N := 32) (T := TX9) (C := RX9) G hb ho hy he hE.1 2 [0, 1, 2, 3, 4, 5, 6, 7, 8, 9, 10, 11, 12, 13, 14, 15, 16, 17] (kX9_isFlow hE N) (gCo_of (by decide +kernel)) (by rw [hR]; exact ⟨by decide, by decide⟩) rfl rfl (by decide +kernel) gw7_35 gw7_37 gw0_56 gw1_11 gw7_38 (by decide +kernel : decode cX9_forecastFlow 8 = .ok (.invokevirtual 358, 3)) ?_)
  refine sm_iconst (pc := 11) G hb (by decide +kernel : decode cX9_forecastFlow 11 = .ok (.iconst 1, 1)) (by decide) ?_
  refine sm_mono (cav_sub gI_sub) (sm_callV (pc := 12) (N := 32) (T := TX9) (C := RX9) G hb ho hy he hE.1 3 [0, 1, 2, 3, 4, 5, 6, 7, 8, 9, 10, 11, 12, 13, 14, 15, 16, 17] (kX9_fails hE N) (gCo_of (by decide +kernel)) (by rw [hR]; exact ⟨by decide, by decide⟩) rfl rfl (by decide +kernel) gw6_105 gw6_107 gw0_34 gw1_11 gw6_108 (by decide +kernel : decode cX9_forecastFlow 12 = .ok (.invokevirtual 87, 3)) ?_)
  refine sm_if_ne (pc := 15) (tgt := 50) G hb (by decide +kernel : decode cX9_forecastFlow 15 = .ok (.ifCond .ne 35, 3)) (by decide) ?_ ?_
  · skip
    refine sm_iconst (pc := 50) G hb (by decide +kernel : decode cX9_forecastFlow 50 = .ok (.iconst 0, 1)) (by decide) ?_
    exact sm_iret (pc := 51) G hb (by decide +kernel : decode cX9_forecastFlow 51 = .ok (.ireturn, 1)) hr
  · skip
    refine sm_aload_n (pc := 18) G hb (by decide +kernel : decode cX9_forecastFlow 18 = .ok (.aload_n 0, 1)) rfl ?_
    refine sm_iload_n (pc := 19) G hb (by decide +kernel : decode cX9_forecastFlow 19 = .ok (.iload_n 2, 1)) rfl ?_
    refine sm_mono (ca_sub gI_sub) (sm_callS (pc := 20) G hb ho hy he hE.1 1 [] (kX9_areSlots hE N) (gCo_of (by decide +kernel)) (by rw [hR]; exact ⟨by decide, by decide⟩) (by decide +kernel) gw7_108 gw7_109 gw1_11 gw7_110 (by decide +kernel : decode cX9_forecastFlow 20 = .ok (.invokestatic 374, 3)) ?_)
    refine sm_mask ?_
    exact fX9_forecastFlow_s23 N G hb ho hy hR he hr hE
theorem kX9_forecastFlow {ε : gE5} (hE : gEnv ε) (N : Nat) : gCtr ε yX9_forecastFlow cX9_forecastFlow 5 (some .int) 23 588 gyM (fX9_forecastFlow N) :=
  gCtr_of hE.1 (by decide) (fun γ G hb ho hy hR he hr => fX9_forecastFlow_s0 N G hb ho hy hR he hr hE)

set_option maxRecDepth 100000 in
set_option maxHeartbeats 4000000 in
theorem fX9_slotsToFull_s98 {γ : gG} {cs ss : Nat} {ε : gE5} (N : Nat) (G : gOK γ) (hb : gcc γ = cX9_slotsToFull) (ho : gow γ = RX9) (hy : gly γ = gyM) (hR : grm γ = { frames := 22, cells := 0, slots := 0, locals := 566 }) (he : genv γ = ε) (hr : grt γ = (some .int)) (hE : gEnv ε) : gSm γ cs ss 98 (fX9_slotsToFull_k98 N) := by
  unfold fX9_slotsToFull_k98
  refine sm_istore (pc := 98) G hb (by decide +kernel : decode cX9_slotsToFull 98 = .ok (.istore 4, 2)) ?_
  refine sm_aload_n (pc := 100) G hb (by decide +kernel : decode cX9_slotsToFull 100 = .ok (.aload_n 0, 1)) rfl ?_
  refine sm_get (pc := 101) (ci := 9) (j := 10) (N := 32) (T := TX9) G hb ho hy rfl (by decide) gin_9 gw6_6 (by decide +kernel : decode cX9_slotsToFull 101 = .ok (.getfield 19, 3)) ?_
  refine sm_iconst (pc := 104) G hb (by decide +kernel : decode cX9_slotsToFull 104 = .ok (.iconst 0, 1)) (by decide) ?_
  refine sm_aload_n (pc := 105) G hb (by decide +kernel : decode cX9_slotsToFull 105 = .ok (.aload_n 0, 1)) rfl ?_
  refine sm_get (pc := 106) (ci := 9) (j := 9) (N := 32) (T := TX9) G hb ho hy rfl (by decide) gin_9 gw6_5 (by decide +kernel : decode cX9_slotsToFull 106 = .ok (.getfield 16, 3)) ?_
  refine sm_iconst (pc := 109) G hb (by decide +kernel : decode cX9_slotsToFull 109 = .ok (.iconst 0, 1)) (by decide) ?_
  refine sm_mono (ca_sub gV_sub) (sm_callS (pc := 110) G hb ho hy he hE.1 4 [4, 3] (kX9_copy hE N 2746 2746) ⟨rfl, rfl, by decide⟩ (by rw [hR]; exact ⟨by decide, by decide⟩) (by decide +kernel) gw5_233 gw5_234 gw1_11 gw5_235 (by decide +kernel : decode cX9_slotsToFull 110 = .ok (.invokestatic 226, 3)) ?_)
  refine sm_aload_n (pc := 113) G hb (by decide +kernel : decode cX9_slotsToFull 113 = .ok (.aload_n 0, 1)) rfl ?_
  refine sm_iload (pc := 114) G hb (by decide +kernel : decode cX9_slotsToFull 114 = .ok (.iload 4, 2)) ?_
  refine sm_iconst (pc := 116) G hb (by decide +kernel : decode cX9_slotsToFull 116 = .ok (.iconst 2, 1)) (by decide) ?_
  refine sm_mono (cav_sub gI_sub) (sm_callV (pc := 117) (N := 32) (T := TX9) (C := RX9) G hb ho hy he hE.1 3 [0, 1, 2, 3, 4, 5, 6, 7, 8, 9, 10, 11, 12, 13, 14, 15, 16, 17] (kX9_fails hE N) (gCo_of (by decide +kernel)) (by rw [hR]; exact ⟨by decide, by decide⟩) rfl rfl (by decide +kernel) gw6_105 gw6_107 gw0_34 gw1_11 gw6_108 (by decide +kernel : decode cX9_slotsToFull 117 = .ok (.invokevirtual 87, 3)) ?_)
  refine sm_if_eq (pc := 120) (tgt := 127) G hb (by decide +kernel : decode cX9_slotsToFull 120 = .ok (.ifCond .eq 7, 3)) (by decide) ?_ ?_
  · skip
    refine sm_iload_n (pc := 127) G hb (by decide +kernel : decode cX9_slotsToFull 127 = .ok (.iload_n 3, 1)) rfl ?_
    exact sm_iret (pc := 128) G hb (by decide +kernel : decode cX9_slotsToFull 128 = .ok (.ireturn, 1)) hr
  · skip
    refine sm_iconst (pc := 123) G hb (by decide +kernel : decode cX9_slotsToFull 123 = .ok (.iconst 0, 1)) (by decide) ?_
    refine sm_goto (pc := 124) (tgt := 128) G hb (by decide +kernel : decode cX9_slotsToFull 124 = .ok (.goto 4, 3)) (by decide) ?_
    exact sm_iret (pc := 128) G hb (by decide +kernel : decode cX9_slotsToFull 128 = .ok (.ireturn, 1)) hr
set_option maxRecDepth 100000 in
set_option maxHeartbeats 4000000 in
theorem fX9_slotsToFull_s81 {γ : gG} {cs ss : Nat} {ε : gE5} (N : Nat) (G : gOK γ) (hb : gcc γ = cX9_slotsToFull) (ho : gow γ = RX9) (hy : gly γ = gyM) (hR : grm γ = { frames := 22, cells := 0, slots := 0, locals := 566 }) (he : genv γ = ε) (hr : grt γ = (some .int)) (hE : gEnv ε) : gSm γ cs ss 81 (fX9_slotsToFull_k81 N) := by
  unfold fX9_slotsToFull_k81
  refine sm_aload_n (pc := 81) G hb (by decide +kernel : decode cX9_slotsToFull 81 = .ok (.aload_n 0, 1)) rfl ?_
  refine sm_get (pc := 82) (ci := 9) (j := 9) (N := 32) (T := TX9) G hb ho hy rfl (by decide) gin_9 gw6_5 (by decide +kernel : decode cX9_slotsToFull 82 = .ok (.getfield 16, 3)) ?_
  refine sm_sipush (pc := 85) G hb (by decide +kernel : decode cX9_slotsToFull 85 = .ok (.sipush 245, 3)) (by decide) ?_
  refine sm_iald (pc := 88) G hb hy (by decide +kernel : decode cX9_slotsToFull 88 = .ok (.iaload, 1)) ?_
  refine sm_iload_n (pc := 89) G hb (by decide +kernel : decode cX9_slotsToFull 89 = .ok (.iload_n 2, 1)) rfl ?_
  refine sm_icmp_lt (pc := 90) (tgt := 97) G hb (by decide +kernel : decode cX9_slotsToFull 90 = .ok (.if_icmp .lt 7, 3)) (by decide) ?_ ?_
  · skip
    refine sm_iconst (pc := 97) G hb (by decide +kernel : decode cX9_slotsToFull 97 = .ok (.iconst 0, 1)) (by decide) ?_
    refine sm_mask ?_
    exact fX9_slotsToFull_s98 N G hb ho hy hR he hr hE
  · skip
    refine sm_iconst (pc := 93) G hb (by decide +kernel : decode cX9_slotsToFull 93 = .ok (.iconst 1, 1)) (by decide) ?_
    refine sm_goto (pc := 94) (tgt := 98) G hb (by decide +kernel : decode cX9_slotsToFull 94 = .ok (.goto 4, 3)) (by decide) ?_
    refine sm_mask ?_
    exact fX9_slotsToFull_s98 N G hb ho hy hR he hr hE
set_option maxRecDepth 100000 in
set_option maxHeartbeats 4000000 in
theorem fX9_slotsToFull_s54 {γ : gG} {cs ss : Nat} {ε : gE5} (N : Nat) (G : gOK γ) (hb : gcc γ = cX9_slotsToFull) (ho : gow γ = RX9) (hy : gly γ = gyM) (hR : grm γ = { frames := 22, cells := 0, slots := 0, locals := 566 }) (he : genv γ = ε) (hr : grt γ = (some .int)) (hE : gEnv ε) : gSm γ cs ss 54 (fX9_slotsToFull_k54 N) := by
  unfold fX9_slotsToFull_k54
  refine sm_lp (fun K54 h54 => ?_) N
  unfold fX9_slotsToFull_b54
  refine sm_iload_n (pc := 54) G hb (by decide +kernel : decode cX9_slotsToFull 54 = .ok (.iload_n 3, 1)) rfl ?_
  refine sm_iload_n (pc := 55) G hb (by decide +kernel : decode cX9_slotsToFull 55 = .ok (.iload_n 1, 1)) rfl ?_
  refine sm_icmp_ge (pc := 56) (tgt := 81) G hb (by decide +kernel : decode cX9_slotsToFull 56 = .ok (.if_icmp .ge 25, 3)) (by decide) ?_ ?_
  · skip
    refine sm_mask ?_
    exact fX9_slotsToFull_s81 N G hb ho hy hR he hr hE
  · skip
    refine sm_aload_n (pc := 59) G hb (by decide +kernel : decode cX9_slotsToFull 59 = .ok (.aload_n 0, 1)) rfl ?_
    refine sm_get (pc := 60) (ci := 9) (j := 9) (N := 32) (T := TX9) G hb ho hy rfl (by decide) gin_9 gw6_5 (by decide +kernel : decode cX9_slotsToFull 60 = .ok (.getfield 16, 3)) ?_
    refine sm_sipush (pc := 63) G hb (by decide +kernel : decode cX9_slotsToFull 63 = .ok (.sipush 245, 3)) (by decide) ?_
    refine sm_iald (pc := 66) G hb hy (by decide +kernel : decode cX9_slotsToFull 66 = .ok (.iaload, 1)) ?_
    refine sm_iload_n (pc := 67) G hb (by decide +kernel : decode cX9_slotsToFull 67 = .ok (.iload_n 2, 1)) rfl ?_
    refine sm_icmp_ge (pc := 68) (tgt := 81) G hb (by decide +kernel : decode cX9_slotsToFull 68 = .ok (.if_icmp .ge 13, 3)) (by decide) ?_ ?_
    · skip
      refine sm_mask ?_
      exact fX9_slotsToFull_s81 N G hb ho hy hR he hr hE
    · skip
      refine sm_aload_n (pc := 71) G hb (by decide +kernel : decode cX9_slotsToFull 71 = .ok (.aload_n 0, 1)) rfl ?_
      refine sm_mono (cav_sub gV_sub) (sm_callV (pc := 72) (N := 32) (T := TX9) (C := RX9) G hb ho hy he hE.1 1 [0, 1, 2, 3, 4, 5, 6, 7, 8, 9, 10, 11, 12, 13, 14, 15, 16, 17] (kX9_slot hE N) (gCo_of (by decide +kernel)) (by rw [hR]; exact ⟨by decide, by decide⟩) rfl rfl (by decide +kernel) gw7_116 gw7_118 gw0_68 gw1_11 gw7_119 (by decide +kernel : decode cX9_slotsToFull 72 = .ok (.invokevirtual 334, 3)) ?_)
      refine sm_iinc (pc := 75) G hb (by decide +kernel : decode cX9_slotsToFull 75 = .ok (.iinc 3 1, 3)) (by decide) ?_
      refine sm_goto (pc := 78) (tgt := 54) G hb (by decide +kernel : decode cX9_slotsToFull 78 = .ok (.goto (-24), 3)) (by decide) ?_
      refine sm_mask ?_
      exact h54
set_option maxRecDepth 100000 in
set_option maxHeartbeats 4000000 in
theorem fX9_slotsToFull_s30 {γ : gG} {cs ss : Nat} {ε : gE5} (N : Nat) (G : gOK γ) (hb : gcc γ = cX9_slotsToFull) (ho : gow γ = RX9) (hy : gly γ = gyM) (hR : grm γ = { frames := 22, cells := 0, slots := 0, locals := 566 }) (he : genv γ = ε) (hr : grt γ = (some .int)) (hE : gEnv ε) : gSm γ cs ss 30 (fX9_slotsToFull_k30 N) := by
  unfold fX9_slotsToFull_k30
  refine sm_iconst (pc := 30) G hb (by decide +kernel : decode cX9_slotsToFull 30 = .ok (.iconst 1, 1)) (by decide) ?_
  refine sm_mono (cav_sub gI_sub) (sm_callV (pc := 31) (N := 32) (T := TX9) (C := RX9) G hb ho hy he hE.1 3 [0, 1, 2, 3, 4, 5, 6, 7, 8, 9, 10, 11, 12, 13, 14, 15, 16, 17] (kX9_fails hE N) (gCo_of (by decide +kernel)) (by rw [hR]; exact ⟨by decide, by decide⟩) rfl rfl (by decide +kernel) gw6_105 gw6_107 gw0_34 gw1_11 gw6_108 (by decide +kernel : decode cX9_slotsToFull 31 = .ok (.invokevirtual 87, 3)) ?_)
  refine sm_if_eq (pc := 34) (tgt := 39) G hb (by decide +kernel : decode cX9_slotsToFull 34 = .ok (.ifCond .eq 5, 3)) (by decide) ?_ ?_
  · skip
    refine sm_aload_n (pc := 39) G hb (by decide +kernel : decode cX9_slotsToFull 39 = .ok (.aload_n 0, 1)) rfl ?_
    refine sm_get (pc := 40) (ci := 9) (j := 9) (N := 32) (T := TX9) G hb ho hy rfl (by decide) gin_9 gw6_5 (by decide +kernel : decode cX9_slotsToFull 40 = .ok (.getfield 16, 3)) ?_
    refine sm_iconst (pc := 43) G hb (by decide +kernel : decode cX9_slotsToFull 43 = .ok (.iconst 0, 1)) (by decide) ?_
    refine sm_aload_n (pc := 44) G hb (by decide +kernel : decode cX9_slotsToFull 44 = .ok (.aload_n 0, 1)) rfl ?_
    refine sm_get (pc := 45) (ci := 9) (j := 10) (N := 32) (T := TX9) G hb ho hy rfl (by decide) gin_9 gw6_6 (by decide +kernel : decode cX9_slotsToFull 45 = .ok (.getfield 19, 3)) ?_
    refine sm_iconst (pc := 48) G hb (by decide +kernel : decode cX9_slotsToFull 48 = .ok (.iconst 0, 1)) (by decide) ?_
    refine sm_mono (ca_sub gV_sub) (sm_callS (pc := 49) G hb ho hy he hE.1 4 [3, 4] (kX9_copy hE N 2746 2746) ⟨rfl, rfl, by decide⟩ (by rw [hR]; exact ⟨by decide, by decide⟩) (by decide +kernel) gw5_233 gw5_234 gw1_11 gw5_235 (by decide +kernel : decode cX9_slotsToFull 49 = .ok (.invokestatic 226, 3)) ?_)
    refine sm_iconst (pc := 52) G hb (by decide +kernel : decode cX9_slotsToFull 52 = .ok (.iconst 0, 1)) (by decide) ?_
    refine sm_istore_n (pc := 53) G hb (by decide +kernel : decode cX9_slotsToFull 53 = .ok (.istore_n 3, 1)) rfl ?_
    refine sm_mask ?_
    exact fX9_slotsToFull_s54 N G hb ho hy hR he hr hE
  · skip
    refine sm_iconst (pc := 37) G hb (by decide +kernel : decode cX9_slotsToFull 37 = .ok (.iconst 0, 1)) (by decide) ?_
    exact sm_iret (pc := 38) G hb (by decide +kernel : decode cX9_slotsToFull 38 = .ok (.ireturn, 1)) hr
set_option maxRecDepth 100000 in
set_option maxHeartbeats 4000000 in
theorem fX9_slotsToFull_s29 {γ : gG} {cs ss : Nat} {ε : gE5} (N : Nat) (G : gOK γ) (hb : gcc γ = cX9_slotsToFull) (ho : gow γ = RX9) (hy : gly γ = gyM) (hR : grm γ = { frames := 22, cells := 0, slots := 0, locals := 566 }) (he : genv γ = ε) (hr : grt γ = (some .int)) (hE : gEnv ε) : gSm γ cs ss 29 (fX9_slotsToFull_k29 N) := by
  unfold fX9_slotsToFull_k29
  refine sm_iconst (pc := 29) G hb (by decide +kernel : decode cX9_slotsToFull 29 = .ok (.iconst 0, 1)) (by decide) ?_
  refine sm_mask ?_
  exact fX9_slotsToFull_s30 N G hb ho hy hR he hr hE
set_option maxRecDepth 100000 in
set_option maxHeartbeats 4000000 in
theorem fX9_slotsToFull_s0 {γ : gG} {cs ss : Nat} {ε : gE5} (N : Nat) (G : gOK γ) (hb : gcc γ = cX9_slotsToFull) (ho : gow γ = RX9) (hy : gly γ = gyM) (hR : grm γ = { frames := 22, cells := 0, slots := 0, locals := 566 }) (he : genv γ = ε) (hr : grt γ = (some .int)) (hE : gEnv ε) : gSm γ cs ss 0 (fX9_slotsToFull_k0 N) := by
  unfold fX9_slotsToFull_k0
  refine sm_aload_n (pc := 0) G hb (by decide +kernel : decode cX9_slotsToFull 0 = .ok (.aload_n 0, 1)) rfl ?_
  refine sm_iconst (pc := 1) G hb (by decide +kernel : decode cX9_slotsToFull 1 = .ok (.iconst 0, 1)) (by decide) ?_
  refine sm_put (pc := 2) (ci := 9) (j := 0) (N := 32) (T := TX9) G hb ho hy tyX9 tyX9_ok nmX9 rfl (by decide) gin_9 gw5_236 rfl rfl (by decide +kernel : decode cX9_slotsToFull 2 = .ok (.putfield 76, 3)) ?_
  refine sm_aload_n (pc := 5) G hb (by decide +kernel : decode cX9_slotsToFull 5 = .ok (.aload_n 0, 1)) rfl ?_
  refine sm_iload_n (pc := 6) G hb (by decide +kernel : decode cX9_slotsToFull 6 = .ok (.iload_n 1, 1)) rfl ?_
  refine sm_mono (ca_sub gI_sub) (sm_callS (pc := 7) G hb ho hy he hE.1 1 [] (kX9_areSlots hE N) (gCo_of (by decide +kernel)) (by rw [hR]; exact ⟨by decide, by decide⟩) (by decide +kernel) gw7_108 gw7_109 gw1_11 gw7_110 (by decide +kernel : decode cX9_slotsToFull 7 = .ok (.invokestatic 374, 3)) ?_)
  refine sm_if_eq (pc := 10) (tgt := 29) G hb (by decide +kernel : decode cX9_slotsToFull 10 = .ok (.ifCond .eq 19, 3)) (by decide) ?_ ?_
  · skip
    refine sm_mask ?_
    exact fX9_slotsToFull_s29 N G hb ho hy hR he hr hE
  · skip
    refine sm_iload_n (pc := 13) G hb (by decide +kernel : decode cX9_slotsToFull 13 = .ok (.iload_n 2, 1)) rfl ?_
    refine sm_i2l (pc := 14) G hb (by decide +kernel : decode cX9_slotsToFull 14 = .ok (.i2l, 1)) ?_
    refine sm_lconst (pc := 15) G hb (by decide +kernel : decode cX9_slotsToFull 15 = .ok (.lconst 1, 1)) (by decide) ?_
    refine sm_ldc2 (pc := 16) G hb ho (by decide +kernel : decode cX9_slotsToFull 16 = .ok (.ldc2_w 415, 3)) gw8_66 ?_
    refine sm_mono (ca_sub gI_sub) (sm_callS (pc := 19) G hb ho hy he hE.1 3 [] (kX9_in hE N) (gCo_of (by decide +kernel)) (by rw [hR]; exact ⟨by decide, by decide⟩) (by decide +kernel) gw6_113 gw6_114 gw1_11 gw6_115 (by decide +kernel : decode cX9_slotsToFull 19 = .ok (.invokestatic 91, 3)) ?_)
    refine sm_if_eq (pc := 22) (tgt := 29) G hb (by decide +kernel : decode cX9_slotsToFull 22 = .ok (.ifCond .eq 7, 3)) (by decide) ?_ ?_
    · skip
      refine sm_mask ?_
      exact fX9_slotsToFull_s29 N G hb ho hy hR he hr hE
    · skip
      refine sm_iconst (pc := 25) G hb (by decide +kernel : decode cX9_slotsToFull 25 = .ok (.iconst 1, 1)) (by decide) ?_
      refine sm_goto (pc := 26) (tgt := 30) G hb (by decide +kernel : decode cX9_slotsToFull 26 = .ok (.goto 4, 3)) (by decide) ?_
      refine sm_mask ?_
      exact fX9_slotsToFull_s30 N G hb ho hy hR he hr hE
theorem kX9_slotsToFull {ε : gE5} (hE : gEnv ε) (N : Nat) : gCtr ε yX9_slotsToFull cX9_slotsToFull 5 (some .int) 22 566 gyM (fX9_slotsToFull N) :=
  gCtr_of hE.1 (by decide) (fun γ G hb ho hy hR he hr => fX9_slotsToFull_s0 N G hb ho hy hR he hr hE)

set_option maxRecDepth 100000 in
set_option maxHeartbeats 4000000 in
theorem fX9_bestBias_s114 {γ : gG} {cs ss : Nat} {ε : gE5} (N : Nat) (G : gOK γ) (hb : gcc γ = cX9_bestBias) (ho : gow γ = RX9) (hy : gly γ = gyM) (hR : grm γ = { frames := 23, cells := 0, slots := 0, locals := 588 }) (he : genv γ = ε) (hr : grt γ = (some .int)) (hE : gEnv ε) (K42 : gK) (h42 : gSm γ cs ss 42 K42) : gSm γ cs ss 114 (fX9_bestBias_k114 N K42) := by
  unfold fX9_bestBias_k114
  refine sm_aload_n (pc := 114) G hb (by decide +kernel : decode cX9_bestBias 114 = .ok (.aload_n 0, 1)) rfl ?_
  refine sm_get (pc := 115) (ci := 9) (j := 10) (N := 32) (T := TX9) G hb ho hy rfl (by decide) gin_9 gw6_6 (by decide +kernel : decode cX9_bestBias 115 = .ok (.getfield 19, 3)) ?_
  refine sm_iconst (pc := 118) G hb (by decide +kernel : decode cX9_bestBias 118 = .ok (.iconst 0, 1)) (by decide) ?_
  refine sm_aload_n (pc := 119) G hb (by decide +kernel : decode cX9_bestBias 119 = .ok (.aload_n 0, 1)) rfl ?_
  refine sm_get (pc := 120) (ci := 9) (j := 9) (N := 32) (T := TX9) G hb ho hy rfl (by decide) gin_9 gw6_5 (by decide +kernel : decode cX9_bestBias 120 = .ok (.getfield 16, 3)) ?_
  refine sm_iconst (pc := 123) G hb (by decide +kernel : decode cX9_bestBias 123 = .ok (.iconst 0, 1)) (by decide) ?_
  refine sm_mono (ca_sub gV_sub) (sm_callS (pc := 124) G hb ho hy he hE.1 4 [4, 3] (kX9_copy hE N 2746 2746) ⟨rfl, rfl, by decide⟩ (by rw [hR]; exact ⟨by decide, by decide⟩) (by decide +kernel) gw5_233 gw5_234 gw1_11 gw5_235 (by decide +kernel : decode cX9_bestBias 124 = .ok (.invokestatic 226, 3)) ?_)
  refine sm_iinc (pc := 127) G hb (by decide +kernel : decode cX9_bestBias 127 = .ok (.iinc 5 1, 3)) (by decide) ?_
  refine sm_goto (pc := 130) (tgt := 42) G hb (by decide +kernel : decode cX9_bestBias 130 = .ok (.goto (-88), 3)) (by decide) ?_
  refine sm_mask ?_
  exact h42
set_option maxRecDepth 100000 in
set_option maxHeartbeats 4000000 in
theorem fX9_bestBias_s104 {γ : gG} {cs ss : Nat} {ε : gE5} (N : Nat) (G : gOK γ) (hb : gcc γ = cX9_bestBias) (ho : gow γ = RX9) (hy : gly γ = gyM) (hR : grm γ = { frames := 23, cells := 0, slots := 0, locals := 588 }) (he : genv γ = ε) (hr : grt γ = (some .int)) (hE : gEnv ε) (K42 : gK) (h42 : gSm γ cs ss 42 K42) : gSm γ cs ss 104 (fX9_bestBias_k104 N K42) := by
  unfold fX9_bestBias_k104
  refine sm_iload (pc := 104) G hb (by decide +kernel : decode cX9_bestBias 104 = .ok (.iload 5, 2)) ?_
  refine sm_istore_n (pc := 106) G hb (by decide +kernel : decode cX9_bestBias 106 = .ok (.istore_n 2, 1)) rfl ?_
  refine sm_iload (pc := 107) G hb (by decide +kernel : decode cX9_bestBias 107 = .ok (.iload 6, 2)) ?_
  refine sm_istore_n (pc := 109) G hb (by decide +kernel : decode cX9_bestBias 109 = .ok (.istore_n 3, 1)) rfl ?_
  refine sm_iload (pc := 110) G hb (by decide +kernel : decode cX9_bestBias 110 = .ok (.iload 7, 2)) ?_
  refine sm_istore (pc := 112) G hb (by decide +kernel : decode cX9_bestBias 112 = .ok (.istore 4, 2)) ?_
  refine sm_mask ?_
  exact fX9_bestBias_s114 N G hb ho hy hR he hr hE K42 h42
set_option maxRecDepth 100000 in
set_option maxHeartbeats 4000000 in
theorem fX9_bestBias_s42 {γ : gG} {cs ss : Nat} {ε : gE5} (N : Nat) (G : gOK γ) (hb : gcc γ = cX9_bestBias) (ho : gow γ = RX9) (hy : gly γ = gyM) (hR : grm γ = { frames := 23, cells := 0, slots := 0, locals := 588 }) (he : genv γ = ε) (hr : grt γ = (some .int)) (hE : gEnv ε) : gSm γ cs ss 42 (fX9_bestBias_k42 N) := by
  unfold fX9_bestBias_k42
  refine sm_lp (fun K42 h42 => ?_) N
  unfold fX9_bestBias_b42
  refine sm_iload (pc := 42) G hb (by decide +kernel : decode cX9_bestBias 42 = .ok (.iload 5, 2)) ?_
  refine sm_bipush (pc := 44) G hb (by decide +kernel : decode cX9_bestBias 44 = .ok (.bipush 20, 2)) (by decide) ?_
  refine sm_icmp_gt (pc := 46) (tgt := 133) G hb (by decide +kernel : decode cX9_bestBias 46 = .ok (.if_icmp .gt 87, 3)) (by decide) ?_ ?_
  · skip
    refine sm_iload_n (pc := 133) G hb (by decide +kernel : decode cX9_bestBias 133 = .ok (.iload_n 2, 1)) rfl ?_
    exact sm_iret (pc := 134) G hb (by decide +kernel : decode cX9_bestBias 134 = .ok (.ireturn, 1)) hr
  · skip
    refine sm_aload_n (pc := 49) G hb (by decide +kernel : decode cX9_bestBias 49 = .ok (.aload_n 0, 1)) rfl ?_
    refine sm_get (pc := 50) (ci := 9) (j := 9) (N := 32) (T := TX9) G hb ho hy rfl (by decide) gin_9 gw6_5 (by decide +kernel : decode cX9_bestBias 50 = .ok (.getfield 16, 3)) ?_
    refine sm_iconst (pc := 53) G hb (by decide +kernel : decode cX9_bestBias 53 = .ok (.iconst 5, 1)) (by decide) ?_
    refine sm_iload (pc := 54) G hb (by decide +kernel : decode cX9_bestBias 54 = .ok (.iload 5, 2)) ?_
    refine sm_iast (pc := 56) G hb hy (by decide +kernel : decode cX9_bestBias 56 = .ok (.iastore, 1)) ?_
    refine sm_aload_n (pc := 57) G hb (by decide +kernel : decode cX9_bestBias 57 = .ok (.aload_n 0, 1)) rfl ?_
    refine sm_iload_n (pc := 58) G hb (by decide +kernel : decode cX9_bestBias 58 = .ok (.iload_n 1, 1)) rfl ?_
    refine sm_mono (cav_sub gV_sub) (sm_callV (pc := 59) (N := 32) (T := TX9) (C := RX9) G hb ho hy he hE.1 2 [0, 1, 2, 3, 4, 5, 6, 7, 8, 9, 10, 11, 12, 13, 14, 15, 16, 17] (kX9_slots hE N) (gCo_of (by decide +kernel)) (by rw [hR]; exact ⟨by decide, by decide⟩) rfl rfl (by decide +kernel) gw7_112 gw7_114 gw0_67 gw1_11 gw7_115 (by decide +kernel : decode cX9_bestBias 59 = .ok (.invokevirtual 377, 3)) ?_)
    refine sm_aload_n (pc := 62) G hb (by decide +kernel : decode cX9_bestBias 62 = .ok (.aload_n 0, 1)) rfl ?_
    refine sm_get (pc := 63) (ci := 9) (j := 9) (N := 32) (T := TX9) G hb ho hy rfl (by decide) gin_9 gw6_5 (by decide +kernel : decode cX9_bestBias 63 = .ok (.getfield 16, 3)) ?_
    refine sm_sipush (pc := 66) G hb (by decide +kernel : decode cX9_bestBias 66 = .ok (.sipush 245, 3)) (by decide) ?_
    refine sm_iald (pc := 69) G hb hy (by decide +kernel : decode cX9_bestBias 69 = .ok (.iaload, 1)) ?_
    refine sm_istore (pc := 70) G hb (by decide +kernel : decode cX9_bestBias 70 = .ok (.istore 6, 2)) ?_
    refine sm_aload_n (pc := 72) G hb (by decide +kernel : decode cX9_bestBias 72 = .ok (.aload_n 0, 1)) rfl ?_
    refine sm_bipush (pc := 73) G hb (by decide +kernel : decode cX9_bestBias 73 = .ok (.bipush 8, 2)) (by decide) ?_
    refine sm_mono (cav_sub gI_sub) (sm_callV (pc := 75) (N := 32) (T := TX9) (C := RX9) G hb ho hy he hE.1 2 [0, 1, 2, 3, 4, 5, 6, 7, 8, 9, 10, 11, 12, 13, 14, 15, 16, 17] (kX9_sumOf hE N) (gCo_of (by decide +kernel)) (by rw [hR]; exact ⟨by decide, by decide⟩) rfl rfl (by decide +kernel) gw8_71 gw8_73 gw0_93 gw1_11 gw8_74 (by decide +kernel : decode cX9_bestBias 75 = .ok (.invokevirtual 417, 3)) ?_)
    refine sm_istore (pc := 78) G hb (by decide +kernel : decode cX9_bestBias 78 = .ok (.istore 7, 2)) ?_
    refine sm_iload_n (pc := 80) G hb (by decide +kernel : decode cX9_bestBias 80 = .ok (.iload_n 2, 1)) rfl ?_
    refine sm_iconst (pc := 81) G hb (by decide +kernel : decode cX9_bestBias 81 = .ok (.iconst (-1), 1)) (by decide) ?_
    refine sm_icmp_eq (pc := 82) (tgt := 104) G hb (by decide +kernel : decode cX9_bestBias 82 = .ok (.if_icmp .eq 22, 3)) (by decide) ?_ ?_
    · skip
      refine sm_mask ?_
      exact fX9_bestBias_s104 N G hb ho hy hR he hr hE K42 h42
    · skip
      refine sm_iload (pc := 85) G hb (by decide +kernel : decode cX9_bestBias 85 = .ok (.iload 6, 2)) ?_
      refine sm_iload_n (pc := 87) G hb (by decide +kernel : decode cX9_bestBias 87 = .ok (.iload_n 3, 1)) rfl ?_
      refine sm_icmp_lt (pc := 88) (tgt := 104) G hb (by decide +kernel : decode cX9_bestBias 88 = .ok (.if_icmp .lt 16, 3)) (by decide) ?_ ?_
      · skip
        refine sm_mask ?_
        exact fX9_bestBias_s104 N G hb ho hy hR he hr hE K42 h42
      · skip
        refine sm_iload (pc := 91) G hb (by decide +kernel : decode cX9_bestBias 91 = .ok (.iload 6, 2)) ?_
        refine sm_iload_n (pc := 93) G hb (by decide +kernel : decode cX9_bestBias 93 = .ok (.iload_n 3, 1)) rfl ?_
        refine sm_icmp_ne (pc := 94) (tgt := 114) G hb (by decide +kernel : decode cX9_bestBias 94 = .ok (.if_icmp .ne 20, 3)) (by decide) ?_ ?_
        · skip
          refine sm_mask ?_
          exact fX9_bestBias_s114 N G hb ho hy hR he hr hE K42 h42
        · skip
          refine sm_iload (pc := 97) G hb (by decide +kernel : decode cX9_bestBias 97 = .ok (.iload 7, 2)) ?_
          refine sm_iload (pc := 99) G hb (by decide +kernel : decode cX9_bestBias 99 = .ok (.iload 4, 2)) ?_
          refine sm_icmp_ge (pc := 101) (tgt := 114) G hb (by decide +kernel : decode cX9_bestBias 101 = .ok (.if_icmp .ge 13, 3)) (by decide) ?_ ?_
          · skip
            refine sm_mask ?_
            exact fX9_bestBias_s114 N G hb ho hy hR he hr hE K42 h42
          · skip
            refine sm_mask ?_
            exact fX9_bestBias_s104 N G hb ho hy hR he hr hE K42 h42
set_option maxRecDepth 100000 in
set_option maxHeartbeats 4000000 in
theorem fX9_bestBias_s39 {γ : gG} {cs ss : Nat} {ε : gE5} (N : Nat) (G : gOK γ) (hb : gcc γ = cX9_bestBias) (ho : gow γ = RX9) (hy : gly γ = gyM) (hR : grm γ = { frames := 23, cells := 0, slots := 0, locals := 588 }) (he : genv γ = ε) (hr : grt γ = (some .int)) (hE : gEnv ε) : gSm γ cs ss 39 (fX9_bestBias_k39 N) := by
  unfold fX9_bestBias_k39
  refine sm_iconst (pc := 39) G hb (by decide +kernel : decode cX9_bestBias 39 = .ok (.iconst 0, 1)) (by decide) ?_
  refine sm_istore (pc := 40) G hb (by decide +kernel : decode cX9_bestBias 40 = .ok (.istore 5, 2)) ?_
  refine sm_mask ?_
  exact fX9_bestBias_s42 N G hb ho hy hR he hr hE
set_option maxRecDepth 100000 in
set_option maxHeartbeats 4000000 in
theorem fX9_bestBias_s0 {γ : gG} {cs ss : Nat} {ε : gE5} (N : Nat) (G : gOK γ) (hb : gcc γ = cX9_bestBias) (ho : gow γ = RX9) (hy : gly γ = gyM) (hR : grm γ = { frames := 23, cells := 0, slots := 0, locals := 588 }) (he : genv γ = ε) (hr : grt γ = (some .int)) (hE : gEnv ε) : gSm γ cs ss 0 (fX9_bestBias_k0 N) := by
  unfold fX9_bestBias_k0
  refine sm_aload_n (pc := 0) G hb (by decide +kernel : decode cX9_bestBias 0 = .ok (.aload_n 0, 1)) rfl ?_
  refine sm_iconst (pc := 1) G hb (by decide +kernel : decode cX9_bestBias 1 = .ok (.iconst 0, 1)) (by decide) ?_
  refine sm_put (pc := 2) (ci := 9) (j := 0) (N := 32) (T := TX9) G hb ho hy tyX9 tyX9_ok nmX9 rfl (by decide) gin_9 gw5_236 rfl rfl (by decide +kernel : decode cX9_bestBias 2 = .ok (.putfield 76, 3)) ?_
  refine sm_aload_n (pc := 5) G hb (by decide +kernel : decode cX9_bestBias 5 = .ok (.aload_n 0, 1)) rfl ?_
  refine sm_iload_n (pc := 6) G hb (by decide +kernel : decode cX9_bestBias 6 = .ok (.iload_n 1, 1)) rfl ?_
  refine sm_mono (ca_sub gI_sub) (sm_callS (pc := 7) G hb ho hy he hE.1 1 [] (kX9_areSlots hE N) (gCo_of (by decide +kernel)) (by rw [hR]; exact ⟨by decide, by decide⟩) (by decide +kernel) gw7_108 gw7_109 gw1_11 gw7_110 (by decide +kernel : decode cX9_bestBias 7 = .ok (.invokestatic 374, 3)) ?_)
  refine sm_iconst (pc := 10) G hb (by decide +kernel : decode cX9_bestBias 10 = .ok (.iconst 1, 1)) (by decide) ?_
  refine sm_mono (cav_sub gI_sub) (sm_callV (pc := 11) (N := 32) (T := TX9) (C := RX9) G hb ho hy he hE.1 3 [0, 1, 2, 3, 4, 5, 6, 7, 8, 9, 10, 11, 12, 13, 14, 15, 16, 17] (kX9_fails hE N) (gCo_of (by decide +kernel)) (by rw [hR]; exact ⟨by decide, by decide⟩) rfl rfl (by decide +kernel) gw6_105 gw6_107 gw0_34 gw1_11 gw6_108 (by decide +kernel : decode cX9_bestBias 11 = .ok (.invokevirtual 87, 3)) ?_)
  refine sm_if_eq (pc := 14) (tgt := 19) G hb (by decide +kernel : decode cX9_bestBias 14 = .ok (.ifCond .eq 5, 3)) (by decide) ?_ ?_
  · skip
    refine sm_iconst (pc := 19) G hb (by decide +kernel : decode cX9_bestBias 19 = .ok (.iconst (-1), 1)) (by decide) ?_
    refine sm_istore_n (pc := 20) G hb (by decide +kernel : decode cX9_bestBias 20 = .ok (.istore_n 2, 1)) rfl ?_
    refine sm_iconst (pc := 21) G hb (by decide +kernel : decode cX9_bestBias 21 = .ok (.iconst 0, 1)) (by decide) ?_
    refine sm_istore_n (pc := 22) G hb (by decide +kernel : decode cX9_bestBias 22 = .ok (.istore_n 3, 1)) rfl ?_
    refine sm_iconst (pc := 23) G hb (by decide +kernel : decode cX9_bestBias 23 = .ok (.iconst 0, 1)) (by decide) ?_
    refine sm_istore (pc := 24) G hb (by decide +kernel : decode cX9_bestBias 24 = .ok (.istore 4, 2)) ?_
    refine sm_aload_n (pc := 26) G hb (by decide +kernel : decode cX9_bestBias 26 = .ok (.aload_n 0, 1)) rfl ?_
    refine sm_get (pc := 27) (ci := 9) (j := 9) (N := 32) (T := TX9) G hb ho hy rfl (by decide) gin_9 gw6_5 (by decide +kernel : decode cX9_bestBias 27 = .ok (.getfield 16, 3)) ?_
    refine sm_iconst (pc := 30) G hb (by decide +kernel : decode cX9_bestBias 30 = .ok (.iconst 0, 1)) (by decide) ?_
    refine sm_aload_n (pc := 31) G hb (by decide +kernel : decode cX9_bestBias 31 = .ok (.aload_n 0, 1)) rfl ?_
    refine sm_get (pc := 32) (ci := 9) (j := 10) (N := 32) (T := TX9) G hb ho hy rfl (by decide) gin_9 gw6_6 (by decide +kernel : decode cX9_bestBias 32 = .ok (.getfield 19, 3)) ?_
    refine sm_iconst (pc := 35) G hb (by decide +kernel : decode cX9_bestBias 35 = .ok (.iconst 0, 1)) (by decide) ?_
    refine sm_mono (ca_sub gV_sub) (sm_callS (pc := 36) G hb ho hy he hE.1 4 [3, 4] (kX9_copy hE N 2746 2746) ⟨rfl, rfl, by decide⟩ (by rw [hR]; exact ⟨by decide, by decide⟩) (by decide +kernel) gw5_233 gw5_234 gw1_11 gw5_235 (by decide +kernel : decode cX9_bestBias 36 = .ok (.invokestatic 226, 3)) ?_)
    refine sm_mask ?_
    exact fX9_bestBias_s39 N G hb ho hy hR he hr hE
  · skip
    refine sm_iconst (pc := 17) G hb (by decide +kernel : decode cX9_bestBias 17 = .ok (.iconst 0, 1)) (by decide) ?_
    exact sm_iret (pc := 18) G hb (by decide +kernel : decode cX9_bestBias 18 = .ok (.ireturn, 1)) hr
theorem kX9_bestBias {ε : gE5} (hE : gEnv ε) (N : Nat) : gCtr ε yX9_bestBias cX9_bestBias 8 (some .int) 23 588 gyM (fX9_bestBias N) :=
  gCtr_of hE.1 (by decide) (fun γ G hb ho hy hR he hr => fX9_bestBias_s0 N G hb ho hy hR he hr hE)

set_option maxRecDepth 100000 in
set_option maxHeartbeats 4000000 in
theorem fX9_bestExcess_s91 {γ : gG} {cs ss : Nat} {ε : gE5} (N : Nat) (G : gOK γ) (hb : gcc γ = cX9_bestExcess) (ho : gow γ = RX9) (hy : gly γ = gyM) (hR : grm γ = { frames := 23, cells := 0, slots := 0, locals := 588 }) (he : genv γ = ε) (hr : grt γ = (some .int)) (hE : gEnv ε) (K39 : gK) (h39 : gSm γ cs ss 39 K39) : gSm γ cs ss 91 (fX9_bestExcess_k91 N K39) := by
  unfold fX9_bestExcess_k91
  refine sm_aload_n (pc := 91) G hb (by decide +kernel : decode cX9_bestExcess 91 = .ok (.aload_n 0, 1)) rfl ?_
  refine sm_get (pc := 92) (ci := 9) (j := 10) (N := 32) (T := TX9) G hb ho hy rfl (by decide) gin_9 gw6_6 (by decide +kernel : decode cX9_bestExcess 92 = .ok (.getfield 19, 3)) ?_
  refine sm_iconst (pc := 95) G hb (by decide +kernel : decode cX9_bestExcess 95 = .ok (.iconst 0, 1)) (by decide) ?_
  refine sm_aload_n (pc := 96) G hb (by decide +kernel : decode cX9_bestExcess 96 = .ok (.aload_n 0, 1)) rfl ?_
  refine sm_get (pc := 97) (ci := 9) (j := 9) (N := 32) (T := TX9) G hb ho hy rfl (by decide) gin_9 gw6_5 (by decide +kernel : decode cX9_bestExcess 97 = .ok (.getfield 16, 3)) ?_
  refine sm_iconst (pc := 100) G hb (by decide +kernel : decode cX9_bestExcess 100 = .ok (.iconst 0, 1)) (by decide) ?_
  refine sm_mono (ca_sub gV_sub) (sm_callS (pc := 101) G hb ho hy he hE.1 4 [4, 3] (kX9_copy hE N 2746 2746) ⟨rfl, rfl, by decide⟩ (by rw [hR]; exact ⟨by decide, by decide⟩) (by decide +kernel) gw5_233 gw5_234 gw1_11 gw5_235 (by decide +kernel : decode cX9_bestExcess 101 = .ok (.invokestatic 226, 3)) ?_)
  refine sm_iinc (pc := 104) G hb (by decide +kernel : decode cX9_bestExcess 104 = .ok (.iinc 4 10, 3)) (by decide) ?_
  refine sm_goto (pc := 107) (tgt := 39) G hb (by decide +kernel : decode cX9_bestExcess 107 = .ok (.goto (-68), 3)) (by decide) ?_
  refine sm_mask ?_
  exact h39
set_option maxRecDepth 100000 in
set_option maxHeartbeats 4000000 in
theorem fX9_bestExcess_s85 {γ : gG} {cs ss : Nat} {ε : gE5} (N : Nat) (G : gOK γ) (hb : gcc γ = cX9_bestExcess) (ho : gow γ = RX9) (hy : gly γ = gyM) (hR : grm γ = { frames := 23, cells := 0, slots := 0, locals := 588 }) (he : genv γ = ε) (hr : grt γ = (some .int)) (hE : gEnv ε) (K39 : gK) (h39 : gSm γ cs ss 39 K39) : gSm γ cs ss 85 (fX9_bestExcess_k85 N K39) := by
  unfold fX9_bestExcess_k85
  refine sm_iload (pc := 85) G hb (by decide +kernel : decode cX9_bestExcess 85 = .ok (.iload 4, 2)) ?_
  refine sm_istore_n (pc := 87) G hb (by decide +kernel : decode cX9_bestExcess 87 = .ok (.istore_n 2, 1)) rfl ?_
  refine sm_iload (pc := 88) G hb (by decide +kernel : decode cX9_bestExcess 88 = .ok (.iload 5, 2)) ?_
  refine sm_istore_n (pc := 90) G hb (by decide +kernel : decode cX9_bestExcess 90 = .ok (.istore_n 3, 1)) rfl ?_
  refine sm_mask ?_
  exact fX9_bestExcess_s91 N G hb ho hy hR he hr hE K39 h39
set_option maxRecDepth 100000 in
set_option maxHeartbeats 4000000 in
theorem fX9_bestExcess_s39 {γ : gG} {cs ss : Nat} {ε : gE5} (N : Nat) (G : gOK γ) (hb : gcc γ = cX9_bestExcess) (ho : gow γ = RX9) (hy : gly γ = gyM) (hR : grm γ = { frames := 23, cells := 0, slots := 0, locals := 588 }) (he : genv γ = ε) (hr : grt γ = (some .int)) (hE : gEnv ε) : gSm γ cs ss 39 (fX9_bestExcess_k39 N) := by
  unfold fX9_bestExcess_k39
  refine sm_lp (fun K39 h39 => ?_) N
  unfold fX9_bestExcess_b39
  refine sm_iload (pc := 39) G hb (by decide +kernel : decode cX9_bestExcess 39 = .ok (.iload 4, 2)) ?_
  refine sm_bipush (pc := 41) G hb (by decide +kernel : decode cX9_bestExcess 41 = .ok (.bipush 50, 2)) (by decide) ?_
  refine sm_icmp_gt (pc := 43) (tgt := 110) G hb (by decide +kernel : decode cX9_bestExcess 43 = .ok (.if_icmp .gt 67, 3)) (by decide) ?_ ?_
  · skip
    refine sm_iload_n (pc := 110) G hb (by decide +kernel : decode cX9_bestExcess 110 = .ok (.iload_n 2, 1)) rfl ?_
    exact sm_iret (pc := 111) G hb (by decide +kernel : decode cX9_bestExcess 111 = .ok (.ireturn, 1)) hr
  · skip
    refine sm_aload_n (pc := 46) G hb (by decide +kernel : decode cX9_bestExcess 46 = .ok (.aload_n 0, 1)) rfl ?_
    refine sm_get (pc := 47) (ci := 9) (j := 9) (N := 32) (T := TX9) G hb ho hy rfl (by decide) gin_9 gw6_5 (by decide +kernel : decode cX9_bestExcess 47 = .ok (.getfield 16, 3)) ?_
    refine sm_iconst (pc := 50) G hb (by decide +kernel : decode cX9_bestExcess 50 = .ok (.iconst 3, 1)) (by decide) ?_
    refine sm_iconst (pc := 51) G hb (by decide +kernel : decode cX9_bestExcess 51 = .ok (.iconst 1, 1)) (by decide) ?_
    refine sm_iast (pc := 52) G hb hy (by decide +kernel : decode cX9_bestExcess 52 = .ok (.iastore, 1)) ?_
    refine sm_aload_n (pc := 53) G hb (by decide +kernel : decode cX9_bestExcess 53 = .ok (.aload_n 0, 1)) rfl ?_
    refine sm_get (pc := 54) (ci := 9) (j := 9) (N := 32) (T := TX9) G hb ho hy rfl (by decide) gin_9 gw6_5 (by decide +kernel : decode cX9_bestExcess 54 = .ok (.getfield 16, 3)) ?_
    refine sm_iconst (pc := 57) G hb (by decide +kernel : decode cX9_bestExcess 57 = .ok (.iconst 4, 1)) (by decide) ?_
    refine sm_iload (pc := 58) G hb (by decide +kernel : decode cX9_bestExcess 58 = .ok (.iload 4, 2)) ?_
    refine sm_iast (pc := 60) G hb hy (by decide +kernel : decode cX9_bestExcess 60 = .ok (.iastore, 1)) ?_
    refine sm_aload_n (pc := 61) G hb (by decide +kernel : decode cX9_bestExcess 61 = .ok (.aload_n 0, 1)) rfl ?_
    refine sm_iload_n (pc := 62) G hb (by decide +kernel : decode cX9_bestExcess 62 = .ok (.iload_n 1, 1)) rfl ?_
    refine sm_mono (cav_sub gV_sub) (sm_callV (pc := 63) (N := 32) (T := TX9) (C := RX9) G hb ho hy he hE.1 2 [0, 1, 2, 3, 4, 5, 6, 7, 8, 9, 10, 11, 12, 13, 14, 15, 16, 17] (kX9_slots hE N) (gCo_of (by decide +kernel)) (by rw [hR]; exact ⟨by decide, by decide⟩) rfl rfl (by decide +kernel) gw7_112 gw7_114 gw0_67 gw1_11 gw7_115 (by decide +kernel : decode cX9_bestExcess 63 = .ok (.invokevirtual 377, 3)) ?_)
    refine sm_aload_n (pc := 66) G hb (by decide +kernel : decode cX9_bestExcess 66 = .ok (.aload_n 0, 1)) rfl ?_
    refine sm_bipush (pc := 67) G hb (by decide +kernel : decode cX9_bestExcess 67 = .ok (.bipush 6, 2)) (by decide) ?_
    refine sm_mono (cav_sub gI_sub) (sm_callV (pc := 69) (N := 32) (T := TX9) (C := RX9) G hb ho hy he hE.1 2 [0, 1, 2, 3, 4, 5, 6, 7, 8, 9, 10, 11, 12, 13, 14, 15, 16, 17] (kX9_sumOf hE N) (gCo_of (by decide +kernel)) (by rw [hR]; exact ⟨by decide, by decide⟩) rfl rfl (by decide +kernel) gw8_71 gw8_73 gw0_93 gw1_11 gw8_74 (by decide +kernel : decode cX9_bestExcess 69 = .ok (.invokevirtual 417, 3)) ?_)
    refine sm_istore (pc := 72) G hb (by decide +kernel : decode cX9_bestExcess 72 = .ok (.istore 5, 2)) ?_
    refine sm_iload_n (pc := 74) G hb (by decide +kernel : decode cX9_bestExcess 74 = .ok (.iload_n 2, 1)) rfl ?_
    refine sm_iconst (pc := 75) G hb (by decide +kernel : decode cX9_bestExcess 75 = .ok (.iconst (-1), 1)) (by decide) ?_
    refine sm_icmp_eq (pc := 76) (tgt := 85) G hb (by decide +kernel : decode cX9_bestExcess 76 = .ok (.if_icmp .eq 9, 3)) (by decide) ?_ ?_
    · skip
      refine sm_mask ?_
      exact fX9_bestExcess_s85 N G hb ho hy hR he hr hE K39 h39
    · skip
      refine sm_iload (pc := 79) G hb (by decide +kernel : decode cX9_bestExcess 79 = .ok (.iload 5, 2)) ?_
      refine sm_iload_n (pc := 81) G hb (by decide +kernel : decode cX9_bestExcess 81 = .ok (.iload_n 3, 1)) rfl ?_
      refine sm_icmp_le (pc := 82) (tgt := 91) G hb (by decide +kernel : decode cX9_bestExcess 82 = .ok (.if_icmp .le 9, 3)) (by decide) ?_ ?_
      · skip
        refine sm_mask ?_
        exact fX9_bestExcess_s91 N G hb ho hy hR he hr hE K39 h39
      · skip
        refine sm_mask ?_
        exact fX9_bestExcess_s85 N G hb ho hy hR he hr hE K39 h39
set_option maxRecDepth 100000 in
set_option maxHeartbeats 4000000 in
theorem fX9_bestExcess_s36 {γ : gG} {cs ss : Nat} {ε : gE5} (N : Nat) (G : gOK γ) (hb : gcc γ = cX9_bestExcess) (ho : gow γ = RX9) (hy : gly γ = gyM) (hR : grm γ = { frames := 23, cells := 0, slots := 0, locals := 588 }) (he : genv γ = ε) (hr : grt γ = (some .int)) (hE : gEnv ε) : gSm γ cs ss 36 (fX9_bestExcess_k36 N) := by
  unfold fX9_bestExcess_k36
  refine sm_iconst (pc := 36) G hb (by decide +kernel : decode cX9_bestExcess 36 = .ok (.iconst 0, 1)) (by decide) ?_
  refine sm_istore (pc := 37) G hb (by decide +kernel : decode cX9_bestExcess 37 = .ok (.istore 4, 2)) ?_
  refine sm_mask ?_
  exact fX9_bestExcess_s39 N G hb ho hy hR he hr hE
set_option maxRecDepth 100000 in
set_option maxHeartbeats 4000000 in
theorem fX9_bestExcess_s0 {γ : gG} {cs ss : Nat} {ε : gE5} (N : Nat) (G : gOK γ) (hb : gcc γ = cX9_bestExcess) (ho : gow γ = RX9) (hy : gly γ = gyM) (hR : grm γ = { frames := 23, cells := 0, slots := 0, locals := 588 }) (he : genv γ = ε) (hr : grt γ = (some .int)) (hE : gEnv ε) : gSm γ cs ss 0 (fX9_bestExcess_k0 N) := by
  unfold fX9_bestExcess_k0
  refine sm_aload_n (pc := 0) G hb (by decide +kernel : decode cX9_bestExcess 0 = .ok (.aload_n 0, 1)) rfl ?_
  refine sm_iconst (pc := 1) G hb (by decide +kernel : decode cX9_bestExcess 1 = .ok (.iconst 0, 1)) (by decide) ?_
  refine sm_put (pc := 2) (ci := 9) (j := 0) (N := 32) (T := TX9) G hb ho hy tyX9 tyX9_ok nmX9 rfl (by decide) gin_9 gw5_236 rfl rfl (by decide +kernel : decode cX9_bestExcess 2 = .ok (.putfield 76, 3)) ?_
  refine sm_aload_n (pc := 5) G hb (by decide +kernel : decode cX9_bestExcess 5 = .ok (.aload_n 0, 1)) rfl ?_
  refine sm_iload_n (pc := 6) G hb (by decide +kernel : decode cX9_bestExcess 6 = .ok (.iload_n 1, 1)) rfl ?_
  refine sm_mono (ca_sub gI_sub) (sm_callS (pc := 7) G hb ho hy he hE.1 1 [] (kX9_areSlots hE N) (gCo_of (by decide +kernel)) (by rw [hR]; exact ⟨by decide, by decide⟩) (by decide +kernel) gw7_108 gw7_109 gw1_11 gw7_110 (by decide +kernel : decode cX9_bestExcess 7 = .ok (.invokestatic 374, 3)) ?_)
  refine sm_iconst (pc := 10) G hb (by decide +kernel : decode cX9_bestExcess 10 = .ok (.iconst 1, 1)) (by decide) ?_
  refine sm_mono (cav_sub gI_sub) (sm_callV (pc := 11) (N := 32) (T := TX9) (C := RX9) G hb ho hy he hE.1 3 [0, 1, 2, 3, 4, 5, 6, 7, 8, 9, 10, 11, 12, 13, 14, 15, 16, 17] (kX9_fails hE N) (gCo_of (by decide +kernel)) (by rw [hR]; exact ⟨by decide, by decide⟩) rfl rfl (by decide +kernel) gw6_105 gw6_107 gw0_34 gw1_11 gw6_108 (by decide +kernel : decode cX9_bestExcess 11 = .ok (.invokevirtual 87, 3)) ?_)
  refine sm_if_eq (pc := 14) (tgt := 19) G hb (by decide +kernel : decode cX9_bestExcess 14 = .ok (.ifCond .eq 5, 3)) (by decide) ?_ ?_
  · skip
    refine sm_iconst (pc := 19) G hb (by decide +kernel : decode cX9_bestExcess 19 = .ok (.iconst (-1), 1)) (by decide) ?_
    refine sm_istore_n (pc := 20) G hb (by decide +kernel : decode cX9_bestExcess 20 = .ok (.istore_n 2, 1)) rfl ?_
    refine sm_iconst (pc := 21) G hb (by decide +kernel : decode cX9_bestExcess 21 = .ok (.iconst 0, 1)) (by decide) ?_
    refine sm_istore_n (pc := 22) G hb (by decide +kernel : decode cX9_bestExcess 22 = .ok (.istore_n 3, 1)) rfl ?_
    refine sm_aload_n (pc := 23) G hb (by decide +kernel : decode cX9_bestExcess 23 = .ok (.aload_n 0, 1)) rfl ?_
    refine sm_get (pc := 24) (ci := 9) (j := 9) (N := 32) (T := TX9) G hb ho hy rfl (by decide) gin_9 gw6_5 (by decide +kernel : decode cX9_bestExcess 24 = .ok (.getfield 16, 3)) ?_
    refine sm_iconst (pc := 27) G hb (by decide +kernel : decode cX9_bestExcess 27 = .ok (.iconst 0, 1)) (by decide) ?_
    refine sm_aload_n (pc := 28) G hb (by decide +kernel : decode cX9_bestExcess 28 = .ok (.aload_n 0, 1)) rfl ?_
    refine sm_get (pc := 29) (ci := 9) (j := 10) (N := 32) (T := TX9) G hb ho hy rfl (by decide) gin_9 gw6_6 (by decide +kernel : decode cX9_bestExcess 29 = .ok (.getfield 19, 3)) ?_
    refine sm_iconst (pc := 32) G hb (by decide +kernel : decode cX9_bestExcess 32 = .ok (.iconst 0, 1)) (by decide) ?_
    refine sm_mono (ca_sub gV_sub) (sm_callS (pc := 33) G hb ho hy he hE.1 4 [3, 4] (kX9_copy hE N 2746 2746) ⟨rfl, rfl, by decide⟩ (by rw [hR]; exact ⟨by decide, by decide⟩) (by decide +kernel) gw5_233 gw5_234 gw1_11 gw5_235 (by decide +kernel : decode cX9_bestExcess 33 = .ok (.invokestatic 226, 3)) ?_)
    refine sm_mask ?_
    exact fX9_bestExcess_s36 N G hb ho hy hR he hr hE
  · skip
    refine sm_iconst (pc := 17) G hb (by decide +kernel : decode cX9_bestExcess 17 = .ok (.iconst 0, 1)) (by decide) ?_
    exact sm_iret (pc := 18) G hb (by decide +kernel : decode cX9_bestExcess 18 = .ok (.ireturn, 1)) hr
theorem kX9_bestExcess {ε : gE5} (hE : gEnv ε) (N : Nat) : gCtr ε yX9_bestExcess cX9_bestExcess 6 (some .int) 23 588 gyM (fX9_bestExcess N) :=
  gCtr_of hE.1 (by decide) (fun γ G hb ho hy hR he hr => fX9_bestExcess_s0 N G hb ho hy hR he hr hE)

set_option maxRecDepth 100000 in
set_option maxHeartbeats 4000000 in
theorem fX9_bestSettings_s105 {γ : gG} {cs ss : Nat} {ε : gE5} (N : Nat) (G : gOK γ) (hb : gcc γ = cX9_bestSettings) (ho : gow γ = RX9) (hy : gly γ = gyM) (hR : grm γ = { frames := 23, cells := 0, slots := 0, locals := 588 }) (he : genv γ = ε) (hr : grt γ = (some .int)) (hE : gEnv ε) (K39 : gK) (h39 : gSm γ cs ss 39 K39) : gSm γ cs ss 105 (fX9_bestSettings_k105 N K39) := by
  unfold fX9_bestSettings_k105
  refine sm_aload_n (pc := 105) G hb (by decide +kernel : decode cX9_bestSettings 105 = .ok (.aload_n 0, 1)) rfl ?_
  refine sm_get (pc := 106) (ci := 9) (j := 10) (N := 32) (T := TX9) G hb ho hy rfl (by decide) gin_9 gw6_6 (by decide +kernel : decode cX9_bestSettings 106 = .ok (.getfield 19, 3)) ?_
  refine sm_iconst (pc := 109) G hb (by decide +kernel : decode cX9_bestSettings 109 = .ok (.iconst 0, 1)) (by decide) ?_
  refine sm_aload_n (pc := 110) G hb (by decide +kernel : decode cX9_bestSettings 110 = .ok (.aload_n 0, 1)) rfl ?_
  refine sm_get (pc := 111) (ci := 9) (j := 9) (N := 32) (T := TX9) G hb ho hy rfl (by decide) gin_9 gw6_5 (by decide +kernel : decode cX9_bestSettings 111 = .ok (.getfield 16, 3)) ?_
  refine sm_iconst (pc := 114) G hb (by decide +kernel : decode cX9_bestSettings 114 = .ok (.iconst 0, 1)) (by decide) ?_
  refine sm_mono (ca_sub gV_sub) (sm_callS (pc := 115) G hb ho hy he hE.1 4 [4, 3] (kX9_copy hE N 2746 2746) ⟨rfl, rfl, by decide⟩ (by rw [hR]; exact ⟨by decide, by decide⟩) (by decide +kernel) gw5_233 gw5_234 gw1_11 gw5_235 (by decide +kernel : decode cX9_bestSettings 115 = .ok (.invokestatic 226, 3)) ?_)
  refine sm_iinc (pc := 118) G hb (by decide +kernel : decode cX9_bestSettings 118 = .ok (.iinc 5 1, 3)) (by decide) ?_
  refine sm_goto (pc := 121) (tgt := 39) G hb (by decide +kernel : decode cX9_bestSettings 121 = .ok (.goto (-82), 3)) (by decide) ?_
  refine sm_mask ?_
  exact h39
set_option maxRecDepth 100000 in
set_option maxHeartbeats 4000000 in
theorem fX9_bestSettings_s89 {γ : gG} {cs ss : Nat} {ε : gE5} (N : Nat) (G : gOK γ) (hb : gcc γ = cX9_bestSettings) (ho : gow γ = RX9) (hy : gly γ = gyM) (hR : grm γ = { frames := 23, cells := 0, slots := 0, locals := 588 }) (he : genv γ = ε) (hr : grt γ = (some .int)) (hE : gEnv ε) (K39 : gK) (h39 : gSm γ cs ss 39 K39) : gSm γ cs ss 89 (fX9_bestSettings_k89 N K39) := by
  unfold fX9_bestSettings_k89
  refine sm_bipush (pc := 89) G hb (by decide +kernel : decode cX9_bestSettings 89 = .ok (.bipush 10, 2)) (by decide) ?_
  refine sm_iload (pc := 91) G hb (by decide +kernel : decode cX9_bestSettings 91 = .ok (.iload 5, 2)) ?_
  refine sm_iconst (pc := 93) G hb (by decide +kernel : decode cX9_bestSettings 93 = .ok (.iconst 2, 1)) (by decide) ?_
  refine sm_idiv (pc := 94) G hb (by decide +kernel : decode cX9_bestSettings 94 = .ok (.idiv, 1)) ?_
  refine sm_imul (pc := 95) G hb (by decide +kernel : decode cX9_bestSettings 95 = .ok (.imul, 1)) ?_
  refine sm_iload (pc := 96) G hb (by decide +kernel : decode cX9_bestSettings 96 = .ok (.iload 5, 2)) ?_
  refine sm_iconst (pc := 98) G hb (by decide +kernel : decode cX9_bestSettings 98 = .ok (.iconst 2, 1)) (by decide) ?_
  refine sm_irem (pc := 99) G hb (by decide +kernel : decode cX9_bestSettings 99 = .ok (.irem, 1)) ?_
  refine sm_iadd (pc := 100) G hb (by decide +kernel : decode cX9_bestSettings 100 = .ok (.iadd, 1)) ?_
  refine sm_istore_n (pc := 101) G hb (by decide +kernel : decode cX9_bestSettings 101 = .ok (.istore_n 2, 1)) rfl ?_
  refine sm_lload (pc := 102) G hb (by decide +kernel : decode cX9_bestSettings 102 = .ok (.lload 6, 2)) ?_
  refine sm_lstore_n (pc := 104) G hb (by decide +kernel : decode cX9_bestSettings 104 = .ok (.lstore_n 3, 1)) rfl ?_
  refine sm_mask ?_
  exact fX9_bestSettings_s105 N G hb ho hy hR he hr hE K39 h39
set_option maxRecDepth 100000 in
set_option maxHeartbeats 4000000 in
theorem fX9_bestSettings_s39 {γ : gG} {cs ss : Nat} {ε : gE5} (N : Nat) (G : gOK γ) (hb : gcc γ = cX9_bestSettings) (ho : gow γ = RX9) (hy : gly γ = gyM) (hR : grm γ = { frames := 23, cells := 0, slots := 0, locals := 588 }) (he : genv γ = ε) (hr : grt γ = (some .int)) (hE : gEnv ε) : gSm γ cs ss 39 (fX9_bestSettings_k39 N) := by
  unfold fX9_bestSettings_k39
  refine sm_lp (fun K39 h39 => ?_) N
  unfold fX9_bestSettings_b39
  refine sm_iload (pc := 39) G hb (by decide +kernel : decode cX9_bestSettings 39 = .ok (.iload 5, 2)) ?_
  refine sm_iconst (pc := 41) G hb (by decide +kernel : decode cX9_bestSettings 41 = .ok (.iconst 4, 1)) (by decide) ?_
  refine sm_icmp_ge (pc := 42) (tgt := 124) G hb (by decide +kernel : decode cX9_bestSettings 42 = .ok (.if_icmp .ge 82, 3)) (by decide) ?_ ?_
  · skip
    refine sm_iload_n (pc := 124) G hb (by decide +kernel : decode cX9_bestSettings 124 = .ok (.iload_n 2, 1)) rfl ?_
    exact sm_iret (pc := 125) G hb (by decide +kernel : decode cX9_bestSettings 125 = .ok (.ireturn, 1)) hr
  · skip
    refine sm_aload_n (pc := 45) G hb (by decide +kernel : decode cX9_bestSettings 45 = .ok (.aload_n 0, 1)) rfl ?_
    refine sm_get (pc := 46) (ci := 9) (j := 9) (N := 32) (T := TX9) G hb ho hy rfl (by decide) gin_9 gw6_5 (by decide +kernel : decode cX9_bestSettings 46 = .ok (.getfield 16, 3)) ?_
    refine sm_iconst (pc := 49) G hb (by decide +kernel : decode cX9_bestSettings 49 = .ok (.iconst 3, 1)) (by decide) ?_
    refine sm_iload (pc := 50) G hb (by decide +kernel : decode cX9_bestSettings 50 = .ok (.iload 5, 2)) ?_
    refine sm_iconst (pc := 52) G hb (by decide +kernel : decode cX9_bestSettings 52 = .ok (.iconst 2, 1)) (by decide) ?_
    refine sm_idiv (pc := 53) G hb (by decide +kernel : decode cX9_bestSettings 53 = .ok (.idiv, 1)) ?_
    refine sm_iast (pc := 54) G hb hy (by decide +kernel : decode cX9_bestSettings 54 = .ok (.iastore, 1)) ?_
    refine sm_aload_n (pc := 55) G hb (by decide +kernel : decode cX9_bestSettings 55 = .ok (.aload_n 0, 1)) rfl ?_
    refine sm_get (pc := 56) (ci := 9) (j := 9) (N := 32) (T := TX9) G hb ho hy rfl (by decide) gin_9 gw6_5 (by decide +kernel : decode cX9_bestSettings 56 = .ok (.getfield 16, 3)) ?_
    refine sm_bipush (pc := 59) G hb (by decide +kernel : decode cX9_bestSettings 59 = .ok (.bipush 6, 2)) (by decide) ?_
    refine sm_iload (pc := 61) G hb (by decide +kernel : decode cX9_bestSettings 61 = .ok (.iload 5, 2)) ?_
    refine sm_iconst (pc := 63) G hb (by decide +kernel : decode cX9_bestSettings 63 = .ok (.iconst 2, 1)) (by decide) ?_
    refine sm_irem (pc := 64) G hb (by decide +kernel : decode cX9_bestSettings 64 = .ok (.irem, 1)) ?_
    refine sm_iast (pc := 65) G hb hy (by decide +kernel : decode cX9_bestSettings 65 = .ok (.iastore, 1)) ?_
    refine sm_aload_n (pc := 66) G hb (by decide +kernel : decode cX9_bestSettings 66 = .ok (.aload_n 0, 1)) rfl ?_
    refine sm_iload_n (pc := 67) G hb (by decide +kernel : decode cX9_bestSettings 67 = .ok (.iload_n 1, 1)) rfl ?_
    refine sm_mono (cav_sub gV_sub) (sm_callV (pc := 68) (N := 32) (T := TX9) (C := RX9) G hb ho hy he hE.1 2 [0, 1, 2, 3, 4, 5, 6, 7, 8, 9, 10, 11, 12, 13, 14, 15, 16, 17] (kX9_slots hE N) (gCo_of (by decide +kernel)) (by rw [hR]; exact ⟨by decide, by decide⟩) rfl rfl (by decide +kernel) gw7_112 gw7_114 gw0_67 gw1_11 gw7_115 (by decide +kernel : decode cX9_bestSettings 68 = .ok (.invokevirtual 377, 3)) ?_)
    refine sm_aload_n (pc := 71) G hb (by decide +kernel : decode cX9_bestSettings 71 = .ok (.aload_n 0, 1)) rfl ?_
    refine sm_mono (cav_sub gJ_sub) (sm_callV (pc := 72) (N := 32) (T := TX9) (C := RX9) G hb ho hy he hE.1 1 [0, 1, 2, 3, 4, 5, 6, 7, 8, 9, 10, 11, 12, 13, 14, 15, 16, 17] (kX9_squares hE N) (gCo_of (by decide +kernel)) (by rw [hR]; exact ⟨by decide, by decide⟩) rfl rfl (by decide +kernel) gw8_27 gw8_29 gw0_92 gw1_11 gw8_30 (by decide +kernel : decode cX9_bestSettings 72 = .ok (.invokevirtual 404, 3)) ?_)
    refine sm_lstore (pc := 75) G hb (by decide +kernel : decode cX9_bestSettings 75 = .ok (.lstore 6, 2)) ?_
    refine sm_iload_n (pc := 77) G hb (by decide +kernel : decode cX9_bestSettings 77 = .ok (.iload_n 2, 1)) rfl ?_
    refine sm_iconst (pc := 78) G hb (by decide +kernel : decode cX9_bestSettings 78 = .ok (.iconst (-1), 1)) (by decide) ?_
    refine sm_icmp_eq (pc := 79) (tgt := 89) G hb (by decide +kernel : decode cX9_bestSettings 79 = .ok (.if_icmp .eq 10, 3)) (by decide) ?_ ?_
    · skip
      refine sm_mask ?_
      exact fX9_bestSettings_s89 N G hb ho hy hR he hr hE K39 h39
    · skip
      refine sm_lload (pc := 82) G hb (by decide +kernel : decode cX9_bestSettings 82 = .ok (.lload 6, 2)) ?_
      refine sm_lload_n (pc := 84) G hb (by decide +kernel : decode cX9_bestSettings 84 = .ok (.lload_n 3, 1)) rfl ?_
      refine sm_lcmp (pc := 85) G hb (by decide +kernel : decode cX9_bestSettings 85 = .ok (.lcmp, 1)) ?_
      refine sm_if_ge (pc := 86) (tgt := 105) G hb (by decide +kernel : decode cX9_bestSettings 86 = .ok (.ifCond .ge 19, 3)) (by decide) ?_ ?_
      · skip
        refine sm_mask ?_
        exact fX9_bestSettings_s105 N G hb ho hy hR he hr hE K39 h39
      · skip
        refine sm_mask ?_
        exact fX9_bestSettings_s89 N G hb ho hy hR he hr hE K39 h39
set_option maxRecDepth 100000 in
set_option maxHeartbeats 4000000 in
theorem fX9_bestSettings_s36 {γ : gG} {cs ss : Nat} {ε : gE5} (N : Nat) (G : gOK γ) (hb : gcc γ = cX9_bestSettings) (ho : gow γ = RX9) (hy : gly γ = gyM) (hR : grm γ = { frames := 23, cells := 0, slots := 0, locals := 588 }) (he : genv γ = ε) (hr : grt γ = (some .int)) (hE : gEnv ε) : gSm γ cs ss 36 (fX9_bestSettings_k36 N) := by
  unfold fX9_bestSettings_k36
  refine sm_iconst (pc := 36) G hb (by decide +kernel : decode cX9_bestSettings 36 = .ok (.iconst 0, 1)) (by decide) ?_
  refine sm_istore (pc := 37) G hb (by decide +kernel : decode cX9_bestSettings 37 = .ok (.istore 5, 2)) ?_
  refine sm_mask ?_
  exact fX9_bestSettings_s39 N G hb ho hy hR he hr hE
set_option maxRecDepth 100000 in
set_option maxHeartbeats 4000000 in
theorem fX9_bestSettings_s0 {γ : gG} {cs ss : Nat} {ε : gE5} (N : Nat) (G : gOK γ) (hb : gcc γ = cX9_bestSettings) (ho : gow γ = RX9) (hy : gly γ = gyM) (hR : grm γ = { frames := 23, cells := 0, slots := 0, locals := 588 }) (he : genv γ = ε) (hr : grt γ = (some .int)) (hE : gEnv ε) : gSm γ cs ss 0 (fX9_bestSettings_k0 N) := by
  unfold fX9_bestSettings_k0
  refine sm_aload_n (pc := 0) G hb (by decide +kernel : decode cX9_bestSettings 0 = .ok (.aload_n 0, 1)) rfl ?_
  refine sm_iconst (pc := 1) G hb (by decide +kernel : decode cX9_bestSettings 1 = .ok (.iconst 0, 1)) (by decide) ?_
  refine sm_put (pc := 2) (ci := 9) (j := 0) (N := 32) (T := TX9) G hb ho hy tyX9 tyX9_ok nmX9 rfl (by decide) gin_9 gw5_236 rfl rfl (by decide +kernel : decode cX9_bestSettings 2 = .ok (.putfield 76, 3)) ?_
  refine sm_aload_n (pc := 5) G hb (by decide +kernel : decode cX9_bestSettings 5 = .ok (.aload_n 0, 1)) rfl ?_
  refine sm_iload_n (pc := 6) G hb (by decide +kernel : decode cX9_bestSettings 6 = .ok (.iload_n 1, 1)) rfl ?_
  refine sm_mono (ca_sub gI_sub) (sm_callS (pc := 7) G hb ho hy he hE.1 1 [] (kX9_areSlots hE N) (gCo_of (by decide +kernel)) (by rw [hR]; exact ⟨by decide, by decide⟩) (by decide +kernel) gw7_108 gw7_109 gw1_11 gw7_110 (by decide +kernel : decode cX9_bestSettings 7 = .ok (.invokestatic 374, 3)) ?_)
  refine sm_iconst (pc := 10) G hb (by decide +kernel : decode cX9_bestSettings 10 = .ok (.iconst 1, 1)) (by decide) ?_
  refine sm_mono (cav_sub gI_sub) (sm_callV (pc := 11) (N := 32) (T := TX9) (C := RX9) G hb ho hy he hE.1 3 [0, 1, 2, 3, 4, 5, 6, 7, 8, 9, 10, 11, 12, 13, 14, 15, 16, 17] (kX9_fails hE N) (gCo_of (by decide +kernel)) (by rw [hR]; exact ⟨by decide, by decide⟩) rfl rfl (by decide +kernel) gw6_105 gw6_107 gw0_34 gw1_11 gw6_108 (by decide +kernel : decode cX9_bestSettings 11 = .ok (.invokevirtual 87, 3)) ?_)
  refine sm_if_eq (pc := 14) (tgt := 19) G hb (by decide +kernel : decode cX9_bestSettings 14 = .ok (.ifCond .eq 5, 3)) (by decide) ?_ ?_
  · skip
    refine sm_iconst (pc := 19) G hb (by decide +kernel : decode cX9_bestSettings 19 = .ok (.iconst (-1), 1)) (by decide) ?_
    refine sm_istore_n (pc := 20) G hb (by decide +kernel : decode cX9_bestSettings 20 = .ok (.istore_n 2, 1)) rfl ?_
    refine sm_lconst (pc := 21) G hb (by decide +kernel : decode cX9_bestSettings 21 = .ok (.lconst 0, 1)) (by decide) ?_
    refine sm_lstore_n (pc := 22) G hb (by decide +kernel : decode cX9_bestSettings 22 = .ok (.lstore_n 3, 1)) rfl ?_
    refine sm_aload_n (pc := 23) G hb (by decide +kernel : decode cX9_bestSettings 23 = .ok (.aload_n 0, 1)) rfl ?_
    refine sm_get (pc := 24) (ci := 9) (j := 9) (N := 32) (T := TX9) G hb ho hy rfl (by decide) gin_9 gw6_5 (by decide +kernel : decode cX9_bestSettings 24 = .ok (.getfield 16, 3)) ?_
    refine sm_iconst (pc := 27) G hb (by decide +kernel : decode cX9_bestSettings 27 = .ok (.iconst 0, 1)) (by decide) ?_
    refine sm_aload_n (pc := 28) G hb (by decide +kernel : decode cX9_bestSettings 28 = .ok (.aload_n 0, 1)) rfl ?_
    refine sm_get (pc := 29) (ci := 9) (j := 10) (N := 32) (T := TX9) G hb ho hy rfl (by decide) gin_9 gw6_6 (by decide +kernel : decode cX9_bestSettings 29 = .ok (.getfield 19, 3)) ?_
    refine sm_iconst (pc := 32) G hb (by decide +kernel : decode cX9_bestSettings 32 = .ok (.iconst 0, 1)) (by decide) ?_
    refine sm_mono (ca_sub gV_sub) (sm_callS (pc := 33) G hb ho hy he hE.1 4 [3, 4] (kX9_copy hE N 2746 2746) ⟨rfl, rfl, by decide⟩ (by rw [hR]; exact ⟨by decide, by decide⟩) (by decide +kernel) gw5_233 gw5_234 gw1_11 gw5_235 (by decide +kernel : decode cX9_bestSettings 33 = .ok (.invokestatic 226, 3)) ?_)
    refine sm_mask ?_
    exact fX9_bestSettings_s36 N G hb ho hy hR he hr hE
  · skip
    refine sm_iconst (pc := 17) G hb (by decide +kernel : decode cX9_bestSettings 17 = .ok (.iconst 0, 1)) (by decide) ?_
    exact sm_iret (pc := 18) G hb (by decide +kernel : decode cX9_bestSettings 18 = .ok (.ireturn, 1)) hr
theorem kX9_bestSettings {ε : gE5} (hE : gEnv ε) (N : Nat) : gCtr ε yX9_bestSettings cX9_bestSettings 8 (some .int) 23 588 gyM (fX9_bestSettings N) :=
  gCtr_of hE.1 (by decide) (fun γ G hb ho hy hR he hr => fX9_bestSettings_s0 N G hb ho hy hR he hr hE)

set_option maxRecDepth 100000 in
set_option maxHeartbeats 4000000 in
theorem fX9_holds_s54 {γ : gG} {cs ss : Nat} {ε : gE5} (N : Nat) (G : gOK γ) (hb : gcc γ = cX9_holds) (ho : gow γ = RX9) (hy : gly γ = gyM) (hR : grm γ = { frames := 22, cells := 0, slots := 0, locals := 566 }) (he : genv γ = ε) (hr : grt γ = (some .boolean)) (hE : gEnv ε) (K21 : gK) (h21 : gSm γ cs ss 21 K21) : gSm γ cs ss 54 (fX9_holds_k54 N K21) := by
  unfold fX9_holds_k54
  refine sm_istore (pc := 54) G hb (by decide +kernel : decode cX9_holds 54 = .ok (.istore 4, 2)) ?_
  refine sm_iinc (pc := 56) G hb (by decide +kernel : decode cX9_holds 56 = .ok (.iinc 5 1, 3)) (by decide) ?_
  refine sm_goto (pc := 59) (tgt := 21) G hb (by decide +kernel : decode cX9_holds 59 = .ok (.goto (-38), 3)) (by decide) ?_
  refine sm_mask ?_
  exact h21
set_option maxRecDepth 100000 in
set_option maxHeartbeats 4000000 in
theorem fX9_holds_s21 {γ : gG} {cs ss : Nat} {ε : gE5} (N : Nat) (G : gOK γ) (hb : gcc γ = cX9_holds) (ho : gow γ = RX9) (hy : gly γ = gyM) (hR : grm γ = { frames := 22, cells := 0, slots := 0, locals := 566 }) (he : genv γ = ε) (hr : grt γ = (some .boolean)) (hE : gEnv ε) : gSm γ cs ss 21 (fX9_holds_k21 N) := by
  unfold fX9_holds_k21
  refine sm_lp (fun K21 h21 => ?_) N
  unfold fX9_holds_b21
  refine sm_iload (pc := 21) G hb (by decide +kernel : decode cX9_holds 21 = .ok (.iload 5, 2)) ?_
  refine sm_iload_n (pc := 23) G hb (by decide +kernel : decode cX9_holds 23 = .ok (.iload_n 3, 1)) rfl ?_
  refine sm_icmp_ge (pc := 24) (tgt := 62) G hb (by decide +kernel : decode cX9_holds 24 = .ok (.if_icmp .ge 38, 3)) (by decide) ?_ ?_
  · skip
    refine sm_iload (pc := 62) G hb (by decide +kernel : decode cX9_holds 62 = .ok (.iload 4, 2)) ?_
    exact sm_zret (pc := 64) G hb (by decide +kernel : decode cX9_holds 64 = .ok (.ireturn, 1)) hr
  · skip
    refine sm_iload (pc := 27) G hb (by decide +kernel : decode cX9_holds 27 = .ok (.iload 4, 2)) ?_
    refine sm_if_eq (pc := 29) (tgt := 62) G hb (by decide +kernel : decode cX9_holds 29 = .ok (.ifCond .eq 33, 3)) (by decide) ?_ ?_
    · skip
      refine sm_iload (pc := 62) G hb (by decide +kernel : decode cX9_holds 62 = .ok (.iload 4, 2)) ?_
      exact sm_zret (pc := 64) G hb (by decide +kernel : decode cX9_holds 64 = .ok (.ireturn, 1)) hr
    · skip
      refine sm_aload_n (pc := 32) G hb (by decide +kernel : decode cX9_holds 32 = .ok (.aload_n 0, 1)) rfl ?_
      refine sm_mono (cav_sub gV_sub) (sm_callV (pc := 33) (N := 32) (T := TX9) (C := RX9) G hb ho hy he hE.1 1 [0, 1, 2, 3, 4, 5, 6, 7, 8, 9, 10, 11, 12, 13, 14, 15, 16, 17] (kX9_slot hE N) (gCo_of (by decide +kernel)) (by rw [hR]; exact ⟨by decide, by decide⟩) rfl rfl (by decide +kernel) gw7_116 gw7_118 gw0_68 gw1_11 gw7_119 (by decide +kernel : decode cX9_holds 33 = .ok (.invokevirtual 334, 3)) ?_)
      refine sm_aload_n (pc := 36) G hb (by decide +kernel : decode cX9_holds 36 = .ok (.aload_n 0, 1)) rfl ?_
      refine sm_get (pc := 37) (ci := 9) (j := 9) (N := 32) (T := TX9) G hb ho hy rfl (by decide) gin_9 gw6_5 (by decide +kernel : decode cX9_holds 37 = .ok (.getfield 16, 3)) ?_
      refine sm_sipush (pc := 40) G hb (by decide +kernel : decode cX9_holds 40 = .ok (.sipush 245, 3)) (by decide) ?_
      refine sm_iald (pc := 43) G hb hy (by decide +kernel : decode cX9_holds 43 = .ok (.iaload, 1)) ?_
      refine sm_bipush (pc := 44) G hb (by decide +kernel : decode cX9_holds 44 = .ok (.bipush 100, 2)) (by decide) ?_
      refine sm_icmp_gt (pc := 46) (tgt := 53) G hb (by decide +kernel : decode cX9_holds 46 = .ok (.if_icmp .gt 7, 3)) (by decide) ?_ ?_
      · skip
        refine sm_iconst (pc := 53) G hb (by decide +kernel : decode cX9_holds 53 = .ok (.iconst 0, 1)) (by decide) ?_
        refine sm_mask ?_
        exact fX9_holds_s54 N G hb ho hy hR he hr hE K21 h21
      · skip
        refine sm_iconst (pc := 49) G hb (by decide +kernel : decode cX9_holds 49 = .ok (.iconst 1, 1)) (by decide) ?_
        refine sm_goto (pc := 50) (tgt := 54) G hb (by decide +kernel : decode cX9_holds 50 = .ok (.goto 4, 3)) (by decide) ?_
        refine sm_mask ?_
        exact fX9_holds_s54 N G hb ho hy hR he hr hE K21 h21
set_option maxRecDepth 100000 in
set_option maxHeartbeats 4000000 in
theorem fX9_holds_s0 {γ : gG} {cs ss : Nat} {ε : gE5} (N : Nat) (G : gOK γ) (hb : gcc γ = cX9_holds) (ho : gow γ = RX9) (hy : gly γ = gyM) (hR : grm γ = { frames := 22, cells := 0, slots := 0, locals := 566 }) (he : genv γ = ε) (hr : grt γ = (some .boolean)) (hE : gEnv ε) : gSm γ cs ss 0 (fX9_holds_k0 N) := by
  unfold fX9_holds_k0
  refine sm_aload_n (pc := 0) G hb (by decide +kernel : decode cX9_holds 0 = .ok (.aload_n 0, 1)) rfl ?_
  refine sm_get (pc := 1) (ci := 9) (j := 9) (N := 32) (T := TX9) G hb ho hy rfl (by decide) gin_9 gw6_5 (by decide +kernel : decode cX9_holds 1 = .ok (.getfield 16, 3)) ?_
  refine sm_bipush (pc := 4) G hb (by decide +kernel : decode cX9_holds 4 = .ok (.bipush 65, 2)) (by decide) ?_
  refine sm_bipush (pc := 6) G hb (by decide +kernel : decode cX9_holds 6 = .ok (.bipush 11, 2)) (by decide) ?_
  refine sm_iload_n (pc := 8) G hb (by decide +kernel : decode cX9_holds 8 = .ok (.iload_n 1, 1)) rfl ?_
  refine sm_imul (pc := 9) G hb (by decide +kernel : decode cX9_holds 9 = .ok (.imul, 1)) ?_
  refine sm_iadd (pc := 10) G hb (by decide +kernel : decode cX9_holds 10 = .ok (.iadd, 1)) ?_
  refine sm_iconst (pc := 11) G hb (by decide +kernel : decode cX9_holds 11 = .ok (.iconst 2, 1)) (by decide) ?_
  refine sm_iadd (pc := 12) G hb (by decide +kernel : decode cX9_holds 12 = .ok (.iadd, 1)) ?_
  refine sm_iload_n (pc := 13) G hb (by decide +kernel : decode cX9_holds 13 = .ok (.iload_n 2, 1)) rfl ?_
  refine sm_iast (pc := 14) G hb hy (by decide +kernel : decode cX9_holds 14 = .ok (.iastore, 1)) ?_
  refine sm_iconst (pc := 15) G hb (by decide +kernel : decode cX9_holds 15 = .ok (.iconst 1, 1)) (by decide) ?_
  refine sm_istore (pc := 16) G hb (by decide +kernel : decode cX9_holds 16 = .ok (.istore 4, 2)) ?_
  refine sm_iconst (pc := 18) G hb (by decide +kernel : decode cX9_holds 18 = .ok (.iconst 0, 1)) (by decide) ?_
  refine sm_istore (pc := 19) G hb (by decide +kernel : decode cX9_holds 19 = .ok (.istore 5, 2)) ?_
  refine sm_mask ?_
  exact fX9_holds_s21 N G hb ho hy hR he hr hE
theorem kX9_holds {ε : gE5} (hE : gEnv ε) (N : Nat) : gCtr ε yX9_holds cX9_holds 6 (some .boolean) 22 566 gyM (fX9_holds N) :=
  gCtr_of hE.1 (by decide) (fun γ G hb ho hy hR he hr => fX9_holds_s0 N G hb ho hy hR he hr hE)

set_option maxRecDepth 100000 in
set_option maxHeartbeats 4000000 in
theorem fX9_sustainable_s89 {γ : gG} {cs ss : Nat} {ε : gE5} (N : Nat) (G : gOK γ) (hb : gcc γ = cX9_sustainable) (ho : gow γ = RX9) (hy : gly γ = gyM) (hR : grm γ = { frames := 23, cells := 0, slots := 0, locals := 591 }) (he : genv γ = ε) (hr : grt γ = (some .int)) (hE : gEnv ε) (K55 : gK) (h55 : gSm γ cs ss 55 K55) : gSm γ cs ss 89 (fX9_sustainable_k89 N K55) := by
  unfold fX9_sustainable_k89
  refine sm_iadd (pc := 89) G hb (by decide +kernel : decode cX9_sustainable 89 = .ok (.iadd, 1)) ?_
  refine sm_istore_n (pc := 90) G hb (by decide +kernel : decode cX9_sustainable 90 = .ok (.istore_n 3, 1)) rfl ?_
  refine sm_aload_n (pc := 91) G hb (by decide +kernel : decode cX9_sustainable 91 = .ok (.aload_n 0, 1)) rfl ?_
  refine sm_get (pc := 92) (ci := 9) (j := 10) (N := 32) (T := TX9) G hb ho hy rfl (by decide) gin_9 gw6_6 (by decide +kernel : decode cX9_sustainable 92 = .ok (.getfield 19, 3)) ?_
  refine sm_iconst (pc := 95) G hb (by decide +kernel : decode cX9_sustainable 95 = .ok (.iconst 0, 1)) (by decide) ?_
  refine sm_aload_n (pc := 96) G hb (by decide +kernel : decode cX9_sustainable 96 = .ok (.aload_n 0, 1)) rfl ?_
  refine sm_get (pc := 97) (ci := 9) (j := 9) (N := 32) (T := TX9) G hb ho hy rfl (by decide) gin_9 gw6_5 (by decide +kernel : decode cX9_sustainable 97 = .ok (.getfield 16, 3)) ?_
  refine sm_iconst (pc := 100) G hb (by decide +kernel : decode cX9_sustainable 100 = .ok (.iconst 0, 1)) (by decide) ?_
  refine sm_mono (ca_sub gV_sub) (sm_callS (pc := 101) G hb ho hy he hE.1 4 [4, 3] (kX9_copy hE N 2746 2746) ⟨rfl, rfl, by decide⟩ (by rw [hR]; exact ⟨by decide, by decide⟩) (by decide +kernel) gw5_233 gw5_234 gw1_11 gw5_235 (by decide +kernel : decode cX9_sustainable 101 = .ok (.invokestatic 226, 3)) ?_)
  refine sm_goto (pc := 104) (tgt := 55) G hb (by decide +kernel : decode cX9_sustainable 104 = .ok (.goto (-49), 3)) (by decide) ?_
  refine sm_mask ?_
  exact h55
set_option maxRecDepth 100000 in
set_option maxHeartbeats 4000000 in
theorem fX9_sustainable_s55 {γ : gG} {cs ss : Nat} {ε : gE5} (N : Nat) (G : gOK γ) (hb : gcc γ = cX9_sustainable) (ho : gow γ = RX9) (hy : gly γ = gyM) (hR : grm γ = { frames := 23, cells := 0, slots := 0, locals := 591 }) (he : genv γ = ε) (hr : grt γ = (some .int)) (hE : gEnv ε) : gSm γ cs ss 55 (fX9_sustainable_k55 N) := by
  unfold fX9_sustainable_k55
  refine sm_lp (fun K55 h55 => ?_) N
  unfold fX9_sustainable_b55
  refine sm_iload (pc := 55) G hb (by decide +kernel : decode cX9_sustainable 55 = .ok (.iload 4, 2)) ?_
  refine sm_if_eq (pc := 57) (tgt := 107) G hb (by decide +kernel : decode cX9_sustainable 57 = .ok (.ifCond .eq 50, 3)) (by decide) ?_ ?_
  · skip
    refine sm_iload_n (pc := 107) G hb (by decide +kernel : decode cX9_sustainable 107 = .ok (.iload_n 3, 1)) rfl ?_
    exact sm_iret (pc := 108) G hb (by decide +kernel : decode cX9_sustainable 108 = .ok (.ireturn, 1)) hr
  · skip
    refine sm_iload_n (pc := 60) G hb (by decide +kernel : decode cX9_sustainable 60 = .ok (.iload_n 3, 1)) rfl ?_
    refine sm_sipush (pc := 61) G hb (by decide +kernel : decode cX9_sustainable 61 = .ok (.sipush 300, 3)) (by decide) ?_
    refine sm_icmp_ge (pc := 64) (tgt := 107) G hb (by decide +kernel : decode cX9_sustainable 64 = .ok (.if_icmp .ge 43, 3)) (by decide) ?_ ?_
    · skip
      refine sm_iload_n (pc := 107) G hb (by decide +kernel : decode cX9_sustainable 107 = .ok (.iload_n 3, 1)) rfl ?_
      exact sm_iret (pc := 108) G hb (by decide +kernel : decode cX9_sustainable 108 = .ok (.ireturn, 1)) hr
    · skip
      refine sm_aload_n (pc := 67) G hb (by decide +kernel : decode cX9_sustainable 67 = .ok (.aload_n 0, 1)) rfl ?_
      refine sm_iload_n (pc := 68) G hb (by decide +kernel : decode cX9_sustainable 68 = .ok (.iload_n 1, 1)) rfl ?_
      refine sm_iload_n (pc := 69) G hb (by decide +kernel : decode cX9_sustainable 69 = .ok (.iload_n 3, 1)) rfl ?_
      refine sm_iconst (pc := 70) G hb (by decide +kernel : decode cX9_sustainable 70 = .ok (.iconst 1, 1)) (by decide) ?_
      refine sm_iadd (pc := 71) G hb (by decide +kernel : decode cX9_sustainable 71 = .ok (.iadd, 1)) ?_
      refine sm_iload_n (pc := 72) G hb (by decide +kernel : decode cX9_sustainable 72 = .ok (.iload_n 2, 1)) rfl ?_
      refine sm_mono (cav_sub gI_sub) (sm_callV (pc := 73) (N := 32) (T := TX9) (C := RX9) G hb ho hy he hE.1 4 [0, 1, 2, 3, 4, 5, 6, 7, 8, 9, 10, 11, 12, 13, 14, 15, 16, 17] (kX9_holds hE N) (gCo_of (by decide +kernel)) (by rw [hR]; exact ⟨by decide, by decide⟩) rfl rfl (by decide +kernel) gw8_88 gw8_90 gw0_94 gw1_11 gw8_91 (by decide +kernel : decode cX9_sustainable 73 = .ok (.invokevirtual 422, 3)) ?_)
      refine sm_istore (pc := 76) G hb (by decide +kernel : decode cX9_sustainable 76 = .ok (.istore 4, 2)) ?_
      refine sm_iload_n (pc := 78) G hb (by decide +kernel : decode cX9_sustainable 78 = .ok (.iload_n 3, 1)) rfl ?_
      refine sm_iload (pc := 79) G hb (by decide +kernel : decode cX9_sustainable 79 = .ok (.iload 4, 2)) ?_
      refine sm_if_eq (pc := 81) (tgt := 88) G hb (by decide +kernel : decode cX9_sustainable 81 = .ok (.ifCond .eq 7, 3)) (by decide) ?_ ?_
      · skip
        refine sm_iconst (pc := 88) G hb (by decide +kernel : decode cX9_sustainable 88 = .ok (.iconst 0, 1)) (by decide) ?_
        refine sm_mask ?_
        exact fX9_sustainable_s89 N G hb ho hy hR he hr hE K55 h55
      · skip
        refine sm_iconst (pc := 84) G hb (by decide +kernel : decode cX9_sustainable 84 = .ok (.iconst 1, 1)) (by decide) ?_
        refine sm_goto (pc := 85) (tgt := 89) G hb (by decide +kernel : decode cX9_sustainable 85 = .ok (.goto 4, 3)) (by decide) ?_
        refine sm_mask ?_
        exact fX9_sustainable_s89 N G hb ho hy hR he hr hE K55 h55
set_option maxRecDepth 100000 in
set_option maxHeartbeats 4000000 in
theorem fX9_sustainable_s28 {γ : gG} {cs ss : Nat} {ε : gE5} (N : Nat) (G : gOK γ) (hb : gcc γ = cX9_sustainable) (ho : gow γ = RX9) (hy : gly γ = gyM) (hR : grm γ = { frames := 23, cells := 0, slots := 0, locals := 591 }) (he : genv γ = ε) (hr : grt γ = (some .int)) (hE : gEnv ε) : gSm γ cs ss 28 (fX9_sustainable_k28 N) := by
  unfold fX9_sustainable_k28
  refine sm_iconst (pc := 28) G hb (by decide +kernel : decode cX9_sustainable 28 = .ok (.iconst 2, 1)) (by decide) ?_
  refine sm_mono (cav_sub gI_sub) (sm_callV (pc := 29) (N := 32) (T := TX9) (C := RX9) G hb ho hy he hE.1 3 [0, 1, 2, 3, 4, 5, 6, 7, 8, 9, 10, 11, 12, 13, 14, 15, 16, 17] (kX9_fails hE N) (gCo_of (by decide +kernel)) (by rw [hR]; exact ⟨by decide, by decide⟩) rfl rfl (by decide +kernel) gw6_105 gw6_107 gw0_34 gw1_11 gw6_108 (by decide +kernel : decode cX9_sustainable 29 = .ok (.invokevirtual 87, 3)) ?_)
  refine sm_if_eq (pc := 32) (tgt := 37) G hb (by decide +kernel : decode cX9_sustainable 32 = .ok (.ifCond .eq 5, 3)) (by decide) ?_ ?_
  · skip
    refine sm_iconst (pc := 37) G hb (by decide +kernel : decode cX9_sustainable 37 = .ok (.iconst (-1), 1)) (by decide) ?_
    refine sm_istore_n (pc := 38) G hb (by decide +kernel : decode cX9_sustainable 38 = .ok (.istore_n 3, 1)) rfl ?_
    refine sm_aload_n (pc := 39) G hb (by decide +kernel : decode cX9_sustainable 39 = .ok (.aload_n 0, 1)) rfl ?_
    refine sm_get (pc := 40) (ci := 9) (j := 9) (N := 32) (T := TX9) G hb ho hy rfl (by decide) gin_9 gw6_5 (by decide +kernel : decode cX9_sustainable 40 = .ok (.getfield 16, 3)) ?_
    refine sm_iconst (pc := 43) G hb (by decide +kernel : decode cX9_sustainable 43 = .ok (.iconst 0, 1)) (by decide) ?_
    refine sm_aload_n (pc := 44) G hb (by decide +kernel : decode cX9_sustainable 44 = .ok (.aload_n 0, 1)) rfl ?_
    refine sm_get (pc := 45) (ci := 9) (j := 10) (N := 32) (T := TX9) G hb ho hy rfl (by decide) gin_9 gw6_6 (by decide +kernel : decode cX9_sustainable 45 = .ok (.getfield 19, 3)) ?_
    refine sm_iconst (pc := 48) G hb (by decide +kernel : decode cX9_sustainable 48 = .ok (.iconst 0, 1)) (by decide) ?_
    refine sm_mono (ca_sub gV_sub) (sm_callS (pc := 49) G hb ho hy he hE.1 4 [3, 4] (kX9_copy hE N 2746 2746) ⟨rfl, rfl, by decide⟩ (by rw [hR]; exact ⟨by decide, by decide⟩) (by decide +kernel) gw5_233 gw5_234 gw1_11 gw5_235 (by decide +kernel : decode cX9_sustainable 49 = .ok (.invokestatic 226, 3)) ?_)
    refine sm_iconst (pc := 52) G hb (by decide +kernel : decode cX9_sustainable 52 = .ok (.iconst 1, 1)) (by decide) ?_
    refine sm_istore (pc := 53) G hb (by decide +kernel : decode cX9_sustainable 53 = .ok (.istore 4, 2)) ?_
    refine sm_mask ?_
    exact fX9_sustainable_s55 N G hb ho hy hR he hr hE
  · skip
    refine sm_iconst (pc := 35) G hb (by decide +kernel : decode cX9_sustainable 35 = .ok (.iconst 0, 1)) (by decide) ?_
    exact sm_iret (pc := 36) G hb (by decide +kernel : decode cX9_sustainable 36 = .ok (.ireturn, 1)) hr
set_option maxRecDepth 100000 in
set_option maxHeartbeats 4000000 in
theorem fX9_sustainable_s0 {γ : gG} {cs ss : Nat} {ε : gE5} (N : Nat) (G : gOK γ) (hb : gcc γ = cX9_sustainable) (ho : gow γ = RX9) (hy : gly γ = gyM) (hR : grm γ = { frames := 23, cells := 0, slots := 0, locals := 591 }) (he : genv γ = ε) (hr : grt γ = (some .int)) (hE : gEnv ε) : gSm γ cs ss 0 (fX9_sustainable_k0 N) := by
  unfold fX9_sustainable_k0
  refine sm_aload_n (pc := 0) G hb (by decide +kernel : decode cX9_sustainable 0 = .ok (.aload_n 0, 1)) rfl ?_
  refine sm_iconst (pc := 1) G hb (by decide +kernel : decode cX9_sustainable 1 = .ok (.iconst 0, 1)) (by decide) ?_
  refine sm_put (pc := 2) (ci := 9) (j := 0) (N := 32) (T := TX9) G hb ho hy tyX9 tyX9_ok nmX9 rfl (by decide) gin_9 gw5_236 rfl rfl (by decide +kernel : decode cX9_sustainable 2 = .ok (.putfield 76, 3)) ?_
  refine sm_aload_n (pc := 5) G hb (by decide +kernel : decode cX9_sustainable 5 = .ok (.aload_n 0, 1)) rfl ?_
  refine sm_aload_n (pc := 6) G hb (by decide +kernel : decode cX9_sustainable 6 = .ok (.aload_n 0, 1)) rfl ?_
  refine sm_iload_n (pc := 7) G hb (by decide +kernel : decode cX9_sustainable 7 = .ok (.iload_n 1, 1)) rfl ?_
  refine sm_mono (cav_sub gI_sub) (sm_callV (pc := 8) (N := 32) (T := TX9) (C := RX9) G hb ho hy he hE.1 2 [0, 1, 2, 3, 4, 5, 6, 7, 8, 9, 10, 11, 12, 13, 14, 15, 16, 17] (kX9_isFlow hE N) (gCo_of (by decide +kernel)) (by rw [hR]; exact ⟨by decide, by decide⟩) rfl rfl (by decide +kernel) gw7_35 gw7_37 gw0_56 gw1_11 gw7_38 (by decide +kernel : decode cX9_sustainable 8 = .ok (.invokevirtual 358, 3)) ?_)
  refine sm_iconst (pc := 11) G hb (by decide +kernel : decode cX9_sustainable 11 = .ok (.iconst 1, 1)) (by decide) ?_
  refine sm_mono (cav_sub gI_sub) (sm_callV (pc := 12) (N := 32) (T := TX9) (C := RX9) G hb ho hy he hE.1 3 [0, 1, 2, 3, 4, 5, 6, 7, 8, 9, 10, 11, 12, 13, 14, 15, 16, 17] (kX9_fails hE N) (gCo_of (by decide +kernel)) (by rw [hR]; exact ⟨by decide, by decide⟩) rfl rfl (by decide +kernel) gw6_105 gw6_107 gw0_34 gw1_11 gw6_108 (by decide +kernel : decode cX9_sustainable 12 = .ok (.invokevirtual 87, 3)) ?_)
  refine sm_if_ne (pc := 15) (tgt := 35) G hb (by decide +kernel : decode cX9_sustainable 15 = .ok (.ifCond .ne 20, 3)) (by decide) ?_ ?_
  · skip
    refine sm_iconst (pc := 35) G hb (by decide +kernel : decode cX9_sustainable 35 = .ok (.iconst 0, 1)) (by decide) ?_
    exact sm_iret (pc := 36) G hb (by decide +kernel : decode cX9_sustainable 36 = .ok (.ireturn, 1)) hr
  · skip
    refine sm_aload_n (pc := 18) G hb (by decide +kernel : decode cX9_sustainable 18 = .ok (.aload_n 0, 1)) rfl ?_
    refine sm_iload_n (pc := 19) G hb (by decide +kernel : decode cX9_sustainable 19 = .ok (.iload_n 2, 1)) rfl ?_
    refine sm_i2l (pc := 20) G hb (by decide +kernel : decode cX9_sustainable 20 = .ok (.i2l, 1)) ?_
    refine sm_lconst (pc := 21) G hb (by decide +kernel : decode cX9_sustainable 21 = .ok (.lconst 1, 1)) (by decide) ?_
    refine sm_ldc2 (pc := 22) G hb ho (by decide +kernel : decode cX9_sustainable 22 = .ok (.ldc2_w 420, 3)) gw8_87 ?_
    refine sm_mono (ca_sub gI_sub) (sm_callS (pc := 25) G hb ho hy he hE.1 3 [] (kX9_in hE N) (gCo_of (by decide +kernel)) (by rw [hR]; exact ⟨by decide, by decide⟩) (by decide +kernel) gw6_113 gw6_114 gw1_11 gw6_115 (by decide +kernel : decode cX9_sustainable 25 = .ok (.invokestatic 91, 3)) ?_)
    refine sm_mask ?_
    exact fX9_sustainable_s28 N G hb ho hy hR he hr hE
theorem kX9_sustainable {ε : gE5} (hE : gEnv ε) (N : Nat) : gCtr ε yX9_sustainable cX9_sustainable 5 (some .int) 23 591 gyM (fX9_sustainable N) :=
  gCtr_of hE.1 (by decide) (fun γ G hb ho hy hR he hr => fX9_sustainable_s0 N G hb ho hy hR he hr hE)
