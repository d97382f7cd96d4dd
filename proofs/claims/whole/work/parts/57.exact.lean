set_option maxRecDepth 100000 in
set_option maxHeartbeats 4000000 in
theorem fX3_heaviest_s88 {γ : gG} {cs ss : Nat} {ε : gE5} (N : Nat) (g : List Value → gM → Option (gR × gM)) (d : Nat) (hg : gCtr ε yX3_heaviest cX3_heaviest 8 (some .int) (1 + d) (23 + d * 27) gyWC g) (G : gOK γ) (hb : gcc γ = cX3_heaviest) (ho : gow γ = RX3) (hy : gly γ = gyWC) (hR : grm γ = { frames := 1 + (d + 1), cells := 0, slots := 0, locals := 23 + (d + 1) * 27 }) (he : genv γ = ε) (hr : grt γ = (some .int)) (hE : gEnv ε) : gSm γ cs ss 88 (fX3_heaviest_k88 N g) := by
  unfold fX3_heaviest_k88
  refine sm_istore (pc := 88) G hb (by decide +kernel : decode cX3_heaviest 88 = .ok (.istore 7, 2)) ?_
  refine sm_iload (pc := 90) G hb (by decide +kernel : decode cX3_heaviest 90 = .ok (.iload 6, 2)) ?_
  refine sm_aload_n (pc := 92) G hb (by decide +kernel : decode cX3_heaviest 92 = .ok (.aload_n 2, 1)) rfl ?_
  refine sm_mono (ca_sub gI_sub) (sm_callS (pc := 93) G hb ho hy he hE.1 2 [0] (kX3_sumOfWeights hE N) ⟨rfl, rfl, by decide⟩ (by rw [hR]; exact ⟨by show _ ≤ 1 + (d + 1); omega, by show _ ≤ 23 + (d + 1) * 27; omega⟩) (by decide +kernel) gw4_166 gw4_167 gw1_8 gw4_168 (by decide +kernel : decode cX3_heaviest 93 = .ok (.invokestatic 84, 3)) ?_)
  refine sm_iload (pc := 96) G hb (by decide +kernel : decode cX3_heaviest 96 = .ok (.iload 7, 2)) ?_
  refine sm_aload_n (pc := 98) G hb (by decide +kernel : decode cX3_heaviest 98 = .ok (.aload_n 2, 1)) rfl ?_
  refine sm_mono (ca_sub gI_sub) (sm_callS (pc := 99) G hb ho hy he hE.1 2 [0] (kX3_sumOfWeights hE N) ⟨rfl, rfl, by decide⟩ (by rw [hR]; exact ⟨by show _ ≤ 1 + (d + 1); omega, by show _ ≤ 23 + (d + 1) * 27; omega⟩) (by decide +kernel) gw4_166 gw4_167 gw1_8 gw4_168 (by decide +kernel : decode cX3_heaviest 99 = .ok (.invokestatic 84, 3)) ?_)
  refine sm_icmp_le (pc := 102) (tgt := 110) G hb (by decide +kernel : decode cX3_heaviest 102 = .ok (.if_icmp .le 8, 3)) (by decide) ?_ ?_
  · skip
    refine sm_iload (pc := 110) G hb (by decide +kernel : decode cX3_heaviest 110 = .ok (.iload 7, 2)) ?_
    exact sm_iret (pc := 112) G hb (by decide +kernel : decode cX3_heaviest 112 = .ok (.ireturn, 1)) hr
  · skip
    refine sm_iload (pc := 105) G hb (by decide +kernel : decode cX3_heaviest 105 = .ok (.iload 6, 2)) ?_
    refine sm_goto (pc := 107) (tgt := 112) G hb (by decide +kernel : decode cX3_heaviest 107 = .ok (.goto 5, 3)) (by decide) ?_
    exact sm_iret (pc := 112) G hb (by decide +kernel : decode cX3_heaviest 112 = .ok (.ireturn, 1)) hr
set_option maxRecDepth 100000 in
set_option maxHeartbeats 4000000 in
theorem fX3_heaviest_s0 {γ : gG} {cs ss : Nat} {ε : gE5} (N : Nat) (g : List Value → gM → Option (gR × gM)) (d : Nat) (hg : gCtr ε yX3_heaviest cX3_heaviest 8 (some .int) (1 + d) (23 + d * 27) gyWC g) (G : gOK γ) (hb : gcc γ = cX3_heaviest) (ho : gow γ = RX3) (hy : gly γ = gyWC) (hR : grm γ = { frames := 1 + (d + 1), cells := 0, slots := 0, locals := 23 + (d + 1) * 27 }) (he : genv γ = ε) (hr : grt γ = (some .int)) (hE : gEnv ε) : gSm γ cs ss 0 (fX3_heaviest_k0 N g) := by
  unfold fX3_heaviest_k0
  refine sm_iload_n (pc := 0) G hb (by decide +kernel : decode cX3_heaviest 0 = .ok (.iload_n 0, 1)) rfl ?_
  refine sm_if_eq (pc := 1) (tgt := 14) G hb (by decide +kernel : decode cX3_heaviest 1 = .ok (.ifCond .eq 13, 3)) (by decide) ?_ ?_
  · skip
    refine sm_iconst (pc := 14) G hb (by decide +kernel : decode cX3_heaviest 14 = .ok (.iconst 0, 1)) (by decide) ?_
    exact sm_iret (pc := 15) G hb (by decide +kernel : decode cX3_heaviest 15 = .ok (.ireturn, 1)) hr
  · skip
    refine sm_iload_n (pc := 4) G hb (by decide +kernel : decode cX3_heaviest 4 = .ok (.iload_n 1, 1)) rfl ?_
    refine sm_if_lt (pc := 5) (tgt := 14) G hb (by decide +kernel : decode cX3_heaviest 5 = .ok (.ifCond .lt 9, 3)) (by decide) ?_ ?_
    · skip
      refine sm_iconst (pc := 14) G hb (by decide +kernel : decode cX3_heaviest 14 = .ok (.iconst 0, 1)) (by decide) ?_
      exact sm_iret (pc := 15) G hb (by decide +kernel : decode cX3_heaviest 15 = .ok (.ireturn, 1)) hr
    · skip
      refine sm_iload_n (pc := 8) G hb (by decide +kernel : decode cX3_heaviest 8 = .ok (.iload_n 1, 1)) rfl ?_
      refine sm_bipush (pc := 9) G hb (by decide +kernel : decode cX3_heaviest 9 = .ok (.bipush 14, 2)) (by decide) ?_
      refine sm_icmp_lt (pc := 11) (tgt := 16) G hb (by decide +kernel : decode cX3_heaviest 11 = .ok (.if_icmp .lt 5, 3)) (by decide) ?_ ?_
      · skip
        refine sm_iload_n (pc := 16) G hb (by decide +kernel : decode cX3_heaviest 16 = .ok (.iload_n 0, 1)) rfl ?_
        refine sm_iconst (pc := 17) G hb (by decide +kernel : decode cX3_heaviest 17 = .ok (.iconst 1, 1)) (by decide) ?_
        refine sm_iload_n (pc := 18) G hb (by decide +kernel : decode cX3_heaviest 18 = .ok (.iload_n 1, 1)) rfl ?_
        refine sm_ishl (pc := 19) G hb (by decide +kernel : decode cX3_heaviest 19 = .ok (.ishl, 1)) ?_
        refine sm_iconst (pc := 20) G hb (by decide +kernel : decode cX3_heaviest 20 = .ok (.iconst (-1), 1)) (by decide) ?_
        refine sm_ixor (pc := 21) G hb (by decide +kernel : decode cX3_heaviest 21 = .ok (.ixor, 1)) ?_
        refine sm_iand (pc := 22) G hb (by decide +kernel : decode cX3_heaviest 22 = .ok (.iand, 1)) ?_
        refine sm_istore (pc := 23) G hb (by decide +kernel : decode cX3_heaviest 23 = .ok (.istore 4, 2)) ?_
        refine sm_iload (pc := 25) G hb (by decide +kernel : decode cX3_heaviest 25 = .ok (.iload 4, 2)) ?_
        refine sm_iload_n (pc := 27) G hb (by decide +kernel : decode cX3_heaviest 27 = .ok (.iload_n 0, 1)) rfl ?_
        refine sm_icmp_ne (pc := 28) (tgt := 42) G hb (by decide +kernel : decode cX3_heaviest 28 = .ok (.if_icmp .ne 14, 3)) (by decide) ?_ ?_
        · skip
          refine sm_iload (pc := 42) G hb (by decide +kernel : decode cX3_heaviest 42 = .ok (.iload 4, 2)) ?_
          refine sm_aload_n (pc := 44) G hb (by decide +kernel : decode cX3_heaviest 44 = .ok (.aload_n 3, 1)) rfl ?_
          refine sm_iload_n (pc := 45) G hb (by decide +kernel : decode cX3_heaviest 45 = .ok (.iload_n 1, 1)) rfl ?_
          refine sm_iald (pc := 46) G hb hy (by decide +kernel : decode cX3_heaviest 46 = .ok (.iaload, 1)) ?_
          refine sm_iconst (pc := 47) G hb (by decide +kernel : decode cX3_heaviest 47 = .ok (.iconst (-1), 1)) (by decide) ?_
          refine sm_ixor (pc := 48) G hb (by decide +kernel : decode cX3_heaviest 48 = .ok (.ixor, 1)) ?_
          refine sm_iand (pc := 49) G hb (by decide +kernel : decode cX3_heaviest 49 = .ok (.iand, 1)) ?_
          refine sm_istore (pc := 50) G hb (by decide +kernel : decode cX3_heaviest 50 = .ok (.istore 5, 2)) ?_
          refine sm_iconst (pc := 52) G hb (by decide +kernel : decode cX3_heaviest 52 = .ok (.iconst 1, 1)) (by decide) ?_
          refine sm_iload_n (pc := 53) G hb (by decide +kernel : decode cX3_heaviest 53 = .ok (.iload_n 1, 1)) rfl ?_
          refine sm_ishl (pc := 54) G hb (by decide +kernel : decode cX3_heaviest 54 = .ok (.ishl, 1)) ?_
          refine sm_iload (pc := 55) G hb (by decide +kernel : decode cX3_heaviest 55 = .ok (.iload 5, 2)) ?_
          refine sm_iload_n (pc := 57) G hb (by decide +kernel : decode cX3_heaviest 57 = .ok (.iload_n 1, 1)) rfl ?_
          refine sm_iconst (pc := 58) G hb (by decide +kernel : decode cX3_heaviest 58 = .ok (.iconst 1, 1)) (by decide) ?_
          refine sm_isub (pc := 59) G hb (by decide +kernel : decode cX3_heaviest 59 = .ok (.isub, 1)) ?_
          refine sm_aload_n (pc := 60) G hb (by decide +kernel : decode cX3_heaviest 60 = .ok (.aload_n 2, 1)) rfl ?_
          refine sm_aload_n (pc := 61) G hb (by decide +kernel : decode cX3_heaviest 61 = .ok (.aload_n 3, 1)) rfl ?_
          refine sm_mono (ca_sub gI_sub) (sm_callS (pc := 62) G hb ho hy he hE.1 4 [0, 1] hg ⟨rfl, rfl, by decide⟩ (by rw [hR]; exact ⟨by show _ ≤ 1 + (d + 1); omega, by show _ ≤ 23 + (d + 1) * 27; omega⟩) (by decide +kernel) gw4_163 gw4_164 gw1_8 gw4_165 (by decide +kernel : decode cX3_heaviest 62 = .ok (.invokestatic 41, 3)) ?_)
          refine sm_ior (pc := 65) G hb (by decide +kernel : decode cX3_heaviest 65 = .ok (.ior, 1)) ?_
          refine sm_istore (pc := 66) G hb (by decide +kernel : decode cX3_heaviest 66 = .ok (.istore 6, 2)) ?_
          refine sm_iload (pc := 68) G hb (by decide +kernel : decode cX3_heaviest 68 = .ok (.iload 5, 2)) ?_
          refine sm_iload (pc := 70) G hb (by decide +kernel : decode cX3_heaviest 70 = .ok (.iload 4, 2)) ?_
          refine sm_icmp_ne (pc := 72) (tgt := 78) G hb (by decide +kernel : decode cX3_heaviest 72 = .ok (.if_icmp .ne 6, 3)) (by decide) ?_ ?_
          · skip
            refine sm_iload (pc := 78) G hb (by decide +kernel : decode cX3_heaviest 78 = .ok (.iload 4, 2)) ?_
            refine sm_iload_n (pc := 80) G hb (by decide +kernel : decode cX3_heaviest 80 = .ok (.iload_n 1, 1)) rfl ?_
            refine sm_iconst (pc := 81) G hb (by decide +kernel : decode cX3_heaviest 81 = .ok (.iconst 1, 1)) (by decide) ?_
            refine sm_isub (pc := 82) G hb (by decide +kernel : decode cX3_heaviest 82 = .ok (.isub, 1)) ?_
            refine sm_aload_n (pc := 83) G hb (by decide +kernel : decode cX3_heaviest 83 = .ok (.aload_n 2, 1)) rfl ?_
            refine sm_aload_n (pc := 84) G hb (by decide +kernel : decode cX3_heaviest 84 = .ok (.aload_n 3, 1)) rfl ?_
            refine sm_mono (ca_sub gI_sub) (sm_callS (pc := 85) G hb ho hy he hE.1 4 [0, 1] hg ⟨rfl, rfl, by decide⟩ (by rw [hR]; exact ⟨by show _ ≤ 1 + (d + 1); omega, by show _ ≤ 23 + (d + 1) * 27; omega⟩) (by decide +kernel) gw4_163 gw4_164 gw1_8 gw4_165 (by decide +kernel : decode cX3_heaviest 85 = .ok (.invokestatic 41, 3)) ?_)
            refine sm_mask ?_
            exact fX3_heaviest_s88 N g d hg G hb ho hy hR he hr hE
          · skip
            refine sm_iload (pc := 75) G hb (by decide +kernel : decode cX3_heaviest 75 = .ok (.iload 6, 2)) ?_
            exact sm_iret (pc := 77) G hb (by decide +kernel : decode cX3_heaviest 77 = .ok (.ireturn, 1)) hr
        · skip
          refine sm_iload (pc := 31) G hb (by decide +kernel : decode cX3_heaviest 31 = .ok (.iload 4, 2)) ?_
          refine sm_iload_n (pc := 33) G hb (by decide +kernel : decode cX3_heaviest 33 = .ok (.iload_n 1, 1)) rfl ?_
          refine sm_iconst (pc := 34) G hb (by decide +kernel : decode cX3_heaviest 34 = .ok (.iconst 1, 1)) (by decide) ?_
          refine sm_isub (pc := 35) G hb (by decide +kernel : decode cX3_heaviest 35 = .ok (.isub, 1)) ?_
          refine sm_aload_n (pc := 36) G hb (by decide +kernel : decode cX3_heaviest 36 = .ok (.aload_n 2, 1)) rfl ?_
          refine sm_aload_n (pc := 37) G hb (by decide +kernel : decode cX3_heaviest 37 = .ok (.aload_n 3, 1)) rfl ?_
          refine sm_mono (ca_sub gI_sub) (sm_callS (pc := 38) G hb ho hy he hE.1 4 [0, 1] hg ⟨rfl, rfl, by decide⟩ (by rw [hR]; exact ⟨by show _ ≤ 1 + (d + 1); omega, by show _ ≤ 23 + (d + 1) * 27; omega⟩) (by decide +kernel) gw4_163 gw4_164 gw1_8 gw4_165 (by decide +kernel : decode cX3_heaviest 38 = .ok (.invokestatic 41, 3)) ?_)
          exact sm_iret (pc := 41) G hb (by decide +kernel : decode cX3_heaviest 41 = .ok (.ireturn, 1)) hr
      · skip
        refine sm_iconst (pc := 14) G hb (by decide +kernel : decode cX3_heaviest 14 = .ok (.iconst 0, 1)) (by decide) ?_
        exact sm_iret (pc := 15) G hb (by decide +kernel : decode cX3_heaviest 15 = .ok (.ireturn, 1)) hr
theorem kX3_heaviest {ε : gE5} (hE : gEnv ε) (N : Nat) : ∀ d : Nat, gCtr ε yX3_heaviest cX3_heaviest 8 (some .int) (1 + d) (23 + d * 27) gyWC (fX3_heaviest N d)
  | 0 => by
    obtain ⟨l, E, n0, D, cA, ra⟩ := ε
    intro ad sz av I J r _ _ _ hf
    cases hf
  | d + 1 => gCtr_of hE.1 (by decide) (fun γ G hb ho hy hR he hr => fX3_heaviest_s0 N (fX3_heaviest N d) d (kX3_heaviest hE N d) G hb ho hy hR he hr hE)

set_option maxRecDepth 100000 in
set_option maxHeartbeats 4000000 in
theorem fX3_choose_s41 {γ : gG} {cs ss : Nat} {ε : gE5} (N : Nat) (G : gOK γ) (hb : gcc γ = cX3_choose) (ho : gow γ = RX3) (hy : gly γ = gyPS) (hR : grm γ = { frames := 18, cells := 0, slots := 0, locals := 482 }) (he : genv γ = ε) (hr : grt γ = (some .int)) (hE : gEnv ε) (K5 : gK) (h5 : gSm γ cs ss 5 K5) : gSm γ cs ss 41 (fX3_choose_k41 N K5) := by
  unfold fX3_choose_k41
  refine sm_iinc (pc := 41) G hb (by decide +kernel : decode cX3_choose 41 = .ok (.iinc 4 1, 3)) (by decide) ?_
  refine sm_goto (pc := 44) (tgt := 5) G hb (by decide +kernel : decode cX3_choose 44 = .ok (.goto (-39), 3)) (by decide) ?_
  refine sm_mask ?_
  exact h5
set_option maxRecDepth 100000 in
set_option maxHeartbeats 4000000 in
theorem fX3_choose_s5 {γ : gG} {cs ss : Nat} {ε : gE5} (N : Nat) (G : gOK γ) (hb : gcc γ = cX3_choose) (ho : gow γ = RX3) (hy : gly γ = gyPS) (hR : grm γ = { frames := 18, cells := 0, slots := 0, locals := 482 }) (he : genv γ = ε) (hr : grt γ = (some .int)) (hE : gEnv ε) : gSm γ cs ss 5 (fX3_choose_k5 N) := by
  unfold fX3_choose_k5
  refine sm_lp (fun K5 h5 => ?_) N
  unfold fX3_choose_b5
  refine sm_iload (pc := 5) G hb (by decide +kernel : decode cX3_choose 5 = .ok (.iload 4, 2)) ?_
  refine sm_aload_n (pc := 7) G hb (by decide +kernel : decode cX3_choose 7 = .ok (.aload_n 1, 1)) rfl ?_
  refine sm_get (pc := 8) (ci := 7) (j := 0) (N := 4) (T := TX7) G hb ho hy rfl (by decide) gin_7 gw1_181 (by decide +kernel : decode cX3_choose 8 = .ok (.getfield 18, 3)) ?_
  refine sm_get (pc := 11) (ci := 2) (j := 1) (N := 11) (T := TX2) G hb ho hy rfl (by decide) gin_2 gw1_51 (by decide +kernel : decode cX3_choose 11 = .ok (.getfield 24, 3)) ?_
  refine sm_icmp_ge (pc := 14) (tgt := 47) G hb (by decide +kernel : decode cX3_choose 14 = .ok (.if_icmp .ge 33, 3)) (by decide) ?_ ?_
  · skip
    refine sm_iload_n (pc := 47) G hb (by decide +kernel : decode cX3_choose 47 = .ok (.iload_n 2, 1)) rfl ?_
    refine sm_if_ne (pc := 48) (tgt := 63) G hb (by decide +kernel : decode cX3_choose 48 = .ok (.ifCond .ne 15, 3)) (by decide) ?_ ?_
    · skip
      refine sm_iload_n (pc := 63) G hb (by decide +kernel : decode cX3_choose 63 = .ok (.iload_n 3, 1)) rfl ?_
      refine sm_bipush (pc := 64) G hb (by decide +kernel : decode cX3_choose 64 = .ok (.bipush 13, 2)) (by decide) ?_
      refine sm_aload_n (pc := 66) G hb (by decide +kernel : decode cX3_choose 66 = .ok (.aload_n 0, 1)) rfl ?_
      refine sm_get (pc := 67) (ci := 3) (j := 1) (N := 2) (T := TX3) G hb ho hy rfl (by decide) gin_3 gw2_32 (by decide +kernel : decode cX3_choose 67 = .ok (.getfield 15, 3)) ?_
      refine sm_aload_n (pc := 70) G hb (by decide +kernel : decode cX3_choose 70 = .ok (.aload_n 1, 1)) rfl ?_
      refine sm_get (pc := 71) (ci := 7) (j := 0) (N := 4) (T := TX7) G hb ho hy rfl (by decide) gin_7 gw1_181 (by decide +kernel : decode cX3_choose 71 = .ok (.getfield 18, 3)) ?_
      refine sm_get (pc := 74) (ci := 2) (j := 7) (N := 11) (T := TX2) G hb ho hy rfl (by decide) gin_2 gw1_79 (by decide +kernel : decode cX3_choose 74 = .ok (.getfield 38, 3)) ?_
      refine sm_mono (ca_sub gI_sub) (sm_callS (pc := 77) G hb ho hy he hE.1 4 [2, 9] (kX3_heaviest hE N 16) ⟨rfl, rfl, by decide⟩ (by rw [hR]; exact ⟨by decide, by decide⟩) (by decide +kernel) gw4_163 gw4_164 gw1_8 gw4_165 (by decide +kernel : decode cX3_choose 77 = .ok (.invokestatic 41, 3)) ?_)
      exact sm_iret (pc := 80) G hb (by decide +kernel : decode cX3_choose 80 = .ok (.ireturn, 1)) hr
    · skip
      refine sm_aload_n (pc := 51) G hb (by decide +kernel : decode cX3_choose 51 = .ok (.aload_n 0, 1)) rfl ?_
      refine sm_iload_n (pc := 52) G hb (by decide +kernel : decode cX3_choose 52 = .ok (.iload_n 3, 1)) rfl ?_
      refine sm_aload_n (pc := 53) G hb (by decide +kernel : decode cX3_choose 53 = .ok (.aload_n 1, 1)) rfl ?_
      refine sm_get (pc := 54) (ci := 7) (j := 0) (N := 4) (T := TX7) G hb ho hy rfl (by decide) gin_7 gw1_181 (by decide +kernel : decode cX3_choose 54 = .ok (.getfield 18, 3)) ?_
      refine sm_mono (cav_sub gI_sub) (sm_callV (pc := 57) (N := 2) (T := TX3) (C := RX3) G hb ho hy he hE.1 3 [0, 1, 2, 4, 5, 6, 7, 8, 9, 10, 11, 12] (kX3_greediest hE N) (gCo_of (by decide +kernel)) (by rw [hR]; exact ⟨by decide, by decide⟩) rfl rfl (by decide +kernel) gw4_159 gw4_161 gw0_24 gw1_8 gw4_162 (by decide +kernel : decode cX3_choose 57 = .ok (.invokevirtual 34, 3)) ?_)
      refine sm_goto (pc := 60) (tgt := 80) G hb (by decide +kernel : decode cX3_choose 60 = .ok (.goto 20, 3)) (by decide) ?_
      exact sm_iret (pc := 80) G hb (by decide +kernel : decode cX3_choose 80 = .ok (.ireturn, 1)) hr
  · skip
    refine sm_aload_n (pc := 17) G hb (by decide +kernel : decode cX3_choose 17 = .ok (.aload_n 0, 1)) rfl ?_
    refine sm_aload_n (pc := 18) G hb (by decide +kernel : decode cX3_choose 18 = .ok (.aload_n 1, 1)) rfl ?_
    refine sm_iload (pc := 19) G hb (by decide +kernel : decode cX3_choose 19 = .ok (.iload 4, 2)) ?_
    refine sm_mono (cav_sub gV_sub) (sm_callV (pc := 21) (N := 2) (T := TX3) (C := RX3) G hb ho hy he hE.1 3 [0, 1, 2, 3, 4, 5, 6, 7, 8, 9, 10, 11, 12, 13, 14, 15, 16, 17, 18, 19, 20, 21, 22] (kX3_weigh hE N) (gCo_of (by decide +kernel)) (by rw [hR]; exact ⟨by decide, by decide⟩) rfl rfl (by decide +kernel) gw4_151 gw4_153 gw0_23 gw1_8 gw4_154 (by decide +kernel : decode cX3_choose 21 = .ok (.invokevirtual 30, 3)) ?_)
    refine sm_aload_n (pc := 24) G hb (by decide +kernel : decode cX3_choose 24 = .ok (.aload_n 0, 1)) rfl ?_
    refine sm_get (pc := 25) (ci := 3) (j := 1) (N := 2) (T := TX3) G hb ho hy rfl (by decide) gin_3 gw2_32 (by decide +kernel : decode cX3_choose 25 = .ok (.getfield 15, 3)) ?_
    refine sm_iload (pc := 28) G hb (by decide +kernel : decode cX3_choose 28 = .ok (.iload 4, 2)) ?_
    refine sm_iald (pc := 30) G hb hy (by decide +kernel : decode cX3_choose 30 = .ok (.iaload, 1)) ?_
    refine sm_if_le (pc := 31) (tgt := 41) G hb (by decide +kernel : decode cX3_choose 31 = .ok (.ifCond .le 10, 3)) (by decide) ?_ ?_
    · skip
      refine sm_mask ?_
      exact fX3_choose_s41 N G hb ho hy hR he hr hE K5 h5
    · skip
      refine sm_iload_n (pc := 34) G hb (by decide +kernel : decode cX3_choose 34 = .ok (.iload_n 3, 1)) rfl ?_
      refine sm_iconst (pc := 35) G hb (by decide +kernel : decode cX3_choose 35 = .ok (.iconst 1, 1)) (by decide) ?_
      refine sm_iload (pc := 36) G hb (by decide +kernel : decode cX3_choose 36 = .ok (.iload 4, 2)) ?_
      refine sm_ishl (pc := 38) G hb (by decide +kernel : decode cX3_choose 38 = .ok (.ishl, 1)) ?_
      refine sm_ior (pc := 39) G hb (by decide +kernel : decode cX3_choose 39 = .ok (.ior, 1)) ?_
      refine sm_istore_n (pc := 40) G hb (by decide +kernel : decode cX3_choose 40 = .ok (.istore_n 3, 1)) rfl ?_
      refine sm_mask ?_
      exact fX3_choose_s41 N G hb ho hy hR he hr hE K5 h5
set_option maxRecDepth 100000 in
set_option maxHeartbeats 4000000 in
theorem fX3_choose_s0 {γ : gG} {cs ss : Nat} {ε : gE5} (N : Nat) (G : gOK γ) (hb : gcc γ = cX3_choose) (ho : gow γ = RX3) (hy : gly γ = gyPS) (hR : grm γ = { frames := 18, cells := 0, slots := 0, locals := 482 }) (he : genv γ = ε) (hr : grt γ = (some .int)) (hE : gEnv ε) : gSm γ cs ss 0 (fX3_choose_k0 N) := by
  unfold fX3_choose_k0
  refine sm_iconst (pc := 0) G hb (by decide +kernel : decode cX3_choose 0 = .ok (.iconst 0, 1)) (by decide) ?_
  refine sm_istore_n (pc := 1) G hb (by decide +kernel : decode cX3_choose 1 = .ok (.istore_n 3, 1)) rfl ?_
  refine sm_iconst (pc := 2) G hb (by decide +kernel : decode cX3_choose 2 = .ok (.iconst 0, 1)) (by decide) ?_
  refine sm_istore (pc := 3) G hb (by decide +kernel : decode cX3_choose 3 = .ok (.istore 4, 2)) ?_
  refine sm_mask ?_
  exact fX3_choose_s5 N G hb ho hy hR he hr hE
theorem kX3_choose {ε : gE5} (hE : gEnv ε) (N : Nat) : gCtr ε yX3_choose cX3_choose 5 (some .int) 18 482 gyPS (fX3_choose N) :=
  gCtr_of hE.1 (by decide) (fun γ G hb ho hy hR he hr => fX3_choose_s0 N G hb ho hy hR he hr hE)

set_option maxRecDepth 100000 in
set_option maxHeartbeats 4000000 in
theorem fX6_passSlot_s46 {γ : gG} {cs ss : Nat} {ε : gE5} (N : Nat) (G : gOK γ) (hb : gcc γ = cX6_passSlot) (ho : gow γ = RX6) (hy : gly γ = gyRS) (hR : grm γ = { frames := 19, cells := 0, slots := 0, locals := 506 }) (he : genv γ = ε) (hr : grt γ = none) (hE : gEnv ε) : gSm γ cs ss 46 (fX6_passSlot_k46 N) := by
  unfold fX6_passSlot_k46
  refine sm_aload_n (pc := 46) G hb (by decide +kernel : decode cX6_passSlot 46 = .ok (.aload_n 1, 1)) rfl ?_
  refine sm_mono (cav_sub gV_sub) (sm_callV (pc := 47) (N := 4) (T := TX7) (C := RX7) G hb ho hy he hE.1 1 [7, 8, 9, 10, 11, 12, 13, 14, 15, 16, 17, 18, 19, 20, 21, 22, 23, 24, 25, 26] (kX7_expireAll hE N) (gCo_of (by decide +kernel)) (by rw [hR]; exact ⟨by decide, by decide⟩) rfl rfl (by decide +kernel) gw4_196 gw4_197 gw4_198 gw1_2 gw4_199 (by decide +kernel : decode cX6_passSlot 47 = .ok (.invokevirtual 58, 3)) ?_)
  refine sm_aload_n (pc := 50) G hb (by decide +kernel : decode cX6_passSlot 50 = .ok (.aload_n 1, 1)) rfl ?_
  refine sm_dup (pc := 51) G hb (by decide +kernel : decode cX6_passSlot 51 = .ok (.dup, 1)) ?_
  refine sm_get (pc := 52) (ci := 7) (j := 2) (N := 4) (T := TX7) G hb ho hy rfl (by decide) gin_7 gw1_188 (by decide +kernel : decode cX6_passSlot 52 = .ok (.getfield 61, 3)) ?_
  refine sm_iconst (pc := 55) G hb (by decide +kernel : decode cX6_passSlot 55 = .ok (.iconst 1, 1)) (by decide) ?_
  refine sm_iadd (pc := 56) G hb (by decide +kernel : decode cX6_passSlot 56 = .ok (.iadd, 1)) ?_
  refine sm_put (pc := 57) (ci := 7) (j := 2) (N := 4) (T := TX7) G hb ho hy tyX7 tyX7_ok nmX7 rfl (by decide) gin_7 gw1_188 rfl rfl (by decide +kernel : decode cX6_passSlot 57 = .ok (.putfield 61, 3)) ?_
  refine sm_aload_n (pc := 60) G hb (by decide +kernel : decode cX6_passSlot 60 = .ok (.aload_n 1, 1)) rfl ?_
  refine sm_aload_n (pc := 61) G hb (by decide +kernel : decode cX6_passSlot 61 = .ok (.aload_n 1, 1)) rfl ?_
  refine sm_get (pc := 62) (ci := 7) (j := 3) (N := 4) (T := TX7) G hb ho hy rfl (by decide) gin_7 gw1_191 (by decide +kernel : decode cX6_passSlot 62 = .ok (.getfield 64, 3)) ?_
  refine sm_aload_n (pc := 65) G hb (by decide +kernel : decode cX6_passSlot 65 = .ok (.aload_n 1, 1)) rfl ?_
  refine sm_get (pc := 66) (ci := 7) (j := 1) (N := 4) (T := TX7) G hb ho hy rfl (by decide) gin_7 gw1_185 (by decide +kernel : decode cX6_passSlot 66 = .ok (.getfield 67, 3)) ?_
  refine sm_get (pc := 69) (ci := 4) (j := 11) (N := 12) (T := TX4) G hb ho hy rfl (by decide) gin_4 gw1_151 (by decide +kernel : decode cX6_passSlot 69 = .ok (.getfield 71, 3)) ?_
  refine sm_jmax (pc := 72) G hb ho (by rw [hR]; exact ⟨by decide, by decide⟩) gw4_189 gw4_157 gw1_21 gw4_158 (by decide +kernel : decode cX6_passSlot 72 = .ok (.invokestatic 76, 3)) ?_
  refine sm_put (pc := 75) (ci := 7) (j := 3) (N := 4) (T := TX7) G hb ho hy tyX7 tyX7_ok nmX7 rfl (by decide) gin_7 gw1_191 rfl rfl (by decide +kernel : decode cX6_passSlot 75 = .ok (.putfield 64, 3)) ?_
  exact sm_vret (pc := 78) G hb (by decide +kernel : decode cX6_passSlot 78 = .ok (.return_, 1)) hr
set_option maxRecDepth 100000 in
set_option maxHeartbeats 4000000 in
theorem fX6_passSlot_s2 {γ : gG} {cs ss : Nat} {ε : gE5} (N : Nat) (G : gOK γ) (hb : gcc γ = cX6_passSlot) (ho : gow γ = RX6) (hy : gly γ = gyRS) (hR : grm γ = { frames := 19, cells := 0, slots := 0, locals := 506 }) (he : genv γ = ε) (hr : grt γ = none) (hE : gEnv ε) : gSm γ cs ss 2 (fX6_passSlot_k2 N) := by
  unfold fX6_passSlot_k2
  refine sm_lp (fun K2 h2 => ?_) N
  unfold fX6_passSlot_b2
  refine sm_iload_n (pc := 2) G hb (by decide +kernel : decode cX6_passSlot 2 = .ok (.iload_n 2, 1)) rfl ?_
  refine sm_aload_n (pc := 3) G hb (by decide +kernel : decode cX6_passSlot 3 = .ok (.aload_n 1, 1)) rfl ?_
  refine sm_get (pc := 4) (ci := 7) (j := 0) (N := 4) (T := TX7) G hb ho hy rfl (by decide) gin_7 gw1_182 (by decide +kernel : decode cX6_passSlot 4 = .ok (.getfield 32, 3)) ?_
  refine sm_get (pc := 7) (ci := 2) (j := 2) (N := 11) (T := TX2) G hb ho hy rfl (by decide) gin_2 gw1_57 (by decide +kernel : decode cX6_passSlot 7 = .ok (.getfield 38, 3)) ?_
  refine sm_icmp_ge (pc := 10) (tgt := 24) G hb (by decide +kernel : decode cX6_passSlot 10 = .ok (.if_icmp .ge 14, 3)) (by decide) ?_ ?_
  · skip
    refine sm_aload_n (pc := 24) G hb (by decide +kernel : decode cX6_passSlot 24 = .ok (.aload_n 0, 1)) rfl ?_
    refine sm_aload_n (pc := 25) G hb (by decide +kernel : decode cX6_passSlot 25 = .ok (.aload_n 1, 1)) rfl ?_
    refine sm_aload_n (pc := 26) G hb (by decide +kernel : decode cX6_passSlot 26 = .ok (.aload_n 0, 1)) rfl ?_
    refine sm_get (pc := 27) (ci := 6) (j := 0) (N := 4) (T := TX6) G hb ho hy rfl (by decide) gin_6 gw2_39 (by decide +kernel : decode cX6_passSlot 27 = .ok (.getfield 12, 3)) ?_
    refine sm_aload_n (pc := 30) G hb (by decide +kernel : decode cX6_passSlot 30 = .ok (.aload_n 1, 1)) rfl ?_
    refine sm_aload_n (pc := 31) G hb (by decide +kernel : decode cX6_passSlot 31 = .ok (.aload_n 1, 1)) rfl ?_
    refine sm_get (pc := 32) (ci := 7) (j := 0) (N := 4) (T := TX7) G hb ho hy rfl (by decide) gin_7 gw1_182 (by decide +kernel : decode cX6_passSlot 32 = .ok (.getfield 32, 3)) ?_
    refine sm_get (pc := 35) (ci := 2) (j := 8) (N := 11) (T := TX2) G hb ho hy rfl (by decide) gin_2 gw1_83 (by decide +kernel : decode cX6_passSlot 35 = .ok (.getfield 48, 3)) ?_
    refine sm_iconst (pc := 38) G hb (by decide +kernel : decode cX6_passSlot 38 = .ok (.iconst 3, 1)) (by decide) ?_
    refine sm_iald (pc := 39) G hb hy (by decide +kernel : decode cX6_passSlot 39 = .ok (.iaload, 1)) ?_
    refine sm_mono (cav_sub gI_sub) (sm_callV (pc := 40) (N := 2) (T := TX3) (C := RX3) G hb ho hy he hE.1 3 [1, 2, 3, 7, 8, 9, 10, 11, 12, 13, 14, 15, 16, 17, 18, 19, 20, 21, 22, 23, 24, 25, 26] (kX3_choose hE N) (gCo_of (by decide +kernel)) (by rw [hR]; exact ⟨by decide, by decide⟩) rfl rfl (by decide +kernel) gw4_147 gw4_148 gw4_149 gw1_8 gw4_150 (by decide +kernel : decode cX6_passSlot 40 = .ok (.invokevirtual 51, 3)) ?_)
    refine sm_mono (cav_sub gV_sub) (sm_callV (pc := 43) (N := 4) (T := TX6) (C := RX6) G hb ho hy he hE.1 3 [0, 1, 2, 3, 4, 5, 6, 7, 8, 9, 10, 11, 12, 13, 14, 15, 16, 17, 18, 19, 20, 21, 22, 23, 24, 25, 26] (kX6_transmit hE N) (gCo_of (by decide +kernel)) (by rw [hR]; exact ⟨by decide, by decide⟩) rfl rfl (by decide +kernel) gw4_169 gw4_171 gw0_25 gw1_7 gw4_172 (by decide +kernel : decode cX6_passSlot 43 = .ok (.invokevirtual 55, 3)) ?_)
    refine sm_mask ?_
    exact fX6_passSlot_s46 N G hb ho hy hR he hr hE
  · skip
    refine sm_aload_n (pc := 13) G hb (by decide +kernel : decode cX6_passSlot 13 = .ok (.aload_n 1, 1)) rfl ?_
    refine sm_iload_n (pc := 14) G hb (by decide +kernel : decode cX6_passSlot 14 = .ok (.iload_n 2, 1)) rfl ?_
    refine sm_mono (ca_sub gV_sub) (sm_callS (pc := 15) G hb ho hy he hE.1 2 [7, 8, 9, 10, 11, 12, 13, 14, 15, 16, 17, 18, 19, 20, 21, 22, 23, 24, 25, 26] (kX6_letArrive hE N) (gCo_of (by decide +kernel)) (by rw [hR]; exact ⟨by decide, by decide⟩) (by decide +kernel) gw4_138 gw4_139 gw1_7 gw4_140 (by decide +kernel : decode cX6_passSlot 15 = .ok (.invokestatic 44, 3)) ?_)
    refine sm_iinc (pc := 18) G hb (by decide +kernel : decode cX6_passSlot 18 = .ok (.iinc 2 1, 3)) (by decide) ?_
    refine sm_goto (pc := 21) (tgt := 2) G hb (by decide +kernel : decode cX6_passSlot 21 = .ok (.goto (-19), 3)) (by decide) ?_
    refine sm_mask ?_
    exact h2
set_option maxRecDepth 100000 in
set_option maxHeartbeats 4000000 in
theorem fX6_passSlot_s0 {γ : gG} {cs ss : Nat} {ε : gE5} (N : Nat) (G : gOK γ) (hb : gcc γ = cX6_passSlot) (ho : gow γ = RX6) (hy : gly γ = gyRS) (hR : grm γ = { frames := 19, cells := 0, slots := 0, locals := 506 }) (he : genv γ = ε) (hr : grt γ = none) (hE : gEnv ε) : gSm γ cs ss 0 (fX6_passSlot_k0 N) := by
  unfold fX6_passSlot_k0
  refine sm_iconst (pc := 0) G hb (by decide +kernel : decode cX6_passSlot 0 = .ok (.iconst 0, 1)) (by decide) ?_
  refine sm_istore_n (pc := 1) G hb (by decide +kernel : decode cX6_passSlot 1 = .ok (.istore_n 2, 1)) rfl ?_
  refine sm_mask ?_
  exact fX6_passSlot_s2 N G hb ho hy hR he hr hE
theorem kX6_passSlot {ε : gE5} (hE : gEnv ε) (N : Nat) : gCtr ε yX6_passSlot cX6_passSlot 3 none 19 506 gyRS (fX6_passSlot N) :=
  gCtr_of hE.1 (by decide) (fun γ G hb ho hy hR he hr => fX6_passSlot_s0 N G hb ho hy hR he hr hE)

set_option maxRecDepth 100000 in
set_option maxHeartbeats 4000000 in
theorem fX6_passSlots_s2 {γ : gG} {cs ss : Nat} {ε : gE5} (N : Nat) (G : gOK γ) (hb : gcc γ = cX6_passSlots) (ho : gow γ = RX6) (hy : gly γ = gyRS) (hR : grm γ = { frames := 20, cells := 0, slots := 0, locals := 528 }) (he : genv γ = ε) (hr : grt γ = none) (hE : gEnv ε) : gSm γ cs ss 2 (fX6_passSlots_k2 N) := by
  unfold fX6_passSlots_k2
  refine sm_lp (fun K2 h2 => ?_) N
  unfold fX6_passSlots_b2
  refine sm_iload_n (pc := 2) G hb (by decide +kernel : decode cX6_passSlots 2 = .ok (.iload_n 3, 1)) rfl ?_
  refine sm_iload_n (pc := 3) G hb (by decide +kernel : decode cX6_passSlots 3 = .ok (.iload_n 2, 1)) rfl ?_
  refine sm_icmp_ge (pc := 4) (tgt := 18) G hb (by decide +kernel : decode cX6_passSlots 4 = .ok (.if_icmp .ge 14, 3)) (by decide) ?_ ?_
  · skip
    exact sm_vret (pc := 18) G hb (by decide +kernel : decode cX6_passSlots 18 = .ok (.return_, 1)) hr
  · skip
    refine sm_aload_n (pc := 7) G hb (by decide +kernel : decode cX6_passSlots 7 = .ok (.aload_n 0, 1)) rfl ?_
    refine sm_aload_n (pc := 8) G hb (by decide +kernel : decode cX6_passSlots 8 = .ok (.aload_n 1, 1)) rfl ?_
    refine sm_mono (cav_sub gV_sub) (sm_callV (pc := 9) (N := 4) (T := TX6) (C := RX6) G hb ho hy he hE.1 2 [0, 1, 2, 3, 4, 5, 6, 7, 8, 9, 10, 11, 12, 13, 14, 15, 16, 17, 18, 19, 20, 21, 22, 23, 24, 25, 26] (kX6_passSlot hE N) (gCo_of (by decide +kernel)) (by rw [hR]; exact ⟨by decide, by decide⟩) rfl rfl (by decide +kernel) gw4_134 gw4_135 gw4_136 gw1_7 gw4_137 (by decide +kernel : decode cX6_passSlots 9 = .ok (.invokevirtual 28, 3)) ?_)
    refine sm_iinc (pc := 12) G hb (by decide +kernel : decode cX6_passSlots 12 = .ok (.iinc 3 1, 3)) (by decide) ?_
    refine sm_goto (pc := 15) (tgt := 2) G hb (by decide +kernel : decode cX6_passSlots 15 = .ok (.goto (-13), 3)) (by decide) ?_
    refine sm_mask ?_
    exact h2
set_option maxRecDepth 100000 in
set_option maxHeartbeats 4000000 in
theorem fX6_passSlots_s0 {γ : gG} {cs ss : Nat} {ε : gE5} (N : Nat) (G : gOK γ) (hb : gcc γ = cX6_passSlots) (ho : gow γ = RX6) (hy : gly γ = gyRS) (hR : grm γ = { frames := 20, cells := 0, slots := 0, locals := 528 }) (he : genv γ = ε) (hr : grt γ = none) (hE : gEnv ε) : gSm γ cs ss 0 (fX6_passSlots_k0 N) := by
  unfold fX6_passSlots_k0
  refine sm_iconst (pc := 0) G hb (by decide +kernel : decode cX6_passSlots 0 = .ok (.iconst 0, 1)) (by decide) ?_
  refine sm_istore_n (pc := 1) G hb (by decide +kernel : decode cX6_passSlots 1 = .ok (.istore_n 3, 1)) rfl ?_
  refine sm_mask ?_
  exact fX6_passSlots_s2 N G hb ho hy hR he hr hE
theorem kX6_passSlots {ε : gE5} (hE : gEnv ε) (N : Nat) : gCtr ε yX6_passSlots cX6_passSlots 4 none 20 528 gyRS (fX6_passSlots N) :=
  gCtr_of hE.1 (by decide) (fun γ G hb ho hy hR he hr => fX6_passSlots_s0 N G hb ho hy hR he hr hE)
