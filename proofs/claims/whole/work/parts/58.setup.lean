set_option maxRecDepth 100000 in
set_option maxHeartbeats 4000000 in
theorem fX5_putBytes_s49 {γ : gG} {cs ss : Nat} {ε : gE5} (N : Nat) (G : gOK γ) (hb : gcc γ = cX5_putBytes) (ho : gow γ = RX5) (hy : gly γ = gyT) (hR : grm γ = { frames := 0, cells := 0, slots := 0, locals := 0 }) (he : genv γ = ε) (hr : grt γ = none) (hE : gEnv ε) (K3 : gK) (h3 : gSm γ cs ss 3 K3) : gSm γ cs ss 49 (fX5_putBytes_k49 N K3) := by
  unfold fX5_putBytes_k49
  refine sm_iinc (pc := 49) G hb (by decide +kernel : decode cX5_putBytes 49 = .ok (.iinc 2 (-8), 3)) (by decide) ?_
  refine sm_goto (pc := 52) (tgt := 3) G hb (by decide +kernel : decode cX5_putBytes 52 = .ok (.goto (-49), 3)) (by decide) ?_
  refine sm_mask ?_
  exact h3
set_option maxRecDepth 100000 in
set_option maxHeartbeats 4000000 in
theorem fX5_putBytes_s3 {γ : gG} {cs ss : Nat} {ε : gE5} (N : Nat) (G : gOK γ) (hb : gcc γ = cX5_putBytes) (ho : gow γ = RX5) (hy : gly γ = gyT) (hR : grm γ = { frames := 0, cells := 0, slots := 0, locals := 0 }) (he : genv γ = ε) (hr : grt γ = none) (hE : gEnv ε) : gSm γ cs ss 3 (fX5_putBytes_k3 N) := by
  unfold fX5_putBytes_k3
  refine sm_lp (fun K3 h3 => ?_) N
  unfold fX5_putBytes_b3
  refine sm_iload_n (pc := 3) G hb (by decide +kernel : decode cX5_putBytes 3 = .ok (.iload_n 2, 1)) rfl ?_
  refine sm_if_lt (pc := 4) (tgt := 55) G hb (by decide +kernel : decode cX5_putBytes 4 = .ok (.ifCond .lt 51, 3)) (by decide) ?_ ?_
  · skip
    exact sm_vret (pc := 55) G hb (by decide +kernel : decode cX5_putBytes 55 = .ok (.return_, 1)) hr
  · skip
    refine sm_iload_n (pc := 7) G hb (by decide +kernel : decode cX5_putBytes 7 = .ok (.iload_n 1, 1)) rfl ?_
    refine sm_iload_n (pc := 8) G hb (by decide +kernel : decode cX5_putBytes 8 = .ok (.iload_n 2, 1)) rfl ?_
    refine sm_iushr (pc := 9) G hb (by decide +kernel : decode cX5_putBytes 9 = .ok (.iushr, 1)) ?_
    refine sm_sipush (pc := 10) G hb (by decide +kernel : decode cX5_putBytes 10 = .ok (.sipush 255, 3)) (by decide) ?_
    refine sm_iand (pc := 13) G hb (by decide +kernel : decode cX5_putBytes 13 = .ok (.iand, 1)) ?_
    refine sm_istore_n (pc := 14) G hb (by decide +kernel : decode cX5_putBytes 14 = .ok (.istore_n 3, 1)) rfl ?_
    refine sm_iload_n (pc := 15) G hb (by decide +kernel : decode cX5_putBytes 15 = .ok (.iload_n 3, 1)) rfl ?_
    refine sm_if_eq (pc := 16) (tgt := 49) G hb (by decide +kernel : decode cX5_putBytes 16 = .ok (.ifCond .eq 33, 3)) (by decide) ?_ ?_
    · skip
      refine sm_mask ?_
      exact fX5_putBytes_s49 N G hb ho hy hR he hr hE K3 h3
    · skip
      refine sm_aload_n (pc := 19) G hb (by decide +kernel : decode cX5_putBytes 19 = .ok (.aload_n 0, 1)) rfl ?_
      refine sm_get (pc := 20) (ci := 5) (j := 2) (N := 9) (T := TX5) G hb ho hy rfl (by decide) gin_5 gw1_230 (by decide +kernel : decode cX5_putBytes 20 = .ok (.getfield 22, 3)) ?_
      refine sm_sipush (pc := 23) G hb (by decide +kernel : decode cX5_putBytes 23 = .ok (.sipush 700, 3)) (by decide) ?_
      refine sm_icmp_ge (pc := 26) (tgt := 49) G hb (by decide +kernel : decode cX5_putBytes 26 = .ok (.if_icmp .ge 23, 3)) (by decide) ?_ ?_
      · skip
        refine sm_mask ?_
        exact fX5_putBytes_s49 N G hb ho hy hR he hr hE K3 h3
      · skip
        refine sm_aload_n (pc := 29) G hb (by decide +kernel : decode cX5_putBytes 29 = .ok (.aload_n 0, 1)) rfl ?_
        refine sm_get (pc := 30) (ci := 5) (j := 0) (N := 9) (T := TX5) G hb ho hy rfl (by decide) gin_5 gw1_227 (by decide +kernel : decode cX5_putBytes 30 = .ok (.getfield 9, 3)) ?_
        refine sm_aload_n (pc := 33) G hb (by decide +kernel : decode cX5_putBytes 33 = .ok (.aload_n 0, 1)) rfl ?_
        refine sm_get (pc := 34) (ci := 5) (j := 2) (N := 9) (T := TX5) G hb ho hy rfl (by decide) gin_5 gw1_230 (by decide +kernel : decode cX5_putBytes 34 = .ok (.getfield 22, 3)) ?_
        refine sm_iload_n (pc := 37) G hb (by decide +kernel : decode cX5_putBytes 37 = .ok (.iload_n 3, 1)) rfl ?_
        refine sm_iast (pc := 38) G hb hy (by decide +kernel : decode cX5_putBytes 38 = .ok (.iastore, 1)) ?_
        refine sm_aload_n (pc := 39) G hb (by decide +kernel : decode cX5_putBytes 39 = .ok (.aload_n 0, 1)) rfl ?_
        refine sm_dup (pc := 40) G hb (by decide +kernel : decode cX5_putBytes 40 = .ok (.dup, 1)) ?_
        refine sm_get (pc := 41) (ci := 5) (j := 2) (N := 9) (T := TX5) G hb ho hy rfl (by decide) gin_5 gw1_230 (by decide +kernel : decode cX5_putBytes 41 = .ok (.getfield 22, 3)) ?_
        refine sm_iconst (pc := 44) G hb (by decide +kernel : decode cX5_putBytes 44 = .ok (.iconst 1, 1)) (by decide) ?_
        refine sm_iadd (pc := 45) G hb (by decide +kernel : decode cX5_putBytes 45 = .ok (.iadd, 1)) ?_
        refine sm_put (pc := 46) (ci := 5) (j := 2) (N := 9) (T := TX5) G hb ho hy tyX5 tyX5_ok nmX5 rfl (by decide) gin_5 gw1_230 rfl rfl (by decide +kernel : decode cX5_putBytes 46 = .ok (.putfield 22, 3)) ?_
        refine sm_mask ?_
        exact fX5_putBytes_s49 N G hb ho hy hR he hr hE K3 h3
set_option maxRecDepth 100000 in
set_option maxHeartbeats 4000000 in
theorem fX5_putBytes_s0 {γ : gG} {cs ss : Nat} {ε : gE5} (N : Nat) (G : gOK γ) (hb : gcc γ = cX5_putBytes) (ho : gow γ = RX5) (hy : gly γ = gyT) (hR : grm γ = { frames := 0, cells := 0, slots := 0, locals := 0 }) (he : genv γ = ε) (hr : grt γ = none) (hE : gEnv ε) : gSm γ cs ss 0 (fX5_putBytes_k0 N) := by
  unfold fX5_putBytes_k0
  refine sm_bipush (pc := 0) G hb (by decide +kernel : decode cX5_putBytes 0 = .ok (.bipush 24, 2)) (by decide) ?_
  refine sm_istore_n (pc := 2) G hb (by decide +kernel : decode cX5_putBytes 2 = .ok (.istore_n 2, 1)) rfl ?_
  refine sm_mask ?_
  exact fX5_putBytes_s3 N G hb ho hy hR he hr hE
theorem kX5_putBytes {ε : gE5} (hE : gEnv ε) (N : Nat) : gCtr ε yX5_putBytes cX5_putBytes 4 none 0 0 gyT (fX5_putBytes N) :=
  gCtr_of hE.1 (by decide) (fun γ G hb ho hy hR he hr => fX5_putBytes_s0 N G hb ho hy hR he hr hE)

set_option maxRecDepth 100000 in
set_option maxHeartbeats 4000000 in
theorem fX5_kindOf_s14 {γ : gG} {cs ss : Nat} {ε : gE5} (N : Nat) (G : gOK γ) (hb : gcc γ = cX5_kindOf) (ho : gow γ = RX5) (hy : gly γ = gy0) (hR : grm γ = { frames := 0, cells := 0, slots := 0, locals := 0 }) (he : genv γ = ε) (hr : grt γ = (some .int)) (hE : gEnv ε) : gSm γ cs ss 14 (fX5_kindOf_k14 N) := by
  unfold fX5_kindOf_k14
  refine sm_iload_n (pc := 14) G hb (by decide +kernel : decode cX5_kindOf 14 = .ok (.iload_n 0, 1)) rfl ?_
  refine sm_bipush (pc := 15) G hb (by decide +kernel : decode cX5_kindOf 15 = .ok (.bipush 48, 2)) (by decide) ?_
  refine sm_icmp_lt (pc := 17) (tgt := 30) G hb (by decide +kernel : decode cX5_kindOf 17 = .ok (.if_icmp .lt 13, 3)) (by decide) ?_ ?_
  · skip
    refine sm_iconst (pc := 30) G hb (by decide +kernel : decode cX5_kindOf 30 = .ok (.iconst 3, 1)) (by decide) ?_
    exact sm_iret (pc := 31) G hb (by decide +kernel : decode cX5_kindOf 31 = .ok (.ireturn, 1)) hr
  · skip
    refine sm_iload_n (pc := 20) G hb (by decide +kernel : decode cX5_kindOf 20 = .ok (.iload_n 0, 1)) rfl ?_
    refine sm_bipush (pc := 21) G hb (by decide +kernel : decode cX5_kindOf 21 = .ok (.bipush 57, 2)) (by decide) ?_
    refine sm_icmp_gt (pc := 23) (tgt := 30) G hb (by decide +kernel : decode cX5_kindOf 23 = .ok (.if_icmp .gt 7, 3)) (by decide) ?_ ?_
    · skip
      refine sm_iconst (pc := 30) G hb (by decide +kernel : decode cX5_kindOf 30 = .ok (.iconst 3, 1)) (by decide) ?_
      exact sm_iret (pc := 31) G hb (by decide +kernel : decode cX5_kindOf 31 = .ok (.ireturn, 1)) hr
    · skip
      refine sm_iconst (pc := 26) G hb (by decide +kernel : decode cX5_kindOf 26 = .ok (.iconst 2, 1)) (by decide) ?_
      refine sm_goto (pc := 27) (tgt := 31) G hb (by decide +kernel : decode cX5_kindOf 27 = .ok (.goto 4, 3)) (by decide) ?_
      exact sm_iret (pc := 31) G hb (by decide +kernel : decode cX5_kindOf 31 = .ok (.ireturn, 1)) hr
set_option maxRecDepth 100000 in
set_option maxHeartbeats 4000000 in
theorem fX5_kindOf_s0 {γ : gG} {cs ss : Nat} {ε : gE5} (N : Nat) (G : gOK γ) (hb : gcc γ = cX5_kindOf) (ho : gow γ = RX5) (hy : gly γ = gy0) (hR : grm γ = { frames := 0, cells := 0, slots := 0, locals := 0 }) (he : genv γ = ε) (hr : grt γ = (some .int)) (hE : gEnv ε) : gSm γ cs ss 0 (fX5_kindOf_k0 N) := by
  unfold fX5_kindOf_k0
  refine sm_iload_n (pc := 0) G hb (by decide +kernel : decode cX5_kindOf 0 = .ok (.iload_n 0, 1)) rfl ?_
  refine sm_bipush (pc := 1) G hb (by decide +kernel : decode cX5_kindOf 1 = .ok (.bipush 97, 2)) (by decide) ?_
  refine sm_icmp_lt (pc := 3) (tgt := 14) G hb (by decide +kernel : decode cX5_kindOf 3 = .ok (.if_icmp .lt 11, 3)) (by decide) ?_ ?_
  · skip
    refine sm_mask ?_
    exact fX5_kindOf_s14 N G hb ho hy hR he hr hE
  · skip
    refine sm_iload_n (pc := 6) G hb (by decide +kernel : decode cX5_kindOf 6 = .ok (.iload_n 0, 1)) rfl ?_
    refine sm_bipush (pc := 7) G hb (by decide +kernel : decode cX5_kindOf 7 = .ok (.bipush 122, 2)) (by decide) ?_
    refine sm_icmp_gt (pc := 9) (tgt := 14) G hb (by decide +kernel : decode cX5_kindOf 9 = .ok (.if_icmp .gt 5, 3)) (by decide) ?_ ?_
    · skip
      refine sm_mask ?_
      exact fX5_kindOf_s14 N G hb ho hy hR he hr hE
    · skip
      refine sm_iconst (pc := 12) G hb (by decide +kernel : decode cX5_kindOf 12 = .ok (.iconst 1, 1)) (by decide) ?_
      exact sm_iret (pc := 13) G hb (by decide +kernel : decode cX5_kindOf 13 = .ok (.ireturn, 1)) hr
theorem kX5_kindOf {ε : gE5} (hE : gEnv ε) (N : Nat) : gCtr ε yX5_kindOf cX5_kindOf 1 (some .int) 0 0 gy0 (fX5_kindOf N) :=
  gCtr_of hE.1 (by decide) (fun γ G hb ho hy hR he hr => fX5_kindOf_s0 N G hb ho hy hR he hr hE)

set_option maxRecDepth 100000 in
set_option maxHeartbeats 4000000 in
theorem fX5_nextToken_s205 {γ : gG} {cs ss : Nat} {ε : gE5} (N : Nat) (G : gOK γ) (hb : gcc γ = cX5_nextToken) (ho : gow γ = RX5) (hy : gly γ = gyT) (hR : grm γ = { frames := 1, cells := 0, slots := 0, locals := 20 }) (he : genv γ = ε) (hr : grt γ = none) (hE : gEnv ε) (K114 : gK) (h114 : gSm γ cs ss 114 K114) : gSm γ cs ss 205 (fX5_nextToken_k205 N K114) := by
  unfold fX5_nextToken_k205
  refine sm_aload_n (pc := 205) G hb (by decide +kernel : decode cX5_nextToken 205 = .ok (.aload_n 0, 1)) rfl ?_
  refine sm_dup (pc := 206) G hb (by decide +kernel : decode cX5_nextToken 206 = .ok (.dup, 1)) ?_
  refine sm_get (pc := 207) (ci := 5) (j := 3) (N := 9) (T := TX5) G hb ho hy rfl (by decide) gin_5 gw1_232 (by decide +kernel : decode cX5_nextToken 207 = .ok (.getfield 26, 3)) ?_
  refine sm_iconst (pc := 210) G hb (by decide +kernel : decode cX5_nextToken 210 = .ok (.iconst 1, 1)) (by decide) ?_
  refine sm_iadd (pc := 211) G hb (by decide +kernel : decode cX5_nextToken 211 = .ok (.iadd, 1)) ?_
  refine sm_put (pc := 212) (ci := 5) (j := 3) (N := 9) (T := TX5) G hb ho hy tyX5 tyX5_ok nmX5 rfl (by decide) gin_5 gw1_232 rfl rfl (by decide +kernel : decode cX5_nextToken 212 = .ok (.putfield 26, 3)) ?_
  refine sm_goto (pc := 215) (tgt := 114) G hb (by decide +kernel : decode cX5_nextToken 215 = .ok (.goto (-101), 3)) (by decide) ?_
  refine sm_mask ?_
  exact h114
set_option maxRecDepth 100000 in
set_option maxHeartbeats 4000000 in
theorem fX5_nextToken_s202 {γ : gG} {cs ss : Nat} {ε : gE5} (N : Nat) (G : gOK γ) (hb : gcc γ = cX5_nextToken) (ho : gow γ = RX5) (hy : gly γ = gyT) (hR : grm γ = { frames := 1, cells := 0, slots := 0, locals := 20 }) (he : genv γ = ε) (hr : grt γ = none) (hE : gEnv ε) (K114 : gK) (h114 : gSm γ cs ss 114 K114) : gSm γ cs ss 202 (fX5_nextToken_k202 N K114) := by
  unfold fX5_nextToken_k202
  refine sm_put (pc := 202) (ci := 5) (j := 6) (N := 9) (T := TX5) G hb ho hy tyX5 tyX5_ok nmX5 rfl (by decide) gin_5 gw1_235 rfl rfl (by decide +kernel : decode cX5_nextToken 202 = .ok (.putfield 54, 3)) ?_
  refine sm_mask ?_
  exact fX5_nextToken_s205 N G hb ho hy hR he hr hE K114 h114
set_option maxRecDepth 100000 in
set_option maxHeartbeats 4000000 in
theorem fX5_nextToken_s170 {γ : gG} {cs ss : Nat} {ε : gE5} (N : Nat) (G : gOK γ) (hb : gcc γ = cX5_nextToken) (ho : gow γ = RX5) (hy : gly γ = gyT) (hR : grm γ = { frames := 1, cells := 0, slots := 0, locals := 20 }) (he : genv γ = ε) (hr : grt γ = none) (hE : gEnv ε) (K114 : gK) (h114 : gSm γ cs ss 114 K114) : gSm γ cs ss 170 (fX5_nextToken_k170 N K114) := by
  unfold fX5_nextToken_k170
  refine sm_istore_n (pc := 170) G hb (by decide +kernel : decode cX5_nextToken 170 = .ok (.istore_n 1, 1)) rfl ?_
  refine sm_aload_n (pc := 171) G hb (by decide +kernel : decode cX5_nextToken 171 = .ok (.aload_n 0, 1)) rfl ?_
  refine sm_iload_n (pc := 172) G hb (by decide +kernel : decode cX5_nextToken 172 = .ok (.iload_n 1, 1)) rfl ?_
  refine sm_if_eq (pc := 173) (tgt := 199) G hb (by decide +kernel : decode cX5_nextToken 173 = .ok (.ifCond .eq 26, 3)) (by decide) ?_ ?_
  · skip
    refine sm_sipush (pc := 199) G hb (by decide +kernel : decode cX5_nextToken 199 = .ok (.sipush 1000, 3)) (by decide) ?_
    refine sm_mask ?_
    exact fX5_nextToken_s202 N G hb ho hy hR he hr hE K114 h114
  · skip
    refine sm_bipush (pc := 176) G hb (by decide +kernel : decode cX5_nextToken 176 = .ok (.bipush 10, 2)) (by decide) ?_
    refine sm_aload_n (pc := 178) G hb (by decide +kernel : decode cX5_nextToken 178 = .ok (.aload_n 0, 1)) rfl ?_
    refine sm_get (pc := 179) (ci := 5) (j := 6) (N := 9) (T := TX5) G hb ho hy rfl (by decide) gin_5 gw1_235 (by decide +kernel : decode cX5_nextToken 179 = .ok (.getfield 54, 3)) ?_
    refine sm_imul (pc := 182) G hb (by decide +kernel : decode cX5_nextToken 182 = .ok (.imul, 1)) ?_
    refine sm_aload_n (pc := 183) G hb (by decide +kernel : decode cX5_nextToken 183 = .ok (.aload_n 0, 1)) rfl ?_
    refine sm_get (pc := 184) (ci := 5) (j := 0) (N := 9) (T := TX5) G hb ho hy rfl (by decide) gin_5 gw1_227 (by decide +kernel : decode cX5_nextToken 184 = .ok (.getfield 9, 3)) ?_
    refine sm_aload_n (pc := 187) G hb (by decide +kernel : decode cX5_nextToken 187 = .ok (.aload_n 0, 1)) rfl ?_
    refine sm_get (pc := 188) (ci := 5) (j := 3) (N := 9) (T := TX5) G hb ho hy rfl (by decide) gin_5 gw1_232 (by decide +kernel : decode cX5_nextToken 188 = .ok (.getfield 26, 3)) ?_
    refine sm_iald (pc := 191) G hb hy (by decide +kernel : decode cX5_nextToken 191 = .ok (.iaload, 1)) ?_
    refine sm_iadd (pc := 192) G hb (by decide +kernel : decode cX5_nextToken 192 = .ok (.iadd, 1)) ?_
    refine sm_bipush (pc := 193) G hb (by decide +kernel : decode cX5_nextToken 193 = .ok (.bipush 48, 2)) (by decide) ?_
    refine sm_isub (pc := 195) G hb (by decide +kernel : decode cX5_nextToken 195 = .ok (.isub, 1)) ?_
    refine sm_goto (pc := 196) (tgt := 202) G hb (by decide +kernel : decode cX5_nextToken 196 = .ok (.goto 6, 3)) (by decide) ?_
    refine sm_mask ?_
    exact fX5_nextToken_s202 N G hb ho hy hR he hr hE K114 h114
set_option maxRecDepth 100000 in
set_option maxHeartbeats 4000000 in
theorem fX5_nextToken_s114 {γ : gG} {cs ss : Nat} {ε : gE5} (N : Nat) (G : gOK γ) (hb : gcc γ = cX5_nextToken) (ho : gow γ = RX5) (hy : gly γ = gyT) (hR : grm γ = { frames := 1, cells := 0, slots := 0, locals := 20 }) (he : genv γ = ε) (hr : grt γ = none) (hE : gEnv ε) : gSm γ cs ss 114 (fX5_nextToken_k114 N) := by
  unfold fX5_nextToken_k114
  refine sm_lp (fun K114 h114 => ?_) N
  unfold fX5_nextToken_b114
  refine sm_aload_n (pc := 114) G hb (by decide +kernel : decode cX5_nextToken 114 = .ok (.aload_n 0, 1)) rfl ?_
  refine sm_get (pc := 115) (ci := 5) (j := 3) (N := 9) (T := TX5) G hb ho hy rfl (by decide) gin_5 gw1_232 (by decide +kernel : decode cX5_nextToken 115 = .ok (.getfield 26, 3)) ?_
  refine sm_aload_n (pc := 118) G hb (by decide +kernel : decode cX5_nextToken 118 = .ok (.aload_n 0, 1)) rfl ?_
  refine sm_get (pc := 119) (ci := 5) (j := 2) (N := 9) (T := TX5) G hb ho hy rfl (by decide) gin_5 gw1_230 (by decide +kernel : decode cX5_nextToken 119 = .ok (.getfield 22, 3)) ?_
  refine sm_icmp_ge (pc := 122) (tgt := 218) G hb (by decide +kernel : decode cX5_nextToken 122 = .ok (.if_icmp .ge 96, 3)) (by decide) ?_ ?_
  · skip
    exact sm_vret (pc := 218) G hb (by decide +kernel : decode cX5_nextToken 218 = .ok (.return_, 1)) hr
  · skip
    refine sm_aload_n (pc := 125) G hb (by decide +kernel : decode cX5_nextToken 125 = .ok (.aload_n 0, 1)) rfl ?_
    refine sm_get (pc := 126) (ci := 5) (j := 0) (N := 9) (T := TX5) G hb ho hy rfl (by decide) gin_5 gw1_227 (by decide +kernel : decode cX5_nextToken 126 = .ok (.getfield 9, 3)) ?_
    refine sm_aload_n (pc := 129) G hb (by decide +kernel : decode cX5_nextToken 129 = .ok (.aload_n 0, 1)) rfl ?_
    refine sm_get (pc := 130) (ci := 5) (j := 3) (N := 9) (T := TX5) G hb ho hy rfl (by decide) gin_5 gw1_232 (by decide +kernel : decode cX5_nextToken 130 = .ok (.getfield 26, 3)) ?_
    refine sm_iald (pc := 133) G hb hy (by decide +kernel : decode cX5_nextToken 133 = .ok (.iaload, 1)) ?_
    refine sm_mono (ca_sub gI_sub) (sm_callS (pc := 134) G hb ho hy he hE.1 1 [] (kX5_kindOf hE N) (gCo_of (by decide +kernel)) (by rw [hR]; exact ⟨by decide, by decide⟩) (by decide +kernel) gw2_137 gw2_138 gw1_6 gw2_139 (by decide +kernel : decode cX5_nextToken 134 = .ok (.invokestatic 57, 3)) ?_)
    refine sm_aload_n (pc := 137) G hb (by decide +kernel : decode cX5_nextToken 137 = .ok (.aload_n 0, 1)) rfl ?_
    refine sm_get (pc := 138) (ci := 5) (j := 4) (N := 9) (T := TX5) G hb ho hy rfl (by decide) gin_5 gw1_233 (by decide +kernel : decode cX5_nextToken 138 = .ok (.getfield 51, 3)) ?_
    refine sm_icmp_ne (pc := 141) (tgt := 218) G hb (by decide +kernel : decode cX5_nextToken 141 = .ok (.if_icmp .ne 77, 3)) (by decide) ?_ ?_
    · skip
      exact sm_vret (pc := 218) G hb (by decide +kernel : decode cX5_nextToken 218 = .ok (.return_, 1)) hr
    · skip
      refine sm_aload_n (pc := 144) G hb (by decide +kernel : decode cX5_nextToken 144 = .ok (.aload_n 0, 1)) rfl ?_
      refine sm_get (pc := 145) (ci := 5) (j := 4) (N := 9) (T := TX5) G hb ho hy rfl (by decide) gin_5 gw1_233 (by decide +kernel : decode cX5_nextToken 145 = .ok (.getfield 51, 3)) ?_
      refine sm_iconst (pc := 148) G hb (by decide +kernel : decode cX5_nextToken 148 = .ok (.iconst 2, 1)) (by decide) ?_
      refine sm_icmp_ne (pc := 149) (tgt := 205) G hb (by decide +kernel : decode cX5_nextToken 149 = .ok (.if_icmp .ne 56, 3)) (by decide) ?_ ?_
      · skip
        refine sm_mask ?_
        exact fX5_nextToken_s205 N G hb ho hy hR he hr hE K114 h114
      · skip
        refine sm_aload_n (pc := 152) G hb (by decide +kernel : decode cX5_nextToken 152 = .ok (.aload_n 0, 1)) rfl ?_
        refine sm_get (pc := 153) (ci := 5) (j := 3) (N := 9) (T := TX5) G hb ho hy rfl (by decide) gin_5 gw1_232 (by decide +kernel : decode cX5_nextToken 153 = .ok (.getfield 26, 3)) ?_
        refine sm_aload_n (pc := 156) G hb (by decide +kernel : decode cX5_nextToken 156 = .ok (.aload_n 0, 1)) rfl ?_
        refine sm_get (pc := 157) (ci := 5) (j := 5) (N := 9) (T := TX5) G hb ho hy rfl (by decide) gin_5 gw1_234 (by decide +kernel : decode cX5_nextToken 157 = .ok (.getfield 42, 3)) ?_
        refine sm_isub (pc := 160) G hb (by decide +kernel : decode cX5_nextToken 160 = .ok (.isub, 1)) ?_
        refine sm_iconst (pc := 161) G hb (by decide +kernel : decode cX5_nextToken 161 = .ok (.iconst 3, 1)) (by decide) ?_
        refine sm_icmp_ge (pc := 162) (tgt := 169) G hb (by decide +kernel : decode cX5_nextToken 162 = .ok (.if_icmp .ge 7, 3)) (by decide) ?_ ?_
        · skip
          refine sm_iconst (pc := 169) G hb (by decide +kernel : decode cX5_nextToken 169 = .ok (.iconst 0, 1)) (by decide) ?_
          refine sm_mask ?_
          exact fX5_nextToken_s170 N G hb ho hy hR he hr hE K114 h114
        · skip
          refine sm_iconst (pc := 165) G hb (by decide +kernel : decode cX5_nextToken 165 = .ok (.iconst 1, 1)) (by decide) ?_
          refine sm_goto (pc := 166) (tgt := 170) G hb (by decide +kernel : decode cX5_nextToken 166 = .ok (.goto 4, 3)) (by decide) ?_
          refine sm_mask ?_
          exact fX5_nextToken_s170 N G hb ho hy hR he hr hE K114 h114
set_option maxRecDepth 100000 in
set_option maxHeartbeats 4000000 in
theorem fX5_nextToken_s79 {γ : gG} {cs ss : Nat} {ε : gE5} (N : Nat) (G : gOK γ) (hb : gcc γ = cX5_nextToken) (ho : gow γ = RX5) (hy : gly γ = gyT) (hR : grm γ = { frames := 1, cells := 0, slots := 0, locals := 20 }) (he : genv γ = ε) (hr : grt γ = none) (hE : gEnv ε) : gSm γ cs ss 79 (fX5_nextToken_k79 N) := by
  unfold fX5_nextToken_k79
  refine sm_put (pc := 79) (ci := 5) (j := 4) (N := 9) (T := TX5) G hb ho hy tyX5 tyX5_ok nmX5 rfl (by decide) gin_5 gw1_233 rfl rfl (by decide +kernel : decode cX5_nextToken 79 = .ok (.putfield 51, 3)) ?_
  refine sm_aload_n (pc := 82) G hb (by decide +kernel : decode cX5_nextToken 82 = .ok (.aload_n 0, 1)) rfl ?_
  refine sm_get (pc := 83) (ci := 5) (j := 4) (N := 9) (T := TX5) G hb ho hy rfl (by decide) gin_5 gw1_233 (by decide +kernel : decode cX5_nextToken 83 = .ok (.getfield 51, 3)) ?_
  refine sm_iconst (pc := 86) G hb (by decide +kernel : decode cX5_nextToken 86 = .ok (.iconst 3, 1)) (by decide) ?_
  refine sm_icmp_ne (pc := 87) (tgt := 114) G hb (by decide +kernel : decode cX5_nextToken 87 = .ok (.if_icmp .ne 27, 3)) (by decide) ?_ ?_
  · skip
    refine sm_mask ?_
    exact fX5_nextToken_s114 N G hb ho hy hR he hr hE
  · skip
    refine sm_aload_n (pc := 90) G hb (by decide +kernel : decode cX5_nextToken 90 = .ok (.aload_n 0, 1)) rfl ?_
    refine sm_aload_n (pc := 91) G hb (by decide +kernel : decode cX5_nextToken 91 = .ok (.aload_n 0, 1)) rfl ?_
    refine sm_get (pc := 92) (ci := 5) (j := 0) (N := 9) (T := TX5) G hb ho hy rfl (by decide) gin_5 gw1_227 (by decide +kernel : decode cX5_nextToken 92 = .ok (.getfield 9, 3)) ?_
    refine sm_aload_n (pc := 95) G hb (by decide +kernel : decode cX5_nextToken 95 = .ok (.aload_n 0, 1)) rfl ?_
    refine sm_get (pc := 96) (ci := 5) (j := 3) (N := 9) (T := TX5) G hb ho hy rfl (by decide) gin_5 gw1_232 (by decide +kernel : decode cX5_nextToken 96 = .ok (.getfield 26, 3)) ?_
    refine sm_iald (pc := 99) G hb hy (by decide +kernel : decode cX5_nextToken 99 = .ok (.iaload, 1)) ?_
    refine sm_put (pc := 100) (ci := 5) (j := 6) (N := 9) (T := TX5) G hb ho hy tyX5 tyX5_ok nmX5 rfl (by decide) gin_5 gw1_235 rfl rfl (by decide +kernel : decode cX5_nextToken 100 = .ok (.putfield 54, 3)) ?_
    refine sm_aload_n (pc := 103) G hb (by decide +kernel : decode cX5_nextToken 103 = .ok (.aload_n 0, 1)) rfl ?_
    refine sm_dup (pc := 104) G hb (by decide +kernel : decode cX5_nextToken 104 = .ok (.dup, 1)) ?_
    refine sm_get (pc := 105) (ci := 5) (j := 3) (N := 9) (T := TX5) G hb ho hy rfl (by decide) gin_5 gw1_232 (by decide +kernel : decode cX5_nextToken 105 = .ok (.getfield 26, 3)) ?_
    refine sm_iconst (pc := 108) G hb (by decide +kernel : decode cX5_nextToken 108 = .ok (.iconst 1, 1)) (by decide) ?_
    refine sm_iadd (pc := 109) G hb (by decide +kernel : decode cX5_nextToken 109 = .ok (.iadd, 1)) ?_
    refine sm_put (pc := 110) (ci := 5) (j := 3) (N := 9) (T := TX5) G hb ho hy tyX5 tyX5_ok nmX5 rfl (by decide) gin_5 gw1_232 rfl rfl (by decide +kernel : decode cX5_nextToken 110 = .ok (.putfield 26, 3)) ?_
    exact sm_vret (pc := 113) G hb (by decide +kernel : decode cX5_nextToken 113 = .ok (.return_, 1)) hr
set_option maxRecDepth 100000 in
set_option maxHeartbeats 4000000 in
theorem fX5_nextToken_s38 {γ : gG} {cs ss : Nat} {ε : gE5} (N : Nat) (G : gOK γ) (hb : gcc γ = cX5_nextToken) (ho : gow γ = RX5) (hy : gly γ = gyT) (hR : grm γ = { frames := 1, cells := 0, slots := 0, locals := 20 }) (he : genv γ = ε) (hr : grt γ = none) (hE : gEnv ε) : gSm γ cs ss 38 (fX5_nextToken_k38 N) := by
  unfold fX5_nextToken_k38
  refine sm_aload_n (pc := 38) G hb (by decide +kernel : decode cX5_nextToken 38 = .ok (.aload_n 0, 1)) rfl ?_
  refine sm_aload_n (pc := 39) G hb (by decide +kernel : decode cX5_nextToken 39 = .ok (.aload_n 0, 1)) rfl ?_
  refine sm_get (pc := 40) (ci := 5) (j := 3) (N := 9) (T := TX5) G hb ho hy rfl (by decide) gin_5 gw1_232 (by decide +kernel : decode cX5_nextToken 40 = .ok (.getfield 26, 3)) ?_
  refine sm_put (pc := 43) (ci := 5) (j := 5) (N := 9) (T := TX5) G hb ho hy tyX5 tyX5_ok nmX5 rfl (by decide) gin_5 gw1_234 rfl rfl (by decide +kernel : decode cX5_nextToken 43 = .ok (.putfield 42, 3)) ?_
  refine sm_aload_n (pc := 46) G hb (by decide +kernel : decode cX5_nextToken 46 = .ok (.aload_n 0, 1)) rfl ?_
  refine sm_iconst (pc := 47) G hb (by decide +kernel : decode cX5_nextToken 47 = .ok (.iconst 0, 1)) (by decide) ?_
  refine sm_put (pc := 48) (ci := 5) (j := 6) (N := 9) (T := TX5) G hb ho hy tyX5 tyX5_ok nmX5 rfl (by decide) gin_5 gw1_235 rfl rfl (by decide +kernel : decode cX5_nextToken 48 = .ok (.putfield 54, 3)) ?_
  refine sm_aload_n (pc := 51) G hb (by decide +kernel : decode cX5_nextToken 51 = .ok (.aload_n 0, 1)) rfl ?_
  refine sm_aload_n (pc := 52) G hb (by decide +kernel : decode cX5_nextToken 52 = .ok (.aload_n 0, 1)) rfl ?_
  refine sm_get (pc := 53) (ci := 5) (j := 3) (N := 9) (T := TX5) G hb ho hy rfl (by decide) gin_5 gw1_232 (by decide +kernel : decode cX5_nextToken 53 = .ok (.getfield 26, 3)) ?_
  refine sm_aload_n (pc := 56) G hb (by decide +kernel : decode cX5_nextToken 56 = .ok (.aload_n 0, 1)) rfl ?_
  refine sm_get (pc := 57) (ci := 5) (j := 2) (N := 9) (T := TX5) G hb ho hy rfl (by decide) gin_5 gw1_230 (by decide +kernel : decode cX5_nextToken 57 = .ok (.getfield 22, 3)) ?_
  refine sm_icmp_ge (pc := 60) (tgt := 78) G hb (by decide +kernel : decode cX5_nextToken 60 = .ok (.if_icmp .ge 18, 3)) (by decide) ?_ ?_
  · skip
    refine sm_iconst (pc := 78) G hb (by decide +kernel : decode cX5_nextToken 78 = .ok (.iconst 0, 1)) (by decide) ?_
    refine sm_mask ?_
    exact fX5_nextToken_s79 N G hb ho hy hR he hr hE
  · skip
    refine sm_aload_n (pc := 63) G hb (by decide +kernel : decode cX5_nextToken 63 = .ok (.aload_n 0, 1)) rfl ?_
    refine sm_get (pc := 64) (ci := 5) (j := 0) (N := 9) (T := TX5) G hb ho hy rfl (by decide) gin_5 gw1_227 (by decide +kernel : decode cX5_nextToken 64 = .ok (.getfield 9, 3)) ?_
    refine sm_aload_n (pc := 67) G hb (by decide +kernel : decode cX5_nextToken 67 = .ok (.aload_n 0, 1)) rfl ?_
    refine sm_get (pc := 68) (ci := 5) (j := 3) (N := 9) (T := TX5) G hb ho hy rfl (by decide) gin_5 gw1_232 (by decide +kernel : decode cX5_nextToken 68 = .ok (.getfield 26, 3)) ?_
    refine sm_iald (pc := 71) G hb hy (by decide +kernel : decode cX5_nextToken 71 = .ok (.iaload, 1)) ?_
    refine sm_mono (ca_sub gI_sub) (sm_callS (pc := 72) G hb ho hy he hE.1 1 [] (kX5_kindOf hE N) (gCo_of (by decide +kernel)) (by rw [hR]; exact ⟨by decide, by decide⟩) (by decide +kernel) gw2_137 gw2_138 gw1_6 gw2_139 (by decide +kernel : decode cX5_nextToken 72 = .ok (.invokestatic 57, 3)) ?_)
    refine sm_goto (pc := 75) (tgt := 79) G hb (by decide +kernel : decode cX5_nextToken 75 = .ok (.goto 4, 3)) (by decide) ?_
    refine sm_mask ?_
    exact fX5_nextToken_s79 N G hb ho hy hR he hr hE
set_option maxRecDepth 100000 in
set_option maxHeartbeats 4000000 in
theorem fX5_nextToken_s0 {γ : gG} {cs ss : Nat} {ε : gE5} (N : Nat) (G : gOK γ) (hb : gcc γ = cX5_nextToken) (ho : gow γ = RX5) (hy : gly γ = gyT) (hR : grm γ = { frames := 1, cells := 0, slots := 0, locals := 20 }) (he : genv γ = ε) (hr : grt γ = none) (hE : gEnv ε) : gSm γ cs ss 0 (fX5_nextToken_k0 N) := by
  unfold fX5_nextToken_k0
  refine sm_lp (fun K0 h0 => ?_) N
  unfold fX5_nextToken_b0
  refine sm_aload_n (pc := 0) G hb (by decide +kernel : decode cX5_nextToken 0 = .ok (.aload_n 0, 1)) rfl ?_
  refine sm_get (pc := 1) (ci := 5) (j := 3) (N := 9) (T := TX5) G hb ho hy rfl (by decide) gin_5 gw1_232 (by decide +kernel : decode cX5_nextToken 1 = .ok (.getfield 26, 3)) ?_
  refine sm_aload_n (pc := 4) G hb (by decide +kernel : decode cX5_nextToken 4 = .ok (.aload_n 0, 1)) rfl ?_
  refine sm_get (pc := 5) (ci := 5) (j := 2) (N := 9) (T := TX5) G hb ho hy rfl (by decide) gin_5 gw1_230 (by decide +kernel : decode cX5_nextToken 5 = .ok (.getfield 22, 3)) ?_
  refine sm_icmp_ge (pc := 8) (tgt := 38) G hb (by decide +kernel : decode cX5_nextToken 8 = .ok (.if_icmp .ge 30, 3)) (by decide) ?_ ?_
  · skip
    refine sm_mask ?_
    exact fX5_nextToken_s38 N G hb ho hy hR he hr hE
  · skip
    refine sm_aload_n (pc := 11) G hb (by decide +kernel : decode cX5_nextToken 11 = .ok (.aload_n 0, 1)) rfl ?_
    refine sm_get (pc := 12) (ci := 5) (j := 0) (N := 9) (T := TX5) G hb ho hy rfl (by decide) gin_5 gw1_227 (by decide +kernel : decode cX5_nextToken 12 = .ok (.getfield 9, 3)) ?_
    refine sm_aload_n (pc := 15) G hb (by decide +kernel : decode cX5_nextToken 15 = .ok (.aload_n 0, 1)) rfl ?_
    refine sm_get (pc := 16) (ci := 5) (j := 3) (N := 9) (T := TX5) G hb ho hy rfl (by decide) gin_5 gw1_232 (by decide +kernel : decode cX5_nextToken 16 = .ok (.getfield 26, 3)) ?_
    refine sm_iald (pc := 19) G hb hy (by decide +kernel : decode cX5_nextToken 19 = .ok (.iaload, 1)) ?_
    refine sm_bipush (pc := 20) G hb (by decide +kernel : decode cX5_nextToken 20 = .ok (.bipush 32, 2)) (by decide) ?_
    refine sm_icmp_ne (pc := 22) (tgt := 38) G hb (by decide +kernel : decode cX5_nextToken 22 = .ok (.if_icmp .ne 16, 3)) (by decide) ?_ ?_
    · skip
      refine sm_mask ?_
      exact fX5_nextToken_s38 N G hb ho hy hR he hr hE
    · skip
      refine sm_aload_n (pc := 25) G hb (by decide +kernel : decode cX5_nextToken 25 = .ok (.aload_n 0, 1)) rfl ?_
      refine sm_dup (pc := 26) G hb (by decide +kernel : decode cX5_nextToken 26 = .ok (.dup, 1)) ?_
      refine sm_get (pc := 27) (ci := 5) (j := 3) (N := 9) (T := TX5) G hb ho hy rfl (by decide) gin_5 gw1_232 (by decide +kernel : decode cX5_nextToken 27 = .ok (.getfield 26, 3)) ?_
      refine sm_iconst (pc := 30) G hb (by decide +kernel : decode cX5_nextToken 30 = .ok (.iconst 1, 1)) (by decide) ?_
      refine sm_iadd (pc := 31) G hb (by decide +kernel : decode cX5_nextToken 31 = .ok (.iadd, 1)) ?_
      refine sm_put (pc := 32) (ci := 5) (j := 3) (N := 9) (T := TX5) G hb ho hy tyX5 tyX5_ok nmX5 rfl (by decide) gin_5 gw1_232 rfl rfl (by decide +kernel : decode cX5_nextToken 32 = .ok (.putfield 26, 3)) ?_
      refine sm_goto (pc := 35) (tgt := 0) G hb (by decide +kernel : decode cX5_nextToken 35 = .ok (.goto (-35), 3)) (by decide) ?_
      refine sm_mask ?_
      exact h0
theorem kX5_nextToken {ε : gE5} (hE : gEnv ε) (N : Nat) : gCtr ε yX5_nextToken cX5_nextToken 2 none 1 20 gyT (fX5_nextToken N) :=
  gCtr_of hE.1 (by decide) (fun γ G hb ho hy hR he hr => fX5_nextToken_s0 N G hb ho hy hR he hr hE)

set_option maxRecDepth 100000 in
set_option maxHeartbeats 4000000 in
theorem fX5_isSemicolon_s0 {γ : gG} {cs ss : Nat} {ε : gE5} (N : Nat) (G : gOK γ) (hb : gcc γ = cX5_isSemicolon) (ho : gow γ = RX5) (hy : gly γ = gyT) (hR : grm γ = { frames := 0, cells := 0, slots := 0, locals := 0 }) (he : genv γ = ε) (hr : grt γ = (some .boolean)) (hE : gEnv ε) : gSm γ cs ss 0 (fX5_isSemicolon_k0 N) := by
  unfold fX5_isSemicolon_k0
  refine sm_aload_n (pc := 0) G hb (by decide +kernel : decode cX5_isSemicolon 0 = .ok (.aload_n 0, 1)) rfl ?_
  refine sm_get (pc := 1) (ci := 5) (j := 4) (N := 9) (T := TX5) G hb ho hy rfl (by decide) gin_5 gw1_233 (by decide +kernel : decode cX5_isSemicolon 1 = .ok (.getfield 51, 3)) ?_
  refine sm_iconst (pc := 4) G hb (by decide +kernel : decode cX5_isSemicolon 4 = .ok (.iconst 3, 1)) (by decide) ?_
  refine sm_icmp_ne (pc := 5) (tgt := 21) G hb (by decide +kernel : decode cX5_isSemicolon 5 = .ok (.if_icmp .ne 16, 3)) (by decide) ?_ ?_
  · skip
    refine sm_iconst (pc := 21) G hb (by decide +kernel : decode cX5_isSemicolon 21 = .ok (.iconst 0, 1)) (by decide) ?_
    exact sm_zret (pc := 22) G hb (by decide +kernel : decode cX5_isSemicolon 22 = .ok (.ireturn, 1)) hr
  · skip
    refine sm_aload_n (pc := 8) G hb (by decide +kernel : decode cX5_isSemicolon 8 = .ok (.aload_n 0, 1)) rfl ?_
    refine sm_get (pc := 9) (ci := 5) (j := 6) (N := 9) (T := TX5) G hb ho hy rfl (by decide) gin_5 gw1_235 (by decide +kernel : decode cX5_isSemicolon 9 = .ok (.getfield 54, 3)) ?_
    refine sm_bipush (pc := 12) G hb (by decide +kernel : decode cX5_isSemicolon 12 = .ok (.bipush 59, 2)) (by decide) ?_
    refine sm_icmp_ne (pc := 14) (tgt := 21) G hb (by decide +kernel : decode cX5_isSemicolon 14 = .ok (.if_icmp .ne 7, 3)) (by decide) ?_ ?_
    · skip
      refine sm_iconst (pc := 21) G hb (by decide +kernel : decode cX5_isSemicolon 21 = .ok (.iconst 0, 1)) (by decide) ?_
      exact sm_zret (pc := 22) G hb (by decide +kernel : decode cX5_isSemicolon 22 = .ok (.ireturn, 1)) hr
    · skip
      refine sm_iconst (pc := 17) G hb (by decide +kernel : decode cX5_isSemicolon 17 = .ok (.iconst 1, 1)) (by decide) ?_
      refine sm_goto (pc := 18) (tgt := 22) G hb (by decide +kernel : decode cX5_isSemicolon 18 = .ok (.goto 4, 3)) (by decide) ?_
      exact sm_zret (pc := 22) G hb (by decide +kernel : decode cX5_isSemicolon 22 = .ok (.ireturn, 1)) hr
theorem kX5_isSemicolon {ε : gE5} (hE : gEnv ε) (N : Nat) : gCtr ε yX5_isSemicolon cX5_isSemicolon 1 (some .boolean) 0 0 gyT (fX5_isSemicolon N) :=
  gCtr_of hE.1 (by decide) (fun γ G hb ho hy hR he hr => fX5_isSemicolon_s0 N G hb ho hy hR he hr hE)

set_option maxRecDepth 100000 in
set_option maxHeartbeats 4000000 in
theorem fX5_isNumber_s0 {γ : gG} {cs ss : Nat} {ε : gE5} (N : Nat) (G : gOK γ) (hb : gcc γ = cX5_isNumber) (ho : gow γ = RX5) (hy : gly γ = gyT) (hR : grm γ = { frames := 0, cells := 0, slots := 0, locals := 0 }) (he : genv γ = ε) (hr : grt γ = (some .boolean)) (hE : gEnv ε) : gSm γ cs ss 0 (fX5_isNumber_k0 N) := by
  unfold fX5_isNumber_k0
  refine sm_aload_n (pc := 0) G hb (by decide +kernel : decode cX5_isNumber 0 = .ok (.aload_n 0, 1)) rfl ?_
  refine sm_get (pc := 1) (ci := 5) (j := 4) (N := 9) (T := TX5) G hb ho hy rfl (by decide) gin_5 gw1_233 (by decide +kernel : decode cX5_isNumber 1 = .ok (.getfield 51, 3)) ?_
  refine sm_iconst (pc := 4) G hb (by decide +kernel : decode cX5_isNumber 4 = .ok (.iconst 2, 1)) (by decide) ?_
  refine sm_icmp_ne (pc := 5) (tgt := 28) G hb (by decide +kernel : decode cX5_isNumber 5 = .ok (.if_icmp .ne 23, 3)) (by decide) ?_ ?_
  · skip
    refine sm_iconst (pc := 28) G hb (by decide +kernel : decode cX5_isNumber 28 = .ok (.iconst 0, 1)) (by decide) ?_
    exact sm_zret (pc := 29) G hb (by decide +kernel : decode cX5_isNumber 29 = .ok (.ireturn, 1)) hr
  · skip
    refine sm_aload_n (pc := 8) G hb (by decide +kernel : decode cX5_isNumber 8 = .ok (.aload_n 0, 1)) rfl ?_
    refine sm_get (pc := 9) (ci := 5) (j := 6) (N := 9) (T := TX5) G hb ho hy rfl (by decide) gin_5 gw1_235 (by decide +kernel : decode cX5_isNumber 9 = .ok (.getfield 54, 3)) ?_
    refine sm_iload_n (pc := 12) G hb (by decide +kernel : decode cX5_isNumber 12 = .ok (.iload_n 1, 1)) rfl ?_
    refine sm_icmp_lt (pc := 13) (tgt := 28) G hb (by decide +kernel : decode cX5_isNumber 13 = .ok (.if_icmp .lt 15, 3)) (by decide) ?_ ?_
    · skip
      refine sm_iconst (pc := 28) G hb (by decide +kernel : decode cX5_isNumber 28 = .ok (.iconst 0, 1)) (by decide) ?_
      exact sm_zret (pc := 29) G hb (by decide +kernel : decode cX5_isNumber 29 = .ok (.ireturn, 1)) hr
    · skip
      refine sm_aload_n (pc := 16) G hb (by decide +kernel : decode cX5_isNumber 16 = .ok (.aload_n 0, 1)) rfl ?_
      refine sm_get (pc := 17) (ci := 5) (j := 6) (N := 9) (T := TX5) G hb ho hy rfl (by decide) gin_5 gw1_235 (by decide +kernel : decode cX5_isNumber 17 = .ok (.getfield 54, 3)) ?_
      refine sm_iload_n (pc := 20) G hb (by decide +kernel : decode cX5_isNumber 20 = .ok (.iload_n 2, 1)) rfl ?_
      refine sm_icmp_gt (pc := 21) (tgt := 28) G hb (by decide +kernel : decode cX5_isNumber 21 = .ok (.if_icmp .gt 7, 3)) (by decide) ?_ ?_
      · skip
        refine sm_iconst (pc := 28) G hb (by decide +kernel : decode cX5_isNumber 28 = .ok (.iconst 0, 1)) (by decide) ?_
        exact sm_zret (pc := 29) G hb (by decide +kernel : decode cX5_isNumber 29 = .ok (.ireturn, 1)) hr
      · skip
        refine sm_iconst (pc := 24) G hb (by decide +kernel : decode cX5_isNumber 24 = .ok (.iconst 1, 1)) (by decide) ?_
        refine sm_goto (pc := 25) (tgt := 29) G hb (by decide +kernel : decode cX5_isNumber 25 = .ok (.goto 4, 3)) (by decide) ?_
        exact sm_zret (pc := 29) G hb (by decide +kernel : decode cX5_isNumber 29 = .ok (.ireturn, 1)) hr
theorem kX5_isNumber {ε : gE5} (hE : gEnv ε) (N : Nat) : gCtr ε yX5_isNumber cX5_isNumber 3 (some .boolean) 0 0 gyT (fX5_isNumber N) :=
  gCtr_of hE.1 (by decide) (fun γ G hb ho hy hR he hr => fX5_isNumber_s0 N G hb ho hy hR he hr hE)

set_option maxRecDepth 100000 in
set_option maxHeartbeats 4000000 in
theorem fX5_isWord_s28 {γ : gG} {cs ss : Nat} {ε : gE5} (N : Nat) (G : gOK γ) (hb : gcc γ = cX5_isWord) (ho : gow γ = RX5) (hy : gly γ = gyT) (hR : grm γ = { frames := 4, cells := 0, slots := 0, locals := 85 }) (he : genv γ = ε) (hr : grt γ = (some .boolean)) (hE : gEnv ε) : gSm γ cs ss 28 (fX5_isWord_k28 N) := by
  unfold fX5_isWord_k28
  refine sm_lp (fun K28 h28 => ?_) N
  unfold fX5_isWord_b28
  refine sm_iload_n (pc := 28) G hb (by decide +kernel : decode cX5_isWord 28 = .ok (.iload_n 2, 1)) rfl ?_
  refine sm_aload_n (pc := 29) G hb (by decide +kernel : decode cX5_isWord 29 = .ok (.aload_n 1, 1)) rfl ?_
  refine sm_mono (cae_sub gI_sub) (sm_calle (pc := 30) G hb ho he hE 1 (kJS_length hE N) (by rw [hR]; exact ⟨by decide, by decide⟩) (by decide +kernel) gw2_149 gw2_150 gw2_151 gw1_17 gw2_152 (by decide +kernel : decode cX5_isWord 30 = .ok (.invokevirtual 61, 3)) ?_)
  refine sm_icmp_ge (pc := 33) (tgt := 76) G hb (by decide +kernel : decode cX5_isWord 33 = .ok (.if_icmp .ge 43, 3)) (by decide) ?_ ?_
  · skip
    refine sm_iconst (pc := 76) G hb (by decide +kernel : decode cX5_isWord 76 = .ok (.iconst 1, 1)) (by decide) ?_
    exact sm_zret (pc := 77) G hb (by decide +kernel : decode cX5_isWord 77 = .ok (.ireturn, 1)) hr
  · skip
    refine sm_aload_n (pc := 36) G hb (by decide +kernel : decode cX5_isWord 36 = .ok (.aload_n 0, 1)) rfl ?_
    refine sm_get (pc := 37) (ci := 5) (j := 5) (N := 9) (T := TX5) G hb ho hy rfl (by decide) gin_5 gw1_234 (by decide +kernel : decode cX5_isWord 37 = .ok (.getfield 42, 3)) ?_
    refine sm_iload_n (pc := 40) G hb (by decide +kernel : decode cX5_isWord 40 = .ok (.iload_n 2, 1)) rfl ?_
    refine sm_iadd (pc := 41) G hb (by decide +kernel : decode cX5_isWord 41 = .ok (.iadd, 1)) ?_
    refine sm_aload_n (pc := 42) G hb (by decide +kernel : decode cX5_isWord 42 = .ok (.aload_n 0, 1)) rfl ?_
    refine sm_get (pc := 43) (ci := 5) (j := 2) (N := 9) (T := TX5) G hb ho hy rfl (by decide) gin_5 gw1_230 (by decide +kernel : decode cX5_isWord 43 = .ok (.getfield 22, 3)) ?_
    refine sm_icmp_ge (pc := 46) (tgt := 76) G hb (by decide +kernel : decode cX5_isWord 46 = .ok (.if_icmp .ge 30, 3)) (by decide) ?_ ?_
    · skip
      refine sm_iconst (pc := 76) G hb (by decide +kernel : decode cX5_isWord 76 = .ok (.iconst 1, 1)) (by decide) ?_
      exact sm_zret (pc := 77) G hb (by decide +kernel : decode cX5_isWord 77 = .ok (.ireturn, 1)) hr
    · skip
      refine sm_aload_n (pc := 49) G hb (by decide +kernel : decode cX5_isWord 49 = .ok (.aload_n 0, 1)) rfl ?_
      refine sm_get (pc := 50) (ci := 5) (j := 0) (N := 9) (T := TX5) G hb ho hy rfl (by decide) gin_5 gw1_227 (by decide +kernel : decode cX5_isWord 50 = .ok (.getfield 9, 3)) ?_
      refine sm_aload_n (pc := 53) G hb (by decide +kernel : decode cX5_isWord 53 = .ok (.aload_n 0, 1)) rfl ?_
      refine sm_get (pc := 54) (ci := 5) (j := 5) (N := 9) (T := TX5) G hb ho hy rfl (by decide) gin_5 gw1_234 (by decide +kernel : decode cX5_isWord 54 = .ok (.getfield 42, 3)) ?_
      refine sm_iload_n (pc := 57) G hb (by decide +kernel : decode cX5_isWord 57 = .ok (.iload_n 2, 1)) rfl ?_
      refine sm_iadd (pc := 58) G hb (by decide +kernel : decode cX5_isWord 58 = .ok (.iadd, 1)) ?_
      refine sm_iald (pc := 59) G hb hy (by decide +kernel : decode cX5_isWord 59 = .ok (.iaload, 1)) ?_
      refine sm_aload_n (pc := 60) G hb (by decide +kernel : decode cX5_isWord 60 = .ok (.aload_n 1, 1)) rfl ?_
      refine sm_iload_n (pc := 61) G hb (by decide +kernel : decode cX5_isWord 61 = .ok (.iload_n 2, 1)) rfl ?_
      refine sm_mono (cae_sub gI_sub) (sm_calle (pc := 62) G hb ho he hE 2 (kJS_charAt hE N) (by rw [hR]; exact ⟨by decide, by decide⟩) (by decide +kernel) gw2_159 gw2_160 gw2_161 gw1_17 gw2_162 (by decide +kernel : decode cX5_isWord 62 = .ok (.invokevirtual 66, 3)) ?_)
      refine sm_icmp_eq (pc := 65) (tgt := 70) G hb (by decide +kernel : decode cX5_isWord 65 = .ok (.if_icmp .eq 5, 3)) (by decide) ?_ ?_
      · skip
        refine sm_iinc (pc := 70) G hb (by decide +kernel : decode cX5_isWord 70 = .ok (.iinc 2 1, 3)) (by decide) ?_
        refine sm_goto (pc := 73) (tgt := 28) G hb (by decide +kernel : decode cX5_isWord 73 = .ok (.goto (-45), 3)) (by decide) ?_
        refine sm_mask ?_
        exact h28
      · skip
        refine sm_iconst (pc := 68) G hb (by decide +kernel : decode cX5_isWord 68 = .ok (.iconst 0, 1)) (by decide) ?_
        exact sm_zret (pc := 69) G hb (by decide +kernel : decode cX5_isWord 69 = .ok (.ireturn, 1)) hr
set_option maxRecDepth 100000 in
set_option maxHeartbeats 4000000 in
theorem fX5_isWord_s0 {γ : gG} {cs ss : Nat} {ε : gE5} (N : Nat) (G : gOK γ) (hb : gcc γ = cX5_isWord) (ho : gow γ = RX5) (hy : gly γ = gyT) (hR : grm γ = { frames := 4, cells := 0, slots := 0, locals := 85 }) (he : genv γ = ε) (hr : grt γ = (some .boolean)) (hE : gEnv ε) : gSm γ cs ss 0 (fX5_isWord_k0 N) := by
  unfold fX5_isWord_k0
  refine sm_aload_n (pc := 0) G hb (by decide +kernel : decode cX5_isWord 0 = .ok (.aload_n 0, 1)) rfl ?_
  refine sm_get (pc := 1) (ci := 5) (j := 4) (N := 9) (T := TX5) G hb ho hy rfl (by decide) gin_5 gw1_233 (by decide +kernel : decode cX5_isWord 1 = .ok (.getfield 51, 3)) ?_
  refine sm_iconst (pc := 4) G hb (by decide +kernel : decode cX5_isWord 4 = .ok (.iconst 1, 1)) (by decide) ?_
  refine sm_icmp_ne (pc := 5) (tgt := 24) G hb (by decide +kernel : decode cX5_isWord 5 = .ok (.if_icmp .ne 19, 3)) (by decide) ?_ ?_
  · skip
    refine sm_iconst (pc := 24) G hb (by decide +kernel : decode cX5_isWord 24 = .ok (.iconst 0, 1)) (by decide) ?_
    exact sm_zret (pc := 25) G hb (by decide +kernel : decode cX5_isWord 25 = .ok (.ireturn, 1)) hr
  · skip
    refine sm_aload_n (pc := 8) G hb (by decide +kernel : decode cX5_isWord 8 = .ok (.aload_n 0, 1)) rfl ?_
    refine sm_get (pc := 9) (ci := 5) (j := 3) (N := 9) (T := TX5) G hb ho hy rfl (by decide) gin_5 gw1_232 (by decide +kernel : decode cX5_isWord 9 = .ok (.getfield 26, 3)) ?_
    refine sm_aload_n (pc := 12) G hb (by decide +kernel : decode cX5_isWord 12 = .ok (.aload_n 0, 1)) rfl ?_
    refine sm_get (pc := 13) (ci := 5) (j := 5) (N := 9) (T := TX5) G hb ho hy rfl (by decide) gin_5 gw1_234 (by decide +kernel : decode cX5_isWord 13 = .ok (.getfield 42, 3)) ?_
    refine sm_isub (pc := 16) G hb (by decide +kernel : decode cX5_isWord 16 = .ok (.isub, 1)) ?_
    refine sm_aload_n (pc := 17) G hb (by decide +kernel : decode cX5_isWord 17 = .ok (.aload_n 1, 1)) rfl ?_
    refine sm_mono (cae_sub gI_sub) (sm_calle (pc := 18) G hb ho he hE 1 (kJS_length hE N) (by rw [hR]; exact ⟨by decide, by decide⟩) (by decide +kernel) gw2_149 gw2_150 gw2_151 gw1_17 gw2_152 (by decide +kernel : decode cX5_isWord 18 = .ok (.invokevirtual 61, 3)) ?_)
    refine sm_icmp_eq (pc := 21) (tgt := 26) G hb (by decide +kernel : decode cX5_isWord 21 = .ok (.if_icmp .eq 5, 3)) (by decide) ?_ ?_
    · skip
      refine sm_iconst (pc := 26) G hb (by decide +kernel : decode cX5_isWord 26 = .ok (.iconst 0, 1)) (by decide) ?_
      refine sm_istore_n (pc := 27) G hb (by decide +kernel : decode cX5_isWord 27 = .ok (.istore_n 2, 1)) rfl ?_
      refine sm_mask ?_
      exact fX5_isWord_s28 N G hb ho hy hR he hr hE
    · skip
      refine sm_iconst (pc := 24) G hb (by decide +kernel : decode cX5_isWord 24 = .ok (.iconst 0, 1)) (by decide) ?_
      exact sm_zret (pc := 25) G hb (by decide +kernel : decode cX5_isWord 25 = .ok (.ireturn, 1)) hr
theorem kX5_isWord {ε : gE5} (hE : gEnv ε) (N : Nat) : gCtr ε yX5_isWord cX5_isWord 3 (some .boolean) 4 85 gyT (fX5_isWord N) :=
  gCtr_of hE.1 (by decide) (fun γ G hb ho hy hR he hr => fX5_isWord_s0 N G hb ho hy hR he hr hE)

set_option maxRecDepth 100000 in
set_option maxHeartbeats 4000000 in
theorem fX5_readNodes_s22 {γ : gG} {cs ss : Nat} {ε : gE5} (N : Nat) (G : gOK γ) (hb : gcc γ = cX5_readNodes) (ho : gow γ = RX5) (hy : gly γ = gyT) (hR : grm γ = { frames := 5, cells := 0, slots := 0, locals := 107 }) (he : genv γ = ε) (hr : grt γ = (some .boolean)) (hE : gEnv ε) : gSm γ cs ss 22 (fX5_readNodes_k22 N) := by
  unfold fX5_readNodes_k22
  refine sm_if_ne (pc := 22) (tgt := 27) G hb (by decide +kernel : decode cX5_readNodes 22 = .ok (.ifCond .ne 5, 3)) (by decide) ?_ ?_
  · skip
    refine sm_aload_n (pc := 27) G hb (by decide +kernel : decode cX5_readNodes 27 = .ok (.aload_n 0, 1)) rfl ?_
    refine sm_get (pc := 28) (ci := 5) (j := 1) (N := 9) (T := TX5) G hb ho hy rfl (by decide) gin_5 gw1_228 (by decide +kernel : decode cX5_readNodes 28 = .ok (.getfield 18, 3)) ?_
    refine sm_aload_n (pc := 31) G hb (by decide +kernel : decode cX5_readNodes 31 = .ok (.aload_n 0, 1)) rfl ?_
    refine sm_get (pc := 32) (ci := 5) (j := 6) (N := 9) (T := TX5) G hb ho hy rfl (by decide) gin_5 gw1_235 (by decide +kernel : decode cX5_readNodes 32 = .ok (.getfield 54, 3)) ?_
    refine sm_mono (cav_sub gV_sub) (sm_callV (pc := 35) (N := 11) (T := TX2) (C := RX2) G hb ho hy he hE.1 2 [2, 3, 4, 5, 6, 7, 8, 9, 10] (kX2_clear hE N) (gCo_of (by decide +kernel)) (by rw [hR]; exact ⟨by decide, by decide⟩) rfl rfl (by decide +kernel) gw2_201 gw2_75 gw2_76 gw1_3 gw2_77 (by decide +kernel : decode cX5_readNodes 35 = .ok (.invokevirtual 79, 3)) ?_)
    refine sm_aload_n (pc := 38) G hb (by decide +kernel : decode cX5_readNodes 38 = .ok (.aload_n 0, 1)) rfl ?_
    refine sm_mono (cav_sub gV_sub) (sm_callV (pc := 39) (N := 9) (T := TX5) (C := RX5) G hb ho hy he hE.1 1 [0, 1, 2, 3, 4, 5, 6, 7, 8, 9, 10] (kX5_nextToken hE N) (gCo_of (by decide +kernel)) (by rw [hR]; exact ⟨by decide, by decide⟩) rfl rfl (by decide +kernel) gw2_133 gw2_135 gw0_1 gw1_6 gw2_136 (by decide +kernel : decode cX5_readNodes 39 = .ok (.invokevirtual 35, 3)) ?_)
    refine sm_iconst (pc := 42) G hb (by decide +kernel : decode cX5_readNodes 42 = .ok (.iconst 1, 1)) (by decide) ?_
    exact sm_zret (pc := 43) G hb (by decide +kernel : decode cX5_readNodes 43 = .ok (.ireturn, 1)) hr
  · skip
    refine sm_iconst (pc := 25) G hb (by decide +kernel : decode cX5_readNodes 25 = .ok (.iconst 0, 1)) (by decide) ?_
    exact sm_zret (pc := 26) G hb (by decide +kernel : decode cX5_readNodes 26 = .ok (.ireturn, 1)) hr
set_option maxRecDepth 100000 in
set_option maxHeartbeats 4000000 in
theorem fX5_readNodes_s0 {γ : gG} {cs ss : Nat} {ε : gE5} (N : Nat) (G : gOK γ) (hb : gcc γ = cX5_readNodes) (ho : gow γ = RX5) (hy : gly γ = gyT) (hR : grm γ = { frames := 5, cells := 0, slots := 0, locals := 107 }) (he : genv γ = ε) (hr : grt γ = (some .boolean)) (hE : gEnv ε) : gSm γ cs ss 0 (fX5_readNodes_k0 N) := by
  unfold fX5_readNodes_k0
  refine sm_aload_n (pc := 0) G hb (by decide +kernel : decode cX5_readNodes 0 = .ok (.aload_n 0, 1)) rfl ?_
  refine sm_ldcs (pc := 1) (i := 0) (tx := "net") G hb ho he hE (List.mem_of_getElem? (i := 0) rfl) (by decide +kernel : decode cX5_readNodes 1 = .ok (.ldc 70, 2)) ?_
  refine sm_mono (cav_sub gI_sub) (sm_callV (pc := 3) (N := 9) (T := TX5) (C := RX5) G hb ho hy he hE.1 2 [0, 1, 2, 3, 4, 5, 6, 7, 8, 9, 10] (kX5_isWord hE N) (gCo_of (by decide +kernel)) (by rw [hR]; exact ⟨by decide, by decide⟩) rfl rfl (by decide +kernel) gw2_145 gw2_147 gw0_3 gw1_6 gw2_148 (by decide +kernel : decode cX5_readNodes 3 = .ok (.invokevirtual 71, 3)) ?_)
  refine sm_if_ne (pc := 6) (tgt := 11) G hb (by decide +kernel : decode cX5_readNodes 6 = .ok (.ifCond .ne 5, 3)) (by decide) ?_ ?_
  · skip
    refine sm_aload_n (pc := 11) G hb (by decide +kernel : decode cX5_readNodes 11 = .ok (.aload_n 0, 1)) rfl ?_
    refine sm_mono (cav_sub gV_sub) (sm_callV (pc := 12) (N := 9) (T := TX5) (C := RX5) G hb ho hy he hE.1 1 [0, 1, 2, 3, 4, 5, 6, 7, 8, 9, 10] (kX5_nextToken hE N) (gCo_of (by decide +kernel)) (by rw [hR]; exact ⟨by decide, by decide⟩) rfl rfl (by decide +kernel) gw2_133 gw2_135 gw0_1 gw1_6 gw2_136 (by decide +kernel : decode cX5_readNodes 12 = .ok (.invokevirtual 35, 3)) ?_)
    refine sm_aload_n (pc := 15) G hb (by decide +kernel : decode cX5_readNodes 15 = .ok (.aload_n 0, 1)) rfl ?_
    refine sm_iconst (pc := 16) G hb (by decide +kernel : decode cX5_readNodes 16 = .ok (.iconst 2, 1)) (by decide) ?_
    refine sm_bipush (pc := 17) G hb (by decide +kernel : decode cX5_readNodes 17 = .ok (.bipush 10, 2)) (by decide) ?_
    refine sm_mono (cav_sub gI_sub) (sm_callV (pc := 19) (N := 9) (T := TX5) (C := RX5) G hb ho hy he hE.1 3 [0, 1, 2, 3, 4, 5, 6, 7, 8, 9, 10] (kX5_isNumber hE N) (gCo_of (by decide +kernel)) (by rw [hR]; exact ⟨by decide, by decide⟩) rfl rfl (by decide +kernel) gw2_197 gw2_199 gw0_4 gw1_6 gw2_200 (by decide +kernel : decode cX5_readNodes 19 = .ok (.invokevirtual 75, 3)) ?_)
    refine sm_mask ?_
    exact fX5_readNodes_s22 N G hb ho hy hR he hr hE
  · skip
    refine sm_iconst (pc := 9) G hb (by decide +kernel : decode cX5_readNodes 9 = .ok (.iconst 0, 1)) (by decide) ?_
    exact sm_zret (pc := 10) G hb (by decide +kernel : decode cX5_readNodes 10 = .ok (.ireturn, 1)) hr
theorem kX5_readNodes {ε : gE5} (hE : gEnv ε) (N : Nat) : gCtr ε yX5_readNodes cX5_readNodes 1 (some .boolean) 5 107 gyT (fX5_readNodes N) :=
  gCtr_of hE.1 (by decide) (fun γ G hb ho hy hR he hr => fX5_readNodes_s0 N G hb ho hy hR he hr hE)

set_option maxRecDepth 100000 in
set_option maxHeartbeats 4000000 in
theorem fX5_readLink_s98 {γ : gG} {cs ss : Nat} {ε : gE5} (N : Nat) (G : gOK γ) (hb : gcc γ = cX5_readLink) (ho : gow γ = RX5) (hy : gly γ = gyT) (hR : grm γ = { frames := 3, cells := 0, slots := 0, locals := 70 }) (he : genv γ = ε) (hr : grt γ = (some .boolean)) (hE : gEnv ε) : gSm γ cs ss 98 (fX5_readLink_k98 N) := by
  unfold fX5_readLink_k98
  refine sm_aload_n (pc := 98) G hb (by decide +kernel : decode cX5_readLink 98 = .ok (.aload_n 0, 1)) rfl ?_
  refine sm_iconst (pc := 99) G hb (by decide +kernel : decode cX5_readLink 99 = .ok (.iconst 1, 1)) (by decide) ?_
  refine sm_iconst (pc := 100) G hb (by decide +kernel : decode cX5_readLink 100 = .ok (.iconst 5, 1)) (by decide) ?_
  refine sm_mono (cav_sub gI_sub) (sm_callV (pc := 101) (N := 9) (T := TX5) (C := RX5) G hb ho hy he hE.1 3 [0, 1, 2, 3, 4, 5, 6, 7, 8, 9, 10] (kX5_isNumber hE N) (gCo_of (by decide +kernel)) (by rw [hR]; exact ⟨by decide, by decide⟩) rfl rfl (by decide +kernel) gw2_197 gw2_199 gw0_4 gw1_6 gw2_200 (by decide +kernel : decode cX5_readLink 101 = .ok (.invokevirtual 75, 3)) ?_)
  refine sm_if_ne (pc := 104) (tgt := 109) G hb (by decide +kernel : decode cX5_readLink 104 = .ok (.ifCond .ne 5, 3)) (by decide) ?_ ?_
  · skip
    refine sm_aload_n (pc := 109) G hb (by decide +kernel : decode cX5_readLink 109 = .ok (.aload_n 0, 1)) rfl ?_
    refine sm_get (pc := 110) (ci := 5) (j := 1) (N := 9) (T := TX5) G hb ho hy rfl (by decide) gin_5 gw1_228 (by decide +kernel : decode cX5_readLink 110 = .ok (.getfield 18, 3)) ?_
    refine sm_iload_n (pc := 113) G hb (by decide +kernel : decode cX5_readLink 113 = .ok (.iload_n 1, 1)) rfl ?_
    refine sm_iload_n (pc := 114) G hb (by decide +kernel : decode cX5_readLink 114 = .ok (.iload_n 2, 1)) rfl ?_
    refine sm_aload_n (pc := 115) G hb (by decide +kernel : decode cX5_readLink 115 = .ok (.aload_n 0, 1)) rfl ?_
    refine sm_get (pc := 116) (ci := 5) (j := 6) (N := 9) (T := TX5) G hb ho hy rfl (by decide) gin_5 gw1_235 (by decide +kernel : decode cX5_readLink 116 = .ok (.getfield 54, 3)) ?_
    refine sm_mono (cav_sub gV_sub) (sm_callV (pc := 119) (N := 11) (T := TX2) (C := RX2) G hb ho hy he hE.1 4 [2, 3, 4, 5, 6, 7, 8, 9, 10] (kX2_putLink hE N) (gCo_of (by decide +kernel)) (by rw [hR]; exact ⟨by decide, by decide⟩) rfl rfl (by decide +kernel) gw2_219 gw2_85 gw2_86 gw1_3 gw2_87 (by decide +kernel : decode cX5_readLink 119 = .ok (.invokevirtual 132, 3)) ?_)
    refine sm_aload_n (pc := 122) G hb (by decide +kernel : decode cX5_readLink 122 = .ok (.aload_n 0, 1)) rfl ?_
    refine sm_mono (cav_sub gV_sub) (sm_callV (pc := 123) (N := 9) (T := TX5) (C := RX5) G hb ho hy he hE.1 1 [0, 1, 2, 3, 4, 5, 6, 7, 8, 9, 10] (kX5_nextToken hE N) (gCo_of (by decide +kernel)) (by rw [hR]; exact ⟨by decide, by decide⟩) rfl rfl (by decide +kernel) gw2_133 gw2_135 gw0_1 gw1_6 gw2_136 (by decide +kernel : decode cX5_readLink 123 = .ok (.invokevirtual 35, 3)) ?_)
    refine sm_iconst (pc := 126) G hb (by decide +kernel : decode cX5_readLink 126 = .ok (.iconst 1, 1)) (by decide) ?_
    exact sm_zret (pc := 127) G hb (by decide +kernel : decode cX5_readLink 127 = .ok (.ireturn, 1)) hr
  · skip
    refine sm_iconst (pc := 107) G hb (by decide +kernel : decode cX5_readLink 107 = .ok (.iconst 0, 1)) (by decide) ?_
    exact sm_zret (pc := 108) G hb (by decide +kernel : decode cX5_readLink 108 = .ok (.ireturn, 1)) hr
set_option maxRecDepth 100000 in
set_option maxHeartbeats 4000000 in
theorem fX5_readLink_s46 {γ : gG} {cs ss : Nat} {ε : gE5} (N : Nat) (G : gOK γ) (hb : gcc γ = cX5_readLink) (ho : gow γ = RX5) (hy : gly γ = gyT) (hR : grm γ = { frames := 3, cells := 0, slots := 0, locals := 70 }) (he : genv γ = ε) (hr : grt γ = (some .boolean)) (hE : gEnv ε) : gSm γ cs ss 46 (fX5_readLink_k46 N) := by
  unfold fX5_readLink_k46
  refine sm_aload_n (pc := 46) G hb (by decide +kernel : decode cX5_readLink 46 = .ok (.aload_n 0, 1)) rfl ?_
  refine sm_iconst (pc := 47) G hb (by decide +kernel : decode cX5_readLink 47 = .ok (.iconst 0, 1)) (by decide) ?_
  refine sm_aload_n (pc := 48) G hb (by decide +kernel : decode cX5_readLink 48 = .ok (.aload_n 0, 1)) rfl ?_
  refine sm_get (pc := 49) (ci := 5) (j := 1) (N := 9) (T := TX5) G hb ho hy rfl (by decide) gin_5 gw1_228 (by decide +kernel : decode cX5_readLink 49 = .ok (.getfield 18, 3)) ?_
  refine sm_get (pc := 52) (ci := 2) (j := 0) (N := 11) (T := TX2) G hb ho hy rfl (by decide) gin_2 gw1_48 (by decide +kernel : decode cX5_readLink 52 = .ok (.getfield 125, 3)) ?_
  refine sm_iconst (pc := 55) G hb (by decide +kernel : decode cX5_readLink 55 = .ok (.iconst 1, 1)) (by decide) ?_
  refine sm_isub (pc := 56) G hb (by decide +kernel : decode cX5_readLink 56 = .ok (.isub, 1)) ?_
  refine sm_mono (cav_sub gI_sub) (sm_callV (pc := 57) (N := 9) (T := TX5) (C := RX5) G hb ho hy he hE.1 3 [0, 1, 2, 3, 4, 5, 6, 7, 8, 9, 10] (kX5_isNumber hE N) (gCo_of (by decide +kernel)) (by rw [hR]; exact ⟨by decide, by decide⟩) rfl rfl (by decide +kernel) gw2_197 gw2_199 gw0_4 gw1_6 gw2_200 (by decide +kernel : decode cX5_readLink 57 = .ok (.invokevirtual 75, 3)) ?_)
  refine sm_if_eq (pc := 60) (tgt := 87) G hb (by decide +kernel : decode cX5_readLink 60 = .ok (.ifCond .eq 27, 3)) (by decide) ?_ ?_
  · skip
    refine sm_iconst (pc := 87) G hb (by decide +kernel : decode cX5_readLink 87 = .ok (.iconst 0, 1)) (by decide) ?_
    exact sm_zret (pc := 88) G hb (by decide +kernel : decode cX5_readLink 88 = .ok (.ireturn, 1)) hr
  · skip
    refine sm_aload_n (pc := 63) G hb (by decide +kernel : decode cX5_readLink 63 = .ok (.aload_n 0, 1)) rfl ?_
    refine sm_get (pc := 64) (ci := 5) (j := 6) (N := 9) (T := TX5) G hb ho hy rfl (by decide) gin_5 gw1_235 (by decide +kernel : decode cX5_readLink 64 = .ok (.getfield 54, 3)) ?_
    refine sm_iload_n (pc := 67) G hb (by decide +kernel : decode cX5_readLink 67 = .ok (.iload_n 1, 1)) rfl ?_
    refine sm_icmp_eq (pc := 68) (tgt := 87) G hb (by decide +kernel : decode cX5_readLink 68 = .ok (.if_icmp .eq 19, 3)) (by decide) ?_ ?_
    · skip
      refine sm_iconst (pc := 87) G hb (by decide +kernel : decode cX5_readLink 87 = .ok (.iconst 0, 1)) (by decide) ?_
      exact sm_zret (pc := 88) G hb (by decide +kernel : decode cX5_readLink 88 = .ok (.ireturn, 1)) hr
    · skip
      refine sm_aload_n (pc := 71) G hb (by decide +kernel : decode cX5_readLink 71 = .ok (.aload_n 0, 1)) rfl ?_
      refine sm_get (pc := 72) (ci := 5) (j := 1) (N := 9) (T := TX5) G hb ho hy rfl (by decide) gin_5 gw1_228 (by decide +kernel : decode cX5_readLink 72 = .ok (.getfield 18, 3)) ?_
      refine sm_iload_n (pc := 75) G hb (by decide +kernel : decode cX5_readLink 75 = .ok (.iload_n 1, 1)) rfl ?_
      refine sm_aload_n (pc := 76) G hb (by decide +kernel : decode cX5_readLink 76 = .ok (.aload_n 0, 1)) rfl ?_
      refine sm_get (pc := 77) (ci := 5) (j := 6) (N := 9) (T := TX5) G hb ho hy rfl (by decide) gin_5 gw1_235 (by decide +kernel : decode cX5_readLink 77 = .ok (.getfield 54, 3)) ?_
      refine sm_mono (cav_sub gI_sub) (sm_callV (pc := 80) (N := 11) (T := TX2) (C := RX2) G hb ho hy he hE.1 3 [2, 3, 4, 5, 6, 7, 8, 9, 10] (kX2_findLink hE N) (gCo_of (by decide +kernel)) (by rw [hR]; exact ⟨by decide, by decide⟩) rfl rfl (by decide +kernel) gw2_215 gw2_216 gw2_217 gw1_3 gw2_218 (by decide +kernel : decode cX5_readLink 80 = .ok (.invokevirtual 128, 3)) ?_)
      refine sm_iconst (pc := 83) G hb (by decide +kernel : decode cX5_readLink 83 = .ok (.iconst (-1), 1)) (by decide) ?_
      refine sm_icmp_eq (pc := 84) (tgt := 89) G hb (by decide +kernel : decode cX5_readLink 84 = .ok (.if_icmp .eq 5, 3)) (by decide) ?_ ?_
      · skip
        refine sm_aload_n (pc := 89) G hb (by decide +kernel : decode cX5_readLink 89 = .ok (.aload_n 0, 1)) rfl ?_
        refine sm_get (pc := 90) (ci := 5) (j := 6) (N := 9) (T := TX5) G hb ho hy rfl (by decide) gin_5 gw1_235 (by decide +kernel : decode cX5_readLink 90 = .ok (.getfield 54, 3)) ?_
        refine sm_istore_n (pc := 93) G hb (by decide +kernel : decode cX5_readLink 93 = .ok (.istore_n 2, 1)) rfl ?_
        refine sm_aload_n (pc := 94) G hb (by decide +kernel : decode cX5_readLink 94 = .ok (.aload_n 0, 1)) rfl ?_
        refine sm_mono (cav_sub gV_sub) (sm_callV (pc := 95) (N := 9) (T := TX5) (C := RX5) G hb ho hy he hE.1 1 [0, 1, 2, 3, 4, 5, 6, 7, 8, 9, 10] (kX5_nextToken hE N) (gCo_of (by decide +kernel)) (by rw [hR]; exact ⟨by decide, by decide⟩) rfl rfl (by decide +kernel) gw2_133 gw2_135 gw0_1 gw1_6 gw2_136 (by decide +kernel : decode cX5_readLink 95 = .ok (.invokevirtual 35, 3)) ?_)
        refine sm_mask ?_
        exact fX5_readLink_s98 N G hb ho hy hR he hr hE
      · skip
        refine sm_iconst (pc := 87) G hb (by decide +kernel : decode cX5_readLink 87 = .ok (.iconst 0, 1)) (by decide) ?_
        exact sm_zret (pc := 88) G hb (by decide +kernel : decode cX5_readLink 88 = .ok (.ireturn, 1)) hr
set_option maxRecDepth 100000 in
set_option maxHeartbeats 4000000 in
theorem fX5_readLink_s0 {γ : gG} {cs ss : Nat} {ε : gE5} (N : Nat) (G : gOK γ) (hb : gcc γ = cX5_readLink) (ho : gow γ = RX5) (hy : gly γ = gyT) (hR : grm γ = { frames := 3, cells := 0, slots := 0, locals := 70 }) (he : genv γ = ε) (hr : grt γ = (some .boolean)) (hE : gEnv ε) : gSm γ cs ss 0 (fX5_readLink_k0 N) := by
  unfold fX5_readLink_k0
  refine sm_aload_n (pc := 0) G hb (by decide +kernel : decode cX5_readLink 0 = .ok (.aload_n 0, 1)) rfl ?_
  refine sm_get (pc := 1) (ci := 5) (j := 1) (N := 9) (T := TX5) G hb ho hy rfl (by decide) gin_5 gw1_228 (by decide +kernel : decode cX5_readLink 1 = .ok (.getfield 18, 3)) ?_
  refine sm_get (pc := 4) (ci := 2) (j := 1) (N := 11) (T := TX2) G hb ho hy rfl (by decide) gin_2 gw1_55 (by decide +kernel : decode cX5_readLink 4 = .ok (.getfield 122, 3)) ?_
  refine sm_bipush (pc := 7) G hb (by decide +kernel : decode cX5_readLink 7 = .ok (.bipush 14, 2)) (by decide) ?_
  refine sm_icmp_lt (pc := 9) (tgt := 14) G hb (by decide +kernel : decode cX5_readLink 9 = .ok (.if_icmp .lt 5, 3)) (by decide) ?_ ?_
  · skip
    refine sm_aload_n (pc := 14) G hb (by decide +kernel : decode cX5_readLink 14 = .ok (.aload_n 0, 1)) rfl ?_
    refine sm_mono (cav_sub gV_sub) (sm_callV (pc := 15) (N := 9) (T := TX5) (C := RX5) G hb ho hy he hE.1 1 [0, 1, 2, 3, 4, 5, 6, 7, 8, 9, 10] (kX5_nextToken hE N) (gCo_of (by decide +kernel)) (by rw [hR]; exact ⟨by decide, by decide⟩) rfl rfl (by decide +kernel) gw2_133 gw2_135 gw0_1 gw1_6 gw2_136 (by decide +kernel : decode cX5_readLink 15 = .ok (.invokevirtual 35, 3)) ?_)
    refine sm_aload_n (pc := 18) G hb (by decide +kernel : decode cX5_readLink 18 = .ok (.aload_n 0, 1)) rfl ?_
    refine sm_iconst (pc := 19) G hb (by decide +kernel : decode cX5_readLink 19 = .ok (.iconst 0, 1)) (by decide) ?_
    refine sm_aload_n (pc := 20) G hb (by decide +kernel : decode cX5_readLink 20 = .ok (.aload_n 0, 1)) rfl ?_
    refine sm_get (pc := 21) (ci := 5) (j := 1) (N := 9) (T := TX5) G hb ho hy rfl (by decide) gin_5 gw1_228 (by decide +kernel : decode cX5_readLink 21 = .ok (.getfield 18, 3)) ?_
    refine sm_get (pc := 24) (ci := 2) (j := 0) (N := 11) (T := TX2) G hb ho hy rfl (by decide) gin_2 gw1_48 (by decide +kernel : decode cX5_readLink 24 = .ok (.getfield 125, 3)) ?_
    refine sm_iconst (pc := 27) G hb (by decide +kernel : decode cX5_readLink 27 = .ok (.iconst 1, 1)) (by decide) ?_
    refine sm_isub (pc := 28) G hb (by decide +kernel : decode cX5_readLink 28 = .ok (.isub, 1)) ?_
    refine sm_mono (cav_sub gI_sub) (sm_callV (pc := 29) (N := 9) (T := TX5) (C := RX5) G hb ho hy he hE.1 3 [0, 1, 2, 3, 4, 5, 6, 7, 8, 9, 10] (kX5_isNumber hE N) (gCo_of (by decide +kernel)) (by rw [hR]; exact ⟨by decide, by decide⟩) rfl rfl (by decide +kernel) gw2_197 gw2_199 gw0_4 gw1_6 gw2_200 (by decide +kernel : decode cX5_readLink 29 = .ok (.invokevirtual 75, 3)) ?_)
    refine sm_if_ne (pc := 32) (tgt := 37) G hb (by decide +kernel : decode cX5_readLink 32 = .ok (.ifCond .ne 5, 3)) (by decide) ?_ ?_
    · skip
      refine sm_aload_n (pc := 37) G hb (by decide +kernel : decode cX5_readLink 37 = .ok (.aload_n 0, 1)) rfl ?_
      refine sm_get (pc := 38) (ci := 5) (j := 6) (N := 9) (T := TX5) G hb ho hy rfl (by decide) gin_5 gw1_235 (by decide +kernel : decode cX5_readLink 38 = .ok (.getfield 54, 3)) ?_
      refine sm_istore_n (pc := 41) G hb (by decide +kernel : decode cX5_readLink 41 = .ok (.istore_n 1, 1)) rfl ?_
      refine sm_aload_n (pc := 42) G hb (by decide +kernel : decode cX5_readLink 42 = .ok (.aload_n 0, 1)) rfl ?_
      refine sm_mono (cav_sub gV_sub) (sm_callV (pc := 43) (N := 9) (T := TX5) (C := RX5) G hb ho hy he hE.1 1 [0, 1, 2, 3, 4, 5, 6, 7, 8, 9, 10] (kX5_nextToken hE N) (gCo_of (by decide +kernel)) (by rw [hR]; exact ⟨by decide, by decide⟩) rfl rfl (by decide +kernel) gw2_133 gw2_135 gw0_1 gw1_6 gw2_136 (by decide +kernel : decode cX5_readLink 43 = .ok (.invokevirtual 35, 3)) ?_)
      refine sm_mask ?_
      exact fX5_readLink_s46 N G hb ho hy hR he hr hE
    · skip
      refine sm_iconst (pc := 35) G hb (by decide +kernel : decode cX5_readLink 35 = .ok (.iconst 0, 1)) (by decide) ?_
      exact sm_zret (pc := 36) G hb (by decide +kernel : decode cX5_readLink 36 = .ok (.ireturn, 1)) hr
  · skip
    refine sm_iconst (pc := 12) G hb (by decide +kernel : decode cX5_readLink 12 = .ok (.iconst 0, 1)) (by decide) ?_
    exact sm_zret (pc := 13) G hb (by decide +kernel : decode cX5_readLink 13 = .ok (.ireturn, 1)) hr
theorem kX5_readLink {ε : gE5} (hE : gEnv ε) (N : Nat) : gCtr ε yX5_readLink cX5_readLink 3 (some .boolean) 3 70 gyT (fX5_readLink N) :=
  gCtr_of hE.1 (by decide) (fun γ G hb ho hy hR he hr => fX5_readLink_s0 N G hb ho hy hR he hr hE)

set_option maxRecDepth 100000 in
set_option maxHeartbeats 4000000 in
theorem fX5_readConflict_s119 {γ : gG} {cs ss : Nat} {ε : gE5} (N : Nat) (G : gOK γ) (hb : gcc γ = cX5_readConflict) (ho : gow γ = RX5) (hy : gly γ = gyT) (hR : grm γ = { frames := 2, cells := 0, slots := 0, locals := 41 }) (he : genv γ = ε) (hr : grt γ = (some .boolean)) (hE : gEnv ε) : gSm γ cs ss 119 (fX5_readConflict_k119 N) := by
  unfold fX5_readConflict_k119
  refine sm_aload_n (pc := 119) G hb (by decide +kernel : decode cX5_readConflict 119 = .ok (.aload_n 0, 1)) rfl ?_
  refine sm_mono (cav_sub gV_sub) (sm_callV (pc := 120) (N := 9) (T := TX5) (C := RX5) G hb ho hy he hE.1 1 [0, 1, 2, 3, 4, 5, 6, 7, 8, 9, 10] (kX5_nextToken hE N) (gCo_of (by decide +kernel)) (by rw [hR]; exact ⟨by decide, by decide⟩) rfl rfl (by decide +kernel) gw2_133 gw2_135 gw0_1 gw1_6 gw2_136 (by decide +kernel : decode cX5_readConflict 120 = .ok (.invokevirtual 35, 3)) ?_)
  refine sm_iconst (pc := 123) G hb (by decide +kernel : decode cX5_readConflict 123 = .ok (.iconst 1, 1)) (by decide) ?_
  exact sm_zret (pc := 124) G hb (by decide +kernel : decode cX5_readConflict 124 = .ok (.ireturn, 1)) hr
set_option maxRecDepth 100000 in
set_option maxHeartbeats 4000000 in
theorem fX5_readConflict_s64 {γ : gG} {cs ss : Nat} {ε : gE5} (N : Nat) (G : gOK γ) (hb : gcc γ = cX5_readConflict) (ho : gow γ = RX5) (hy : gly γ = gyT) (hR : grm γ = { frames := 2, cells := 0, slots := 0, locals := 41 }) (he : genv γ = ε) (hr : grt γ = (some .boolean)) (hE : gEnv ε) : gSm γ cs ss 64 (fX5_readConflict_k64 N) := by
  unfold fX5_readConflict_k64
  refine sm_aload_n (pc := 64) G hb (by decide +kernel : decode cX5_readConflict 64 = .ok (.aload_n 0, 1)) rfl ?_
  refine sm_iconst (pc := 65) G hb (by decide +kernel : decode cX5_readConflict 65 = .ok (.iconst 0, 1)) (by decide) ?_
  refine sm_aload_n (pc := 66) G hb (by decide +kernel : decode cX5_readConflict 66 = .ok (.aload_n 0, 1)) rfl ?_
  refine sm_get (pc := 67) (ci := 5) (j := 1) (N := 9) (T := TX5) G hb ho hy rfl (by decide) gin_5 gw1_228 (by decide +kernel : decode cX5_readConflict 67 = .ok (.getfield 18, 3)) ?_
  refine sm_get (pc := 70) (ci := 2) (j := 1) (N := 11) (T := TX2) G hb ho hy rfl (by decide) gin_2 gw1_55 (by decide +kernel : decode cX5_readConflict 70 = .ok (.getfield 122, 3)) ?_
  refine sm_iconst (pc := 73) G hb (by decide +kernel : decode cX5_readConflict 73 = .ok (.iconst 1, 1)) (by decide) ?_
  refine sm_isub (pc := 74) G hb (by decide +kernel : decode cX5_readConflict 74 = .ok (.isub, 1)) ?_
  refine sm_mono (cav_sub gI_sub) (sm_callV (pc := 75) (N := 9) (T := TX5) (C := RX5) G hb ho hy he hE.1 3 [0, 1, 2, 3, 4, 5, 6, 7, 8, 9, 10] (kX5_isNumber hE N) (gCo_of (by decide +kernel)) (by rw [hR]; exact ⟨by decide, by decide⟩) rfl rfl (by decide +kernel) gw2_197 gw2_199 gw0_4 gw1_6 gw2_200 (by decide +kernel : decode cX5_readConflict 75 = .ok (.invokevirtual 75, 3)) ?_)
  refine sm_if_eq (pc := 78) (tgt := 104) G hb (by decide +kernel : decode cX5_readConflict 78 = .ok (.ifCond .eq 26, 3)) (by decide) ?_ ?_
  · skip
    refine sm_iconst (pc := 104) G hb (by decide +kernel : decode cX5_readConflict 104 = .ok (.iconst 0, 1)) (by decide) ?_
    exact sm_zret (pc := 105) G hb (by decide +kernel : decode cX5_readConflict 105 = .ok (.ireturn, 1)) hr
  · skip
    refine sm_aload_n (pc := 81) G hb (by decide +kernel : decode cX5_readConflict 81 = .ok (.aload_n 0, 1)) rfl ?_
    refine sm_get (pc := 82) (ci := 5) (j := 6) (N := 9) (T := TX5) G hb ho hy rfl (by decide) gin_5 gw1_235 (by decide +kernel : decode cX5_readConflict 82 = .ok (.getfield 54, 3)) ?_
    refine sm_iload_n (pc := 85) G hb (by decide +kernel : decode cX5_readConflict 85 = .ok (.iload_n 1, 1)) rfl ?_
    refine sm_icmp_eq (pc := 86) (tgt := 104) G hb (by decide +kernel : decode cX5_readConflict 86 = .ok (.if_icmp .eq 18, 3)) (by decide) ?_ ?_
    · skip
      refine sm_iconst (pc := 104) G hb (by decide +kernel : decode cX5_readConflict 104 = .ok (.iconst 0, 1)) (by decide) ?_
      exact sm_zret (pc := 105) G hb (by decide +kernel : decode cX5_readConflict 105 = .ok (.ireturn, 1)) hr
    · skip
      refine sm_aload_n (pc := 89) G hb (by decide +kernel : decode cX5_readConflict 89 = .ok (.aload_n 0, 1)) rfl ?_
      refine sm_get (pc := 90) (ci := 5) (j := 1) (N := 9) (T := TX5) G hb ho hy rfl (by decide) gin_5 gw1_228 (by decide +kernel : decode cX5_readConflict 90 = .ok (.getfield 18, 3)) ?_
      refine sm_iload_n (pc := 93) G hb (by decide +kernel : decode cX5_readConflict 93 = .ok (.iload_n 1, 1)) rfl ?_
      refine sm_aload_n (pc := 94) G hb (by decide +kernel : decode cX5_readConflict 94 = .ok (.aload_n 0, 1)) rfl ?_
      refine sm_get (pc := 95) (ci := 5) (j := 6) (N := 9) (T := TX5) G hb ho hy rfl (by decide) gin_5 gw1_235 (by decide +kernel : decode cX5_readConflict 95 = .ok (.getfield 54, 3)) ?_
      refine sm_mono (cav_sub gI_sub) (sm_callV (pc := 98) (N := 11) (T := TX2) (C := RX2) G hb ho hy he hE.1 3 [2, 3, 4, 5, 6, 7, 8, 9, 10] (kX2_inConflict hE N) (gCo_of (by decide +kernel)) (by rw [hR]; exact ⟨by decide, by decide⟩) rfl rfl (by decide +kernel) gw2_225 gw2_226 gw2_227 gw1_3 gw2_228 (by decide +kernel : decode cX5_readConflict 98 = .ok (.invokevirtual 136, 3)) ?_)
      refine sm_if_eq (pc := 101) (tgt := 106) G hb (by decide +kernel : decode cX5_readConflict 101 = .ok (.ifCond .eq 5, 3)) (by decide) ?_ ?_
      · skip
        refine sm_aload_n (pc := 106) G hb (by decide +kernel : decode cX5_readConflict 106 = .ok (.aload_n 0, 1)) rfl ?_
        refine sm_get (pc := 107) (ci := 5) (j := 1) (N := 9) (T := TX5) G hb ho hy rfl (by decide) gin_5 gw1_228 (by decide +kernel : decode cX5_readConflict 107 = .ok (.getfield 18, 3)) ?_
        refine sm_iload_n (pc := 110) G hb (by decide +kernel : decode cX5_readConflict 110 = .ok (.iload_n 1, 1)) rfl ?_
        refine sm_aload_n (pc := 111) G hb (by decide +kernel : decode cX5_readConflict 111 = .ok (.aload_n 0, 1)) rfl ?_
        refine sm_get (pc := 112) (ci := 5) (j := 6) (N := 9) (T := TX5) G hb ho hy rfl (by decide) gin_5 gw1_235 (by decide +kernel : decode cX5_readConflict 112 = .ok (.getfield 54, 3)) ?_
        refine sm_iconst (pc := 115) G hb (by decide +kernel : decode cX5_readConflict 115 = .ok (.iconst 1, 1)) (by decide) ?_
        refine sm_mono (cav_sub gV_sub) (sm_callV (pc := 116) (N := 11) (T := TX2) (C := RX2) G hb ho hy he hE.1 4 [2, 3, 4, 5, 6, 7, 8, 9, 10] (kX2_putConflict hE N) (gCo_of (by decide +kernel)) (by rw [hR]; exact ⟨by decide, by decide⟩) rfl rfl (by decide +kernel) gw2_229 gw2_230 gw2_231 gw1_3 gw2_232 (by decide +kernel : decode cX5_readConflict 116 = .ok (.invokevirtual 139, 3)) ?_)
        refine sm_mask ?_
        exact fX5_readConflict_s119 N G hb ho hy hR he hr hE
      · skip
        refine sm_iconst (pc := 104) G hb (by decide +kernel : decode cX5_readConflict 104 = .ok (.iconst 0, 1)) (by decide) ?_
        exact sm_zret (pc := 105) G hb (by decide +kernel : decode cX5_readConflict 105 = .ok (.ireturn, 1)) hr
set_option maxRecDepth 100000 in
set_option maxHeartbeats 4000000 in
theorem fX5_readConflict_s0 {γ : gG} {cs ss : Nat} {ε : gE5} (N : Nat) (G : gOK γ) (hb : gcc γ = cX5_readConflict) (ho : gow γ = RX5) (hy : gly γ = gyT) (hR : grm γ = { frames := 2, cells := 0, slots := 0, locals := 41 }) (he : genv γ = ε) (hr : grt γ = (some .boolean)) (hE : gEnv ε) : gSm γ cs ss 0 (fX5_readConflict_k0 N) := by
  unfold fX5_readConflict_k0
  refine sm_aload_n (pc := 0) G hb (by decide +kernel : decode cX5_readConflict 0 = .ok (.aload_n 0, 1)) rfl ?_
  refine sm_get (pc := 1) (ci := 5) (j := 7) (N := 9) (T := TX5) G hb ho hy rfl (by decide) gin_5 gw1_236 (by decide +kernel : decode cX5_readConflict 1 = .ok (.getfield 29, 3)) ?_
  refine sm_bipush (pc := 4) G hb (by decide +kernel : decode cX5_readConflict 4 = .ok (.bipush 40, 2)) (by decide) ?_
  refine sm_icmp_ge (pc := 6) (tgt := 20) G hb (by decide +kernel : decode cX5_readConflict 6 = .ok (.if_icmp .ge 14, 3)) (by decide) ?_ ?_
  · skip
    refine sm_iconst (pc := 20) G hb (by decide +kernel : decode cX5_readConflict 20 = .ok (.iconst 0, 1)) (by decide) ?_
    exact sm_zret (pc := 21) G hb (by decide +kernel : decode cX5_readConflict 21 = .ok (.ireturn, 1)) hr
  · skip
    refine sm_aload_n (pc := 9) G hb (by decide +kernel : decode cX5_readConflict 9 = .ok (.aload_n 0, 1)) rfl ?_
    refine sm_get (pc := 10) (ci := 5) (j := 1) (N := 9) (T := TX5) G hb ho hy rfl (by decide) gin_5 gw1_228 (by decide +kernel : decode cX5_readConflict 10 = .ok (.getfield 18, 3)) ?_
    refine sm_get (pc := 13) (ci := 2) (j := 1) (N := 11) (T := TX2) G hb ho hy rfl (by decide) gin_2 gw1_55 (by decide +kernel : decode cX5_readConflict 13 = .ok (.getfield 122, 3)) ?_
    refine sm_iconst (pc := 16) G hb (by decide +kernel : decode cX5_readConflict 16 = .ok (.iconst 2, 1)) (by decide) ?_
    refine sm_icmp_ge (pc := 17) (tgt := 22) G hb (by decide +kernel : decode cX5_readConflict 17 = .ok (.if_icmp .ge 5, 3)) (by decide) ?_ ?_
    · skip
      refine sm_aload_n (pc := 22) G hb (by decide +kernel : decode cX5_readConflict 22 = .ok (.aload_n 0, 1)) rfl ?_
      refine sm_dup (pc := 23) G hb (by decide +kernel : decode cX5_readConflict 23 = .ok (.dup, 1)) ?_
      refine sm_get (pc := 24) (ci := 5) (j := 7) (N := 9) (T := TX5) G hb ho hy rfl (by decide) gin_5 gw1_236 (by decide +kernel : decode cX5_readConflict 24 = .ok (.getfield 29, 3)) ?_
      refine sm_iconst (pc := 27) G hb (by decide +kernel : decode cX5_readConflict 27 = .ok (.iconst 1, 1)) (by decide) ?_
      refine sm_iadd (pc := 28) G hb (by decide +kernel : decode cX5_readConflict 28 = .ok (.iadd, 1)) ?_
      refine sm_put (pc := 29) (ci := 5) (j := 7) (N := 9) (T := TX5) G hb ho hy tyX5 tyX5_ok nmX5 rfl (by decide) gin_5 gw1_236 rfl rfl (by decide +kernel : decode cX5_readConflict 29 = .ok (.putfield 29, 3)) ?_
      refine sm_aload_n (pc := 32) G hb (by decide +kernel : decode cX5_readConflict 32 = .ok (.aload_n 0, 1)) rfl ?_
      refine sm_mono (cav_sub gV_sub) (sm_callV (pc := 33) (N := 9) (T := TX5) (C := RX5) G hb ho hy he hE.1 1 [0, 1, 2, 3, 4, 5, 6, 7, 8, 9, 10] (kX5_nextToken hE N) (gCo_of (by decide +kernel)) (by rw [hR]; exact ⟨by decide, by decide⟩) rfl rfl (by decide +kernel) gw2_133 gw2_135 gw0_1 gw1_6 gw2_136 (by decide +kernel : decode cX5_readConflict 33 = .ok (.invokevirtual 35, 3)) ?_)
      refine sm_aload_n (pc := 36) G hb (by decide +kernel : decode cX5_readConflict 36 = .ok (.aload_n 0, 1)) rfl ?_
      refine sm_iconst (pc := 37) G hb (by decide +kernel : decode cX5_readConflict 37 = .ok (.iconst 0, 1)) (by decide) ?_
      refine sm_aload_n (pc := 38) G hb (by decide +kernel : decode cX5_readConflict 38 = .ok (.aload_n 0, 1)) rfl ?_
      refine sm_get (pc := 39) (ci := 5) (j := 1) (N := 9) (T := TX5) G hb ho hy rfl (by decide) gin_5 gw1_228 (by decide +kernel : decode cX5_readConflict 39 = .ok (.getfield 18, 3)) ?_
      refine sm_get (pc := 42) (ci := 2) (j := 1) (N := 11) (T := TX2) G hb ho hy rfl (by decide) gin_2 gw1_55 (by decide +kernel : decode cX5_readConflict 42 = .ok (.getfield 122, 3)) ?_
      refine sm_iconst (pc := 45) G hb (by decide +kernel : decode cX5_readConflict 45 = .ok (.iconst 1, 1)) (by decide) ?_
      refine sm_isub (pc := 46) G hb (by decide +kernel : decode cX5_readConflict 46 = .ok (.isub, 1)) ?_
      refine sm_mono (cav_sub gI_sub) (sm_callV (pc := 47) (N := 9) (T := TX5) (C := RX5) G hb ho hy he hE.1 3 [0, 1, 2, 3, 4, 5, 6, 7, 8, 9, 10] (kX5_isNumber hE N) (gCo_of (by decide +kernel)) (by rw [hR]; exact ⟨by decide, by decide⟩) rfl rfl (by decide +kernel) gw2_197 gw2_199 gw0_4 gw1_6 gw2_200 (by decide +kernel : decode cX5_readConflict 47 = .ok (.invokevirtual 75, 3)) ?_)
      refine sm_if_ne (pc := 50) (tgt := 55) G hb (by decide +kernel : decode cX5_readConflict 50 = .ok (.ifCond .ne 5, 3)) (by decide) ?_ ?_
      · skip
        refine sm_aload_n (pc := 55) G hb (by decide +kernel : decode cX5_readConflict 55 = .ok (.aload_n 0, 1)) rfl ?_
        refine sm_get (pc := 56) (ci := 5) (j := 6) (N := 9) (T := TX5) G hb ho hy rfl (by decide) gin_5 gw1_235 (by decide +kernel : decode cX5_readConflict 56 = .ok (.getfield 54, 3)) ?_
        refine sm_istore_n (pc := 59) G hb (by decide +kernel : decode cX5_readConflict 59 = .ok (.istore_n 1, 1)) rfl ?_
        refine sm_aload_n (pc := 60) G hb (by decide +kernel : decode cX5_readConflict 60 = .ok (.aload_n 0, 1)) rfl ?_
        refine sm_mono (cav_sub gV_sub) (sm_callV (pc := 61) (N := 9) (T := TX5) (C := RX5) G hb ho hy he hE.1 1 [0, 1, 2, 3, 4, 5, 6, 7, 8, 9, 10] (kX5_nextToken hE N) (gCo_of (by decide +kernel)) (by rw [hR]; exact ⟨by decide, by decide⟩) rfl rfl (by decide +kernel) gw2_133 gw2_135 gw0_1 gw1_6 gw2_136 (by decide +kernel : decode cX5_readConflict 61 = .ok (.invokevirtual 35, 3)) ?_)
        refine sm_mask ?_
        exact fX5_readConflict_s64 N G hb ho hy hR he hr hE
      · skip
        refine sm_iconst (pc := 53) G hb (by decide +kernel : decode cX5_readConflict 53 = .ok (.iconst 0, 1)) (by decide) ?_
        exact sm_zret (pc := 54) G hb (by decide +kernel : decode cX5_readConflict 54 = .ok (.ireturn, 1)) hr
    · skip
      refine sm_iconst (pc := 20) G hb (by decide +kernel : decode cX5_readConflict 20 = .ok (.iconst 0, 1)) (by decide) ?_
      exact sm_zret (pc := 21) G hb (by decide +kernel : decode cX5_readConflict 21 = .ok (.ireturn, 1)) hr
theorem kX5_readConflict {ε : gE5} (hE : gEnv ε) (N : Nat) : gCtr ε yX5_readConflict cX5_readConflict 2 (some .boolean) 2 41 gyT (fX5_readConflict N) :=
  gCtr_of hE.1 (by decide) (fun γ G hb ho hy hR he hr => fX5_readConflict_s0 N G hb ho hy hR he hr hE)

set_option maxRecDepth 100000 in
set_option maxHeartbeats 4000000 in
theorem fX5_readBudget_s30 {γ : gG} {cs ss : Nat} {ε : gE5} (N : Nat) (G : gOK γ) (hb : gcc γ = cX5_readBudget) (ho : gow γ = RX5) (hy : gly γ = gyT) (hR : grm γ = { frames := 2, cells := 0, slots := 0, locals := 41 }) (he : genv γ = ε) (hr : grt γ = (some .boolean)) (hE : gEnv ε) : gSm γ cs ss 30 (fX5_readBudget_k30 N) := by
  unfold fX5_readBudget_k30
  refine sm_aload_n (pc := 30) G hb (by decide +kernel : decode cX5_readBudget 30 = .ok (.aload_n 0, 1)) rfl ?_
  refine sm_mono (cav_sub gV_sub) (sm_callV (pc := 31) (N := 9) (T := TX5) (C := RX5) G hb ho hy he hE.1 1 [0, 1, 2, 3, 4, 5, 6, 7, 8, 9, 10] (kX5_nextToken hE N) (gCo_of (by decide +kernel)) (by rw [hR]; exact ⟨by decide, by decide⟩) rfl rfl (by decide +kernel) gw2_133 gw2_135 gw0_1 gw1_6 gw2_136 (by decide +kernel : decode cX5_readBudget 31 = .ok (.invokevirtual 35, 3)) ?_)
  refine sm_iconst (pc := 34) G hb (by decide +kernel : decode cX5_readBudget 34 = .ok (.iconst 1, 1)) (by decide) ?_
  exact sm_zret (pc := 35) G hb (by decide +kernel : decode cX5_readBudget 35 = .ok (.ireturn, 1)) hr
set_option maxRecDepth 100000 in
set_option maxHeartbeats 4000000 in
theorem fX5_readBudget_s0 {γ : gG} {cs ss : Nat} {ε : gE5} (N : Nat) (G : gOK γ) (hb : gcc γ = cX5_readBudget) (ho : gow γ = RX5) (hy : gly γ = gyT) (hR : grm γ = { frames := 2, cells := 0, slots := 0, locals := 41 }) (he : genv γ = ε) (hr : grt γ = (some .boolean)) (hE : gEnv ε) : gSm γ cs ss 0 (fX5_readBudget_k0 N) := by
  unfold fX5_readBudget_k0
  refine sm_aload_n (pc := 0) G hb (by decide +kernel : decode cX5_readBudget 0 = .ok (.aload_n 0, 1)) rfl ?_
  refine sm_mono (cav_sub gV_sub) (sm_callV (pc := 1) (N := 9) (T := TX5) (C := RX5) G hb ho hy he hE.1 1 [0, 1, 2, 3, 4, 5, 6, 7, 8, 9, 10] (kX5_nextToken hE N) (gCo_of (by decide +kernel)) (by rw [hR]; exact ⟨by decide, by decide⟩) rfl rfl (by decide +kernel) gw2_133 gw2_135 gw0_1 gw1_6 gw2_136 (by decide +kernel : decode cX5_readBudget 1 = .ok (.invokevirtual 35, 3)) ?_)
  refine sm_aload_n (pc := 4) G hb (by decide +kernel : decode cX5_readBudget 4 = .ok (.aload_n 0, 1)) rfl ?_
  refine sm_iconst (pc := 5) G hb (by decide +kernel : decode cX5_readBudget 5 = .ok (.iconst 0, 1)) (by decide) ?_
  refine sm_sipush (pc := 6) G hb (by decide +kernel : decode cX5_readBudget 6 = .ok (.sipush 200, 3)) (by decide) ?_
  refine sm_mono (cav_sub gI_sub) (sm_callV (pc := 9) (N := 9) (T := TX5) (C := RX5) G hb ho hy he hE.1 3 [0, 1, 2, 3, 4, 5, 6, 7, 8, 9, 10] (kX5_isNumber hE N) (gCo_of (by decide +kernel)) (by rw [hR]; exact ⟨by decide, by decide⟩) rfl rfl (by decide +kernel) gw2_197 gw2_199 gw0_4 gw1_6 gw2_200 (by decide +kernel : decode cX5_readBudget 9 = .ok (.invokevirtual 75, 3)) ?_)
  refine sm_if_ne (pc := 12) (tgt := 17) G hb (by decide +kernel : decode cX5_readBudget 12 = .ok (.ifCond .ne 5, 3)) (by decide) ?_ ?_
  · skip
    refine sm_aload_n (pc := 17) G hb (by decide +kernel : decode cX5_readBudget 17 = .ok (.aload_n 0, 1)) rfl ?_
    refine sm_get (pc := 18) (ci := 5) (j := 1) (N := 9) (T := TX5) G hb ho hy rfl (by decide) gin_5 gw1_228 (by decide +kernel : decode cX5_readBudget 18 = .ok (.getfield 18, 3)) ?_
    refine sm_iload_n (pc := 21) G hb (by decide +kernel : decode cX5_readBudget 21 = .ok (.iload_n 1, 1)) rfl ?_
    refine sm_iconst (pc := 22) G hb (by decide +kernel : decode cX5_readBudget 22 = .ok (.iconst 3, 1)) (by decide) ?_
    refine sm_aload_n (pc := 23) G hb (by decide +kernel : decode cX5_readBudget 23 = .ok (.aload_n 0, 1)) rfl ?_
    refine sm_get (pc := 24) (ci := 5) (j := 6) (N := 9) (T := TX5) G hb ho hy rfl (by decide) gin_5 gw1_235 (by decide +kernel : decode cX5_readBudget 24 = .ok (.getfield 54, 3)) ?_
    refine sm_mono (cav_sub gV_sub) (sm_callV (pc := 27) (N := 11) (T := TX2) (C := RX2) G hb ho hy he hE.1 4 [2, 3, 4, 5, 6, 7, 8, 9, 10] (kX2_putNumber hE N) (gCo_of (by decide +kernel)) (by rw [hR]; exact ⟨by decide, by decide⟩) rfl rfl (by decide +kernel) gw3_4 gw2_97 gw2_98 gw1_3 gw2_99 (by decide +kernel : decode cX5_readBudget 27 = .ok (.invokevirtual 155, 3)) ?_)
    refine sm_mask ?_
    exact fX5_readBudget_s30 N G hb ho hy hR he hr hE
  · skip
    refine sm_iconst (pc := 15) G hb (by decide +kernel : decode cX5_readBudget 15 = .ok (.iconst 0, 1)) (by decide) ?_
    exact sm_zret (pc := 16) G hb (by decide +kernel : decode cX5_readBudget 16 = .ok (.ireturn, 1)) hr
theorem kX5_readBudget {ε : gE5} (hE : gEnv ε) (N : Nat) : gCtr ε yX5_readBudget cX5_readBudget 2 (some .boolean) 2 41 gyT (fX5_readBudget N) :=
  gCtr_of hE.1 (by decide) (fun γ G hb ho hy hR he hr => fX5_readBudget_s0 N G hb ho hy hR he hr hE)

set_option maxRecDepth 100000 in
set_option maxHeartbeats 4000000 in
theorem fX5_readFlow_s138 {γ : gG} {cs ss : Nat} {ε : gE5} (N : Nat) (G : gOK γ) (hb : gcc γ = cX5_readFlow) (ho : gow γ = RX5) (hy : gly γ = gyT) (hR : grm γ = { frames := 5, cells := 0, slots := 0, locals := 107 }) (he : genv γ = ε) (hr : grt γ = (some .boolean)) (hE : gEnv ε) : gSm γ cs ss 138 (fX5_readFlow_k138 N) := by
  unfold fX5_readFlow_k138
  refine sm_iconst (pc := 138) G hb (by decide +kernel : decode cX5_readFlow 138 = .ok (.iconst 1, 1)) (by decide) ?_
  refine sm_goto (pc := 139) (tgt := 143) G hb (by decide +kernel : decode cX5_readFlow 139 = .ok (.goto 4, 3)) (by decide) ?_
  exact sm_zret (pc := 143) G hb (by decide +kernel : decode cX5_readFlow 143 = .ok (.ireturn, 1)) hr
set_option maxRecDepth 100000 in
set_option maxHeartbeats 4000000 in
theorem fX5_readFlow_s127 {γ : gG} {cs ss : Nat} {ε : gE5} (N : Nat) (G : gOK γ) (hb : gcc γ = cX5_readFlow) (ho : gow γ = RX5) (hy : gly γ = gyT) (hR : grm γ = { frames := 5, cells := 0, slots := 0, locals := 107 }) (he : genv γ = ε) (hr : grt γ = (some .boolean)) (hE : gEnv ε) : gSm γ cs ss 127 (fX5_readFlow_k127 N) := by
  unfold fX5_readFlow_k127
  refine sm_if_eq (pc := 127) (tgt := 138) G hb (by decide +kernel : decode cX5_readFlow 127 = .ok (.ifCond .eq 11, 3)) (by decide) ?_ ?_
  · skip
    refine sm_mask ?_
    exact fX5_readFlow_s138 N G hb ho hy hR he hr hE
  · skip
    refine sm_aload_n (pc := 130) G hb (by decide +kernel : decode cX5_readFlow 130 = .ok (.aload_n 0, 1)) rfl ?_
    refine sm_iload_n (pc := 131) G hb (by decide +kernel : decode cX5_readFlow 131 = .ok (.iload_n 3, 1)) rfl ?_
    refine sm_mono (cav_sub gI_sub) (sm_callV (pc := 132) (N := 9) (T := TX5) (C := RX5) G hb ho hy he hE.1 2 [0, 1, 2, 3, 4, 5, 6, 7, 8, 9, 10] (kX5_readBudget hE N) (gCo_of (by decide +kernel)) (by rw [hR]; exact ⟨by decide, by decide⟩) rfl rfl (by decide +kernel) gw3_0 gw3_2 gw0_10 gw1_6 gw3_3 (by decide +kernel : decode cX5_readFlow 132 = .ok (.invokevirtual 152, 3)) ?_)
    refine sm_if_eq (pc := 135) (tgt := 142) G hb (by decide +kernel : decode cX5_readFlow 135 = .ok (.ifCond .eq 7, 3)) (by decide) ?_ ?_
    · skip
      refine sm_iconst (pc := 142) G hb (by decide +kernel : decode cX5_readFlow 142 = .ok (.iconst 0, 1)) (by decide) ?_
      exact sm_zret (pc := 143) G hb (by decide +kernel : decode cX5_readFlow 143 = .ok (.ireturn, 1)) hr
    · skip
      refine sm_mask ?_
      exact fX5_readFlow_s138 N G hb ho hy hR he hr hE
set_option maxRecDepth 100000 in
set_option maxHeartbeats 4000000 in
theorem fX5_readFlow_s90 {γ : gG} {cs ss : Nat} {ε : gE5} (N : Nat) (G : gOK γ) (hb : gcc γ = cX5_readFlow) (ho : gow γ = RX5) (hy : gly γ = gyT) (hR : grm γ = { frames := 5, cells := 0, slots := 0, locals := 107 }) (he : genv γ = ε) (hr : grt γ = (some .boolean)) (hE : gEnv ε) : gSm γ cs ss 90 (fX5_readFlow_k90 N) := by
  unfold fX5_readFlow_k90
  refine sm_if_ne (pc := 90) (tgt := 95) G hb (by decide +kernel : decode cX5_readFlow 90 = .ok (.ifCond .ne 5, 3)) (by decide) ?_ ?_
  · skip
    refine sm_aload_n (pc := 95) G hb (by decide +kernel : decode cX5_readFlow 95 = .ok (.aload_n 0, 1)) rfl ?_
    refine sm_get (pc := 96) (ci := 5) (j := 1) (N := 9) (T := TX5) G hb ho hy rfl (by decide) gin_5 gw1_228 (by decide +kernel : decode cX5_readFlow 96 = .ok (.getfield 18, 3)) ?_
    refine sm_get (pc := 99) (ci := 2) (j := 2) (N := 11) (T := TX2) G hb ho hy rfl (by decide) gin_2 gw1_59 (by decide +kernel : decode cX5_readFlow 99 = .ok (.getfield 143, 3)) ?_
    refine sm_istore_n (pc := 102) G hb (by decide +kernel : decode cX5_readFlow 102 = .ok (.istore_n 3, 1)) rfl ?_
    refine sm_aload_n (pc := 103) G hb (by decide +kernel : decode cX5_readFlow 103 = .ok (.aload_n 0, 1)) rfl ?_
    refine sm_get (pc := 104) (ci := 5) (j := 1) (N := 9) (T := TX5) G hb ho hy rfl (by decide) gin_5 gw1_228 (by decide +kernel : decode cX5_readFlow 104 = .ok (.getfield 18, 3)) ?_
    refine sm_iload_n (pc := 107) G hb (by decide +kernel : decode cX5_readFlow 107 = .ok (.iload_n 1, 1)) rfl ?_
    refine sm_iload_n (pc := 108) G hb (by decide +kernel : decode cX5_readFlow 108 = .ok (.iload_n 2, 1)) rfl ?_
    refine sm_aload_n (pc := 109) G hb (by decide +kernel : decode cX5_readFlow 109 = .ok (.aload_n 0, 1)) rfl ?_
    refine sm_get (pc := 110) (ci := 5) (j := 6) (N := 9) (T := TX5) G hb ho hy rfl (by decide) gin_5 gw1_235 (by decide +kernel : decode cX5_readFlow 110 = .ok (.getfield 54, 3)) ?_
    refine sm_iconst (pc := 113) G hb (by decide +kernel : decode cX5_readFlow 113 = .ok (.iconst 0, 1)) (by decide) ?_
    refine sm_mono (cav_sub gV_sub) (sm_callV (pc := 114) (N := 11) (T := TX2) (C := RX2) G hb ho hy he hE.1 5 [2, 3, 4, 5, 6, 7, 8, 9, 10] (kX2_putFlow hE N) (gCo_of (by decide +kernel)) (by rw [hR]; exact ⟨by decide, by decide⟩) rfl rfl (by decide +kernel) gw2_238 gw2_93 gw2_94 gw1_3 gw2_95 (by decide +kernel : decode cX5_readFlow 114 = .ok (.invokevirtual 146, 3)) ?_)
    refine sm_aload_n (pc := 117) G hb (by decide +kernel : decode cX5_readFlow 117 = .ok (.aload_n 0, 1)) rfl ?_
    refine sm_mono (cav_sub gV_sub) (sm_callV (pc := 118) (N := 9) (T := TX5) (C := RX5) G hb ho hy he hE.1 1 [0, 1, 2, 3, 4, 5, 6, 7, 8, 9, 10] (kX5_nextToken hE N) (gCo_of (by decide +kernel)) (by rw [hR]; exact ⟨by decide, by decide⟩) rfl rfl (by decide +kernel) gw2_133 gw2_135 gw0_1 gw1_6 gw2_136 (by decide +kernel : decode cX5_readFlow 118 = .ok (.invokevirtual 35, 3)) ?_)
    refine sm_aload_n (pc := 121) G hb (by decide +kernel : decode cX5_readFlow 121 = .ok (.aload_n 0, 1)) rfl ?_
    refine sm_ldcs (pc := 122) (i := 4) (tx := "budget") G hb ho he hE (List.mem_of_getElem? (i := 4) rfl) (by decide +kernel : decode cX5_readFlow 122 = .ok (.ldc 150, 2)) ?_
    refine sm_mono (cav_sub gI_sub) (sm_callV (pc := 124) (N := 9) (T := TX5) (C := RX5) G hb ho hy he hE.1 2 [0, 1, 2, 3, 4, 5, 6, 7, 8, 9, 10] (kX5_isWord hE N) (gCo_of (by decide +kernel)) (by rw [hR]; exact ⟨by decide, by decide⟩) rfl rfl (by decide +kernel) gw2_145 gw2_147 gw0_3 gw1_6 gw2_148 (by decide +kernel : decode cX5_readFlow 124 = .ok (.invokevirtual 71, 3)) ?_)
    refine sm_mask ?_
    exact fX5_readFlow_s127 N G hb ho hy hR he hr hE
  · skip
    refine sm_iconst (pc := 93) G hb (by decide +kernel : decode cX5_readFlow 93 = .ok (.iconst 0, 1)) (by decide) ?_
    exact sm_zret (pc := 94) G hb (by decide +kernel : decode cX5_readFlow 94 = .ok (.ireturn, 1)) hr
set_option maxRecDepth 100000 in
set_option maxHeartbeats 4000000 in
theorem fX5_readFlow_s46 {γ : gG} {cs ss : Nat} {ε : gE5} (N : Nat) (G : gOK γ) (hb : gcc γ = cX5_readFlow) (ho : gow γ = RX5) (hy : gly γ = gyT) (hR : grm γ = { frames := 5, cells := 0, slots := 0, locals := 107 }) (he : genv γ = ε) (hr : grt γ = (some .boolean)) (hE : gEnv ε) : gSm γ cs ss 46 (fX5_readFlow_k46 N) := by
  unfold fX5_readFlow_k46
  refine sm_aload_n (pc := 46) G hb (by decide +kernel : decode cX5_readFlow 46 = .ok (.aload_n 0, 1)) rfl ?_
  refine sm_iconst (pc := 47) G hb (by decide +kernel : decode cX5_readFlow 47 = .ok (.iconst 0, 1)) (by decide) ?_
  refine sm_aload_n (pc := 48) G hb (by decide +kernel : decode cX5_readFlow 48 = .ok (.aload_n 0, 1)) rfl ?_
  refine sm_get (pc := 49) (ci := 5) (j := 1) (N := 9) (T := TX5) G hb ho hy rfl (by decide) gin_5 gw1_228 (by decide +kernel : decode cX5_readFlow 49 = .ok (.getfield 18, 3)) ?_
  refine sm_get (pc := 52) (ci := 2) (j := 0) (N := 11) (T := TX2) G hb ho hy rfl (by decide) gin_2 gw1_48 (by decide +kernel : decode cX5_readFlow 52 = .ok (.getfield 125, 3)) ?_
  refine sm_iconst (pc := 55) G hb (by decide +kernel : decode cX5_readFlow 55 = .ok (.iconst 1, 1)) (by decide) ?_
  refine sm_isub (pc := 56) G hb (by decide +kernel : decode cX5_readFlow 56 = .ok (.isub, 1)) ?_
  refine sm_mono (cav_sub gI_sub) (sm_callV (pc := 57) (N := 9) (T := TX5) (C := RX5) G hb ho hy he hE.1 3 [0, 1, 2, 3, 4, 5, 6, 7, 8, 9, 10] (kX5_isNumber hE N) (gCo_of (by decide +kernel)) (by rw [hR]; exact ⟨by decide, by decide⟩) rfl rfl (by decide +kernel) gw2_197 gw2_199 gw0_4 gw1_6 gw2_200 (by decide +kernel : decode cX5_readFlow 57 = .ok (.invokevirtual 75, 3)) ?_)
  refine sm_if_eq (pc := 60) (tgt := 71) G hb (by decide +kernel : decode cX5_readFlow 60 = .ok (.ifCond .eq 11, 3)) (by decide) ?_ ?_
  · skip
    refine sm_iconst (pc := 71) G hb (by decide +kernel : decode cX5_readFlow 71 = .ok (.iconst 0, 1)) (by decide) ?_
    exact sm_zret (pc := 72) G hb (by decide +kernel : decode cX5_readFlow 72 = .ok (.ireturn, 1)) hr
  · skip
    refine sm_aload_n (pc := 63) G hb (by decide +kernel : decode cX5_readFlow 63 = .ok (.aload_n 0, 1)) rfl ?_
    refine sm_get (pc := 64) (ci := 5) (j := 6) (N := 9) (T := TX5) G hb ho hy rfl (by decide) gin_5 gw1_235 (by decide +kernel : decode cX5_readFlow 64 = .ok (.getfield 54, 3)) ?_
    refine sm_iload_n (pc := 67) G hb (by decide +kernel : decode cX5_readFlow 67 = .ok (.iload_n 1, 1)) rfl ?_
    refine sm_icmp_ne (pc := 68) (tgt := 73) G hb (by decide +kernel : decode cX5_readFlow 68 = .ok (.if_icmp .ne 5, 3)) (by decide) ?_ ?_
    · skip
      refine sm_aload_n (pc := 73) G hb (by decide +kernel : decode cX5_readFlow 73 = .ok (.aload_n 0, 1)) rfl ?_
      refine sm_get (pc := 74) (ci := 5) (j := 6) (N := 9) (T := TX5) G hb ho hy rfl (by decide) gin_5 gw1_235 (by decide +kernel : decode cX5_readFlow 74 = .ok (.getfield 54, 3)) ?_
      refine sm_istore_n (pc := 77) G hb (by decide +kernel : decode cX5_readFlow 77 = .ok (.istore_n 2, 1)) rfl ?_
      refine sm_aload_n (pc := 78) G hb (by decide +kernel : decode cX5_readFlow 78 = .ok (.aload_n 0, 1)) rfl ?_
      refine sm_mono (cav_sub gV_sub) (sm_callV (pc := 79) (N := 9) (T := TX5) (C := RX5) G hb ho hy he hE.1 1 [0, 1, 2, 3, 4, 5, 6, 7, 8, 9, 10] (kX5_nextToken hE N) (gCo_of (by decide +kernel)) (by rw [hR]; exact ⟨by decide, by decide⟩) rfl rfl (by decide +kernel) gw2_133 gw2_135 gw0_1 gw1_6 gw2_136 (by decide +kernel : decode cX5_readFlow 79 = .ok (.invokevirtual 35, 3)) ?_)
      refine sm_aload_n (pc := 82) G hb (by decide +kernel : decode cX5_readFlow 82 = .ok (.aload_n 0, 1)) rfl ?_
      refine sm_iconst (pc := 83) G hb (by decide +kernel : decode cX5_readFlow 83 = .ok (.iconst 0, 1)) (by decide) ?_
      refine sm_sipush (pc := 84) G hb (by decide +kernel : decode cX5_readFlow 84 = .ok (.sipush 300, 3)) (by decide) ?_
      refine sm_mono (cav_sub gI_sub) (sm_callV (pc := 87) (N := 9) (T := TX5) (C := RX5) G hb ho hy he hE.1 3 [0, 1, 2, 3, 4, 5, 6, 7, 8, 9, 10] (kX5_isNumber hE N) (gCo_of (by decide +kernel)) (by rw [hR]; exact ⟨by decide, by decide⟩) rfl rfl (by decide +kernel) gw2_197 gw2_199 gw0_4 gw1_6 gw2_200 (by decide +kernel : decode cX5_readFlow 87 = .ok (.invokevirtual 75, 3)) ?_)
      refine sm_mask ?_
      exact fX5_readFlow_s90 N G hb ho hy hR he hr hE
    · skip
      refine sm_iconst (pc := 71) G hb (by decide +kernel : decode cX5_readFlow 71 = .ok (.iconst 0, 1)) (by decide) ?_
      exact sm_zret (pc := 72) G hb (by decide +kernel : decode cX5_readFlow 72 = .ok (.ireturn, 1)) hr
set_option maxRecDepth 100000 in
set_option maxHeartbeats 4000000 in
theorem fX5_readFlow_s0 {γ : gG} {cs ss : Nat} {ε : gE5} (N : Nat) (G : gOK γ) (hb : gcc γ = cX5_readFlow) (ho : gow γ = RX5) (hy : gly γ = gyT) (hR : grm γ = { frames := 5, cells := 0, slots := 0, locals := 107 }) (he : genv γ = ε) (hr : grt γ = (some .boolean)) (hE : gEnv ε) : gSm γ cs ss 0 (fX5_readFlow_k0 N) := by
  unfold fX5_readFlow_k0
  refine sm_aload_n (pc := 0) G hb (by decide +kernel : decode cX5_readFlow 0 = .ok (.aload_n 0, 1)) rfl ?_
  refine sm_get (pc := 1) (ci := 5) (j := 1) (N := 9) (T := TX5) G hb ho hy rfl (by decide) gin_5 gw1_228 (by decide +kernel : decode cX5_readFlow 1 = .ok (.getfield 18, 3)) ?_
  refine sm_get (pc := 4) (ci := 2) (j := 2) (N := 11) (T := TX2) G hb ho hy rfl (by decide) gin_2 gw1_59 (by decide +kernel : decode cX5_readFlow 4 = .ok (.getfield 143, 3)) ?_
  refine sm_bipush (pc := 7) G hb (by decide +kernel : decode cX5_readFlow 7 = .ok (.bipush 6, 2)) (by decide) ?_
  refine sm_icmp_lt (pc := 9) (tgt := 14) G hb (by decide +kernel : decode cX5_readFlow 9 = .ok (.if_icmp .lt 5, 3)) (by decide) ?_ ?_
  · skip
    refine sm_aload_n (pc := 14) G hb (by decide +kernel : decode cX5_readFlow 14 = .ok (.aload_n 0, 1)) rfl ?_
    refine sm_mono (cav_sub gV_sub) (sm_callV (pc := 15) (N := 9) (T := TX5) (C := RX5) G hb ho hy he hE.1 1 [0, 1, 2, 3, 4, 5, 6, 7, 8, 9, 10] (kX5_nextToken hE N) (gCo_of (by decide +kernel)) (by rw [hR]; exact ⟨by decide, by decide⟩) rfl rfl (by decide +kernel) gw2_133 gw2_135 gw0_1 gw1_6 gw2_136 (by decide +kernel : decode cX5_readFlow 15 = .ok (.invokevirtual 35, 3)) ?_)
    refine sm_aload_n (pc := 18) G hb (by decide +kernel : decode cX5_readFlow 18 = .ok (.aload_n 0, 1)) rfl ?_
    refine sm_iconst (pc := 19) G hb (by decide +kernel : decode cX5_readFlow 19 = .ok (.iconst 0, 1)) (by decide) ?_
    refine sm_aload_n (pc := 20) G hb (by decide +kernel : decode cX5_readFlow 20 = .ok (.aload_n 0, 1)) rfl ?_
    refine sm_get (pc := 21) (ci := 5) (j := 1) (N := 9) (T := TX5) G hb ho hy rfl (by decide) gin_5 gw1_228 (by decide +kernel : decode cX5_readFlow 21 = .ok (.getfield 18, 3)) ?_
    refine sm_get (pc := 24) (ci := 2) (j := 0) (N := 11) (T := TX2) G hb ho hy rfl (by decide) gin_2 gw1_48 (by decide +kernel : decode cX5_readFlow 24 = .ok (.getfield 125, 3)) ?_
    refine sm_iconst (pc := 27) G hb (by decide +kernel : decode cX5_readFlow 27 = .ok (.iconst 1, 1)) (by decide) ?_
    refine sm_isub (pc := 28) G hb (by decide +kernel : decode cX5_readFlow 28 = .ok (.isub, 1)) ?_
    refine sm_mono (cav_sub gI_sub) (sm_callV (pc := 29) (N := 9) (T := TX5) (C := RX5) G hb ho hy he hE.1 3 [0, 1, 2, 3, 4, 5, 6, 7, 8, 9, 10] (kX5_isNumber hE N) (gCo_of (by decide +kernel)) (by rw [hR]; exact ⟨by decide, by decide⟩) rfl rfl (by decide +kernel) gw2_197 gw2_199 gw0_4 gw1_6 gw2_200 (by decide +kernel : decode cX5_readFlow 29 = .ok (.invokevirtual 75, 3)) ?_)
    refine sm_if_ne (pc := 32) (tgt := 37) G hb (by decide +kernel : decode cX5_readFlow 32 = .ok (.ifCond .ne 5, 3)) (by decide) ?_ ?_
    · skip
      refine sm_aload_n (pc := 37) G hb (by decide +kernel : decode cX5_readFlow 37 = .ok (.aload_n 0, 1)) rfl ?_
      refine sm_get (pc := 38) (ci := 5) (j := 6) (N := 9) (T := TX5) G hb ho hy rfl (by decide) gin_5 gw1_235 (by decide +kernel : decode cX5_readFlow 38 = .ok (.getfield 54, 3)) ?_
      refine sm_istore_n (pc := 41) G hb (by decide +kernel : decode cX5_readFlow 41 = .ok (.istore_n 1, 1)) rfl ?_
      refine sm_aload_n (pc := 42) G hb (by decide +kernel : decode cX5_readFlow 42 = .ok (.aload_n 0, 1)) rfl ?_
      refine sm_mono (cav_sub gV_sub) (sm_callV (pc := 43) (N := 9) (T := TX5) (C := RX5) G hb ho hy he hE.1 1 [0, 1, 2, 3, 4, 5, 6, 7, 8, 9, 10] (kX5_nextToken hE N) (gCo_of (by decide +kernel)) (by rw [hR]; exact ⟨by decide, by decide⟩) rfl rfl (by decide +kernel) gw2_133 gw2_135 gw0_1 gw1_6 gw2_136 (by decide +kernel : decode cX5_readFlow 43 = .ok (.invokevirtual 35, 3)) ?_)
      refine sm_mask ?_
      exact fX5_readFlow_s46 N G hb ho hy hR he hr hE
    · skip
      refine sm_iconst (pc := 35) G hb (by decide +kernel : decode cX5_readFlow 35 = .ok (.iconst 0, 1)) (by decide) ?_
      exact sm_zret (pc := 36) G hb (by decide +kernel : decode cX5_readFlow 36 = .ok (.ireturn, 1)) hr
  · skip
    refine sm_iconst (pc := 12) G hb (by decide +kernel : decode cX5_readFlow 12 = .ok (.iconst 0, 1)) (by decide) ?_
    exact sm_zret (pc := 13) G hb (by decide +kernel : decode cX5_readFlow 13 = .ok (.ireturn, 1)) hr
theorem kX5_readFlow {ε : gE5} (hE : gEnv ε) (N : Nat) : gCtr ε yX5_readFlow cX5_readFlow 4 (some .boolean) 5 107 gyT (fX5_readFlow N) :=
  gCtr_of hE.1 (by decide) (fun γ G hb ho hy hR he hr => fX5_readFlow_s0 N G hb ho hy hR he hr hE)

set_option maxRecDepth 100000 in
set_option maxHeartbeats 4000000 in
theorem fX5_beginSetting_s0 {γ : gG} {cs ss : Nat} {ε : gE5} (N : Nat) (G : gOK γ) (hb : gcc γ = cX5_beginSetting) (ho : gow γ = RX5) (hy : gly γ = gyT) (hR : grm γ = { frames := 2, cells := 0, slots := 0, locals := 41 }) (he : genv γ = ε) (hr : grt γ = (some .boolean)) (hE : gEnv ε) : gSm γ cs ss 0 (fX5_beginSetting_k0 N) := by
  unfold fX5_beginSetting_k0
  refine sm_aload_n (pc := 0) G hb (by decide +kernel : decode cX5_beginSetting 0 = .ok (.aload_n 0, 1)) rfl ?_
  refine sm_get (pc := 1) (ci := 5) (j := 8) (N := 9) (T := TX5) G hb ho hy rfl (by decide) gin_5 gw1_237 (by decide +kernel : decode cX5_beginSetting 1 = .ok (.getfield 32, 3)) ?_
  refine sm_iload_n (pc := 4) G hb (by decide +kernel : decode cX5_beginSetting 4 = .ok (.iload_n 1, 1)) rfl ?_
  refine sm_ishr (pc := 5) G hb (by decide +kernel : decode cX5_beginSetting 5 = .ok (.ishr, 1)) ?_
  refine sm_iconst (pc := 6) G hb (by decide +kernel : decode cX5_beginSetting 6 = .ok (.iconst 1, 1)) (by decide) ?_
  refine sm_iand (pc := 7) G hb (by decide +kernel : decode cX5_beginSetting 7 = .ok (.iand, 1)) ?_
  refine sm_iconst (pc := 8) G hb (by decide +kernel : decode cX5_beginSetting 8 = .ok (.iconst 1, 1)) (by decide) ?_
  refine sm_icmp_ne (pc := 9) (tgt := 14) G hb (by decide +kernel : decode cX5_beginSetting 9 = .ok (.if_icmp .ne 5, 3)) (by decide) ?_ ?_
  · skip
    refine sm_aload_n (pc := 14) G hb (by decide +kernel : decode cX5_beginSetting 14 = .ok (.aload_n 0, 1)) rfl ?_
    refine sm_dup (pc := 15) G hb (by decide +kernel : decode cX5_beginSetting 15 = .ok (.dup, 1)) ?_
    refine sm_get (pc := 16) (ci := 5) (j := 8) (N := 9) (T := TX5) G hb ho hy rfl (by decide) gin_5 gw1_237 (by decide +kernel : decode cX5_beginSetting 16 = .ok (.getfield 32, 3)) ?_
    refine sm_iconst (pc := 19) G hb (by decide +kernel : decode cX5_beginSetting 19 = .ok (.iconst 1, 1)) (by decide) ?_
    refine sm_iload_n (pc := 20) G hb (by decide +kernel : decode cX5_beginSetting 20 = .ok (.iload_n 1, 1)) rfl ?_
    refine sm_ishl (pc := 21) G hb (by decide +kernel : decode cX5_beginSetting 21 = .ok (.ishl, 1)) ?_
    refine sm_ior (pc := 22) G hb (by decide +kernel : decode cX5_beginSetting 22 = .ok (.ior, 1)) ?_
    refine sm_put (pc := 23) (ci := 5) (j := 8) (N := 9) (T := TX5) G hb ho hy tyX5 tyX5_ok nmX5 rfl (by decide) gin_5 gw1_237 rfl rfl (by decide +kernel : decode cX5_beginSetting 23 = .ok (.putfield 32, 3)) ?_
    refine sm_aload_n (pc := 26) G hb (by decide +kernel : decode cX5_beginSetting 26 = .ok (.aload_n 0, 1)) rfl ?_
    refine sm_mono (cav_sub gV_sub) (sm_callV (pc := 27) (N := 9) (T := TX5) (C := RX5) G hb ho hy he hE.1 1 [0, 1, 2, 3, 4, 5, 6, 7, 8, 9, 10] (kX5_nextToken hE N) (gCo_of (by decide +kernel)) (by rw [hR]; exact ⟨by decide, by decide⟩) rfl rfl (by decide +kernel) gw2_133 gw2_135 gw0_1 gw1_6 gw2_136 (by decide +kernel : decode cX5_beginSetting 27 = .ok (.invokevirtual 35, 3)) ?_)
    refine sm_iconst (pc := 30) G hb (by decide +kernel : decode cX5_beginSetting 30 = .ok (.iconst 1, 1)) (by decide) ?_
    exact sm_zret (pc := 31) G hb (by decide +kernel : decode cX5_beginSetting 31 = .ok (.ireturn, 1)) hr
  · skip
    refine sm_iconst (pc := 12) G hb (by decide +kernel : decode cX5_beginSetting 12 = .ok (.iconst 0, 1)) (by decide) ?_
    exact sm_zret (pc := 13) G hb (by decide +kernel : decode cX5_beginSetting 13 = .ok (.ireturn, 1)) hr
theorem kX5_beginSetting {ε : gE5} (hE : gEnv ε) (N : Nat) : gCtr ε yX5_beginSetting cX5_beginSetting 2 (some .boolean) 2 41 gyT (fX5_beginSetting N) :=
  gCtr_of hE.1 (by decide) (fun γ G hb ho hy hR he hr => fX5_beginSetting_s0 N G hb ho hy hR he hr hE)

set_option maxRecDepth 100000 in
set_option maxHeartbeats 4000000 in
theorem fX5_readChoice_s47 {γ : gG} {cs ss : Nat} {ε : gE5} (N : Nat) (G : gOK γ) (hb : gcc γ = cX5_readChoice) (ho : gow γ = RX5) (hy : gly γ = gyT) (hR : grm γ = { frames := 5, cells := 0, slots := 0, locals := 107 }) (he : genv γ = ε) (hr : grt γ = (some .boolean)) (hE : gEnv ε) : gSm γ cs ss 47 (fX5_readChoice_k47 N) := by
  unfold fX5_readChoice_k47
  refine sm_iast (pc := 47) G hb hy (by decide +kernel : decode cX5_readChoice 47 = .ok (.iastore, 1)) ?_
  refine sm_aload_n (pc := 48) G hb (by decide +kernel : decode cX5_readChoice 48 = .ok (.aload_n 0, 1)) rfl ?_
  refine sm_mono (cav_sub gV_sub) (sm_callV (pc := 49) (N := 9) (T := TX5) (C := RX5) G hb ho hy he hE.1 1 [0, 1, 2, 3, 4, 5, 6, 7, 8, 9, 10] (kX5_nextToken hE N) (gCo_of (by decide +kernel)) (by rw [hR]; exact ⟨by decide, by decide⟩) rfl rfl (by decide +kernel) gw2_133 gw2_135 gw0_1 gw1_6 gw2_136 (by decide +kernel : decode cX5_readChoice 49 = .ok (.invokevirtual 35, 3)) ?_)
  refine sm_iconst (pc := 52) G hb (by decide +kernel : decode cX5_readChoice 52 = .ok (.iconst 1, 1)) (by decide) ?_
  exact sm_zret (pc := 53) G hb (by decide +kernel : decode cX5_readChoice 53 = .ok (.ireturn, 1)) hr
set_option maxRecDepth 100000 in
set_option maxHeartbeats 4000000 in
theorem fX5_readChoice_s26 {γ : gG} {cs ss : Nat} {ε : gE5} (N : Nat) (G : gOK γ) (hb : gcc γ = cX5_readChoice) (ho : gow γ = RX5) (hy : gly γ = gyT) (hR : grm γ = { frames := 5, cells := 0, slots := 0, locals := 107 }) (he : genv γ = ε) (hr : grt γ = (some .boolean)) (hE : gEnv ε) : gSm γ cs ss 26 (fX5_readChoice_k26 N) := by
  unfold fX5_readChoice_k26
  refine sm_aload_n (pc := 26) G hb (by decide +kernel : decode cX5_readChoice 26 = .ok (.aload_n 0, 1)) rfl ?_
  refine sm_get (pc := 27) (ci := 5) (j := 1) (N := 9) (T := TX5) G hb ho hy rfl (by decide) gin_5 gw1_228 (by decide +kernel : decode cX5_readChoice 27 = .ok (.getfield 18, 3)) ?_
  refine sm_get (pc := 30) (ci := 2) (j := 8) (N := 11) (T := TX2) G hb ho hy rfl (by decide) gin_2 gw1_85 (by decide +kernel : decode cX5_readChoice 30 = .ok (.getfield 161, 3)) ?_
  refine sm_iload_n (pc := 33) G hb (by decide +kernel : decode cX5_readChoice 33 = .ok (.iload_n 1, 1)) rfl ?_
  refine sm_aload_n (pc := 34) G hb (by decide +kernel : decode cX5_readChoice 34 = .ok (.aload_n 0, 1)) rfl ?_
  refine sm_aload_n (pc := 35) G hb (by decide +kernel : decode cX5_readChoice 35 = .ok (.aload_n 3, 1)) rfl ?_
  refine sm_mono (cav_sub gI_sub) (sm_callV (pc := 36) (N := 9) (T := TX5) (C := RX5) G hb ho hy he hE.1 2 [0, 1, 2, 3, 4, 5, 6, 7, 8, 9, 10] (kX5_isWord hE N) (gCo_of (by decide +kernel)) (by rw [hR]; exact ⟨by decide, by decide⟩) rfl rfl (by decide +kernel) gw2_145 gw2_147 gw0_3 gw1_6 gw2_148 (by decide +kernel : decode cX5_readChoice 36 = .ok (.invokevirtual 71, 3)) ?_)
  refine sm_if_eq (pc := 39) (tgt := 46) G hb (by decide +kernel : decode cX5_readChoice 39 = .ok (.ifCond .eq 7, 3)) (by decide) ?_ ?_
  · skip
    refine sm_iconst (pc := 46) G hb (by decide +kernel : decode cX5_readChoice 46 = .ok (.iconst 0, 1)) (by decide) ?_
    refine sm_mask ?_
    exact fX5_readChoice_s47 N G hb ho hy hR he hr hE
  · skip
    refine sm_iconst (pc := 42) G hb (by decide +kernel : decode cX5_readChoice 42 = .ok (.iconst 1, 1)) (by decide) ?_
    refine sm_goto (pc := 43) (tgt := 47) G hb (by decide +kernel : decode cX5_readChoice 43 = .ok (.goto 4, 3)) (by decide) ?_
    refine sm_mask ?_
    exact fX5_readChoice_s47 N G hb ho hy hR he hr hE
set_option maxRecDepth 100000 in
set_option maxHeartbeats 4000000 in
theorem fX5_readChoice_s21 {γ : gG} {cs ss : Nat} {ε : gE5} (N : Nat) (G : gOK γ) (hb : gcc γ = cX5_readChoice) (ho : gow γ = RX5) (hy : gly γ = gyT) (hR : grm γ = { frames := 5, cells := 0, slots := 0, locals := 107 }) (he : genv γ = ε) (hr : grt γ = (some .boolean)) (hE : gEnv ε) : gSm γ cs ss 21 (fX5_readChoice_k21 N) := by
  unfold fX5_readChoice_k21
  refine sm_if_ne (pc := 21) (tgt := 26) G hb (by decide +kernel : decode cX5_readChoice 21 = .ok (.ifCond .ne 5, 3)) (by decide) ?_ ?_
  · skip
    refine sm_mask ?_
    exact fX5_readChoice_s26 N G hb ho hy hR he hr hE
  · skip
    refine sm_iconst (pc := 24) G hb (by decide +kernel : decode cX5_readChoice 24 = .ok (.iconst 0, 1)) (by decide) ?_
    exact sm_zret (pc := 25) G hb (by decide +kernel : decode cX5_readChoice 25 = .ok (.ireturn, 1)) hr
set_option maxRecDepth 100000 in
set_option maxHeartbeats 4000000 in
theorem fX5_readChoice_s0 {γ : gG} {cs ss : Nat} {ε : gE5} (N : Nat) (G : gOK γ) (hb : gcc γ = cX5_readChoice) (ho : gow γ = RX5) (hy : gly γ = gyT) (hR : grm γ = { frames := 5, cells := 0, slots := 0, locals := 107 }) (he : genv γ = ε) (hr : grt γ = (some .boolean)) (hE : gEnv ε) : gSm γ cs ss 0 (fX5_readChoice_k0 N) := by
  unfold fX5_readChoice_k0
  refine sm_aload_n (pc := 0) G hb (by decide +kernel : decode cX5_readChoice 0 = .ok (.aload_n 0, 1)) rfl ?_
  refine sm_iload_n (pc := 1) G hb (by decide +kernel : decode cX5_readChoice 1 = .ok (.iload_n 1, 1)) rfl ?_
  refine sm_mono (cav_sub gI_sub) (sm_callV (pc := 2) (N := 9) (T := TX5) (C := RX5) G hb ho hy he hE.1 2 [0, 1, 2, 3, 4, 5, 6, 7, 8, 9, 10] (kX5_beginSetting hE N) (gCo_of (by decide +kernel)) (by rw [hR]; exact ⟨by decide, by decide⟩) rfl rfl (by decide +kernel) gw3_12 gw3_14 gw0_12 gw1_6 gw3_15 (by decide +kernel : decode cX5_readChoice 2 = .ok (.invokevirtual 158, 3)) ?_)
  refine sm_if_eq (pc := 5) (tgt := 24) G hb (by decide +kernel : decode cX5_readChoice 5 = .ok (.ifCond .eq 19, 3)) (by decide) ?_ ?_
  · skip
    refine sm_iconst (pc := 24) G hb (by decide +kernel : decode cX5_readChoice 24 = .ok (.iconst 0, 1)) (by decide) ?_
    exact sm_zret (pc := 25) G hb (by decide +kernel : decode cX5_readChoice 25 = .ok (.ireturn, 1)) hr
  · skip
    refine sm_aload_n (pc := 8) G hb (by decide +kernel : decode cX5_readChoice 8 = .ok (.aload_n 0, 1)) rfl ?_
    refine sm_aload_n (pc := 9) G hb (by decide +kernel : decode cX5_readChoice 9 = .ok (.aload_n 2, 1)) rfl ?_
    refine sm_mono (cav_sub gI_sub) (sm_callV (pc := 10) (N := 9) (T := TX5) (C := RX5) G hb ho hy he hE.1 2 [0, 1, 2, 3, 4, 5, 6, 7, 8, 9, 10] (kX5_isWord hE N) (gCo_of (by decide +kernel)) (by rw [hR]; exact ⟨by decide, by decide⟩) rfl rfl (by decide +kernel) gw2_145 gw2_147 gw0_3 gw1_6 gw2_148 (by decide +kernel : decode cX5_readChoice 10 = .ok (.invokevirtual 71, 3)) ?_)
    refine sm_if_ne (pc := 13) (tgt := 26) G hb (by decide +kernel : decode cX5_readChoice 13 = .ok (.ifCond .ne 13, 3)) (by decide) ?_ ?_
    · skip
      refine sm_mask ?_
      exact fX5_readChoice_s26 N G hb ho hy hR he hr hE
    · skip
      refine sm_aload_n (pc := 16) G hb (by decide +kernel : decode cX5_readChoice 16 = .ok (.aload_n 0, 1)) rfl ?_
      refine sm_aload_n (pc := 17) G hb (by decide +kernel : decode cX5_readChoice 17 = .ok (.aload_n 3, 1)) rfl ?_
      refine sm_mono (cav_sub gI_sub) (sm_callV (pc := 18) (N := 9) (T := TX5) (C := RX5) G hb ho hy he hE.1 2 [0, 1, 2, 3, 4, 5, 6, 7, 8, 9, 10] (kX5_isWord hE N) (gCo_of (by decide +kernel)) (by rw [hR]; exact ⟨by decide, by decide⟩) rfl rfl (by decide +kernel) gw2_145 gw2_147 gw0_3 gw1_6 gw2_148 (by decide +kernel : decode cX5_readChoice 18 = .ok (.invokevirtual 71, 3)) ?_)
      refine sm_mask ?_
      exact fX5_readChoice_s21 N G hb ho hy hR he hr hE
theorem kX5_readChoice {ε : gE5} (hE : gEnv ε) (N : Nat) : gCtr ε yX5_readChoice cX5_readChoice 4 (some .boolean) 5 107 gyT (fX5_readChoice N) :=
  gCtr_of hE.1 (by decide) (fun γ G hb ho hy hR he hr => fX5_readChoice_s0 N G hb ho hy hR he hr hE)

set_option maxRecDepth 100000 in
set_option maxHeartbeats 4000000 in
theorem fX5_readSetting_s0 {γ : gG} {cs ss : Nat} {ε : gE5} (N : Nat) (G : gOK γ) (hb : gcc γ = cX5_readSetting) (ho : gow γ = RX5) (hy : gly γ = gyT) (hR : grm γ = { frames := 3, cells := 0, slots := 0, locals := 62 }) (he : genv γ = ε) (hr : grt γ = (some .boolean)) (hE : gEnv ε) : gSm γ cs ss 0 (fX5_readSetting_k0 N) := by
  unfold fX5_readSetting_k0
  refine sm_aload_n (pc := 0) G hb (by decide +kernel : decode cX5_readSetting 0 = .ok (.aload_n 0, 1)) rfl ?_
  refine sm_iload_n (pc := 1) G hb (by decide +kernel : decode cX5_readSetting 1 = .ok (.iload_n 1, 1)) rfl ?_
  refine sm_mono (cav_sub gI_sub) (sm_callV (pc := 2) (N := 9) (T := TX5) (C := RX5) G hb ho hy he hE.1 2 [0, 1, 2, 3, 4, 5, 6, 7, 8, 9, 10] (kX5_beginSetting hE N) (gCo_of (by decide +kernel)) (by rw [hR]; exact ⟨by decide, by decide⟩) rfl rfl (by decide +kernel) gw3_12 gw3_14 gw0_12 gw1_6 gw3_15 (by decide +kernel : decode cX5_readSetting 2 = .ok (.invokevirtual 158, 3)) ?_)
  refine sm_if_eq (pc := 5) (tgt := 21) G hb (by decide +kernel : decode cX5_readSetting 5 = .ok (.ifCond .eq 16, 3)) (by decide) ?_ ?_
  · skip
    refine sm_iconst (pc := 21) G hb (by decide +kernel : decode cX5_readSetting 21 = .ok (.iconst 0, 1)) (by decide) ?_
    exact sm_zret (pc := 22) G hb (by decide +kernel : decode cX5_readSetting 22 = .ok (.ireturn, 1)) hr
  · skip
    refine sm_aload_n (pc := 8) G hb (by decide +kernel : decode cX5_readSetting 8 = .ok (.aload_n 0, 1)) rfl ?_
    refine sm_iconst (pc := 9) G hb (by decide +kernel : decode cX5_readSetting 9 = .ok (.iconst 0, 1)) (by decide) ?_
    refine sm_getsGSN (pc := 10) G hb ho he hE gw3_21 (by decide +kernel : decode cX5_readSetting 10 = .ok (.getstatic 164, 3)) ?_
    refine sm_iload_n (pc := 13) G hb (by decide +kernel : decode cX5_readSetting 13 = .ok (.iload_n 1, 1)) rfl ?_
    refine sm_tld (pc := 14) G hb he hE (by decide +kernel : decode cX5_readSetting 14 = .ok (.iaload, 1)) ?_
    refine sm_mono (cav_sub gI_sub) (sm_callV (pc := 15) (N := 9) (T := TX5) (C := RX5) G hb ho hy he hE.1 3 [0, 1, 2, 3, 4, 5, 6, 7, 8, 9, 10] (kX5_isNumber hE N) (gCo_of (by decide +kernel)) (by rw [hR]; exact ⟨by decide, by decide⟩) rfl rfl (by decide +kernel) gw2_197 gw2_199 gw0_4 gw1_6 gw2_200 (by decide +kernel : decode cX5_readSetting 15 = .ok (.invokevirtual 75, 3)) ?_)
    refine sm_if_ne (pc := 18) (tgt := 23) G hb (by decide +kernel : decode cX5_readSetting 18 = .ok (.ifCond .ne 5, 3)) (by decide) ?_ ?_
    · skip
      refine sm_aload_n (pc := 23) G hb (by decide +kernel : decode cX5_readSetting 23 = .ok (.aload_n 0, 1)) rfl ?_
      refine sm_get (pc := 24) (ci := 5) (j := 1) (N := 9) (T := TX5) G hb ho hy rfl (by decide) gin_5 gw1_228 (by decide +kernel : decode cX5_readSetting 24 = .ok (.getfield 18, 3)) ?_
      refine sm_get (pc := 27) (ci := 2) (j := 8) (N := 11) (T := TX2) G hb ho hy rfl (by decide) gin_2 gw1_85 (by decide +kernel : decode cX5_readSetting 27 = .ok (.getfield 161, 3)) ?_
      refine sm_iload_n (pc := 30) G hb (by decide +kernel : decode cX5_readSetting 30 = .ok (.iload_n 1, 1)) rfl ?_
      refine sm_aload_n (pc := 31) G hb (by decide +kernel : decode cX5_readSetting 31 = .ok (.aload_n 0, 1)) rfl ?_
      refine sm_get (pc := 32) (ci := 5) (j := 6) (N := 9) (T := TX5) G hb ho hy rfl (by decide) gin_5 gw1_235 (by decide +kernel : decode cX5_readSetting 32 = .ok (.getfield 54, 3)) ?_
      refine sm_iast (pc := 35) G hb hy (by decide +kernel : decode cX5_readSetting 35 = .ok (.iastore, 1)) ?_
      refine sm_aload_n (pc := 36) G hb (by decide +kernel : decode cX5_readSetting 36 = .ok (.aload_n 0, 1)) rfl ?_
      refine sm_mono (cav_sub gV_sub) (sm_callV (pc := 37) (N := 9) (T := TX5) (C := RX5) G hb ho hy he hE.1 1 [0, 1, 2, 3, 4, 5, 6, 7, 8, 9, 10] (kX5_nextToken hE N) (gCo_of (by decide +kernel)) (by rw [hR]; exact ⟨by decide, by decide⟩) rfl rfl (by decide +kernel) gw2_133 gw2_135 gw0_1 gw1_6 gw2_136 (by decide +kernel : decode cX5_readSetting 37 = .ok (.invokevirtual 35, 3)) ?_)
      refine sm_iconst (pc := 40) G hb (by decide +kernel : decode cX5_readSetting 40 = .ok (.iconst 1, 1)) (by decide) ?_
      exact sm_zret (pc := 41) G hb (by decide +kernel : decode cX5_readSetting 41 = .ok (.ireturn, 1)) hr
    · skip
      refine sm_iconst (pc := 21) G hb (by decide +kernel : decode cX5_readSetting 21 = .ok (.iconst 0, 1)) (by decide) ?_
      exact sm_zret (pc := 22) G hb (by decide +kernel : decode cX5_readSetting 22 = .ok (.ireturn, 1)) hr
theorem kX5_readSetting {ε : gE5} (hE : gEnv ε) (N : Nat) : gCtr ε yX5_readSetting cX5_readSetting 2 (some .boolean) 3 62 gyT (fX5_readSetting N) :=
  gCtr_of hE.1 (by decide) (fun γ G hb ho hy hR he hr => fX5_readSetting_s0 N G hb ho hy hR he hr hE)

set_option maxRecDepth 100000 in
set_option maxHeartbeats 4000000 in
theorem fX5_readStatement_s82 {γ : gG} {cs ss : Nat} {ε : gE5} (N : Nat) (G : gOK γ) (hb : gcc γ = cX5_readStatement) (ho : gow γ = RX5) (hy : gly γ = gyT) (hR : grm γ = { frames := 6, cells := 0, slots := 0, locals := 130 }) (he : genv γ = ε) (hr : grt γ = (some .boolean)) (hE : gEnv ε) : gSm γ cs ss 82 (fX5_readStatement_k82 N) := by
  unfold fX5_readStatement_k82
  refine sm_if_eq (pc := 82) (tgt := 91) G hb (by decide +kernel : decode cX5_readStatement 82 = .ok (.ifCond .eq 9, 3)) (by decide) ?_ ?_
  · skip
    refine sm_aload_n (pc := 91) G hb (by decide +kernel : decode cX5_readStatement 91 = .ok (.aload_n 0, 1)) rfl ?_
    refine sm_ldcs (pc := 92) (i := 10) (tx := "scheduler") G hb ho he hE (List.mem_of_getElem? (i := 10) rfl) (by decide +kernel : decode cX5_readStatement 92 = .ok (.ldc 116, 2)) ?_
    refine sm_mono (cav_sub gI_sub) (sm_callV (pc := 94) (N := 9) (T := TX5) (C := RX5) G hb ho hy he hE.1 2 [0, 1, 2, 3, 4, 5, 6, 7, 8, 9, 10] (kX5_isWord hE N) (gCo_of (by decide +kernel)) (by rw [hR]; exact ⟨by decide, by decide⟩) rfl rfl (by decide +kernel) gw2_145 gw2_147 gw0_3 gw1_6 gw2_148 (by decide +kernel : decode cX5_readStatement 94 = .ok (.invokevirtual 71, 3)) ?_)
    refine sm_if_eq (pc := 97) (tgt := 110) G hb (by decide +kernel : decode cX5_readStatement 97 = .ok (.ifCond .eq 13, 3)) (by decide) ?_ ?_
    · skip
      refine sm_iconst (pc := 110) G hb (by decide +kernel : decode cX5_readStatement 110 = .ok (.iconst 0, 1)) (by decide) ?_
      exact sm_zret (pc := 111) G hb (by decide +kernel : decode cX5_readStatement 111 = .ok (.ireturn, 1)) hr
    · skip
      refine sm_aload_n (pc := 100) G hb (by decide +kernel : decode cX5_readStatement 100 = .ok (.aload_n 0, 1)) rfl ?_
      refine sm_iconst (pc := 101) G hb (by decide +kernel : decode cX5_readStatement 101 = .ok (.iconst 3, 1)) (by decide) ?_
      refine sm_ldcs (pc := 102) (i := 11) (tx := "greedy") G hb ho he hE (List.mem_of_getElem? (i := 11) rfl) (by decide +kernel : decode cX5_readStatement 102 = .ok (.ldc 118, 2)) ?_
      refine sm_ldcs (pc := 104) (i := 12) (tx := "exact") G hb ho he hE (List.mem_of_getElem? (i := 12) rfl) (by decide +kernel : decode cX5_readStatement 104 = .ok (.ldc 120, 2)) ?_
      refine sm_mono (cav_sub gI_sub) (sm_callV (pc := 106) (N := 9) (T := TX5) (C := RX5) G hb ho hy he hE.1 4 [0, 1, 2, 3, 4, 5, 6, 7, 8, 9, 10] (kX5_readChoice hE N) (gCo_of (by decide +kernel)) (by rw [hR]; exact ⟨by decide, by decide⟩) rfl rfl (by decide +kernel) gw3_8 gw3_10 gw0_11 gw1_6 gw3_11 (by decide +kernel : decode cX5_readStatement 106 = .ok (.invokevirtual 104, 3)) ?_)
      exact sm_zret (pc := 109) G hb (by decide +kernel : decode cX5_readStatement 109 = .ok (.ireturn, 1)) hr
  · skip
    refine sm_aload_n (pc := 85) G hb (by decide +kernel : decode cX5_readStatement 85 = .ok (.aload_n 0, 1)) rfl ?_
    refine sm_iconst (pc := 86) G hb (by decide +kernel : decode cX5_readStatement 86 = .ok (.iconst 2, 1)) (by decide) ?_
    refine sm_mono (cav_sub gI_sub) (sm_callV (pc := 87) (N := 9) (T := TX5) (C := RX5) G hb ho hy he hE.1 2 [0, 1, 2, 3, 4, 5, 6, 7, 8, 9, 10] (kX5_readSetting hE N) (gCo_of (by decide +kernel)) (by rw [hR]; exact ⟨by decide, by decide⟩) rfl rfl (by decide +kernel) gw3_17 gw3_19 gw0_13 gw1_6 gw3_20 (by decide +kernel : decode cX5_readStatement 87 = .ok (.invokevirtual 110, 3)) ?_)
    exact sm_zret (pc := 90) G hb (by decide +kernel : decode cX5_readStatement 90 = .ok (.ireturn, 1)) hr
set_option maxRecDepth 100000 in
set_option maxHeartbeats 4000000 in
theorem fX5_readStatement_s48 {γ : gG} {cs ss : Nat} {ε : gE5} (N : Nat) (G : gOK γ) (hb : gcc γ = cX5_readStatement) (ho : gow γ = RX5) (hy : gly γ = gyT) (hR : grm γ = { frames := 6, cells := 0, slots := 0, locals := 130 }) (he : genv γ = ε) (hr : grt γ = (some .boolean)) (hE : gEnv ε) : gSm γ cs ss 48 (fX5_readStatement_k48 N) := by
  unfold fX5_readStatement_k48
  refine sm_if_eq (pc := 48) (tgt := 61) G hb (by decide +kernel : decode cX5_readStatement 48 = .ok (.ifCond .eq 13, 3)) (by decide) ?_ ?_
  · skip
    refine sm_aload_n (pc := 61) G hb (by decide +kernel : decode cX5_readStatement 61 = .ok (.aload_n 0, 1)) rfl ?_
    refine sm_ldcs (pc := 62) (i := 8) (tx := "excess") G hb ho he hE (List.mem_of_getElem? (i := 8) rfl) (by decide +kernel : decode cX5_readStatement 62 = .ok (.ldc 108, 2)) ?_
    refine sm_mono (cav_sub gI_sub) (sm_callV (pc := 64) (N := 9) (T := TX5) (C := RX5) G hb ho hy he hE.1 2 [0, 1, 2, 3, 4, 5, 6, 7, 8, 9, 10] (kX5_isWord hE N) (gCo_of (by decide +kernel)) (by rw [hR]; exact ⟨by decide, by decide⟩) rfl rfl (by decide +kernel) gw2_145 gw2_147 gw0_3 gw1_6 gw2_148 (by decide +kernel : decode cX5_readStatement 64 = .ok (.invokevirtual 71, 3)) ?_)
    refine sm_if_eq (pc := 67) (tgt := 76) G hb (by decide +kernel : decode cX5_readStatement 67 = .ok (.ifCond .eq 9, 3)) (by decide) ?_ ?_
    · skip
      refine sm_aload_n (pc := 76) G hb (by decide +kernel : decode cX5_readStatement 76 = .ok (.aload_n 0, 1)) rfl ?_
      refine sm_ldcs (pc := 77) (i := 9) (tx := "bias") G hb ho he hE (List.mem_of_getElem? (i := 9) rfl) (by decide +kernel : decode cX5_readStatement 77 = .ok (.ldc 114, 2)) ?_
      refine sm_mono (cav_sub gI_sub) (sm_callV (pc := 79) (N := 9) (T := TX5) (C := RX5) G hb ho hy he hE.1 2 [0, 1, 2, 3, 4, 5, 6, 7, 8, 9, 10] (kX5_isWord hE N) (gCo_of (by decide +kernel)) (by rw [hR]; exact ⟨by decide, by decide⟩) rfl rfl (by decide +kernel) gw2_145 gw2_147 gw0_3 gw1_6 gw2_148 (by decide +kernel : decode cX5_readStatement 79 = .ok (.invokevirtual 71, 3)) ?_)
      refine sm_mask ?_
      exact fX5_readStatement_s82 N G hb ho hy hR he hr hE
    · skip
      refine sm_aload_n (pc := 70) G hb (by decide +kernel : decode cX5_readStatement 70 = .ok (.aload_n 0, 1)) rfl ?_
      refine sm_iconst (pc := 71) G hb (by decide +kernel : decode cX5_readStatement 71 = .ok (.iconst 1, 1)) (by decide) ?_
      refine sm_mono (cav_sub gI_sub) (sm_callV (pc := 72) (N := 9) (T := TX5) (C := RX5) G hb ho hy he hE.1 2 [0, 1, 2, 3, 4, 5, 6, 7, 8, 9, 10] (kX5_readSetting hE N) (gCo_of (by decide +kernel)) (by rw [hR]; exact ⟨by decide, by decide⟩) rfl rfl (by decide +kernel) gw3_17 gw3_19 gw0_13 gw1_6 gw3_20 (by decide +kernel : decode cX5_readStatement 72 = .ok (.invokevirtual 110, 3)) ?_)
      exact sm_zret (pc := 75) G hb (by decide +kernel : decode cX5_readStatement 75 = .ok (.ireturn, 1)) hr
  · skip
    refine sm_aload_n (pc := 51) G hb (by decide +kernel : decode cX5_readStatement 51 = .ok (.aload_n 0, 1)) rfl ?_
    refine sm_iconst (pc := 52) G hb (by decide +kernel : decode cX5_readStatement 52 = .ok (.iconst 0, 1)) (by decide) ?_
    refine sm_ldcs (pc := 53) (i := 6) (tx := "plain") G hb ho he hE (List.mem_of_getElem? (i := 6) rfl) (by decide +kernel : decode cX5_readStatement 53 = .ok (.ldc 100, 2)) ?_
    refine sm_ldcs (pc := 55) (i := 7) (tx := "shadow") G hb ho he hE (List.mem_of_getElem? (i := 7) rfl) (by decide +kernel : decode cX5_readStatement 55 = .ok (.ldc 102, 2)) ?_
    refine sm_mono (cav_sub gI_sub) (sm_callV (pc := 57) (N := 9) (T := TX5) (C := RX5) G hb ho hy he hE.1 4 [0, 1, 2, 3, 4, 5, 6, 7, 8, 9, 10] (kX5_readChoice hE N) (gCo_of (by decide +kernel)) (by rw [hR]; exact ⟨by decide, by decide⟩) rfl rfl (by decide +kernel) gw3_8 gw3_10 gw0_11 gw1_6 gw3_11 (by decide +kernel : decode cX5_readStatement 57 = .ok (.invokevirtual 104, 3)) ?_)
    exact sm_zret (pc := 60) G hb (by decide +kernel : decode cX5_readStatement 60 = .ok (.ireturn, 1)) hr
set_option maxRecDepth 100000 in
set_option maxHeartbeats 4000000 in
theorem fX5_readStatement_s20 {γ : gG} {cs ss : Nat} {ε : gE5} (N : Nat) (G : gOK γ) (hb : gcc γ = cX5_readStatement) (ho : gow γ = RX5) (hy : gly γ = gyT) (hR : grm γ = { frames := 6, cells := 0, slots := 0, locals := 130 }) (he : genv γ = ε) (hr : grt γ = (some .boolean)) (hE : gEnv ε) : gSm γ cs ss 20 (fX5_readStatement_k20 N) := by
  unfold fX5_readStatement_k20
  refine sm_if_eq (pc := 20) (tgt := 28) G hb (by decide +kernel : decode cX5_readStatement 20 = .ok (.ifCond .eq 8, 3)) (by decide) ?_ ?_
  · skip
    refine sm_aload_n (pc := 28) G hb (by decide +kernel : decode cX5_readStatement 28 = .ok (.aload_n 0, 1)) rfl ?_
    refine sm_ldcs (pc := 29) (i := 3) (tx := "flow") G hb ho he hE (List.mem_of_getElem? (i := 3) rfl) (by decide +kernel : decode cX5_readStatement 29 = .ok (.ldc 93, 2)) ?_
    refine sm_mono (cav_sub gI_sub) (sm_callV (pc := 31) (N := 9) (T := TX5) (C := RX5) G hb ho hy he hE.1 2 [0, 1, 2, 3, 4, 5, 6, 7, 8, 9, 10] (kX5_isWord hE N) (gCo_of (by decide +kernel)) (by rw [hR]; exact ⟨by decide, by decide⟩) rfl rfl (by decide +kernel) gw2_145 gw2_147 gw0_3 gw1_6 gw2_148 (by decide +kernel : decode cX5_readStatement 31 = .ok (.invokevirtual 71, 3)) ?_)
    refine sm_if_eq (pc := 34) (tgt := 42) G hb (by decide +kernel : decode cX5_readStatement 34 = .ok (.ifCond .eq 8, 3)) (by decide) ?_ ?_
    · skip
      refine sm_aload_n (pc := 42) G hb (by decide +kernel : decode cX5_readStatement 42 = .ok (.aload_n 0, 1)) rfl ?_
      refine sm_ldcs (pc := 43) (i := 5) (tx := "mode") G hb ho he hE (List.mem_of_getElem? (i := 5) rfl) (by decide +kernel : decode cX5_readStatement 43 = .ok (.ldc 98, 2)) ?_
      refine sm_mono (cav_sub gI_sub) (sm_callV (pc := 45) (N := 9) (T := TX5) (C := RX5) G hb ho hy he hE.1 2 [0, 1, 2, 3, 4, 5, 6, 7, 8, 9, 10] (kX5_isWord hE N) (gCo_of (by decide +kernel)) (by rw [hR]; exact ⟨by decide, by decide⟩) rfl rfl (by decide +kernel) gw2_145 gw2_147 gw0_3 gw1_6 gw2_148 (by decide +kernel : decode cX5_readStatement 45 = .ok (.invokevirtual 71, 3)) ?_)
      refine sm_mask ?_
      exact fX5_readStatement_s48 N G hb ho hy hR he hr hE
    · skip
      refine sm_aload_n (pc := 37) G hb (by decide +kernel : decode cX5_readStatement 37 = .ok (.aload_n 0, 1)) rfl ?_
      refine sm_mono (cav_sub gI_sub) (sm_callV (pc := 38) (N := 9) (T := TX5) (C := RX5) G hb ho hy he hE.1 1 [0, 1, 2, 3, 4, 5, 6, 7, 8, 9, 10] (kX5_readFlow hE N) (gCo_of (by decide +kernel)) (by rw [hR]; exact ⟨by decide, by decide⟩) rfl rfl (by decide +kernel) gw2_234 gw2_236 gw0_9 gw1_6 gw2_237 (by decide +kernel : decode cX5_readStatement 38 = .ok (.invokevirtual 95, 3)) ?_)
      exact sm_zret (pc := 41) G hb (by decide +kernel : decode cX5_readStatement 41 = .ok (.ireturn, 1)) hr
  · skip
    refine sm_aload_n (pc := 23) G hb (by decide +kernel : decode cX5_readStatement 23 = .ok (.aload_n 0, 1)) rfl ?_
    refine sm_mono (cav_sub gI_sub) (sm_callV (pc := 24) (N := 9) (T := TX5) (C := RX5) G hb ho hy he hE.1 1 [0, 1, 2, 3, 4, 5, 6, 7, 8, 9, 10] (kX5_readConflict hE N) (gCo_of (by decide +kernel)) (by rw [hR]; exact ⟨by decide, by decide⟩) rfl rfl (by decide +kernel) gw2_221 gw2_223 gw0_8 gw1_6 gw2_224 (by decide +kernel : decode cX5_readStatement 24 = .ok (.invokevirtual 90, 3)) ?_)
    exact sm_zret (pc := 27) G hb (by decide +kernel : decode cX5_readStatement 27 = .ok (.ireturn, 1)) hr
set_option maxRecDepth 100000 in
set_option maxHeartbeats 4000000 in
theorem fX5_readStatement_s0 {γ : gG} {cs ss : Nat} {ε : gE5} (N : Nat) (G : gOK γ) (hb : gcc γ = cX5_readStatement) (ho : gow γ = RX5) (hy : gly γ = gyT) (hR : grm γ = { frames := 6, cells := 0, slots := 0, locals := 130 }) (he : genv γ = ε) (hr : grt γ = (some .boolean)) (hE : gEnv ε) : gSm γ cs ss 0 (fX5_readStatement_k0 N) := by
  unfold fX5_readStatement_k0
  refine sm_aload_n (pc := 0) G hb (by decide +kernel : decode cX5_readStatement 0 = .ok (.aload_n 0, 1)) rfl ?_
  refine sm_ldcs (pc := 1) (i := 1) (tx := "link") G hb ho he hE (List.mem_of_getElem? (i := 1) rfl) (by decide +kernel : decode cX5_readStatement 1 = .ok (.ldc 83, 2)) ?_
  refine sm_mono (cav_sub gI_sub) (sm_callV (pc := 3) (N := 9) (T := TX5) (C := RX5) G hb ho hy he hE.1 2 [0, 1, 2, 3, 4, 5, 6, 7, 8, 9, 10] (kX5_isWord hE N) (gCo_of (by decide +kernel)) (by rw [hR]; exact ⟨by decide, by decide⟩) rfl rfl (by decide +kernel) gw2_145 gw2_147 gw0_3 gw1_6 gw2_148 (by decide +kernel : decode cX5_readStatement 3 = .ok (.invokevirtual 71, 3)) ?_)
  refine sm_if_eq (pc := 6) (tgt := 14) G hb (by decide +kernel : decode cX5_readStatement 6 = .ok (.ifCond .eq 8, 3)) (by decide) ?_ ?_
  · skip
    refine sm_aload_n (pc := 14) G hb (by decide +kernel : decode cX5_readStatement 14 = .ok (.aload_n 0, 1)) rfl ?_
    refine sm_ldcs (pc := 15) (i := 2) (tx := "conflict") G hb ho he hE (List.mem_of_getElem? (i := 2) rfl) (by decide +kernel : decode cX5_readStatement 15 = .ok (.ldc 88, 2)) ?_
    refine sm_mono (cav_sub gI_sub) (sm_callV (pc := 17) (N := 9) (T := TX5) (C := RX5) G hb ho hy he hE.1 2 [0, 1, 2, 3, 4, 5, 6, 7, 8, 9, 10] (kX5_isWord hE N) (gCo_of (by decide +kernel)) (by rw [hR]; exact ⟨by decide, by decide⟩) rfl rfl (by decide +kernel) gw2_145 gw2_147 gw0_3 gw1_6 gw2_148 (by decide +kernel : decode cX5_readStatement 17 = .ok (.invokevirtual 71, 3)) ?_)
    refine sm_mask ?_
    exact fX5_readStatement_s20 N G hb ho hy hR he hr hE
  · skip
    refine sm_aload_n (pc := 9) G hb (by decide +kernel : decode cX5_readStatement 9 = .ok (.aload_n 0, 1)) rfl ?_
    refine sm_mono (cav_sub gI_sub) (sm_callV (pc := 10) (N := 9) (T := TX5) (C := RX5) G hb ho hy he hE.1 1 [0, 1, 2, 3, 4, 5, 6, 7, 8, 9, 10] (kX5_readLink hE N) (gCo_of (by decide +kernel)) (by rw [hR]; exact ⟨by decide, by decide⟩) rfl rfl (by decide +kernel) gw2_211 gw2_213 gw0_7 gw1_6 gw2_214 (by decide +kernel : decode cX5_readStatement 10 = .ok (.invokevirtual 85, 3)) ?_)
    exact sm_zret (pc := 13) G hb (by decide +kernel : decode cX5_readStatement 13 = .ok (.ireturn, 1)) hr
theorem kX5_readStatement {ε : gE5} (hE : gEnv ε) (N : Nat) : gCtr ε yX5_readStatement cX5_readStatement 1 (some .boolean) 6 130 gyT (fX5_readStatement N) :=
  gCtr_of hE.1 (by decide) (fun γ G hb ho hy hR he hr => fX5_readStatement_s0 N G hb ho hy hR he hr hE)

set_option maxRecDepth 100000 in
set_option maxHeartbeats 4000000 in
theorem fX5_read_s69 {γ : gG} {cs ss : Nat} {ε : gE5} (N : Nat) (G : gOK γ) (hb : gcc γ = cX5_read) (ho : gow γ = RX5) (hy : gly γ = gyT) (hR : grm γ = { frames := 7, cells := 0, slots := 0, locals := 150 }) (he : genv γ = ε) (hr : grt γ = (some .int)) (hE : gEnv ε) : gSm γ cs ss 69 (fX5_read_k69 N) := by
  unfold fX5_read_k69
  refine sm_aload_n (pc := 69) G hb (by decide +kernel : decode cX5_read 69 = .ok (.aload_n 0, 1)) rfl ?_
  refine sm_get (pc := 70) (ci := 5) (j := 4) (N := 9) (T := TX5) G hb ho hy rfl (by decide) gin_5 gw1_233 (by decide +kernel : decode cX5_read 70 = .ok (.getfield 51, 3)) ?_
  refine sm_if_ne (pc := 73) (tgt := 80) G hb (by decide +kernel : decode cX5_read 73 = .ok (.ifCond .ne 7, 3)) (by decide) ?_ ?_
  · skip
    refine sm_aload_n (pc := 80) G hb (by decide +kernel : decode cX5_read 80 = .ok (.aload_n 0, 1)) rfl ?_
    refine sm_get (pc := 81) (ci := 5) (j := 5) (N := 9) (T := TX5) G hb ho hy rfl (by decide) gin_5 gw1_234 (by decide +kernel : decode cX5_read 81 = .ok (.getfield 42, 3)) ?_
    exact sm_iret (pc := 84) G hb (by decide +kernel : decode cX5_read 84 = .ok (.ireturn, 1)) hr
  · skip
    refine sm_iconst (pc := 76) G hb (by decide +kernel : decode cX5_read 76 = .ok (.iconst (-1), 1)) (by decide) ?_
    refine sm_goto (pc := 77) (tgt := 84) G hb (by decide +kernel : decode cX5_read 77 = .ok (.goto 7, 3)) (by decide) ?_
    exact sm_iret (pc := 84) G hb (by decide +kernel : decode cX5_read 84 = .ok (.ireturn, 1)) hr
set_option maxRecDepth 100000 in
set_option maxHeartbeats 4000000 in
theorem fX5_read_s55 {γ : gG} {cs ss : Nat} {ε : gE5} (N : Nat) (G : gOK γ) (hb : gcc γ = cX5_read) (ho : gow γ = RX5) (hy : gly γ = gyT) (hR : grm γ = { frames := 7, cells := 0, slots := 0, locals := 150 }) (he : genv γ = ε) (hr : grt γ = (some .int)) (hE : gEnv ε) (K33 : gK) (h33 : gSm γ cs ss 33 K33) : gSm γ cs ss 55 (fX5_read_k55 N K33) := by
  unfold fX5_read_k55
  refine sm_if_ne (pc := 55) (tgt := 63) G hb (by decide +kernel : decode cX5_read 55 = .ok (.ifCond .ne 8, 3)) (by decide) ?_ ?_
  · skip
    refine sm_iinc (pc := 63) G hb (by decide +kernel : decode cX5_read 63 = .ok (.iinc 1 1, 3)) (by decide) ?_
    refine sm_goto (pc := 66) (tgt := 33) G hb (by decide +kernel : decode cX5_read 66 = .ok (.goto (-33), 3)) (by decide) ?_
    refine sm_mask ?_
    exact h33
  · skip
    refine sm_aload_n (pc := 58) G hb (by decide +kernel : decode cX5_read 58 = .ok (.aload_n 0, 1)) rfl ?_
    refine sm_get (pc := 59) (ci := 5) (j := 5) (N := 9) (T := TX5) G hb ho hy rfl (by decide) gin_5 gw1_234 (by decide +kernel : decode cX5_read 59 = .ok (.getfield 42, 3)) ?_
    exact sm_iret (pc := 62) G hb (by decide +kernel : decode cX5_read 62 = .ok (.ireturn, 1)) hr
set_option maxRecDepth 100000 in
set_option maxHeartbeats 4000000 in
theorem fX5_read_s33 {γ : gG} {cs ss : Nat} {ε : gE5} (N : Nat) (G : gOK γ) (hb : gcc γ = cX5_read) (ho : gow γ = RX5) (hy : gly γ = gyT) (hR : grm γ = { frames := 7, cells := 0, slots := 0, locals := 150 }) (he : genv γ = ε) (hr : grt γ = (some .int)) (hE : gEnv ε) : gSm γ cs ss 33 (fX5_read_k33 N) := by
  unfold fX5_read_k33
  refine sm_lp (fun K33 h33 => ?_) N
  unfold fX5_read_b33
  refine sm_iload_n (pc := 33) G hb (by decide +kernel : decode cX5_read 33 = .ok (.iload_n 1, 1)) rfl ?_
  refine sm_sipush (pc := 34) G hb (by decide +kernel : decode cX5_read 34 = .ok (.sipush 700, 3)) (by decide) ?_
  refine sm_icmp_ge (pc := 37) (tgt := 69) G hb (by decide +kernel : decode cX5_read 37 = .ok (.if_icmp .ge 32, 3)) (by decide) ?_ ?_
  · skip
    refine sm_mask ?_
    exact fX5_read_s69 N G hb ho hy hR he hr hE
  · skip
    refine sm_aload_n (pc := 40) G hb (by decide +kernel : decode cX5_read 40 = .ok (.aload_n 0, 1)) rfl ?_
    refine sm_mono (cav_sub gI_sub) (sm_callV (pc := 41) (N := 9) (T := TX5) (C := RX5) G hb ho hy he hE.1 1 [0, 1, 2, 3, 4, 5, 6, 7, 8, 9, 10] (kX5_isSemicolon hE N) (gCo_of (by decide +kernel)) (by rw [hR]; exact ⟨by decide, by decide⟩) rfl rfl (by decide +kernel) gw2_202 gw2_204 gw0_5 gw1_6 gw2_205 (by decide +kernel : decode cX5_read 41 = .ok (.invokevirtual 45, 3)) ?_)
    refine sm_if_eq (pc := 44) (tgt := 69) G hb (by decide +kernel : decode cX5_read 44 = .ok (.ifCond .eq 25, 3)) (by decide) ?_ ?_
    · skip
      refine sm_mask ?_
      exact fX5_read_s69 N G hb ho hy hR he hr hE
    · skip
      refine sm_aload_n (pc := 47) G hb (by decide +kernel : decode cX5_read 47 = .ok (.aload_n 0, 1)) rfl ?_
      refine sm_mono (cav_sub gV_sub) (sm_callV (pc := 48) (N := 9) (T := TX5) (C := RX5) G hb ho hy he hE.1 1 [0, 1, 2, 3, 4, 5, 6, 7, 8, 9, 10] (kX5_nextToken hE N) (gCo_of (by decide +kernel)) (by rw [hR]; exact ⟨by decide, by decide⟩) rfl rfl (by decide +kernel) gw2_133 gw2_135 gw0_1 gw1_6 gw2_136 (by decide +kernel : decode cX5_read 48 = .ok (.invokevirtual 35, 3)) ?_)
      refine sm_aload_n (pc := 51) G hb (by decide +kernel : decode cX5_read 51 = .ok (.aload_n 0, 1)) rfl ?_
      refine sm_mono (cav_sub gI_sub) (sm_callV (pc := 52) (N := 9) (T := TX5) (C := RX5) G hb ho hy he hE.1 1 [0, 1, 2, 3, 4, 5, 6, 7, 8, 9, 10] (kX5_readStatement hE N) (gCo_of (by decide +kernel)) (by rw [hR]; exact ⟨by decide, by decide⟩) rfl rfl (by decide +kernel) gw2_206 gw2_208 gw0_6 gw1_6 gw2_209 (by decide +kernel : decode cX5_read 52 = .ok (.invokevirtual 48, 3)) ?_)
      refine sm_mask ?_
      exact fX5_read_s55 N G hb ho hy hR he hr hE K33 h33
set_option maxRecDepth 100000 in
set_option maxHeartbeats 4000000 in
theorem fX5_read_s0 {γ : gG} {cs ss : Nat} {ε : gE5} (N : Nat) (G : gOK γ) (hb : gcc γ = cX5_read) (ho : gow γ = RX5) (hy : gly γ = gyT) (hR : grm γ = { frames := 7, cells := 0, slots := 0, locals := 150 }) (he : genv γ = ε) (hr : grt γ = (some .int)) (hE : gEnv ε) : gSm γ cs ss 0 (fX5_read_k0 N) := by
  unfold fX5_read_k0
  refine sm_aload_n (pc := 0) G hb (by decide +kernel : decode cX5_read 0 = .ok (.aload_n 0, 1)) rfl ?_
  refine sm_iconst (pc := 1) G hb (by decide +kernel : decode cX5_read 1 = .ok (.iconst 0, 1)) (by decide) ?_
  refine sm_put (pc := 2) (ci := 5) (j := 3) (N := 9) (T := TX5) G hb ho hy tyX5 tyX5_ok nmX5 rfl (by decide) gin_5 gw1_232 rfl rfl (by decide +kernel : decode cX5_read 2 = .ok (.putfield 26, 3)) ?_
  refine sm_aload_n (pc := 5) G hb (by decide +kernel : decode cX5_read 5 = .ok (.aload_n 0, 1)) rfl ?_
  refine sm_iconst (pc := 6) G hb (by decide +kernel : decode cX5_read 6 = .ok (.iconst 0, 1)) (by decide) ?_
  refine sm_put (pc := 7) (ci := 5) (j := 7) (N := 9) (T := TX5) G hb ho hy tyX5 tyX5_ok nmX5 rfl (by decide) gin_5 gw1_236 rfl rfl (by decide +kernel : decode cX5_read 7 = .ok (.putfield 29, 3)) ?_
  refine sm_aload_n (pc := 10) G hb (by decide +kernel : decode cX5_read 10 = .ok (.aload_n 0, 1)) rfl ?_
  refine sm_iconst (pc := 11) G hb (by decide +kernel : decode cX5_read 11 = .ok (.iconst 0, 1)) (by decide) ?_
  refine sm_put (pc := 12) (ci := 5) (j := 8) (N := 9) (T := TX5) G hb ho hy tyX5 tyX5_ok nmX5 rfl (by decide) gin_5 gw1_237 rfl rfl (by decide +kernel : decode cX5_read 12 = .ok (.putfield 32, 3)) ?_
  refine sm_aload_n (pc := 15) G hb (by decide +kernel : decode cX5_read 15 = .ok (.aload_n 0, 1)) rfl ?_
  refine sm_mono (cav_sub gV_sub) (sm_callV (pc := 16) (N := 9) (T := TX5) (C := RX5) G hb ho hy he hE.1 1 [0, 1, 2, 3, 4, 5, 6, 7, 8, 9, 10] (kX5_nextToken hE N) (gCo_of (by decide +kernel)) (by rw [hR]; exact ⟨by decide, by decide⟩) rfl rfl (by decide +kernel) gw2_133 gw2_135 gw0_1 gw1_6 gw2_136 (by decide +kernel : decode cX5_read 16 = .ok (.invokevirtual 35, 3)) ?_)
  refine sm_aload_n (pc := 19) G hb (by decide +kernel : decode cX5_read 19 = .ok (.aload_n 0, 1)) rfl ?_
  refine sm_mono (cav_sub gI_sub) (sm_callV (pc := 20) (N := 9) (T := TX5) (C := RX5) G hb ho hy he hE.1 1 [0, 1, 2, 3, 4, 5, 6, 7, 8, 9, 10] (kX5_readNodes hE N) (gCo_of (by decide +kernel)) (by rw [hR]; exact ⟨by decide, by decide⟩) rfl rfl (by decide +kernel) gw2_140 gw2_142 gw0_2 gw1_6 gw2_143 (by decide +kernel : decode cX5_read 20 = .ok (.invokevirtual 38, 3)) ?_)
  refine sm_if_ne (pc := 23) (tgt := 31) G hb (by decide +kernel : decode cX5_read 23 = .ok (.ifCond .ne 8, 3)) (by decide) ?_ ?_
  · skip
    refine sm_iconst (pc := 31) G hb (by decide +kernel : decode cX5_read 31 = .ok (.iconst 0, 1)) (by decide) ?_
    refine sm_istore_n (pc := 32) G hb (by decide +kernel : decode cX5_read 32 = .ok (.istore_n 1, 1)) rfl ?_
    refine sm_mask ?_
    exact fX5_read_s33 N G hb ho hy hR he hr hE
  · skip
    refine sm_aload_n (pc := 26) G hb (by decide +kernel : decode cX5_read 26 = .ok (.aload_n 0, 1)) rfl ?_
    refine sm_get (pc := 27) (ci := 5) (j := 5) (N := 9) (T := TX5) G hb ho hy rfl (by decide) gin_5 gw1_234 (by decide +kernel : decode cX5_read 27 = .ok (.getfield 42, 3)) ?_
    exact sm_iret (pc := 30) G hb (by decide +kernel : decode cX5_read 30 = .ok (.ireturn, 1)) hr
theorem kX5_read {ε : gE5} (hE : gEnv ε) (N : Nat) : gCtr ε yX5_read cX5_read 2 (some .int) 7 150 gyT (fX5_read N) :=
  gCtr_of hE.1 (by decide) (fun γ G hb ho hy hR he hr => fX5_read_s0 N G hb ho hy hR he hr hE)
