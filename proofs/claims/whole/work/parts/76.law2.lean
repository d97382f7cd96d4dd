set_option maxRecDepth 100000 in
set_option maxHeartbeats 8000000 in
theorem fL_law_s2794 {γ : gG} {cs ss c2 s2 : Nat} {ε : gE5} (N SL : Nat) (SX : Nat → Int32) (G : gOK γ) (hb : gcc γ = code) (ho : gow γ = RL) (hy : gly γ = gyL) (hR : grm γ = room_1) (he : genv γ = ε) (hr : grt γ = some .boolean) (hE : gEnv ε) (hEL : gEnvL ε) (hSc : gSc ε SL SX) (hc9 : cs + 0 ≤ c2 ∧ ss + 0 ≤ s2 ∧ c2 ≤ 601024 ∧ s2 ≤ 7293033) (K23 : gK) (h23 : gSm γ c2 s2 23 K23) : gSm γ cs ss 2794 (fL_law_k2794 N SL SX K23) := by
  unfold fL_law_k2794
  refine sm_iinc (pc := 2794) G hb (by decide +kernel : decode code 2794 = .ok (.iinc 4 6, 3)) (by decide) ?_
  refine sm_goto (pc := 2797) (tgt := 23) G hb (by decide +kernel : decode code 2797 = .ok (.goto (-2774), 3)) (by decide) ?_
  refine sm_mask ?_
  exact sm_widen (by omega) (by omega) ⟨by rw [hR]; show _ ≤ 601024; omega, by rw [hR]; show _ ≤ 7293033; omega⟩ h23
set_option maxRecDepth 100000 in
set_option maxHeartbeats 8000000 in
theorem fL_law_s329 {γ : gG} {cs ss c2 s2 : Nat} {ε : gE5} (N SL : Nat) (SX : Nat → Int32) (G : gOK γ) (hb : gcc γ = code) (ho : gow γ = RL) (hy : gly γ = gyL) (hR : grm γ = room_1) (he : genv γ = ε) (hr : grt γ = some .boolean) (hE : gEnv ε) (hEL : gEnvL ε) (hSc : gSc ε SL SX) (hc9 : cs + 0 ≤ c2 ∧ ss + 0 ≤ s2 ∧ c2 ≤ 601024 ∧ s2 ≤ 7293033) (K23 : gK) (h23 : gSm γ c2 s2 23 K23) : gSm γ cs ss 329 (fL_law_k329 N SL SX K23) := by
  unfold fL_law_k329
  refine sm_goto (pc := 329) (tgt := 2794) G hb (by decide +kernel : decode code 329 = .ok (.goto 2465, 3)) (by decide) ?_
  refine sm_mask ?_
  exact fL_law_s2794 N SL SX G hb ho hy hR he hr hE hEL hSc (by omega) K23 h23
set_option maxRecDepth 100000 in
set_option maxHeartbeats 8000000 in
theorem fL_law_s305 {γ : gG} {cs ss c2 s2 : Nat} {ε : gE5} (N SL : Nat) (SX : Nat → Int32) (G : gOK γ) (hb : gcc γ = code) (ho : gow γ = RL) (hy : gly γ = gyL) (hR : grm γ = room_1) (he : genv γ = ε) (hr : grt γ = some .boolean) (hE : gEnv ε) (hEL : gEnvL ε) (hSc : gSc ε SL SX) (hc9 : cs + 0 ≤ c2 ∧ ss + 0 ≤ s2 ∧ c2 ≤ 601024 ∧ s2 ≤ 7293033) (K23 : gK) (h23 : gSm γ c2 s2 23 K23) : gSm γ cs ss 305 (fL_law_k305 N SL SX K23) := by
  unfold fL_law_k305
  refine sm_iload (pc := 305) G hb (by decide +kernel : decode code 305 = .ok (.iload 5, 2)) ?_
  refine sm_icmp_eq (pc := 307) (tgt := 312) G hb (by decide +kernel : decode code 307 = .ok (.if_icmp .eq 5, 3)) (by decide) ?_ ?_
  · skip
    refine sm_iload (pc := 312) G hb (by decide +kernel : decode code 312 = .ok (.iload 5, 2)) ?_
    refine sm_if_ne (pc := 314) (tgt := 329) G hb (by decide +kernel : decode code 314 = .ok (.ifCond .ne 15, 3)) (by decide) ?_ ?_
    · skip
      refine sm_mask ?_
      exact fL_law_s329 N SL SX G hb ho hy hR he hr hE hEL hSc (by omega) K23 h23
    · skip
      refine sm_aload_n (pc := 317) G hb (by decide +kernel : decode code 317 = .ok (.aload_n 3, 1)) rfl ?_
      refine sm_iconst (pc := 318) G hb (by decide +kernel : decode code 318 = .ok (.iconst 0, 1)) (by decide) ?_
      refine sm_lald (pc := 319) G hb hy (by decide +kernel : decode code 319 = .ok (.laload, 1)) ?_
      refine sm_iload (pc := 320) G hb (by decide +kernel : decode code 320 = .ok (.iload 6, 2)) ?_
      refine sm_i2l (pc := 322) G hb (by decide +kernel : decode code 322 = .ok (.i2l, 1)) ?_
      refine sm_lcmp (pc := 323) G hb (by decide +kernel : decode code 323 = .ok (.lcmp, 1)) ?_
      refine sm_if_eq (pc := 324) (tgt := 329) G hb (by decide +kernel : decode code 324 = .ok (.ifCond .eq 5, 3)) (by decide) ?_ ?_
      · skip
        refine sm_mask ?_
        exact fL_law_s329 N SL SX G hb ho hy hR he hr hE hEL hSc (by omega) K23 h23
      · skip
        refine sm_iconst (pc := 327) G hb (by decide +kernel : decode code 327 = .ok (.iconst 0, 1)) (by decide) ?_
        exact sm_zret (pc := 328) G hb (by decide +kernel : decode code 328 = .ok (.ireturn, 1)) hr
  · skip
    refine sm_iconst (pc := 310) G hb (by decide +kernel : decode code 310 = .ok (.iconst 0, 1)) (by decide) ?_
    exact sm_zret (pc := 311) G hb (by decide +kernel : decode code 311 = .ok (.ireturn, 1)) hr
set_option maxRecDepth 100000 in
set_option maxHeartbeats 8000000 in
theorem fL_law_s228 {γ : gG} {cs ss c2 s2 : Nat} {ε : gE5} (N SL : Nat) (SX : Nat → Int32) (G : gOK γ) (hb : gcc γ = code) (ho : gow γ = RL) (hy : gly γ = gyL) (hR : grm γ = room_1) (he : genv γ = ε) (hr : grt γ = some .boolean) (hE : gEnv ε) (hEL : gEnvL ε) (hSc : gSc ε SL SX) (hc9 : cs + 1 ≤ c2 ∧ ss + 6 ≤ s2 ∧ c2 ≤ 601024 ∧ s2 ≤ 7293033) (K23 : gK) (h23 : gSm γ c2 s2 23 K23) : gSm γ cs ss 228 (fL_law_k228 N SL SX K23) := by
  unfold fL_law_k228
  refine sm_aload_n (pc := 228) G hb (by decide +kernel : decode code 228 = .ok (.aload_n 1, 1)) rfl ?_
  refine sm_aload_n (pc := 229) G hb (by decide +kernel : decode code 229 = .ok (.aload_n 0, 1)) rfl ?_
  refine sm_iload (pc := 230) G hb (by decide +kernel : decode code 230 = .ok (.iload 4, 2)) ?_
  refine sm_iconst (pc := 232) G hb (by decide +kernel : decode code 232 = .ok (.iconst 1, 1)) (by decide) ?_
  refine sm_iadd (pc := 233) G hb (by decide +kernel : decode code 233 = .ok (.iadd, 1)) ?_
  refine sm_sld (pc := 234) G hb ho he hE hSc (by decide +kernel : decode code 234 = .ok (.iaload, 1)) ?_
  refine sm_aload_n (pc := 235) G hb (by decide +kernel : decode code 235 = .ok (.aload_n 0, 1)) rfl ?_
  refine sm_iload (pc := 236) G hb (by decide +kernel : decode code 236 = .ok (.iload 4, 2)) ?_
  refine sm_iconst (pc := 238) G hb (by decide +kernel : decode code 238 = .ok (.iconst 2, 1)) (by decide) ?_
  refine sm_iadd (pc := 239) G hb (by decide +kernel : decode code 239 = .ok (.iadd, 1)) ?_
  refine sm_sld (pc := 240) G hb ho he hE hSc (by decide +kernel : decode code 240 = .ok (.iaload, 1)) ?_
  refine sm_aload_n (pc := 241) G hb (by decide +kernel : decode code 241 = .ok (.aload_n 0, 1)) rfl ?_
  refine sm_iload (pc := 242) G hb (by decide +kernel : decode code 242 = .ok (.iload 4, 2)) ?_
  refine sm_iconst (pc := 244) G hb (by decide +kernel : decode code 244 = .ok (.iconst 3, 1)) (by decide) ?_
  refine sm_iadd (pc := 245) G hb (by decide +kernel : decode code 245 = .ok (.iadd, 1)) ?_
  refine sm_sld (pc := 246) G hb ho he hE hSc (by decide +kernel : decode code 246 = .ok (.iaload, 1)) ?_
  refine sm_aload_n (pc := 247) G hb (by decide +kernel : decode code 247 = .ok (.aload_n 0, 1)) rfl ?_
  refine sm_iload (pc := 248) G hb (by decide +kernel : decode code 248 = .ok (.iload 4, 2)) ?_
  refine sm_iconst (pc := 250) G hb (by decide +kernel : decode code 250 = .ok (.iconst 4, 1)) (by decide) ?_
  refine sm_iadd (pc := 251) G hb (by decide +kernel : decode code 251 = .ok (.iadd, 1)) ?_
  refine sm_sld (pc := 252) G hb ho he hE hSc (by decide +kernel : decode code 252 = .ok (.iaload, 1)) ?_
  refine sm_aload_n (pc := 253) G hb (by decide +kernel : decode code 253 = .ok (.aload_n 0, 1)) rfl ?_
  refine sm_iload (pc := 254) G hb (by decide +kernel : decode code 254 = .ok (.iload 4, 2)) ?_
  refine sm_iconst (pc := 256) G hb (by decide +kernel : decode code 256 = .ok (.iconst 5, 1)) (by decide) ?_
  refine sm_iadd (pc := 257) G hb (by decide +kernel : decode code 257 = .ok (.iadd, 1)) ?_
  refine sm_sld (pc := 258) G hb ho he hE hSc (by decide +kernel : decode code 258 = .ok (.iaload, 1)) ?_
  refine sm_aload_n (pc := 259) G hb (by decide +kernel : decode code 259 = .ok (.aload_n 3, 1)) rfl ?_
  refine sm_mono (ca_sub gI_sub) (sm_callW (pc := 260) G hb ho hy he hE.1 7 [0, 1, 2, 3, 4, 5, 6, 7, 8, 9, 10, 11, 12, 13, 14, 15, 16, 17, 18, 19, 20, 21, 22, 23, 24, 25, 26, 27, 28, 29, 30, 31, 32, 33, 34, 35, 36, 37, 38, 39, 40, 41, 42, 43, 44, 45, 46, 47, 48, 49, 50, 51, 52, 53, 54, 55, 56, 57, 58, 59, 60, 61, 62, 63, 64, 65, 66, 67, 68, 69, 70, 71, 72, 73, 74, 75, 76, 77, 78, 79, 80, 81, 82, 83, 84, 85, 86, 87, 88, 89, 90, 91, 92, 93, 94, 95, 96, 97, 98, 99, 100, 101, 102, 103, 104, 105, 106, 107, 108, 109, 110, 111, 112, 113, 114, 115, 116, 117, 118, 119, 120, 121, 122, 123, 124, 125, 126, 127, 128, 129, 130, 131, 132, 133, 134, 135, 136, 137, 138, 139, 140, 141, 142, 143, 144, 145, 146, 147, 148, 149, 150, 151, 152, 153, 154, 155, 156, 157, 158, 159, 160, 161, 162, 163, 164, 165, 166, 167, 168, 169, 170, 171, 172, 173, 174, 175, 176, 177, 178, 179, 180, 181, 182, 183, 184, 185, 186, 187, 188, 189, 190, 191, 192, 193, 194, 195, 196, 197, 198, 199, 200, 201, 202, 203, 222] (kL_append hEL N) (gCo_of (by decide +kernel)) (by rw [hR]; exact ⟨by decide, by decide⟩) (by rw [hR]; exact ⟨by show _ ≤ 601024; omega, by show _ ≤ 7293033; omega⟩) (by decide +kernel) gw3_93 gw3_94 gw1_0 gw3_95 (by decide +kernel : decode code 260 = .ok (.invokestatic 145, 3)) ?_)
  refine sm_istore (pc := 263) G hb (by decide +kernel : decode code 263 = .ok (.istore 5, 2)) ?_
  refine sm_aload_n (pc := 265) G hb (by decide +kernel : decode code 265 = .ok (.aload_n 2, 1)) rfl ?_
  refine sm_aload_n (pc := 266) G hb (by decide +kernel : decode code 266 = .ok (.aload_n 0, 1)) rfl ?_
  refine sm_iload (pc := 267) G hb (by decide +kernel : decode code 267 = .ok (.iload 4, 2)) ?_
  refine sm_iconst (pc := 269) G hb (by decide +kernel : decode code 269 = .ok (.iconst 1, 1)) (by decide) ?_
  refine sm_iadd (pc := 270) G hb (by decide +kernel : decode code 270 = .ok (.iadd, 1)) ?_
  refine sm_sld (pc := 271) G hb ho he hE hSc (by decide +kernel : decode code 271 = .ok (.iaload, 1)) ?_
  refine sm_aload_n (pc := 272) G hb (by decide +kernel : decode code 272 = .ok (.aload_n 0, 1)) rfl ?_
  refine sm_iload (pc := 273) G hb (by decide +kernel : decode code 273 = .ok (.iload 4, 2)) ?_
  refine sm_iconst (pc := 275) G hb (by decide +kernel : decode code 275 = .ok (.iconst 2, 1)) (by decide) ?_
  refine sm_iadd (pc := 276) G hb (by decide +kernel : decode code 276 = .ok (.iadd, 1)) ?_
  refine sm_sld (pc := 277) G hb ho he hE hSc (by decide +kernel : decode code 277 = .ok (.iaload, 1)) ?_
  refine sm_aload_n (pc := 278) G hb (by decide +kernel : decode code 278 = .ok (.aload_n 0, 1)) rfl ?_
  refine sm_iload (pc := 279) G hb (by decide +kernel : decode code 279 = .ok (.iload 4, 2)) ?_
  refine sm_iconst (pc := 281) G hb (by decide +kernel : decode code 281 = .ok (.iconst 3, 1)) (by decide) ?_
  refine sm_iadd (pc := 282) G hb (by decide +kernel : decode code 282 = .ok (.iadd, 1)) ?_
  refine sm_sld (pc := 283) G hb ho he hE hSc (by decide +kernel : decode code 283 = .ok (.iaload, 1)) ?_
  refine sm_aload_n (pc := 284) G hb (by decide +kernel : decode code 284 = .ok (.aload_n 0, 1)) rfl ?_
  refine sm_iload (pc := 285) G hb (by decide +kernel : decode code 285 = .ok (.iload 4, 2)) ?_
  refine sm_iconst (pc := 287) G hb (by decide +kernel : decode code 287 = .ok (.iconst 4, 1)) (by decide) ?_
  refine sm_iadd (pc := 288) G hb (by decide +kernel : decode code 288 = .ok (.iadd, 1)) ?_
  refine sm_sld (pc := 289) G hb ho he hE hSc (by decide +kernel : decode code 289 = .ok (.iaload, 1)) ?_
  refine sm_aload_n (pc := 290) G hb (by decide +kernel : decode code 290 = .ok (.aload_n 0, 1)) rfl ?_
  refine sm_iload (pc := 291) G hb (by decide +kernel : decode code 291 = .ok (.iload 4, 2)) ?_
  refine sm_iconst (pc := 293) G hb (by decide +kernel : decode code 293 = .ok (.iconst 5, 1)) (by decide) ?_
  refine sm_iadd (pc := 294) G hb (by decide +kernel : decode code 294 = .ok (.iadd, 1)) ?_
  refine sm_sld (pc := 295) G hb ho he hE hSc (by decide +kernel : decode code 295 = .ok (.iaload, 1)) ?_
  refine sm_mono (cav_sub gI_sub) (sm_callV (pc := 296) (N := 32) (T := TX9) (C := RX9) G hb ho hy he hE.1 6 [204, 205, 206, 207, 208, 209, 210, 211, 212, 213, 214, 215, 216, 217, 218, 219, 220, 221] (kX9_append hE N) (gCo_of (by decide +kernel)) (by rw [hR]; exact ⟨by decide, by decide⟩) rfl rfl (by decide +kernel) gw6_98 gw6_99 gw6_100 gw1_11 gw6_101 (by decide +kernel : decode code 296 = .ok (.invokevirtual 150, 3)) ?_)
  refine sm_istore (pc := 299) G hb (by decide +kernel : decode code 299 = .ok (.istore 6, 2)) ?_
  refine sm_aload_n (pc := 301) G hb (by decide +kernel : decode code 301 = .ok (.aload_n 2, 1)) rfl ?_
  refine sm_mono (cav_sub gI_sub) (sm_callV (pc := 302) (N := 32) (T := TX9) (C := RX9) G hb ho hy he hE.1 1 [204, 205, 206, 207, 208, 209, 210, 211, 212, 213, 214, 215, 216, 217, 218, 219, 220, 221] (kX9_thrown hE N) (gCo_of (by decide +kernel)) (by rw [hR]; exact ⟨by decide, by decide⟩) rfl rfl (by decide +kernel) gw6_94 gw6_95 gw6_96 gw1_11 gw6_97 (by decide +kernel : decode code 302 = .ok (.invokevirtual 151, 3)) ?_)
  refine sm_mask ?_
  exact fL_law_s305 N SL SX G hb ho hy hR he hr hE hEL hSc (by omega) K23 h23
set_option maxRecDepth 100000 in
set_option maxHeartbeats 8000000 in
theorem fL_law_s385 {γ : gG} {cs ss c2 s2 : Nat} {ε : gE5} (N SL : Nat) (SX : Nat → Int32) (G : gOK γ) (hb : gcc γ = code) (ho : gow γ = RL) (hy : gly γ = gyL) (hR : grm γ = room_1) (he : genv γ = ε) (hr : grt γ = some .boolean) (hE : gEnv ε) (hEL : gEnvL ε) (hSc : gSc ε SL SX) (hc9 : cs + 0 ≤ c2 ∧ ss + 0 ≤ s2 ∧ c2 ≤ 601024 ∧ s2 ≤ 7293033) (K23 : gK) (h23 : gSm γ c2 s2 23 K23) : gSm γ cs ss 385 (fL_law_k385 N SL SX K23) := by
  unfold fL_law_k385
  refine sm_goto (pc := 385) (tgt := 2794) G hb (by decide +kernel : decode code 385 = .ok (.goto 2409, 3)) (by decide) ?_
  refine sm_mask ?_
  exact fL_law_s2794 N SL SX G hb ho hy hR he hr hE hEL hSc (by omega) K23 h23
set_option maxRecDepth 100000 in
set_option maxHeartbeats 8000000 in
theorem fL_law_s361 {γ : gG} {cs ss c2 s2 : Nat} {ε : gE5} (N SL : Nat) (SX : Nat → Int32) (G : gOK γ) (hb : gcc γ = code) (ho : gow γ = RL) (hy : gly γ = gyL) (hR : grm γ = room_1) (he : genv γ = ε) (hr : grt γ = some .boolean) (hE : gEnv ε) (hEL : gEnvL ε) (hSc : gSc ε SL SX) (hc9 : cs + 0 ≤ c2 ∧ ss + 0 ≤ s2 ∧ c2 ≤ 601024 ∧ s2 ≤ 7293033) (K23 : gK) (h23 : gSm γ c2 s2 23 K23) : gSm γ cs ss 361 (fL_law_k361 N SL SX K23) := by
  unfold fL_law_k361
  refine sm_iload (pc := 361) G hb (by decide +kernel : decode code 361 = .ok (.iload 5, 2)) ?_
  refine sm_icmp_eq (pc := 363) (tgt := 368) G hb (by decide +kernel : decode code 363 = .ok (.if_icmp .eq 5, 3)) (by decide) ?_ ?_
  · skip
    refine sm_iload (pc := 368) G hb (by decide +kernel : decode code 368 = .ok (.iload 5, 2)) ?_
    refine sm_if_ne (pc := 370) (tgt := 385) G hb (by decide +kernel : decode code 370 = .ok (.ifCond .ne 15, 3)) (by decide) ?_ ?_
    · skip
      refine sm_mask ?_
      exact fL_law_s385 N SL SX G hb ho hy hR he hr hE hEL hSc (by omega) K23 h23
    · skip
      refine sm_aload_n (pc := 373) G hb (by decide +kernel : decode code 373 = .ok (.aload_n 3, 1)) rfl ?_
      refine sm_iconst (pc := 374) G hb (by decide +kernel : decode code 374 = .ok (.iconst 0, 1)) (by decide) ?_
      refine sm_lald (pc := 375) G hb hy (by decide +kernel : decode code 375 = .ok (.laload, 1)) ?_
      refine sm_iload (pc := 376) G hb (by decide +kernel : decode code 376 = .ok (.iload 6, 2)) ?_
      refine sm_i2l (pc := 378) G hb (by decide +kernel : decode code 378 = .ok (.i2l, 1)) ?_
      refine sm_lcmp (pc := 379) G hb (by decide +kernel : decode code 379 = .ok (.lcmp, 1)) ?_
      refine sm_if_eq (pc := 380) (tgt := 385) G hb (by decide +kernel : decode code 380 = .ok (.ifCond .eq 5, 3)) (by decide) ?_ ?_
      · skip
        refine sm_mask ?_
        exact fL_law_s385 N SL SX G hb ho hy hR he hr hE hEL hSc (by omega) K23 h23
      · skip
        refine sm_iconst (pc := 383) G hb (by decide +kernel : decode code 383 = .ok (.iconst 0, 1)) (by decide) ?_
        exact sm_zret (pc := 384) G hb (by decide +kernel : decode code 384 = .ok (.ireturn, 1)) hr
  · skip
    refine sm_iconst (pc := 366) G hb (by decide +kernel : decode code 366 = .ok (.iconst 0, 1)) (by decide) ?_
    exact sm_zret (pc := 367) G hb (by decide +kernel : decode code 367 = .ok (.ireturn, 1)) hr
set_option maxRecDepth 100000 in
set_option maxHeartbeats 8000000 in
theorem fL_law_s332 {γ : gG} {cs ss c2 s2 : Nat} {ε : gE5} (N SL : Nat) (SX : Nat → Int32) (G : gOK γ) (hb : gcc γ = code) (ho : gow γ = RL) (hy : gly γ = gyL) (hR : grm γ = room_1) (he : genv γ = ε) (hr : grt γ = some .boolean) (hE : gEnv ε) (hEL : gEnvL ε) (hSc : gSc ε SL SX) (hc9 : cs + 1 ≤ c2 ∧ ss + 6 ≤ s2 ∧ c2 ≤ 601024 ∧ s2 ≤ 7293033) (K23 : gK) (h23 : gSm γ c2 s2 23 K23) : gSm γ cs ss 332 (fL_law_k332 N SL SX K23) := by
  unfold fL_law_k332
  refine sm_aload_n (pc := 332) G hb (by decide +kernel : decode code 332 = .ok (.aload_n 1, 1)) rfl ?_
  refine sm_aload_n (pc := 333) G hb (by decide +kernel : decode code 333 = .ok (.aload_n 0, 1)) rfl ?_
  refine sm_iload (pc := 334) G hb (by decide +kernel : decode code 334 = .ok (.iload 4, 2)) ?_
  refine sm_iconst (pc := 336) G hb (by decide +kernel : decode code 336 = .ok (.iconst 1, 1)) (by decide) ?_
  refine sm_iadd (pc := 337) G hb (by decide +kernel : decode code 337 = .ok (.iadd, 1)) ?_
  refine sm_sld (pc := 338) G hb ho he hE hSc (by decide +kernel : decode code 338 = .ok (.iaload, 1)) ?_
  refine sm_aload_n (pc := 339) G hb (by decide +kernel : decode code 339 = .ok (.aload_n 3, 1)) rfl ?_
  refine sm_mono (ca_sub gI_sub) (sm_callW (pc := 340) G hb ho hy he hE.1 3 [0, 1, 2, 3, 4, 5, 6, 7, 8, 9, 10, 11, 12, 13, 14, 15, 16, 17, 18, 19, 20, 21, 22, 23, 24, 25, 26, 27, 28, 29, 30, 31, 32, 33, 34, 35, 36, 37, 38, 39, 40, 41, 42, 43, 44, 45, 46, 47, 48, 49, 50, 51, 52, 53, 54, 55, 56, 57, 58, 59, 60, 61, 62, 63, 64, 65, 66, 67, 68, 69, 70, 71, 72, 73, 74, 75, 76, 77, 78, 79, 80, 81, 82, 83, 84, 85, 86, 87, 88, 89, 90, 91, 92, 93, 94, 95, 96, 97, 98, 99, 100, 101, 102, 103, 104, 105, 106, 107, 108, 109, 110, 111, 112, 113, 114, 115, 116, 117, 118, 119, 120, 121, 122, 123, 124, 125, 126, 127, 128, 129, 130, 131, 132, 133, 134, 135, 136, 137, 138, 139, 140, 141, 142, 143, 144, 145, 146, 147, 148, 149, 150, 151, 152, 153, 154, 155, 156, 157, 158, 159, 160, 161, 162, 163, 164, 165, 166, 167, 168, 169, 170, 171, 172, 173, 174, 175, 176, 177, 178, 179, 180, 181, 182, 183, 184, 185, 186, 187, 188, 189, 190, 191, 192, 193, 194, 195, 196, 197, 198, 199, 200, 201, 202, 203, 222] (kL_truncate hEL N) (gCo_of (by decide +kernel)) (by rw [hR]; exact ⟨by decide, by decide⟩) (by rw [hR]; exact ⟨by show _ ≤ 601024; omega, by show _ ≤ 7293033; omega⟩) (by decide +kernel) gw3_176 gw3_177 gw1_0 gw3_178 (by decide +kernel : decode code 340 = .ok (.invokestatic 154, 3)) ?_)
  refine sm_istore (pc := 343) G hb (by decide +kernel : decode code 343 = .ok (.istore 5, 2)) ?_
  refine sm_aload_n (pc := 345) G hb (by decide +kernel : decode code 345 = .ok (.aload_n 2, 1)) rfl ?_
  refine sm_aload_n (pc := 346) G hb (by decide +kernel : decode code 346 = .ok (.aload_n 0, 1)) rfl ?_
  refine sm_iload (pc := 347) G hb (by decide +kernel : decode code 347 = .ok (.iload 4, 2)) ?_
  refine sm_iconst (pc := 349) G hb (by decide +kernel : decode code 349 = .ok (.iconst 1, 1)) (by decide) ?_
  refine sm_iadd (pc := 350) G hb (by decide +kernel : decode code 350 = .ok (.iadd, 1)) ?_
  refine sm_sld (pc := 351) G hb ho he hE hSc (by decide +kernel : decode code 351 = .ok (.iaload, 1)) ?_
  refine sm_mono (cav_sub gI_sub) (sm_callV (pc := 352) (N := 32) (T := TX9) (C := RX9) G hb ho hy he hE.1 2 [204, 205, 206, 207, 208, 209, 210, 211, 212, 213, 214, 215, 216, 217, 218, 219, 220, 221] (kX9_truncate hE N) (gCo_of (by decide +kernel)) (by rw [hR]; exact ⟨by decide, by decide⟩) rfl rfl (by decide +kernel) gw6_109 gw6_110 gw6_111 gw1_11 gw6_112 (by decide +kernel : decode code 352 = .ok (.invokevirtual 157, 3)) ?_)
  refine sm_istore (pc := 355) G hb (by decide +kernel : decode code 355 = .ok (.istore 6, 2)) ?_
  refine sm_aload_n (pc := 357) G hb (by decide +kernel : decode code 357 = .ok (.aload_n 2, 1)) rfl ?_
  refine sm_mono (cav_sub gI_sub) (sm_callV (pc := 358) (N := 32) (T := TX9) (C := RX9) G hb ho hy he hE.1 1 [204, 205, 206, 207, 208, 209, 210, 211, 212, 213, 214, 215, 216, 217, 218, 219, 220, 221] (kX9_thrown hE N) (gCo_of (by decide +kernel)) (by rw [hR]; exact ⟨by decide, by decide⟩) rfl rfl (by decide +kernel) gw6_94 gw6_95 gw6_96 gw1_11 gw6_97 (by decide +kernel : decode code 358 = .ok (.invokevirtual 151, 3)) ?_)
  refine sm_mask ?_
  exact fL_law_s361 N SL SX G hb ho hy hR he hr hE hEL hSc (by omega) K23 h23
set_option maxRecDepth 100000 in
set_option maxHeartbeats 8000000 in
theorem fL_law_s388 {γ : gG} {cs ss c2 s2 : Nat} {ε : gE5} (N SL : Nat) (SX : Nat → Int32) (G : gOK γ) (hb : gcc γ = code) (ho : gow γ = RL) (hy : gly γ = gyL) (hR : grm γ = room_1) (he : genv γ = ε) (hr : grt γ = some .boolean) (hE : gEnv ε) (hEL : gEnvL ε) (hSc : gSc ε SL SX) (hc9 : cs + 0 ≤ c2 ∧ ss + 0 ≤ s2 ∧ c2 ≤ 601024 ∧ s2 ≤ 7293033) (K23 : gK) (h23 : gSm γ c2 s2 23 K23) : gSm γ cs ss 388 (fL_law_k388 N SL SX K23) := by
  unfold fL_law_k388
  refine sm_aload_n (pc := 388) G hb (by decide +kernel : decode code 388 = .ok (.aload_n 1, 1)) rfl ?_
  refine sm_mono (cav_sub gI_sub) (sm_callV (pc := 389) (N := 8) (T := TX8) (C := RX8) G hb ho hy he hE.1 1 [0, 1, 2, 3, 4, 5, 6, 7, 8, 9, 10, 11, 12, 13, 14, 15, 16, 17, 18, 19, 20, 21, 22, 23, 24, 25, 26, 27, 28, 29, 30, 31, 32, 33, 34, 35, 36, 37, 38, 39, 40, 41, 42, 43, 44, 45, 46, 47, 48, 49, 50, 51, 52, 53, 54, 55, 56, 57, 58, 59, 60, 61, 62, 63, 64, 65, 66, 67, 68, 69, 70, 71, 72, 73, 74, 75, 76, 77, 78, 79, 80, 81, 82, 83, 84, 85, 86, 87, 88, 89, 90, 91, 92, 93, 94, 95, 96, 97, 98, 99, 100, 101, 102, 103, 104, 105, 106, 107, 108, 109, 110, 111, 112, 113, 114, 115, 116, 117, 118, 119, 120, 121, 122, 123, 124, 125, 126, 127, 128, 129, 130, 131, 132, 133, 134, 135, 136, 137, 138, 139, 140, 141, 142, 143, 144, 145, 146, 147, 148, 149, 150, 151, 152, 153, 154, 155, 156, 157, 158, 159, 160, 161, 162, 163, 164, 165, 166, 167, 168, 169, 170, 171, 172, 173, 174, 175, 176, 177, 178, 179, 180, 181, 182, 183, 184, 185, 186, 187, 188, 189, 190, 191, 192, 193, 194, 195, 196, 197, 198, 199, 200, 201, 202, 203] (kX8_errorPosition hE N) (gCo_of (by decide +kernel)) (by rw [hR]; exact ⟨by decide, by decide⟩) rfl rfl (by decide +kernel) gw2_125 gw2_126 gw2_127 gw1_1 gw2_128 (by decide +kernel : decode code 389 = .ok (.invokevirtual 158, 3)) ?_)
  refine sm_aload_n (pc := 392) G hb (by decide +kernel : decode code 392 = .ok (.aload_n 2, 1)) rfl ?_
  refine sm_mono (cav_sub gI_sub) (sm_callV (pc := 393) (N := 32) (T := TX9) (C := RX9) G hb ho hy he hE.1 1 [204, 205, 206, 207, 208, 209, 210, 211, 212, 213, 214, 215, 216, 217, 218, 219, 220, 221] (kX9_errorPosition hE N) (gCo_of (by decide +kernel)) (by rw [hR]; exact ⟨by decide, by decide⟩) rfl rfl (by decide +kernel) gw6_116 gw6_117 gw6_118 gw1_11 gw6_119 (by decide +kernel : decode code 393 = .ok (.invokevirtual 161, 3)) ?_)
  refine sm_icmp_eq (pc := 396) (tgt := 2794) G hb (by decide +kernel : decode code 396 = .ok (.if_icmp .eq 2398, 3)) (by decide) ?_ ?_
  · skip
    refine sm_mask ?_
    exact fL_law_s2794 N SL SX G hb ho hy hR he hr hE hEL hSc (by omega) K23 h23
  · skip
    refine sm_iconst (pc := 399) G hb (by decide +kernel : decode code 399 = .ok (.iconst 0, 1)) (by decide) ?_
    exact sm_zret (pc := 400) G hb (by decide +kernel : decode code 400 = .ok (.ireturn, 1)) hr
set_option maxRecDepth 100000 in
set_option maxHeartbeats 8000000 in
theorem fL_law_s442 {γ : gG} {cs ss c2 s2 : Nat} {ε : gE5} (N SL : Nat) (SX : Nat → Int32) (G : gOK γ) (hb : gcc γ = code) (ho : gow γ = RL) (hy : gly γ = gyL) (hR : grm γ = room_1) (he : genv γ = ε) (hr : grt γ = some .boolean) (hE : gEnv ε) (hEL : gEnvL ε) (hSc : gSc ε SL SX) (hc9 : cs + 0 ≤ c2 ∧ ss + 0 ≤ s2 ∧ c2 ≤ 601024 ∧ s2 ≤ 7293033) (K23 : gK) (h23 : gSm γ c2 s2 23 K23) : gSm γ cs ss 442 (fL_law_k442 N SL SX K23) := by
  unfold fL_law_k442
  refine sm_goto (pc := 442) (tgt := 2794) G hb (by decide +kernel : decode code 442 = .ok (.goto 2352, 3)) (by decide) ?_
  refine sm_mask ?_
  exact fL_law_s2794 N SL SX G hb ho hy hR he hr hE hEL hSc (by omega) K23 h23
set_option maxRecDepth 100000 in
set_option maxHeartbeats 8000000 in
theorem fL_law_s418 {γ : gG} {cs ss c2 s2 : Nat} {ε : gE5} (N SL : Nat) (SX : Nat → Int32) (G : gOK γ) (hb : gcc γ = code) (ho : gow γ = RL) (hy : gly γ = gyL) (hR : grm γ = room_1) (he : genv γ = ε) (hr : grt γ = some .boolean) (hE : gEnv ε) (hEL : gEnvL ε) (hSc : gSc ε SL SX) (hc9 : cs + 0 ≤ c2 ∧ ss + 0 ≤ s2 ∧ c2 ≤ 601024 ∧ s2 ≤ 7293033) (K23 : gK) (h23 : gSm γ c2 s2 23 K23) : gSm γ cs ss 418 (fL_law_k418 N SL SX K23) := by
  unfold fL_law_k418
  refine sm_iload (pc := 418) G hb (by decide +kernel : decode code 418 = .ok (.iload 5, 2)) ?_
  refine sm_icmp_eq (pc := 420) (tgt := 425) G hb (by decide +kernel : decode code 420 = .ok (.if_icmp .eq 5, 3)) (by decide) ?_ ?_
  · skip
    refine sm_iload (pc := 425) G hb (by decide +kernel : decode code 425 = .ok (.iload 5, 2)) ?_
    refine sm_if_ne (pc := 427) (tgt := 442) G hb (by decide +kernel : decode code 427 = .ok (.ifCond .ne 15, 3)) (by decide) ?_ ?_
    · skip
      refine sm_mask ?_
      exact fL_law_s442 N SL SX G hb ho hy hR he hr hE hEL hSc (by omega) K23 h23
    · skip
      refine sm_aload_n (pc := 430) G hb (by decide +kernel : decode code 430 = .ok (.aload_n 3, 1)) rfl ?_
      refine sm_iconst (pc := 431) G hb (by decide +kernel : decode code 431 = .ok (.iconst 0, 1)) (by decide) ?_
      refine sm_lald (pc := 432) G hb hy (by decide +kernel : decode code 432 = .ok (.laload, 1)) ?_
      refine sm_iload (pc := 433) G hb (by decide +kernel : decode code 433 = .ok (.iload 6, 2)) ?_
      refine sm_i2l (pc := 435) G hb (by decide +kernel : decode code 435 = .ok (.i2l, 1)) ?_
      refine sm_lcmp (pc := 436) G hb (by decide +kernel : decode code 436 = .ok (.lcmp, 1)) ?_
      refine sm_if_eq (pc := 437) (tgt := 442) G hb (by decide +kernel : decode code 437 = .ok (.ifCond .eq 5, 3)) (by decide) ?_ ?_
      · skip
        refine sm_mask ?_
        exact fL_law_s442 N SL SX G hb ho hy hR he hr hE hEL hSc (by omega) K23 h23
      · skip
        refine sm_iconst (pc := 440) G hb (by decide +kernel : decode code 440 = .ok (.iconst 0, 1)) (by decide) ?_
        exact sm_zret (pc := 441) G hb (by decide +kernel : decode code 441 = .ok (.ireturn, 1)) hr
  · skip
    refine sm_iconst (pc := 423) G hb (by decide +kernel : decode code 423 = .ok (.iconst 0, 1)) (by decide) ?_
    exact sm_zret (pc := 424) G hb (by decide +kernel : decode code 424 = .ok (.ireturn, 1)) hr
set_option maxRecDepth 100000 in
set_option maxHeartbeats 8000000 in
theorem fL_law_s401 {γ : gG} {cs ss c2 s2 : Nat} {ε : gE5} (N SL : Nat) (SX : Nat → Int32) (G : gOK γ) (hb : gcc γ = code) (ho : gow γ = RL) (hy : gly γ = gyL) (hR : grm γ = room_1) (he : genv γ = ε) (hr : grt γ = some .boolean) (hE : gEnv ε) (hEL : gEnvL ε) (hSc : gSc ε SL SX) (hc9 : cs + 1 ≤ c2 ∧ ss + 6 ≤ s2 ∧ c2 ≤ 601024 ∧ s2 ≤ 7293033) (K23 : gK) (h23 : gSm γ c2 s2 23 K23) : gSm γ cs ss 401 (fL_law_k401 N SL SX K23) := by
  unfold fL_law_k401
  refine sm_aload_n (pc := 401) G hb (by decide +kernel : decode code 401 = .ok (.aload_n 1, 1)) rfl ?_
  refine sm_aload_n (pc := 402) G hb (by decide +kernel : decode code 402 = .ok (.aload_n 3, 1)) rfl ?_
  refine sm_mono (ca_sub gI_sub) (sm_callW (pc := 403) G hb ho hy he hE.1 2 [0, 1, 2, 3, 4, 5, 6, 7, 8, 9, 10, 11, 12, 13, 14, 15, 16, 17, 18, 19, 20, 21, 22, 23, 24, 25, 26, 27, 28, 29, 30, 31, 32, 33, 34, 35, 36, 37, 38, 39, 40, 41, 42, 43, 44, 45, 46, 47, 48, 49, 50, 51, 52, 53, 54, 55, 56, 57, 58, 59, 60, 61, 62, 63, 64, 65, 66, 67, 68, 69, 70, 71, 72, 73, 74, 75, 76, 77, 78, 79, 80, 81, 82, 83, 84, 85, 86, 87, 88, 89, 90, 91, 92, 93, 94, 95, 96, 97, 98, 99, 100, 101, 102, 103, 104, 105, 106, 107, 108, 109, 110, 111, 112, 113, 114, 115, 116, 117, 118, 119, 120, 121, 122, 123, 124, 125, 126, 127, 128, 129, 130, 131, 132, 133, 134, 135, 136, 137, 138, 139, 140, 141, 142, 143, 144, 145, 146, 147, 148, 149, 150, 151, 152, 153, 154, 155, 156, 157, 158, 159, 160, 161, 162, 163, 164, 165, 166, 167, 168, 169, 170, 171, 172, 173, 174, 175, 176, 177, 178, 179, 180, 181, 182, 183, 184, 185, 186, 187, 188, 189, 190, 191, 192, 193, 194, 195, 196, 197, 198, 199, 200, 201, 202, 203, 222] (kL_load hEL N) (gCo_of (by decide +kernel)) (by rw [hR]; exact ⟨by decide, by decide⟩) (by rw [hR]; exact ⟨by show _ ≤ 601024; omega, by show _ ≤ 7293033; omega⟩) (by decide +kernel) gw3_203 gw3_204 gw1_0 gw3_205 (by decide +kernel : decode code 403 = .ok (.invokestatic 162, 3)) ?_)
  refine sm_istore (pc := 406) G hb (by decide +kernel : decode code 406 = .ok (.istore 5, 2)) ?_
  refine sm_aload_n (pc := 408) G hb (by decide +kernel : decode code 408 = .ok (.aload_n 2, 1)) rfl ?_
  refine sm_mono (cav_sub gI_sub) (sm_callV (pc := 409) (N := 32) (T := TX9) (C := RX9) G hb ho hy he hE.1 1 [204, 205, 206, 207, 208, 209, 210, 211, 212, 213, 214, 215, 216, 217, 218, 219, 220, 221] (kX9_load hE N) (gCo_of (by decide +kernel)) (by rw [hR]; exact ⟨by decide, by decide⟩) rfl rfl (by decide +kernel) gw6_212 gw6_213 gw6_214 gw1_11 gw6_215 (by decide +kernel : decode code 409 = .ok (.invokevirtual 165, 3)) ?_)
  refine sm_istore (pc := 412) G hb (by decide +kernel : decode code 412 = .ok (.istore 6, 2)) ?_
  refine sm_aload_n (pc := 414) G hb (by decide +kernel : decode code 414 = .ok (.aload_n 2, 1)) rfl ?_
  refine sm_mono (cav_sub gI_sub) (sm_callV (pc := 415) (N := 32) (T := TX9) (C := RX9) G hb ho hy he hE.1 1 [204, 205, 206, 207, 208, 209, 210, 211, 212, 213, 214, 215, 216, 217, 218, 219, 220, 221] (kX9_thrown hE N) (gCo_of (by decide +kernel)) (by rw [hR]; exact ⟨by decide, by decide⟩) rfl rfl (by decide +kernel) gw6_94 gw6_95 gw6_96 gw1_11 gw6_97 (by decide +kernel : decode code 415 = .ok (.invokevirtual 151, 3)) ?_)
  refine sm_mask ?_
  exact fL_law_s418 N SL SX G hb ho hy hR he hr hE hEL hSc (by omega) K23 h23
set_option maxRecDepth 100000 in
set_option maxHeartbeats 8000000 in
theorem fL_law_s522 {γ : gG} {cs ss c2 s2 : Nat} {ε : gE5} (N SL : Nat) (SX : Nat → Int32) (G : gOK γ) (hb : gcc γ = code) (ho : gow γ = RL) (hy : gly γ = gyL) (hR : grm γ = room_1) (he : genv γ = ε) (hr : grt γ = some .boolean) (hE : gEnv ε) (hEL : gEnvL ε) (hSc : gSc ε SL SX) (hc9 : cs + 0 ≤ c2 ∧ ss + 0 ≤ s2 ∧ c2 ≤ 601024 ∧ s2 ≤ 7293033) (K23 : gK) (h23 : gSm γ c2 s2 23 K23) : gSm γ cs ss 522 (fL_law_k522 N SL SX K23) := by
  unfold fL_law_k522
  refine sm_goto (pc := 522) (tgt := 2794) G hb (by decide +kernel : decode code 522 = .ok (.goto 2272, 3)) (by decide) ?_
  refine sm_mask ?_
  exact fL_law_s2794 N SL SX G hb ho hy hR he hr hE hEL hSc (by omega) K23 h23
set_option maxRecDepth 100000 in
set_option maxHeartbeats 8000000 in
theorem fL_law_s498 {γ : gG} {cs ss c2 s2 : Nat} {ε : gE5} (N SL : Nat) (SX : Nat → Int32) (G : gOK γ) (hb : gcc γ = code) (ho : gow γ = RL) (hy : gly γ = gyL) (hR : grm γ = room_1) (he : genv γ = ε) (hr : grt γ = some .boolean) (hE : gEnv ε) (hEL : gEnvL ε) (hSc : gSc ε SL SX) (hc9 : cs + 0 ≤ c2 ∧ ss + 0 ≤ s2 ∧ c2 ≤ 601024 ∧ s2 ≤ 7293033) (K23 : gK) (h23 : gSm γ c2 s2 23 K23) : gSm γ cs ss 498 (fL_law_k498 N SL SX K23) := by
  unfold fL_law_k498
  refine sm_iload (pc := 498) G hb (by decide +kernel : decode code 498 = .ok (.iload 5, 2)) ?_
  refine sm_icmp_eq (pc := 500) (tgt := 505) G hb (by decide +kernel : decode code 500 = .ok (.if_icmp .eq 5, 3)) (by decide) ?_ ?_
  · skip
    refine sm_iload (pc := 505) G hb (by decide +kernel : decode code 505 = .ok (.iload 5, 2)) ?_
    refine sm_if_ne (pc := 507) (tgt := 522) G hb (by decide +kernel : decode code 507 = .ok (.ifCond .ne 15, 3)) (by decide) ?_ ?_
    · skip
      refine sm_mask ?_
      exact fL_law_s522 N SL SX G hb ho hy hR he hr hE hEL hSc (by omega) K23 h23
    · skip
      refine sm_aload_n (pc := 510) G hb (by decide +kernel : decode code 510 = .ok (.aload_n 3, 1)) rfl ?_
      refine sm_iconst (pc := 511) G hb (by decide +kernel : decode code 511 = .ok (.iconst 0, 1)) (by decide) ?_
      refine sm_lald (pc := 512) G hb hy (by decide +kernel : decode code 512 = .ok (.laload, 1)) ?_
      refine sm_iload (pc := 513) G hb (by decide +kernel : decode code 513 = .ok (.iload 6, 2)) ?_
      refine sm_i2l (pc := 515) G hb (by decide +kernel : decode code 515 = .ok (.i2l, 1)) ?_
      refine sm_lcmp (pc := 516) G hb (by decide +kernel : decode code 516 = .ok (.lcmp, 1)) ?_
      refine sm_if_eq (pc := 517) (tgt := 522) G hb (by decide +kernel : decode code 517 = .ok (.ifCond .eq 5, 3)) (by decide) ?_ ?_
      · skip
        refine sm_mask ?_
        exact fL_law_s522 N SL SX G hb ho hy hR he hr hE hEL hSc (by omega) K23 h23
      · skip
        refine sm_iconst (pc := 520) G hb (by decide +kernel : decode code 520 = .ok (.iconst 0, 1)) (by decide) ?_
        exact sm_zret (pc := 521) G hb (by decide +kernel : decode code 521 = .ok (.ireturn, 1)) hr
  · skip
    refine sm_iconst (pc := 503) G hb (by decide +kernel : decode code 503 = .ok (.iconst 0, 1)) (by decide) ?_
    exact sm_zret (pc := 504) G hb (by decide +kernel : decode code 504 = .ok (.ireturn, 1)) hr
set_option maxRecDepth 100000 in
set_option maxHeartbeats 8000000 in
theorem fL_law_s445 {γ : gG} {cs ss c2 s2 : Nat} {ε : gE5} (N SL : Nat) (SX : Nat → Int32) (G : gOK γ) (hb : gcc γ = code) (ho : gow γ = RL) (hy : gly γ = gyL) (hR : grm γ = room_1) (he : genv γ = ε) (hr : grt γ = some .boolean) (hE : gEnv ε) (hEL : gEnvL ε) (hSc : gSc ε SL SX) (hc9 : cs + 5 ≤ c2 ∧ ss + 30 ≤ s2 ∧ c2 ≤ 601024 ∧ s2 ≤ 7293033) (K23 : gK) (h23 : gSm γ c2 s2 23 K23) : gSm γ cs ss 445 (fL_law_k445 N SL SX K23) := by
  unfold fL_law_k445
  refine sm_aload_n (pc := 445) G hb (by decide +kernel : decode code 445 = .ok (.aload_n 1, 1)) rfl ?_
  refine sm_aload_n (pc := 446) G hb (by decide +kernel : decode code 446 = .ok (.aload_n 0, 1)) rfl ?_
  refine sm_iload (pc := 447) G hb (by decide +kernel : decode code 447 = .ok (.iload 4, 2)) ?_
  refine sm_iconst (pc := 449) G hb (by decide +kernel : decode code 449 = .ok (.iconst 1, 1)) (by decide) ?_
  refine sm_iadd (pc := 450) G hb (by decide +kernel : decode code 450 = .ok (.iadd, 1)) ?_
  refine sm_sld (pc := 451) G hb ho he hE hSc (by decide +kernel : decode code 451 = .ok (.iaload, 1)) ?_
  refine sm_aload_n (pc := 452) G hb (by decide +kernel : decode code 452 = .ok (.aload_n 0, 1)) rfl ?_
  refine sm_iload (pc := 453) G hb (by decide +kernel : decode code 453 = .ok (.iload 4, 2)) ?_
  refine sm_iconst (pc := 455) G hb (by decide +kernel : decode code 455 = .ok (.iconst 2, 1)) (by decide) ?_
  refine sm_iadd (pc := 456) G hb (by decide +kernel : decode code 456 = .ok (.iadd, 1)) ?_
  refine sm_sld (pc := 457) G hb ho he hE hSc (by decide +kernel : decode code 457 = .ok (.iaload, 1)) ?_
  refine sm_aload_n (pc := 458) G hb (by decide +kernel : decode code 458 = .ok (.aload_n 0, 1)) rfl ?_
  refine sm_iload (pc := 459) G hb (by decide +kernel : decode code 459 = .ok (.iload 4, 2)) ?_
  refine sm_iconst (pc := 461) G hb (by decide +kernel : decode code 461 = .ok (.iconst 3, 1)) (by decide) ?_
  refine sm_iadd (pc := 462) G hb (by decide +kernel : decode code 462 = .ok (.iadd, 1)) ?_
  refine sm_sld (pc := 463) G hb ho he hE hSc (by decide +kernel : decode code 463 = .ok (.iaload, 1)) ?_
  refine sm_aload_n (pc := 464) G hb (by decide +kernel : decode code 464 = .ok (.aload_n 3, 1)) rfl ?_
  refine sm_mono (ca_sub gI_sub) (sm_callW (pc := 465) G hb ho hy he hE.1 5 [0, 1, 2, 3, 4, 5, 6, 7, 8, 9, 10, 11, 12, 13, 14, 15, 16, 17, 18, 19, 20, 21, 22, 23, 24, 25, 26, 27, 28, 29, 30, 31, 32, 33, 34, 35, 36, 37, 38, 39, 40, 41, 42, 43, 44, 45, 46, 47, 48, 49, 50, 51, 52, 53, 54, 55, 56, 57, 58, 59, 60, 61, 62, 63, 64, 65, 66, 67, 68, 69, 70, 71, 72, 73, 74, 75, 76, 77, 78, 79, 80, 81, 82, 83, 84, 85, 86, 87, 88, 89, 90, 91, 92, 93, 94, 95, 96, 97, 98, 99, 100, 101, 102, 103, 104, 105, 106, 107, 108, 109, 110, 111, 112, 113, 114, 115, 116, 117, 118, 119, 120, 121, 122, 123, 124, 125, 126, 127, 128, 129, 130, 131, 132, 133, 134, 135, 136, 137, 138, 139, 140, 141, 142, 143, 144, 145, 146, 147, 148, 149, 150, 151, 152, 153, 154, 155, 156, 157, 158, 159, 160, 161, 162, 163, 164, 165, 166, 167, 168, 169, 170, 171, 172, 173, 174, 175, 176, 177, 178, 179, 180, 181, 182, 183, 184, 185, 186, 187, 188, 189, 190, 191, 192, 193, 194, 195, 196, 197, 198, 199, 200, 201, 202, 203, 222] (kL_addLink hEL N) (gCo_of (by decide +kernel)) (by rw [hR]; exact ⟨by decide, by decide⟩) (by rw [hR]; exact ⟨by show _ ≤ 601024; omega, by show _ ≤ 7293033; omega⟩) (by decide +kernel) gw3_220 gw3_221 gw1_0 gw3_222 (by decide +kernel : decode code 465 = .ok (.invokestatic 166, 3)) ?_)
  refine sm_istore (pc := 468) G hb (by decide +kernel : decode code 468 = .ok (.istore 5, 2)) ?_
  refine sm_aload_n (pc := 470) G hb (by decide +kernel : decode code 470 = .ok (.aload_n 2, 1)) rfl ?_
  refine sm_aload_n (pc := 471) G hb (by decide +kernel : decode code 471 = .ok (.aload_n 0, 1)) rfl ?_
  refine sm_iload (pc := 472) G hb (by decide +kernel : decode code 472 = .ok (.iload 4, 2)) ?_
  refine sm_iconst (pc := 474) G hb (by decide +kernel : decode code 474 = .ok (.iconst 1, 1)) (by decide) ?_
  refine sm_iadd (pc := 475) G hb (by decide +kernel : decode code 475 = .ok (.iadd, 1)) ?_
  refine sm_sld (pc := 476) G hb ho he hE hSc (by decide +kernel : decode code 476 = .ok (.iaload, 1)) ?_
  refine sm_aload_n (pc := 477) G hb (by decide +kernel : decode code 477 = .ok (.aload_n 0, 1)) rfl ?_
  refine sm_iload (pc := 478) G hb (by decide +kernel : decode code 478 = .ok (.iload 4, 2)) ?_
  refine sm_iconst (pc := 480) G hb (by decide +kernel : decode code 480 = .ok (.iconst 2, 1)) (by decide) ?_
  refine sm_iadd (pc := 481) G hb (by decide +kernel : decode code 481 = .ok (.iadd, 1)) ?_
  refine sm_sld (pc := 482) G hb ho he hE hSc (by decide +kernel : decode code 482 = .ok (.iaload, 1)) ?_
  refine sm_aload_n (pc := 483) G hb (by decide +kernel : decode code 483 = .ok (.aload_n 0, 1)) rfl ?_
  refine sm_iload (pc := 484) G hb (by decide +kernel : decode code 484 = .ok (.iload 4, 2)) ?_
  refine sm_iconst (pc := 486) G hb (by decide +kernel : decode code 486 = .ok (.iconst 3, 1)) (by decide) ?_
  refine sm_iadd (pc := 487) G hb (by decide +kernel : decode code 487 = .ok (.iadd, 1)) ?_
  refine sm_sld (pc := 488) G hb ho he hE hSc (by decide +kernel : decode code 488 = .ok (.iaload, 1)) ?_
  refine sm_mono (cav_sub gI_sub) (sm_callV (pc := 489) (N := 32) (T := TX9) (C := RX9) G hb ho hy he hE.1 4 [204, 205, 206, 207, 208, 209, 210, 211, 212, 213, 214, 215, 216, 217, 218, 219, 220, 221] (kX9_addLink hE N) (gCo_of (by decide +kernel)) (by rw [hR]; exact ⟨by decide, by decide⟩) rfl rfl (by decide +kernel) gw6_232 gw6_233 gw6_234 gw1_11 gw6_235 (by decide +kernel : decode code 489 = .ok (.invokevirtual 169, 3)) ?_)
  refine sm_istore (pc := 492) G hb (by decide +kernel : decode code 492 = .ok (.istore 6, 2)) ?_
  refine sm_aload_n (pc := 494) G hb (by decide +kernel : decode code 494 = .ok (.aload_n 2, 1)) rfl ?_
  refine sm_mono (cav_sub gI_sub) (sm_callV (pc := 495) (N := 32) (T := TX9) (C := RX9) G hb ho hy he hE.1 1 [204, 205, 206, 207, 208, 209, 210, 211, 212, 213, 214, 215, 216, 217, 218, 219, 220, 221] (kX9_thrown hE N) (gCo_of (by decide +kernel)) (by rw [hR]; exact ⟨by decide, by decide⟩) rfl rfl (by decide +kernel) gw6_94 gw6_95 gw6_96 gw1_11 gw6_97 (by decide +kernel : decode code 495 = .ok (.invokevirtual 151, 3)) ?_)
  refine sm_mask ?_
  exact fL_law_s498 N SL SX G hb ho hy hR he hr hE hEL hSc (by omega) K23 h23
set_option maxRecDepth 100000 in
set_option maxHeartbeats 8000000 in
theorem fL_law_s590 {γ : gG} {cs ss c2 s2 : Nat} {ε : gE5} (N SL : Nat) (SX : Nat → Int32) (G : gOK γ) (hb : gcc γ = code) (ho : gow γ = RL) (hy : gly γ = gyL) (hR : grm γ = room_1) (he : genv γ = ε) (hr : grt γ = some .boolean) (hE : gEnv ε) (hEL : gEnvL ε) (hSc : gSc ε SL SX) (hc9 : cs + 0 ≤ c2 ∧ ss + 0 ≤ s2 ∧ c2 ≤ 601024 ∧ s2 ≤ 7293033) (K23 : gK) (h23 : gSm γ c2 s2 23 K23) : gSm γ cs ss 590 (fL_law_k590 N SL SX K23) := by
  unfold fL_law_k590
  refine sm_goto (pc := 590) (tgt := 2794) G hb (by decide +kernel : decode code 590 = .ok (.goto 2204, 3)) (by decide) ?_
  refine sm_mask ?_
  exact fL_law_s2794 N SL SX G hb ho hy hR he hr hE hEL hSc (by omega) K23 h23
set_option maxRecDepth 100000 in
set_option maxHeartbeats 8000000 in
theorem fL_law_s566 {γ : gG} {cs ss c2 s2 : Nat} {ε : gE5} (N SL : Nat) (SX : Nat → Int32) (G : gOK γ) (hb : gcc γ = code) (ho : gow γ = RL) (hy : gly γ = gyL) (hR : grm γ = room_1) (he : genv γ = ε) (hr : grt γ = some .boolean) (hE : gEnv ε) (hEL : gEnvL ε) (hSc : gSc ε SL SX) (hc9 : cs + 0 ≤ c2 ∧ ss + 0 ≤ s2 ∧ c2 ≤ 601024 ∧ s2 ≤ 7293033) (K23 : gK) (h23 : gSm γ c2 s2 23 K23) : gSm γ cs ss 566 (fL_law_k566 N SL SX K23) := by
  unfold fL_law_k566
  refine sm_iload (pc := 566) G hb (by decide +kernel : decode code 566 = .ok (.iload 5, 2)) ?_
  refine sm_icmp_eq (pc := 568) (tgt := 573) G hb (by decide +kernel : decode code 568 = .ok (.if_icmp .eq 5, 3)) (by decide) ?_ ?_
  · skip
    refine sm_iload (pc := 573) G hb (by decide +kernel : decode code 573 = .ok (.iload 5, 2)) ?_
    refine sm_if_ne (pc := 575) (tgt := 590) G hb (by decide +kernel : decode code 575 = .ok (.ifCond .ne 15, 3)) (by decide) ?_ ?_
    · skip
      refine sm_mask ?_
      exact fL_law_s590 N SL SX G hb ho hy hR he hr hE hEL hSc (by omega) K23 h23
    · skip
      refine sm_aload_n (pc := 578) G hb (by decide +kernel : decode code 578 = .ok (.aload_n 3, 1)) rfl ?_
      refine sm_iconst (pc := 579) G hb (by decide +kernel : decode code 579 = .ok (.iconst 0, 1)) (by decide) ?_
      refine sm_lald (pc := 580) G hb hy (by decide +kernel : decode code 580 = .ok (.laload, 1)) ?_
      refine sm_iload (pc := 581) G hb (by decide +kernel : decode code 581 = .ok (.iload 6, 2)) ?_
      refine sm_i2l (pc := 583) G hb (by decide +kernel : decode code 583 = .ok (.i2l, 1)) ?_
      refine sm_lcmp (pc := 584) G hb (by decide +kernel : decode code 584 = .ok (.lcmp, 1)) ?_
      refine sm_if_eq (pc := 585) (tgt := 590) G hb (by decide +kernel : decode code 585 = .ok (.ifCond .eq 5, 3)) (by decide) ?_ ?_
      · skip
        refine sm_mask ?_
        exact fL_law_s590 N SL SX G hb ho hy hR he hr hE hEL hSc (by omega) K23 h23
      · skip
        refine sm_iconst (pc := 588) G hb (by decide +kernel : decode code 588 = .ok (.iconst 0, 1)) (by decide) ?_
        exact sm_zret (pc := 589) G hb (by decide +kernel : decode code 589 = .ok (.ireturn, 1)) hr
  · skip
    refine sm_iconst (pc := 571) G hb (by decide +kernel : decode code 571 = .ok (.iconst 0, 1)) (by decide) ?_
    exact sm_zret (pc := 572) G hb (by decide +kernel : decode code 572 = .ok (.ireturn, 1)) hr
set_option maxRecDepth 100000 in
set_option maxHeartbeats 8000000 in
theorem fL_law_s525 {γ : gG} {cs ss c2 s2 : Nat} {ε : gE5} (N SL : Nat) (SX : Nat → Int32) (G : gOK γ) (hb : gcc γ = code) (ho : gow γ = RL) (hy : gly γ = gyL) (hR : grm γ = room_1) (he : genv γ = ε) (hr : grt γ = some .boolean) (hE : gEnv ε) (hEL : gEnvL ε) (hSc : gSc ε SL SX) (hc9 : cs + 2 ≤ c2 ∧ ss + 12 ≤ s2 ∧ c2 ≤ 601024 ∧ s2 ≤ 7293033) (K23 : gK) (h23 : gSm γ c2 s2 23 K23) : gSm γ cs ss 525 (fL_law_k525 N SL SX K23) := by
  unfold fL_law_k525
  refine sm_aload_n (pc := 525) G hb (by decide +kernel : decode code 525 = .ok (.aload_n 1, 1)) rfl ?_
  refine sm_aload_n (pc := 526) G hb (by decide +kernel : decode code 526 = .ok (.aload_n 0, 1)) rfl ?_
  refine sm_iload (pc := 527) G hb (by decide +kernel : decode code 527 = .ok (.iload 4, 2)) ?_
  refine sm_iconst (pc := 529) G hb (by decide +kernel : decode code 529 = .ok (.iconst 1, 1)) (by decide) ?_
  refine sm_iadd (pc := 530) G hb (by decide +kernel : decode code 530 = .ok (.iadd, 1)) ?_
  refine sm_sld (pc := 531) G hb ho he hE hSc (by decide +kernel : decode code 531 = .ok (.iaload, 1)) ?_
  refine sm_aload_n (pc := 532) G hb (by decide +kernel : decode code 532 = .ok (.aload_n 0, 1)) rfl ?_
  refine sm_iload (pc := 533) G hb (by decide +kernel : decode code 533 = .ok (.iload 4, 2)) ?_
  refine sm_iconst (pc := 535) G hb (by decide +kernel : decode code 535 = .ok (.iconst 2, 1)) (by decide) ?_
  refine sm_iadd (pc := 536) G hb (by decide +kernel : decode code 536 = .ok (.iadd, 1)) ?_
  refine sm_sld (pc := 537) G hb ho he hE hSc (by decide +kernel : decode code 537 = .ok (.iaload, 1)) ?_
  refine sm_aload_n (pc := 538) G hb (by decide +kernel : decode code 538 = .ok (.aload_n 3, 1)) rfl ?_
  refine sm_mono (ca_sub gI_sub) (sm_callW (pc := 539) G hb ho hy he hE.1 4 [0, 1, 2, 3, 4, 5, 6, 7, 8, 9, 10, 11, 12, 13, 14, 15, 16, 17, 18, 19, 20, 21, 22, 23, 24, 25, 26, 27, 28, 29, 30, 31, 32, 33, 34, 35, 36, 37, 38, 39, 40, 41, 42, 43, 44, 45, 46, 47, 48, 49, 50, 51, 52, 53, 54, 55, 56, 57, 58, 59, 60, 61, 62, 63, 64, 65, 66, 67, 68, 69, 70, 71, 72, 73, 74, 75, 76, 77, 78, 79, 80, 81, 82, 83, 84, 85, 86, 87, 88, 89, 90, 91, 92, 93, 94, 95, 96, 97, 98, 99, 100, 101, 102, 103, 104, 105, 106, 107, 108, 109, 110, 111, 112, 113, 114, 115, 116, 117, 118, 119, 120, 121, 122, 123, 124, 125, 126, 127, 128, 129, 130, 131, 132, 133, 134, 135, 136, 137, 138, 139, 140, 141, 142, 143, 144, 145, 146, 147, 148, 149, 150, 151, 152, 153, 154, 155, 156, 157, 158, 159, 160, 161, 162, 163, 164, 165, 166, 167, 168, 169, 170, 171, 172, 173, 174, 175, 176, 177, 178, 179, 180, 181, 182, 183, 184, 185, 186, 187, 188, 189, 190, 191, 192, 193, 194, 195, 196, 197, 198, 199, 200, 201, 202, 203, 222] (kL_setCapacity hEL N) (gCo_of (by decide +kernel)) (by rw [hR]; exact ⟨by decide, by decide⟩) (by rw [hR]; exact ⟨by show _ ≤ 601024; omega, by show _ ≤ 7293033; omega⟩) (by decide +kernel) gw4_15 gw4_16 gw1_0 gw4_17 (by decide +kernel : decode code 539 = .ok (.invokestatic 170, 3)) ?_)
  refine sm_istore (pc := 542) G hb (by decide +kernel : decode code 542 = .ok (.istore 5, 2)) ?_
  refine sm_aload_n (pc := 544) G hb (by decide +kernel : decode code 544 = .ok (.aload_n 2, 1)) rfl ?_
  refine sm_aload_n (pc := 545) G hb (by decide +kernel : decode code 545 = .ok (.aload_n 0, 1)) rfl ?_
  refine sm_iload (pc := 546) G hb (by decide +kernel : decode code 546 = .ok (.iload 4, 2)) ?_
  refine sm_iconst (pc := 548) G hb (by decide +kernel : decode code 548 = .ok (.iconst 1, 1)) (by decide) ?_
  refine sm_iadd (pc := 549) G hb (by decide +kernel : decode code 549 = .ok (.iadd, 1)) ?_
  refine sm_sld (pc := 550) G hb ho he hE hSc (by decide +kernel : decode code 550 = .ok (.iaload, 1)) ?_
  refine sm_aload_n (pc := 551) G hb (by decide +kernel : decode code 551 = .ok (.aload_n 0, 1)) rfl ?_
  refine sm_iload (pc := 552) G hb (by decide +kernel : decode code 552 = .ok (.iload 4, 2)) ?_
  refine sm_iconst (pc := 554) G hb (by decide +kernel : decode code 554 = .ok (.iconst 2, 1)) (by decide) ?_
  refine sm_iadd (pc := 555) G hb (by decide +kernel : decode code 555 = .ok (.iadd, 1)) ?_
  refine sm_sld (pc := 556) G hb ho he hE hSc (by decide +kernel : decode code 556 = .ok (.iaload, 1)) ?_
  refine sm_mono (cav_sub gI_sub) (sm_callV (pc := 557) (N := 32) (T := TX9) (C := RX9) G hb ho hy he hE.1 3 [204, 205, 206, 207, 208, 209, 210, 211, 212, 213, 214, 215, 216, 217, 218, 219, 220, 221] (kX9_setCapacity hE N) (gCo_of (by decide +kernel)) (by rw [hR]; exact ⟨by decide, by decide⟩) rfl rfl (by decide +kernel) gw7_9 gw7_10 gw7_11 gw1_11 gw7_12 (by decide +kernel : decode code 557 = .ok (.invokevirtual 173, 3)) ?_)
  refine sm_istore (pc := 560) G hb (by decide +kernel : decode code 560 = .ok (.istore 6, 2)) ?_
  refine sm_aload_n (pc := 562) G hb (by decide +kernel : decode code 562 = .ok (.aload_n 2, 1)) rfl ?_
  refine sm_mono (cav_sub gI_sub) (sm_callV (pc := 563) (N := 32) (T := TX9) (C := RX9) G hb ho hy he hE.1 1 [204, 205, 206, 207, 208, 209, 210, 211, 212, 213, 214, 215, 216, 217, 218, 219, 220, 221] (kX9_thrown hE N) (gCo_of (by decide +kernel)) (by rw [hR]; exact ⟨by decide, by decide⟩) rfl rfl (by decide +kernel) gw6_94 gw6_95 gw6_96 gw1_11 gw6_97 (by decide +kernel : decode code 563 = .ok (.invokevirtual 151, 3)) ?_)
  refine sm_mask ?_
  exact fL_law_s566 N SL SX G hb ho hy hR he hr hE hEL hSc (by omega) K23 h23
set_option maxRecDepth 100000 in
set_option maxHeartbeats 8000000 in
theorem fL_law_s693 {γ : gG} {cs ss c2 s2 : Nat} {ε : gE5} (N SL : Nat) (SX : Nat → Int32) (G : gOK γ) (hb : gcc γ = code) (ho : gow γ = RL) (hy : gly γ = gyL) (hR : grm γ = room_1) (he : genv γ = ε) (hr : grt γ = some .boolean) (hE : gEnv ε) (hEL : gEnvL ε) (hSc : gSc ε SL SX) (hc9 : cs + 0 ≤ c2 ∧ ss + 0 ≤ s2 ∧ c2 ≤ 601024 ∧ s2 ≤ 7293033) (K23 : gK) (h23 : gSm γ c2 s2 23 K23) : gSm γ cs ss 693 (fL_law_k693 N SL SX K23) := by
  unfold fL_law_k693
  refine sm_goto (pc := 693) (tgt := 2794) G hb (by decide +kernel : decode code 693 = .ok (.goto 2101, 3)) (by decide) ?_
  refine sm_mask ?_
  exact fL_law_s2794 N SL SX G hb ho hy hR he hr hE hEL hSc (by omega) K23 h23
set_option maxRecDepth 100000 in
set_option maxHeartbeats 8000000 in
theorem fL_law_s687 {γ : gG} {cs ss c2 s2 : Nat} {ε : gE5} (N SL : Nat) (SX : Nat → Int32) (G : gOK γ) (hb : gcc γ = code) (ho : gow γ = RL) (hy : gly γ = gyL) (hR : grm γ = room_1) (he : genv γ = ε) (hr : grt γ = some .boolean) (hE : gEnv ε) (hEL : gEnvL ε) (hSc : gSc ε SL SX) (hc9 : cs + 0 ≤ c2 ∧ ss + 0 ≤ s2 ∧ c2 ≤ 601024 ∧ s2 ≤ 7293033) (K23 : gK) (h23 : gSm γ c2 s2 23 K23) : gSm γ cs ss 687 (fL_law_k687 N SL SX K23) := by
  unfold fL_law_k687
  refine sm_lcmp (pc := 687) G hb (by decide +kernel : decode code 687 = .ok (.lcmp, 1)) ?_
  refine sm_if_eq (pc := 688) (tgt := 693) G hb (by decide +kernel : decode code 688 = .ok (.ifCond .eq 5, 3)) (by decide) ?_ ?_
  · skip
    refine sm_mask ?_
    exact fL_law_s693 N SL SX G hb ho hy hR he hr hE hEL hSc (by omega) K23 h23
  · skip
    refine sm_iconst (pc := 691) G hb (by decide +kernel : decode code 691 = .ok (.iconst 0, 1)) (by decide) ?_
    exact sm_zret (pc := 692) G hb (by decide +kernel : decode code 692 = .ok (.ireturn, 1)) hr
set_option maxRecDepth 100000 in
set_option maxHeartbeats 8000000 in
theorem fL_law_s653 {γ : gG} {cs ss c2 s2 : Nat} {ε : gE5} (N SL : Nat) (SX : Nat → Int32) (G : gOK γ) (hb : gcc γ = code) (ho : gow γ = RL) (hy : gly γ = gyL) (hR : grm γ = room_1) (he : genv γ = ε) (hr : grt γ = some .boolean) (hE : gEnv ε) (hEL : gEnvL ε) (hSc : gSc ε SL SX) (hc9 : cs + 0 ≤ c2 ∧ ss + 0 ≤ s2 ∧ c2 ≤ 601024 ∧ s2 ≤ 7293033) (K23 : gK) (h23 : gSm γ c2 s2 23 K23) : gSm γ cs ss 653 (fL_law_k653 N SL SX K23) := by
  unfold fL_law_k653
  refine sm_mono (cav_sub gI_sub) (sm_callV (pc := 653) (N := 32) (T := TX9) (C := RX9) G hb ho hy he hE.1 4 [204, 205, 206, 207, 208, 209, 210, 211, 212, 213, 214, 215, 216, 217, 218, 219, 220, 221] (kX9_setConflict hE N) (gCo_of (by decide +kernel)) (by rw [hR]; exact ⟨by decide, by decide⟩) rfl rfl (by decide +kernel) gw7_21 gw7_22 gw7_23 gw1_11 gw7_24 (by decide +kernel : decode code 653 = .ok (.invokevirtual 177, 3)) ?_)
  refine sm_istore (pc := 656) G hb (by decide +kernel : decode code 656 = .ok (.istore 6, 2)) ?_
  refine sm_aload_n (pc := 658) G hb (by decide +kernel : decode code 658 = .ok (.aload_n 2, 1)) rfl ?_
  refine sm_mono (cav_sub gI_sub) (sm_callV (pc := 659) (N := 32) (T := TX9) (C := RX9) G hb ho hy he hE.1 1 [204, 205, 206, 207, 208, 209, 210, 211, 212, 213, 214, 215, 216, 217, 218, 219, 220, 221] (kX9_thrown hE N) (gCo_of (by decide +kernel)) (by rw [hR]; exact ⟨by decide, by decide⟩) rfl rfl (by decide +kernel) gw6_94 gw6_95 gw6_96 gw1_11 gw6_97 (by decide +kernel : decode code 659 = .ok (.invokevirtual 151, 3)) ?_)
  refine sm_iload (pc := 662) G hb (by decide +kernel : decode code 662 = .ok (.iload 5, 2)) ?_
  refine sm_icmp_eq (pc := 664) (tgt := 669) G hb (by decide +kernel : decode code 664 = .ok (.if_icmp .eq 5, 3)) (by decide) ?_ ?_
  · skip
    refine sm_iload (pc := 669) G hb (by decide +kernel : decode code 669 = .ok (.iload 5, 2)) ?_
    refine sm_if_ne (pc := 671) (tgt := 693) G hb (by decide +kernel : decode code 671 = .ok (.ifCond .ne 22, 3)) (by decide) ?_ ?_
    · skip
      refine sm_mask ?_
      exact fL_law_s693 N SL SX G hb ho hy hR he hr hE hEL hSc (by omega) K23 h23
    · skip
      refine sm_aload_n (pc := 674) G hb (by decide +kernel : decode code 674 = .ok (.aload_n 3, 1)) rfl ?_
      refine sm_iconst (pc := 675) G hb (by decide +kernel : decode code 675 = .ok (.iconst 0, 1)) (by decide) ?_
      refine sm_lald (pc := 676) G hb hy (by decide +kernel : decode code 676 = .ok (.laload, 1)) ?_
      refine sm_iload (pc := 677) G hb (by decide +kernel : decode code 677 = .ok (.iload 6, 2)) ?_
      refine sm_if_eq (pc := 679) (tgt := 686) G hb (by decide +kernel : decode code 679 = .ok (.ifCond .eq 7, 3)) (by decide) ?_ ?_
      · skip
        refine sm_lconst (pc := 686) G hb (by decide +kernel : decode code 686 = .ok (.lconst 0, 1)) (by decide) ?_
        refine sm_mask ?_
        exact fL_law_s687 N SL SX G hb ho hy hR he hr hE hEL hSc (by omega) K23 h23
      · skip
        refine sm_lconst (pc := 682) G hb (by decide +kernel : decode code 682 = .ok (.lconst 1, 1)) (by decide) ?_
        refine sm_goto (pc := 683) (tgt := 687) G hb (by decide +kernel : decode code 683 = .ok (.goto 4, 3)) (by decide) ?_
        refine sm_mask ?_
        exact fL_law_s687 N SL SX G hb ho hy hR he hr hE hEL hSc (by omega) K23 h23
  · skip
    refine sm_iconst (pc := 667) G hb (by decide +kernel : decode code 667 = .ok (.iconst 0, 1)) (by decide) ?_
    exact sm_zret (pc := 668) G hb (by decide +kernel : decode code 668 = .ok (.ireturn, 1)) hr
set_option maxRecDepth 100000 in
set_option maxHeartbeats 8000000 in
theorem fL_law_s620 {γ : gG} {cs ss c2 s2 : Nat} {ε : gE5} (N SL : Nat) (SX : Nat → Int32) (G : gOK γ) (hb : gcc γ = code) (ho : gow γ = RL) (hy : gly γ = gyL) (hR : grm γ = room_1) (he : genv γ = ε) (hr : grt γ = some .boolean) (hE : gEnv ε) (hEL : gEnvL ε) (hSc : gSc ε SL SX) (hc9 : cs + 3 ≤ c2 ∧ ss + 18 ≤ s2 ∧ c2 ≤ 601024 ∧ s2 ≤ 7293033) (K23 : gK) (h23 : gSm γ c2 s2 23 K23) : gSm γ cs ss 620 (fL_law_k620 N SL SX K23) := by
  unfold fL_law_k620
  refine sm_aload_n (pc := 620) G hb (by decide +kernel : decode code 620 = .ok (.aload_n 3, 1)) rfl ?_
  refine sm_mono (ca_sub gI_sub) (sm_callW (pc := 621) G hb ho hy he hE.1 5 [0, 1, 2, 3, 4, 5, 6, 7, 8, 9, 10, 11, 12, 13, 14, 15, 16, 17, 18, 19, 20, 21, 22, 23, 24, 25, 26, 27, 28, 29, 30, 31, 32, 33, 34, 35, 36, 37, 38, 39, 40, 41, 42, 43, 44, 45, 46, 47, 48, 49, 50, 51, 52, 53, 54, 55, 56, 57, 58, 59, 60, 61, 62, 63, 64, 65, 66, 67, 68, 69, 70, 71, 72, 73, 74, 75, 76, 77, 78, 79, 80, 81, 82, 83, 84, 85, 86, 87, 88, 89, 90, 91, 92, 93, 94, 95, 96, 97, 98, 99, 100, 101, 102, 103, 104, 105, 106, 107, 108, 109, 110, 111, 112, 113, 114, 115, 116, 117, 118, 119, 120, 121, 122, 123, 124, 125, 126, 127, 128, 129, 130, 131, 132, 133, 134, 135, 136, 137, 138, 139, 140, 141, 142, 143, 144, 145, 146, 147, 148, 149, 150, 151, 152, 153, 154, 155, 156, 157, 158, 159, 160, 161, 162, 163, 164, 165, 166, 167, 168, 169, 170, 171, 172, 173, 174, 175, 176, 177, 178, 179, 180, 181, 182, 183, 184, 185, 186, 187, 188, 189, 190, 191, 192, 193, 194, 195, 196, 197, 198, 199, 200, 201, 202, 203, 222] (kL_setConflict hEL N) (gCo_of (by decide +kernel)) (by rw [hR]; exact ⟨by decide, by decide⟩) (by rw [hR]; exact ⟨by show _ ≤ 601024; omega, by show _ ≤ 7293033; omega⟩) (by decide +kernel) gw4_27 gw4_28 gw1_0 gw4_29 (by decide +kernel : decode code 621 = .ok (.invokestatic 174, 3)) ?_)
  refine sm_istore (pc := 624) G hb (by decide +kernel : decode code 624 = .ok (.istore 5, 2)) ?_
  refine sm_aload_n (pc := 626) G hb (by decide +kernel : decode code 626 = .ok (.aload_n 2, 1)) rfl ?_
  refine sm_aload_n (pc := 627) G hb (by decide +kernel : decode code 627 = .ok (.aload_n 0, 1)) rfl ?_
  refine sm_iload (pc := 628) G hb (by decide +kernel : decode code 628 = .ok (.iload 4, 2)) ?_
  refine sm_iconst (pc := 630) G hb (by decide +kernel : decode code 630 = .ok (.iconst 1, 1)) (by decide) ?_
  refine sm_iadd (pc := 631) G hb (by decide +kernel : decode code 631 = .ok (.iadd, 1)) ?_
  refine sm_sld (pc := 632) G hb ho he hE hSc (by decide +kernel : decode code 632 = .ok (.iaload, 1)) ?_
  refine sm_aload_n (pc := 633) G hb (by decide +kernel : decode code 633 = .ok (.aload_n 0, 1)) rfl ?_
  refine sm_iload (pc := 634) G hb (by decide +kernel : decode code 634 = .ok (.iload 4, 2)) ?_
  refine sm_iconst (pc := 636) G hb (by decide +kernel : decode code 636 = .ok (.iconst 2, 1)) (by decide) ?_
  refine sm_iadd (pc := 637) G hb (by decide +kernel : decode code 637 = .ok (.iadd, 1)) ?_
  refine sm_sld (pc := 638) G hb ho he hE hSc (by decide +kernel : decode code 638 = .ok (.iaload, 1)) ?_
  refine sm_aload_n (pc := 639) G hb (by decide +kernel : decode code 639 = .ok (.aload_n 0, 1)) rfl ?_
  refine sm_iload (pc := 640) G hb (by decide +kernel : decode code 640 = .ok (.iload 4, 2)) ?_
  refine sm_iconst (pc := 642) G hb (by decide +kernel : decode code 642 = .ok (.iconst 3, 1)) (by decide) ?_
  refine sm_iadd (pc := 643) G hb (by decide +kernel : decode code 643 = .ok (.iadd, 1)) ?_
  refine sm_sld (pc := 644) G hb ho he hE hSc (by decide +kernel : decode code 644 = .ok (.iaload, 1)) ?_
  refine sm_if_eq (pc := 645) (tgt := 652) G hb (by decide +kernel : decode code 645 = .ok (.ifCond .eq 7, 3)) (by decide) ?_ ?_
  · skip
    refine sm_iconst (pc := 652) G hb (by decide +kernel : decode code 652 = .ok (.iconst 0, 1)) (by decide) ?_
    refine sm_mask ?_
    exact fL_law_s653 N SL SX G hb ho hy hR he hr hE hEL hSc (by omega) K23 h23
  · skip
    refine sm_iconst (pc := 648) G hb (by decide +kernel : decode code 648 = .ok (.iconst 1, 1)) (by decide) ?_
    refine sm_goto (pc := 649) (tgt := 653) G hb (by decide +kernel : decode code 649 = .ok (.goto 4, 3)) (by decide) ?_
    refine sm_mask ?_
    exact fL_law_s653 N SL SX G hb ho hy hR he hr hE hEL hSc (by omega) K23 h23
set_option maxRecDepth 100000 in
set_option maxHeartbeats 8000000 in
theorem fL_law_s593 {γ : gG} {cs ss c2 s2 : Nat} {ε : gE5} (N SL : Nat) (SX : Nat → Int32) (G : gOK γ) (hb : gcc γ = code) (ho : gow γ = RL) (hy : gly γ = gyL) (hR : grm γ = room_1) (he : genv γ = ε) (hr : grt γ = some .boolean) (hE : gEnv ε) (hEL : gEnvL ε) (hSc : gSc ε SL SX) (hc9 : cs + 3 ≤ c2 ∧ ss + 18 ≤ s2 ∧ c2 ≤ 601024 ∧ s2 ≤ 7293033) (K23 : gK) (h23 : gSm γ c2 s2 23 K23) : gSm γ cs ss 593 (fL_law_k593 N SL SX K23) := by
  unfold fL_law_k593
  refine sm_aload_n (pc := 593) G hb (by decide +kernel : decode code 593 = .ok (.aload_n 1, 1)) rfl ?_
  refine sm_aload_n (pc := 594) G hb (by decide +kernel : decode code 594 = .ok (.aload_n 0, 1)) rfl ?_
  refine sm_iload (pc := 595) G hb (by decide +kernel : decode code 595 = .ok (.iload 4, 2)) ?_
  refine sm_iconst (pc := 597) G hb (by decide +kernel : decode code 597 = .ok (.iconst 1, 1)) (by decide) ?_
  refine sm_iadd (pc := 598) G hb (by decide +kernel : decode code 598 = .ok (.iadd, 1)) ?_
  refine sm_sld (pc := 599) G hb ho he hE hSc (by decide +kernel : decode code 599 = .ok (.iaload, 1)) ?_
  refine sm_aload_n (pc := 600) G hb (by decide +kernel : decode code 600 = .ok (.aload_n 0, 1)) rfl ?_
  refine sm_iload (pc := 601) G hb (by decide +kernel : decode code 601 = .ok (.iload 4, 2)) ?_
  refine sm_iconst (pc := 603) G hb (by decide +kernel : decode code 603 = .ok (.iconst 2, 1)) (by decide) ?_
  refine sm_iadd (pc := 604) G hb (by decide +kernel : decode code 604 = .ok (.iadd, 1)) ?_
  refine sm_sld (pc := 605) G hb ho he hE hSc (by decide +kernel : decode code 605 = .ok (.iaload, 1)) ?_
  refine sm_aload_n (pc := 606) G hb (by decide +kernel : decode code 606 = .ok (.aload_n 0, 1)) rfl ?_
  refine sm_iload (pc := 607) G hb (by decide +kernel : decode code 607 = .ok (.iload 4, 2)) ?_
  refine sm_iconst (pc := 609) G hb (by decide +kernel : decode code 609 = .ok (.iconst 3, 1)) (by decide) ?_
  refine sm_iadd (pc := 610) G hb (by decide +kernel : decode code 610 = .ok (.iadd, 1)) ?_
  refine sm_sld (pc := 611) G hb ho he hE hSc (by decide +kernel : decode code 611 = .ok (.iaload, 1)) ?_
  refine sm_if_eq (pc := 612) (tgt := 619) G hb (by decide +kernel : decode code 612 = .ok (.ifCond .eq 7, 3)) (by decide) ?_ ?_
  · skip
    refine sm_iconst (pc := 619) G hb (by decide +kernel : decode code 619 = .ok (.iconst 0, 1)) (by decide) ?_
    refine sm_mask ?_
    exact fL_law_s620 N SL SX G hb ho hy hR he hr hE hEL hSc (by omega) K23 h23
  · skip
    refine sm_iconst (pc := 615) G hb (by decide +kernel : decode code 615 = .ok (.iconst 1, 1)) (by decide) ?_
    refine sm_goto (pc := 616) (tgt := 620) G hb (by decide +kernel : decode code 616 = .ok (.goto 4, 3)) (by decide) ?_
    refine sm_mask ?_
    exact fL_law_s620 N SL SX G hb ho hy hR he hr hE hEL hSc (by omega) K23 h23
set_option maxRecDepth 100000 in
set_option maxHeartbeats 8000000 in
theorem fL_law_s785 {γ : gG} {cs ss c2 s2 : Nat} {ε : gE5} (N SL : Nat) (SX : Nat → Int32) (G : gOK γ) (hb : gcc γ = code) (ho : gow γ = RL) (hy : gly γ = gyL) (hR : grm γ = room_1) (he : genv γ = ε) (hr : grt γ = some .boolean) (hE : gEnv ε) (hEL : gEnvL ε) (hSc : gSc ε SL SX) (hc9 : cs + 0 ≤ c2 ∧ ss + 0 ≤ s2 ∧ c2 ≤ 601024 ∧ s2 ≤ 7293033) (K23 : gK) (h23 : gSm γ c2 s2 23 K23) : gSm γ cs ss 785 (fL_law_k785 N SL SX K23) := by
  unfold fL_law_k785
  refine sm_goto (pc := 785) (tgt := 2794) G hb (by decide +kernel : decode code 785 = .ok (.goto 2009, 3)) (by decide) ?_
  refine sm_mask ?_
  exact fL_law_s2794 N SL SX G hb ho hy hR he hr hE hEL hSc (by omega) K23 h23
set_option maxRecDepth 100000 in
set_option maxHeartbeats 8000000 in
theorem fL_law_s761 {γ : gG} {cs ss c2 s2 : Nat} {ε : gE5} (N SL : Nat) (SX : Nat → Int32) (G : gOK γ) (hb : gcc γ = code) (ho : gow γ = RL) (hy : gly γ = gyL) (hR : grm γ = room_1) (he : genv γ = ε) (hr : grt γ = some .boolean) (hE : gEnv ε) (hEL : gEnvL ε) (hSc : gSc ε SL SX) (hc9 : cs + 0 ≤ c2 ∧ ss + 0 ≤ s2 ∧ c2 ≤ 601024 ∧ s2 ≤ 7293033) (K23 : gK) (h23 : gSm γ c2 s2 23 K23) : gSm γ cs ss 761 (fL_law_k761 N SL SX K23) := by
  unfold fL_law_k761
  refine sm_iload (pc := 761) G hb (by decide +kernel : decode code 761 = .ok (.iload 5, 2)) ?_
  refine sm_icmp_eq (pc := 763) (tgt := 768) G hb (by decide +kernel : decode code 763 = .ok (.if_icmp .eq 5, 3)) (by decide) ?_ ?_
  · skip
    refine sm_iload (pc := 768) G hb (by decide +kernel : decode code 768 = .ok (.iload 5, 2)) ?_
    refine sm_if_ne (pc := 770) (tgt := 785) G hb (by decide +kernel : decode code 770 = .ok (.ifCond .ne 15, 3)) (by decide) ?_ ?_
    · skip
      refine sm_mask ?_
      exact fL_law_s785 N SL SX G hb ho hy hR he hr hE hEL hSc (by omega) K23 h23
    · skip
      refine sm_aload_n (pc := 773) G hb (by decide +kernel : decode code 773 = .ok (.aload_n 3, 1)) rfl ?_
      refine sm_iconst (pc := 774) G hb (by decide +kernel : decode code 774 = .ok (.iconst 0, 1)) (by decide) ?_
      refine sm_lald (pc := 775) G hb hy (by decide +kernel : decode code 775 = .ok (.laload, 1)) ?_
      refine sm_iload (pc := 776) G hb (by decide +kernel : decode code 776 = .ok (.iload 6, 2)) ?_
      refine sm_i2l (pc := 778) G hb (by decide +kernel : decode code 778 = .ok (.i2l, 1)) ?_
      refine sm_lcmp (pc := 779) G hb (by decide +kernel : decode code 779 = .ok (.lcmp, 1)) ?_
      refine sm_if_eq (pc := 780) (tgt := 785) G hb (by decide +kernel : decode code 780 = .ok (.ifCond .eq 5, 3)) (by decide) ?_ ?_
      · skip
        refine sm_mask ?_
        exact fL_law_s785 N SL SX G hb ho hy hR he hr hE hEL hSc (by omega) K23 h23
      · skip
        refine sm_iconst (pc := 783) G hb (by decide +kernel : decode code 783 = .ok (.iconst 0, 1)) (by decide) ?_
        exact sm_zret (pc := 784) G hb (by decide +kernel : decode code 784 = .ok (.ireturn, 1)) hr
  · skip
    refine sm_iconst (pc := 766) G hb (by decide +kernel : decode code 766 = .ok (.iconst 0, 1)) (by decide) ?_
    exact sm_zret (pc := 767) G hb (by decide +kernel : decode code 767 = .ok (.ireturn, 1)) hr
set_option maxRecDepth 100000 in
set_option maxHeartbeats 8000000 in
theorem fL_law_s696 {γ : gG} {cs ss c2 s2 : Nat} {ε : gE5} (N SL : Nat) (SX : Nat → Int32) (G : gOK γ) (hb : gcc γ = code) (ho : gow γ = RL) (hy : gly γ = gyL) (hR : grm γ = room_1) (he : genv γ = ε) (hr : grt γ = some .boolean) (hE : gEnv ε) (hEL : gEnvL ε) (hSc : gSc ε SL SX) (hc9 : cs + 6 ≤ c2 ∧ ss + 36 ≤ s2 ∧ c2 ≤ 601024 ∧ s2 ≤ 7293033) (K23 : gK) (h23 : gSm γ c2 s2 23 K23) : gSm γ cs ss 696 (fL_law_k696 N SL SX K23) := by
  unfold fL_law_k696
  refine sm_aload_n (pc := 696) G hb (by decide +kernel : decode code 696 = .ok (.aload_n 1, 1)) rfl ?_
  refine sm_aload_n (pc := 697) G hb (by decide +kernel : decode code 697 = .ok (.aload_n 0, 1)) rfl ?_
  refine sm_iload (pc := 698) G hb (by decide +kernel : decode code 698 = .ok (.iload 4, 2)) ?_
  refine sm_iconst (pc := 700) G hb (by decide +kernel : decode code 700 = .ok (.iconst 1, 1)) (by decide) ?_
  refine sm_iadd (pc := 701) G hb (by decide +kernel : decode code 701 = .ok (.iadd, 1)) ?_
  refine sm_sld (pc := 702) G hb ho he hE hSc (by decide +kernel : decode code 702 = .ok (.iaload, 1)) ?_
  refine sm_aload_n (pc := 703) G hb (by decide +kernel : decode code 703 = .ok (.aload_n 0, 1)) rfl ?_
  refine sm_iload (pc := 704) G hb (by decide +kernel : decode code 704 = .ok (.iload 4, 2)) ?_
  refine sm_iconst (pc := 706) G hb (by decide +kernel : decode code 706 = .ok (.iconst 2, 1)) (by decide) ?_
  refine sm_iadd (pc := 707) G hb (by decide +kernel : decode code 707 = .ok (.iadd, 1)) ?_
  refine sm_sld (pc := 708) G hb ho he hE hSc (by decide +kernel : decode code 708 = .ok (.iaload, 1)) ?_
  refine sm_aload_n (pc := 709) G hb (by decide +kernel : decode code 709 = .ok (.aload_n 0, 1)) rfl ?_
  refine sm_iload (pc := 710) G hb (by decide +kernel : decode code 710 = .ok (.iload 4, 2)) ?_
  refine sm_iconst (pc := 712) G hb (by decide +kernel : decode code 712 = .ok (.iconst 3, 1)) (by decide) ?_
  refine sm_iadd (pc := 713) G hb (by decide +kernel : decode code 713 = .ok (.iadd, 1)) ?_
  refine sm_sld (pc := 714) G hb ho he hE hSc (by decide +kernel : decode code 714 = .ok (.iaload, 1)) ?_
  refine sm_aload_n (pc := 715) G hb (by decide +kernel : decode code 715 = .ok (.aload_n 0, 1)) rfl ?_
  refine sm_iload (pc := 716) G hb (by decide +kernel : decode code 716 = .ok (.iload 4, 2)) ?_
  refine sm_iconst (pc := 718) G hb (by decide +kernel : decode code 718 = .ok (.iconst 4, 1)) (by decide) ?_
  refine sm_iadd (pc := 719) G hb (by decide +kernel : decode code 719 = .ok (.iadd, 1)) ?_
  refine sm_sld (pc := 720) G hb ho he hE hSc (by decide +kernel : decode code 720 = .ok (.iaload, 1)) ?_
  refine sm_aload_n (pc := 721) G hb (by decide +kernel : decode code 721 = .ok (.aload_n 3, 1)) rfl ?_
  refine sm_mono (ca_sub gI_sub) (sm_callW (pc := 722) G hb ho hy he hE.1 6 [0, 1, 2, 3, 4, 5, 6, 7, 8, 9, 10, 11, 12, 13, 14, 15, 16, 17, 18, 19, 20, 21, 22, 23, 24, 25, 26, 27, 28, 29, 30, 31, 32, 33, 34, 35, 36, 37, 38, 39, 40, 41, 42, 43, 44, 45, 46, 47, 48, 49, 50, 51, 52, 53, 54, 55, 56, 57, 58, 59, 60, 61, 62, 63, 64, 65, 66, 67, 68, 69, 70, 71, 72, 73, 74, 75, 76, 77, 78, 79, 80, 81, 82, 83, 84, 85, 86, 87, 88, 89, 90, 91, 92, 93, 94, 95, 96, 97, 98, 99, 100, 101, 102, 103, 104, 105, 106, 107, 108, 109, 110, 111, 112, 113, 114, 115, 116, 117, 118, 119, 120, 121, 122, 123, 124, 125, 126, 127, 128, 129, 130, 131, 132, 133, 134, 135, 136, 137, 138, 139, 140, 141, 142, 143, 144, 145, 146, 147, 148, 149, 150, 151, 152, 153, 154, 155, 156, 157, 158, 159, 160, 161, 162, 163, 164, 165, 166, 167, 168, 169, 170, 171, 172, 173, 174, 175, 176, 177, 178, 179, 180, 181, 182, 183, 184, 185, 186, 187, 188, 189, 190, 191, 192, 193, 194, 195, 196, 197, 198, 199, 200, 201, 202, 203, 222] (kL_addFlow hEL N) (gCo_of (by decide +kernel)) (by rw [hR]; exact ⟨by decide, by decide⟩) (by rw [hR]; exact ⟨by show _ ≤ 601024; omega, by show _ ≤ 7293033; omega⟩) (by decide +kernel) gw4_37 gw4_38 gw1_0 gw4_39 (by decide +kernel : decode code 722 = .ok (.invokestatic 178, 3)) ?_)
  refine sm_istore (pc := 725) G hb (by decide +kernel : decode code 725 = .ok (.istore 5, 2)) ?_
  refine sm_aload_n (pc := 727) G hb (by decide +kernel : decode code 727 = .ok (.aload_n 2, 1)) rfl ?_
  refine sm_aload_n (pc := 728) G hb (by decide +kernel : decode code 728 = .ok (.aload_n 0, 1)) rfl ?_
  refine sm_iload (pc := 729) G hb (by decide +kernel : decode code 729 = .ok (.iload 4, 2)) ?_
  refine sm_iconst (pc := 731) G hb (by decide +kernel : decode code 731 = .ok (.iconst 1, 1)) (by decide) ?_
  refine sm_iadd (pc := 732) G hb (by decide +kernel : decode code 732 = .ok (.iadd, 1)) ?_
  refine sm_sld (pc := 733) G hb ho he hE hSc (by decide +kernel : decode code 733 = .ok (.iaload, 1)) ?_
  refine sm_aload_n (pc := 734) G hb (by decide +kernel : decode code 734 = .ok (.aload_n 0, 1)) rfl ?_
  refine sm_iload (pc := 735) G hb (by decide +kernel : decode code 735 = .ok (.iload 4, 2)) ?_
  refine sm_iconst (pc := 737) G hb (by decide +kernel : decode code 737 = .ok (.iconst 2, 1)) (by decide) ?_
  refine sm_iadd (pc := 738) G hb (by decide +kernel : decode code 738 = .ok (.iadd, 1)) ?_
  refine sm_sld (pc := 739) G hb ho he hE hSc (by decide +kernel : decode code 739 = .ok (.iaload, 1)) ?_
  refine sm_aload_n (pc := 740) G hb (by decide +kernel : decode code 740 = .ok (.aload_n 0, 1)) rfl ?_
  refine sm_iload (pc := 741) G hb (by decide +kernel : decode code 741 = .ok (.iload 4, 2)) ?_
  refine sm_iconst (pc := 743) G hb (by decide +kernel : decode code 743 = .ok (.iconst 3, 1)) (by decide) ?_
  refine sm_iadd (pc := 744) G hb (by decide +kernel : decode code 744 = .ok (.iadd, 1)) ?_
  refine sm_sld (pc := 745) G hb ho he hE hSc (by decide +kernel : decode code 745 = .ok (.iaload, 1)) ?_
  refine sm_aload_n (pc := 746) G hb (by decide +kernel : decode code 746 = .ok (.aload_n 0, 1)) rfl ?_
  refine sm_iload (pc := 747) G hb (by decide +kernel : decode code 747 = .ok (.iload 4, 2)) ?_
  refine sm_iconst (pc := 749) G hb (by decide +kernel : decode code 749 = .ok (.iconst 4, 1)) (by decide) ?_
  refine sm_iadd (pc := 750) G hb (by decide +kernel : decode code 750 = .ok (.iadd, 1)) ?_
  refine sm_sld (pc := 751) G hb ho he hE hSc (by decide +kernel : decode code 751 = .ok (.iaload, 1)) ?_
  refine sm_mono (cav_sub gI_sub) (sm_callV (pc := 752) (N := 32) (T := TX9) (C := RX9) G hb ho hy he hE.1 5 [204, 205, 206, 207, 208, 209, 210, 211, 212, 213, 214, 215, 216, 217, 218, 219, 220, 221] (kX9_addFlow hE N) (gCo_of (by decide +kernel)) (by rw [hR]; exact ⟨by decide, by decide⟩) rfl rfl (by decide +kernel) gw7_25 gw7_26 gw7_27 gw1_11 gw7_28 (by decide +kernel : decode code 752 = .ok (.invokevirtual 181, 3)) ?_)
  refine sm_istore (pc := 755) G hb (by decide +kernel : decode code 755 = .ok (.istore 6, 2)) ?_
  refine sm_aload_n (pc := 757) G hb (by decide +kernel : decode code 757 = .ok (.aload_n 2, 1)) rfl ?_
  refine sm_mono (cav_sub gI_sub) (sm_callV (pc := 758) (N := 32) (T := TX9) (C := RX9) G hb ho hy he hE.1 1 [204, 205, 206, 207, 208, 209, 210, 211, 212, 213, 214, 215, 216, 217, 218, 219, 220, 221] (kX9_thrown hE N) (gCo_of (by decide +kernel)) (by rw [hR]; exact ⟨by decide, by decide⟩) rfl rfl (by decide +kernel) gw6_94 gw6_95 gw6_96 gw1_11 gw6_97 (by decide +kernel : decode code 758 = .ok (.invokevirtual 151, 3)) ?_)
  refine sm_mask ?_
  exact fL_law_s761 N SL SX G hb ho hy hR he hr hE hEL hSc (by omega) K23 h23
set_option maxRecDepth 100000 in
set_option maxHeartbeats 8000000 in
theorem fL_law_s853 {γ : gG} {cs ss c2 s2 : Nat} {ε : gE5} (N SL : Nat) (SX : Nat → Int32) (G : gOK γ) (hb : gcc γ = code) (ho : gow γ = RL) (hy : gly γ = gyL) (hR : grm γ = room_1) (he : genv γ = ε) (hr : grt γ = some .boolean) (hE : gEnv ε) (hEL : gEnvL ε) (hSc : gSc ε SL SX) (hc9 : cs + 0 ≤ c2 ∧ ss + 0 ≤ s2 ∧ c2 ≤ 601024 ∧ s2 ≤ 7293033) (K23 : gK) (h23 : gSm γ c2 s2 23 K23) : gSm γ cs ss 853 (fL_law_k853 N SL SX K23) := by
  unfold fL_law_k853
  refine sm_goto (pc := 853) (tgt := 2794) G hb (by decide +kernel : decode code 853 = .ok (.goto 1941, 3)) (by decide) ?_
  refine sm_mask ?_
  exact fL_law_s2794 N SL SX G hb ho hy hR he hr hE hEL hSc (by omega) K23 h23
set_option maxRecDepth 100000 in
set_option maxHeartbeats 8000000 in
theorem fL_law_s829 {γ : gG} {cs ss c2 s2 : Nat} {ε : gE5} (N SL : Nat) (SX : Nat → Int32) (G : gOK γ) (hb : gcc γ = code) (ho : gow γ = RL) (hy : gly γ = gyL) (hR : grm γ = room_1) (he : genv γ = ε) (hr : grt γ = some .boolean) (hE : gEnv ε) (hEL : gEnvL ε) (hSc : gSc ε SL SX) (hc9 : cs + 0 ≤ c2 ∧ ss + 0 ≤ s2 ∧ c2 ≤ 601024 ∧ s2 ≤ 7293033) (K23 : gK) (h23 : gSm γ c2 s2 23 K23) : gSm γ cs ss 829 (fL_law_k829 N SL SX K23) := by
  unfold fL_law_k829
  refine sm_iload (pc := 829) G hb (by decide +kernel : decode code 829 = .ok (.iload 5, 2)) ?_
  refine sm_icmp_eq (pc := 831) (tgt := 836) G hb (by decide +kernel : decode code 831 = .ok (.if_icmp .eq 5, 3)) (by decide) ?_ ?_
  · skip
    refine sm_iload (pc := 836) G hb (by decide +kernel : decode code 836 = .ok (.iload 5, 2)) ?_
    refine sm_if_ne (pc := 838) (tgt := 853) G hb (by decide +kernel : decode code 838 = .ok (.ifCond .ne 15, 3)) (by decide) ?_ ?_
    · skip
      refine sm_mask ?_
      exact fL_law_s853 N SL SX G hb ho hy hR he hr hE hEL hSc (by omega) K23 h23
    · skip
      refine sm_aload_n (pc := 841) G hb (by decide +kernel : decode code 841 = .ok (.aload_n 3, 1)) rfl ?_
      refine sm_iconst (pc := 842) G hb (by decide +kernel : decode code 842 = .ok (.iconst 0, 1)) (by decide) ?_
      refine sm_lald (pc := 843) G hb hy (by decide +kernel : decode code 843 = .ok (.laload, 1)) ?_
      refine sm_iload (pc := 844) G hb (by decide +kernel : decode code 844 = .ok (.iload 6, 2)) ?_
      refine sm_i2l (pc := 846) G hb (by decide +kernel : decode code 846 = .ok (.i2l, 1)) ?_
      refine sm_lcmp (pc := 847) G hb (by decide +kernel : decode code 847 = .ok (.lcmp, 1)) ?_
      refine sm_if_eq (pc := 848) (tgt := 853) G hb (by decide +kernel : decode code 848 = .ok (.ifCond .eq 5, 3)) (by decide) ?_ ?_
      · skip
        refine sm_mask ?_
        exact fL_law_s853 N SL SX G hb ho hy hR he hr hE hEL hSc (by omega) K23 h23
      · skip
        refine sm_iconst (pc := 851) G hb (by decide +kernel : decode code 851 = .ok (.iconst 0, 1)) (by decide) ?_
        exact sm_zret (pc := 852) G hb (by decide +kernel : decode code 852 = .ok (.ireturn, 1)) hr
  · skip
    refine sm_iconst (pc := 834) G hb (by decide +kernel : decode code 834 = .ok (.iconst 0, 1)) (by decide) ?_
    exact sm_zret (pc := 835) G hb (by decide +kernel : decode code 835 = .ok (.ireturn, 1)) hr
set_option maxRecDepth 100000 in
set_option maxHeartbeats 8000000 in
theorem fL_law_s788 {γ : gG} {cs ss c2 s2 : Nat} {ε : gE5} (N SL : Nat) (SX : Nat → Int32) (G : gOK γ) (hb : gcc γ = code) (ho : gow γ = RL) (hy : gly γ = gyL) (hR : grm γ = room_1) (he : genv γ = ε) (hr : grt γ = some .boolean) (hE : gEnv ε) (hEL : gEnvL ε) (hSc : gSc ε SL SX) (hc9 : cs + 2 ≤ c2 ∧ ss + 12 ≤ s2 ∧ c2 ≤ 601024 ∧ s2 ≤ 7293033) (K23 : gK) (h23 : gSm γ c2 s2 23 K23) : gSm γ cs ss 788 (fL_law_k788 N SL SX K23) := by
  unfold fL_law_k788
  refine sm_aload_n (pc := 788) G hb (by decide +kernel : decode code 788 = .ok (.aload_n 1, 1)) rfl ?_
  refine sm_aload_n (pc := 789) G hb (by decide +kernel : decode code 789 = .ok (.aload_n 0, 1)) rfl ?_
  refine sm_iload (pc := 790) G hb (by decide +kernel : decode code 790 = .ok (.iload 4, 2)) ?_
  refine sm_iconst (pc := 792) G hb (by decide +kernel : decode code 792 = .ok (.iconst 1, 1)) (by decide) ?_
  refine sm_iadd (pc := 793) G hb (by decide +kernel : decode code 793 = .ok (.iadd, 1)) ?_
  refine sm_sld (pc := 794) G hb ho he hE hSc (by decide +kernel : decode code 794 = .ok (.iaload, 1)) ?_
  refine sm_aload_n (pc := 795) G hb (by decide +kernel : decode code 795 = .ok (.aload_n 0, 1)) rfl ?_
  refine sm_iload (pc := 796) G hb (by decide +kernel : decode code 796 = .ok (.iload 4, 2)) ?_
  refine sm_iconst (pc := 798) G hb (by decide +kernel : decode code 798 = .ok (.iconst 2, 1)) (by decide) ?_
  refine sm_iadd (pc := 799) G hb (by decide +kernel : decode code 799 = .ok (.iadd, 1)) ?_
  refine sm_sld (pc := 800) G hb ho he hE hSc (by decide +kernel : decode code 800 = .ok (.iaload, 1)) ?_
  refine sm_aload_n (pc := 801) G hb (by decide +kernel : decode code 801 = .ok (.aload_n 3, 1)) rfl ?_
  refine sm_mono (ca_sub gI_sub) (sm_callW (pc := 802) G hb ho hy he hE.1 4 [0, 1, 2, 3, 4, 5, 6, 7, 8, 9, 10, 11, 12, 13, 14, 15, 16, 17, 18, 19, 20, 21, 22, 23, 24, 25, 26, 27, 28, 29, 30, 31, 32, 33, 34, 35, 36, 37, 38, 39, 40, 41, 42, 43, 44, 45, 46, 47, 48, 49, 50, 51, 52, 53, 54, 55, 56, 57, 58, 59, 60, 61, 62, 63, 64, 65, 66, 67, 68, 69, 70, 71, 72, 73, 74, 75, 76, 77, 78, 79, 80, 81, 82, 83, 84, 85, 86, 87, 88, 89, 90, 91, 92, 93, 94, 95, 96, 97, 98, 99, 100, 101, 102, 103, 104, 105, 106, 107, 108, 109, 110, 111, 112, 113, 114, 115, 116, 117, 118, 119, 120, 121, 122, 123, 124, 125, 126, 127, 128, 129, 130, 131, 132, 133, 134, 135, 136, 137, 138, 139, 140, 141, 142, 143, 144, 145, 146, 147, 148, 149, 150, 151, 152, 153, 154, 155, 156, 157, 158, 159, 160, 161, 162, 163, 164, 165, 166, 167, 168, 169, 170, 171, 172, 173, 174, 175, 176, 177, 178, 179, 180, 181, 182, 183, 184, 185, 186, 187, 188, 189, 190, 191, 192, 193, 194, 195, 196, 197, 198, 199, 200, 201, 202, 203, 222] (kL_setRate hEL N) (gCo_of (by decide +kernel)) (by rw [hR]; exact ⟨by decide, by decide⟩) (by rw [hR]; exact ⟨by show _ ≤ 601024; omega, by show _ ≤ 7293033; omega⟩) (by decide +kernel) gw4_45 gw4_46 gw1_0 gw4_47 (by decide +kernel : decode code 802 = .ok (.invokestatic 182, 3)) ?_)
  refine sm_istore (pc := 805) G hb (by decide +kernel : decode code 805 = .ok (.istore 5, 2)) ?_
  refine sm_aload_n (pc := 807) G hb (by decide +kernel : decode code 807 = .ok (.aload_n 2, 1)) rfl ?_
  refine sm_aload_n (pc := 808) G hb (by decide +kernel : decode code 808 = .ok (.aload_n 0, 1)) rfl ?_
  refine sm_iload (pc := 809) G hb (by decide +kernel : decode code 809 = .ok (.iload 4, 2)) ?_
  refine sm_iconst (pc := 811) G hb (by decide +kernel : decode code 811 = .ok (.iconst 1, 1)) (by decide) ?_
  refine sm_iadd (pc := 812) G hb (by decide +kernel : decode code 812 = .ok (.iadd, 1)) ?_
  refine sm_sld (pc := 813) G hb ho he hE hSc (by decide +kernel : decode code 813 = .ok (.iaload, 1)) ?_
  refine sm_aload_n (pc := 814) G hb (by decide +kernel : decode code 814 = .ok (.aload_n 0, 1)) rfl ?_
  refine sm_iload (pc := 815) G hb (by decide +kernel : decode code 815 = .ok (.iload 4, 2)) ?_
  refine sm_iconst (pc := 817) G hb (by decide +kernel : decode code 817 = .ok (.iconst 2, 1)) (by decide) ?_
  refine sm_iadd (pc := 818) G hb (by decide +kernel : decode code 818 = .ok (.iadd, 1)) ?_
  refine sm_sld (pc := 819) G hb ho he hE hSc (by decide +kernel : decode code 819 = .ok (.iaload, 1)) ?_
  refine sm_mono (cav_sub gI_sub) (sm_callV (pc := 820) (N := 32) (T := TX9) (C := RX9) G hb ho hy he hE.1 3 [204, 205, 206, 207, 208, 209, 210, 211, 212, 213, 214, 215, 216, 217, 218, 219, 220, 221] (kX9_setRate hE N) (gCo_of (by decide +kernel)) (by rw [hR]; exact ⟨by decide, by decide⟩) rfl rfl (by decide +kernel) gw7_31 gw7_32 gw7_33 gw1_11 gw7_34 (by decide +kernel : decode code 820 = .ok (.invokevirtual 184, 3)) ?_)
  refine sm_istore (pc := 823) G hb (by decide +kernel : decode code 823 = .ok (.istore 6, 2)) ?_
  refine sm_aload_n (pc := 825) G hb (by decide +kernel : decode code 825 = .ok (.aload_n 2, 1)) rfl ?_
  refine sm_mono (cav_sub gI_sub) (sm_callV (pc := 826) (N := 32) (T := TX9) (C := RX9) G hb ho hy he hE.1 1 [204, 205, 206, 207, 208, 209, 210, 211, 212, 213, 214, 215, 216, 217, 218, 219, 220, 221] (kX9_thrown hE N) (gCo_of (by decide +kernel)) (by rw [hR]; exact ⟨by decide, by decide⟩) rfl rfl (by decide +kernel) gw6_94 gw6_95 gw6_96 gw1_11 gw6_97 (by decide +kernel : decode code 826 = .ok (.invokevirtual 151, 3)) ?_)
  refine sm_mask ?_
  exact fL_law_s829 N SL SX G hb ho hy hR he hr hE hEL hSc (by omega) K23 h23
set_option maxRecDepth 100000 in
set_option maxHeartbeats 8000000 in
theorem fL_law_s921 {γ : gG} {cs ss c2 s2 : Nat} {ε : gE5} (N SL : Nat) (SX : Nat → Int32) (G : gOK γ) (hb : gcc γ = code) (ho : gow γ = RL) (hy : gly γ = gyL) (hR : grm γ = room_1) (he : genv γ = ε) (hr : grt γ = some .boolean) (hE : gEnv ε) (hEL : gEnvL ε) (hSc : gSc ε SL SX) (hc9 : cs + 0 ≤ c2 ∧ ss + 0 ≤ s2 ∧ c2 ≤ 601024 ∧ s2 ≤ 7293033) (K23 : gK) (h23 : gSm γ c2 s2 23 K23) : gSm γ cs ss 921 (fL_law_k921 N SL SX K23) := by
  unfold fL_law_k921
  refine sm_goto (pc := 921) (tgt := 2794) G hb (by decide +kernel : decode code 921 = .ok (.goto 1873, 3)) (by decide) ?_
  refine sm_mask ?_
  exact fL_law_s2794 N SL SX G hb ho hy hR he hr hE hEL hSc (by omega) K23 h23
set_option maxRecDepth 100000 in
set_option maxHeartbeats 8000000 in
theorem fL_law_s897 {γ : gG} {cs ss c2 s2 : Nat} {ε : gE5} (N SL : Nat) (SX : Nat → Int32) (G : gOK γ) (hb : gcc γ = code) (ho : gow γ = RL) (hy : gly γ = gyL) (hR : grm γ = room_1) (he : genv γ = ε) (hr : grt γ = some .boolean) (hE : gEnv ε) (hEL : gEnvL ε) (hSc : gSc ε SL SX) (hc9 : cs + 0 ≤ c2 ∧ ss + 0 ≤ s2 ∧ c2 ≤ 601024 ∧ s2 ≤ 7293033) (K23 : gK) (h23 : gSm γ c2 s2 23 K23) : gSm γ cs ss 897 (fL_law_k897 N SL SX K23) := by
  unfold fL_law_k897
  refine sm_iload (pc := 897) G hb (by decide +kernel : decode code 897 = .ok (.iload 5, 2)) ?_
  refine sm_icmp_eq (pc := 899) (tgt := 904) G hb (by decide +kernel : decode code 899 = .ok (.if_icmp .eq 5, 3)) (by decide) ?_ ?_
  · skip
    refine sm_iload (pc := 904) G hb (by decide +kernel : decode code 904 = .ok (.iload 5, 2)) ?_
    refine sm_if_ne (pc := 906) (tgt := 921) G hb (by decide +kernel : decode code 906 = .ok (.ifCond .ne 15, 3)) (by decide) ?_ ?_
    · skip
      refine sm_mask ?_
      exact fL_law_s921 N SL SX G hb ho hy hR he hr hE hEL hSc (by omega) K23 h23
    · skip
      refine sm_aload_n (pc := 909) G hb (by decide +kernel : decode code 909 = .ok (.aload_n 3, 1)) rfl ?_
      refine sm_iconst (pc := 910) G hb (by decide +kernel : decode code 910 = .ok (.iconst 0, 1)) (by decide) ?_
      refine sm_lald (pc := 911) G hb hy (by decide +kernel : decode code 911 = .ok (.laload, 1)) ?_
      refine sm_iload (pc := 912) G hb (by decide +kernel : decode code 912 = .ok (.iload 6, 2)) ?_
      refine sm_i2l (pc := 914) G hb (by decide +kernel : decode code 914 = .ok (.i2l, 1)) ?_
      refine sm_lcmp (pc := 915) G hb (by decide +kernel : decode code 915 = .ok (.lcmp, 1)) ?_
      refine sm_if_eq (pc := 916) (tgt := 921) G hb (by decide +kernel : decode code 916 = .ok (.ifCond .eq 5, 3)) (by decide) ?_ ?_
      · skip
        refine sm_mask ?_
        exact fL_law_s921 N SL SX G hb ho hy hR he hr hE hEL hSc (by omega) K23 h23
      · skip
        refine sm_iconst (pc := 919) G hb (by decide +kernel : decode code 919 = .ok (.iconst 0, 1)) (by decide) ?_
        exact sm_zret (pc := 920) G hb (by decide +kernel : decode code 920 = .ok (.ireturn, 1)) hr
  · skip
    refine sm_iconst (pc := 902) G hb (by decide +kernel : decode code 902 = .ok (.iconst 0, 1)) (by decide) ?_
    exact sm_zret (pc := 903) G hb (by decide +kernel : decode code 903 = .ok (.ireturn, 1)) hr
set_option maxRecDepth 100000 in
set_option maxHeartbeats 8000000 in
theorem fL_law_s856 {γ : gG} {cs ss c2 s2 : Nat} {ε : gE5} (N SL : Nat) (SX : Nat → Int32) (G : gOK γ) (hb : gcc γ = code) (ho : gow γ = RL) (hy : gly γ = gyL) (hR : grm γ = room_1) (he : genv γ = ε) (hr : grt γ = some .boolean) (hE : gEnv ε) (hEL : gEnvL ε) (hSc : gSc ε SL SX) (hc9 : cs + 2 ≤ c2 ∧ ss + 12 ≤ s2 ∧ c2 ≤ 601024 ∧ s2 ≤ 7293033) (K23 : gK) (h23 : gSm γ c2 s2 23 K23) : gSm γ cs ss 856 (fL_law_k856 N SL SX K23) := by
  unfold fL_law_k856
  refine sm_aload_n (pc := 856) G hb (by decide +kernel : decode code 856 = .ok (.aload_n 1, 1)) rfl ?_
  refine sm_aload_n (pc := 857) G hb (by decide +kernel : decode code 857 = .ok (.aload_n 0, 1)) rfl ?_
  refine sm_iload (pc := 858) G hb (by decide +kernel : decode code 858 = .ok (.iload 4, 2)) ?_
  refine sm_iconst (pc := 860) G hb (by decide +kernel : decode code 860 = .ok (.iconst 1, 1)) (by decide) ?_
  refine sm_iadd (pc := 861) G hb (by decide +kernel : decode code 861 = .ok (.iadd, 1)) ?_
  refine sm_sld (pc := 862) G hb ho he hE hSc (by decide +kernel : decode code 862 = .ok (.iaload, 1)) ?_
  refine sm_aload_n (pc := 863) G hb (by decide +kernel : decode code 863 = .ok (.aload_n 0, 1)) rfl ?_
  refine sm_iload (pc := 864) G hb (by decide +kernel : decode code 864 = .ok (.iload 4, 2)) ?_
  refine sm_iconst (pc := 866) G hb (by decide +kernel : decode code 866 = .ok (.iconst 2, 1)) (by decide) ?_
  refine sm_iadd (pc := 867) G hb (by decide +kernel : decode code 867 = .ok (.iadd, 1)) ?_
  refine sm_sld (pc := 868) G hb ho he hE hSc (by decide +kernel : decode code 868 = .ok (.iaload, 1)) ?_
  refine sm_aload_n (pc := 869) G hb (by decide +kernel : decode code 869 = .ok (.aload_n 3, 1)) rfl ?_
  refine sm_mono (ca_sub gI_sub) (sm_callW (pc := 870) G hb ho hy he hE.1 4 [0, 1, 2, 3, 4, 5, 6, 7, 8, 9, 10, 11, 12, 13, 14, 15, 16, 17, 18, 19, 20, 21, 22, 23, 24, 25, 26, 27, 28, 29, 30, 31, 32, 33, 34, 35, 36, 37, 38, 39, 40, 41, 42, 43, 44, 45, 46, 47, 48, 49, 50, 51, 52, 53, 54, 55, 56, 57, 58, 59, 60, 61, 62, 63, 64, 65, 66, 67, 68, 69, 70, 71, 72, 73, 74, 75, 76, 77, 78, 79, 80, 81, 82, 83, 84, 85, 86, 87, 88, 89, 90, 91, 92, 93, 94, 95, 96, 97, 98, 99, 100, 101, 102, 103, 104, 105, 106, 107, 108, 109, 110, 111, 112, 113, 114, 115, 116, 117, 118, 119, 120, 121, 122, 123, 124, 125, 126, 127, 128, 129, 130, 131, 132, 133, 134, 135, 136, 137, 138, 139, 140, 141, 142, 143, 144, 145, 146, 147, 148, 149, 150, 151, 152, 153, 154, 155, 156, 157, 158, 159, 160, 161, 162, 163, 164, 165, 166, 167, 168, 169, 170, 171, 172, 173, 174, 175, 176, 177, 178, 179, 180, 181, 182, 183, 184, 185, 186, 187, 188, 189, 190, 191, 192, 193, 194, 195, 196, 197, 198, 199, 200, 201, 202, 203, 222] (kL_setBudget hEL N) (gCo_of (by decide +kernel)) (by rw [hR]; exact ⟨by decide, by decide⟩) (by rw [hR]; exact ⟨by show _ ≤ 601024; omega, by show _ ≤ 7293033; omega⟩) (by decide +kernel) gw4_62 gw4_63 gw1_0 gw4_64 (by decide +kernel : decode code 870 = .ok (.invokestatic 185, 3)) ?_)
  refine sm_istore (pc := 873) G hb (by decide +kernel : decode code 873 = .ok (.istore 5, 2)) ?_
  refine sm_aload_n (pc := 875) G hb (by decide +kernel : decode code 875 = .ok (.aload_n 2, 1)) rfl ?_
  refine sm_aload_n (pc := 876) G hb (by decide +kernel : decode code 876 = .ok (.aload_n 0, 1)) rfl ?_
  refine sm_iload (pc := 877) G hb (by decide +kernel : decode code 877 = .ok (.iload 4, 2)) ?_
  refine sm_iconst (pc := 879) G hb (by decide +kernel : decode code 879 = .ok (.iconst 1, 1)) (by decide) ?_
  refine sm_iadd (pc := 880) G hb (by decide +kernel : decode code 880 = .ok (.iadd, 1)) ?_
  refine sm_sld (pc := 881) G hb ho he hE hSc (by decide +kernel : decode code 881 = .ok (.iaload, 1)) ?_
  refine sm_aload_n (pc := 882) G hb (by decide +kernel : decode code 882 = .ok (.aload_n 0, 1)) rfl ?_
  refine sm_iload (pc := 883) G hb (by decide +kernel : decode code 883 = .ok (.iload 4, 2)) ?_
  refine sm_iconst (pc := 885) G hb (by decide +kernel : decode code 885 = .ok (.iconst 2, 1)) (by decide) ?_
  refine sm_iadd (pc := 886) G hb (by decide +kernel : decode code 886 = .ok (.iadd, 1)) ?_
  refine sm_sld (pc := 887) G hb ho he hE hSc (by decide +kernel : decode code 887 = .ok (.iaload, 1)) ?_
  refine sm_mono (cav_sub gI_sub) (sm_callV (pc := 888) (N := 32) (T := TX9) (C := RX9) G hb ho hy he hE.1 3 [204, 205, 206, 207, 208, 209, 210, 211, 212, 213, 214, 215, 216, 217, 218, 219, 220, 221] (kX9_setBudget hE N) (gCo_of (by decide +kernel)) (by rw [hR]; exact ⟨by decide, by decide⟩) rfl rfl (by decide +kernel) gw7_39 gw7_40 gw7_41 gw1_11 gw7_42 (by decide +kernel : decode code 888 = .ok (.invokevirtual 187, 3)) ?_)
  refine sm_istore (pc := 891) G hb (by decide +kernel : decode code 891 = .ok (.istore 6, 2)) ?_
  refine sm_aload_n (pc := 893) G hb (by decide +kernel : decode code 893 = .ok (.aload_n 2, 1)) rfl ?_
  refine sm_mono (cav_sub gI_sub) (sm_callV (pc := 894) (N := 32) (T := TX9) (C := RX9) G hb ho hy he hE.1 1 [204, 205, 206, 207, 208, 209, 210, 211, 212, 213, 214, 215, 216, 217, 218, 219, 220, 221] (kX9_thrown hE N) (gCo_of (by decide +kernel)) (by rw [hR]; exact ⟨by decide, by decide⟩) rfl rfl (by decide +kernel) gw6_94 gw6_95 gw6_96 gw1_11 gw6_97 (by decide +kernel : decode code 894 = .ok (.invokevirtual 151, 3)) ?_)
  refine sm_mask ?_
  exact fL_law_s897 N SL SX G hb ho hy hR he hr hE hEL hSc (by omega) K23 h23
set_option maxRecDepth 100000 in
set_option maxHeartbeats 8000000 in
theorem fL_law_s989 {γ : gG} {cs ss c2 s2 : Nat} {ε : gE5} (N SL : Nat) (SX : Nat → Int32) (G : gOK γ) (hb : gcc γ = code) (ho : gow γ = RL) (hy : gly γ = gyL) (hR : grm γ = room_1) (he : genv γ = ε) (hr : grt γ = some .boolean) (hE : gEnv ε) (hEL : gEnvL ε) (hSc : gSc ε SL SX) (hc9 : cs + 0 ≤ c2 ∧ ss + 0 ≤ s2 ∧ c2 ≤ 601024 ∧ s2 ≤ 7293033) (K23 : gK) (h23 : gSm γ c2 s2 23 K23) : gSm γ cs ss 989 (fL_law_k989 N SL SX K23) := by
  unfold fL_law_k989
  refine sm_goto (pc := 989) (tgt := 2794) G hb (by decide +kernel : decode code 989 = .ok (.goto 1805, 3)) (by decide) ?_
  refine sm_mask ?_
  exact fL_law_s2794 N SL SX G hb ho hy hR he hr hE hEL hSc (by omega) K23 h23
set_option maxRecDepth 100000 in
set_option maxHeartbeats 8000000 in
theorem fL_law_s965 {γ : gG} {cs ss c2 s2 : Nat} {ε : gE5} (N SL : Nat) (SX : Nat → Int32) (G : gOK γ) (hb : gcc γ = code) (ho : gow γ = RL) (hy : gly γ = gyL) (hR : grm γ = room_1) (he : genv γ = ε) (hr : grt γ = some .boolean) (hE : gEnv ε) (hEL : gEnvL ε) (hSc : gSc ε SL SX) (hc9 : cs + 0 ≤ c2 ∧ ss + 0 ≤ s2 ∧ c2 ≤ 601024 ∧ s2 ≤ 7293033) (K23 : gK) (h23 : gSm γ c2 s2 23 K23) : gSm γ cs ss 965 (fL_law_k965 N SL SX K23) := by
  unfold fL_law_k965
  refine sm_iload (pc := 965) G hb (by decide +kernel : decode code 965 = .ok (.iload 5, 2)) ?_
  refine sm_icmp_eq (pc := 967) (tgt := 972) G hb (by decide +kernel : decode code 967 = .ok (.if_icmp .eq 5, 3)) (by decide) ?_ ?_
  · skip
    refine sm_iload (pc := 972) G hb (by decide +kernel : decode code 972 = .ok (.iload 5, 2)) ?_
    refine sm_if_ne (pc := 974) (tgt := 989) G hb (by decide +kernel : decode code 974 = .ok (.ifCond .ne 15, 3)) (by decide) ?_ ?_
    · skip
      refine sm_mask ?_
      exact fL_law_s989 N SL SX G hb ho hy hR he hr hE hEL hSc (by omega) K23 h23
    · skip
      refine sm_aload_n (pc := 977) G hb (by decide +kernel : decode code 977 = .ok (.aload_n 3, 1)) rfl ?_
      refine sm_iconst (pc := 978) G hb (by decide +kernel : decode code 978 = .ok (.iconst 0, 1)) (by decide) ?_
      refine sm_lald (pc := 979) G hb hy (by decide +kernel : decode code 979 = .ok (.laload, 1)) ?_
      refine sm_iload (pc := 980) G hb (by decide +kernel : decode code 980 = .ok (.iload 6, 2)) ?_
      refine sm_i2l (pc := 982) G hb (by decide +kernel : decode code 982 = .ok (.i2l, 1)) ?_
      refine sm_lcmp (pc := 983) G hb (by decide +kernel : decode code 983 = .ok (.lcmp, 1)) ?_
      refine sm_if_eq (pc := 984) (tgt := 989) G hb (by decide +kernel : decode code 984 = .ok (.ifCond .eq 5, 3)) (by decide) ?_ ?_
      · skip
        refine sm_mask ?_
        exact fL_law_s989 N SL SX G hb ho hy hR he hr hE hEL hSc (by omega) K23 h23
      · skip
        refine sm_iconst (pc := 987) G hb (by decide +kernel : decode code 987 = .ok (.iconst 0, 1)) (by decide) ?_
        exact sm_zret (pc := 988) G hb (by decide +kernel : decode code 988 = .ok (.ireturn, 1)) hr
  · skip
    refine sm_iconst (pc := 970) G hb (by decide +kernel : decode code 970 = .ok (.iconst 0, 1)) (by decide) ?_
    exact sm_zret (pc := 971) G hb (by decide +kernel : decode code 971 = .ok (.ireturn, 1)) hr
set_option maxRecDepth 100000 in
set_option maxHeartbeats 8000000 in
theorem fL_law_s924 {γ : gG} {cs ss c2 s2 : Nat} {ε : gE5} (N SL : Nat) (SX : Nat → Int32) (G : gOK γ) (hb : gcc γ = code) (ho : gow γ = RL) (hy : gly γ = gyL) (hR : grm γ = room_1) (he : genv γ = ε) (hr : grt γ = some .boolean) (hE : gEnv ε) (hEL : gEnvL ε) (hSc : gSc ε SL SX) (hc9 : cs + 2 ≤ c2 ∧ ss + 12 ≤ s2 ∧ c2 ≤ 601024 ∧ s2 ≤ 7293033) (K23 : gK) (h23 : gSm γ c2 s2 23 K23) : gSm γ cs ss 924 (fL_law_k924 N SL SX K23) := by
  unfold fL_law_k924
  refine sm_aload_n (pc := 924) G hb (by decide +kernel : decode code 924 = .ok (.aload_n 1, 1)) rfl ?_
  refine sm_aload_n (pc := 925) G hb (by decide +kernel : decode code 925 = .ok (.aload_n 0, 1)) rfl ?_
  refine sm_iload (pc := 926) G hb (by decide +kernel : decode code 926 = .ok (.iload 4, 2)) ?_
  refine sm_iconst (pc := 928) G hb (by decide +kernel : decode code 928 = .ok (.iconst 1, 1)) (by decide) ?_
  refine sm_iadd (pc := 929) G hb (by decide +kernel : decode code 929 = .ok (.iadd, 1)) ?_
  refine sm_sld (pc := 930) G hb ho he hE hSc (by decide +kernel : decode code 930 = .ok (.iaload, 1)) ?_
  refine sm_aload_n (pc := 931) G hb (by decide +kernel : decode code 931 = .ok (.aload_n 0, 1)) rfl ?_
  refine sm_iload (pc := 932) G hb (by decide +kernel : decode code 932 = .ok (.iload 4, 2)) ?_
  refine sm_iconst (pc := 934) G hb (by decide +kernel : decode code 934 = .ok (.iconst 2, 1)) (by decide) ?_
  refine sm_iadd (pc := 935) G hb (by decide +kernel : decode code 935 = .ok (.iadd, 1)) ?_
  refine sm_sld (pc := 936) G hb ho he hE hSc (by decide +kernel : decode code 936 = .ok (.iaload, 1)) ?_
  refine sm_aload_n (pc := 937) G hb (by decide +kernel : decode code 937 = .ok (.aload_n 3, 1)) rfl ?_
  refine sm_mono (ca_sub gI_sub) (sm_callW (pc := 938) G hb ho hy he hE.1 4 [0, 1, 2, 3, 4, 5, 6, 7, 8, 9, 10, 11, 12, 13, 14, 15, 16, 17, 18, 19, 20, 21, 22, 23, 24, 25, 26, 27, 28, 29, 30, 31, 32, 33, 34, 35, 36, 37, 38, 39, 40, 41, 42, 43, 44, 45, 46, 47, 48, 49, 50, 51, 52, 53, 54, 55, 56, 57, 58, 59, 60, 61, 62, 63, 64, 65, 66, 67, 68, 69, 70, 71, 72, 73, 74, 75, 76, 77, 78, 79, 80, 81, 82, 83, 84, 85, 86, 87, 88, 89, 90, 91, 92, 93, 94, 95, 96, 97, 98, 99, 100, 101, 102, 103, 104, 105, 106, 107, 108, 109, 110, 111, 112, 113, 114, 115, 116, 117, 118, 119, 120, 121, 122, 123, 124, 125, 126, 127, 128, 129, 130, 131, 132, 133, 134, 135, 136, 137, 138, 139, 140, 141, 142, 143, 144, 145, 146, 147, 148, 149, 150, 151, 152, 153, 154, 155, 156, 157, 158, 159, 160, 161, 162, 163, 164, 165, 166, 167, 168, 169, 170, 171, 172, 173, 174, 175, 176, 177, 178, 179, 180, 181, 182, 183, 184, 185, 186, 187, 188, 189, 190, 191, 192, 193, 194, 195, 196, 197, 198, 199, 200, 201, 202, 203, 222] (kL_set hEL N) (gCo_of (by decide +kernel)) (by rw [hR]; exact ⟨by decide, by decide⟩) (by rw [hR]; exact ⟨by show _ ≤ 601024; omega, by show _ ≤ 7293033; omega⟩) (by decide +kernel) gw4_69 gw4_70 gw1_0 gw4_71 (by decide +kernel : decode code 938 = .ok (.invokestatic 188, 3)) ?_)
  refine sm_istore (pc := 941) G hb (by decide +kernel : decode code 941 = .ok (.istore 5, 2)) ?_
  refine sm_aload_n (pc := 943) G hb (by decide +kernel : decode code 943 = .ok (.aload_n 2, 1)) rfl ?_
  refine sm_aload_n (pc := 944) G hb (by decide +kernel : decode code 944 = .ok (.aload_n 0, 1)) rfl ?_
  refine sm_iload (pc := 945) G hb (by decide +kernel : decode code 945 = .ok (.iload 4, 2)) ?_
  refine sm_iconst (pc := 947) G hb (by decide +kernel : decode code 947 = .ok (.iconst 1, 1)) (by decide) ?_
  refine sm_iadd (pc := 948) G hb (by decide +kernel : decode code 948 = .ok (.iadd, 1)) ?_
  refine sm_sld (pc := 949) G hb ho he hE hSc (by decide +kernel : decode code 949 = .ok (.iaload, 1)) ?_
  refine sm_aload_n (pc := 950) G hb (by decide +kernel : decode code 950 = .ok (.aload_n 0, 1)) rfl ?_
  refine sm_iload (pc := 951) G hb (by decide +kernel : decode code 951 = .ok (.iload 4, 2)) ?_
  refine sm_iconst (pc := 953) G hb (by decide +kernel : decode code 953 = .ok (.iconst 2, 1)) (by decide) ?_
  refine sm_iadd (pc := 954) G hb (by decide +kernel : decode code 954 = .ok (.iadd, 1)) ?_
  refine sm_sld (pc := 955) G hb ho he hE hSc (by decide +kernel : decode code 955 = .ok (.iaload, 1)) ?_
  refine sm_mono (cav_sub gI_sub) (sm_callV (pc := 956) (N := 32) (T := TX9) (C := RX9) G hb ho hy he hE.1 3 [204, 205, 206, 207, 208, 209, 210, 211, 212, 213, 214, 215, 216, 217, 218, 219, 220, 221] (kX9_set hE N) (gCo_of (by decide +kernel)) (by rw [hR]; exact ⟨by decide, by decide⟩) rfl rfl (by decide +kernel) gw7_43 gw7_44 gw7_45 gw1_11 gw7_46 (by decide +kernel : decode code 956 = .ok (.invokevirtual 190, 3)) ?_)
  refine sm_istore (pc := 959) G hb (by decide +kernel : decode code 959 = .ok (.istore 6, 2)) ?_
  refine sm_aload_n (pc := 961) G hb (by decide +kernel : decode code 961 = .ok (.aload_n 2, 1)) rfl ?_
  refine sm_mono (cav_sub gI_sub) (sm_callV (pc := 962) (N := 32) (T := TX9) (C := RX9) G hb ho hy he hE.1 1 [204, 205, 206, 207, 208, 209, 210, 211, 212, 213, 214, 215, 216, 217, 218, 219, 220, 221] (kX9_thrown hE N) (gCo_of (by decide +kernel)) (by rw [hR]; exact ⟨by decide, by decide⟩) rfl rfl (by decide +kernel) gw6_94 gw6_95 gw6_96 gw1_11 gw6_97 (by decide +kernel : decode code 962 = .ok (.invokevirtual 151, 3)) ?_)
  refine sm_mask ?_
  exact fL_law_s965 N SL SX G hb ho hy hR he hr hE hEL hSc (by omega) K23 h23
set_option maxRecDepth 100000 in
set_option maxHeartbeats 8000000 in
theorem fL_law_s1057 {γ : gG} {cs ss c2 s2 : Nat} {ε : gE5} (N SL : Nat) (SX : Nat → Int32) (G : gOK γ) (hb : gcc γ = code) (ho : gow γ = RL) (hy : gly γ = gyL) (hR : grm γ = room_1) (he : genv γ = ε) (hr : grt γ = some .boolean) (hE : gEnv ε) (hEL : gEnvL ε) (hSc : gSc ε SL SX) (hc9 : cs + 0 ≤ c2 ∧ ss + 0 ≤ s2 ∧ c2 ≤ 601024 ∧ s2 ≤ 7293033) (K23 : gK) (h23 : gSm γ c2 s2 23 K23) : gSm γ cs ss 1057 (fL_law_k1057 N SL SX K23) := by
  unfold fL_law_k1057
  refine sm_goto (pc := 1057) (tgt := 2794) G hb (by decide +kernel : decode code 1057 = .ok (.goto 1737, 3)) (by decide) ?_
  refine sm_mask ?_
  exact fL_law_s2794 N SL SX G hb ho hy hR he hr hE hEL hSc (by omega) K23 h23
set_option maxRecDepth 100000 in
set_option maxHeartbeats 8000000 in
theorem fL_law_s1033 {γ : gG} {cs ss c2 s2 : Nat} {ε : gE5} (N SL : Nat) (SX : Nat → Int32) (G : gOK γ) (hb : gcc γ = code) (ho : gow γ = RL) (hy : gly γ = gyL) (hR : grm γ = room_1) (he : genv γ = ε) (hr : grt γ = some .boolean) (hE : gEnv ε) (hEL : gEnvL ε) (hSc : gSc ε SL SX) (hc9 : cs + 0 ≤ c2 ∧ ss + 0 ≤ s2 ∧ c2 ≤ 601024 ∧ s2 ≤ 7293033) (K23 : gK) (h23 : gSm γ c2 s2 23 K23) : gSm γ cs ss 1033 (fL_law_k1033 N SL SX K23) := by
  unfold fL_law_k1033
  refine sm_iload (pc := 1033) G hb (by decide +kernel : decode code 1033 = .ok (.iload 5, 2)) ?_
  refine sm_icmp_eq (pc := 1035) (tgt := 1040) G hb (by decide +kernel : decode code 1035 = .ok (.if_icmp .eq 5, 3)) (by decide) ?_ ?_
  · skip
    refine sm_iload (pc := 1040) G hb (by decide +kernel : decode code 1040 = .ok (.iload 5, 2)) ?_
    refine sm_if_ne (pc := 1042) (tgt := 1057) G hb (by decide +kernel : decode code 1042 = .ok (.ifCond .ne 15, 3)) (by decide) ?_ ?_
    · skip
      refine sm_mask ?_
      exact fL_law_s1057 N SL SX G hb ho hy hR he hr hE hEL hSc (by omega) K23 h23
    · skip
      refine sm_aload_n (pc := 1045) G hb (by decide +kernel : decode code 1045 = .ok (.aload_n 3, 1)) rfl ?_
      refine sm_iconst (pc := 1046) G hb (by decide +kernel : decode code 1046 = .ok (.iconst 0, 1)) (by decide) ?_
      refine sm_lald (pc := 1047) G hb hy (by decide +kernel : decode code 1047 = .ok (.laload, 1)) ?_
      refine sm_iload (pc := 1048) G hb (by decide +kernel : decode code 1048 = .ok (.iload 6, 2)) ?_
      refine sm_i2l (pc := 1050) G hb (by decide +kernel : decode code 1050 = .ok (.i2l, 1)) ?_
      refine sm_lcmp (pc := 1051) G hb (by decide +kernel : decode code 1051 = .ok (.lcmp, 1)) ?_
      refine sm_if_eq (pc := 1052) (tgt := 1057) G hb (by decide +kernel : decode code 1052 = .ok (.ifCond .eq 5, 3)) (by decide) ?_ ?_
      · skip
        refine sm_mask ?_
        exact fL_law_s1057 N SL SX G hb ho hy hR he hr hE hEL hSc (by omega) K23 h23
      · skip
        refine sm_iconst (pc := 1055) G hb (by decide +kernel : decode code 1055 = .ok (.iconst 0, 1)) (by decide) ?_
        exact sm_zret (pc := 1056) G hb (by decide +kernel : decode code 1056 = .ok (.ireturn, 1)) hr
  · skip
    refine sm_iconst (pc := 1038) G hb (by decide +kernel : decode code 1038 = .ok (.iconst 0, 1)) (by decide) ?_
    exact sm_zret (pc := 1039) G hb (by decide +kernel : decode code 1039 = .ok (.ireturn, 1)) hr
set_option maxRecDepth 100000 in
set_option maxHeartbeats 8000000 in
theorem fL_law_s992 {γ : gG} {cs ss c2 s2 : Nat} {ε : gE5} (N SL : Nat) (SX : Nat → Int32) (G : gOK γ) (hb : gcc γ = code) (ho : gow γ = RL) (hy : gly γ = gyL) (hR : grm γ = room_1) (he : genv γ = ε) (hr : grt γ = some .boolean) (hE : gEnv ε) (hEL : gEnvL ε) (hSc : gSc ε SL SX) (hc9 : cs + 2 ≤ c2 ∧ ss + 12 ≤ s2 ∧ c2 ≤ 601024 ∧ s2 ≤ 7293033) (K23 : gK) (h23 : gSm γ c2 s2 23 K23) : gSm γ cs ss 992 (fL_law_k992 N SL SX K23) := by
  unfold fL_law_k992
  refine sm_aload_n (pc := 992) G hb (by decide +kernel : decode code 992 = .ok (.aload_n 1, 1)) rfl ?_
  refine sm_aload_n (pc := 993) G hb (by decide +kernel : decode code 993 = .ok (.aload_n 0, 1)) rfl ?_
  refine sm_iload (pc := 994) G hb (by decide +kernel : decode code 994 = .ok (.iload 4, 2)) ?_
  refine sm_iconst (pc := 996) G hb (by decide +kernel : decode code 996 = .ok (.iconst 1, 1)) (by decide) ?_
  refine sm_iadd (pc := 997) G hb (by decide +kernel : decode code 997 = .ok (.iadd, 1)) ?_
  refine sm_sld (pc := 998) G hb ho he hE hSc (by decide +kernel : decode code 998 = .ok (.iaload, 1)) ?_
  refine sm_aload_n (pc := 999) G hb (by decide +kernel : decode code 999 = .ok (.aload_n 0, 1)) rfl ?_
  refine sm_iload (pc := 1000) G hb (by decide +kernel : decode code 1000 = .ok (.iload 4, 2)) ?_
  refine sm_iconst (pc := 1002) G hb (by decide +kernel : decode code 1002 = .ok (.iconst 2, 1)) (by decide) ?_
  refine sm_iadd (pc := 1003) G hb (by decide +kernel : decode code 1003 = .ok (.iadd, 1)) ?_
  refine sm_sld (pc := 1004) G hb ho he hE hSc (by decide +kernel : decode code 1004 = .ok (.iaload, 1)) ?_
  refine sm_aload_n (pc := 1005) G hb (by decide +kernel : decode code 1005 = .ok (.aload_n 3, 1)) rfl ?_
  refine sm_mono (ca_sub gI_sub) (sm_callW (pc := 1006) G hb ho hy he hE.1 4 [0, 1, 2, 3, 4, 5, 6, 7, 8, 9, 10, 11, 12, 13, 14, 15, 16, 17, 18, 19, 20, 21, 22, 23, 24, 25, 26, 27, 28, 29, 30, 31, 32, 33, 34, 35, 36, 37, 38, 39, 40, 41, 42, 43, 44, 45, 46, 47, 48, 49, 50, 51, 52, 53, 54, 55, 56, 57, 58, 59, 60, 61, 62, 63, 64, 65, 66, 67, 68, 69, 70, 71, 72, 73, 74, 75, 76, 77, 78, 79, 80, 81, 82, 83, 84, 85, 86, 87, 88, 89, 90, 91, 92, 93, 94, 95, 96, 97, 98, 99, 100, 101, 102, 103, 104, 105, 106, 107, 108, 109, 110, 111, 112, 113, 114, 115, 116, 117, 118, 119, 120, 121, 122, 123, 124, 125, 126, 127, 128, 129, 130, 131, 132, 133, 134, 135, 136, 137, 138, 139, 140, 141, 142, 143, 144, 145, 146, 147, 148, 149, 150, 151, 152, 153, 154, 155, 156, 157, 158, 159, 160, 161, 162, 163, 164, 165, 166, 167, 168, 169, 170, 171, 172, 173, 174, 175, 176, 177, 178, 179, 180, 181, 182, 183, 184, 185, 186, 187, 188, 189, 190, 191, 192, 193, 194, 195, 196, 197, 198, 199, 200, 201, 202, 203, 222] (kL_inject hEL N) (gCo_of (by decide +kernel)) (by rw [hR]; exact ⟨by decide, by decide⟩) (by rw [hR]; exact ⟨by show _ ≤ 601024; omega, by show _ ≤ 7293033; omega⟩) (by decide +kernel) gw4_77 gw4_78 gw1_0 gw4_79 (by decide +kernel : decode code 1006 = .ok (.invokestatic 191, 3)) ?_)
  refine sm_istore (pc := 1009) G hb (by decide +kernel : decode code 1009 = .ok (.istore 5, 2)) ?_
  refine sm_aload_n (pc := 1011) G hb (by decide +kernel : decode code 1011 = .ok (.aload_n 2, 1)) rfl ?_
  refine sm_aload_n (pc := 1012) G hb (by decide +kernel : decode code 1012 = .ok (.aload_n 0, 1)) rfl ?_
  refine sm_iload (pc := 1013) G hb (by decide +kernel : decode code 1013 = .ok (.iload 4, 2)) ?_
  refine sm_iconst (pc := 1015) G hb (by decide +kernel : decode code 1015 = .ok (.iconst 1, 1)) (by decide) ?_
  refine sm_iadd (pc := 1016) G hb (by decide +kernel : decode code 1016 = .ok (.iadd, 1)) ?_
  refine sm_sld (pc := 1017) G hb ho he hE hSc (by decide +kernel : decode code 1017 = .ok (.iaload, 1)) ?_
  refine sm_aload_n (pc := 1018) G hb (by decide +kernel : decode code 1018 = .ok (.aload_n 0, 1)) rfl ?_
  refine sm_iload (pc := 1019) G hb (by decide +kernel : decode code 1019 = .ok (.iload 4, 2)) ?_
  refine sm_iconst (pc := 1021) G hb (by decide +kernel : decode code 1021 = .ok (.iconst 2, 1)) (by decide) ?_
  refine sm_iadd (pc := 1022) G hb (by decide +kernel : decode code 1022 = .ok (.iadd, 1)) ?_
  refine sm_sld (pc := 1023) G hb ho he hE hSc (by decide +kernel : decode code 1023 = .ok (.iaload, 1)) ?_
  refine sm_mono (cav_sub gI_sub) (sm_callV (pc := 1024) (N := 32) (T := TX9) (C := RX9) G hb ho hy he hE.1 3 [204, 205, 206, 207, 208, 209, 210, 211, 212, 213, 214, 215, 216, 217, 218, 219, 220, 221] (kX9_inject hE N) (gCo_of (by decide +kernel)) (by rw [hR]; exact ⟨by decide, by decide⟩) rfl rfl (by decide +kernel) gw7_51 gw7_52 gw7_53 gw1_11 gw7_54 (by decide +kernel : decode code 1024 = .ok (.invokevirtual 193, 3)) ?_)
  refine sm_istore (pc := 1027) G hb (by decide +kernel : decode code 1027 = .ok (.istore 6, 2)) ?_
  refine sm_aload_n (pc := 1029) G hb (by decide +kernel : decode code 1029 = .ok (.aload_n 2, 1)) rfl ?_
  refine sm_mono (cav_sub gI_sub) (sm_callV (pc := 1030) (N := 32) (T := TX9) (C := RX9) G hb ho hy he hE.1 1 [204, 205, 206, 207, 208, 209, 210, 211, 212, 213, 214, 215, 216, 217, 218, 219, 220, 221] (kX9_thrown hE N) (gCo_of (by decide +kernel)) (by rw [hR]; exact ⟨by decide, by decide⟩) rfl rfl (by decide +kernel) gw6_94 gw6_95 gw6_96 gw1_11 gw6_97 (by decide +kernel : decode code 1030 = .ok (.invokevirtual 151, 3)) ?_)
  refine sm_mask ?_
  exact fL_law_s1033 N SL SX G hb ho hy hR he hr hE hEL hSc (by omega) K23 h23
set_option maxRecDepth 100000 in
set_option maxHeartbeats 8000000 in
theorem fL_law_s1125 {γ : gG} {cs ss c2 s2 : Nat} {ε : gE5} (N SL : Nat) (SX : Nat → Int32) (G : gOK γ) (hb : gcc γ = code) (ho : gow γ = RL) (hy : gly γ = gyL) (hR : grm γ = room_1) (he : genv γ = ε) (hr : grt γ = some .boolean) (hE : gEnv ε) (hEL : gEnvL ε) (hSc : gSc ε SL SX) (hc9 : cs + 0 ≤ c2 ∧ ss + 0 ≤ s2 ∧ c2 ≤ 601024 ∧ s2 ≤ 7293033) (K23 : gK) (h23 : gSm γ c2 s2 23 K23) : gSm γ cs ss 1125 (fL_law_k1125 N SL SX K23) := by
  unfold fL_law_k1125
  refine sm_goto (pc := 1125) (tgt := 2794) G hb (by decide +kernel : decode code 1125 = .ok (.goto 1669, 3)) (by decide) ?_
  refine sm_mask ?_
  exact fL_law_s2794 N SL SX G hb ho hy hR he hr hE hEL hSc (by omega) K23 h23
set_option maxRecDepth 100000 in
set_option maxHeartbeats 8000000 in
theorem fL_law_s1101 {γ : gG} {cs ss c2 s2 : Nat} {ε : gE5} (N SL : Nat) (SX : Nat → Int32) (G : gOK γ) (hb : gcc γ = code) (ho : gow γ = RL) (hy : gly γ = gyL) (hR : grm γ = room_1) (he : genv γ = ε) (hr : grt γ = some .boolean) (hE : gEnv ε) (hEL : gEnvL ε) (hSc : gSc ε SL SX) (hc9 : cs + 0 ≤ c2 ∧ ss + 0 ≤ s2 ∧ c2 ≤ 601024 ∧ s2 ≤ 7293033) (K23 : gK) (h23 : gSm γ c2 s2 23 K23) : gSm γ cs ss 1101 (fL_law_k1101 N SL SX K23) := by
  unfold fL_law_k1101
  refine sm_iload (pc := 1101) G hb (by decide +kernel : decode code 1101 = .ok (.iload 5, 2)) ?_
  refine sm_icmp_eq (pc := 1103) (tgt := 1108) G hb (by decide +kernel : decode code 1103 = .ok (.if_icmp .eq 5, 3)) (by decide) ?_ ?_
  · skip
    refine sm_iload (pc := 1108) G hb (by decide +kernel : decode code 1108 = .ok (.iload 5, 2)) ?_
    refine sm_if_ne (pc := 1110) (tgt := 1125) G hb (by decide +kernel : decode code 1110 = .ok (.ifCond .ne 15, 3)) (by decide) ?_ ?_
    · skip
      refine sm_mask ?_
      exact fL_law_s1125 N SL SX G hb ho hy hR he hr hE hEL hSc (by omega) K23 h23
    · skip
      refine sm_aload_n (pc := 1113) G hb (by decide +kernel : decode code 1113 = .ok (.aload_n 3, 1)) rfl ?_
      refine sm_iconst (pc := 1114) G hb (by decide +kernel : decode code 1114 = .ok (.iconst 0, 1)) (by decide) ?_
      refine sm_lald (pc := 1115) G hb hy (by decide +kernel : decode code 1115 = .ok (.laload, 1)) ?_
      refine sm_iload (pc := 1116) G hb (by decide +kernel : decode code 1116 = .ok (.iload 6, 2)) ?_
      refine sm_i2l (pc := 1118) G hb (by decide +kernel : decode code 1118 = .ok (.i2l, 1)) ?_
      refine sm_lcmp (pc := 1119) G hb (by decide +kernel : decode code 1119 = .ok (.lcmp, 1)) ?_
      refine sm_if_eq (pc := 1120) (tgt := 1125) G hb (by decide +kernel : decode code 1120 = .ok (.ifCond .eq 5, 3)) (by decide) ?_ ?_
      · skip
        refine sm_mask ?_
        exact fL_law_s1125 N SL SX G hb ho hy hR he hr hE hEL hSc (by omega) K23 h23
      · skip
        refine sm_iconst (pc := 1123) G hb (by decide +kernel : decode code 1123 = .ok (.iconst 0, 1)) (by decide) ?_
        exact sm_zret (pc := 1124) G hb (by decide +kernel : decode code 1124 = .ok (.ireturn, 1)) hr
  · skip
    refine sm_iconst (pc := 1106) G hb (by decide +kernel : decode code 1106 = .ok (.iconst 0, 1)) (by decide) ?_
    exact sm_zret (pc := 1107) G hb (by decide +kernel : decode code 1107 = .ok (.ireturn, 1)) hr
set_option maxRecDepth 100000 in
set_option maxHeartbeats 8000000 in
theorem fL_law_s1060 {γ : gG} {cs ss c2 s2 : Nat} {ε : gE5} (N SL : Nat) (SX : Nat → Int32) (G : gOK γ) (hb : gcc γ = code) (ho : gow γ = RL) (hy : gly γ = gyL) (hR : grm γ = room_1) (he : genv γ = ε) (hr : grt γ = some .boolean) (hE : gEnv ε) (hEL : gEnvL ε) (hSc : gSc ε SL SX) (hc9 : cs + 3 ≤ c2 ∧ ss + 18 ≤ s2 ∧ c2 ≤ 601024 ∧ s2 ≤ 7293033) (K23 : gK) (h23 : gSm γ c2 s2 23 K23) : gSm γ cs ss 1060 (fL_law_k1060 N SL SX K23) := by
  unfold fL_law_k1060
  refine sm_aload_n (pc := 1060) G hb (by decide +kernel : decode code 1060 = .ok (.aload_n 1, 1)) rfl ?_
  refine sm_aload_n (pc := 1061) G hb (by decide +kernel : decode code 1061 = .ok (.aload_n 0, 1)) rfl ?_
  refine sm_iload (pc := 1062) G hb (by decide +kernel : decode code 1062 = .ok (.iload 4, 2)) ?_
  refine sm_iconst (pc := 1064) G hb (by decide +kernel : decode code 1064 = .ok (.iconst 1, 1)) (by decide) ?_
  refine sm_iadd (pc := 1065) G hb (by decide +kernel : decode code 1065 = .ok (.iadd, 1)) ?_
  refine sm_sld (pc := 1066) G hb ho he hE hSc (by decide +kernel : decode code 1066 = .ok (.iaload, 1)) ?_
  refine sm_aload_n (pc := 1067) G hb (by decide +kernel : decode code 1067 = .ok (.aload_n 0, 1)) rfl ?_
  refine sm_iload (pc := 1068) G hb (by decide +kernel : decode code 1068 = .ok (.iload 4, 2)) ?_
  refine sm_iconst (pc := 1070) G hb (by decide +kernel : decode code 1070 = .ok (.iconst 2, 1)) (by decide) ?_
  refine sm_iadd (pc := 1071) G hb (by decide +kernel : decode code 1071 = .ok (.iadd, 1)) ?_
  refine sm_sld (pc := 1072) G hb ho he hE hSc (by decide +kernel : decode code 1072 = .ok (.iaload, 1)) ?_
  refine sm_aload_n (pc := 1073) G hb (by decide +kernel : decode code 1073 = .ok (.aload_n 3, 1)) rfl ?_
  refine sm_mono (ca_sub gI_sub) (sm_callW (pc := 1074) G hb ho hy he hE.1 4 [0, 1, 2, 3, 4, 5, 6, 7, 8, 9, 10, 11, 12, 13, 14, 15, 16, 17, 18, 19, 20, 21, 22, 23, 24, 25, 26, 27, 28, 29, 30, 31, 32, 33, 34, 35, 36, 37, 38, 39, 40, 41, 42, 43, 44, 45, 46, 47, 48, 49, 50, 51, 52, 53, 54, 55, 56, 57, 58, 59, 60, 61, 62, 63, 64, 65, 66, 67, 68, 69, 70, 71, 72, 73, 74, 75, 76, 77, 78, 79, 80, 81, 82, 83, 84, 85, 86, 87, 88, 89, 90, 91, 92, 93, 94, 95, 96, 97, 98, 99, 100, 101, 102, 103, 104, 105, 106, 107, 108, 109, 110, 111, 112, 113, 114, 115, 116, 117, 118, 119, 120, 121, 122, 123, 124, 125, 126, 127, 128, 129, 130, 131, 132, 133, 134, 135, 136, 137, 138, 139, 140, 141, 142, 143, 144, 145, 146, 147, 148, 149, 150, 151, 152, 153, 154, 155, 156, 157, 158, 159, 160, 161, 162, 163, 164, 165, 166, 167, 168, 169, 170, 171, 172, 173, 174, 175, 176, 177, 178, 179, 180, 181, 182, 183, 184, 185, 186, 187, 188, 189, 190, 191, 192, 193, 194, 195, 196, 197, 198, 199, 200, 201, 202, 203, 222] (kL_flush hEL N) (gCo_of (by decide +kernel)) (by rw [hR]; exact ⟨by decide, by decide⟩) (by rw [hR]; exact ⟨by show _ ≤ 601024; omega, by show _ ≤ 7293033; omega⟩) (by decide +kernel) gw4_102 gw4_103 gw1_0 gw4_104 (by decide +kernel : decode code 1074 = .ok (.invokestatic 194, 3)) ?_)
  refine sm_istore (pc := 1077) G hb (by decide +kernel : decode code 1077 = .ok (.istore 5, 2)) ?_
  refine sm_aload_n (pc := 1079) G hb (by decide +kernel : decode code 1079 = .ok (.aload_n 2, 1)) rfl ?_
  refine sm_aload_n (pc := 1080) G hb (by decide +kernel : decode code 1080 = .ok (.aload_n 0, 1)) rfl ?_
  refine sm_iload (pc := 1081) G hb (by decide +kernel : decode code 1081 = .ok (.iload 4, 2)) ?_
  refine sm_iconst (pc := 1083) G hb (by decide +kernel : decode code 1083 = .ok (.iconst 1, 1)) (by decide) ?_
  refine sm_iadd (pc := 1084) G hb (by decide +kernel : decode code 1084 = .ok (.iadd, 1)) ?_
  refine sm_sld (pc := 1085) G hb ho he hE hSc (by decide +kernel : decode code 1085 = .ok (.iaload, 1)) ?_
  refine sm_aload_n (pc := 1086) G hb (by decide +kernel : decode code 1086 = .ok (.aload_n 0, 1)) rfl ?_
  refine sm_iload (pc := 1087) G hb (by decide +kernel : decode code 1087 = .ok (.iload 4, 2)) ?_
  refine sm_iconst (pc := 1089) G hb (by decide +kernel : decode code 1089 = .ok (.iconst 2, 1)) (by decide) ?_
  refine sm_iadd (pc := 1090) G hb (by decide +kernel : decode code 1090 = .ok (.iadd, 1)) ?_
  refine sm_sld (pc := 1091) G hb ho he hE hSc (by decide +kernel : decode code 1091 = .ok (.iaload, 1)) ?_
  refine sm_mono (cav_sub gI_sub) (sm_callV (pc := 1092) (N := 32) (T := TX9) (C := RX9) G hb ho hy he hE.1 3 [204, 205, 206, 207, 208, 209, 210, 211, 212, 213, 214, 215, 216, 217, 218, 219, 220, 221] (kX9_flush hE N) (gCo_of (by decide +kernel)) (by rw [hR]; exact ⟨by decide, by decide⟩) rfl rfl (by decide +kernel) gw7_72 gw7_73 gw7_74 gw1_11 gw7_75 (by decide +kernel : decode code 1092 = .ok (.invokevirtual 196, 3)) ?_)
  refine sm_istore (pc := 1095) G hb (by decide +kernel : decode code 1095 = .ok (.istore 6, 2)) ?_
  refine sm_aload_n (pc := 1097) G hb (by decide +kernel : decode code 1097 = .ok (.aload_n 2, 1)) rfl ?_
  refine sm_mono (cav_sub gI_sub) (sm_callV (pc := 1098) (N := 32) (T := TX9) (C := RX9) G hb ho hy he hE.1 1 [204, 205, 206, 207, 208, 209, 210, 211, 212, 213, 214, 215, 216, 217, 218, 219, 220, 221] (kX9_thrown hE N) (gCo_of (by decide +kernel)) (by rw [hR]; exact ⟨by decide, by decide⟩) rfl rfl (by decide +kernel) gw6_94 gw6_95 gw6_96 gw1_11 gw6_97 (by decide +kernel : decode code 1098 = .ok (.invokevirtual 151, 3)) ?_)
  refine sm_mask ?_
  exact fL_law_s1101 N SL SX G hb ho hy hR he hr hE hEL hSc (by omega) K23 h23
set_option maxRecDepth 100000 in
set_option maxHeartbeats 8000000 in
theorem fL_law_s1128 {γ : gG} {cs ss c2 s2 : Nat} {ε : gE5} (N SL : Nat) (SX : Nat → Int32) (G : gOK γ) (hb : gcc γ = code) (ho : gow γ = RL) (hy : gly γ = gyL) (hR : grm γ = room_1) (he : genv γ = ε) (hr : grt γ = some .boolean) (hE : gEnv ε) (hEL : gEnvL ε) (hSc : gSc ε SL SX) (hc9 : cs + 0 ≤ c2 ∧ ss + 0 ≤ s2 ∧ c2 ≤ 601024 ∧ s2 ≤ 7293033) (K23 : gK) (h23 : gSm γ c2 s2 23 K23) : gSm γ cs ss 1128 (fL_law_k1128 N SL SX K23) := by
  unfold fL_law_k1128
  refine sm_aload_n (pc := 1128) G hb (by decide +kernel : decode code 1128 = .ok (.aload_n 1, 1)) rfl ?_
  refine sm_mono (cav_sub gI_sub) (sm_callV (pc := 1129) (N := 8) (T := TX8) (C := RX8) G hb ho hy he hE.1 1 [0, 1, 2, 3, 4, 5, 6, 7, 8, 9, 10, 11, 12, 13, 14, 15, 16, 17, 18, 19, 20, 21, 22, 23, 24, 25, 26, 27, 28, 29, 30, 31, 32, 33, 34, 35, 36, 37, 38, 39, 40, 41, 42, 43, 44, 45, 46, 47, 48, 49, 50, 51, 52, 53, 54, 55, 56, 57, 58, 59, 60, 61, 62, 63, 64, 65, 66, 67, 68, 69, 70, 71, 72, 73, 74, 75, 76, 77, 78, 79, 80, 81, 82, 83, 84, 85, 86, 87, 88, 89, 90, 91, 92, 93, 94, 95, 96, 97, 98, 99, 100, 101, 102, 103, 104, 105, 106, 107, 108, 109, 110, 111, 112, 113, 114, 115, 116, 117, 118, 119, 120, 121, 122, 123, 124, 125, 126, 127, 128, 129, 130, 131, 132, 133, 134, 135, 136, 137, 138, 139, 140, 141, 142, 143, 144, 145, 146, 147, 148, 149, 150, 151, 152, 153, 154, 155, 156, 157, 158, 159, 160, 161, 162, 163, 164, 165, 166, 167, 168, 169, 170, 171, 172, 173, 174, 175, 176, 177, 178, 179, 180, 181, 182, 183, 184, 185, 186, 187, 188, 189, 190, 191, 192, 193, 194, 195, 196, 197, 198, 199, 200, 201, 202, 203] (kX8_resetShadows hE N) (gCo_of (by decide +kernel)) (by rw [hR]; exact ⟨by decide, by decide⟩) rfl rfl (by decide +kernel) gw3_28 gw3_29 gw3_30 gw1_1 gw3_31 (by decide +kernel : decode code 1129 = .ok (.invokevirtual 197, 3)) ?_)
  refine sm_aload_n (pc := 1132) G hb (by decide +kernel : decode code 1132 = .ok (.aload_n 2, 1)) rfl ?_
  refine sm_mono (cav_sub gI_sub) (sm_callV (pc := 1133) (N := 32) (T := TX9) (C := RX9) G hb ho hy he hE.1 1 [204, 205, 206, 207, 208, 209, 210, 211, 212, 213, 214, 215, 216, 217, 218, 219, 220, 221] (kX9_resetShadows hE N) (gCo_of (by decide +kernel)) (by rw [hR]; exact ⟨by decide, by decide⟩) rfl rfl (by decide +kernel) gw7_96 gw7_97 gw7_98 gw1_11 gw7_99 (by decide +kernel : decode code 1133 = .ok (.invokevirtual 200, 3)) ?_)
  refine sm_icmp_eq (pc := 1136) (tgt := 2794) G hb (by decide +kernel : decode code 1136 = .ok (.if_icmp .eq 1658, 3)) (by decide) ?_ ?_
  · skip
    refine sm_mask ?_
    exact fL_law_s2794 N SL SX G hb ho hy hR he hr hE hEL hSc (by omega) K23 h23
  · skip
    refine sm_iconst (pc := 1139) G hb (by decide +kernel : decode code 1139 = .ok (.iconst 0, 1)) (by decide) ?_
    exact sm_zret (pc := 1140) G hb (by decide +kernel : decode code 1140 = .ok (.ireturn, 1)) hr
set_option maxRecDepth 100000 in
set_option maxHeartbeats 8000000 in
theorem fL_law_s1194 {γ : gG} {cs ss c2 s2 : Nat} {ε : gE5} (N SL : Nat) (SX : Nat → Int32) (G : gOK γ) (hb : gcc γ = code) (ho : gow γ = RL) (hy : gly γ = gyL) (hR : grm γ = room_1) (he : genv γ = ε) (hr : grt γ = some .boolean) (hE : gEnv ε) (hEL : gEnvL ε) (hSc : gSc ε SL SX) (hc9 : cs + 0 ≤ c2 ∧ ss + 0 ≤ s2 ∧ c2 ≤ 601024 ∧ s2 ≤ 7293033) (K23 : gK) (h23 : gSm γ c2 s2 23 K23) : gSm γ cs ss 1194 (fL_law_k1194 N SL SX K23) := by
  unfold fL_law_k1194
  refine sm_goto (pc := 1194) (tgt := 2794) G hb (by decide +kernel : decode code 1194 = .ok (.goto 1600, 3)) (by decide) ?_
  refine sm_mask ?_
  exact fL_law_s2794 N SL SX G hb ho hy hR he hr hE hEL hSc (by omega) K23 h23
set_option maxRecDepth 100000 in
set_option maxHeartbeats 8000000 in
theorem fL_law_s1170 {γ : gG} {cs ss c2 s2 : Nat} {ε : gE5} (N SL : Nat) (SX : Nat → Int32) (G : gOK γ) (hb : gcc γ = code) (ho : gow γ = RL) (hy : gly γ = gyL) (hR : grm γ = room_1) (he : genv γ = ε) (hr : grt γ = some .boolean) (hE : gEnv ε) (hEL : gEnvL ε) (hSc : gSc ε SL SX) (hc9 : cs + 0 ≤ c2 ∧ ss + 0 ≤ s2 ∧ c2 ≤ 601024 ∧ s2 ≤ 7293033) (K23 : gK) (h23 : gSm γ c2 s2 23 K23) : gSm γ cs ss 1170 (fL_law_k1170 N SL SX K23) := by
  unfold fL_law_k1170
  refine sm_iload (pc := 1170) G hb (by decide +kernel : decode code 1170 = .ok (.iload 5, 2)) ?_
  refine sm_icmp_eq (pc := 1172) (tgt := 1177) G hb (by decide +kernel : decode code 1172 = .ok (.if_icmp .eq 5, 3)) (by decide) ?_ ?_
  · skip
    refine sm_iload (pc := 1177) G hb (by decide +kernel : decode code 1177 = .ok (.iload 5, 2)) ?_
    refine sm_if_ne (pc := 1179) (tgt := 1194) G hb (by decide +kernel : decode code 1179 = .ok (.ifCond .ne 15, 3)) (by decide) ?_ ?_
    · skip
      refine sm_mask ?_
      exact fL_law_s1194 N SL SX G hb ho hy hR he hr hE hEL hSc (by omega) K23 h23
    · skip
      refine sm_aload_n (pc := 1182) G hb (by decide +kernel : decode code 1182 = .ok (.aload_n 3, 1)) rfl ?_
      refine sm_iconst (pc := 1183) G hb (by decide +kernel : decode code 1183 = .ok (.iconst 0, 1)) (by decide) ?_
      refine sm_lald (pc := 1184) G hb hy (by decide +kernel : decode code 1184 = .ok (.laload, 1)) ?_
      refine sm_iload (pc := 1185) G hb (by decide +kernel : decode code 1185 = .ok (.iload 6, 2)) ?_
      refine sm_i2l (pc := 1187) G hb (by decide +kernel : decode code 1187 = .ok (.i2l, 1)) ?_
      refine sm_lcmp (pc := 1188) G hb (by decide +kernel : decode code 1188 = .ok (.lcmp, 1)) ?_
      refine sm_if_eq (pc := 1189) (tgt := 1194) G hb (by decide +kernel : decode code 1189 = .ok (.ifCond .eq 5, 3)) (by decide) ?_ ?_
      · skip
        refine sm_mask ?_
        exact fL_law_s1194 N SL SX G hb ho hy hR he hr hE hEL hSc (by omega) K23 h23
      · skip
        refine sm_iconst (pc := 1192) G hb (by decide +kernel : decode code 1192 = .ok (.iconst 0, 1)) (by decide) ?_
        exact sm_zret (pc := 1193) G hb (by decide +kernel : decode code 1193 = .ok (.ireturn, 1)) hr
  · skip
    refine sm_iconst (pc := 1175) G hb (by decide +kernel : decode code 1175 = .ok (.iconst 0, 1)) (by decide) ?_
    exact sm_zret (pc := 1176) G hb (by decide +kernel : decode code 1176 = .ok (.ireturn, 1)) hr
set_option maxRecDepth 100000 in
set_option maxHeartbeats 8000000 in
theorem fL_law_s1141 {γ : gG} {cs ss c2 s2 : Nat} {ε : gE5} (N SL : Nat) (SX : Nat → Int32) (G : gOK γ) (hb : gcc γ = code) (ho : gow γ = RL) (hy : gly γ = gyL) (hR : grm γ = room_1) (he : genv γ = ε) (hr : grt γ = some .boolean) (hE : gEnv ε) (hEL : gEnvL ε) (hSc : gSc ε SL SX) (hc9 : cs + 2 ≤ c2 ∧ ss + 12 ≤ s2 ∧ c2 ≤ 601024 ∧ s2 ≤ 7293033) (K23 : gK) (h23 : gSm γ c2 s2 23 K23) : gSm γ cs ss 1141 (fL_law_k1141 N SL SX K23) := by
  unfold fL_law_k1141
  refine sm_aload_n (pc := 1141) G hb (by decide +kernel : decode code 1141 = .ok (.aload_n 1, 1)) rfl ?_
  refine sm_aload_n (pc := 1142) G hb (by decide +kernel : decode code 1142 = .ok (.aload_n 0, 1)) rfl ?_
  refine sm_iload (pc := 1143) G hb (by decide +kernel : decode code 1143 = .ok (.iload 4, 2)) ?_
  refine sm_iconst (pc := 1145) G hb (by decide +kernel : decode code 1145 = .ok (.iconst 1, 1)) (by decide) ?_
  refine sm_iadd (pc := 1146) G hb (by decide +kernel : decode code 1146 = .ok (.iadd, 1)) ?_
  refine sm_sld (pc := 1147) G hb ho he hE hSc (by decide +kernel : decode code 1147 = .ok (.iaload, 1)) ?_
  refine sm_aload_n (pc := 1148) G hb (by decide +kernel : decode code 1148 = .ok (.aload_n 3, 1)) rfl ?_
  refine sm_mono (ca_sub gI_sub) (sm_callW (pc := 1149) G hb ho hy he hE.1 3 [0, 1, 2, 3, 4, 5, 6, 7, 8, 9, 10, 11, 12, 13, 14, 15, 16, 17, 18, 19, 20, 21, 22, 23, 24, 25, 26, 27, 28, 29, 30, 31, 32, 33, 34, 35, 36, 37, 38, 39, 40, 41, 42, 43, 44, 45, 46, 47, 48, 49, 50, 51, 52, 53, 54, 55, 56, 57, 58, 59, 60, 61, 62, 63, 64, 65, 66, 67, 68, 69, 70, 71, 72, 73, 74, 75, 76, 77, 78, 79, 80, 81, 82, 83, 84, 85, 86, 87, 88, 89, 90, 91, 92, 93, 94, 95, 96, 97, 98, 99, 100, 101, 102, 103, 104, 105, 106, 107, 108, 109, 110, 111, 112, 113, 114, 115, 116, 117, 118, 119, 120, 121, 122, 123, 124, 125, 126, 127, 128, 129, 130, 131, 132, 133, 134, 135, 136, 137, 138, 139, 140, 141, 142, 143, 144, 145, 146, 147, 148, 149, 150, 151, 152, 153, 154, 155, 156, 157, 158, 159, 160, 161, 162, 163, 164, 165, 166, 167, 168, 169, 170, 171, 172, 173, 174, 175, 176, 177, 178, 179, 180, 181, 182, 183, 184, 185, 186, 187, 188, 189, 190, 191, 192, 193, 194, 195, 196, 197, 198, 199, 200, 201, 202, 203, 222] (kL_run hEL N) (gCo_of (by decide +kernel)) (by rw [hR]; exact ⟨by decide, by decide⟩) (by rw [hR]; exact ⟨by show _ ≤ 601024; omega, by show _ ≤ 7293033; omega⟩) (by decide +kernel) gw4_122 gw4_123 gw1_0 gw4_124 (by decide +kernel : decode code 1149 = .ok (.invokestatic 201, 3)) ?_)
  refine sm_istore (pc := 1152) G hb (by decide +kernel : decode code 1152 = .ok (.istore 5, 2)) ?_
  refine sm_aload_n (pc := 1154) G hb (by decide +kernel : decode code 1154 = .ok (.aload_n 2, 1)) rfl ?_
  refine sm_aload_n (pc := 1155) G hb (by decide +kernel : decode code 1155 = .ok (.aload_n 0, 1)) rfl ?_
  refine sm_iload (pc := 1156) G hb (by decide +kernel : decode code 1156 = .ok (.iload 4, 2)) ?_
  refine sm_iconst (pc := 1158) G hb (by decide +kernel : decode code 1158 = .ok (.iconst 1, 1)) (by decide) ?_
  refine sm_iadd (pc := 1159) G hb (by decide +kernel : decode code 1159 = .ok (.iadd, 1)) ?_
  refine sm_sld (pc := 1160) G hb ho he hE hSc (by decide +kernel : decode code 1160 = .ok (.iaload, 1)) ?_
  refine sm_mono (cav_sub gI_sub) (sm_callV (pc := 1161) (N := 32) (T := TX9) (C := RX9) G hb ho hy he hE.1 2 [204, 205, 206, 207, 208, 209, 210, 211, 212, 213, 214, 215, 216, 217, 218, 219, 220, 221] (kX9_run hE N) (gCo_of (by decide +kernel)) (by rw [hR]; exact ⟨by decide, by decide⟩) rfl rfl (by decide +kernel) gw7_104 gw7_105 gw7_106 gw1_11 gw7_107 (by decide +kernel : decode code 1161 = .ok (.invokevirtual 203, 3)) ?_)
  refine sm_istore (pc := 1164) G hb (by decide +kernel : decode code 1164 = .ok (.istore 6, 2)) ?_
  refine sm_aload_n (pc := 1166) G hb (by decide +kernel : decode code 1166 = .ok (.aload_n 2, 1)) rfl ?_
  refine sm_mono (cav_sub gI_sub) (sm_callV (pc := 1167) (N := 32) (T := TX9) (C := RX9) G hb ho hy he hE.1 1 [204, 205, 206, 207, 208, 209, 210, 211, 212, 213, 214, 215, 216, 217, 218, 219, 220, 221] (kX9_thrown hE N) (gCo_of (by decide +kernel)) (by rw [hR]; exact ⟨by decide, by decide⟩) rfl rfl (by decide +kernel) gw6_94 gw6_95 gw6_96 gw1_11 gw6_97 (by decide +kernel : decode code 1167 = .ok (.invokevirtual 151, 3)) ?_)
  refine sm_mask ?_
  exact fL_law_s1170 N SL SX G hb ho hy hR he hr hE hEL hSc (by omega) K23 h23
set_option maxRecDepth 100000 in
set_option maxHeartbeats 8000000 in
theorem fL_law_s1238 {γ : gG} {cs ss c2 s2 : Nat} {ε : gE5} (N SL : Nat) (SX : Nat → Int32) (G : gOK γ) (hb : gcc γ = code) (ho : gow γ = RL) (hy : gly γ = gyL) (hR : grm γ = room_1) (he : genv γ = ε) (hr : grt γ = some .boolean) (hE : gEnv ε) (hEL : gEnvL ε) (hSc : gSc ε SL SX) (hc9 : cs + 0 ≤ c2 ∧ ss + 0 ≤ s2 ∧ c2 ≤ 601024 ∧ s2 ≤ 7293033) (K23 : gK) (h23 : gSm γ c2 s2 23 K23) : gSm γ cs ss 1238 (fL_law_k1238 N SL SX K23) := by
  unfold fL_law_k1238
  refine sm_goto (pc := 1238) (tgt := 2794) G hb (by decide +kernel : decode code 1238 = .ok (.goto 1556, 3)) (by decide) ?_
  refine sm_mask ?_
  exact fL_law_s2794 N SL SX G hb ho hy hR he hr hE hEL hSc (by omega) K23 h23
set_option maxRecDepth 100000 in
set_option maxHeartbeats 8000000 in
theorem fL_law_s1214 {γ : gG} {cs ss c2 s2 : Nat} {ε : gE5} (N SL : Nat) (SX : Nat → Int32) (G : gOK γ) (hb : gcc γ = code) (ho : gow γ = RL) (hy : gly γ = gyL) (hR : grm γ = room_1) (he : genv γ = ε) (hr : grt γ = some .boolean) (hE : gEnv ε) (hEL : gEnvL ε) (hSc : gSc ε SL SX) (hc9 : cs + 0 ≤ c2 ∧ ss + 0 ≤ s2 ∧ c2 ≤ 601024 ∧ s2 ≤ 7293033) (K23 : gK) (h23 : gSm γ c2 s2 23 K23) : gSm γ cs ss 1214 (fL_law_k1214 N SL SX K23) := by
  unfold fL_law_k1214
  refine sm_iload (pc := 1214) G hb (by decide +kernel : decode code 1214 = .ok (.iload 5, 2)) ?_
  refine sm_icmp_eq (pc := 1216) (tgt := 1221) G hb (by decide +kernel : decode code 1216 = .ok (.if_icmp .eq 5, 3)) (by decide) ?_ ?_
  · skip
    refine sm_iload (pc := 1221) G hb (by decide +kernel : decode code 1221 = .ok (.iload 5, 2)) ?_
    refine sm_if_ne (pc := 1223) (tgt := 1238) G hb (by decide +kernel : decode code 1223 = .ok (.ifCond .ne 15, 3)) (by decide) ?_ ?_
    · skip
      refine sm_mask ?_
      exact fL_law_s1238 N SL SX G hb ho hy hR he hr hE hEL hSc (by omega) K23 h23
    · skip
      refine sm_aload_n (pc := 1226) G hb (by decide +kernel : decode code 1226 = .ok (.aload_n 3, 1)) rfl ?_
      refine sm_iconst (pc := 1227) G hb (by decide +kernel : decode code 1227 = .ok (.iconst 0, 1)) (by decide) ?_
      refine sm_lald (pc := 1228) G hb hy (by decide +kernel : decode code 1228 = .ok (.laload, 1)) ?_
      refine sm_iload (pc := 1229) G hb (by decide +kernel : decode code 1229 = .ok (.iload 6, 2)) ?_
      refine sm_i2l (pc := 1231) G hb (by decide +kernel : decode code 1231 = .ok (.i2l, 1)) ?_
      refine sm_lcmp (pc := 1232) G hb (by decide +kernel : decode code 1232 = .ok (.lcmp, 1)) ?_
      refine sm_if_eq (pc := 1233) (tgt := 1238) G hb (by decide +kernel : decode code 1233 = .ok (.ifCond .eq 5, 3)) (by decide) ?_ ?_
      · skip
        refine sm_mask ?_
        exact fL_law_s1238 N SL SX G hb ho hy hR he hr hE hEL hSc (by omega) K23 h23
      · skip
        refine sm_iconst (pc := 1236) G hb (by decide +kernel : decode code 1236 = .ok (.iconst 0, 1)) (by decide) ?_
        exact sm_zret (pc := 1237) G hb (by decide +kernel : decode code 1237 = .ok (.ireturn, 1)) hr
  · skip
    refine sm_iconst (pc := 1219) G hb (by decide +kernel : decode code 1219 = .ok (.iconst 0, 1)) (by decide) ?_
    exact sm_zret (pc := 1220) G hb (by decide +kernel : decode code 1220 = .ok (.ireturn, 1)) hr
set_option maxRecDepth 100000 in
set_option maxHeartbeats 8000000 in
theorem fL_law_s1197 {γ : gG} {cs ss c2 s2 : Nat} {ε : gE5} (N SL : Nat) (SX : Nat → Int32) (G : gOK γ) (hb : gcc γ = code) (ho : gow γ = RL) (hy : gly γ = gyL) (hR : grm γ = room_1) (he : genv γ = ε) (hr : grt γ = some .boolean) (hE : gEnv ε) (hEL : gEnvL ε) (hSc : gSc ε SL SX) (hc9 : cs + 1 ≤ c2 ∧ ss + 6 ≤ s2 ∧ c2 ≤ 601024 ∧ s2 ≤ 7293033) (K23 : gK) (h23 : gSm γ c2 s2 23 K23) : gSm γ cs ss 1197 (fL_law_k1197 N SL SX K23) := by
  unfold fL_law_k1197
  refine sm_aload_n (pc := 1197) G hb (by decide +kernel : decode code 1197 = .ok (.aload_n 1, 1)) rfl ?_
  refine sm_aload_n (pc := 1198) G hb (by decide +kernel : decode code 1198 = .ok (.aload_n 3, 1)) rfl ?_
  refine sm_mono (ca_sub gI_sub) (sm_callW (pc := 1199) G hb ho hy he hE.1 2 [0, 1, 2, 3, 4, 5, 6, 7, 8, 9, 10, 11, 12, 13, 14, 15, 16, 17, 18, 19, 20, 21, 22, 23, 24, 25, 26, 27, 28, 29, 30, 31, 32, 33, 34, 35, 36, 37, 38, 39, 40, 41, 42, 43, 44, 45, 46, 47, 48, 49, 50, 51, 52, 53, 54, 55, 56, 57, 58, 59, 60, 61, 62, 63, 64, 65, 66, 67, 68, 69, 70, 71, 72, 73, 74, 75, 76, 77, 78, 79, 80, 81, 82, 83, 84, 85, 86, 87, 88, 89, 90, 91, 92, 93, 94, 95, 96, 97, 98, 99, 100, 101, 102, 103, 104, 105, 106, 107, 108, 109, 110, 111, 112, 113, 114, 115, 116, 117, 118, 119, 120, 121, 122, 123, 124, 125, 126, 127, 128, 129, 130, 131, 132, 133, 134, 135, 136, 137, 138, 139, 140, 141, 142, 143, 144, 145, 146, 147, 148, 149, 150, 151, 152, 153, 154, 155, 156, 157, 158, 159, 160, 161, 162, 163, 164, 165, 166, 167, 168, 169, 170, 171, 172, 173, 174, 175, 176, 177, 178, 179, 180, 181, 182, 183, 184, 185, 186, 187, 188, 189, 190, 191, 192, 193, 194, 195, 196, 197, 198, 199, 200, 201, 202, 203, 222] (kL_undo hEL N) (gCo_of (by decide +kernel)) (by rw [hR]; exact ⟨by decide, by decide⟩) (by rw [hR]; exact ⟨by show _ ≤ 601024; omega, by show _ ≤ 7293033; omega⟩) (by decide +kernel) gw4_213 gw4_214 gw1_0 gw4_215 (by decide +kernel : decode code 1199 = .ok (.invokestatic 204, 3)) ?_)
  refine sm_istore (pc := 1202) G hb (by decide +kernel : decode code 1202 = .ok (.istore 5, 2)) ?_
  refine sm_aload_n (pc := 1204) G hb (by decide +kernel : decode code 1204 = .ok (.aload_n 2, 1)) rfl ?_
  refine sm_mono (cav_sub gI_sub) (sm_callV (pc := 1205) (N := 32) (T := TX9) (C := RX9) G hb ho hy he hE.1 1 [204, 205, 206, 207, 208, 209, 210, 211, 212, 213, 214, 215, 216, 217, 218, 219, 220, 221] (kX9_undo hE N) (gCo_of (by decide +kernel)) (by rw [hR]; exact ⟨by decide, by decide⟩) rfl rfl (by decide +kernel) gw6_216 gw6_217 gw6_218 gw1_11 gw6_219 (by decide +kernel : decode code 1205 = .ok (.invokevirtual 206, 3)) ?_)
  refine sm_istore (pc := 1208) G hb (by decide +kernel : decode code 1208 = .ok (.istore 6, 2)) ?_
  refine sm_aload_n (pc := 1210) G hb (by decide +kernel : decode code 1210 = .ok (.aload_n 2, 1)) rfl ?_
  refine sm_mono (cav_sub gI_sub) (sm_callV (pc := 1211) (N := 32) (T := TX9) (C := RX9) G hb ho hy he hE.1 1 [204, 205, 206, 207, 208, 209, 210, 211, 212, 213, 214, 215, 216, 217, 218, 219, 220, 221] (kX9_thrown hE N) (gCo_of (by decide +kernel)) (by rw [hR]; exact ⟨by decide, by decide⟩) rfl rfl (by decide +kernel) gw6_94 gw6_95 gw6_96 gw1_11 gw6_97 (by decide +kernel : decode code 1211 = .ok (.invokevirtual 151, 3)) ?_)
  refine sm_mask ?_
  exact fL_law_s1214 N SL SX G hb ho hy hR he hr hE hEL hSc (by omega) K23 h23
set_option maxRecDepth 100000 in
set_option maxHeartbeats 8000000 in
theorem fL_law_s1241 {γ : gG} {cs ss c2 s2 : Nat} {ε : gE5} (N SL : Nat) (SX : Nat → Int32) (G : gOK γ) (hb : gcc γ = code) (ho : gow γ = RL) (hy : gly γ = gyL) (hR : grm γ = room_1) (he : genv γ = ε) (hr : grt γ = some .boolean) (hE : gEnv ε) (hEL : gEnvL ε) (hSc : gSc ε SL SX) (hc9 : cs + 0 ≤ c2 ∧ ss + 0 ≤ s2 ∧ c2 ≤ 601024 ∧ s2 ≤ 7293033) (K23 : gK) (h23 : gSm γ c2 s2 23 K23) : gSm γ cs ss 1241 (fL_law_k1241 N SL SX K23) := by
  unfold fL_law_k1241
  refine sm_aload_n (pc := 1241) G hb (by decide +kernel : decode code 1241 = .ok (.aload_n 1, 1)) rfl ?_
  refine sm_mono (cav_sub gI_sub) (sm_callV (pc := 1242) (N := 8) (T := TX8) (C := RX8) G hb ho hy he hE.1 1 [0, 1, 2, 3, 4, 5, 6, 7, 8, 9, 10, 11, 12, 13, 14, 15, 16, 17, 18, 19, 20, 21, 22, 23, 24, 25, 26, 27, 28, 29, 30, 31, 32, 33, 34, 35, 36, 37, 38, 39, 40, 41, 42, 43, 44, 45, 46, 47, 48, 49, 50, 51, 52, 53, 54, 55, 56, 57, 58, 59, 60, 61, 62, 63, 64, 65, 66, 67, 68, 69, 70, 71, 72, 73, 74, 75, 76, 77, 78, 79, 80, 81, 82, 83, 84, 85, 86, 87, 88, 89, 90, 91, 92, 93, 94, 95, 96, 97, 98, 99, 100, 101, 102, 103, 104, 105, 106, 107, 108, 109, 110, 111, 112, 113, 114, 115, 116, 117, 118, 119, 120, 121, 122, 123, 124, 125, 126, 127, 128, 129, 130, 131, 132, 133, 134, 135, 136, 137, 138, 139, 140, 141, 142, 143, 144, 145, 146, 147, 148, 149, 150, 151, 152, 153, 154, 155, 156, 157, 158, 159, 160, 161, 162, 163, 164, 165, 166, 167, 168, 169, 170, 171, 172, 173, 174, 175, 176, 177, 178, 179, 180, 181, 182, 183, 184, 185, 186, 187, 188, 189, 190, 191, 192, 193, 194, 195, 196, 197, 198, 199, 200, 201, 202, 203] (kX8_undoCount hE N) (gCo_of (by decide +kernel)) (by rw [hR]; exact ⟨by decide, by decide⟩) rfl rfl (by decide +kernel) gw3_59 gw3_60 gw3_61 gw1_1 gw3_62 (by decide +kernel : decode code 1242 = .ok (.invokevirtual 207, 3)) ?_)
  refine sm_aload_n (pc := 1245) G hb (by decide +kernel : decode code 1245 = .ok (.aload_n 2, 1)) rfl ?_
  refine sm_mono (cav_sub gI_sub) (sm_callV (pc := 1246) (N := 32) (T := TX9) (C := RX9) G hb ho hy he hE.1 1 [204, 205, 206, 207, 208, 209, 210, 211, 212, 213, 214, 215, 216, 217, 218, 219, 220, 221] (kX9_undoCount hE N) (gCo_of (by decide +kernel)) (by rw [hR]; exact ⟨by decide, by decide⟩) rfl rfl (by decide +kernel) gw6_220 gw6_221 gw6_222 gw1_11 gw6_223 (by decide +kernel : decode code 1246 = .ok (.invokevirtual 210, 3)) ?_)
  refine sm_icmp_eq (pc := 1249) (tgt := 2794) G hb (by decide +kernel : decode code 1249 = .ok (.if_icmp .eq 1545, 3)) (by decide) ?_ ?_
  · skip
    refine sm_mask ?_
    exact fL_law_s2794 N SL SX G hb ho hy hR he hr hE hEL hSc (by omega) K23 h23
  · skip
    refine sm_iconst (pc := 1252) G hb (by decide +kernel : decode code 1252 = .ok (.iconst 0, 1)) (by decide) ?_
    exact sm_zret (pc := 1253) G hb (by decide +kernel : decode code 1253 = .ok (.ireturn, 1)) hr
set_option maxRecDepth 100000 in
set_option maxHeartbeats 8000000 in
theorem fL_law_s1254 {γ : gG} {cs ss c2 s2 : Nat} {ε : gE5} (N SL : Nat) (SX : Nat → Int32) (G : gOK γ) (hb : gcc γ = code) (ho : gow γ = RL) (hy : gly γ = gyL) (hR : grm γ = room_1) (he : genv γ = ε) (hr : grt γ = some .boolean) (hE : gEnv ε) (hEL : gEnvL ε) (hSc : gSc ε SL SX) (hc9 : cs + 0 ≤ c2 ∧ ss + 0 ≤ s2 ∧ c2 ≤ 601024 ∧ s2 ≤ 7293033) (K23 : gK) (h23 : gSm γ c2 s2 23 K23) : gSm γ cs ss 1254 (fL_law_k1254 N SL SX K23) := by
  unfold fL_law_k1254
  refine sm_aload_n (pc := 1254) G hb (by decide +kernel : decode code 1254 = .ok (.aload_n 1, 1)) rfl ?_
  refine sm_mono (cav_sub gI_sub) (sm_callV (pc := 1255) (N := 8) (T := TX8) (C := RX8) G hb ho hy he hE.1 1 [0, 1, 2, 3, 4, 5, 6, 7, 8, 9, 10, 11, 12, 13, 14, 15, 16, 17, 18, 19, 20, 21, 22, 23, 24, 25, 26, 27, 28, 29, 30, 31, 32, 33, 34, 35, 36, 37, 38, 39, 40, 41, 42, 43, 44, 45, 46, 47, 48, 49, 50, 51, 52, 53, 54, 55, 56, 57, 58, 59, 60, 61, 62, 63, 64, 65, 66, 67, 68, 69, 70, 71, 72, 73, 74, 75, 76, 77, 78, 79, 80, 81, 82, 83, 84, 85, 86, 87, 88, 89, 90, 91, 92, 93, 94, 95, 96, 97, 98, 99, 100, 101, 102, 103, 104, 105, 106, 107, 108, 109, 110, 111, 112, 113, 114, 115, 116, 117, 118, 119, 120, 121, 122, 123, 124, 125, 126, 127, 128, 129, 130, 131, 132, 133, 134, 135, 136, 137, 138, 139, 140, 141, 142, 143, 144, 145, 146, 147, 148, 149, 150, 151, 152, 153, 154, 155, 156, 157, 158, 159, 160, 161, 162, 163, 164, 165, 166, 167, 168, 169, 170, 171, 172, 173, 174, 175, 176, 177, 178, 179, 180, 181, 182, 183, 184, 185, 186, 187, 188, 189, 190, 191, 192, 193, 194, 195, 196, 197, 198, 199, 200, 201, 202, 203] (kX8_save hE N) (gCo_of (by decide +kernel)) (by rw [hR]; exact ⟨by decide, by decide⟩) rfl rfl (by decide +kernel) gw3_63 gw3_64 gw3_65 gw1_1 gw3_66 (by decide +kernel : decode code 1255 = .ok (.invokevirtual 211, 3)) ?_)
  refine sm_aload_n (pc := 1258) G hb (by decide +kernel : decode code 1258 = .ok (.aload_n 2, 1)) rfl ?_
  refine sm_mono (cav_sub gI_sub) (sm_callV (pc := 1259) (N := 32) (T := TX9) (C := RX9) G hb ho hy he hE.1 1 [204, 205, 206, 207, 208, 209, 210, 211, 212, 213, 214, 215, 216, 217, 218, 219, 220, 221] (kX9_save hE N) (gCo_of (by decide +kernel)) (by rw [hR]; exact ⟨by decide, by decide⟩) rfl rfl (by decide +kernel) gw6_224 gw6_225 gw6_226 gw1_11 gw6_227 (by decide +kernel : decode code 1259 = .ok (.invokevirtual 214, 3)) ?_)
  refine sm_icmp_eq (pc := 1262) (tgt := 2794) G hb (by decide +kernel : decode code 1262 = .ok (.if_icmp .eq 1532, 3)) (by decide) ?_ ?_
  · skip
    refine sm_mask ?_
    exact fL_law_s2794 N SL SX G hb ho hy hR he hr hE hEL hSc (by omega) K23 h23
  · skip
    refine sm_iconst (pc := 1265) G hb (by decide +kernel : decode code 1265 = .ok (.iconst 0, 1)) (by decide) ?_
    exact sm_zret (pc := 1266) G hb (by decide +kernel : decode code 1266 = .ok (.ireturn, 1)) hr
set_option maxRecDepth 100000 in
set_option maxHeartbeats 8000000 in
theorem fL_law_s1308 {γ : gG} {cs ss c2 s2 : Nat} {ε : gE5} (N SL : Nat) (SX : Nat → Int32) (G : gOK γ) (hb : gcc γ = code) (ho : gow γ = RL) (hy : gly γ = gyL) (hR : grm γ = room_1) (he : genv γ = ε) (hr : grt γ = some .boolean) (hE : gEnv ε) (hEL : gEnvL ε) (hSc : gSc ε SL SX) (hc9 : cs + 0 ≤ c2 ∧ ss + 0 ≤ s2 ∧ c2 ≤ 601024 ∧ s2 ≤ 7293033) (K23 : gK) (h23 : gSm γ c2 s2 23 K23) : gSm γ cs ss 1308 (fL_law_k1308 N SL SX K23) := by
  unfold fL_law_k1308
  refine sm_goto (pc := 1308) (tgt := 2794) G hb (by decide +kernel : decode code 1308 = .ok (.goto 1486, 3)) (by decide) ?_
  refine sm_mask ?_
  exact fL_law_s2794 N SL SX G hb ho hy hR he hr hE hEL hSc (by omega) K23 h23
set_option maxRecDepth 100000 in
set_option maxHeartbeats 8000000 in
theorem fL_law_s1284 {γ : gG} {cs ss c2 s2 : Nat} {ε : gE5} (N SL : Nat) (SX : Nat → Int32) (G : gOK γ) (hb : gcc γ = code) (ho : gow γ = RL) (hy : gly γ = gyL) (hR : grm γ = room_1) (he : genv γ = ε) (hr : grt γ = some .boolean) (hE : gEnv ε) (hEL : gEnvL ε) (hSc : gSc ε SL SX) (hc9 : cs + 0 ≤ c2 ∧ ss + 0 ≤ s2 ∧ c2 ≤ 601024 ∧ s2 ≤ 7293033) (K23 : gK) (h23 : gSm γ c2 s2 23 K23) : gSm γ cs ss 1284 (fL_law_k1284 N SL SX K23) := by
  unfold fL_law_k1284
  refine sm_iload (pc := 1284) G hb (by decide +kernel : decode code 1284 = .ok (.iload 5, 2)) ?_
  refine sm_icmp_eq (pc := 1286) (tgt := 1291) G hb (by decide +kernel : decode code 1286 = .ok (.if_icmp .eq 5, 3)) (by decide) ?_ ?_
  · skip
    refine sm_iload (pc := 1291) G hb (by decide +kernel : decode code 1291 = .ok (.iload 5, 2)) ?_
    refine sm_if_ne (pc := 1293) (tgt := 1308) G hb (by decide +kernel : decode code 1293 = .ok (.ifCond .ne 15, 3)) (by decide) ?_ ?_
    · skip
      refine sm_mask ?_
      exact fL_law_s1308 N SL SX G hb ho hy hR he hr hE hEL hSc (by omega) K23 h23
    · skip
      refine sm_aload_n (pc := 1296) G hb (by decide +kernel : decode code 1296 = .ok (.aload_n 3, 1)) rfl ?_
      refine sm_iconst (pc := 1297) G hb (by decide +kernel : decode code 1297 = .ok (.iconst 0, 1)) (by decide) ?_
      refine sm_lald (pc := 1298) G hb hy (by decide +kernel : decode code 1298 = .ok (.laload, 1)) ?_
      refine sm_iload (pc := 1299) G hb (by decide +kernel : decode code 1299 = .ok (.iload 6, 2)) ?_
      refine sm_i2l (pc := 1301) G hb (by decide +kernel : decode code 1301 = .ok (.i2l, 1)) ?_
      refine sm_lcmp (pc := 1302) G hb (by decide +kernel : decode code 1302 = .ok (.lcmp, 1)) ?_
      refine sm_if_eq (pc := 1303) (tgt := 1308) G hb (by decide +kernel : decode code 1303 = .ok (.ifCond .eq 5, 3)) (by decide) ?_ ?_
      · skip
        refine sm_mask ?_
        exact fL_law_s1308 N SL SX G hb ho hy hR he hr hE hEL hSc (by omega) K23 h23
      · skip
        refine sm_iconst (pc := 1306) G hb (by decide +kernel : decode code 1306 = .ok (.iconst 0, 1)) (by decide) ?_
        exact sm_zret (pc := 1307) G hb (by decide +kernel : decode code 1307 = .ok (.ireturn, 1)) hr
  · skip
    refine sm_iconst (pc := 1289) G hb (by decide +kernel : decode code 1289 = .ok (.iconst 0, 1)) (by decide) ?_
    exact sm_zret (pc := 1290) G hb (by decide +kernel : decode code 1290 = .ok (.ireturn, 1)) hr
set_option maxRecDepth 100000 in
set_option maxHeartbeats 8000000 in
theorem fL_law_s1267 {γ : gG} {cs ss c2 s2 : Nat} {ε : gE5} (N SL : Nat) (SX : Nat → Int32) (G : gOK γ) (hb : gcc γ = code) (ho : gow γ = RL) (hy : gly γ = gyL) (hR : grm γ = room_1) (he : genv γ = ε) (hr : grt γ = some .boolean) (hE : gEnv ε) (hEL : gEnvL ε) (hSc : gSc ε SL SX) (hc9 : cs + 1 ≤ c2 ∧ ss + 6 ≤ s2 ∧ c2 ≤ 601024 ∧ s2 ≤ 7293033) (K23 : gK) (h23 : gSm γ c2 s2 23 K23) : gSm γ cs ss 1267 (fL_law_k1267 N SL SX K23) := by
  unfold fL_law_k1267
  refine sm_aload_n (pc := 1267) G hb (by decide +kernel : decode code 1267 = .ok (.aload_n 1, 1)) rfl ?_
  refine sm_aload_n (pc := 1268) G hb (by decide +kernel : decode code 1268 = .ok (.aload_n 3, 1)) rfl ?_
  refine sm_mono (ca_sub gI_sub) (sm_callW (pc := 1269) G hb ho hy he hE.1 2 [0, 1, 2, 3, 4, 5, 6, 7, 8, 9, 10, 11, 12, 13, 14, 15, 16, 17, 18, 19, 20, 21, 22, 23, 24, 25, 26, 27, 28, 29, 30, 31, 32, 33, 34, 35, 36, 37, 38, 39, 40, 41, 42, 43, 44, 45, 46, 47, 48, 49, 50, 51, 52, 53, 54, 55, 56, 57, 58, 59, 60, 61, 62, 63, 64, 65, 66, 67, 68, 69, 70, 71, 72, 73, 74, 75, 76, 77, 78, 79, 80, 81, 82, 83, 84, 85, 86, 87, 88, 89, 90, 91, 92, 93, 94, 95, 96, 97, 98, 99, 100, 101, 102, 103, 104, 105, 106, 107, 108, 109, 110, 111, 112, 113, 114, 115, 116, 117, 118, 119, 120, 121, 122, 123, 124, 125, 126, 127, 128, 129, 130, 131, 132, 133, 134, 135, 136, 137, 138, 139, 140, 141, 142, 143, 144, 145, 146, 147, 148, 149, 150, 151, 152, 153, 154, 155, 156, 157, 158, 159, 160, 161, 162, 163, 164, 165, 166, 167, 168, 169, 170, 171, 172, 173, 174, 175, 176, 177, 178, 179, 180, 181, 182, 183, 184, 185, 186, 187, 188, 189, 190, 191, 192, 193, 194, 195, 196, 197, 198, 199, 200, 201, 202, 203, 222] (kL_restore hEL N) (gCo_of (by decide +kernel)) (by rw [hR]; exact ⟨by decide, by decide⟩) (by rw [hR]; exact ⟨by show _ ≤ 601024; omega, by show _ ≤ 7293033; omega⟩) (by decide +kernel) gw4_225 gw4_226 gw1_0 gw4_227 (by decide +kernel : decode code 1269 = .ok (.invokestatic 215, 3)) ?_)
  refine sm_istore (pc := 1272) G hb (by decide +kernel : decode code 1272 = .ok (.istore 5, 2)) ?_
  refine sm_aload_n (pc := 1274) G hb (by decide +kernel : decode code 1274 = .ok (.aload_n 2, 1)) rfl ?_
  refine sm_mono (cav_sub gI_sub) (sm_callV (pc := 1275) (N := 32) (T := TX9) (C := RX9) G hb ho hy he hE.1 1 [204, 205, 206, 207, 208, 209, 210, 211, 212, 213, 214, 215, 216, 217, 218, 219, 220, 221] (kX9_restore hE N) (gCo_of (by decide +kernel)) (by rw [hR]; exact ⟨by decide, by decide⟩) rfl rfl (by decide +kernel) gw6_228 gw6_229 gw6_230 gw1_11 gw6_231 (by decide +kernel : decode code 1275 = .ok (.invokevirtual 217, 3)) ?_)
  refine sm_istore (pc := 1278) G hb (by decide +kernel : decode code 1278 = .ok (.istore 6, 2)) ?_
  refine sm_aload_n (pc := 1280) G hb (by decide +kernel : decode code 1280 = .ok (.aload_n 2, 1)) rfl ?_
  refine sm_mono (cav_sub gI_sub) (sm_callV (pc := 1281) (N := 32) (T := TX9) (C := RX9) G hb ho hy he hE.1 1 [204, 205, 206, 207, 208, 209, 210, 211, 212, 213, 214, 215, 216, 217, 218, 219, 220, 221] (kX9_thrown hE N) (gCo_of (by decide +kernel)) (by rw [hR]; exact ⟨by decide, by decide⟩) rfl rfl (by decide +kernel) gw6_94 gw6_95 gw6_96 gw1_11 gw6_97 (by decide +kernel : decode code 1281 = .ok (.invokevirtual 151, 3)) ?_)
  refine sm_mask ?_
  exact fL_law_s1284 N SL SX G hb ho hy hR he hr hE hEL hSc (by omega) K23 h23
set_option maxRecDepth 100000 in
set_option maxHeartbeats 8000000 in
theorem fL_law_s1364 {γ : gG} {cs ss c2 s2 : Nat} {ε : gE5} (N SL : Nat) (SX : Nat → Int32) (G : gOK γ) (hb : gcc γ = code) (ho : gow γ = RL) (hy : gly γ = gyL) (hR : grm γ = room_1) (he : genv γ = ε) (hr : grt γ = some .boolean) (hE : gEnv ε) (hEL : gEnvL ε) (hSc : gSc ε SL SX) (hc9 : cs + 0 ≤ c2 ∧ ss + 0 ≤ s2 ∧ c2 ≤ 601024 ∧ s2 ≤ 7293033) (K23 : gK) (h23 : gSm γ c2 s2 23 K23) : gSm γ cs ss 1364 (fL_law_k1364 N SL SX K23) := by
  unfold fL_law_k1364
  refine sm_goto (pc := 1364) (tgt := 2794) G hb (by decide +kernel : decode code 1364 = .ok (.goto 1430, 3)) (by decide) ?_
  refine sm_mask ?_
  exact fL_law_s2794 N SL SX G hb ho hy hR he hr hE hEL hSc (by omega) K23 h23
set_option maxRecDepth 100000 in
set_option maxHeartbeats 8000000 in
theorem fL_law_s1340 {γ : gG} {cs ss c2 s2 : Nat} {ε : gE5} (N SL : Nat) (SX : Nat → Int32) (G : gOK γ) (hb : gcc γ = code) (ho : gow γ = RL) (hy : gly γ = gyL) (hR : grm γ = room_1) (he : genv γ = ε) (hr : grt γ = some .boolean) (hE : gEnv ε) (hEL : gEnvL ε) (hSc : gSc ε SL SX) (hc9 : cs + 0 ≤ c2 ∧ ss + 0 ≤ s2 ∧ c2 ≤ 601024 ∧ s2 ≤ 7293033) (K23 : gK) (h23 : gSm γ c2 s2 23 K23) : gSm γ cs ss 1340 (fL_law_k1340 N SL SX K23) := by
  unfold fL_law_k1340
  refine sm_iload (pc := 1340) G hb (by decide +kernel : decode code 1340 = .ok (.iload 5, 2)) ?_
  refine sm_icmp_eq (pc := 1342) (tgt := 1347) G hb (by decide +kernel : decode code 1342 = .ok (.if_icmp .eq 5, 3)) (by decide) ?_ ?_
  · skip
    refine sm_iload (pc := 1347) G hb (by decide +kernel : decode code 1347 = .ok (.iload 5, 2)) ?_
    refine sm_if_ne (pc := 1349) (tgt := 1364) G hb (by decide +kernel : decode code 1349 = .ok (.ifCond .ne 15, 3)) (by decide) ?_ ?_
    · skip
      refine sm_mask ?_
      exact fL_law_s1364 N SL SX G hb ho hy hR he hr hE hEL hSc (by omega) K23 h23
    · skip
      refine sm_aload_n (pc := 1352) G hb (by decide +kernel : decode code 1352 = .ok (.aload_n 3, 1)) rfl ?_
      refine sm_iconst (pc := 1353) G hb (by decide +kernel : decode code 1353 = .ok (.iconst 0, 1)) (by decide) ?_
      refine sm_lald (pc := 1354) G hb hy (by decide +kernel : decode code 1354 = .ok (.laload, 1)) ?_
      refine sm_iload (pc := 1355) G hb (by decide +kernel : decode code 1355 = .ok (.iload 6, 2)) ?_
      refine sm_i2l (pc := 1357) G hb (by decide +kernel : decode code 1357 = .ok (.i2l, 1)) ?_
      refine sm_lcmp (pc := 1358) G hb (by decide +kernel : decode code 1358 = .ok (.lcmp, 1)) ?_
      refine sm_if_eq (pc := 1359) (tgt := 1364) G hb (by decide +kernel : decode code 1359 = .ok (.ifCond .eq 5, 3)) (by decide) ?_ ?_
      · skip
        refine sm_mask ?_
        exact fL_law_s1364 N SL SX G hb ho hy hR he hr hE hEL hSc (by omega) K23 h23
      · skip
        refine sm_iconst (pc := 1362) G hb (by decide +kernel : decode code 1362 = .ok (.iconst 0, 1)) (by decide) ?_
        exact sm_zret (pc := 1363) G hb (by decide +kernel : decode code 1363 = .ok (.ireturn, 1)) hr
  · skip
    refine sm_iconst (pc := 1345) G hb (by decide +kernel : decode code 1345 = .ok (.iconst 0, 1)) (by decide) ?_
    exact sm_zret (pc := 1346) G hb (by decide +kernel : decode code 1346 = .ok (.ireturn, 1)) hr
set_option maxRecDepth 100000 in
set_option maxHeartbeats 8000000 in
theorem fL_law_s1311 {γ : gG} {cs ss c2 s2 : Nat} {ε : gE5} (N SL : Nat) (SX : Nat → Int32) (G : gOK γ) (hb : gcc γ = code) (ho : gow γ = RL) (hy : gly γ = gyL) (hR : grm γ = room_1) (he : genv γ = ε) (hr : grt γ = some .boolean) (hE : gEnv ε) (hEL : gEnvL ε) (hSc : gSc ε SL SX) (hc9 : cs + 1 ≤ c2 ∧ ss + 6 ≤ s2 ∧ c2 ≤ 601024 ∧ s2 ≤ 7293033) (K23 : gK) (h23 : gSm γ c2 s2 23 K23) : gSm γ cs ss 1311 (fL_law_k1311 N SL SX K23) := by
  unfold fL_law_k1311
  refine sm_aload_n (pc := 1311) G hb (by decide +kernel : decode code 1311 = .ok (.aload_n 1, 1)) rfl ?_
  refine sm_aload_n (pc := 1312) G hb (by decide +kernel : decode code 1312 = .ok (.aload_n 0, 1)) rfl ?_
  refine sm_iload (pc := 1313) G hb (by decide +kernel : decode code 1313 = .ok (.iload 4, 2)) ?_
  refine sm_iconst (pc := 1315) G hb (by decide +kernel : decode code 1315 = .ok (.iconst 1, 1)) (by decide) ?_
  refine sm_iadd (pc := 1316) G hb (by decide +kernel : decode code 1316 = .ok (.iadd, 1)) ?_
  refine sm_sld (pc := 1317) G hb ho he hE hSc (by decide +kernel : decode code 1317 = .ok (.iaload, 1)) ?_
  refine sm_aload_n (pc := 1318) G hb (by decide +kernel : decode code 1318 = .ok (.aload_n 3, 1)) rfl ?_
  refine sm_mono (ca_sub gI_sub) (sm_callW (pc := 1319) G hb ho hy he hE.1 3 [0, 1, 2, 3, 4, 5, 6, 7, 8, 9, 10, 11, 12, 13, 14, 15, 16, 17, 18, 19, 20, 21, 22, 23, 24, 25, 26, 27, 28, 29, 30, 31, 32, 33, 34, 35, 36, 37, 38, 39, 40, 41, 42, 43, 44, 45, 46, 47, 48, 49, 50, 51, 52, 53, 54, 55, 56, 57, 58, 59, 60, 61, 62, 63, 64, 65, 66, 67, 68, 69, 70, 71, 72, 73, 74, 75, 76, 77, 78, 79, 80, 81, 82, 83, 84, 85, 86, 87, 88, 89, 90, 91, 92, 93, 94, 95, 96, 97, 98, 99, 100, 101, 102, 103, 104, 105, 106, 107, 108, 109, 110, 111, 112, 113, 114, 115, 116, 117, 118, 119, 120, 121, 122, 123, 124, 125, 126, 127, 128, 129, 130, 131, 132, 133, 134, 135, 136, 137, 138, 139, 140, 141, 142, 143, 144, 145, 146, 147, 148, 149, 150, 151, 152, 153, 154, 155, 156, 157, 158, 159, 160, 161, 162, 163, 164, 165, 166, 167, 168, 169, 170, 171, 172, 173, 174, 175, 176, 177, 178, 179, 180, 181, 182, 183, 184, 185, 186, 187, 188, 189, 190, 191, 192, 193, 194, 195, 196, 197, 198, 199, 200, 201, 202, 203, 222] (kL_count hEL N) (gCo_of (by decide +kernel)) (by rw [hR]; exact ⟨by decide, by decide⟩) (by rw [hR]; exact ⟨by show _ ≤ 601024; omega, by show _ ≤ 7293033; omega⟩) (by decide +kernel) gw4_233 gw4_234 gw1_0 gw4_235 (by decide +kernel : decode code 1319 = .ok (.invokestatic 218, 3)) ?_)
  refine sm_istore (pc := 1322) G hb (by decide +kernel : decode code 1322 = .ok (.istore 5, 2)) ?_
  refine sm_aload_n (pc := 1324) G hb (by decide +kernel : decode code 1324 = .ok (.aload_n 2, 1)) rfl ?_
  refine sm_aload_n (pc := 1325) G hb (by decide +kernel : decode code 1325 = .ok (.aload_n 0, 1)) rfl ?_
  refine sm_iload (pc := 1326) G hb (by decide +kernel : decode code 1326 = .ok (.iload 4, 2)) ?_
  refine sm_iconst (pc := 1328) G hb (by decide +kernel : decode code 1328 = .ok (.iconst 1, 1)) (by decide) ?_
  refine sm_iadd (pc := 1329) G hb (by decide +kernel : decode code 1329 = .ok (.iadd, 1)) ?_
  refine sm_sld (pc := 1330) G hb ho he hE hSc (by decide +kernel : decode code 1330 = .ok (.iaload, 1)) ?_
  refine sm_mono (cav_sub gI_sub) (sm_callV (pc := 1331) (N := 32) (T := TX9) (C := RX9) G hb ho hy he hE.1 2 [204, 205, 206, 207, 208, 209, 210, 211, 212, 213, 214, 215, 216, 217, 218, 219, 220, 221] (kX9_count_ hE N) (gCo_of (by decide +kernel)) (by rw [hR]; exact ⟨by decide, by decide⟩) rfl rfl (by decide +kernel) gw7_192 gw7_193 gw7_194 gw1_11 gw7_195 (by decide +kernel : decode code 1331 = .ok (.invokevirtual 220, 3)) ?_)
  refine sm_istore (pc := 1334) G hb (by decide +kernel : decode code 1334 = .ok (.istore 6, 2)) ?_
  refine sm_aload_n (pc := 1336) G hb (by decide +kernel : decode code 1336 = .ok (.aload_n 2, 1)) rfl ?_
  refine sm_mono (cav_sub gI_sub) (sm_callV (pc := 1337) (N := 32) (T := TX9) (C := RX9) G hb ho hy he hE.1 1 [204, 205, 206, 207, 208, 209, 210, 211, 212, 213, 214, 215, 216, 217, 218, 219, 220, 221] (kX9_thrown hE N) (gCo_of (by decide +kernel)) (by rw [hR]; exact ⟨by decide, by decide⟩) rfl rfl (by decide +kernel) gw6_94 gw6_95 gw6_96 gw1_11 gw6_97 (by decide +kernel : decode code 1337 = .ok (.invokevirtual 151, 3)) ?_)
  refine sm_mask ?_
  exact fL_law_s1340 N SL SX G hb ho hy hR he hr hE hEL hSc (by omega) K23 h23
set_option maxRecDepth 100000 in
set_option maxHeartbeats 8000000 in
theorem fL_law_s1432 {γ : gG} {cs ss c2 s2 : Nat} {ε : gE5} (N SL : Nat) (SX : Nat → Int32) (G : gOK γ) (hb : gcc γ = code) (ho : gow γ = RL) (hy : gly γ = gyL) (hR : grm γ = room_1) (he : genv γ = ε) (hr : grt γ = some .boolean) (hE : gEnv ε) (hEL : gEnvL ε) (hSc : gSc ε SL SX) (hc9 : cs + 0 ≤ c2 ∧ ss + 0 ≤ s2 ∧ c2 ≤ 601024 ∧ s2 ≤ 7293033) (K23 : gK) (h23 : gSm γ c2 s2 23 K23) : gSm γ cs ss 1432 (fL_law_k1432 N SL SX K23) := by
  unfold fL_law_k1432
  refine sm_goto (pc := 1432) (tgt := 2794) G hb (by decide +kernel : decode code 1432 = .ok (.goto 1362, 3)) (by decide) ?_
  refine sm_mask ?_
  exact fL_law_s2794 N SL SX G hb ho hy hR he hr hE hEL hSc (by omega) K23 h23
set_option maxRecDepth 100000 in
set_option maxHeartbeats 8000000 in
theorem fL_law_s1408 {γ : gG} {cs ss c2 s2 : Nat} {ε : gE5} (N SL : Nat) (SX : Nat → Int32) (G : gOK γ) (hb : gcc γ = code) (ho : gow γ = RL) (hy : gly γ = gyL) (hR : grm γ = room_1) (he : genv γ = ε) (hr : grt γ = some .boolean) (hE : gEnv ε) (hEL : gEnvL ε) (hSc : gSc ε SL SX) (hc9 : cs + 0 ≤ c2 ∧ ss + 0 ≤ s2 ∧ c2 ≤ 601024 ∧ s2 ≤ 7293033) (K23 : gK) (h23 : gSm γ c2 s2 23 K23) : gSm γ cs ss 1408 (fL_law_k1408 N SL SX K23) := by
  unfold fL_law_k1408
  refine sm_iload (pc := 1408) G hb (by decide +kernel : decode code 1408 = .ok (.iload 5, 2)) ?_
  refine sm_icmp_eq (pc := 1410) (tgt := 1415) G hb (by decide +kernel : decode code 1410 = .ok (.if_icmp .eq 5, 3)) (by decide) ?_ ?_
  · skip
    refine sm_iload (pc := 1415) G hb (by decide +kernel : decode code 1415 = .ok (.iload 5, 2)) ?_
    refine sm_if_ne (pc := 1417) (tgt := 1432) G hb (by decide +kernel : decode code 1417 = .ok (.ifCond .ne 15, 3)) (by decide) ?_ ?_
    · skip
      refine sm_mask ?_
      exact fL_law_s1432 N SL SX G hb ho hy hR he hr hE hEL hSc (by omega) K23 h23
    · skip
      refine sm_aload_n (pc := 1420) G hb (by decide +kernel : decode code 1420 = .ok (.aload_n 3, 1)) rfl ?_
      refine sm_iconst (pc := 1421) G hb (by decide +kernel : decode code 1421 = .ok (.iconst 0, 1)) (by decide) ?_
      refine sm_lald (pc := 1422) G hb hy (by decide +kernel : decode code 1422 = .ok (.laload, 1)) ?_
      refine sm_iload (pc := 1423) G hb (by decide +kernel : decode code 1423 = .ok (.iload 6, 2)) ?_
      refine sm_i2l (pc := 1425) G hb (by decide +kernel : decode code 1425 = .ok (.i2l, 1)) ?_
      refine sm_lcmp (pc := 1426) G hb (by decide +kernel : decode code 1426 = .ok (.lcmp, 1)) ?_
      refine sm_if_eq (pc := 1427) (tgt := 1432) G hb (by decide +kernel : decode code 1427 = .ok (.ifCond .eq 5, 3)) (by decide) ?_ ?_
      · skip
        refine sm_mask ?_
        exact fL_law_s1432 N SL SX G hb ho hy hR he hr hE hEL hSc (by omega) K23 h23
      · skip
        refine sm_iconst (pc := 1430) G hb (by decide +kernel : decode code 1430 = .ok (.iconst 0, 1)) (by decide) ?_
        exact sm_zret (pc := 1431) G hb (by decide +kernel : decode code 1431 = .ok (.ireturn, 1)) hr
  · skip
    refine sm_iconst (pc := 1413) G hb (by decide +kernel : decode code 1413 = .ok (.iconst 0, 1)) (by decide) ?_
    exact sm_zret (pc := 1414) G hb (by decide +kernel : decode code 1414 = .ok (.ireturn, 1)) hr
set_option maxRecDepth 100000 in
set_option maxHeartbeats 8000000 in
theorem fL_law_s1367 {γ : gG} {cs ss c2 s2 : Nat} {ε : gE5} (N SL : Nat) (SX : Nat → Int32) (G : gOK γ) (hb : gcc γ = code) (ho : gow γ = RL) (hy : gly γ = gyL) (hR : grm γ = room_1) (he : genv γ = ε) (hr : grt γ = some .boolean) (hE : gEnv ε) (hEL : gEnvL ε) (hSc : gSc ε SL SX) (hc9 : cs + 2 ≤ c2 ∧ ss + 12 ≤ s2 ∧ c2 ≤ 601024 ∧ s2 ≤ 7293033) (K23 : gK) (h23 : gSm γ c2 s2 23 K23) : gSm γ cs ss 1367 (fL_law_k1367 N SL SX K23) := by
  unfold fL_law_k1367
  refine sm_aload_n (pc := 1367) G hb (by decide +kernel : decode code 1367 = .ok (.aload_n 1, 1)) rfl ?_
  refine sm_aload_n (pc := 1368) G hb (by decide +kernel : decode code 1368 = .ok (.aload_n 0, 1)) rfl ?_
  refine sm_iload (pc := 1369) G hb (by decide +kernel : decode code 1369 = .ok (.iload 4, 2)) ?_
  refine sm_iconst (pc := 1371) G hb (by decide +kernel : decode code 1371 = .ok (.iconst 1, 1)) (by decide) ?_
  refine sm_iadd (pc := 1372) G hb (by decide +kernel : decode code 1372 = .ok (.iadd, 1)) ?_
  refine sm_sld (pc := 1373) G hb ho he hE hSc (by decide +kernel : decode code 1373 = .ok (.iaload, 1)) ?_
  refine sm_aload_n (pc := 1374) G hb (by decide +kernel : decode code 1374 = .ok (.aload_n 0, 1)) rfl ?_
  refine sm_iload (pc := 1375) G hb (by decide +kernel : decode code 1375 = .ok (.iload 4, 2)) ?_
  refine sm_iconst (pc := 1377) G hb (by decide +kernel : decode code 1377 = .ok (.iconst 2, 1)) (by decide) ?_
  refine sm_iadd (pc := 1378) G hb (by decide +kernel : decode code 1378 = .ok (.iadd, 1)) ?_
  refine sm_sld (pc := 1379) G hb ho he hE hSc (by decide +kernel : decode code 1379 = .ok (.iaload, 1)) ?_
  refine sm_aload_n (pc := 1380) G hb (by decide +kernel : decode code 1380 = .ok (.aload_n 3, 1)) rfl ?_
  refine sm_mono (ca_sub gI_sub) (sm_callW (pc := 1381) G hb ho hy he hE.1 4 [0, 1, 2, 3, 4, 5, 6, 7, 8, 9, 10, 11, 12, 13, 14, 15, 16, 17, 18, 19, 20, 21, 22, 23, 24, 25, 26, 27, 28, 29, 30, 31, 32, 33, 34, 35, 36, 37, 38, 39, 40, 41, 42, 43, 44, 45, 46, 47, 48, 49, 50, 51, 52, 53, 54, 55, 56, 57, 58, 59, 60, 61, 62, 63, 64, 65, 66, 67, 68, 69, 70, 71, 72, 73, 74, 75, 76, 77, 78, 79, 80, 81, 82, 83, 84, 85, 86, 87, 88, 89, 90, 91, 92, 93, 94, 95, 96, 97, 98, 99, 100, 101, 102, 103, 104, 105, 106, 107, 108, 109, 110, 111, 112, 113, 114, 115, 116, 117, 118, 119, 120, 121, 122, 123, 124, 125, 126, 127, 128, 129, 130, 131, 132, 133, 134, 135, 136, 137, 138, 139, 140, 141, 142, 143, 144, 145, 146, 147, 148, 149, 150, 151, 152, 153, 154, 155, 156, 157, 158, 159, 160, 161, 162, 163, 164, 165, 166, 167, 168, 169, 170, 171, 172, 173, 174, 175, 176, 177, 178, 179, 180, 181, 182, 183, 184, 185, 186, 187, 188, 189, 190, 191, 192, 193, 194, 195, 196, 197, 198, 199, 200, 201, 202, 203, 222] (kL_link hEL N) (gCo_of (by decide +kernel)) (by rw [hR]; exact ⟨by decide, by decide⟩) (by rw [hR]; exact ⟨by show _ ≤ 601024; omega, by show _ ≤ 7293033; omega⟩) (by decide +kernel) gw5_0 gw5_1 gw1_0 gw5_2 (by decide +kernel : decode code 1381 = .ok (.invokestatic 221, 3)) ?_)
  refine sm_istore (pc := 1384) G hb (by decide +kernel : decode code 1384 = .ok (.istore 5, 2)) ?_
  refine sm_aload_n (pc := 1386) G hb (by decide +kernel : decode code 1386 = .ok (.aload_n 2, 1)) rfl ?_
  refine sm_aload_n (pc := 1387) G hb (by decide +kernel : decode code 1387 = .ok (.aload_n 0, 1)) rfl ?_
  refine sm_iload (pc := 1388) G hb (by decide +kernel : decode code 1388 = .ok (.iload 4, 2)) ?_
  refine sm_iconst (pc := 1390) G hb (by decide +kernel : decode code 1390 = .ok (.iconst 1, 1)) (by decide) ?_
  refine sm_iadd (pc := 1391) G hb (by decide +kernel : decode code 1391 = .ok (.iadd, 1)) ?_
  refine sm_sld (pc := 1392) G hb ho he hE hSc (by decide +kernel : decode code 1392 = .ok (.iaload, 1)) ?_
  refine sm_aload_n (pc := 1393) G hb (by decide +kernel : decode code 1393 = .ok (.aload_n 0, 1)) rfl ?_
  refine sm_iload (pc := 1394) G hb (by decide +kernel : decode code 1394 = .ok (.iload 4, 2)) ?_
  refine sm_iconst (pc := 1396) G hb (by decide +kernel : decode code 1396 = .ok (.iconst 2, 1)) (by decide) ?_
  refine sm_iadd (pc := 1397) G hb (by decide +kernel : decode code 1397 = .ok (.iadd, 1)) ?_
  refine sm_sld (pc := 1398) G hb ho he hE hSc (by decide +kernel : decode code 1398 = .ok (.iaload, 1)) ?_
  refine sm_mono (cav_sub gI_sub) (sm_callV (pc := 1399) (N := 32) (T := TX9) (C := RX9) G hb ho hy he hE.1 3 [204, 205, 206, 207, 208, 209, 210, 211, 212, 213, 214, 215, 216, 217, 218, 219, 220, 221] (kX9_link hE N) (gCo_of (by decide +kernel)) (by rw [hR]; exact ⟨by decide, by decide⟩) rfl rfl (by decide +kernel) gw7_197 gw7_198 gw7_199 gw1_11 gw7_200 (by decide +kernel : decode code 1399 = .ok (.invokevirtual 223, 3)) ?_)
  refine sm_istore (pc := 1402) G hb (by decide +kernel : decode code 1402 = .ok (.istore 6, 2)) ?_
  refine sm_aload_n (pc := 1404) G hb (by decide +kernel : decode code 1404 = .ok (.aload_n 2, 1)) rfl ?_
  refine sm_mono (cav_sub gI_sub) (sm_callV (pc := 1405) (N := 32) (T := TX9) (C := RX9) G hb ho hy he hE.1 1 [204, 205, 206, 207, 208, 209, 210, 211, 212, 213, 214, 215, 216, 217, 218, 219, 220, 221] (kX9_thrown hE N) (gCo_of (by decide +kernel)) (by rw [hR]; exact ⟨by decide, by decide⟩) rfl rfl (by decide +kernel) gw6_94 gw6_95 gw6_96 gw1_11 gw6_97 (by decide +kernel : decode code 1405 = .ok (.invokevirtual 151, 3)) ?_)
  refine sm_mask ?_
  exact fL_law_s1408 N SL SX G hb ho hy hR he hr hE hEL hSc (by omega) K23 h23
set_option maxRecDepth 100000 in
set_option maxHeartbeats 8000000 in
theorem fL_law_s1488 {γ : gG} {cs ss c2 s2 : Nat} {ε : gE5} (N SL : Nat) (SX : Nat → Int32) (G : gOK γ) (hb : gcc γ = code) (ho : gow γ = RL) (hy : gly γ = gyL) (hR : grm γ = room_1) (he : genv γ = ε) (hr : grt γ = some .boolean) (hE : gEnv ε) (hEL : gEnvL ε) (hSc : gSc ε SL SX) (hc9 : cs + 0 ≤ c2 ∧ ss + 0 ≤ s2 ∧ c2 ≤ 601024 ∧ s2 ≤ 7293033) (K23 : gK) (h23 : gSm γ c2 s2 23 K23) : gSm γ cs ss 1488 (fL_law_k1488 N SL SX K23) := by
  unfold fL_law_k1488
  refine sm_goto (pc := 1488) (tgt := 2794) G hb (by decide +kernel : decode code 1488 = .ok (.goto 1306, 3)) (by decide) ?_
  refine sm_mask ?_
  exact fL_law_s2794 N SL SX G hb ho hy hR he hr hE hEL hSc (by omega) K23 h23
set_option maxRecDepth 100000 in
set_option maxHeartbeats 8000000 in
theorem fL_law_s1464 {γ : gG} {cs ss c2 s2 : Nat} {ε : gE5} (N SL : Nat) (SX : Nat → Int32) (G : gOK γ) (hb : gcc γ = code) (ho : gow γ = RL) (hy : gly γ = gyL) (hR : grm γ = room_1) (he : genv γ = ε) (hr : grt γ = some .boolean) (hE : gEnv ε) (hEL : gEnvL ε) (hSc : gSc ε SL SX) (hc9 : cs + 0 ≤ c2 ∧ ss + 0 ≤ s2 ∧ c2 ≤ 601024 ∧ s2 ≤ 7293033) (K23 : gK) (h23 : gSm γ c2 s2 23 K23) : gSm γ cs ss 1464 (fL_law_k1464 N SL SX K23) := by
  unfold fL_law_k1464
  refine sm_iload (pc := 1464) G hb (by decide +kernel : decode code 1464 = .ok (.iload 5, 2)) ?_
  refine sm_icmp_eq (pc := 1466) (tgt := 1471) G hb (by decide +kernel : decode code 1466 = .ok (.if_icmp .eq 5, 3)) (by decide) ?_ ?_
  · skip
    refine sm_iload (pc := 1471) G hb (by decide +kernel : decode code 1471 = .ok (.iload 5, 2)) ?_
    refine sm_if_ne (pc := 1473) (tgt := 1488) G hb (by decide +kernel : decode code 1473 = .ok (.ifCond .ne 15, 3)) (by decide) ?_ ?_
    · skip
      refine sm_mask ?_
      exact fL_law_s1488 N SL SX G hb ho hy hR he hr hE hEL hSc (by omega) K23 h23
    · skip
      refine sm_aload_n (pc := 1476) G hb (by decide +kernel : decode code 1476 = .ok (.aload_n 3, 1)) rfl ?_
      refine sm_iconst (pc := 1477) G hb (by decide +kernel : decode code 1477 = .ok (.iconst 0, 1)) (by decide) ?_
      refine sm_lald (pc := 1478) G hb hy (by decide +kernel : decode code 1478 = .ok (.laload, 1)) ?_
      refine sm_iload (pc := 1479) G hb (by decide +kernel : decode code 1479 = .ok (.iload 6, 2)) ?_
      refine sm_i2l (pc := 1481) G hb (by decide +kernel : decode code 1481 = .ok (.i2l, 1)) ?_
      refine sm_lcmp (pc := 1482) G hb (by decide +kernel : decode code 1482 = .ok (.lcmp, 1)) ?_
      refine sm_if_eq (pc := 1483) (tgt := 1488) G hb (by decide +kernel : decode code 1483 = .ok (.ifCond .eq 5, 3)) (by decide) ?_ ?_
      · skip
        refine sm_mask ?_
        exact fL_law_s1488 N SL SX G hb ho hy hR he hr hE hEL hSc (by omega) K23 h23
      · skip
        refine sm_iconst (pc := 1486) G hb (by decide +kernel : decode code 1486 = .ok (.iconst 0, 1)) (by decide) ?_
        exact sm_zret (pc := 1487) G hb (by decide +kernel : decode code 1487 = .ok (.ireturn, 1)) hr
  · skip
    refine sm_iconst (pc := 1469) G hb (by decide +kernel : decode code 1469 = .ok (.iconst 0, 1)) (by decide) ?_
    exact sm_zret (pc := 1470) G hb (by decide +kernel : decode code 1470 = .ok (.ireturn, 1)) hr
set_option maxRecDepth 100000 in
set_option maxHeartbeats 8000000 in
theorem fL_law_s1435 {γ : gG} {cs ss c2 s2 : Nat} {ε : gE5} (N SL : Nat) (SX : Nat → Int32) (G : gOK γ) (hb : gcc γ = code) (ho : gow γ = RL) (hy : gly γ = gyL) (hR : grm γ = room_1) (he : genv γ = ε) (hr : grt γ = some .boolean) (hE : gEnv ε) (hEL : gEnvL ε) (hSc : gSc ε SL SX) (hc9 : cs + 1 ≤ c2 ∧ ss + 6 ≤ s2 ∧ c2 ≤ 601024 ∧ s2 ≤ 7293033) (K23 : gK) (h23 : gSm γ c2 s2 23 K23) : gSm γ cs ss 1435 (fL_law_k1435 N SL SX K23) := by
  unfold fL_law_k1435
  refine sm_aload_n (pc := 1435) G hb (by decide +kernel : decode code 1435 = .ok (.aload_n 1, 1)) rfl ?_
  refine sm_aload_n (pc := 1436) G hb (by decide +kernel : decode code 1436 = .ok (.aload_n 0, 1)) rfl ?_
  refine sm_iload (pc := 1437) G hb (by decide +kernel : decode code 1437 = .ok (.iload 4, 2)) ?_
  refine sm_iconst (pc := 1439) G hb (by decide +kernel : decode code 1439 = .ok (.iconst 1, 1)) (by decide) ?_
  refine sm_iadd (pc := 1440) G hb (by decide +kernel : decode code 1440 = .ok (.iadd, 1)) ?_
  refine sm_sld (pc := 1441) G hb ho he hE hSc (by decide +kernel : decode code 1441 = .ok (.iaload, 1)) ?_
  refine sm_aload_n (pc := 1442) G hb (by decide +kernel : decode code 1442 = .ok (.aload_n 3, 1)) rfl ?_
  refine sm_mono (ca_sub gI_sub) (sm_callW (pc := 1443) G hb ho hy he hE.1 3 [0, 1, 2, 3, 4, 5, 6, 7, 8, 9, 10, 11, 12, 13, 14, 15, 16, 17, 18, 19, 20, 21, 22, 23, 24, 25, 26, 27, 28, 29, 30, 31, 32, 33, 34, 35, 36, 37, 38, 39, 40, 41, 42, 43, 44, 45, 46, 47, 48, 49, 50, 51, 52, 53, 54, 55, 56, 57, 58, 59, 60, 61, 62, 63, 64, 65, 66, 67, 68, 69, 70, 71, 72, 73, 74, 75, 76, 77, 78, 79, 80, 81, 82, 83, 84, 85, 86, 87, 88, 89, 90, 91, 92, 93, 94, 95, 96, 97, 98, 99, 100, 101, 102, 103, 104, 105, 106, 107, 108, 109, 110, 111, 112, 113, 114, 115, 116, 117, 118, 119, 120, 121, 122, 123, 124, 125, 126, 127, 128, 129, 130, 131, 132, 133, 134, 135, 136, 137, 138, 139, 140, 141, 142, 143, 144, 145, 146, 147, 148, 149, 150, 151, 152, 153, 154, 155, 156, 157, 158, 159, 160, 161, 162, 163, 164, 165, 166, 167, 168, 169, 170, 171, 172, 173, 174, 175, 176, 177, 178, 179, 180, 181, 182, 183, 184, 185, 186, 187, 188, 189, 190, 191, 192, 193, 194, 195, 196, 197, 198, 199, 200, 201, 202, 203, 222] (kL_conflicts hEL N) (gCo_of (by decide +kernel)) (by rw [hR]; exact ⟨by decide, by decide⟩) (by rw [hR]; exact ⟨by show _ ≤ 601024; omega, by show _ ≤ 7293033; omega⟩) (by decide +kernel) gw5_17 gw5_18 gw1_0 gw5_19 (by decide +kernel : decode code 1443 = .ok (.invokestatic 224, 3)) ?_)
  refine sm_istore (pc := 1446) G hb (by decide +kernel : decode code 1446 = .ok (.istore 5, 2)) ?_
  refine sm_aload_n (pc := 1448) G hb (by decide +kernel : decode code 1448 = .ok (.aload_n 2, 1)) rfl ?_
  refine sm_aload_n (pc := 1449) G hb (by decide +kernel : decode code 1449 = .ok (.aload_n 0, 1)) rfl ?_
  refine sm_iload (pc := 1450) G hb (by decide +kernel : decode code 1450 = .ok (.iload 4, 2)) ?_
  refine sm_iconst (pc := 1452) G hb (by decide +kernel : decode code 1452 = .ok (.iconst 1, 1)) (by decide) ?_
  refine sm_iadd (pc := 1453) G hb (by decide +kernel : decode code 1453 = .ok (.iadd, 1)) ?_
  refine sm_sld (pc := 1454) G hb ho he hE hSc (by decide +kernel : decode code 1454 = .ok (.iaload, 1)) ?_
  refine sm_mono (cav_sub gI_sub) (sm_callV (pc := 1455) (N := 32) (T := TX9) (C := RX9) G hb ho hy he hE.1 2 [204, 205, 206, 207, 208, 209, 210, 211, 212, 213, 214, 215, 216, 217, 218, 219, 220, 221] (kX9_conflicts hE N) (gCo_of (by decide +kernel)) (by rw [hR]; exact ⟨by decide, by decide⟩) rfl rfl (by decide +kernel) gw7_206 gw7_207 gw7_208 gw1_11 gw7_209 (by decide +kernel : decode code 1455 = .ok (.invokevirtual 226, 3)) ?_)
  refine sm_istore (pc := 1458) G hb (by decide +kernel : decode code 1458 = .ok (.istore 6, 2)) ?_
  refine sm_aload_n (pc := 1460) G hb (by decide +kernel : decode code 1460 = .ok (.aload_n 2, 1)) rfl ?_
  refine sm_mono (cav_sub gI_sub) (sm_callV (pc := 1461) (N := 32) (T := TX9) (C := RX9) G hb ho hy he hE.1 1 [204, 205, 206, 207, 208, 209, 210, 211, 212, 213, 214, 215, 216, 217, 218, 219, 220, 221] (kX9_thrown hE N) (gCo_of (by decide +kernel)) (by rw [hR]; exact ⟨by decide, by decide⟩) rfl rfl (by decide +kernel) gw6_94 gw6_95 gw6_96 gw1_11 gw6_97 (by decide +kernel : decode code 1461 = .ok (.invokevirtual 151, 3)) ?_)
  refine sm_mask ?_
  exact fL_law_s1464 N SL SX G hb ho hy hR he hr hE hEL hSc (by omega) K23 h23
set_option maxRecDepth 100000 in
set_option maxHeartbeats 8000000 in
theorem fL_law_s1556 {γ : gG} {cs ss c2 s2 : Nat} {ε : gE5} (N SL : Nat) (SX : Nat → Int32) (G : gOK γ) (hb : gcc γ = code) (ho : gow γ = RL) (hy : gly γ = gyL) (hR : grm γ = room_1) (he : genv γ = ε) (hr : grt γ = some .boolean) (hE : gEnv ε) (hEL : gEnvL ε) (hSc : gSc ε SL SX) (hc9 : cs + 0 ≤ c2 ∧ ss + 0 ≤ s2 ∧ c2 ≤ 601024 ∧ s2 ≤ 7293033) (K23 : gK) (h23 : gSm γ c2 s2 23 K23) : gSm γ cs ss 1556 (fL_law_k1556 N SL SX K23) := by
  unfold fL_law_k1556
  refine sm_goto (pc := 1556) (tgt := 2794) G hb (by decide +kernel : decode code 1556 = .ok (.goto 1238, 3)) (by decide) ?_
  refine sm_mask ?_
  exact fL_law_s2794 N SL SX G hb ho hy hR he hr hE hEL hSc (by omega) K23 h23
set_option maxRecDepth 100000 in
set_option maxHeartbeats 8000000 in
theorem fL_law_s1532 {γ : gG} {cs ss c2 s2 : Nat} {ε : gE5} (N SL : Nat) (SX : Nat → Int32) (G : gOK γ) (hb : gcc γ = code) (ho : gow γ = RL) (hy : gly γ = gyL) (hR : grm γ = room_1) (he : genv γ = ε) (hr : grt γ = some .boolean) (hE : gEnv ε) (hEL : gEnvL ε) (hSc : gSc ε SL SX) (hc9 : cs + 0 ≤ c2 ∧ ss + 0 ≤ s2 ∧ c2 ≤ 601024 ∧ s2 ≤ 7293033) (K23 : gK) (h23 : gSm γ c2 s2 23 K23) : gSm γ cs ss 1532 (fL_law_k1532 N SL SX K23) := by
  unfold fL_law_k1532
  refine sm_iload (pc := 1532) G hb (by decide +kernel : decode code 1532 = .ok (.iload 5, 2)) ?_
  refine sm_icmp_eq (pc := 1534) (tgt := 1539) G hb (by decide +kernel : decode code 1534 = .ok (.if_icmp .eq 5, 3)) (by decide) ?_ ?_
  · skip
    refine sm_iload (pc := 1539) G hb (by decide +kernel : decode code 1539 = .ok (.iload 5, 2)) ?_
    refine sm_if_ne (pc := 1541) (tgt := 1556) G hb (by decide +kernel : decode code 1541 = .ok (.ifCond .ne 15, 3)) (by decide) ?_ ?_
    · skip
      refine sm_mask ?_
      exact fL_law_s1556 N SL SX G hb ho hy hR he hr hE hEL hSc (by omega) K23 h23
    · skip
      refine sm_aload_n (pc := 1544) G hb (by decide +kernel : decode code 1544 = .ok (.aload_n 3, 1)) rfl ?_
      refine sm_iconst (pc := 1545) G hb (by decide +kernel : decode code 1545 = .ok (.iconst 0, 1)) (by decide) ?_
      refine sm_lald (pc := 1546) G hb hy (by decide +kernel : decode code 1546 = .ok (.laload, 1)) ?_
      refine sm_iload (pc := 1547) G hb (by decide +kernel : decode code 1547 = .ok (.iload 6, 2)) ?_
      refine sm_i2l (pc := 1549) G hb (by decide +kernel : decode code 1549 = .ok (.i2l, 1)) ?_
      refine sm_lcmp (pc := 1550) G hb (by decide +kernel : decode code 1550 = .ok (.lcmp, 1)) ?_
      refine sm_if_eq (pc := 1551) (tgt := 1556) G hb (by decide +kernel : decode code 1551 = .ok (.ifCond .eq 5, 3)) (by decide) ?_ ?_
      · skip
        refine sm_mask ?_
        exact fL_law_s1556 N SL SX G hb ho hy hR he hr hE hEL hSc (by omega) K23 h23
      · skip
        refine sm_iconst (pc := 1554) G hb (by decide +kernel : decode code 1554 = .ok (.iconst 0, 1)) (by decide) ?_
        exact sm_zret (pc := 1555) G hb (by decide +kernel : decode code 1555 = .ok (.ireturn, 1)) hr
  · skip
    refine sm_iconst (pc := 1537) G hb (by decide +kernel : decode code 1537 = .ok (.iconst 0, 1)) (by decide) ?_
    exact sm_zret (pc := 1538) G hb (by decide +kernel : decode code 1538 = .ok (.ireturn, 1)) hr
set_option maxRecDepth 100000 in
set_option maxHeartbeats 8000000 in
theorem fL_law_s1491 {γ : gG} {cs ss c2 s2 : Nat} {ε : gE5} (N SL : Nat) (SX : Nat → Int32) (G : gOK γ) (hb : gcc γ = code) (ho : gow γ = RL) (hy : gly γ = gyL) (hR : grm γ = room_1) (he : genv γ = ε) (hr : grt γ = some .boolean) (hE : gEnv ε) (hEL : gEnvL ε) (hSc : gSc ε SL SX) (hc9 : cs + 2 ≤ c2 ∧ ss + 12 ≤ s2 ∧ c2 ≤ 601024 ∧ s2 ≤ 7293033) (K23 : gK) (h23 : gSm γ c2 s2 23 K23) : gSm γ cs ss 1491 (fL_law_k1491 N SL SX K23) := by
  unfold fL_law_k1491
  refine sm_aload_n (pc := 1491) G hb (by decide +kernel : decode code 1491 = .ok (.aload_n 1, 1)) rfl ?_
  refine sm_aload_n (pc := 1492) G hb (by decide +kernel : decode code 1492 = .ok (.aload_n 0, 1)) rfl ?_
  refine sm_iload (pc := 1493) G hb (by decide +kernel : decode code 1493 = .ok (.iload 4, 2)) ?_
  refine sm_iconst (pc := 1495) G hb (by decide +kernel : decode code 1495 = .ok (.iconst 1, 1)) (by decide) ?_
  refine sm_iadd (pc := 1496) G hb (by decide +kernel : decode code 1496 = .ok (.iadd, 1)) ?_
  refine sm_sld (pc := 1497) G hb ho he hE hSc (by decide +kernel : decode code 1497 = .ok (.iaload, 1)) ?_
  refine sm_aload_n (pc := 1498) G hb (by decide +kernel : decode code 1498 = .ok (.aload_n 0, 1)) rfl ?_
  refine sm_iload (pc := 1499) G hb (by decide +kernel : decode code 1499 = .ok (.iload 4, 2)) ?_
  refine sm_iconst (pc := 1501) G hb (by decide +kernel : decode code 1501 = .ok (.iconst 2, 1)) (by decide) ?_
  refine sm_iadd (pc := 1502) G hb (by decide +kernel : decode code 1502 = .ok (.iadd, 1)) ?_
  refine sm_sld (pc := 1503) G hb ho he hE hSc (by decide +kernel : decode code 1503 = .ok (.iaload, 1)) ?_
  refine sm_aload_n (pc := 1504) G hb (by decide +kernel : decode code 1504 = .ok (.aload_n 3, 1)) rfl ?_
  refine sm_mono (ca_sub gI_sub) (sm_callW (pc := 1505) G hb ho hy he hE.1 4 [0, 1, 2, 3, 4, 5, 6, 7, 8, 9, 10, 11, 12, 13, 14, 15, 16, 17, 18, 19, 20, 21, 22, 23, 24, 25, 26, 27, 28, 29, 30, 31, 32, 33, 34, 35, 36, 37, 38, 39, 40, 41, 42, 43, 44, 45, 46, 47, 48, 49, 50, 51, 52, 53, 54, 55, 56, 57, 58, 59, 60, 61, 62, 63, 64, 65, 66, 67, 68, 69, 70, 71, 72, 73, 74, 75, 76, 77, 78, 79, 80, 81, 82, 83, 84, 85, 86, 87, 88, 89, 90, 91, 92, 93, 94, 95, 96, 97, 98, 99, 100, 101, 102, 103, 104, 105, 106, 107, 108, 109, 110, 111, 112, 113, 114, 115, 116, 117, 118, 119, 120, 121, 122, 123, 124, 125, 126, 127, 128, 129, 130, 131, 132, 133, 134, 135, 136, 137, 138, 139, 140, 141, 142, 143, 144, 145, 146, 147, 148, 149, 150, 151, 152, 153, 154, 155, 156, 157, 158, 159, 160, 161, 162, 163, 164, 165, 166, 167, 168, 169, 170, 171, 172, 173, 174, 175, 176, 177, 178, 179, 180, 181, 182, 183, 184, 185, 186, 187, 188, 189, 190, 191, 192, 193, 194, 195, 196, 197, 198, 199, 200, 201, 202, 203, 222] (kL_flow hEL N) (gCo_of (by decide +kernel)) (by rw [hR]; exact ⟨by decide, by decide⟩) (by rw [hR]; exact ⟨by show _ ≤ 601024; omega, by show _ ≤ 7293033; omega⟩) (by decide +kernel) gw5_24 gw5_25 gw1_0 gw5_26 (by decide +kernel : decode code 1505 = .ok (.invokestatic 227, 3)) ?_)
  refine sm_istore (pc := 1508) G hb (by decide +kernel : decode code 1508 = .ok (.istore 5, 2)) ?_
  refine sm_aload_n (pc := 1510) G hb (by decide +kernel : decode code 1510 = .ok (.aload_n 2, 1)) rfl ?_
  refine sm_aload_n (pc := 1511) G hb (by decide +kernel : decode code 1511 = .ok (.aload_n 0, 1)) rfl ?_
  refine sm_iload (pc := 1512) G hb (by decide +kernel : decode code 1512 = .ok (.iload 4, 2)) ?_
  refine sm_iconst (pc := 1514) G hb (by decide +kernel : decode code 1514 = .ok (.iconst 1, 1)) (by decide) ?_
  refine sm_iadd (pc := 1515) G hb (by decide +kernel : decode code 1515 = .ok (.iadd, 1)) ?_
  refine sm_sld (pc := 1516) G hb ho he hE hSc (by decide +kernel : decode code 1516 = .ok (.iaload, 1)) ?_
  refine sm_aload_n (pc := 1517) G hb (by decide +kernel : decode code 1517 = .ok (.aload_n 0, 1)) rfl ?_
  refine sm_iload (pc := 1518) G hb (by decide +kernel : decode code 1518 = .ok (.iload 4, 2)) ?_
  refine sm_iconst (pc := 1520) G hb (by decide +kernel : decode code 1520 = .ok (.iconst 2, 1)) (by decide) ?_
  refine sm_iadd (pc := 1521) G hb (by decide +kernel : decode code 1521 = .ok (.iadd, 1)) ?_
  refine sm_sld (pc := 1522) G hb ho he hE hSc (by decide +kernel : decode code 1522 = .ok (.iaload, 1)) ?_
  refine sm_mono (cav_sub gI_sub) (sm_callV (pc := 1523) (N := 32) (T := TX9) (C := RX9) G hb ho hy he hE.1 3 [204, 205, 206, 207, 208, 209, 210, 211, 212, 213, 214, 215, 216, 217, 218, 219, 220, 221] (kX9_flow hE N) (gCo_of (by decide +kernel)) (by rw [hR]; exact ⟨by decide, by decide⟩) rfl rfl (by decide +kernel) gw7_210 gw7_211 gw7_212 gw1_11 gw7_213 (by decide +kernel : decode code 1523 = .ok (.invokevirtual 229, 3)) ?_)
  refine sm_istore (pc := 1526) G hb (by decide +kernel : decode code 1526 = .ok (.istore 6, 2)) ?_
  refine sm_aload_n (pc := 1528) G hb (by decide +kernel : decode code 1528 = .ok (.aload_n 2, 1)) rfl ?_
  refine sm_mono (cav_sub gI_sub) (sm_callV (pc := 1529) (N := 32) (T := TX9) (C := RX9) G hb ho hy he hE.1 1 [204, 205, 206, 207, 208, 209, 210, 211, 212, 213, 214, 215, 216, 217, 218, 219, 220, 221] (kX9_thrown hE N) (gCo_of (by decide +kernel)) (by rw [hR]; exact ⟨by decide, by decide⟩) rfl rfl (by decide +kernel) gw6_94 gw6_95 gw6_96 gw1_11 gw6_97 (by decide +kernel : decode code 1529 = .ok (.invokevirtual 151, 3)) ?_)
  refine sm_mask ?_
  exact fL_law_s1532 N SL SX G hb ho hy hR he hr hE hEL hSc (by omega) K23 h23
set_option maxRecDepth 100000 in
set_option maxHeartbeats 8000000 in
theorem fL_law_s1624 {γ : gG} {cs ss c2 s2 : Nat} {ε : gE5} (N SL : Nat) (SX : Nat → Int32) (G : gOK γ) (hb : gcc γ = code) (ho : gow γ = RL) (hy : gly γ = gyL) (hR : grm γ = room_1) (he : genv γ = ε) (hr : grt γ = some .boolean) (hE : gEnv ε) (hEL : gEnvL ε) (hSc : gSc ε SL SX) (hc9 : cs + 0 ≤ c2 ∧ ss + 0 ≤ s2 ∧ c2 ≤ 601024 ∧ s2 ≤ 7293033) (K23 : gK) (h23 : gSm γ c2 s2 23 K23) : gSm γ cs ss 1624 (fL_law_k1624 N SL SX K23) := by
  unfold fL_law_k1624
  refine sm_goto (pc := 1624) (tgt := 2794) G hb (by decide +kernel : decode code 1624 = .ok (.goto 1170, 3)) (by decide) ?_
  refine sm_mask ?_
  exact fL_law_s2794 N SL SX G hb ho hy hR he hr hE hEL hSc (by omega) K23 h23
set_option maxRecDepth 100000 in
set_option maxHeartbeats 8000000 in
theorem fL_law_s1600 {γ : gG} {cs ss c2 s2 : Nat} {ε : gE5} (N SL : Nat) (SX : Nat → Int32) (G : gOK γ) (hb : gcc γ = code) (ho : gow γ = RL) (hy : gly γ = gyL) (hR : grm γ = room_1) (he : genv γ = ε) (hr : grt γ = some .boolean) (hE : gEnv ε) (hEL : gEnvL ε) (hSc : gSc ε SL SX) (hc9 : cs + 0 ≤ c2 ∧ ss + 0 ≤ s2 ∧ c2 ≤ 601024 ∧ s2 ≤ 7293033) (K23 : gK) (h23 : gSm γ c2 s2 23 K23) : gSm γ cs ss 1600 (fL_law_k1600 N SL SX K23) := by
  unfold fL_law_k1600
  refine sm_iload (pc := 1600) G hb (by decide +kernel : decode code 1600 = .ok (.iload 5, 2)) ?_
  refine sm_icmp_eq (pc := 1602) (tgt := 1607) G hb (by decide +kernel : decode code 1602 = .ok (.if_icmp .eq 5, 3)) (by decide) ?_ ?_
  · skip
    refine sm_iload (pc := 1607) G hb (by decide +kernel : decode code 1607 = .ok (.iload 5, 2)) ?_
    refine sm_if_ne (pc := 1609) (tgt := 1624) G hb (by decide +kernel : decode code 1609 = .ok (.ifCond .ne 15, 3)) (by decide) ?_ ?_
    · skip
      refine sm_mask ?_
      exact fL_law_s1624 N SL SX G hb ho hy hR he hr hE hEL hSc (by omega) K23 h23
    · skip
      refine sm_aload_n (pc := 1612) G hb (by decide +kernel : decode code 1612 = .ok (.aload_n 3, 1)) rfl ?_
      refine sm_iconst (pc := 1613) G hb (by decide +kernel : decode code 1613 = .ok (.iconst 0, 1)) (by decide) ?_
      refine sm_lald (pc := 1614) G hb hy (by decide +kernel : decode code 1614 = .ok (.laload, 1)) ?_
      refine sm_iload (pc := 1615) G hb (by decide +kernel : decode code 1615 = .ok (.iload 6, 2)) ?_
      refine sm_i2l (pc := 1617) G hb (by decide +kernel : decode code 1617 = .ok (.i2l, 1)) ?_
      refine sm_lcmp (pc := 1618) G hb (by decide +kernel : decode code 1618 = .ok (.lcmp, 1)) ?_
      refine sm_if_eq (pc := 1619) (tgt := 1624) G hb (by decide +kernel : decode code 1619 = .ok (.ifCond .eq 5, 3)) (by decide) ?_ ?_
      · skip
        refine sm_mask ?_
        exact fL_law_s1624 N SL SX G hb ho hy hR he hr hE hEL hSc (by omega) K23 h23
      · skip
        refine sm_iconst (pc := 1622) G hb (by decide +kernel : decode code 1622 = .ok (.iconst 0, 1)) (by decide) ?_
        exact sm_zret (pc := 1623) G hb (by decide +kernel : decode code 1623 = .ok (.ireturn, 1)) hr
  · skip
    refine sm_iconst (pc := 1605) G hb (by decide +kernel : decode code 1605 = .ok (.iconst 0, 1)) (by decide) ?_
    exact sm_zret (pc := 1606) G hb (by decide +kernel : decode code 1606 = .ok (.ireturn, 1)) hr
set_option maxRecDepth 100000 in
set_option maxHeartbeats 8000000 in
theorem fL_law_s1559 {γ : gG} {cs ss c2 s2 : Nat} {ε : gE5} (N SL : Nat) (SX : Nat → Int32) (G : gOK γ) (hb : gcc γ = code) (ho : gow γ = RL) (hy : gly γ = gyL) (hR : grm γ = room_1) (he : genv γ = ε) (hr : grt γ = some .boolean) (hE : gEnv ε) (hEL : gEnvL ε) (hSc : gSc ε SL SX) (hc9 : cs + 2 ≤ c2 ∧ ss + 12 ≤ s2 ∧ c2 ≤ 601024 ∧ s2 ≤ 7293033) (K23 : gK) (h23 : gSm γ c2 s2 23 K23) : gSm γ cs ss 1559 (fL_law_k1559 N SL SX K23) := by
  unfold fL_law_k1559
  refine sm_aload_n (pc := 1559) G hb (by decide +kernel : decode code 1559 = .ok (.aload_n 1, 1)) rfl ?_
  refine sm_aload_n (pc := 1560) G hb (by decide +kernel : decode code 1560 = .ok (.aload_n 0, 1)) rfl ?_
  refine sm_iload (pc := 1561) G hb (by decide +kernel : decode code 1561 = .ok (.iload 4, 2)) ?_
  refine sm_iconst (pc := 1563) G hb (by decide +kernel : decode code 1563 = .ok (.iconst 1, 1)) (by decide) ?_
  refine sm_iadd (pc := 1564) G hb (by decide +kernel : decode code 1564 = .ok (.iadd, 1)) ?_
  refine sm_sld (pc := 1565) G hb ho he hE hSc (by decide +kernel : decode code 1565 = .ok (.iaload, 1)) ?_
  refine sm_aload_n (pc := 1566) G hb (by decide +kernel : decode code 1566 = .ok (.aload_n 0, 1)) rfl ?_
  refine sm_iload (pc := 1567) G hb (by decide +kernel : decode code 1567 = .ok (.iload 4, 2)) ?_
  refine sm_iconst (pc := 1569) G hb (by decide +kernel : decode code 1569 = .ok (.iconst 2, 1)) (by decide) ?_
  refine sm_iadd (pc := 1570) G hb (by decide +kernel : decode code 1570 = .ok (.iadd, 1)) ?_
  refine sm_sld (pc := 1571) G hb ho he hE hSc (by decide +kernel : decode code 1571 = .ok (.iaload, 1)) ?_
  refine sm_aload_n (pc := 1572) G hb (by decide +kernel : decode code 1572 = .ok (.aload_n 3, 1)) rfl ?_
  refine sm_mono (ca_sub gI_sub) (sm_callW (pc := 1573) G hb ho hy he hE.1 4 [0, 1, 2, 3, 4, 5, 6, 7, 8, 9, 10, 11, 12, 13, 14, 15, 16, 17, 18, 19, 20, 21, 22, 23, 24, 25, 26, 27, 28, 29, 30, 31, 32, 33, 34, 35, 36, 37, 38, 39, 40, 41, 42, 43, 44, 45, 46, 47, 48, 49, 50, 51, 52, 53, 54, 55, 56, 57, 58, 59, 60, 61, 62, 63, 64, 65, 66, 67, 68, 69, 70, 71, 72, 73, 74, 75, 76, 77, 78, 79, 80, 81, 82, 83, 84, 85, 86, 87, 88, 89, 90, 91, 92, 93, 94, 95, 96, 97, 98, 99, 100, 101, 102, 103, 104, 105, 106, 107, 108, 109, 110, 111, 112, 113, 114, 115, 116, 117, 118, 119, 120, 121, 122, 123, 124, 125, 126, 127, 128, 129, 130, 131, 132, 133, 134, 135, 136, 137, 138, 139, 140, 141, 142, 143, 144, 145, 146, 147, 148, 149, 150, 151, 152, 153, 154, 155, 156, 157, 158, 159, 160, 161, 162, 163, 164, 165, 166, 167, 168, 169, 170, 171, 172, 173, 174, 175, 176, 177, 178, 179, 180, 181, 182, 183, 184, 185, 186, 187, 188, 189, 190, 191, 192, 193, 194, 195, 196, 197, 198, 199, 200, 201, 202, 203, 222] (kL_hops hEL N) (gCo_of (by decide +kernel)) (by rw [hR]; exact ⟨by decide, by decide⟩) (by rw [hR]; exact ⟨by show _ ≤ 601024; omega, by show _ ≤ 7293033; omega⟩) (by decide +kernel) gw5_31 gw5_32 gw1_0 gw5_33 (by decide +kernel : decode code 1573 = .ok (.invokestatic 230, 3)) ?_)
  refine sm_istore (pc := 1576) G hb (by decide +kernel : decode code 1576 = .ok (.istore 5, 2)) ?_
  refine sm_aload_n (pc := 1578) G hb (by decide +kernel : decode code 1578 = .ok (.aload_n 2, 1)) rfl ?_
  refine sm_aload_n (pc := 1579) G hb (by decide +kernel : decode code 1579 = .ok (.aload_n 0, 1)) rfl ?_
  refine sm_iload (pc := 1580) G hb (by decide +kernel : decode code 1580 = .ok (.iload 4, 2)) ?_
  refine sm_iconst (pc := 1582) G hb (by decide +kernel : decode code 1582 = .ok (.iconst 1, 1)) (by decide) ?_
  refine sm_iadd (pc := 1583) G hb (by decide +kernel : decode code 1583 = .ok (.iadd, 1)) ?_
  refine sm_sld (pc := 1584) G hb ho he hE hSc (by decide +kernel : decode code 1584 = .ok (.iaload, 1)) ?_
  refine sm_aload_n (pc := 1585) G hb (by decide +kernel : decode code 1585 = .ok (.aload_n 0, 1)) rfl ?_
  refine sm_iload (pc := 1586) G hb (by decide +kernel : decode code 1586 = .ok (.iload 4, 2)) ?_
  refine sm_iconst (pc := 1588) G hb (by decide +kernel : decode code 1588 = .ok (.iconst 2, 1)) (by decide) ?_
  refine sm_iadd (pc := 1589) G hb (by decide +kernel : decode code 1589 = .ok (.iadd, 1)) ?_
  refine sm_sld (pc := 1590) G hb ho he hE hSc (by decide +kernel : decode code 1590 = .ok (.iaload, 1)) ?_
  refine sm_mono (cav_sub gI_sub) (sm_callV (pc := 1591) (N := 32) (T := TX9) (C := RX9) G hb ho hy he hE.1 3 [204, 205, 206, 207, 208, 209, 210, 211, 212, 213, 214, 215, 216, 217, 218, 219, 220, 221] (kX9_hops hE N) (gCo_of (by decide +kernel)) (by rw [hR]; exact ⟨by decide, by decide⟩) rfl rfl (by decide +kernel) gw7_215 gw7_216 gw7_217 gw1_11 gw7_218 (by decide +kernel : decode code 1591 = .ok (.invokevirtual 232, 3)) ?_)
  refine sm_istore (pc := 1594) G hb (by decide +kernel : decode code 1594 = .ok (.istore 6, 2)) ?_
  refine sm_aload_n (pc := 1596) G hb (by decide +kernel : decode code 1596 = .ok (.aload_n 2, 1)) rfl ?_
  refine sm_mono (cav_sub gI_sub) (sm_callV (pc := 1597) (N := 32) (T := TX9) (C := RX9) G hb ho hy he hE.1 1 [204, 205, 206, 207, 208, 209, 210, 211, 212, 213, 214, 215, 216, 217, 218, 219, 220, 221] (kX9_thrown hE N) (gCo_of (by decide +kernel)) (by rw [hR]; exact ⟨by decide, by decide⟩) rfl rfl (by decide +kernel) gw6_94 gw6_95 gw6_96 gw1_11 gw6_97 (by decide +kernel : decode code 1597 = .ok (.invokevirtual 151, 3)) ?_)
  refine sm_mask ?_
  exact fL_law_s1600 N SL SX G hb ho hy hR he hr hE hEL hSc (by omega) K23 h23
set_option maxRecDepth 100000 in
set_option maxHeartbeats 8000000 in
theorem fL_law_s1692 {γ : gG} {cs ss c2 s2 : Nat} {ε : gE5} (N SL : Nat) (SX : Nat → Int32) (G : gOK γ) (hb : gcc γ = code) (ho : gow γ = RL) (hy : gly γ = gyL) (hR : grm γ = room_1) (he : genv γ = ε) (hr : grt γ = some .boolean) (hE : gEnv ε) (hEL : gEnvL ε) (hSc : gSc ε SL SX) (hc9 : cs + 0 ≤ c2 ∧ ss + 0 ≤ s2 ∧ c2 ≤ 601024 ∧ s2 ≤ 7293033) (K23 : gK) (h23 : gSm γ c2 s2 23 K23) : gSm γ cs ss 1692 (fL_law_k1692 N SL SX K23) := by
  unfold fL_law_k1692
  refine sm_goto (pc := 1692) (tgt := 2794) G hb (by decide +kernel : decode code 1692 = .ok (.goto 1102, 3)) (by decide) ?_
  refine sm_mask ?_
  exact fL_law_s2794 N SL SX G hb ho hy hR he hr hE hEL hSc (by omega) K23 h23
set_option maxRecDepth 100000 in
set_option maxHeartbeats 8000000 in
theorem fL_law_s1668 {γ : gG} {cs ss c2 s2 : Nat} {ε : gE5} (N SL : Nat) (SX : Nat → Int32) (G : gOK γ) (hb : gcc γ = code) (ho : gow γ = RL) (hy : gly γ = gyL) (hR : grm γ = room_1) (he : genv γ = ε) (hr : grt γ = some .boolean) (hE : gEnv ε) (hEL : gEnvL ε) (hSc : gSc ε SL SX) (hc9 : cs + 0 ≤ c2 ∧ ss + 0 ≤ s2 ∧ c2 ≤ 601024 ∧ s2 ≤ 7293033) (K23 : gK) (h23 : gSm γ c2 s2 23 K23) : gSm γ cs ss 1668 (fL_law_k1668 N SL SX K23) := by
  unfold fL_law_k1668
  refine sm_iload (pc := 1668) G hb (by decide +kernel : decode code 1668 = .ok (.iload 5, 2)) ?_
  refine sm_icmp_eq (pc := 1670) (tgt := 1675) G hb (by decide +kernel : decode code 1670 = .ok (.if_icmp .eq 5, 3)) (by decide) ?_ ?_
  · skip
    refine sm_iload (pc := 1675) G hb (by decide +kernel : decode code 1675 = .ok (.iload 5, 2)) ?_
    refine sm_if_ne (pc := 1677) (tgt := 1692) G hb (by decide +kernel : decode code 1677 = .ok (.ifCond .ne 15, 3)) (by decide) ?_ ?_
    · skip
      refine sm_mask ?_
      exact fL_law_s1692 N SL SX G hb ho hy hR he hr hE hEL hSc (by omega) K23 h23
    · skip
      refine sm_aload_n (pc := 1680) G hb (by decide +kernel : decode code 1680 = .ok (.aload_n 3, 1)) rfl ?_
      refine sm_iconst (pc := 1681) G hb (by decide +kernel : decode code 1681 = .ok (.iconst 0, 1)) (by decide) ?_
      refine sm_lald (pc := 1682) G hb hy (by decide +kernel : decode code 1682 = .ok (.laload, 1)) ?_
      refine sm_iload (pc := 1683) G hb (by decide +kernel : decode code 1683 = .ok (.iload 6, 2)) ?_
      refine sm_i2l (pc := 1685) G hb (by decide +kernel : decode code 1685 = .ok (.i2l, 1)) ?_
      refine sm_lcmp (pc := 1686) G hb (by decide +kernel : decode code 1686 = .ok (.lcmp, 1)) ?_
      refine sm_if_eq (pc := 1687) (tgt := 1692) G hb (by decide +kernel : decode code 1687 = .ok (.ifCond .eq 5, 3)) (by decide) ?_ ?_
      · skip
        refine sm_mask ?_
        exact fL_law_s1692 N SL SX G hb ho hy hR he hr hE hEL hSc (by omega) K23 h23
      · skip
        refine sm_iconst (pc := 1690) G hb (by decide +kernel : decode code 1690 = .ok (.iconst 0, 1)) (by decide) ?_
        exact sm_zret (pc := 1691) G hb (by decide +kernel : decode code 1691 = .ok (.ireturn, 1)) hr
  · skip
    refine sm_iconst (pc := 1673) G hb (by decide +kernel : decode code 1673 = .ok (.iconst 0, 1)) (by decide) ?_
    exact sm_zret (pc := 1674) G hb (by decide +kernel : decode code 1674 = .ok (.ireturn, 1)) hr
set_option maxRecDepth 100000 in
set_option maxHeartbeats 8000000 in
theorem fL_law_s1627 {γ : gG} {cs ss c2 s2 : Nat} {ε : gE5} (N SL : Nat) (SX : Nat → Int32) (G : gOK γ) (hb : gcc γ = code) (ho : gow γ = RL) (hy : gly γ = gyL) (hR : grm γ = room_1) (he : genv γ = ε) (hr : grt γ = some .boolean) (hE : gEnv ε) (hEL : gEnvL ε) (hSc : gSc ε SL SX) (hc9 : cs + 3 ≤ c2 ∧ ss + 18 ≤ s2 ∧ c2 ≤ 601024 ∧ s2 ≤ 7293033) (K23 : gK) (h23 : gSm γ c2 s2 23 K23) : gSm γ cs ss 1627 (fL_law_k1627 N SL SX K23) := by
  unfold fL_law_k1627
  refine sm_aload_n (pc := 1627) G hb (by decide +kernel : decode code 1627 = .ok (.aload_n 1, 1)) rfl ?_
  refine sm_aload_n (pc := 1628) G hb (by decide +kernel : decode code 1628 = .ok (.aload_n 0, 1)) rfl ?_
  refine sm_iload (pc := 1629) G hb (by decide +kernel : decode code 1629 = .ok (.iload 4, 2)) ?_
  refine sm_iconst (pc := 1631) G hb (by decide +kernel : decode code 1631 = .ok (.iconst 1, 1)) (by decide) ?_
  refine sm_iadd (pc := 1632) G hb (by decide +kernel : decode code 1632 = .ok (.iadd, 1)) ?_
  refine sm_sld (pc := 1633) G hb ho he hE hSc (by decide +kernel : decode code 1633 = .ok (.iaload, 1)) ?_
  refine sm_aload_n (pc := 1634) G hb (by decide +kernel : decode code 1634 = .ok (.aload_n 0, 1)) rfl ?_
  refine sm_iload (pc := 1635) G hb (by decide +kernel : decode code 1635 = .ok (.iload 4, 2)) ?_
  refine sm_iconst (pc := 1637) G hb (by decide +kernel : decode code 1637 = .ok (.iconst 2, 1)) (by decide) ?_
  refine sm_iadd (pc := 1638) G hb (by decide +kernel : decode code 1638 = .ok (.iadd, 1)) ?_
  refine sm_sld (pc := 1639) G hb ho he hE hSc (by decide +kernel : decode code 1639 = .ok (.iaload, 1)) ?_
  refine sm_aload_n (pc := 1640) G hb (by decide +kernel : decode code 1640 = .ok (.aload_n 3, 1)) rfl ?_
  refine sm_mono (ca_sub gI_sub) (sm_callW (pc := 1641) G hb ho hy he hE.1 4 [0, 1, 2, 3, 4, 5, 6, 7, 8, 9, 10, 11, 12, 13, 14, 15, 16, 17, 18, 19, 20, 21, 22, 23, 24, 25, 26, 27, 28, 29, 30, 31, 32, 33, 34, 35, 36, 37, 38, 39, 40, 41, 42, 43, 44, 45, 46, 47, 48, 49, 50, 51, 52, 53, 54, 55, 56, 57, 58, 59, 60, 61, 62, 63, 64, 65, 66, 67, 68, 69, 70, 71, 72, 73, 74, 75, 76, 77, 78, 79, 80, 81, 82, 83, 84, 85, 86, 87, 88, 89, 90, 91, 92, 93, 94, 95, 96, 97, 98, 99, 100, 101, 102, 103, 104, 105, 106, 107, 108, 109, 110, 111, 112, 113, 114, 115, 116, 117, 118, 119, 120, 121, 122, 123, 124, 125, 126, 127, 128, 129, 130, 131, 132, 133, 134, 135, 136, 137, 138, 139, 140, 141, 142, 143, 144, 145, 146, 147, 148, 149, 150, 151, 152, 153, 154, 155, 156, 157, 158, 159, 160, 161, 162, 163, 164, 165, 166, 167, 168, 169, 170, 171, 172, 173, 174, 175, 176, 177, 178, 179, 180, 181, 182, 183, 184, 185, 186, 187, 188, 189, 190, 191, 192, 193, 194, 195, 196, 197, 198, 199, 200, 201, 202, 203, 222] (kL_maxFlow hEL N) (gCo_of (by decide +kernel)) (by rw [hR]; exact ⟨by decide, by decide⟩) (by rw [hR]; exact ⟨by show _ ≤ 601024; omega, by show _ ≤ 7293033; omega⟩) (by decide +kernel) gw5_38 gw5_39 gw1_0 gw5_40 (by decide +kernel : decode code 1641 = .ok (.invokestatic 233, 3)) ?_)
  refine sm_istore (pc := 1644) G hb (by decide +kernel : decode code 1644 = .ok (.istore 5, 2)) ?_
  refine sm_aload_n (pc := 1646) G hb (by decide +kernel : decode code 1646 = .ok (.aload_n 2, 1)) rfl ?_
  refine sm_aload_n (pc := 1647) G hb (by decide +kernel : decode code 1647 = .ok (.aload_n 0, 1)) rfl ?_
  refine sm_iload (pc := 1648) G hb (by decide +kernel : decode code 1648 = .ok (.iload 4, 2)) ?_
  refine sm_iconst (pc := 1650) G hb (by decide +kernel : decode code 1650 = .ok (.iconst 1, 1)) (by decide) ?_
  refine sm_iadd (pc := 1651) G hb (by decide +kernel : decode code 1651 = .ok (.iadd, 1)) ?_
  refine sm_sld (pc := 1652) G hb ho he hE hSc (by decide +kernel : decode code 1652 = .ok (.iaload, 1)) ?_
  refine sm_aload_n (pc := 1653) G hb (by decide +kernel : decode code 1653 = .ok (.aload_n 0, 1)) rfl ?_
  refine sm_iload (pc := 1654) G hb (by decide +kernel : decode code 1654 = .ok (.iload 4, 2)) ?_
  refine sm_iconst (pc := 1656) G hb (by decide +kernel : decode code 1656 = .ok (.iconst 2, 1)) (by decide) ?_
  refine sm_iadd (pc := 1657) G hb (by decide +kernel : decode code 1657 = .ok (.iadd, 1)) ?_
  refine sm_sld (pc := 1658) G hb ho he hE hSc (by decide +kernel : decode code 1658 = .ok (.iaload, 1)) ?_
  refine sm_mono (cav_sub gI_sub) (sm_callV (pc := 1659) (N := 32) (T := TX9) (C := RX9) G hb ho hy he hE.1 3 [204, 205, 206, 207, 208, 209, 210, 211, 212, 213, 214, 215, 216, 217, 218, 219, 220, 221] (kX9_maxFlow hE N) (gCo_of (by decide +kernel)) (by rw [hR]; exact ⟨by decide, by decide⟩) rfl rfl (by decide +kernel) gw7_219 gw7_220 gw7_221 gw1_11 gw7_222 (by decide +kernel : decode code 1659 = .ok (.invokevirtual 235, 3)) ?_)
  refine sm_istore (pc := 1662) G hb (by decide +kernel : decode code 1662 = .ok (.istore 6, 2)) ?_
  refine sm_aload_n (pc := 1664) G hb (by decide +kernel : decode code 1664 = .ok (.aload_n 2, 1)) rfl ?_
  refine sm_mono (cav_sub gI_sub) (sm_callV (pc := 1665) (N := 32) (T := TX9) (C := RX9) G hb ho hy he hE.1 1 [204, 205, 206, 207, 208, 209, 210, 211, 212, 213, 214, 215, 216, 217, 218, 219, 220, 221] (kX9_thrown hE N) (gCo_of (by decide +kernel)) (by rw [hR]; exact ⟨by decide, by decide⟩) rfl rfl (by decide +kernel) gw6_94 gw6_95 gw6_96 gw1_11 gw6_97 (by decide +kernel : decode code 1665 = .ok (.invokevirtual 151, 3)) ?_)
  refine sm_mask ?_
  exact fL_law_s1668 N SL SX G hb ho hy hR he hr hE hEL hSc (by omega) K23 h23
set_option maxRecDepth 100000 in
set_option maxHeartbeats 8000000 in
theorem fL_law_s1760 {γ : gG} {cs ss c2 s2 : Nat} {ε : gE5} (N SL : Nat) (SX : Nat → Int32) (G : gOK γ) (hb : gcc γ = code) (ho : gow γ = RL) (hy : gly γ = gyL) (hR : grm γ = room_1) (he : genv γ = ε) (hr : grt γ = some .boolean) (hE : gEnv ε) (hEL : gEnvL ε) (hSc : gSc ε SL SX) (hc9 : cs + 0 ≤ c2 ∧ ss + 0 ≤ s2 ∧ c2 ≤ 601024 ∧ s2 ≤ 7293033) (K23 : gK) (h23 : gSm γ c2 s2 23 K23) : gSm γ cs ss 1760 (fL_law_k1760 N SL SX K23) := by
  unfold fL_law_k1760
  refine sm_goto (pc := 1760) (tgt := 2794) G hb (by decide +kernel : decode code 1760 = .ok (.goto 1034, 3)) (by decide) ?_
  refine sm_mask ?_
  exact fL_law_s2794 N SL SX G hb ho hy hR he hr hE hEL hSc (by omega) K23 h23
set_option maxRecDepth 100000 in
set_option maxHeartbeats 8000000 in
theorem fL_law_s1736 {γ : gG} {cs ss c2 s2 : Nat} {ε : gE5} (N SL : Nat) (SX : Nat → Int32) (G : gOK γ) (hb : gcc γ = code) (ho : gow γ = RL) (hy : gly γ = gyL) (hR : grm γ = room_1) (he : genv γ = ε) (hr : grt γ = some .boolean) (hE : gEnv ε) (hEL : gEnvL ε) (hSc : gSc ε SL SX) (hc9 : cs + 0 ≤ c2 ∧ ss + 0 ≤ s2 ∧ c2 ≤ 601024 ∧ s2 ≤ 7293033) (K23 : gK) (h23 : gSm γ c2 s2 23 K23) : gSm γ cs ss 1736 (fL_law_k1736 N SL SX K23) := by
  unfold fL_law_k1736
  refine sm_iload (pc := 1736) G hb (by decide +kernel : decode code 1736 = .ok (.iload 5, 2)) ?_
  refine sm_icmp_eq (pc := 1738) (tgt := 1743) G hb (by decide +kernel : decode code 1738 = .ok (.if_icmp .eq 5, 3)) (by decide) ?_ ?_
  · skip
    refine sm_iload (pc := 1743) G hb (by decide +kernel : decode code 1743 = .ok (.iload 5, 2)) ?_
    refine sm_if_ne (pc := 1745) (tgt := 1760) G hb (by decide +kernel : decode code 1745 = .ok (.ifCond .ne 15, 3)) (by decide) ?_ ?_
    · skip
      refine sm_mask ?_
      exact fL_law_s1760 N SL SX G hb ho hy hR he hr hE hEL hSc (by omega) K23 h23
    · skip
      refine sm_aload_n (pc := 1748) G hb (by decide +kernel : decode code 1748 = .ok (.aload_n 3, 1)) rfl ?_
      refine sm_iconst (pc := 1749) G hb (by decide +kernel : decode code 1749 = .ok (.iconst 0, 1)) (by decide) ?_
      refine sm_lald (pc := 1750) G hb hy (by decide +kernel : decode code 1750 = .ok (.laload, 1)) ?_
      refine sm_iload (pc := 1751) G hb (by decide +kernel : decode code 1751 = .ok (.iload 6, 2)) ?_
      refine sm_i2l (pc := 1753) G hb (by decide +kernel : decode code 1753 = .ok (.i2l, 1)) ?_
      refine sm_lcmp (pc := 1754) G hb (by decide +kernel : decode code 1754 = .ok (.lcmp, 1)) ?_
      refine sm_if_eq (pc := 1755) (tgt := 1760) G hb (by decide +kernel : decode code 1755 = .ok (.ifCond .eq 5, 3)) (by decide) ?_ ?_
      · skip
        refine sm_mask ?_
        exact fL_law_s1760 N SL SX G hb ho hy hR he hr hE hEL hSc (by omega) K23 h23
      · skip
        refine sm_iconst (pc := 1758) G hb (by decide +kernel : decode code 1758 = .ok (.iconst 0, 1)) (by decide) ?_
        exact sm_zret (pc := 1759) G hb (by decide +kernel : decode code 1759 = .ok (.ireturn, 1)) hr
  · skip
    refine sm_iconst (pc := 1741) G hb (by decide +kernel : decode code 1741 = .ok (.iconst 0, 1)) (by decide) ?_
    exact sm_zret (pc := 1742) G hb (by decide +kernel : decode code 1742 = .ok (.ireturn, 1)) hr
set_option maxRecDepth 100000 in
set_option maxHeartbeats 8000000 in
theorem fL_law_s1695 {γ : gG} {cs ss c2 s2 : Nat} {ε : gE5} (N SL : Nat) (SX : Nat → Int32) (G : gOK γ) (hb : gcc γ = code) (ho : gow γ = RL) (hy : gly γ = gyL) (hR : grm γ = room_1) (he : genv γ = ε) (hr : grt γ = some .boolean) (hE : gEnv ε) (hEL : gEnvL ε) (hSc : gSc ε SL SX) (hc9 : cs + 3 ≤ c2 ∧ ss + 18 ≤ s2 ∧ c2 ≤ 601024 ∧ s2 ≤ 7293033) (K23 : gK) (h23 : gSm γ c2 s2 23 K23) : gSm γ cs ss 1695 (fL_law_k1695 N SL SX K23) := by
  unfold fL_law_k1695
  refine sm_aload_n (pc := 1695) G hb (by decide +kernel : decode code 1695 = .ok (.aload_n 1, 1)) rfl ?_
  refine sm_aload_n (pc := 1696) G hb (by decide +kernel : decode code 1696 = .ok (.aload_n 0, 1)) rfl ?_
  refine sm_iload (pc := 1697) G hb (by decide +kernel : decode code 1697 = .ok (.iload 4, 2)) ?_
  refine sm_iconst (pc := 1699) G hb (by decide +kernel : decode code 1699 = .ok (.iconst 1, 1)) (by decide) ?_
  refine sm_iadd (pc := 1700) G hb (by decide +kernel : decode code 1700 = .ok (.iadd, 1)) ?_
  refine sm_sld (pc := 1701) G hb ho he hE hSc (by decide +kernel : decode code 1701 = .ok (.iaload, 1)) ?_
  refine sm_aload_n (pc := 1702) G hb (by decide +kernel : decode code 1702 = .ok (.aload_n 0, 1)) rfl ?_
  refine sm_iload (pc := 1703) G hb (by decide +kernel : decode code 1703 = .ok (.iload 4, 2)) ?_
  refine sm_iconst (pc := 1705) G hb (by decide +kernel : decode code 1705 = .ok (.iconst 2, 1)) (by decide) ?_
  refine sm_iadd (pc := 1706) G hb (by decide +kernel : decode code 1706 = .ok (.iadd, 1)) ?_
  refine sm_sld (pc := 1707) G hb ho he hE hSc (by decide +kernel : decode code 1707 = .ok (.iaload, 1)) ?_
  refine sm_aload_n (pc := 1708) G hb (by decide +kernel : decode code 1708 = .ok (.aload_n 3, 1)) rfl ?_
  refine sm_mono (ca_sub gI_sub) (sm_callW (pc := 1709) G hb ho hy he hE.1 4 [0, 1, 2, 3, 4, 5, 6, 7, 8, 9, 10, 11, 12, 13, 14, 15, 16, 17, 18, 19, 20, 21, 22, 23, 24, 25, 26, 27, 28, 29, 30, 31, 32, 33, 34, 35, 36, 37, 38, 39, 40, 41, 42, 43, 44, 45, 46, 47, 48, 49, 50, 51, 52, 53, 54, 55, 56, 57, 58, 59, 60, 61, 62, 63, 64, 65, 66, 67, 68, 69, 70, 71, 72, 73, 74, 75, 76, 77, 78, 79, 80, 81, 82, 83, 84, 85, 86, 87, 88, 89, 90, 91, 92, 93, 94, 95, 96, 97, 98, 99, 100, 101, 102, 103, 104, 105, 106, 107, 108, 109, 110, 111, 112, 113, 114, 115, 116, 117, 118, 119, 120, 121, 122, 123, 124, 125, 126, 127, 128, 129, 130, 131, 132, 133, 134, 135, 136, 137, 138, 139, 140, 141, 142, 143, 144, 145, 146, 147, 148, 149, 150, 151, 152, 153, 154, 155, 156, 157, 158, 159, 160, 161, 162, 163, 164, 165, 166, 167, 168, 169, 170, 171, 172, 173, 174, 175, 176, 177, 178, 179, 180, 181, 182, 183, 184, 185, 186, 187, 188, 189, 190, 191, 192, 193, 194, 195, 196, 197, 198, 199, 200, 201, 202, 203, 222] (kL_cutSide hEL N) (gCo_of (by decide +kernel)) (by rw [hR]; exact ⟨by decide, by decide⟩) (by rw [hR]; exact ⟨by show _ ≤ 601024; omega, by show _ ≤ 7293033; omega⟩) (by decide +kernel) gw5_45 gw5_46 gw1_0 gw5_47 (by decide +kernel : decode code 1709 = .ok (.invokestatic 236, 3)) ?_)
  refine sm_istore (pc := 1712) G hb (by decide +kernel : decode code 1712 = .ok (.istore 5, 2)) ?_
  refine sm_aload_n (pc := 1714) G hb (by decide +kernel : decode code 1714 = .ok (.aload_n 2, 1)) rfl ?_
  refine sm_aload_n (pc := 1715) G hb (by decide +kernel : decode code 1715 = .ok (.aload_n 0, 1)) rfl ?_
  refine sm_iload (pc := 1716) G hb (by decide +kernel : decode code 1716 = .ok (.iload 4, 2)) ?_
  refine sm_iconst (pc := 1718) G hb (by decide +kernel : decode code 1718 = .ok (.iconst 1, 1)) (by decide) ?_
  refine sm_iadd (pc := 1719) G hb (by decide +kernel : decode code 1719 = .ok (.iadd, 1)) ?_
  refine sm_sld (pc := 1720) G hb ho he hE hSc (by decide +kernel : decode code 1720 = .ok (.iaload, 1)) ?_
  refine sm_aload_n (pc := 1721) G hb (by decide +kernel : decode code 1721 = .ok (.aload_n 0, 1)) rfl ?_
  refine sm_iload (pc := 1722) G hb (by decide +kernel : decode code 1722 = .ok (.iload 4, 2)) ?_
  refine sm_iconst (pc := 1724) G hb (by decide +kernel : decode code 1724 = .ok (.iconst 2, 1)) (by decide) ?_
  refine sm_iadd (pc := 1725) G hb (by decide +kernel : decode code 1725 = .ok (.iadd, 1)) ?_
  refine sm_sld (pc := 1726) G hb ho he hE hSc (by decide +kernel : decode code 1726 = .ok (.iaload, 1)) ?_
  refine sm_mono (cav_sub gI_sub) (sm_callV (pc := 1727) (N := 32) (T := TX9) (C := RX9) G hb ho hy he hE.1 3 [204, 205, 206, 207, 208, 209, 210, 211, 212, 213, 214, 215, 216, 217, 218, 219, 220, 221] (kX9_cutSide hE N) (gCo_of (by decide +kernel)) (by rw [hR]; exact ⟨by decide, by decide⟩) rfl rfl (by decide +kernel) gw7_231 gw7_232 gw7_233 gw1_11 gw7_234 (by decide +kernel : decode code 1727 = .ok (.invokevirtual 238, 3)) ?_)
  refine sm_istore (pc := 1730) G hb (by decide +kernel : decode code 1730 = .ok (.istore 6, 2)) ?_
  refine sm_aload_n (pc := 1732) G hb (by decide +kernel : decode code 1732 = .ok (.aload_n 2, 1)) rfl ?_
  refine sm_mono (cav_sub gI_sub) (sm_callV (pc := 1733) (N := 32) (T := TX9) (C := RX9) G hb ho hy he hE.1 1 [204, 205, 206, 207, 208, 209, 210, 211, 212, 213, 214, 215, 216, 217, 218, 219, 220, 221] (kX9_thrown hE N) (gCo_of (by decide +kernel)) (by rw [hR]; exact ⟨by decide, by decide⟩) rfl rfl (by decide +kernel) gw6_94 gw6_95 gw6_96 gw1_11 gw6_97 (by decide +kernel : decode code 1733 = .ok (.invokevirtual 151, 3)) ?_)
  refine sm_mask ?_
  exact fL_law_s1736 N SL SX G hb ho hy hR he hr hE hEL hSc (by omega) K23 h23
set_option maxRecDepth 100000 in
set_option maxHeartbeats 8000000 in
theorem fL_law_s1763 {γ : gG} {cs ss c2 s2 : Nat} {ε : gE5} (N SL : Nat) (SX : Nat → Int32) (G : gOK γ) (hb : gcc γ = code) (ho : gow γ = RL) (hy : gly γ = gyL) (hR : grm γ = room_1) (he : genv γ = ε) (hr : grt γ = some .boolean) (hE : gEnv ε) (hEL : gEnvL ε) (hSc : gSc ε SL SX) (hc9 : cs + 0 ≤ c2 ∧ ss + 0 ≤ s2 ∧ c2 ≤ 601024 ∧ s2 ≤ 7293033) (K23 : gK) (h23 : gSm γ c2 s2 23 K23) : gSm γ cs ss 1763 (fL_law_k1763 N SL SX K23) := by
  unfold fL_law_k1763
  refine sm_aload_n (pc := 1763) G hb (by decide +kernel : decode code 1763 = .ok (.aload_n 1, 1)) rfl ?_
  refine sm_mono (cav_sub gI_sub) (sm_callV (pc := 1764) (N := 8) (T := TX8) (C := RX8) G hb ho hy he hE.1 1 [0, 1, 2, 3, 4, 5, 6, 7, 8, 9, 10, 11, 12, 13, 14, 15, 16, 17, 18, 19, 20, 21, 22, 23, 24, 25, 26, 27, 28, 29, 30, 31, 32, 33, 34, 35, 36, 37, 38, 39, 40, 41, 42, 43, 44, 45, 46, 47, 48, 49, 50, 51, 52, 53, 54, 55, 56, 57, 58, 59, 60, 61, 62, 63, 64, 65, 66, 67, 68, 69, 70, 71, 72, 73, 74, 75, 76, 77, 78, 79, 80, 81, 82, 83, 84, 85, 86, 87, 88, 89, 90, 91, 92, 93, 94, 95, 96, 97, 98, 99, 100, 101, 102, 103, 104, 105, 106, 107, 108, 109, 110, 111, 112, 113, 114, 115, 116, 117, 118, 119, 120, 121, 122, 123, 124, 125, 126, 127, 128, 129, 130, 131, 132, 133, 134, 135, 136, 137, 138, 139, 140, 141, 142, 143, 144, 145, 146, 147, 148, 149, 150, 151, 152, 153, 154, 155, 156, 157, 158, 159, 160, 161, 162, 163, 164, 165, 166, 167, 168, 169, 170, 171, 172, 173, 174, 175, 176, 177, 178, 179, 180, 181, 182, 183, 184, 185, 186, 187, 188, 189, 190, 191, 192, 193, 194, 195, 196, 197, 198, 199, 200, 201, 202, 203] (kX8_overloaded hE N) (gCo_of (by decide +kernel)) (by rw [hR]; exact ⟨by decide, by decide⟩) rfl rfl (by decide +kernel) gw3_68 gw3_69 gw3_70 gw1_1 gw3_71 (by decide +kernel : decode code 1764 = .ok (.invokevirtual 239, 3)) ?_)
  refine sm_aload_n (pc := 1767) G hb (by decide +kernel : decode code 1767 = .ok (.aload_n 2, 1)) rfl ?_
  refine sm_mono (cav_sub gI_sub) (sm_callV (pc := 1768) (N := 32) (T := TX9) (C := RX9) G hb ho hy he hE.1 1 [204, 205, 206, 207, 208, 209, 210, 211, 212, 213, 214, 215, 216, 217, 218, 219, 220, 221] (kX9_overloaded hE N) (gCo_of (by decide +kernel)) (by rw [hR]; exact ⟨by decide, by decide⟩) rfl rfl (by decide +kernel) gw7_235 gw7_236 gw7_237 gw1_11 gw7_238 (by decide +kernel : decode code 1768 = .ok (.invokevirtual 242, 3)) ?_)
  refine sm_icmp_eq (pc := 1771) (tgt := 2794) G hb (by decide +kernel : decode code 1771 = .ok (.if_icmp .eq 1023, 3)) (by decide) ?_ ?_
  · skip
    refine sm_mask ?_
    exact fL_law_s2794 N SL SX G hb ho hy hR he hr hE hEL hSc (by omega) K23 h23
  · skip
    refine sm_iconst (pc := 1774) G hb (by decide +kernel : decode code 1774 = .ok (.iconst 0, 1)) (by decide) ?_
    exact sm_zret (pc := 1775) G hb (by decide +kernel : decode code 1775 = .ok (.ireturn, 1)) hr
set_option maxRecDepth 100000 in
set_option maxHeartbeats 8000000 in
theorem fL_law_s1841 {γ : gG} {cs ss c2 s2 : Nat} {ε : gE5} (N SL : Nat) (SX : Nat → Int32) (G : gOK γ) (hb : gcc γ = code) (ho : gow γ = RL) (hy : gly γ = gyL) (hR : grm γ = room_1) (he : genv γ = ε) (hr : grt γ = some .boolean) (hE : gEnv ε) (hEL : gEnvL ε) (hSc : gSc ε SL SX) (hc9 : cs + 0 ≤ c2 ∧ ss + 0 ≤ s2 ∧ c2 ≤ 601024 ∧ s2 ≤ 7293033) (K23 : gK) (h23 : gSm γ c2 s2 23 K23) : gSm γ cs ss 1841 (fL_law_k1841 N SL SX K23) := by
  unfold fL_law_k1841
  refine sm_goto (pc := 1841) (tgt := 2794) G hb (by decide +kernel : decode code 1841 = .ok (.goto 953, 3)) (by decide) ?_
  refine sm_mask ?_
  exact fL_law_s2794 N SL SX G hb ho hy hR he hr hE hEL hSc (by omega) K23 h23
set_option maxRecDepth 100000 in
set_option maxHeartbeats 8000000 in
theorem fL_law_s1817 {γ : gG} {cs ss c2 s2 : Nat} {ε : gE5} (N SL : Nat) (SX : Nat → Int32) (G : gOK γ) (hb : gcc γ = code) (ho : gow γ = RL) (hy : gly γ = gyL) (hR : grm γ = room_1) (he : genv γ = ε) (hr : grt γ = some .boolean) (hE : gEnv ε) (hEL : gEnvL ε) (hSc : gSc ε SL SX) (hc9 : cs + 0 ≤ c2 ∧ ss + 0 ≤ s2 ∧ c2 ≤ 601024 ∧ s2 ≤ 7293033) (K23 : gK) (h23 : gSm γ c2 s2 23 K23) : gSm γ cs ss 1817 (fL_law_k1817 N SL SX K23) := by
  unfold fL_law_k1817
  refine sm_iload (pc := 1817) G hb (by decide +kernel : decode code 1817 = .ok (.iload 5, 2)) ?_
  refine sm_icmp_eq (pc := 1819) (tgt := 1824) G hb (by decide +kernel : decode code 1819 = .ok (.if_icmp .eq 5, 3)) (by decide) ?_ ?_
  · skip
    refine sm_iload (pc := 1824) G hb (by decide +kernel : decode code 1824 = .ok (.iload 5, 2)) ?_
    refine sm_if_ne (pc := 1826) (tgt := 1841) G hb (by decide +kernel : decode code 1826 = .ok (.ifCond .ne 15, 3)) (by decide) ?_ ?_
    · skip
      refine sm_mask ?_
      exact fL_law_s1841 N SL SX G hb ho hy hR he hr hE hEL hSc (by omega) K23 h23
    · skip
      refine sm_aload_n (pc := 1829) G hb (by decide +kernel : decode code 1829 = .ok (.aload_n 3, 1)) rfl ?_
      refine sm_iconst (pc := 1830) G hb (by decide +kernel : decode code 1830 = .ok (.iconst 0, 1)) (by decide) ?_
      refine sm_lald (pc := 1831) G hb hy (by decide +kernel : decode code 1831 = .ok (.laload, 1)) ?_
      refine sm_iload (pc := 1832) G hb (by decide +kernel : decode code 1832 = .ok (.iload 6, 2)) ?_
      refine sm_i2l (pc := 1834) G hb (by decide +kernel : decode code 1834 = .ok (.i2l, 1)) ?_
      refine sm_lcmp (pc := 1835) G hb (by decide +kernel : decode code 1835 = .ok (.lcmp, 1)) ?_
      refine sm_if_eq (pc := 1836) (tgt := 1841) G hb (by decide +kernel : decode code 1836 = .ok (.ifCond .eq 5, 3)) (by decide) ?_ ?_
      · skip
        refine sm_mask ?_
        exact fL_law_s1841 N SL SX G hb ho hy hR he hr hE hEL hSc (by omega) K23 h23
      · skip
        refine sm_iconst (pc := 1839) G hb (by decide +kernel : decode code 1839 = .ok (.iconst 0, 1)) (by decide) ?_
        exact sm_zret (pc := 1840) G hb (by decide +kernel : decode code 1840 = .ok (.ireturn, 1)) hr
  · skip
    refine sm_iconst (pc := 1822) G hb (by decide +kernel : decode code 1822 = .ok (.iconst 0, 1)) (by decide) ?_
    exact sm_zret (pc := 1823) G hb (by decide +kernel : decode code 1823 = .ok (.ireturn, 1)) hr
set_option maxRecDepth 100000 in
set_option maxHeartbeats 8000000 in
theorem fL_law_s1776 {γ : gG} {cs ss c2 s2 : Nat} {ε : gE5} (N SL : Nat) (SX : Nat → Int32) (G : gOK γ) (hb : gcc γ = code) (ho : gow γ = RL) (hy : gly γ = gyL) (hR : grm γ = room_1) (he : genv γ = ε) (hr : grt γ = some .boolean) (hE : gEnv ε) (hEL : gEnvL ε) (hSc : gSc ε SL SX) (hc9 : cs + 3 ≤ c2 ∧ ss + 18 ≤ s2 ∧ c2 ≤ 601024 ∧ s2 ≤ 7293033) (K23 : gK) (h23 : gSm γ c2 s2 23 K23) : gSm γ cs ss 1776 (fL_law_k1776 N SL SX K23) := by
  unfold fL_law_k1776
  refine sm_aload_n (pc := 1776) G hb (by decide +kernel : decode code 1776 = .ok (.aload_n 1, 1)) rfl ?_
  refine sm_aload_n (pc := 1777) G hb (by decide +kernel : decode code 1777 = .ok (.aload_n 0, 1)) rfl ?_
  refine sm_iload (pc := 1778) G hb (by decide +kernel : decode code 1778 = .ok (.iload 4, 2)) ?_
  refine sm_iconst (pc := 1780) G hb (by decide +kernel : decode code 1780 = .ok (.iconst 1, 1)) (by decide) ?_
  refine sm_iadd (pc := 1781) G hb (by decide +kernel : decode code 1781 = .ok (.iadd, 1)) ?_
  refine sm_sld (pc := 1782) G hb ho he hE hSc (by decide +kernel : decode code 1782 = .ok (.iaload, 1)) ?_
  refine sm_aload_n (pc := 1783) G hb (by decide +kernel : decode code 1783 = .ok (.aload_n 0, 1)) rfl ?_
  refine sm_iload (pc := 1784) G hb (by decide +kernel : decode code 1784 = .ok (.iload 4, 2)) ?_
  refine sm_iconst (pc := 1786) G hb (by decide +kernel : decode code 1786 = .ok (.iconst 2, 1)) (by decide) ?_
  refine sm_iadd (pc := 1787) G hb (by decide +kernel : decode code 1787 = .ok (.iadd, 1)) ?_
  refine sm_sld (pc := 1788) G hb ho he hE hSc (by decide +kernel : decode code 1788 = .ok (.iaload, 1)) ?_
  refine sm_aload_n (pc := 1789) G hb (by decide +kernel : decode code 1789 = .ok (.aload_n 3, 1)) rfl ?_
  refine sm_mono (ca_sub gI_sub) (sm_callW (pc := 1790) G hb ho hy he hE.1 4 [0, 1, 2, 3, 4, 5, 6, 7, 8, 9, 10, 11, 12, 13, 14, 15, 16, 17, 18, 19, 20, 21, 22, 23, 24, 25, 26, 27, 28, 29, 30, 31, 32, 33, 34, 35, 36, 37, 38, 39, 40, 41, 42, 43, 44, 45, 46, 47, 48, 49, 50, 51, 52, 53, 54, 55, 56, 57, 58, 59, 60, 61, 62, 63, 64, 65, 66, 67, 68, 69, 70, 71, 72, 73, 74, 75, 76, 77, 78, 79, 80, 81, 82, 83, 84, 85, 86, 87, 88, 89, 90, 91, 92, 93, 94, 95, 96, 97, 98, 99, 100, 101, 102, 103, 104, 105, 106, 107, 108, 109, 110, 111, 112, 113, 114, 115, 116, 117, 118, 119, 120, 121, 122, 123, 124, 125, 126, 127, 128, 129, 130, 131, 132, 133, 134, 135, 136, 137, 138, 139, 140, 141, 142, 143, 144, 145, 146, 147, 148, 149, 150, 151, 152, 153, 154, 155, 156, 157, 158, 159, 160, 161, 162, 163, 164, 165, 166, 167, 168, 169, 170, 171, 172, 173, 174, 175, 176, 177, 178, 179, 180, 181, 182, 183, 184, 185, 186, 187, 188, 189, 190, 191, 192, 193, 194, 195, 196, 197, 198, 199, 200, 201, 202, 203, 222] (kL_queue hEL N) (gCo_of (by decide +kernel)) (by rw [hR]; exact ⟨by decide, by decide⟩) (by rw [hR]; exact ⟨by show _ ≤ 601024; omega, by show _ ≤ 7293033; omega⟩) (by decide +kernel) gw5_52 gw5_53 gw1_0 gw5_54 (by decide +kernel : decode code 1790 = .ok (.invokestatic 243, 3)) ?_)
  refine sm_istore (pc := 1793) G hb (by decide +kernel : decode code 1793 = .ok (.istore 5, 2)) ?_
  refine sm_aload_n (pc := 1795) G hb (by decide +kernel : decode code 1795 = .ok (.aload_n 2, 1)) rfl ?_
  refine sm_aload_n (pc := 1796) G hb (by decide +kernel : decode code 1796 = .ok (.aload_n 0, 1)) rfl ?_
  refine sm_iload (pc := 1797) G hb (by decide +kernel : decode code 1797 = .ok (.iload 4, 2)) ?_
  refine sm_iconst (pc := 1799) G hb (by decide +kernel : decode code 1799 = .ok (.iconst 1, 1)) (by decide) ?_
  refine sm_iadd (pc := 1800) G hb (by decide +kernel : decode code 1800 = .ok (.iadd, 1)) ?_
  refine sm_sld (pc := 1801) G hb ho he hE hSc (by decide +kernel : decode code 1801 = .ok (.iaload, 1)) ?_
  refine sm_aload_n (pc := 1802) G hb (by decide +kernel : decode code 1802 = .ok (.aload_n 0, 1)) rfl ?_
  refine sm_iload (pc := 1803) G hb (by decide +kernel : decode code 1803 = .ok (.iload 4, 2)) ?_
  refine sm_iconst (pc := 1805) G hb (by decide +kernel : decode code 1805 = .ok (.iconst 2, 1)) (by decide) ?_
  refine sm_iadd (pc := 1806) G hb (by decide +kernel : decode code 1806 = .ok (.iadd, 1)) ?_
  refine sm_sld (pc := 1807) G hb ho he hE hSc (by decide +kernel : decode code 1807 = .ok (.iaload, 1)) ?_
  refine sm_mono (cav_sub gI_sub) (sm_callV (pc := 1808) (N := 32) (T := TX9) (C := RX9) G hb ho hy he hE.1 3 [204, 205, 206, 207, 208, 209, 210, 211, 212, 213, 214, 215, 216, 217, 218, 219, 220, 221] (kX9_queue hE N) (gCo_of (by decide +kernel)) (by rw [hR]; exact ⟨by decide, by decide⟩) rfl rfl (by decide +kernel) gw7_239 gw8_0 gw8_1 gw1_11 gw8_2 (by decide +kernel : decode code 1808 = .ok (.invokevirtual 245, 3)) ?_)
  refine sm_istore (pc := 1811) G hb (by decide +kernel : decode code 1811 = .ok (.istore 6, 2)) ?_
  refine sm_aload_n (pc := 1813) G hb (by decide +kernel : decode code 1813 = .ok (.aload_n 2, 1)) rfl ?_
  refine sm_mono (cav_sub gI_sub) (sm_callV (pc := 1814) (N := 32) (T := TX9) (C := RX9) G hb ho hy he hE.1 1 [204, 205, 206, 207, 208, 209, 210, 211, 212, 213, 214, 215, 216, 217, 218, 219, 220, 221] (kX9_thrown hE N) (gCo_of (by decide +kernel)) (by rw [hR]; exact ⟨by decide, by decide⟩) rfl rfl (by decide +kernel) gw6_94 gw6_95 gw6_96 gw1_11 gw6_97 (by decide +kernel : decode code 1814 = .ok (.invokevirtual 151, 3)) ?_)
  refine sm_mask ?_
  exact fL_law_s1817 N SL SX G hb ho hy hR he hr hE hEL hSc (by omega) K23 h23
set_option maxRecDepth 100000 in
set_option maxHeartbeats 8000000 in
theorem fL_law_s1909 {γ : gG} {cs ss c2 s2 : Nat} {ε : gE5} (N SL : Nat) (SX : Nat → Int32) (G : gOK γ) (hb : gcc γ = code) (ho : gow γ = RL) (hy : gly γ = gyL) (hR : grm γ = room_1) (he : genv γ = ε) (hr : grt γ = some .boolean) (hE : gEnv ε) (hEL : gEnvL ε) (hSc : gSc ε SL SX) (hc9 : cs + 0 ≤ c2 ∧ ss + 0 ≤ s2 ∧ c2 ≤ 601024 ∧ s2 ≤ 7293033) (K23 : gK) (h23 : gSm γ c2 s2 23 K23) : gSm γ cs ss 1909 (fL_law_k1909 N SL SX K23) := by
  unfold fL_law_k1909
  refine sm_goto (pc := 1909) (tgt := 2794) G hb (by decide +kernel : decode code 1909 = .ok (.goto 885, 3)) (by decide) ?_
  refine sm_mask ?_
  exact fL_law_s2794 N SL SX G hb ho hy hR he hr hE hEL hSc (by omega) K23 h23
set_option maxRecDepth 100000 in
set_option maxHeartbeats 8000000 in
theorem fL_law_s1885 {γ : gG} {cs ss c2 s2 : Nat} {ε : gE5} (N SL : Nat) (SX : Nat → Int32) (G : gOK γ) (hb : gcc γ = code) (ho : gow γ = RL) (hy : gly γ = gyL) (hR : grm γ = room_1) (he : genv γ = ε) (hr : grt γ = some .boolean) (hE : gEnv ε) (hEL : gEnvL ε) (hSc : gSc ε SL SX) (hc9 : cs + 0 ≤ c2 ∧ ss + 0 ≤ s2 ∧ c2 ≤ 601024 ∧ s2 ≤ 7293033) (K23 : gK) (h23 : gSm γ c2 s2 23 K23) : gSm γ cs ss 1885 (fL_law_k1885 N SL SX K23) := by
  unfold fL_law_k1885
  refine sm_iload (pc := 1885) G hb (by decide +kernel : decode code 1885 = .ok (.iload 5, 2)) ?_
  refine sm_icmp_eq (pc := 1887) (tgt := 1892) G hb (by decide +kernel : decode code 1887 = .ok (.if_icmp .eq 5, 3)) (by decide) ?_ ?_
  · skip
    refine sm_iload (pc := 1892) G hb (by decide +kernel : decode code 1892 = .ok (.iload 5, 2)) ?_
    refine sm_if_ne (pc := 1894) (tgt := 1909) G hb (by decide +kernel : decode code 1894 = .ok (.ifCond .ne 15, 3)) (by decide) ?_ ?_
    · skip
      refine sm_mask ?_
      exact fL_law_s1909 N SL SX G hb ho hy hR he hr hE hEL hSc (by omega) K23 h23
    · skip
      refine sm_aload_n (pc := 1897) G hb (by decide +kernel : decode code 1897 = .ok (.aload_n 3, 1)) rfl ?_
      refine sm_iconst (pc := 1898) G hb (by decide +kernel : decode code 1898 = .ok (.iconst 0, 1)) (by decide) ?_
      refine sm_lald (pc := 1899) G hb hy (by decide +kernel : decode code 1899 = .ok (.laload, 1)) ?_
      refine sm_iload (pc := 1900) G hb (by decide +kernel : decode code 1900 = .ok (.iload 6, 2)) ?_
      refine sm_i2l (pc := 1902) G hb (by decide +kernel : decode code 1902 = .ok (.i2l, 1)) ?_
      refine sm_lcmp (pc := 1903) G hb (by decide +kernel : decode code 1903 = .ok (.lcmp, 1)) ?_
      refine sm_if_eq (pc := 1904) (tgt := 1909) G hb (by decide +kernel : decode code 1904 = .ok (.ifCond .eq 5, 3)) (by decide) ?_ ?_
      · skip
        refine sm_mask ?_
        exact fL_law_s1909 N SL SX G hb ho hy hR he hr hE hEL hSc (by omega) K23 h23
      · skip
        refine sm_iconst (pc := 1907) G hb (by decide +kernel : decode code 1907 = .ok (.iconst 0, 1)) (by decide) ?_
        exact sm_zret (pc := 1908) G hb (by decide +kernel : decode code 1908 = .ok (.ireturn, 1)) hr
  · skip
    refine sm_iconst (pc := 1890) G hb (by decide +kernel : decode code 1890 = .ok (.iconst 0, 1)) (by decide) ?_
    exact sm_zret (pc := 1891) G hb (by decide +kernel : decode code 1891 = .ok (.ireturn, 1)) hr
set_option maxRecDepth 100000 in
set_option maxHeartbeats 8000000 in
theorem fL_law_s1844 {γ : gG} {cs ss c2 s2 : Nat} {ε : gE5} (N SL : Nat) (SX : Nat → Int32) (G : gOK γ) (hb : gcc γ = code) (ho : gow γ = RL) (hy : gly γ = gyL) (hR : grm γ = room_1) (he : genv γ = ε) (hr : grt γ = some .boolean) (hE : gEnv ε) (hEL : gEnvL ε) (hSc : gSc ε SL SX) (hc9 : cs + 3 ≤ c2 ∧ ss + 18 ≤ s2 ∧ c2 ≤ 601024 ∧ s2 ≤ 7293033) (K23 : gK) (h23 : gSm γ c2 s2 23 K23) : gSm γ cs ss 1844 (fL_law_k1844 N SL SX K23) := by
  unfold fL_law_k1844
  refine sm_aload_n (pc := 1844) G hb (by decide +kernel : decode code 1844 = .ok (.aload_n 1, 1)) rfl ?_
  refine sm_aload_n (pc := 1845) G hb (by decide +kernel : decode code 1845 = .ok (.aload_n 0, 1)) rfl ?_
  refine sm_iload (pc := 1846) G hb (by decide +kernel : decode code 1846 = .ok (.iload 4, 2)) ?_
  refine sm_iconst (pc := 1848) G hb (by decide +kernel : decode code 1848 = .ok (.iconst 1, 1)) (by decide) ?_
  refine sm_iadd (pc := 1849) G hb (by decide +kernel : decode code 1849 = .ok (.iadd, 1)) ?_
  refine sm_sld (pc := 1850) G hb ho he hE hSc (by decide +kernel : decode code 1850 = .ok (.iaload, 1)) ?_
  refine sm_aload_n (pc := 1851) G hb (by decide +kernel : decode code 1851 = .ok (.aload_n 0, 1)) rfl ?_
  refine sm_iload (pc := 1852) G hb (by decide +kernel : decode code 1852 = .ok (.iload 4, 2)) ?_
  refine sm_iconst (pc := 1854) G hb (by decide +kernel : decode code 1854 = .ok (.iconst 2, 1)) (by decide) ?_
  refine sm_iadd (pc := 1855) G hb (by decide +kernel : decode code 1855 = .ok (.iadd, 1)) ?_
  refine sm_sld (pc := 1856) G hb ho he hE hSc (by decide +kernel : decode code 1856 = .ok (.iaload, 1)) ?_
  refine sm_aload_n (pc := 1857) G hb (by decide +kernel : decode code 1857 = .ok (.aload_n 3, 1)) rfl ?_
  refine sm_mono (ca_sub gI_sub) (sm_callW (pc := 1858) G hb ho hy he hE.1 4 [0, 1, 2, 3, 4, 5, 6, 7, 8, 9, 10, 11, 12, 13, 14, 15, 16, 17, 18, 19, 20, 21, 22, 23, 24, 25, 26, 27, 28, 29, 30, 31, 32, 33, 34, 35, 36, 37, 38, 39, 40, 41, 42, 43, 44, 45, 46, 47, 48, 49, 50, 51, 52, 53, 54, 55, 56, 57, 58, 59, 60, 61, 62, 63, 64, 65, 66, 67, 68, 69, 70, 71, 72, 73, 74, 75, 76, 77, 78, 79, 80, 81, 82, 83, 84, 85, 86, 87, 88, 89, 90, 91, 92, 93, 94, 95, 96, 97, 98, 99, 100, 101, 102, 103, 104, 105, 106, 107, 108, 109, 110, 111, 112, 113, 114, 115, 116, 117, 118, 119, 120, 121, 122, 123, 124, 125, 126, 127, 128, 129, 130, 131, 132, 133, 134, 135, 136, 137, 138, 139, 140, 141, 142, 143, 144, 145, 146, 147, 148, 149, 150, 151, 152, 153, 154, 155, 156, 157, 158, 159, 160, 161, 162, 163, 164, 165, 166, 167, 168, 169, 170, 171, 172, 173, 174, 175, 176, 177, 178, 179, 180, 181, 182, 183, 184, 185, 186, 187, 188, 189, 190, 191, 192, 193, 194, 195, 196, 197, 198, 199, 200, 201, 202, 203, 222] (kL_shadow hEL N) (gCo_of (by decide +kernel)) (by rw [hR]; exact ⟨by decide, by decide⟩) (by rw [hR]; exact ⟨by show _ ≤ 601024; omega, by show _ ≤ 7293033; omega⟩) (by decide +kernel) gw5_59 gw5_60 gw1_0 gw5_61 (by decide +kernel : decode code 1858 = .ok (.invokestatic 246, 3)) ?_)
  refine sm_istore (pc := 1861) G hb (by decide +kernel : decode code 1861 = .ok (.istore 5, 2)) ?_
  refine sm_aload_n (pc := 1863) G hb (by decide +kernel : decode code 1863 = .ok (.aload_n 2, 1)) rfl ?_
  refine sm_aload_n (pc := 1864) G hb (by decide +kernel : decode code 1864 = .ok (.aload_n 0, 1)) rfl ?_
  refine sm_iload (pc := 1865) G hb (by decide +kernel : decode code 1865 = .ok (.iload 4, 2)) ?_
  refine sm_iconst (pc := 1867) G hb (by decide +kernel : decode code 1867 = .ok (.iconst 1, 1)) (by decide) ?_
  refine sm_iadd (pc := 1868) G hb (by decide +kernel : decode code 1868 = .ok (.iadd, 1)) ?_
  refine sm_sld (pc := 1869) G hb ho he hE hSc (by decide +kernel : decode code 1869 = .ok (.iaload, 1)) ?_
  refine sm_aload_n (pc := 1870) G hb (by decide +kernel : decode code 1870 = .ok (.aload_n 0, 1)) rfl ?_
  refine sm_iload (pc := 1871) G hb (by decide +kernel : decode code 1871 = .ok (.iload 4, 2)) ?_
  refine sm_iconst (pc := 1873) G hb (by decide +kernel : decode code 1873 = .ok (.iconst 2, 1)) (by decide) ?_
  refine sm_iadd (pc := 1874) G hb (by decide +kernel : decode code 1874 = .ok (.iadd, 1)) ?_
  refine sm_sld (pc := 1875) G hb ho he hE hSc (by decide +kernel : decode code 1875 = .ok (.iaload, 1)) ?_
  refine sm_mono (cav_sub gI_sub) (sm_callV (pc := 1876) (N := 32) (T := TX9) (C := RX9) G hb ho hy he hE.1 3 [204, 205, 206, 207, 208, 209, 210, 211, 212, 213, 214, 215, 216, 217, 218, 219, 220, 221] (kX9_shadow hE N) (gCo_of (by decide +kernel)) (by rw [hR]; exact ⟨by decide, by decide⟩) rfl rfl (by decide +kernel) gw8_7 gw8_8 gw8_9 gw1_11 gw8_10 (by decide +kernel : decode code 1876 = .ok (.invokevirtual 248, 3)) ?_)
  refine sm_istore (pc := 1879) G hb (by decide +kernel : decode code 1879 = .ok (.istore 6, 2)) ?_
  refine sm_aload_n (pc := 1881) G hb (by decide +kernel : decode code 1881 = .ok (.aload_n 2, 1)) rfl ?_
  refine sm_mono (cav_sub gI_sub) (sm_callV (pc := 1882) (N := 32) (T := TX9) (C := RX9) G hb ho hy he hE.1 1 [204, 205, 206, 207, 208, 209, 210, 211, 212, 213, 214, 215, 216, 217, 218, 219, 220, 221] (kX9_thrown hE N) (gCo_of (by decide +kernel)) (by rw [hR]; exact ⟨by decide, by decide⟩) rfl rfl (by decide +kernel) gw6_94 gw6_95 gw6_96 gw1_11 gw6_97 (by decide +kernel : decode code 1882 = .ok (.invokevirtual 151, 3)) ?_)
  refine sm_mask ?_
  exact fL_law_s1885 N SL SX G hb ho hy hR he hr hE hEL hSc (by omega) K23 h23
set_option maxRecDepth 100000 in
set_option maxHeartbeats 8000000 in
theorem fL_law_s2001 {γ : gG} {cs ss c2 s2 : Nat} {ε : gE5} (N SL : Nat) (SX : Nat → Int32) (G : gOK γ) (hb : gcc γ = code) (ho : gow γ = RL) (hy : gly γ = gyL) (hR : grm γ = room_1) (he : genv γ = ε) (hr : grt γ = some .boolean) (hE : gEnv ε) (hEL : gEnvL ε) (hSc : gSc ε SL SX) (hc9 : cs + 0 ≤ c2 ∧ ss + 0 ≤ s2 ∧ c2 ≤ 601024 ∧ s2 ≤ 7293033) (K23 : gK) (h23 : gSm γ c2 s2 23 K23) : gSm γ cs ss 2001 (fL_law_k2001 N SL SX K23) := by
  unfold fL_law_k2001
  refine sm_goto (pc := 2001) (tgt := 2794) G hb (by decide +kernel : decode code 2001 = .ok (.goto 793, 3)) (by decide) ?_
  refine sm_mask ?_
  exact fL_law_s2794 N SL SX G hb ho hy hR he hr hE hEL hSc (by omega) K23 h23
set_option maxRecDepth 100000 in
set_option maxHeartbeats 8000000 in
theorem fL_law_s1977 {γ : gG} {cs ss c2 s2 : Nat} {ε : gE5} (N SL : Nat) (SX : Nat → Int32) (G : gOK γ) (hb : gcc γ = code) (ho : gow γ = RL) (hy : gly γ = gyL) (hR : grm γ = room_1) (he : genv γ = ε) (hr : grt γ = some .boolean) (hE : gEnv ε) (hEL : gEnvL ε) (hSc : gSc ε SL SX) (hc9 : cs + 0 ≤ c2 ∧ ss + 0 ≤ s2 ∧ c2 ≤ 601024 ∧ s2 ≤ 7293033) (K23 : gK) (h23 : gSm γ c2 s2 23 K23) : gSm γ cs ss 1977 (fL_law_k1977 N SL SX K23) := by
  unfold fL_law_k1977
  refine sm_iload (pc := 1977) G hb (by decide +kernel : decode code 1977 = .ok (.iload 5, 2)) ?_
  refine sm_icmp_eq (pc := 1979) (tgt := 1984) G hb (by decide +kernel : decode code 1979 = .ok (.if_icmp .eq 5, 3)) (by decide) ?_ ?_
  · skip
    refine sm_iload (pc := 1984) G hb (by decide +kernel : decode code 1984 = .ok (.iload 5, 2)) ?_
    refine sm_if_ne (pc := 1986) (tgt := 2001) G hb (by decide +kernel : decode code 1986 = .ok (.ifCond .ne 15, 3)) (by decide) ?_ ?_
    · skip
      refine sm_mask ?_
      exact fL_law_s2001 N SL SX G hb ho hy hR he hr hE hEL hSc (by omega) K23 h23
    · skip
      refine sm_aload_n (pc := 1989) G hb (by decide +kernel : decode code 1989 = .ok (.aload_n 3, 1)) rfl ?_
      refine sm_iconst (pc := 1990) G hb (by decide +kernel : decode code 1990 = .ok (.iconst 0, 1)) (by decide) ?_
      refine sm_lald (pc := 1991) G hb hy (by decide +kernel : decode code 1991 = .ok (.laload, 1)) ?_
      refine sm_iload (pc := 1992) G hb (by decide +kernel : decode code 1992 = .ok (.iload 6, 2)) ?_
      refine sm_i2l (pc := 1994) G hb (by decide +kernel : decode code 1994 = .ok (.i2l, 1)) ?_
      refine sm_lcmp (pc := 1995) G hb (by decide +kernel : decode code 1995 = .ok (.lcmp, 1)) ?_
      refine sm_if_eq (pc := 1996) (tgt := 2001) G hb (by decide +kernel : decode code 1996 = .ok (.ifCond .eq 5, 3)) (by decide) ?_ ?_
      · skip
        refine sm_mask ?_
        exact fL_law_s2001 N SL SX G hb ho hy hR he hr hE hEL hSc (by omega) K23 h23
      · skip
        refine sm_iconst (pc := 1999) G hb (by decide +kernel : decode code 1999 = .ok (.iconst 0, 1)) (by decide) ?_
        exact sm_zret (pc := 2000) G hb (by decide +kernel : decode code 2000 = .ok (.ireturn, 1)) hr
  · skip
    refine sm_iconst (pc := 1982) G hb (by decide +kernel : decode code 1982 = .ok (.iconst 0, 1)) (by decide) ?_
    exact sm_zret (pc := 1983) G hb (by decide +kernel : decode code 1983 = .ok (.ireturn, 1)) hr
set_option maxRecDepth 100000 in
set_option maxHeartbeats 8000000 in
theorem fL_law_s1912 {γ : gG} {cs ss c2 s2 : Nat} {ε : gE5} (N SL : Nat) (SX : Nat → Int32) (G : gOK γ) (hb : gcc γ = code) (ho : gow γ = RL) (hy : gly γ = gyL) (hR : grm γ = room_1) (he : genv γ = ε) (hr : grt γ = some .boolean) (hE : gEnv ε) (hEL : gEnvL ε) (hSc : gSc ε SL SX) (hc9 : cs + 5 ≤ c2 ∧ ss + 30 ≤ s2 ∧ c2 ≤ 601024 ∧ s2 ≤ 7293033) (K23 : gK) (h23 : gSm γ c2 s2 23 K23) : gSm γ cs ss 1912 (fL_law_k1912 N SL SX K23) := by
  unfold fL_law_k1912
  refine sm_aload_n (pc := 1912) G hb (by decide +kernel : decode code 1912 = .ok (.aload_n 1, 1)) rfl ?_
  refine sm_aload_n (pc := 1913) G hb (by decide +kernel : decode code 1913 = .ok (.aload_n 0, 1)) rfl ?_
  refine sm_iload (pc := 1914) G hb (by decide +kernel : decode code 1914 = .ok (.iload 4, 2)) ?_
  refine sm_iconst (pc := 1916) G hb (by decide +kernel : decode code 1916 = .ok (.iconst 1, 1)) (by decide) ?_
  refine sm_iadd (pc := 1917) G hb (by decide +kernel : decode code 1917 = .ok (.iadd, 1)) ?_
  refine sm_sld (pc := 1918) G hb ho he hE hSc (by decide +kernel : decode code 1918 = .ok (.iaload, 1)) ?_
  refine sm_aload_n (pc := 1919) G hb (by decide +kernel : decode code 1919 = .ok (.aload_n 0, 1)) rfl ?_
  refine sm_iload (pc := 1920) G hb (by decide +kernel : decode code 1920 = .ok (.iload 4, 2)) ?_
  refine sm_iconst (pc := 1922) G hb (by decide +kernel : decode code 1922 = .ok (.iconst 2, 1)) (by decide) ?_
  refine sm_iadd (pc := 1923) G hb (by decide +kernel : decode code 1923 = .ok (.iadd, 1)) ?_
  refine sm_sld (pc := 1924) G hb ho he hE hSc (by decide +kernel : decode code 1924 = .ok (.iaload, 1)) ?_
  refine sm_aload_n (pc := 1925) G hb (by decide +kernel : decode code 1925 = .ok (.aload_n 0, 1)) rfl ?_
  refine sm_iload (pc := 1926) G hb (by decide +kernel : decode code 1926 = .ok (.iload 4, 2)) ?_
  refine sm_iconst (pc := 1928) G hb (by decide +kernel : decode code 1928 = .ok (.iconst 3, 1)) (by decide) ?_
  refine sm_iadd (pc := 1929) G hb (by decide +kernel : decode code 1929 = .ok (.iadd, 1)) ?_
  refine sm_sld (pc := 1930) G hb ho he hE hSc (by decide +kernel : decode code 1930 = .ok (.iaload, 1)) ?_
  refine sm_aload_n (pc := 1931) G hb (by decide +kernel : decode code 1931 = .ok (.aload_n 0, 1)) rfl ?_
  refine sm_iload (pc := 1932) G hb (by decide +kernel : decode code 1932 = .ok (.iload 4, 2)) ?_
  refine sm_iconst (pc := 1934) G hb (by decide +kernel : decode code 1934 = .ok (.iconst 4, 1)) (by decide) ?_
  refine sm_iadd (pc := 1935) G hb (by decide +kernel : decode code 1935 = .ok (.iadd, 1)) ?_
  refine sm_sld (pc := 1936) G hb ho he hE hSc (by decide +kernel : decode code 1936 = .ok (.iaload, 1)) ?_
  refine sm_aload_n (pc := 1937) G hb (by decide +kernel : decode code 1937 = .ok (.aload_n 3, 1)) rfl ?_
  refine sm_mono (ca_sub gI_sub) (sm_callW (pc := 1938) G hb ho hy he hE.1 6 [0, 1, 2, 3, 4, 5, 6, 7, 8, 9, 10, 11, 12, 13, 14, 15, 16, 17, 18, 19, 20, 21, 22, 23, 24, 25, 26, 27, 28, 29, 30, 31, 32, 33, 34, 35, 36, 37, 38, 39, 40, 41, 42, 43, 44, 45, 46, 47, 48, 49, 50, 51, 52, 53, 54, 55, 56, 57, 58, 59, 60, 61, 62, 63, 64, 65, 66, 67, 68, 69, 70, 71, 72, 73, 74, 75, 76, 77, 78, 79, 80, 81, 82, 83, 84, 85, 86, 87, 88, 89, 90, 91, 92, 93, 94, 95, 96, 97, 98, 99, 100, 101, 102, 103, 104, 105, 106, 107, 108, 109, 110, 111, 112, 113, 114, 115, 116, 117, 118, 119, 120, 121, 122, 123, 124, 125, 126, 127, 128, 129, 130, 131, 132, 133, 134, 135, 136, 137, 138, 139, 140, 141, 142, 143, 144, 145, 146, 147, 148, 149, 150, 151, 152, 153, 154, 155, 156, 157, 158, 159, 160, 161, 162, 163, 164, 165, 166, 167, 168, 169, 170, 171, 172, 173, 174, 175, 176, 177, 178, 179, 180, 181, 182, 183, 184, 185, 186, 187, 188, 189, 190, 191, 192, 193, 194, 195, 196, 197, 198, 199, 200, 201, 202, 203, 222] (kL_packet hEL N) (gCo_of (by decide +kernel)) (by rw [hR]; exact ⟨by decide, by decide⟩) (by rw [hR]; exact ⟨by show _ ≤ 601024; omega, by show _ ≤ 7293033; omega⟩) (by decide +kernel) gw5_66 gw5_67 gw1_0 gw5_68 (by decide +kernel : decode code 1938 = .ok (.invokestatic 249, 3)) ?_)
  refine sm_istore (pc := 1941) G hb (by decide +kernel : decode code 1941 = .ok (.istore 5, 2)) ?_
  refine sm_aload_n (pc := 1943) G hb (by decide +kernel : decode code 1943 = .ok (.aload_n 2, 1)) rfl ?_
  refine sm_aload_n (pc := 1944) G hb (by decide +kernel : decode code 1944 = .ok (.aload_n 0, 1)) rfl ?_
  refine sm_iload (pc := 1945) G hb (by decide +kernel : decode code 1945 = .ok (.iload 4, 2)) ?_
  refine sm_iconst (pc := 1947) G hb (by decide +kernel : decode code 1947 = .ok (.iconst 1, 1)) (by decide) ?_
  refine sm_iadd (pc := 1948) G hb (by decide +kernel : decode code 1948 = .ok (.iadd, 1)) ?_
  refine sm_sld (pc := 1949) G hb ho he hE hSc (by decide +kernel : decode code 1949 = .ok (.iaload, 1)) ?_
  refine sm_aload_n (pc := 1950) G hb (by decide +kernel : decode code 1950 = .ok (.aload_n 0, 1)) rfl ?_
  refine sm_iload (pc := 1951) G hb (by decide +kernel : decode code 1951 = .ok (.iload 4, 2)) ?_
  refine sm_iconst (pc := 1953) G hb (by decide +kernel : decode code 1953 = .ok (.iconst 2, 1)) (by decide) ?_
  refine sm_iadd (pc := 1954) G hb (by decide +kernel : decode code 1954 = .ok (.iadd, 1)) ?_
  refine sm_sld (pc := 1955) G hb ho he hE hSc (by decide +kernel : decode code 1955 = .ok (.iaload, 1)) ?_
  refine sm_aload_n (pc := 1956) G hb (by decide +kernel : decode code 1956 = .ok (.aload_n 0, 1)) rfl ?_
  refine sm_iload (pc := 1957) G hb (by decide +kernel : decode code 1957 = .ok (.iload 4, 2)) ?_
  refine sm_iconst (pc := 1959) G hb (by decide +kernel : decode code 1959 = .ok (.iconst 3, 1)) (by decide) ?_
  refine sm_iadd (pc := 1960) G hb (by decide +kernel : decode code 1960 = .ok (.iadd, 1)) ?_
  refine sm_sld (pc := 1961) G hb ho he hE hSc (by decide +kernel : decode code 1961 = .ok (.iaload, 1)) ?_
  refine sm_aload_n (pc := 1962) G hb (by decide +kernel : decode code 1962 = .ok (.aload_n 0, 1)) rfl ?_
  refine sm_iload (pc := 1963) G hb (by decide +kernel : decode code 1963 = .ok (.iload 4, 2)) ?_
  refine sm_iconst (pc := 1965) G hb (by decide +kernel : decode code 1965 = .ok (.iconst 4, 1)) (by decide) ?_
  refine sm_iadd (pc := 1966) G hb (by decide +kernel : decode code 1966 = .ok (.iadd, 1)) ?_
  refine sm_sld (pc := 1967) G hb ho he hE hSc (by decide +kernel : decode code 1967 = .ok (.iaload, 1)) ?_
  refine sm_mono (cav_sub gI_sub) (sm_callV (pc := 1968) (N := 32) (T := TX9) (C := RX9) G hb ho hy he hE.1 5 [204, 205, 206, 207, 208, 209, 210, 211, 212, 213, 214, 215, 216, 217, 218, 219, 220, 221] (kX9_packet hE N) (gCo_of (by decide +kernel)) (by rw [hR]; exact ⟨by decide, by decide⟩) rfl rfl (by decide +kernel) gw8_15 gw8_16 gw8_17 gw1_11 gw8_18 (by decide +kernel : decode code 1968 = .ok (.invokevirtual 251, 3)) ?_)
  refine sm_istore (pc := 1971) G hb (by decide +kernel : decode code 1971 = .ok (.istore 6, 2)) ?_
  refine sm_aload_n (pc := 1973) G hb (by decide +kernel : decode code 1973 = .ok (.aload_n 2, 1)) rfl ?_
  refine sm_mono (cav_sub gI_sub) (sm_callV (pc := 1974) (N := 32) (T := TX9) (C := RX9) G hb ho hy he hE.1 1 [204, 205, 206, 207, 208, 209, 210, 211, 212, 213, 214, 215, 216, 217, 218, 219, 220, 221] (kX9_thrown hE N) (gCo_of (by decide +kernel)) (by rw [hR]; exact ⟨by decide, by decide⟩) rfl rfl (by decide +kernel) gw6_94 gw6_95 gw6_96 gw1_11 gw6_97 (by decide +kernel : decode code 1974 = .ok (.invokevirtual 151, 3)) ?_)
  refine sm_mask ?_
  exact fL_law_s1977 N SL SX G hb ho hy hR he hr hE hEL hSc (by omega) K23 h23
set_option maxRecDepth 100000 in
set_option maxHeartbeats 8000000 in
theorem fL_law_s2056 {γ : gG} {cs ss c2 s2 : Nat} {ε : gE5} (N SL : Nat) (SX : Nat → Int32) (G : gOK γ) (hb : gcc γ = code) (ho : gow γ = RL) (hy : gly γ = gyL) (hR : grm γ = room_1) (he : genv γ = ε) (hr : grt γ = some .boolean) (hE : gEnv ε) (hEL : gEnvL ε) (hSc : gSc ε SL SX) (hc9 : cs + 0 ≤ c2 ∧ ss + 0 ≤ s2 ∧ c2 ≤ 601024 ∧ s2 ≤ 7293033) (K23 : gK) (h23 : gSm γ c2 s2 23 K23) : gSm γ cs ss 2056 (fL_law_k2056 N SL SX K23) := by
  unfold fL_law_k2056
  refine sm_goto (pc := 2056) (tgt := 2794) G hb (by decide +kernel : decode code 2056 = .ok (.goto 738, 3)) (by decide) ?_
  refine sm_mask ?_
  exact fL_law_s2794 N SL SX G hb ho hy hR he hr hE hEL hSc (by omega) K23 h23
set_option maxRecDepth 100000 in
set_option maxHeartbeats 8000000 in
theorem fL_law_s2033 {γ : gG} {cs ss c2 s2 : Nat} {ε : gE5} (N SL : Nat) (SX : Nat → Int32) (G : gOK γ) (hb : gcc γ = code) (ho : gow γ = RL) (hy : gly γ = gyL) (hR : grm γ = room_1) (he : genv γ = ε) (hr : grt γ = some .boolean) (hE : gEnv ε) (hEL : gEnvL ε) (hSc : gSc ε SL SX) (hc9 : cs + 0 ≤ c2 ∧ ss + 0 ≤ s2 ∧ c2 ≤ 601024 ∧ s2 ≤ 7293033) (K23 : gK) (h23 : gSm γ c2 s2 23 K23) : gSm γ cs ss 2033 (fL_law_k2033 N SL SX K23) := by
  unfold fL_law_k2033
  refine sm_iload (pc := 2033) G hb (by decide +kernel : decode code 2033 = .ok (.iload 5, 2)) ?_
  refine sm_icmp_eq (pc := 2035) (tgt := 2040) G hb (by decide +kernel : decode code 2035 = .ok (.if_icmp .eq 5, 3)) (by decide) ?_ ?_
  · skip
    refine sm_iload (pc := 2040) G hb (by decide +kernel : decode code 2040 = .ok (.iload 5, 2)) ?_
    refine sm_if_ne (pc := 2042) (tgt := 2056) G hb (by decide +kernel : decode code 2042 = .ok (.ifCond .ne 14, 3)) (by decide) ?_ ?_
    · skip
      refine sm_mask ?_
      exact fL_law_s2056 N SL SX G hb ho hy hR he hr hE hEL hSc (by omega) K23 h23
    · skip
      refine sm_aload_n (pc := 2045) G hb (by decide +kernel : decode code 2045 = .ok (.aload_n 3, 1)) rfl ?_
      refine sm_iconst (pc := 2046) G hb (by decide +kernel : decode code 2046 = .ok (.iconst 0, 1)) (by decide) ?_
      refine sm_lald (pc := 2047) G hb hy (by decide +kernel : decode code 2047 = .ok (.laload, 1)) ?_
      refine sm_lload (pc := 2048) G hb (by decide +kernel : decode code 2048 = .ok (.lload 6, 2)) ?_
      refine sm_lcmp (pc := 2050) G hb (by decide +kernel : decode code 2050 = .ok (.lcmp, 1)) ?_
      refine sm_if_eq (pc := 2051) (tgt := 2056) G hb (by decide +kernel : decode code 2051 = .ok (.ifCond .eq 5, 3)) (by decide) ?_ ?_
      · skip
        refine sm_mask ?_
        exact fL_law_s2056 N SL SX G hb ho hy hR he hr hE hEL hSc (by omega) K23 h23
      · skip
        refine sm_iconst (pc := 2054) G hb (by decide +kernel : decode code 2054 = .ok (.iconst 0, 1)) (by decide) ?_
        exact sm_zret (pc := 2055) G hb (by decide +kernel : decode code 2055 = .ok (.ireturn, 1)) hr
  · skip
    refine sm_iconst (pc := 2038) G hb (by decide +kernel : decode code 2038 = .ok (.iconst 0, 1)) (by decide) ?_
    exact sm_zret (pc := 2039) G hb (by decide +kernel : decode code 2039 = .ok (.ireturn, 1)) hr
set_option maxRecDepth 100000 in
set_option maxHeartbeats 8000000 in
theorem fL_law_s2004 {γ : gG} {cs ss c2 s2 : Nat} {ε : gE5} (N SL : Nat) (SX : Nat → Int32) (G : gOK γ) (hb : gcc γ = code) (ho : gow γ = RL) (hy : gly γ = gyL) (hR : grm γ = room_1) (he : genv γ = ε) (hr : grt γ = some .boolean) (hE : gEnv ε) (hEL : gEnvL ε) (hSc : gSc ε SL SX) (hc9 : cs + 1 ≤ c2 ∧ ss + 6 ≤ s2 ∧ c2 ≤ 601024 ∧ s2 ≤ 7293033) (K23 : gK) (h23 : gSm γ c2 s2 23 K23) : gSm γ cs ss 2004 (fL_law_k2004 N SL SX K23) := by
  unfold fL_law_k2004
  refine sm_aload_n (pc := 2004) G hb (by decide +kernel : decode code 2004 = .ok (.aload_n 1, 1)) rfl ?_
  refine sm_aload_n (pc := 2005) G hb (by decide +kernel : decode code 2005 = .ok (.aload_n 0, 1)) rfl ?_
  refine sm_iload (pc := 2006) G hb (by decide +kernel : decode code 2006 = .ok (.iload 4, 2)) ?_
  refine sm_iconst (pc := 2008) G hb (by decide +kernel : decode code 2008 = .ok (.iconst 1, 1)) (by decide) ?_
  refine sm_iadd (pc := 2009) G hb (by decide +kernel : decode code 2009 = .ok (.iadd, 1)) ?_
  refine sm_sld (pc := 2010) G hb ho he hE hSc (by decide +kernel : decode code 2010 = .ok (.iaload, 1)) ?_
  refine sm_aload_n (pc := 2011) G hb (by decide +kernel : decode code 2011 = .ok (.aload_n 3, 1)) rfl ?_
  refine sm_mono (ca_sub gI_sub) (sm_callW (pc := 2012) G hb ho hy he hE.1 3 [0, 1, 2, 3, 4, 5, 6, 7, 8, 9, 10, 11, 12, 13, 14, 15, 16, 17, 18, 19, 20, 21, 22, 23, 24, 25, 26, 27, 28, 29, 30, 31, 32, 33, 34, 35, 36, 37, 38, 39, 40, 41, 42, 43, 44, 45, 46, 47, 48, 49, 50, 51, 52, 53, 54, 55, 56, 57, 58, 59, 60, 61, 62, 63, 64, 65, 66, 67, 68, 69, 70, 71, 72, 73, 74, 75, 76, 77, 78, 79, 80, 81, 82, 83, 84, 85, 86, 87, 88, 89, 90, 91, 92, 93, 94, 95, 96, 97, 98, 99, 100, 101, 102, 103, 104, 105, 106, 107, 108, 109, 110, 111, 112, 113, 114, 115, 116, 117, 118, 119, 120, 121, 122, 123, 124, 125, 126, 127, 128, 129, 130, 131, 132, 133, 134, 135, 136, 137, 138, 139, 140, 141, 142, 143, 144, 145, 146, 147, 148, 149, 150, 151, 152, 153, 154, 155, 156, 157, 158, 159, 160, 161, 162, 163, 164, 165, 166, 167, 168, 169, 170, 171, 172, 173, 174, 175, 176, 177, 178, 179, 180, 181, 182, 183, 184, 185, 186, 187, 188, 189, 190, 191, 192, 193, 194, 195, 196, 197, 198, 199, 200, 201, 202, 203, 222] (kL_total hEL N) (gCo_of (by decide +kernel)) (by rw [hR]; exact ⟨by decide, by decide⟩) (by rw [hR]; exact ⟨by show _ ≤ 601024; omega, by show _ ≤ 7293033; omega⟩) (by decide +kernel) gw5_94 gw5_95 gw1_0 gw5_96 (by decide +kernel : decode code 2012 = .ok (.invokestatic 252, 3)) ?_)
  refine sm_istore (pc := 2015) G hb (by decide +kernel : decode code 2015 = .ok (.istore 5, 2)) ?_
  refine sm_aload_n (pc := 2017) G hb (by decide +kernel : decode code 2017 = .ok (.aload_n 2, 1)) rfl ?_
  refine sm_aload_n (pc := 2018) G hb (by decide +kernel : decode code 2018 = .ok (.aload_n 0, 1)) rfl ?_
  refine sm_iload (pc := 2019) G hb (by decide +kernel : decode code 2019 = .ok (.iload 4, 2)) ?_
  refine sm_iconst (pc := 2021) G hb (by decide +kernel : decode code 2021 = .ok (.iconst 1, 1)) (by decide) ?_
  refine sm_iadd (pc := 2022) G hb (by decide +kernel : decode code 2022 = .ok (.iadd, 1)) ?_
  refine sm_sld (pc := 2023) G hb ho he hE hSc (by decide +kernel : decode code 2023 = .ok (.iaload, 1)) ?_
  refine sm_mono (cav_sub gJ_sub) (sm_callV (pc := 2024) (N := 32) (T := TX9) (C := RX9) G hb ho hy he hE.1 2 [204, 205, 206, 207, 208, 209, 210, 211, 212, 213, 214, 215, 216, 217, 218, 219, 220, 221] (kX9_total hE N) (gCo_of (by decide +kernel)) (by rw [hR]; exact ⟨by decide, by decide⟩) rfl rfl (by decide +kernel) gw8_19 gw8_20 gw8_21 gw1_11 gw8_22 (by decide +kernel : decode code 2024 = .ok (.invokevirtual 254, 3)) ?_)
  refine sm_lstore (pc := 2027) G hb (by decide +kernel : decode code 2027 = .ok (.lstore 6, 2)) ?_
  refine sm_aload_n (pc := 2029) G hb (by decide +kernel : decode code 2029 = .ok (.aload_n 2, 1)) rfl ?_
  refine sm_mono (cav_sub gI_sub) (sm_callV (pc := 2030) (N := 32) (T := TX9) (C := RX9) G hb ho hy he hE.1 1 [204, 205, 206, 207, 208, 209, 210, 211, 212, 213, 214, 215, 216, 217, 218, 219, 220, 221] (kX9_thrown hE N) (gCo_of (by decide +kernel)) (by rw [hR]; exact ⟨by decide, by decide⟩) rfl rfl (by decide +kernel) gw6_94 gw6_95 gw6_96 gw1_11 gw6_97 (by decide +kernel : decode code 2030 = .ok (.invokevirtual 151, 3)) ?_)
  refine sm_mask ?_
  exact fL_law_s2033 N SL SX G hb ho hy hR he hr hE hEL hSc (by omega) K23 h23
set_option maxRecDepth 100000 in
set_option maxHeartbeats 8000000 in
theorem fL_law_s2100 {γ : gG} {cs ss c2 s2 : Nat} {ε : gE5} (N SL : Nat) (SX : Nat → Int32) (G : gOK γ) (hb : gcc γ = code) (ho : gow γ = RL) (hy : gly γ = gyL) (hR : grm γ = room_1) (he : genv γ = ε) (hr : grt γ = some .boolean) (hE : gEnv ε) (hEL : gEnvL ε) (hSc : gSc ε SL SX) (hc9 : cs + 0 ≤ c2 ∧ ss + 0 ≤ s2 ∧ c2 ≤ 601024 ∧ s2 ≤ 7293033) (K23 : gK) (h23 : gSm γ c2 s2 23 K23) : gSm γ cs ss 2100 (fL_law_k2100 N SL SX K23) := by
  unfold fL_law_k2100
  refine sm_goto (pc := 2100) (tgt := 2794) G hb (by decide +kernel : decode code 2100 = .ok (.goto 694, 3)) (by decide) ?_
  refine sm_mask ?_
  exact fL_law_s2794 N SL SX G hb ho hy hR he hr hE hEL hSc (by omega) K23 h23
set_option maxRecDepth 100000 in
set_option maxHeartbeats 8000000 in
theorem fL_law_s2076 {γ : gG} {cs ss c2 s2 : Nat} {ε : gE5} (N SL : Nat) (SX : Nat → Int32) (G : gOK γ) (hb : gcc γ = code) (ho : gow γ = RL) (hy : gly γ = gyL) (hR : grm γ = room_1) (he : genv γ = ε) (hr : grt γ = some .boolean) (hE : gEnv ε) (hEL : gEnvL ε) (hSc : gSc ε SL SX) (hc9 : cs + 0 ≤ c2 ∧ ss + 0 ≤ s2 ∧ c2 ≤ 601024 ∧ s2 ≤ 7293033) (K23 : gK) (h23 : gSm γ c2 s2 23 K23) : gSm γ cs ss 2076 (fL_law_k2076 N SL SX K23) := by
  unfold fL_law_k2076
  refine sm_iload (pc := 2076) G hb (by decide +kernel : decode code 2076 = .ok (.iload 5, 2)) ?_
  refine sm_icmp_eq (pc := 2078) (tgt := 2083) G hb (by decide +kernel : decode code 2078 = .ok (.if_icmp .eq 5, 3)) (by decide) ?_ ?_
  · skip
    refine sm_iload (pc := 2083) G hb (by decide +kernel : decode code 2083 = .ok (.iload 5, 2)) ?_
    refine sm_if_ne (pc := 2085) (tgt := 2100) G hb (by decide +kernel : decode code 2085 = .ok (.ifCond .ne 15, 3)) (by decide) ?_ ?_
    · skip
      refine sm_mask ?_
      exact fL_law_s2100 N SL SX G hb ho hy hR he hr hE hEL hSc (by omega) K23 h23
    · skip
      refine sm_aload_n (pc := 2088) G hb (by decide +kernel : decode code 2088 = .ok (.aload_n 3, 1)) rfl ?_
      refine sm_iconst (pc := 2089) G hb (by decide +kernel : decode code 2089 = .ok (.iconst 0, 1)) (by decide) ?_
      refine sm_lald (pc := 2090) G hb hy (by decide +kernel : decode code 2090 = .ok (.laload, 1)) ?_
      refine sm_iload (pc := 2091) G hb (by decide +kernel : decode code 2091 = .ok (.iload 6, 2)) ?_
      refine sm_i2l (pc := 2093) G hb (by decide +kernel : decode code 2093 = .ok (.i2l, 1)) ?_
      refine sm_lcmp (pc := 2094) G hb (by decide +kernel : decode code 2094 = .ok (.lcmp, 1)) ?_
      refine sm_if_eq (pc := 2095) (tgt := 2100) G hb (by decide +kernel : decode code 2095 = .ok (.ifCond .eq 5, 3)) (by decide) ?_ ?_
      · skip
        refine sm_mask ?_
        exact fL_law_s2100 N SL SX G hb ho hy hR he hr hE hEL hSc (by omega) K23 h23
      · skip
        refine sm_iconst (pc := 2098) G hb (by decide +kernel : decode code 2098 = .ok (.iconst 0, 1)) (by decide) ?_
        exact sm_zret (pc := 2099) G hb (by decide +kernel : decode code 2099 = .ok (.ireturn, 1)) hr
  · skip
    refine sm_iconst (pc := 2081) G hb (by decide +kernel : decode code 2081 = .ok (.iconst 0, 1)) (by decide) ?_
    exact sm_zret (pc := 2082) G hb (by decide +kernel : decode code 2082 = .ok (.ireturn, 1)) hr
set_option maxRecDepth 100000 in
set_option maxHeartbeats 8000000 in
theorem fL_law_s2059 {γ : gG} {cs ss c2 s2 : Nat} {ε : gE5} (N SL : Nat) (SX : Nat → Int32) (G : gOK γ) (hb : gcc γ = code) (ho : gow γ = RL) (hy : gly γ = gyL) (hR : grm γ = room_1) (he : genv γ = ε) (hr : grt γ = some .boolean) (hE : gEnv ε) (hEL : gEnvL ε) (hSc : gSc ε SL SX) (hc9 : cs + 1 ≤ c2 ∧ ss + 6 ≤ s2 ∧ c2 ≤ 601024 ∧ s2 ≤ 7293033) (K23 : gK) (h23 : gSm γ c2 s2 23 K23) : gSm γ cs ss 2059 (fL_law_k2059 N SL SX K23) := by
  unfold fL_law_k2059
  refine sm_aload_n (pc := 2059) G hb (by decide +kernel : decode code 2059 = .ok (.aload_n 1, 1)) rfl ?_
  refine sm_aload_n (pc := 2060) G hb (by decide +kernel : decode code 2060 = .ok (.aload_n 3, 1)) rfl ?_
  refine sm_mono (ca_sub gI_sub) (sm_callW (pc := 2061) G hb ho hy he hE.1 2 [0, 1, 2, 3, 4, 5, 6, 7, 8, 9, 10, 11, 12, 13, 14, 15, 16, 17, 18, 19, 20, 21, 22, 23, 24, 25, 26, 27, 28, 29, 30, 31, 32, 33, 34, 35, 36, 37, 38, 39, 40, 41, 42, 43, 44, 45, 46, 47, 48, 49, 50, 51, 52, 53, 54, 55, 56, 57, 58, 59, 60, 61, 62, 63, 64, 65, 66, 67, 68, 69, 70, 71, 72, 73, 74, 75, 76, 77, 78, 79, 80, 81, 82, 83, 84, 85, 86, 87, 88, 89, 90, 91, 92, 93, 94, 95, 96, 97, 98, 99, 100, 101, 102, 103, 104, 105, 106, 107, 108, 109, 110, 111, 112, 113, 114, 115, 116, 117, 118, 119, 120, 121, 122, 123, 124, 125, 126, 127, 128, 129, 130, 131, 132, 133, 134, 135, 136, 137, 138, 139, 140, 141, 142, 143, 144, 145, 146, 147, 148, 149, 150, 151, 152, 153, 154, 155, 156, 157, 158, 159, 160, 161, 162, 163, 164, 165, 166, 167, 168, 169, 170, 171, 172, 173, 174, 175, 176, 177, 178, 179, 180, 181, 182, 183, 184, 185, 186, 187, 188, 189, 190, 191, 192, 193, 194, 195, 196, 197, 198, 199, 200, 201, 202, 203, 222] (kL_fullest hEL N) (gCo_of (by decide +kernel)) (by rw [hR]; exact ⟨by decide, by decide⟩) (by rw [hR]; exact ⟨by show _ ≤ 601024; omega, by show _ ≤ 7293033; omega⟩) (by decide +kernel) gw5_107 gw5_108 gw1_0 gw5_109 (by decide +kernel : decode code 2061 = .ok (.invokestatic 255, 3)) ?_)
  refine sm_istore (pc := 2064) G hb (by decide +kernel : decode code 2064 = .ok (.istore 5, 2)) ?_
  refine sm_aload_n (pc := 2066) G hb (by decide +kernel : decode code 2066 = .ok (.aload_n 2, 1)) rfl ?_
  refine sm_mono (cav_sub gI_sub) (sm_callV (pc := 2067) (N := 32) (T := TX9) (C := RX9) G hb ho hy he hE.1 1 [204, 205, 206, 207, 208, 209, 210, 211, 212, 213, 214, 215, 216, 217, 218, 219, 220, 221] (kX9_fullest hE N) (gCo_of (by decide +kernel)) (by rw [hR]; exact ⟨by decide, by decide⟩) rfl rfl (by decide +kernel) gw8_31 gw8_32 gw8_33 gw1_11 gw8_34 (by decide +kernel : decode code 2067 = .ok (.invokevirtual 257, 3)) ?_)
  refine sm_istore (pc := 2070) G hb (by decide +kernel : decode code 2070 = .ok (.istore 6, 2)) ?_
  refine sm_aload_n (pc := 2072) G hb (by decide +kernel : decode code 2072 = .ok (.aload_n 2, 1)) rfl ?_
  refine sm_mono (cav_sub gI_sub) (sm_callV (pc := 2073) (N := 32) (T := TX9) (C := RX9) G hb ho hy he hE.1 1 [204, 205, 206, 207, 208, 209, 210, 211, 212, 213, 214, 215, 216, 217, 218, 219, 220, 221] (kX9_thrown hE N) (gCo_of (by decide +kernel)) (by rw [hR]; exact ⟨by decide, by decide⟩) rfl rfl (by decide +kernel) gw6_94 gw6_95 gw6_96 gw1_11 gw6_97 (by decide +kernel : decode code 2073 = .ok (.invokevirtual 151, 3)) ?_)
  refine sm_mask ?_
  exact fL_law_s2076 N SL SX G hb ho hy hR he hr hE hEL hSc (by omega) K23 h23
set_option maxRecDepth 100000 in
set_option maxHeartbeats 8000000 in
theorem fL_law_s2144 {γ : gG} {cs ss c2 s2 : Nat} {ε : gE5} (N SL : Nat) (SX : Nat → Int32) (G : gOK γ) (hb : gcc γ = code) (ho : gow γ = RL) (hy : gly γ = gyL) (hR : grm γ = room_1) (he : genv γ = ε) (hr : grt γ = some .boolean) (hE : gEnv ε) (hEL : gEnvL ε) (hSc : gSc ε SL SX) (hc9 : cs + 0 ≤ c2 ∧ ss + 0 ≤ s2 ∧ c2 ≤ 601024 ∧ s2 ≤ 7293033) (K23 : gK) (h23 : gSm γ c2 s2 23 K23) : gSm γ cs ss 2144 (fL_law_k2144 N SL SX K23) := by
  unfold fL_law_k2144
  refine sm_goto (pc := 2144) (tgt := 2794) G hb (by decide +kernel : decode code 2144 = .ok (.goto 650, 3)) (by decide) ?_
  refine sm_mask ?_
  exact fL_law_s2794 N SL SX G hb ho hy hR he hr hE hEL hSc (by omega) K23 h23
set_option maxRecDepth 100000 in
set_option maxHeartbeats 8000000 in
theorem fL_law_s2120 {γ : gG} {cs ss c2 s2 : Nat} {ε : gE5} (N SL : Nat) (SX : Nat → Int32) (G : gOK γ) (hb : gcc γ = code) (ho : gow γ = RL) (hy : gly γ = gyL) (hR : grm γ = room_1) (he : genv γ = ε) (hr : grt γ = some .boolean) (hE : gEnv ε) (hEL : gEnvL ε) (hSc : gSc ε SL SX) (hc9 : cs + 0 ≤ c2 ∧ ss + 0 ≤ s2 ∧ c2 ≤ 601024 ∧ s2 ≤ 7293033) (K23 : gK) (h23 : gSm γ c2 s2 23 K23) : gSm γ cs ss 2120 (fL_law_k2120 N SL SX K23) := by
  unfold fL_law_k2120
  refine sm_iload (pc := 2120) G hb (by decide +kernel : decode code 2120 = .ok (.iload 5, 2)) ?_
  refine sm_icmp_eq (pc := 2122) (tgt := 2127) G hb (by decide +kernel : decode code 2122 = .ok (.if_icmp .eq 5, 3)) (by decide) ?_ ?_
  · skip
    refine sm_iload (pc := 2127) G hb (by decide +kernel : decode code 2127 = .ok (.iload 5, 2)) ?_
    refine sm_if_ne (pc := 2129) (tgt := 2144) G hb (by decide +kernel : decode code 2129 = .ok (.ifCond .ne 15, 3)) (by decide) ?_ ?_
    · skip
      refine sm_mask ?_
      exact fL_law_s2144 N SL SX G hb ho hy hR he hr hE hEL hSc (by omega) K23 h23
    · skip
      refine sm_aload_n (pc := 2132) G hb (by decide +kernel : decode code 2132 = .ok (.aload_n 3, 1)) rfl ?_
      refine sm_iconst (pc := 2133) G hb (by decide +kernel : decode code 2133 = .ok (.iconst 0, 1)) (by decide) ?_
      refine sm_lald (pc := 2134) G hb hy (by decide +kernel : decode code 2134 = .ok (.laload, 1)) ?_
      refine sm_iload (pc := 2135) G hb (by decide +kernel : decode code 2135 = .ok (.iload 6, 2)) ?_
      refine sm_i2l (pc := 2137) G hb (by decide +kernel : decode code 2137 = .ok (.i2l, 1)) ?_
      refine sm_lcmp (pc := 2138) G hb (by decide +kernel : decode code 2138 = .ok (.lcmp, 1)) ?_
      refine sm_if_eq (pc := 2139) (tgt := 2144) G hb (by decide +kernel : decode code 2139 = .ok (.ifCond .eq 5, 3)) (by decide) ?_ ?_
      · skip
        refine sm_mask ?_
        exact fL_law_s2144 N SL SX G hb ho hy hR he hr hE hEL hSc (by omega) K23 h23
      · skip
        refine sm_iconst (pc := 2142) G hb (by decide +kernel : decode code 2142 = .ok (.iconst 0, 1)) (by decide) ?_
        exact sm_zret (pc := 2143) G hb (by decide +kernel : decode code 2143 = .ok (.ireturn, 1)) hr
  · skip
    refine sm_iconst (pc := 2125) G hb (by decide +kernel : decode code 2125 = .ok (.iconst 0, 1)) (by decide) ?_
    exact sm_zret (pc := 2126) G hb (by decide +kernel : decode code 2126 = .ok (.ireturn, 1)) hr
set_option maxRecDepth 100000 in
set_option maxHeartbeats 8000000 in
theorem fL_law_s2103 {γ : gG} {cs ss c2 s2 : Nat} {ε : gE5} (N SL : Nat) (SX : Nat → Int32) (G : gOK γ) (hb : gcc γ = code) (ho : gow γ = RL) (hy : gly γ = gyL) (hR : grm γ = room_1) (he : genv γ = ε) (hr : grt γ = some .boolean) (hE : gEnv ε) (hEL : gEnvL ε) (hSc : gSc ε SL SX) (hc9 : cs + 1 ≤ c2 ∧ ss + 6 ≤ s2 ∧ c2 ≤ 601024 ∧ s2 ≤ 7293033) (K23 : gK) (h23 : gSm γ c2 s2 23 K23) : gSm γ cs ss 2103 (fL_law_k2103 N SL SX K23) := by
  unfold fL_law_k2103
  refine sm_aload_n (pc := 2103) G hb (by decide +kernel : decode code 2103 = .ok (.aload_n 1, 1)) rfl ?_
  refine sm_aload_n (pc := 2104) G hb (by decide +kernel : decode code 2104 = .ok (.aload_n 3, 1)) rfl ?_
  refine sm_mono (ca_sub gI_sub) (sm_callW (pc := 2105) G hb ho hy he hE.1 2 [0, 1, 2, 3, 4, 5, 6, 7, 8, 9, 10, 11, 12, 13, 14, 15, 16, 17, 18, 19, 20, 21, 22, 23, 24, 25, 26, 27, 28, 29, 30, 31, 32, 33, 34, 35, 36, 37, 38, 39, 40, 41, 42, 43, 44, 45, 46, 47, 48, 49, 50, 51, 52, 53, 54, 55, 56, 57, 58, 59, 60, 61, 62, 63, 64, 65, 66, 67, 68, 69, 70, 71, 72, 73, 74, 75, 76, 77, 78, 79, 80, 81, 82, 83, 84, 85, 86, 87, 88, 89, 90, 91, 92, 93, 94, 95, 96, 97, 98, 99, 100, 101, 102, 103, 104, 105, 106, 107, 108, 109, 110, 111, 112, 113, 114, 115, 116, 117, 118, 119, 120, 121, 122, 123, 124, 125, 126, 127, 128, 129, 130, 131, 132, 133, 134, 135, 136, 137, 138, 139, 140, 141, 142, 143, 144, 145, 146, 147, 148, 149, 150, 151, 152, 153, 154, 155, 156, 157, 158, 159, 160, 161, 162, 163, 164, 165, 166, 167, 168, 169, 170, 171, 172, 173, 174, 175, 176, 177, 178, 179, 180, 181, 182, 183, 184, 185, 186, 187, 188, 189, 190, 191, 192, 193, 194, 195, 196, 197, 198, 199, 200, 201, 202, 203, 222] (kL_urgent hEL N) (gCo_of (by decide +kernel)) (by rw [hR]; exact ⟨by decide, by decide⟩) (by rw [hR]; exact ⟨by show _ ≤ 601024; omega, by show _ ≤ 7293033; omega⟩) (by decide +kernel) gw5_115 gw5_116 gw1_0 gw5_117 (by decide +kernel : decode code 2105 = .ok (.invokestatic 258, 3)) ?_)
  refine sm_istore (pc := 2108) G hb (by decide +kernel : decode code 2108 = .ok (.istore 5, 2)) ?_
  refine sm_aload_n (pc := 2110) G hb (by decide +kernel : decode code 2110 = .ok (.aload_n 2, 1)) rfl ?_
  refine sm_mono (cav_sub gI_sub) (sm_callV (pc := 2111) (N := 32) (T := TX9) (C := RX9) G hb ho hy he hE.1 1 [204, 205, 206, 207, 208, 209, 210, 211, 212, 213, 214, 215, 216, 217, 218, 219, 220, 221] (kX9_urgent hE N) (gCo_of (by decide +kernel)) (by rw [hR]; exact ⟨by decide, by decide⟩) rfl rfl (by decide +kernel) gw8_35 gw8_36 gw8_37 gw1_11 gw8_38 (by decide +kernel : decode code 2111 = .ok (.invokevirtual 260, 3)) ?_)
  refine sm_istore (pc := 2114) G hb (by decide +kernel : decode code 2114 = .ok (.istore 6, 2)) ?_
  refine sm_aload_n (pc := 2116) G hb (by decide +kernel : decode code 2116 = .ok (.aload_n 2, 1)) rfl ?_
  refine sm_mono (cav_sub gI_sub) (sm_callV (pc := 2117) (N := 32) (T := TX9) (C := RX9) G hb ho hy he hE.1 1 [204, 205, 206, 207, 208, 209, 210, 211, 212, 213, 214, 215, 216, 217, 218, 219, 220, 221] (kX9_thrown hE N) (gCo_of (by decide +kernel)) (by rw [hR]; exact ⟨by decide, by decide⟩) rfl rfl (by decide +kernel) gw6_94 gw6_95 gw6_96 gw1_11 gw6_97 (by decide +kernel : decode code 2117 = .ok (.invokevirtual 151, 3)) ?_)
  refine sm_mask ?_
  exact fL_law_s2120 N SL SX G hb ho hy hR he hr hE hEL hSc (by omega) K23 h23
set_option maxRecDepth 100000 in
set_option maxHeartbeats 8000000 in
theorem fL_law_s2228 {γ : gG} {cs ss c2 s2 : Nat} {ε : gE5} (N SL : Nat) (SX : Nat → Int32) (G : gOK γ) (hb : gcc γ = code) (ho : gow γ = RL) (hy : gly γ = gyL) (hR : grm γ = room_1) (he : genv γ = ε) (hr : grt γ = some .boolean) (hE : gEnv ε) (hEL : gEnvL ε) (hSc : gSc ε SL SX) (hc9 : cs + 0 ≤ c2 ∧ ss + 0 ≤ s2 ∧ c2 ≤ 601024 ∧ s2 ≤ 7293033) (K23 : gK) (h23 : gSm γ c2 s2 23 K23) : gSm γ cs ss 2228 (fL_law_k2228 N SL SX K23) := by
  unfold fL_law_k2228
  refine sm_goto (pc := 2228) (tgt := 2794) G hb (by decide +kernel : decode code 2228 = .ok (.goto 566, 3)) (by decide) ?_
  refine sm_mask ?_
  exact fL_law_s2794 N SL SX G hb ho hy hR he hr hE hEL hSc (by omega) K23 h23
set_option maxRecDepth 100000 in
set_option maxHeartbeats 8000000 in
theorem fL_law_s2195 {γ : gG} {cs ss c2 s2 : Nat} {ε : gE5} (N SL : Nat) (SX : Nat → Int32) (G : gOK γ) (hb : gcc γ = code) (ho : gow γ = RL) (hy : gly γ = gyL) (hR : grm γ = room_1) (he : genv γ = ε) (hr : grt γ = some .boolean) (hE : gEnv ε) (hEL : gEnvL ε) (hSc : gSc ε SL SX) (hc9 : cs + 0 ≤ c2 ∧ ss + 0 ≤ s2 ∧ c2 ≤ 601024 ∧ s2 ≤ 7293033) (K23 : gK) (h23 : gSm γ c2 s2 23 K23) : gSm γ cs ss 2195 (fL_law_k2195 N SL SX K23) := by
  unfold fL_law_k2195
  refine sm_mono (cav_sub gI_sub) (sm_callV (pc := 2195) (N := 32) (T := TX9) (C := RX9) G hb ho hy he hE.1 3 [204, 205, 206, 207, 208, 209, 210, 211, 212, 213, 214, 215, 216, 217, 218, 219, 220, 221] (kX9_meanDelay hE N) (gCo_of (by decide +kernel)) (by rw [hR]; exact ⟨by decide, by decide⟩) rfl rfl (by decide +kernel) gw8_39 gw8_40 gw8_41 gw1_11 gw8_42 (by decide +kernel : decode code 2195 = .ok (.invokevirtual 264, 3)) ?_)
  refine sm_istore (pc := 2198) G hb (by decide +kernel : decode code 2198 = .ok (.istore 6, 2)) ?_
  refine sm_aload_n (pc := 2200) G hb (by decide +kernel : decode code 2200 = .ok (.aload_n 2, 1)) rfl ?_
  refine sm_mono (cav_sub gI_sub) (sm_callV (pc := 2201) (N := 32) (T := TX9) (C := RX9) G hb ho hy he hE.1 1 [204, 205, 206, 207, 208, 209, 210, 211, 212, 213, 214, 215, 216, 217, 218, 219, 220, 221] (kX9_thrown hE N) (gCo_of (by decide +kernel)) (by rw [hR]; exact ⟨by decide, by decide⟩) rfl rfl (by decide +kernel) gw6_94 gw6_95 gw6_96 gw1_11 gw6_97 (by decide +kernel : decode code 2201 = .ok (.invokevirtual 151, 3)) ?_)
  refine sm_iload (pc := 2204) G hb (by decide +kernel : decode code 2204 = .ok (.iload 5, 2)) ?_
  refine sm_icmp_eq (pc := 2206) (tgt := 2211) G hb (by decide +kernel : decode code 2206 = .ok (.if_icmp .eq 5, 3)) (by decide) ?_ ?_
  · skip
    refine sm_iload (pc := 2211) G hb (by decide +kernel : decode code 2211 = .ok (.iload 5, 2)) ?_
    refine sm_if_ne (pc := 2213) (tgt := 2228) G hb (by decide +kernel : decode code 2213 = .ok (.ifCond .ne 15, 3)) (by decide) ?_ ?_
    · skip
      refine sm_mask ?_
      exact fL_law_s2228 N SL SX G hb ho hy hR he hr hE hEL hSc (by omega) K23 h23
    · skip
      refine sm_aload_n (pc := 2216) G hb (by decide +kernel : decode code 2216 = .ok (.aload_n 3, 1)) rfl ?_
      refine sm_iconst (pc := 2217) G hb (by decide +kernel : decode code 2217 = .ok (.iconst 0, 1)) (by decide) ?_
      refine sm_lald (pc := 2218) G hb hy (by decide +kernel : decode code 2218 = .ok (.laload, 1)) ?_
      refine sm_iload (pc := 2219) G hb (by decide +kernel : decode code 2219 = .ok (.iload 6, 2)) ?_
      refine sm_i2l (pc := 2221) G hb (by decide +kernel : decode code 2221 = .ok (.i2l, 1)) ?_
      refine sm_lcmp (pc := 2222) G hb (by decide +kernel : decode code 2222 = .ok (.lcmp, 1)) ?_
      refine sm_if_eq (pc := 2223) (tgt := 2228) G hb (by decide +kernel : decode code 2223 = .ok (.ifCond .eq 5, 3)) (by decide) ?_ ?_
      · skip
        refine sm_mask ?_
        exact fL_law_s2228 N SL SX G hb ho hy hR he hr hE hEL hSc (by omega) K23 h23
      · skip
        refine sm_iconst (pc := 2226) G hb (by decide +kernel : decode code 2226 = .ok (.iconst 0, 1)) (by decide) ?_
        exact sm_zret (pc := 2227) G hb (by decide +kernel : decode code 2227 = .ok (.ireturn, 1)) hr
  · skip
    refine sm_iconst (pc := 2209) G hb (by decide +kernel : decode code 2209 = .ok (.iconst 0, 1)) (by decide) ?_
    exact sm_zret (pc := 2210) G hb (by decide +kernel : decode code 2210 = .ok (.ireturn, 1)) hr
set_option maxRecDepth 100000 in
set_option maxHeartbeats 8000000 in
theorem fL_law_s2168 {γ : gG} {cs ss c2 s2 : Nat} {ε : gE5} (N SL : Nat) (SX : Nat → Int32) (G : gOK γ) (hb : gcc γ = code) (ho : gow γ = RL) (hy : gly γ = gyL) (hR : grm γ = room_1) (he : genv γ = ε) (hr : grt γ = some .boolean) (hE : gEnv ε) (hEL : gEnvL ε) (hSc : gSc ε SL SX) (hc9 : cs + 2 ≤ c2 ∧ ss + 12 ≤ s2 ∧ c2 ≤ 601024 ∧ s2 ≤ 7293033) (K23 : gK) (h23 : gSm γ c2 s2 23 K23) : gSm γ cs ss 2168 (fL_law_k2168 N SL SX K23) := by
  unfold fL_law_k2168
  refine sm_aload_n (pc := 2168) G hb (by decide +kernel : decode code 2168 = .ok (.aload_n 3, 1)) rfl ?_
  refine sm_mono (ca_sub gI_sub) (sm_callW (pc := 2169) G hb ho hy he hE.1 4 [0, 1, 2, 3, 4, 5, 6, 7, 8, 9, 10, 11, 12, 13, 14, 15, 16, 17, 18, 19, 20, 21, 22, 23, 24, 25, 26, 27, 28, 29, 30, 31, 32, 33, 34, 35, 36, 37, 38, 39, 40, 41, 42, 43, 44, 45, 46, 47, 48, 49, 50, 51, 52, 53, 54, 55, 56, 57, 58, 59, 60, 61, 62, 63, 64, 65, 66, 67, 68, 69, 70, 71, 72, 73, 74, 75, 76, 77, 78, 79, 80, 81, 82, 83, 84, 85, 86, 87, 88, 89, 90, 91, 92, 93, 94, 95, 96, 97, 98, 99, 100, 101, 102, 103, 104, 105, 106, 107, 108, 109, 110, 111, 112, 113, 114, 115, 116, 117, 118, 119, 120, 121, 122, 123, 124, 125, 126, 127, 128, 129, 130, 131, 132, 133, 134, 135, 136, 137, 138, 139, 140, 141, 142, 143, 144, 145, 146, 147, 148, 149, 150, 151, 152, 153, 154, 155, 156, 157, 158, 159, 160, 161, 162, 163, 164, 165, 166, 167, 168, 169, 170, 171, 172, 173, 174, 175, 176, 177, 178, 179, 180, 181, 182, 183, 184, 185, 186, 187, 188, 189, 190, 191, 192, 193, 194, 195, 196, 197, 198, 199, 200, 201, 202, 203, 222] (kL_meanDelay hEL N) (gCo_of (by decide +kernel)) (by rw [hR]; exact ⟨by decide, by decide⟩) (by rw [hR]; exact ⟨by show _ ≤ 601024; omega, by show _ ≤ 7293033; omega⟩) (by decide +kernel) gw5_128 gw5_129 gw1_0 gw5_130 (by decide +kernel : decode code 2169 = .ok (.invokestatic 261, 3)) ?_)
  refine sm_istore (pc := 2172) G hb (by decide +kernel : decode code 2172 = .ok (.istore 5, 2)) ?_
  refine sm_aload_n (pc := 2174) G hb (by decide +kernel : decode code 2174 = .ok (.aload_n 2, 1)) rfl ?_
  refine sm_aload_n (pc := 2175) G hb (by decide +kernel : decode code 2175 = .ok (.aload_n 0, 1)) rfl ?_
  refine sm_iload (pc := 2176) G hb (by decide +kernel : decode code 2176 = .ok (.iload 4, 2)) ?_
  refine sm_iconst (pc := 2178) G hb (by decide +kernel : decode code 2178 = .ok (.iconst 1, 1)) (by decide) ?_
  refine sm_iadd (pc := 2179) G hb (by decide +kernel : decode code 2179 = .ok (.iadd, 1)) ?_
  refine sm_sld (pc := 2180) G hb ho he hE hSc (by decide +kernel : decode code 2180 = .ok (.iaload, 1)) ?_
  refine sm_aload_n (pc := 2181) G hb (by decide +kernel : decode code 2181 = .ok (.aload_n 0, 1)) rfl ?_
  refine sm_iload (pc := 2182) G hb (by decide +kernel : decode code 2182 = .ok (.iload 4, 2)) ?_
  refine sm_iconst (pc := 2184) G hb (by decide +kernel : decode code 2184 = .ok (.iconst 2, 1)) (by decide) ?_
  refine sm_iadd (pc := 2185) G hb (by decide +kernel : decode code 2185 = .ok (.iadd, 1)) ?_
  refine sm_sld (pc := 2186) G hb ho he hE hSc (by decide +kernel : decode code 2186 = .ok (.iaload, 1)) ?_
  refine sm_if_eq (pc := 2187) (tgt := 2194) G hb (by decide +kernel : decode code 2187 = .ok (.ifCond .eq 7, 3)) (by decide) ?_ ?_
  · skip
    refine sm_iconst (pc := 2194) G hb (by decide +kernel : decode code 2194 = .ok (.iconst 0, 1)) (by decide) ?_
    refine sm_mask ?_
    exact fL_law_s2195 N SL SX G hb ho hy hR he hr hE hEL hSc (by omega) K23 h23
  · skip
    refine sm_iconst (pc := 2190) G hb (by decide +kernel : decode code 2190 = .ok (.iconst 1, 1)) (by decide) ?_
    refine sm_goto (pc := 2191) (tgt := 2195) G hb (by decide +kernel : decode code 2191 = .ok (.goto 4, 3)) (by decide) ?_
    refine sm_mask ?_
    exact fL_law_s2195 N SL SX G hb ho hy hR he hr hE hEL hSc (by omega) K23 h23
set_option maxRecDepth 100000 in
set_option maxHeartbeats 8000000 in
theorem fL_law_s2147 {γ : gG} {cs ss c2 s2 : Nat} {ε : gE5} (N SL : Nat) (SX : Nat → Int32) (G : gOK γ) (hb : gcc γ = code) (ho : gow γ = RL) (hy : gly γ = gyL) (hR : grm γ = room_1) (he : genv γ = ε) (hr : grt γ = some .boolean) (hE : gEnv ε) (hEL : gEnvL ε) (hSc : gSc ε SL SX) (hc9 : cs + 2 ≤ c2 ∧ ss + 12 ≤ s2 ∧ c2 ≤ 601024 ∧ s2 ≤ 7293033) (K23 : gK) (h23 : gSm γ c2 s2 23 K23) : gSm γ cs ss 2147 (fL_law_k2147 N SL SX K23) := by
  unfold fL_law_k2147
  refine sm_aload_n (pc := 2147) G hb (by decide +kernel : decode code 2147 = .ok (.aload_n 1, 1)) rfl ?_
  refine sm_aload_n (pc := 2148) G hb (by decide +kernel : decode code 2148 = .ok (.aload_n 0, 1)) rfl ?_
  refine sm_iload (pc := 2149) G hb (by decide +kernel : decode code 2149 = .ok (.iload 4, 2)) ?_
  refine sm_iconst (pc := 2151) G hb (by decide +kernel : decode code 2151 = .ok (.iconst 1, 1)) (by decide) ?_
  refine sm_iadd (pc := 2152) G hb (by decide +kernel : decode code 2152 = .ok (.iadd, 1)) ?_
  refine sm_sld (pc := 2153) G hb ho he hE hSc (by decide +kernel : decode code 2153 = .ok (.iaload, 1)) ?_
  refine sm_aload_n (pc := 2154) G hb (by decide +kernel : decode code 2154 = .ok (.aload_n 0, 1)) rfl ?_
  refine sm_iload (pc := 2155) G hb (by decide +kernel : decode code 2155 = .ok (.iload 4, 2)) ?_
  refine sm_iconst (pc := 2157) G hb (by decide +kernel : decode code 2157 = .ok (.iconst 2, 1)) (by decide) ?_
  refine sm_iadd (pc := 2158) G hb (by decide +kernel : decode code 2158 = .ok (.iadd, 1)) ?_
  refine sm_sld (pc := 2159) G hb ho he hE hSc (by decide +kernel : decode code 2159 = .ok (.iaload, 1)) ?_
  refine sm_if_eq (pc := 2160) (tgt := 2167) G hb (by decide +kernel : decode code 2160 = .ok (.ifCond .eq 7, 3)) (by decide) ?_ ?_
  · skip
    refine sm_iconst (pc := 2167) G hb (by decide +kernel : decode code 2167 = .ok (.iconst 0, 1)) (by decide) ?_
    refine sm_mask ?_
    exact fL_law_s2168 N SL SX G hb ho hy hR he hr hE hEL hSc (by omega) K23 h23
  · skip
    refine sm_iconst (pc := 2163) G hb (by decide +kernel : decode code 2163 = .ok (.iconst 1, 1)) (by decide) ?_
    refine sm_goto (pc := 2164) (tgt := 2168) G hb (by decide +kernel : decode code 2164 = .ok (.goto 4, 3)) (by decide) ?_
    refine sm_mask ?_
    exact fL_law_s2168 N SL SX G hb ho hy hR he hr hE hEL hSc (by omega) K23 h23
set_option maxRecDepth 100000 in
set_option maxHeartbeats 8000000 in
theorem fL_law_s2284 {γ : gG} {cs ss c2 s2 : Nat} {ε : gE5} (N SL : Nat) (SX : Nat → Int32) (G : gOK γ) (hb : gcc γ = code) (ho : gow γ = RL) (hy : gly γ = gyL) (hR : grm γ = room_1) (he : genv γ = ε) (hr : grt γ = some .boolean) (hE : gEnv ε) (hEL : gEnvL ε) (hSc : gSc ε SL SX) (hc9 : cs + 0 ≤ c2 ∧ ss + 0 ≤ s2 ∧ c2 ≤ 601024 ∧ s2 ≤ 7293033) (K23 : gK) (h23 : gSm γ c2 s2 23 K23) : gSm γ cs ss 2284 (fL_law_k2284 N SL SX K23) := by
  unfold fL_law_k2284
  refine sm_goto (pc := 2284) (tgt := 2794) G hb (by decide +kernel : decode code 2284 = .ok (.goto 510, 3)) (by decide) ?_
  refine sm_mask ?_
  exact fL_law_s2794 N SL SX G hb ho hy hR he hr hE hEL hSc (by omega) K23 h23
set_option maxRecDepth 100000 in
set_option maxHeartbeats 8000000 in
theorem fL_law_s2260 {γ : gG} {cs ss c2 s2 : Nat} {ε : gE5} (N SL : Nat) (SX : Nat → Int32) (G : gOK γ) (hb : gcc γ = code) (ho : gow γ = RL) (hy : gly γ = gyL) (hR : grm γ = room_1) (he : genv γ = ε) (hr : grt γ = some .boolean) (hE : gEnv ε) (hEL : gEnvL ε) (hSc : gSc ε SL SX) (hc9 : cs + 0 ≤ c2 ∧ ss + 0 ≤ s2 ∧ c2 ≤ 601024 ∧ s2 ≤ 7293033) (K23 : gK) (h23 : gSm γ c2 s2 23 K23) : gSm γ cs ss 2260 (fL_law_k2260 N SL SX K23) := by
  unfold fL_law_k2260
  refine sm_iload (pc := 2260) G hb (by decide +kernel : decode code 2260 = .ok (.iload 5, 2)) ?_
  refine sm_icmp_eq (pc := 2262) (tgt := 2267) G hb (by decide +kernel : decode code 2262 = .ok (.if_icmp .eq 5, 3)) (by decide) ?_ ?_
  · skip
    refine sm_iload (pc := 2267) G hb (by decide +kernel : decode code 2267 = .ok (.iload 5, 2)) ?_
    refine sm_if_ne (pc := 2269) (tgt := 2284) G hb (by decide +kernel : decode code 2269 = .ok (.ifCond .ne 15, 3)) (by decide) ?_ ?_
    · skip
      refine sm_mask ?_
      exact fL_law_s2284 N SL SX G hb ho hy hR he hr hE hEL hSc (by omega) K23 h23
    · skip
      refine sm_aload_n (pc := 2272) G hb (by decide +kernel : decode code 2272 = .ok (.aload_n 3, 1)) rfl ?_
      refine sm_iconst (pc := 2273) G hb (by decide +kernel : decode code 2273 = .ok (.iconst 0, 1)) (by decide) ?_
      refine sm_lald (pc := 2274) G hb hy (by decide +kernel : decode code 2274 = .ok (.laload, 1)) ?_
      refine sm_iload (pc := 2275) G hb (by decide +kernel : decode code 2275 = .ok (.iload 6, 2)) ?_
      refine sm_i2l (pc := 2277) G hb (by decide +kernel : decode code 2277 = .ok (.i2l, 1)) ?_
      refine sm_lcmp (pc := 2278) G hb (by decide +kernel : decode code 2278 = .ok (.lcmp, 1)) ?_
      refine sm_if_eq (pc := 2279) (tgt := 2284) G hb (by decide +kernel : decode code 2279 = .ok (.ifCond .eq 5, 3)) (by decide) ?_ ?_
      · skip
        refine sm_mask ?_
        exact fL_law_s2284 N SL SX G hb ho hy hR he hr hE hEL hSc (by omega) K23 h23
      · skip
        refine sm_iconst (pc := 2282) G hb (by decide +kernel : decode code 2282 = .ok (.iconst 0, 1)) (by decide) ?_
        exact sm_zret (pc := 2283) G hb (by decide +kernel : decode code 2283 = .ok (.ireturn, 1)) hr
  · skip
    refine sm_iconst (pc := 2265) G hb (by decide +kernel : decode code 2265 = .ok (.iconst 0, 1)) (by decide) ?_
    exact sm_zret (pc := 2266) G hb (by decide +kernel : decode code 2266 = .ok (.ireturn, 1)) hr
set_option maxRecDepth 100000 in
set_option maxHeartbeats 8000000 in
theorem fL_law_s2231 {γ : gG} {cs ss c2 s2 : Nat} {ε : gE5} (N SL : Nat) (SX : Nat → Int32) (G : gOK γ) (hb : gcc γ = code) (ho : gow γ = RL) (hy : gly γ = gyL) (hR : grm γ = room_1) (he : genv γ = ε) (hr : grt γ = some .boolean) (hE : gEnv ε) (hEL : gEnvL ε) (hSc : gSc ε SL SX) (hc9 : cs + 1 ≤ c2 ∧ ss + 6 ≤ s2 ∧ c2 ≤ 601024 ∧ s2 ≤ 7293033) (K23 : gK) (h23 : gSm γ c2 s2 23 K23) : gSm γ cs ss 2231 (fL_law_k2231 N SL SX K23) := by
  unfold fL_law_k2231
  refine sm_aload_n (pc := 2231) G hb (by decide +kernel : decode code 2231 = .ok (.aload_n 1, 1)) rfl ?_
  refine sm_aload_n (pc := 2232) G hb (by decide +kernel : decode code 2232 = .ok (.aload_n 0, 1)) rfl ?_
  refine sm_iload (pc := 2233) G hb (by decide +kernel : decode code 2233 = .ok (.iload 4, 2)) ?_
  refine sm_iconst (pc := 2235) G hb (by decide +kernel : decode code 2235 = .ok (.iconst 1, 1)) (by decide) ?_
  refine sm_iadd (pc := 2236) G hb (by decide +kernel : decode code 2236 = .ok (.iadd, 1)) ?_
  refine sm_sld (pc := 2237) G hb ho he hE hSc (by decide +kernel : decode code 2237 = .ok (.iaload, 1)) ?_
  refine sm_aload_n (pc := 2238) G hb (by decide +kernel : decode code 2238 = .ok (.aload_n 3, 1)) rfl ?_
  refine sm_mono (ca_sub gI_sub) (sm_callW (pc := 2239) G hb ho hy he hE.1 3 [0, 1, 2, 3, 4, 5, 6, 7, 8, 9, 10, 11, 12, 13, 14, 15, 16, 17, 18, 19, 20, 21, 22, 23, 24, 25, 26, 27, 28, 29, 30, 31, 32, 33, 34, 35, 36, 37, 38, 39, 40, 41, 42, 43, 44, 45, 46, 47, 48, 49, 50, 51, 52, 53, 54, 55, 56, 57, 58, 59, 60, 61, 62, 63, 64, 65, 66, 67, 68, 69, 70, 71, 72, 73, 74, 75, 76, 77, 78, 79, 80, 81, 82, 83, 84, 85, 86, 87, 88, 89, 90, 91, 92, 93, 94, 95, 96, 97, 98, 99, 100, 101, 102, 103, 104, 105, 106, 107, 108, 109, 110, 111, 112, 113, 114, 115, 116, 117, 118, 119, 120, 121, 122, 123, 124, 125, 126, 127, 128, 129, 130, 131, 132, 133, 134, 135, 136, 137, 138, 139, 140, 141, 142, 143, 144, 145, 146, 147, 148, 149, 150, 151, 152, 153, 154, 155, 156, 157, 158, 159, 160, 161, 162, 163, 164, 165, 166, 167, 168, 169, 170, 171, 172, 173, 174, 175, 176, 177, 178, 179, 180, 181, 182, 183, 184, 185, 186, 187, 188, 189, 190, 191, 192, 193, 194, 195, 196, 197, 198, 199, 200, 201, 202, 203, 222] (kL_schedule hEL N) (gCo_of (by decide +kernel)) (by rw [hR]; exact ⟨by decide, by decide⟩) (by rw [hR]; exact ⟨by show _ ≤ 601024; omega, by show _ ≤ 7293033; omega⟩) (by decide +kernel) gw5_139 gw5_140 gw1_0 gw5_141 (by decide +kernel : decode code 2239 = .ok (.invokestatic 265, 3)) ?_)
  refine sm_istore (pc := 2242) G hb (by decide +kernel : decode code 2242 = .ok (.istore 5, 2)) ?_
  refine sm_aload_n (pc := 2244) G hb (by decide +kernel : decode code 2244 = .ok (.aload_n 2, 1)) rfl ?_
  refine sm_aload_n (pc := 2245) G hb (by decide +kernel : decode code 2245 = .ok (.aload_n 0, 1)) rfl ?_
  refine sm_iload (pc := 2246) G hb (by decide +kernel : decode code 2246 = .ok (.iload 4, 2)) ?_
  refine sm_iconst (pc := 2248) G hb (by decide +kernel : decode code 2248 = .ok (.iconst 1, 1)) (by decide) ?_
  refine sm_iadd (pc := 2249) G hb (by decide +kernel : decode code 2249 = .ok (.iadd, 1)) ?_
  refine sm_sld (pc := 2250) G hb ho he hE hSc (by decide +kernel : decode code 2250 = .ok (.iaload, 1)) ?_
  refine sm_mono (cav_sub gI_sub) (sm_callV (pc := 2251) (N := 32) (T := TX9) (C := RX9) G hb ho hy he hE.1 2 [204, 205, 206, 207, 208, 209, 210, 211, 212, 213, 214, 215, 216, 217, 218, 219, 220, 221] (kX9_schedule hE N) (gCo_of (by decide +kernel)) (by rw [hR]; exact ⟨by decide, by decide⟩) rfl rfl (by decide +kernel) gw8_46 gw8_47 gw8_48 gw1_11 gw8_49 (by decide +kernel : decode code 2251 = .ok (.invokevirtual 267, 3)) ?_)
  refine sm_istore (pc := 2254) G hb (by decide +kernel : decode code 2254 = .ok (.istore 6, 2)) ?_
  refine sm_aload_n (pc := 2256) G hb (by decide +kernel : decode code 2256 = .ok (.aload_n 2, 1)) rfl ?_
  refine sm_mono (cav_sub gI_sub) (sm_callV (pc := 2257) (N := 32) (T := TX9) (C := RX9) G hb ho hy he hE.1 1 [204, 205, 206, 207, 208, 209, 210, 211, 212, 213, 214, 215, 216, 217, 218, 219, 220, 221] (kX9_thrown hE N) (gCo_of (by decide +kernel)) (by rw [hR]; exact ⟨by decide, by decide⟩) rfl rfl (by decide +kernel) gw6_94 gw6_95 gw6_96 gw1_11 gw6_97 (by decide +kernel : decode code 2257 = .ok (.invokevirtual 151, 3)) ?_)
  refine sm_mask ?_
  exact fL_law_s2260 N SL SX G hb ho hy hR he hr hE hEL hSc (by omega) K23 h23
set_option maxRecDepth 100000 in
set_option maxHeartbeats 8000000 in
theorem fL_law_s2340 {γ : gG} {cs ss c2 s2 : Nat} {ε : gE5} (N SL : Nat) (SX : Nat → Int32) (G : gOK γ) (hb : gcc γ = code) (ho : gow γ = RL) (hy : gly γ = gyL) (hR : grm γ = room_1) (he : genv γ = ε) (hr : grt γ = some .boolean) (hE : gEnv ε) (hEL : gEnvL ε) (hSc : gSc ε SL SX) (hc9 : cs + 0 ≤ c2 ∧ ss + 0 ≤ s2 ∧ c2 ≤ 601024 ∧ s2 ≤ 7293033) (K23 : gK) (h23 : gSm γ c2 s2 23 K23) : gSm γ cs ss 2340 (fL_law_k2340 N SL SX K23) := by
  unfold fL_law_k2340
  refine sm_goto (pc := 2340) (tgt := 2794) G hb (by decide +kernel : decode code 2340 = .ok (.goto 454, 3)) (by decide) ?_
  refine sm_mask ?_
  exact fL_law_s2794 N SL SX G hb ho hy hR he hr hE hEL hSc (by omega) K23 h23
set_option maxRecDepth 100000 in
set_option maxHeartbeats 8000000 in
theorem fL_law_s2316 {γ : gG} {cs ss c2 s2 : Nat} {ε : gE5} (N SL : Nat) (SX : Nat → Int32) (G : gOK γ) (hb : gcc γ = code) (ho : gow γ = RL) (hy : gly γ = gyL) (hR : grm γ = room_1) (he : genv γ = ε) (hr : grt γ = some .boolean) (hE : gEnv ε) (hEL : gEnvL ε) (hSc : gSc ε SL SX) (hc9 : cs + 0 ≤ c2 ∧ ss + 0 ≤ s2 ∧ c2 ≤ 601024 ∧ s2 ≤ 7293033) (K23 : gK) (h23 : gSm γ c2 s2 23 K23) : gSm γ cs ss 2316 (fL_law_k2316 N SL SX K23) := by
  unfold fL_law_k2316
  refine sm_iload (pc := 2316) G hb (by decide +kernel : decode code 2316 = .ok (.iload 5, 2)) ?_
  refine sm_icmp_eq (pc := 2318) (tgt := 2323) G hb (by decide +kernel : decode code 2318 = .ok (.if_icmp .eq 5, 3)) (by decide) ?_ ?_
  · skip
    refine sm_iload (pc := 2323) G hb (by decide +kernel : decode code 2323 = .ok (.iload 5, 2)) ?_
    refine sm_if_ne (pc := 2325) (tgt := 2340) G hb (by decide +kernel : decode code 2325 = .ok (.ifCond .ne 15, 3)) (by decide) ?_ ?_
    · skip
      refine sm_mask ?_
      exact fL_law_s2340 N SL SX G hb ho hy hR he hr hE hEL hSc (by omega) K23 h23
    · skip
      refine sm_aload_n (pc := 2328) G hb (by decide +kernel : decode code 2328 = .ok (.aload_n 3, 1)) rfl ?_
      refine sm_iconst (pc := 2329) G hb (by decide +kernel : decode code 2329 = .ok (.iconst 0, 1)) (by decide) ?_
      refine sm_lald (pc := 2330) G hb hy (by decide +kernel : decode code 2330 = .ok (.laload, 1)) ?_
      refine sm_iload (pc := 2331) G hb (by decide +kernel : decode code 2331 = .ok (.iload 6, 2)) ?_
      refine sm_i2l (pc := 2333) G hb (by decide +kernel : decode code 2333 = .ok (.i2l, 1)) ?_
      refine sm_lcmp (pc := 2334) G hb (by decide +kernel : decode code 2334 = .ok (.lcmp, 1)) ?_
      refine sm_if_eq (pc := 2335) (tgt := 2340) G hb (by decide +kernel : decode code 2335 = .ok (.ifCond .eq 5, 3)) (by decide) ?_ ?_
      · skip
        refine sm_mask ?_
        exact fL_law_s2340 N SL SX G hb ho hy hR he hr hE hEL hSc (by omega) K23 h23
      · skip
        refine sm_iconst (pc := 2338) G hb (by decide +kernel : decode code 2338 = .ok (.iconst 0, 1)) (by decide) ?_
        exact sm_zret (pc := 2339) G hb (by decide +kernel : decode code 2339 = .ok (.ireturn, 1)) hr
  · skip
    refine sm_iconst (pc := 2321) G hb (by decide +kernel : decode code 2321 = .ok (.iconst 0, 1)) (by decide) ?_
    exact sm_zret (pc := 2322) G hb (by decide +kernel : decode code 2322 = .ok (.ireturn, 1)) hr
set_option maxRecDepth 100000 in
set_option maxHeartbeats 8000000 in
theorem fL_law_s2287 {γ : gG} {cs ss c2 s2 : Nat} {ε : gE5} (N SL : Nat) (SX : Nat → Int32) (G : gOK γ) (hb : gcc γ = code) (ho : gow γ = RL) (hy : gly γ = gyL) (hR : grm γ = room_1) (he : genv γ = ε) (hr : grt γ = some .boolean) (hE : gEnv ε) (hEL : gEnvL ε) (hSc : gSc ε SL SX) (hc9 : cs + 1 ≤ c2 ∧ ss + 6 ≤ s2 ∧ c2 ≤ 601024 ∧ s2 ≤ 7293033) (K23 : gK) (h23 : gSm γ c2 s2 23 K23) : gSm γ cs ss 2287 (fL_law_k2287 N SL SX K23) := by
  unfold fL_law_k2287
  refine sm_aload_n (pc := 2287) G hb (by decide +kernel : decode code 2287 = .ok (.aload_n 1, 1)) rfl ?_
  refine sm_aload_n (pc := 2288) G hb (by decide +kernel : decode code 2288 = .ok (.aload_n 0, 1)) rfl ?_
  refine sm_iload (pc := 2289) G hb (by decide +kernel : decode code 2289 = .ok (.iload 4, 2)) ?_
  refine sm_iconst (pc := 2291) G hb (by decide +kernel : decode code 2291 = .ok (.iconst 1, 1)) (by decide) ?_
  refine sm_iadd (pc := 2292) G hb (by decide +kernel : decode code 2292 = .ok (.iadd, 1)) ?_
  refine sm_sld (pc := 2293) G hb ho he hE hSc (by decide +kernel : decode code 2293 = .ok (.iaload, 1)) ?_
  refine sm_aload_n (pc := 2294) G hb (by decide +kernel : decode code 2294 = .ok (.aload_n 3, 1)) rfl ?_
  refine sm_mono (ca_sub gI_sub) (sm_callW (pc := 2295) G hb ho hy he hE.1 3 [0, 1, 2, 3, 4, 5, 6, 7, 8, 9, 10, 11, 12, 13, 14, 15, 16, 17, 18, 19, 20, 21, 22, 23, 24, 25, 26, 27, 28, 29, 30, 31, 32, 33, 34, 35, 36, 37, 38, 39, 40, 41, 42, 43, 44, 45, 46, 47, 48, 49, 50, 51, 52, 53, 54, 55, 56, 57, 58, 59, 60, 61, 62, 63, 64, 65, 66, 67, 68, 69, 70, 71, 72, 73, 74, 75, 76, 77, 78, 79, 80, 81, 82, 83, 84, 85, 86, 87, 88, 89, 90, 91, 92, 93, 94, 95, 96, 97, 98, 99, 100, 101, 102, 103, 104, 105, 106, 107, 108, 109, 110, 111, 112, 113, 114, 115, 116, 117, 118, 119, 120, 121, 122, 123, 124, 125, 126, 127, 128, 129, 130, 131, 132, 133, 134, 135, 136, 137, 138, 139, 140, 141, 142, 143, 144, 145, 146, 147, 148, 149, 150, 151, 152, 153, 154, 155, 156, 157, 158, 159, 160, 161, 162, 163, 164, 165, 166, 167, 168, 169, 170, 171, 172, 173, 174, 175, 176, 177, 178, 179, 180, 181, 182, 183, 184, 185, 186, 187, 188, 189, 190, 191, 192, 193, 194, 195, 196, 197, 198, 199, 200, 201, 202, 203, 222] (kL_scheduleWeight hEL N) (gCo_of (by decide +kernel)) (by rw [hR]; exact ⟨by decide, by decide⟩) (by rw [hR]; exact ⟨by show _ ≤ 601024; omega, by show _ ≤ 7293033; omega⟩) (by decide +kernel) gw5_146 gw5_147 gw1_0 gw5_148 (by decide +kernel : decode code 2295 = .ok (.invokestatic 268, 3)) ?_)
  refine sm_istore (pc := 2298) G hb (by decide +kernel : decode code 2298 = .ok (.istore 5, 2)) ?_
  refine sm_aload_n (pc := 2300) G hb (by decide +kernel : decode code 2300 = .ok (.aload_n 2, 1)) rfl ?_
  refine sm_aload_n (pc := 2301) G hb (by decide +kernel : decode code 2301 = .ok (.aload_n 0, 1)) rfl ?_
  refine sm_iload (pc := 2302) G hb (by decide +kernel : decode code 2302 = .ok (.iload 4, 2)) ?_
  refine sm_iconst (pc := 2304) G hb (by decide +kernel : decode code 2304 = .ok (.iconst 1, 1)) (by decide) ?_
  refine sm_iadd (pc := 2305) G hb (by decide +kernel : decode code 2305 = .ok (.iadd, 1)) ?_
  refine sm_sld (pc := 2306) G hb ho he hE hSc (by decide +kernel : decode code 2306 = .ok (.iaload, 1)) ?_
  refine sm_mono (cav_sub gI_sub) (sm_callV (pc := 2307) (N := 32) (T := TX9) (C := RX9) G hb ho hy he hE.1 2 [204, 205, 206, 207, 208, 209, 210, 211, 212, 213, 214, 215, 216, 217, 218, 219, 220, 221] (kX9_scheduleWeight hE N) (gCo_of (by decide +kernel)) (by rw [hR]; exact ⟨by decide, by decide⟩) rfl rfl (by decide +kernel) gw8_50 gw8_51 gw8_52 gw1_11 gw8_53 (by decide +kernel : decode code 2307 = .ok (.invokevirtual 270, 3)) ?_)
  refine sm_istore (pc := 2310) G hb (by decide +kernel : decode code 2310 = .ok (.istore 6, 2)) ?_
  refine sm_aload_n (pc := 2312) G hb (by decide +kernel : decode code 2312 = .ok (.aload_n 2, 1)) rfl ?_
  refine sm_mono (cav_sub gI_sub) (sm_callV (pc := 2313) (N := 32) (T := TX9) (C := RX9) G hb ho hy he hE.1 1 [204, 205, 206, 207, 208, 209, 210, 211, 212, 213, 214, 215, 216, 217, 218, 219, 220, 221] (kX9_thrown hE N) (gCo_of (by decide +kernel)) (by rw [hR]; exact ⟨by decide, by decide⟩) rfl rfl (by decide +kernel) gw6_94 gw6_95 gw6_96 gw1_11 gw6_97 (by decide +kernel : decode code 2313 = .ok (.invokevirtual 151, 3)) ?_)
  refine sm_mask ?_
  exact fL_law_s2316 N SL SX G hb ho hy hR he hr hE hEL hSc (by omega) K23 h23
set_option maxRecDepth 100000 in
set_option maxHeartbeats 8000000 in
theorem fL_law_s2407 {γ : gG} {cs ss c2 s2 : Nat} {ε : gE5} (N SL : Nat) (SX : Nat → Int32) (G : gOK γ) (hb : gcc γ = code) (ho : gow γ = RL) (hy : gly γ = gyL) (hR : grm γ = room_1) (he : genv γ = ε) (hr : grt γ = some .boolean) (hE : gEnv ε) (hEL : gEnvL ε) (hSc : gSc ε SL SX) (hc9 : cs + 0 ≤ c2 ∧ ss + 0 ≤ s2 ∧ c2 ≤ 601024 ∧ s2 ≤ 7293033) (K23 : gK) (h23 : gSm γ c2 s2 23 K23) : gSm γ cs ss 2407 (fL_law_k2407 N SL SX K23) := by
  unfold fL_law_k2407
  refine sm_goto (pc := 2407) (tgt := 2794) G hb (by decide +kernel : decode code 2407 = .ok (.goto 387, 3)) (by decide) ?_
  refine sm_mask ?_
  exact fL_law_s2794 N SL SX G hb ho hy hR he hr hE hEL hSc (by omega) K23 h23
set_option maxRecDepth 100000 in
set_option maxHeartbeats 8000000 in
theorem fL_law_s2384 {γ : gG} {cs ss c2 s2 : Nat} {ε : gE5} (N SL : Nat) (SX : Nat → Int32) (G : gOK γ) (hb : gcc γ = code) (ho : gow γ = RL) (hy : gly γ = gyL) (hR : grm γ = room_1) (he : genv γ = ε) (hr : grt γ = some .boolean) (hE : gEnv ε) (hEL : gEnvL ε) (hSc : gSc ε SL SX) (hc9 : cs + 0 ≤ c2 ∧ ss + 0 ≤ s2 ∧ c2 ≤ 601024 ∧ s2 ≤ 7293033) (K23 : gK) (h23 : gSm γ c2 s2 23 K23) : gSm γ cs ss 2384 (fL_law_k2384 N SL SX K23) := by
  unfold fL_law_k2384
  refine sm_iload (pc := 2384) G hb (by decide +kernel : decode code 2384 = .ok (.iload 5, 2)) ?_
  refine sm_icmp_eq (pc := 2386) (tgt := 2391) G hb (by decide +kernel : decode code 2386 = .ok (.if_icmp .eq 5, 3)) (by decide) ?_ ?_
  · skip
    refine sm_iload (pc := 2391) G hb (by decide +kernel : decode code 2391 = .ok (.iload 5, 2)) ?_
    refine sm_if_ne (pc := 2393) (tgt := 2407) G hb (by decide +kernel : decode code 2393 = .ok (.ifCond .ne 14, 3)) (by decide) ?_ ?_
    · skip
      refine sm_mask ?_
      exact fL_law_s2407 N SL SX G hb ho hy hR he hr hE hEL hSc (by omega) K23 h23
    · skip
      refine sm_aload_n (pc := 2396) G hb (by decide +kernel : decode code 2396 = .ok (.aload_n 3, 1)) rfl ?_
      refine sm_iconst (pc := 2397) G hb (by decide +kernel : decode code 2397 = .ok (.iconst 0, 1)) (by decide) ?_
      refine sm_lald (pc := 2398) G hb hy (by decide +kernel : decode code 2398 = .ok (.laload, 1)) ?_
      refine sm_lload (pc := 2399) G hb (by decide +kernel : decode code 2399 = .ok (.lload 6, 2)) ?_
      refine sm_lcmp (pc := 2401) G hb (by decide +kernel : decode code 2401 = .ok (.lcmp, 1)) ?_
      refine sm_if_eq (pc := 2402) (tgt := 2407) G hb (by decide +kernel : decode code 2402 = .ok (.ifCond .eq 5, 3)) (by decide) ?_ ?_
      · skip
        refine sm_mask ?_
        exact fL_law_s2407 N SL SX G hb ho hy hR he hr hE hEL hSc (by omega) K23 h23
      · skip
        refine sm_iconst (pc := 2405) G hb (by decide +kernel : decode code 2405 = .ok (.iconst 0, 1)) (by decide) ?_
        exact sm_zret (pc := 2406) G hb (by decide +kernel : decode code 2406 = .ok (.ireturn, 1)) hr
  · skip
    refine sm_iconst (pc := 2389) G hb (by decide +kernel : decode code 2389 = .ok (.iconst 0, 1)) (by decide) ?_
    exact sm_zret (pc := 2390) G hb (by decide +kernel : decode code 2390 = .ok (.ireturn, 1)) hr
set_option maxRecDepth 100000 in
set_option maxHeartbeats 8000000 in
theorem fL_law_s2343 {γ : gG} {cs ss c2 s2 : Nat} {ε : gE5} (N SL : Nat) (SX : Nat → Int32) (G : gOK γ) (hb : gcc γ = code) (ho : gow γ = RL) (hy : gly γ = gyL) (hR : grm γ = room_1) (he : genv γ = ε) (hr : grt γ = some .boolean) (hE : gEnv ε) (hEL : gEnvL ε) (hSc : gSc ε SL SX) (hc9 : cs + 2 ≤ c2 ∧ ss + 12 ≤ s2 ∧ c2 ≤ 601024 ∧ s2 ≤ 7293033) (K23 : gK) (h23 : gSm γ c2 s2 23 K23) : gSm γ cs ss 2343 (fL_law_k2343 N SL SX K23) := by
  unfold fL_law_k2343
  refine sm_aload_n (pc := 2343) G hb (by decide +kernel : decode code 2343 = .ok (.aload_n 1, 1)) rfl ?_
  refine sm_aload_n (pc := 2344) G hb (by decide +kernel : decode code 2344 = .ok (.aload_n 0, 1)) rfl ?_
  refine sm_iload (pc := 2345) G hb (by decide +kernel : decode code 2345 = .ok (.iload 4, 2)) ?_
  refine sm_iconst (pc := 2347) G hb (by decide +kernel : decode code 2347 = .ok (.iconst 1, 1)) (by decide) ?_
  refine sm_iadd (pc := 2348) G hb (by decide +kernel : decode code 2348 = .ok (.iadd, 1)) ?_
  refine sm_sld (pc := 2349) G hb ho he hE hSc (by decide +kernel : decode code 2349 = .ok (.iaload, 1)) ?_
  refine sm_aload_n (pc := 2350) G hb (by decide +kernel : decode code 2350 = .ok (.aload_n 0, 1)) rfl ?_
  refine sm_iload (pc := 2351) G hb (by decide +kernel : decode code 2351 = .ok (.iload 4, 2)) ?_
  refine sm_iconst (pc := 2353) G hb (by decide +kernel : decode code 2353 = .ok (.iconst 2, 1)) (by decide) ?_
  refine sm_iadd (pc := 2354) G hb (by decide +kernel : decode code 2354 = .ok (.iadd, 1)) ?_
  refine sm_sld (pc := 2355) G hb ho he hE hSc (by decide +kernel : decode code 2355 = .ok (.iaload, 1)) ?_
  refine sm_aload_n (pc := 2356) G hb (by decide +kernel : decode code 2356 = .ok (.aload_n 3, 1)) rfl ?_
  refine sm_mono (ca_sub gI_sub) (sm_callW (pc := 2357) G hb ho hy he hE.1 4 [0, 1, 2, 3, 4, 5, 6, 7, 8, 9, 10, 11, 12, 13, 14, 15, 16, 17, 18, 19, 20, 21, 22, 23, 24, 25, 26, 27, 28, 29, 30, 31, 32, 33, 34, 35, 36, 37, 38, 39, 40, 41, 42, 43, 44, 45, 46, 47, 48, 49, 50, 51, 52, 53, 54, 55, 56, 57, 58, 59, 60, 61, 62, 63, 64, 65, 66, 67, 68, 69, 70, 71, 72, 73, 74, 75, 76, 77, 78, 79, 80, 81, 82, 83, 84, 85, 86, 87, 88, 89, 90, 91, 92, 93, 94, 95, 96, 97, 98, 99, 100, 101, 102, 103, 104, 105, 106, 107, 108, 109, 110, 111, 112, 113, 114, 115, 116, 117, 118, 119, 120, 121, 122, 123, 124, 125, 126, 127, 128, 129, 130, 131, 132, 133, 134, 135, 136, 137, 138, 139, 140, 141, 142, 143, 144, 145, 146, 147, 148, 149, 150, 151, 152, 153, 154, 155, 156, 157, 158, 159, 160, 161, 162, 163, 164, 165, 166, 167, 168, 169, 170, 171, 172, 173, 174, 175, 176, 177, 178, 179, 180, 181, 182, 183, 184, 185, 186, 187, 188, 189, 190, 191, 192, 193, 194, 195, 196, 197, 198, 199, 200, 201, 202, 203, 222] (kL_forecast hEL N) (gCo_of (by decide +kernel)) (by rw [hR]; exact ⟨by decide, by decide⟩) (by rw [hR]; exact ⟨by show _ ≤ 601024; omega, by show _ ≤ 7293033; omega⟩) (by decide +kernel) gw5_154 gw5_155 gw1_0 gw5_156 (by decide +kernel : decode code 2357 = .ok (.invokestatic 271, 3)) ?_)
  refine sm_istore (pc := 2360) G hb (by decide +kernel : decode code 2360 = .ok (.istore 5, 2)) ?_
  refine sm_aload_n (pc := 2362) G hb (by decide +kernel : decode code 2362 = .ok (.aload_n 2, 1)) rfl ?_
  refine sm_aload_n (pc := 2363) G hb (by decide +kernel : decode code 2363 = .ok (.aload_n 0, 1)) rfl ?_
  refine sm_iload (pc := 2364) G hb (by decide +kernel : decode code 2364 = .ok (.iload 4, 2)) ?_
  refine sm_iconst (pc := 2366) G hb (by decide +kernel : decode code 2366 = .ok (.iconst 1, 1)) (by decide) ?_
  refine sm_iadd (pc := 2367) G hb (by decide +kernel : decode code 2367 = .ok (.iadd, 1)) ?_
  refine sm_sld (pc := 2368) G hb ho he hE hSc (by decide +kernel : decode code 2368 = .ok (.iaload, 1)) ?_
  refine sm_aload_n (pc := 2369) G hb (by decide +kernel : decode code 2369 = .ok (.aload_n 0, 1)) rfl ?_
  refine sm_iload (pc := 2370) G hb (by decide +kernel : decode code 2370 = .ok (.iload 4, 2)) ?_
  refine sm_iconst (pc := 2372) G hb (by decide +kernel : decode code 2372 = .ok (.iconst 2, 1)) (by decide) ?_
  refine sm_iadd (pc := 2373) G hb (by decide +kernel : decode code 2373 = .ok (.iadd, 1)) ?_
  refine sm_sld (pc := 2374) G hb ho he hE hSc (by decide +kernel : decode code 2374 = .ok (.iaload, 1)) ?_
  refine sm_mono (cav_sub gJ_sub) (sm_callV (pc := 2375) (N := 32) (T := TX9) (C := RX9) G hb ho hy he hE.1 3 [204, 205, 206, 207, 208, 209, 210, 211, 212, 213, 214, 215, 216, 217, 218, 219, 220, 221] (kX9_forecast hE N) (gCo_of (by decide +kernel)) (by rw [hR]; exact ⟨by decide, by decide⟩) rfl rfl (by decide +kernel) gw8_54 gw8_55 gw8_56 gw1_11 gw8_57 (by decide +kernel : decode code 2375 = .ok (.invokevirtual 273, 3)) ?_)
  refine sm_lstore (pc := 2378) G hb (by decide +kernel : decode code 2378 = .ok (.lstore 6, 2)) ?_
  refine sm_aload_n (pc := 2380) G hb (by decide +kernel : decode code 2380 = .ok (.aload_n 2, 1)) rfl ?_
  refine sm_mono (cav_sub gI_sub) (sm_callV (pc := 2381) (N := 32) (T := TX9) (C := RX9) G hb ho hy he hE.1 1 [204, 205, 206, 207, 208, 209, 210, 211, 212, 213, 214, 215, 216, 217, 218, 219, 220, 221] (kX9_thrown hE N) (gCo_of (by decide +kernel)) (by rw [hR]; exact ⟨by decide, by decide⟩) rfl rfl (by decide +kernel) gw6_94 gw6_95 gw6_96 gw1_11 gw6_97 (by decide +kernel : decode code 2381 = .ok (.invokevirtual 151, 3)) ?_)
  refine sm_mask ?_
  exact fL_law_s2384 N SL SX G hb ho hy hR he hr hE hEL hSc (by omega) K23 h23
set_option maxRecDepth 100000 in
set_option maxHeartbeats 8000000 in
theorem fL_law_s2487 {γ : gG} {cs ss c2 s2 : Nat} {ε : gE5} (N SL : Nat) (SX : Nat → Int32) (G : gOK γ) (hb : gcc γ = code) (ho : gow γ = RL) (hy : gly γ = gyL) (hR : grm γ = room_1) (he : genv γ = ε) (hr : grt γ = some .boolean) (hE : gEnv ε) (hEL : gEnvL ε) (hSc : gSc ε SL SX) (hc9 : cs + 0 ≤ c2 ∧ ss + 0 ≤ s2 ∧ c2 ≤ 601024 ∧ s2 ≤ 7293033) (K23 : gK) (h23 : gSm γ c2 s2 23 K23) : gSm γ cs ss 2487 (fL_law_k2487 N SL SX K23) := by
  unfold fL_law_k2487
  refine sm_goto (pc := 2487) (tgt := 2794) G hb (by decide +kernel : decode code 2487 = .ok (.goto 307, 3)) (by decide) ?_
  refine sm_mask ?_
  exact fL_law_s2794 N SL SX G hb ho hy hR he hr hE hEL hSc (by omega) K23 h23
set_option maxRecDepth 100000 in
set_option maxHeartbeats 8000000 in
theorem fL_law_s2463 {γ : gG} {cs ss c2 s2 : Nat} {ε : gE5} (N SL : Nat) (SX : Nat → Int32) (G : gOK γ) (hb : gcc γ = code) (ho : gow γ = RL) (hy : gly γ = gyL) (hR : grm γ = room_1) (he : genv γ = ε) (hr : grt γ = some .boolean) (hE : gEnv ε) (hEL : gEnvL ε) (hSc : gSc ε SL SX) (hc9 : cs + 0 ≤ c2 ∧ ss + 0 ≤ s2 ∧ c2 ≤ 601024 ∧ s2 ≤ 7293033) (K23 : gK) (h23 : gSm γ c2 s2 23 K23) : gSm γ cs ss 2463 (fL_law_k2463 N SL SX K23) := by
  unfold fL_law_k2463
  refine sm_iload (pc := 2463) G hb (by decide +kernel : decode code 2463 = .ok (.iload 5, 2)) ?_
  refine sm_icmp_eq (pc := 2465) (tgt := 2470) G hb (by decide +kernel : decode code 2465 = .ok (.if_icmp .eq 5, 3)) (by decide) ?_ ?_
  · skip
    refine sm_iload (pc := 2470) G hb (by decide +kernel : decode code 2470 = .ok (.iload 5, 2)) ?_
    refine sm_if_ne (pc := 2472) (tgt := 2487) G hb (by decide +kernel : decode code 2472 = .ok (.ifCond .ne 15, 3)) (by decide) ?_ ?_
    · skip
      refine sm_mask ?_
      exact fL_law_s2487 N SL SX G hb ho hy hR he hr hE hEL hSc (by omega) K23 h23
    · skip
      refine sm_aload_n (pc := 2475) G hb (by decide +kernel : decode code 2475 = .ok (.aload_n 3, 1)) rfl ?_
      refine sm_iconst (pc := 2476) G hb (by decide +kernel : decode code 2476 = .ok (.iconst 0, 1)) (by decide) ?_
      refine sm_lald (pc := 2477) G hb hy (by decide +kernel : decode code 2477 = .ok (.laload, 1)) ?_
      refine sm_iload (pc := 2478) G hb (by decide +kernel : decode code 2478 = .ok (.iload 6, 2)) ?_
      refine sm_i2l (pc := 2480) G hb (by decide +kernel : decode code 2480 = .ok (.i2l, 1)) ?_
      refine sm_lcmp (pc := 2481) G hb (by decide +kernel : decode code 2481 = .ok (.lcmp, 1)) ?_
      refine sm_if_eq (pc := 2482) (tgt := 2487) G hb (by decide +kernel : decode code 2482 = .ok (.ifCond .eq 5, 3)) (by decide) ?_ ?_
      · skip
        refine sm_mask ?_
        exact fL_law_s2487 N SL SX G hb ho hy hR he hr hE hEL hSc (by omega) K23 h23
      · skip
        refine sm_iconst (pc := 2485) G hb (by decide +kernel : decode code 2485 = .ok (.iconst 0, 1)) (by decide) ?_
        exact sm_zret (pc := 2486) G hb (by decide +kernel : decode code 2486 = .ok (.ireturn, 1)) hr
  · skip
    refine sm_iconst (pc := 2468) G hb (by decide +kernel : decode code 2468 = .ok (.iconst 0, 1)) (by decide) ?_
    exact sm_zret (pc := 2469) G hb (by decide +kernel : decode code 2469 = .ok (.ireturn, 1)) hr
set_option maxRecDepth 100000 in
set_option maxHeartbeats 8000000 in
theorem fL_law_s2410 {γ : gG} {cs ss c2 s2 : Nat} {ε : gE5} (N SL : Nat) (SX : Nat → Int32) (G : gOK γ) (hb : gcc γ = code) (ho : gow γ = RL) (hy : gly γ = gyL) (hR : grm γ = room_1) (he : genv γ = ε) (hr : grt γ = some .boolean) (hE : gEnv ε) (hEL : gEnvL ε) (hSc : gSc ε SL SX) (hc9 : cs + 3 ≤ c2 ∧ ss + 18 ≤ s2 ∧ c2 ≤ 601024 ∧ s2 ≤ 7293033) (K23 : gK) (h23 : gSm γ c2 s2 23 K23) : gSm γ cs ss 2410 (fL_law_k2410 N SL SX K23) := by
  unfold fL_law_k2410
  refine sm_aload_n (pc := 2410) G hb (by decide +kernel : decode code 2410 = .ok (.aload_n 1, 1)) rfl ?_
  refine sm_aload_n (pc := 2411) G hb (by decide +kernel : decode code 2411 = .ok (.aload_n 0, 1)) rfl ?_
  refine sm_iload (pc := 2412) G hb (by decide +kernel : decode code 2412 = .ok (.iload 4, 2)) ?_
  refine sm_iconst (pc := 2414) G hb (by decide +kernel : decode code 2414 = .ok (.iconst 1, 1)) (by decide) ?_
  refine sm_iadd (pc := 2415) G hb (by decide +kernel : decode code 2415 = .ok (.iadd, 1)) ?_
  refine sm_sld (pc := 2416) G hb ho he hE hSc (by decide +kernel : decode code 2416 = .ok (.iaload, 1)) ?_
  refine sm_aload_n (pc := 2417) G hb (by decide +kernel : decode code 2417 = .ok (.aload_n 0, 1)) rfl ?_
  refine sm_iload (pc := 2418) G hb (by decide +kernel : decode code 2418 = .ok (.iload 4, 2)) ?_
  refine sm_iconst (pc := 2420) G hb (by decide +kernel : decode code 2420 = .ok (.iconst 2, 1)) (by decide) ?_
  refine sm_iadd (pc := 2421) G hb (by decide +kernel : decode code 2421 = .ok (.iadd, 1)) ?_
  refine sm_sld (pc := 2422) G hb ho he hE hSc (by decide +kernel : decode code 2422 = .ok (.iaload, 1)) ?_
  refine sm_aload_n (pc := 2423) G hb (by decide +kernel : decode code 2423 = .ok (.aload_n 0, 1)) rfl ?_
  refine sm_iload (pc := 2424) G hb (by decide +kernel : decode code 2424 = .ok (.iload 4, 2)) ?_
  refine sm_iconst (pc := 2426) G hb (by decide +kernel : decode code 2426 = .ok (.iconst 3, 1)) (by decide) ?_
  refine sm_iadd (pc := 2427) G hb (by decide +kernel : decode code 2427 = .ok (.iadd, 1)) ?_
  refine sm_sld (pc := 2428) G hb ho he hE hSc (by decide +kernel : decode code 2428 = .ok (.iaload, 1)) ?_
  refine sm_aload_n (pc := 2429) G hb (by decide +kernel : decode code 2429 = .ok (.aload_n 3, 1)) rfl ?_
  refine sm_mono (ca_sub gI_sub) (sm_callW (pc := 2430) G hb ho hy he hE.1 5 [0, 1, 2, 3, 4, 5, 6, 7, 8, 9, 10, 11, 12, 13, 14, 15, 16, 17, 18, 19, 20, 21, 22, 23, 24, 25, 26, 27, 28, 29, 30, 31, 32, 33, 34, 35, 36, 37, 38, 39, 40, 41, 42, 43, 44, 45, 46, 47, 48, 49, 50, 51, 52, 53, 54, 55, 56, 57, 58, 59, 60, 61, 62, 63, 64, 65, 66, 67, 68, 69, 70, 71, 72, 73, 74, 75, 76, 77, 78, 79, 80, 81, 82, 83, 84, 85, 86, 87, 88, 89, 90, 91, 92, 93, 94, 95, 96, 97, 98, 99, 100, 101, 102, 103, 104, 105, 106, 107, 108, 109, 110, 111, 112, 113, 114, 115, 116, 117, 118, 119, 120, 121, 122, 123, 124, 125, 126, 127, 128, 129, 130, 131, 132, 133, 134, 135, 136, 137, 138, 139, 140, 141, 142, 143, 144, 145, 146, 147, 148, 149, 150, 151, 152, 153, 154, 155, 156, 157, 158, 159, 160, 161, 162, 163, 164, 165, 166, 167, 168, 169, 170, 171, 172, 173, 174, 175, 176, 177, 178, 179, 180, 181, 182, 183, 184, 185, 186, 187, 188, 189, 190, 191, 192, 193, 194, 195, 196, 197, 198, 199, 200, 201, 202, 203, 222] (kL_forecastFlow hEL N) (gCo_of (by decide +kernel)) (by rw [hR]; exact ⟨by decide, by decide⟩) (by rw [hR]; exact ⟨by show _ ≤ 601024; omega, by show _ ≤ 7293033; omega⟩) (by decide +kernel) gw5_161 gw5_162 gw1_0 gw5_163 (by decide +kernel : decode code 2430 = .ok (.invokestatic 274, 3)) ?_)
  refine sm_istore (pc := 2433) G hb (by decide +kernel : decode code 2433 = .ok (.istore 5, 2)) ?_
  refine sm_aload_n (pc := 2435) G hb (by decide +kernel : decode code 2435 = .ok (.aload_n 2, 1)) rfl ?_
  refine sm_aload_n (pc := 2436) G hb (by decide +kernel : decode code 2436 = .ok (.aload_n 0, 1)) rfl ?_
  refine sm_iload (pc := 2437) G hb (by decide +kernel : decode code 2437 = .ok (.iload 4, 2)) ?_
  refine sm_iconst (pc := 2439) G hb (by decide +kernel : decode code 2439 = .ok (.iconst 1, 1)) (by decide) ?_
  refine sm_iadd (pc := 2440) G hb (by decide +kernel : decode code 2440 = .ok (.iadd, 1)) ?_
  refine sm_sld (pc := 2441) G hb ho he hE hSc (by decide +kernel : decode code 2441 = .ok (.iaload, 1)) ?_
  refine sm_aload_n (pc := 2442) G hb (by decide +kernel : decode code 2442 = .ok (.aload_n 0, 1)) rfl ?_
  refine sm_iload (pc := 2443) G hb (by decide +kernel : decode code 2443 = .ok (.iload 4, 2)) ?_
  refine sm_iconst (pc := 2445) G hb (by decide +kernel : decode code 2445 = .ok (.iconst 2, 1)) (by decide) ?_
  refine sm_iadd (pc := 2446) G hb (by decide +kernel : decode code 2446 = .ok (.iadd, 1)) ?_
  refine sm_sld (pc := 2447) G hb ho he hE hSc (by decide +kernel : decode code 2447 = .ok (.iaload, 1)) ?_
  refine sm_aload_n (pc := 2448) G hb (by decide +kernel : decode code 2448 = .ok (.aload_n 0, 1)) rfl ?_
  refine sm_iload (pc := 2449) G hb (by decide +kernel : decode code 2449 = .ok (.iload 4, 2)) ?_
  refine sm_iconst (pc := 2451) G hb (by decide +kernel : decode code 2451 = .ok (.iconst 3, 1)) (by decide) ?_
  refine sm_iadd (pc := 2452) G hb (by decide +kernel : decode code 2452 = .ok (.iadd, 1)) ?_
  refine sm_sld (pc := 2453) G hb ho he hE hSc (by decide +kernel : decode code 2453 = .ok (.iaload, 1)) ?_
  refine sm_mono (cav_sub gI_sub) (sm_callV (pc := 2454) (N := 32) (T := TX9) (C := RX9) G hb ho hy he hE.1 4 [204, 205, 206, 207, 208, 209, 210, 211, 212, 213, 214, 215, 216, 217, 218, 219, 220, 221] (kX9_forecastFlow hE N) (gCo_of (by decide +kernel)) (by rw [hR]; exact ⟨by decide, by decide⟩) rfl rfl (by decide +kernel) gw8_58 gw8_59 gw8_60 gw1_11 gw8_61 (by decide +kernel : decode code 2454 = .ok (.invokevirtual 276, 3)) ?_)
  refine sm_istore (pc := 2457) G hb (by decide +kernel : decode code 2457 = .ok (.istore 6, 2)) ?_
  refine sm_aload_n (pc := 2459) G hb (by decide +kernel : decode code 2459 = .ok (.aload_n 2, 1)) rfl ?_
  refine sm_mono (cav_sub gI_sub) (sm_callV (pc := 2460) (N := 32) (T := TX9) (C := RX9) G hb ho hy he hE.1 1 [204, 205, 206, 207, 208, 209, 210, 211, 212, 213, 214, 215, 216, 217, 218, 219, 220, 221] (kX9_thrown hE N) (gCo_of (by decide +kernel)) (by rw [hR]; exact ⟨by decide, by decide⟩) rfl rfl (by decide +kernel) gw6_94 gw6_95 gw6_96 gw1_11 gw6_97 (by decide +kernel : decode code 2460 = .ok (.invokevirtual 151, 3)) ?_)
  refine sm_mask ?_
  exact fL_law_s2463 N SL SX G hb ho hy hR he hr hE hEL hSc (by omega) K23 h23
set_option maxRecDepth 100000 in
set_option maxHeartbeats 8000000 in
theorem fL_law_s2555 {γ : gG} {cs ss c2 s2 : Nat} {ε : gE5} (N SL : Nat) (SX : Nat → Int32) (G : gOK γ) (hb : gcc γ = code) (ho : gow γ = RL) (hy : gly γ = gyL) (hR : grm γ = room_1) (he : genv γ = ε) (hr : grt γ = some .boolean) (hE : gEnv ε) (hEL : gEnvL ε) (hSc : gSc ε SL SX) (hc9 : cs + 0 ≤ c2 ∧ ss + 0 ≤ s2 ∧ c2 ≤ 601024 ∧ s2 ≤ 7293033) (K23 : gK) (h23 : gSm γ c2 s2 23 K23) : gSm γ cs ss 2555 (fL_law_k2555 N SL SX K23) := by
  unfold fL_law_k2555
  refine sm_goto (pc := 2555) (tgt := 2794) G hb (by decide +kernel : decode code 2555 = .ok (.goto 239, 3)) (by decide) ?_
  refine sm_mask ?_
  exact fL_law_s2794 N SL SX G hb ho hy hR he hr hE hEL hSc (by omega) K23 h23
set_option maxRecDepth 100000 in
set_option maxHeartbeats 8000000 in
theorem fL_law_s2531 {γ : gG} {cs ss c2 s2 : Nat} {ε : gE5} (N SL : Nat) (SX : Nat → Int32) (G : gOK γ) (hb : gcc γ = code) (ho : gow γ = RL) (hy : gly γ = gyL) (hR : grm γ = room_1) (he : genv γ = ε) (hr : grt γ = some .boolean) (hE : gEnv ε) (hEL : gEnvL ε) (hSc : gSc ε SL SX) (hc9 : cs + 0 ≤ c2 ∧ ss + 0 ≤ s2 ∧ c2 ≤ 601024 ∧ s2 ≤ 7293033) (K23 : gK) (h23 : gSm γ c2 s2 23 K23) : gSm γ cs ss 2531 (fL_law_k2531 N SL SX K23) := by
  unfold fL_law_k2531
  refine sm_iload (pc := 2531) G hb (by decide +kernel : decode code 2531 = .ok (.iload 5, 2)) ?_
  refine sm_icmp_eq (pc := 2533) (tgt := 2538) G hb (by decide +kernel : decode code 2533 = .ok (.if_icmp .eq 5, 3)) (by decide) ?_ ?_
  · skip
    refine sm_iload (pc := 2538) G hb (by decide +kernel : decode code 2538 = .ok (.iload 5, 2)) ?_
    refine sm_if_ne (pc := 2540) (tgt := 2555) G hb (by decide +kernel : decode code 2540 = .ok (.ifCond .ne 15, 3)) (by decide) ?_ ?_
    · skip
      refine sm_mask ?_
      exact fL_law_s2555 N SL SX G hb ho hy hR he hr hE hEL hSc (by omega) K23 h23
    · skip
      refine sm_aload_n (pc := 2543) G hb (by decide +kernel : decode code 2543 = .ok (.aload_n 3, 1)) rfl ?_
      refine sm_iconst (pc := 2544) G hb (by decide +kernel : decode code 2544 = .ok (.iconst 0, 1)) (by decide) ?_
      refine sm_lald (pc := 2545) G hb hy (by decide +kernel : decode code 2545 = .ok (.laload, 1)) ?_
      refine sm_iload (pc := 2546) G hb (by decide +kernel : decode code 2546 = .ok (.iload 6, 2)) ?_
      refine sm_i2l (pc := 2548) G hb (by decide +kernel : decode code 2548 = .ok (.i2l, 1)) ?_
      refine sm_lcmp (pc := 2549) G hb (by decide +kernel : decode code 2549 = .ok (.lcmp, 1)) ?_
      refine sm_if_eq (pc := 2550) (tgt := 2555) G hb (by decide +kernel : decode code 2550 = .ok (.ifCond .eq 5, 3)) (by decide) ?_ ?_
      · skip
        refine sm_mask ?_
        exact fL_law_s2555 N SL SX G hb ho hy hR he hr hE hEL hSc (by omega) K23 h23
      · skip
        refine sm_iconst (pc := 2553) G hb (by decide +kernel : decode code 2553 = .ok (.iconst 0, 1)) (by decide) ?_
        exact sm_zret (pc := 2554) G hb (by decide +kernel : decode code 2554 = .ok (.ireturn, 1)) hr
  · skip
    refine sm_iconst (pc := 2536) G hb (by decide +kernel : decode code 2536 = .ok (.iconst 0, 1)) (by decide) ?_
    exact sm_zret (pc := 2537) G hb (by decide +kernel : decode code 2537 = .ok (.ireturn, 1)) hr
set_option maxRecDepth 100000 in
set_option maxHeartbeats 8000000 in
theorem fL_law_s2490 {γ : gG} {cs ss c2 s2 : Nat} {ε : gE5} (N SL : Nat) (SX : Nat → Int32) (G : gOK γ) (hb : gcc γ = code) (ho : gow γ = RL) (hy : gly γ = gyL) (hR : grm γ = room_1) (he : genv γ = ε) (hr : grt γ = some .boolean) (hE : gEnv ε) (hEL : gEnvL ε) (hSc : gSc ε SL SX) (hc9 : cs + 3 ≤ c2 ∧ ss + 18 ≤ s2 ∧ c2 ≤ 601024 ∧ s2 ≤ 7293033) (K23 : gK) (h23 : gSm γ c2 s2 23 K23) : gSm γ cs ss 2490 (fL_law_k2490 N SL SX K23) := by
  unfold fL_law_k2490
  refine sm_aload_n (pc := 2490) G hb (by decide +kernel : decode code 2490 = .ok (.aload_n 1, 1)) rfl ?_
  refine sm_aload_n (pc := 2491) G hb (by decide +kernel : decode code 2491 = .ok (.aload_n 0, 1)) rfl ?_
  refine sm_iload (pc := 2492) G hb (by decide +kernel : decode code 2492 = .ok (.iload 4, 2)) ?_
  refine sm_iconst (pc := 2494) G hb (by decide +kernel : decode code 2494 = .ok (.iconst 1, 1)) (by decide) ?_
  refine sm_iadd (pc := 2495) G hb (by decide +kernel : decode code 2495 = .ok (.iadd, 1)) ?_
  refine sm_sld (pc := 2496) G hb ho he hE hSc (by decide +kernel : decode code 2496 = .ok (.iaload, 1)) ?_
  refine sm_aload_n (pc := 2497) G hb (by decide +kernel : decode code 2497 = .ok (.aload_n 0, 1)) rfl ?_
  refine sm_iload (pc := 2498) G hb (by decide +kernel : decode code 2498 = .ok (.iload 4, 2)) ?_
  refine sm_iconst (pc := 2500) G hb (by decide +kernel : decode code 2500 = .ok (.iconst 2, 1)) (by decide) ?_
  refine sm_iadd (pc := 2501) G hb (by decide +kernel : decode code 2501 = .ok (.iadd, 1)) ?_
  refine sm_sld (pc := 2502) G hb ho he hE hSc (by decide +kernel : decode code 2502 = .ok (.iaload, 1)) ?_
  refine sm_aload_n (pc := 2503) G hb (by decide +kernel : decode code 2503 = .ok (.aload_n 3, 1)) rfl ?_
  refine sm_mono (ca_sub gI_sub) (sm_callW (pc := 2504) G hb ho hy he hE.1 4 [0, 1, 2, 3, 4, 5, 6, 7, 8, 9, 10, 11, 12, 13, 14, 15, 16, 17, 18, 19, 20, 21, 22, 23, 24, 25, 26, 27, 28, 29, 30, 31, 32, 33, 34, 35, 36, 37, 38, 39, 40, 41, 42, 43, 44, 45, 46, 47, 48, 49, 50, 51, 52, 53, 54, 55, 56, 57, 58, 59, 60, 61, 62, 63, 64, 65, 66, 67, 68, 69, 70, 71, 72, 73, 74, 75, 76, 77, 78, 79, 80, 81, 82, 83, 84, 85, 86, 87, 88, 89, 90, 91, 92, 93, 94, 95, 96, 97, 98, 99, 100, 101, 102, 103, 104, 105, 106, 107, 108, 109, 110, 111, 112, 113, 114, 115, 116, 117, 118, 119, 120, 121, 122, 123, 124, 125, 126, 127, 128, 129, 130, 131, 132, 133, 134, 135, 136, 137, 138, 139, 140, 141, 142, 143, 144, 145, 146, 147, 148, 149, 150, 151, 152, 153, 154, 155, 156, 157, 158, 159, 160, 161, 162, 163, 164, 165, 166, 167, 168, 169, 170, 171, 172, 173, 174, 175, 176, 177, 178, 179, 180, 181, 182, 183, 184, 185, 186, 187, 188, 189, 190, 191, 192, 193, 194, 195, 196, 197, 198, 199, 200, 201, 202, 203, 222] (kL_slotsToFull hEL N) (gCo_of (by decide +kernel)) (by rw [hR]; exact ⟨by decide, by decide⟩) (by rw [hR]; exact ⟨by show _ ≤ 601024; omega, by show _ ≤ 7293033; omega⟩) (by decide +kernel) gw5_168 gw5_169 gw1_0 gw5_170 (by decide +kernel : decode code 2504 = .ok (.invokestatic 277, 3)) ?_)
  refine sm_istore (pc := 2507) G hb (by decide +kernel : decode code 2507 = .ok (.istore 5, 2)) ?_
  refine sm_aload_n (pc := 2509) G hb (by decide +kernel : decode code 2509 = .ok (.aload_n 2, 1)) rfl ?_
  refine sm_aload_n (pc := 2510) G hb (by decide +kernel : decode code 2510 = .ok (.aload_n 0, 1)) rfl ?_
  refine sm_iload (pc := 2511) G hb (by decide +kernel : decode code 2511 = .ok (.iload 4, 2)) ?_
  refine sm_iconst (pc := 2513) G hb (by decide +kernel : decode code 2513 = .ok (.iconst 1, 1)) (by decide) ?_
  refine sm_iadd (pc := 2514) G hb (by decide +kernel : decode code 2514 = .ok (.iadd, 1)) ?_
  refine sm_sld (pc := 2515) G hb ho he hE hSc (by decide +kernel : decode code 2515 = .ok (.iaload, 1)) ?_
  refine sm_aload_n (pc := 2516) G hb (by decide +kernel : decode code 2516 = .ok (.aload_n 0, 1)) rfl ?_
  refine sm_iload (pc := 2517) G hb (by decide +kernel : decode code 2517 = .ok (.iload 4, 2)) ?_
  refine sm_iconst (pc := 2519) G hb (by decide +kernel : decode code 2519 = .ok (.iconst 2, 1)) (by decide) ?_
  refine sm_iadd (pc := 2520) G hb (by decide +kernel : decode code 2520 = .ok (.iadd, 1)) ?_
  refine sm_sld (pc := 2521) G hb ho he hE hSc (by decide +kernel : decode code 2521 = .ok (.iaload, 1)) ?_
  refine sm_mono (cav_sub gI_sub) (sm_callV (pc := 2522) (N := 32) (T := TX9) (C := RX9) G hb ho hy he hE.1 3 [204, 205, 206, 207, 208, 209, 210, 211, 212, 213, 214, 215, 216, 217, 218, 219, 220, 221] (kX9_slotsToFull hE N) (gCo_of (by decide +kernel)) (by rw [hR]; exact ⟨by decide, by decide⟩) rfl rfl (by decide +kernel) gw8_62 gw8_63 gw8_64 gw1_11 gw8_65 (by decide +kernel : decode code 2522 = .ok (.invokevirtual 279, 3)) ?_)
  refine sm_istore (pc := 2525) G hb (by decide +kernel : decode code 2525 = .ok (.istore 6, 2)) ?_
  refine sm_aload_n (pc := 2527) G hb (by decide +kernel : decode code 2527 = .ok (.aload_n 2, 1)) rfl ?_
  refine sm_mono (cav_sub gI_sub) (sm_callV (pc := 2528) (N := 32) (T := TX9) (C := RX9) G hb ho hy he hE.1 1 [204, 205, 206, 207, 208, 209, 210, 211, 212, 213, 214, 215, 216, 217, 218, 219, 220, 221] (kX9_thrown hE N) (gCo_of (by decide +kernel)) (by rw [hR]; exact ⟨by decide, by decide⟩) rfl rfl (by decide +kernel) gw6_94 gw6_95 gw6_96 gw1_11 gw6_97 (by decide +kernel : decode code 2528 = .ok (.invokevirtual 151, 3)) ?_)
  refine sm_mask ?_
  exact fL_law_s2531 N SL SX G hb ho hy hR he hr hE hEL hSc (by omega) K23 h23
set_option maxRecDepth 100000 in
set_option maxHeartbeats 8000000 in
theorem fL_law_s2611 {γ : gG} {cs ss c2 s2 : Nat} {ε : gE5} (N SL : Nat) (SX : Nat → Int32) (G : gOK γ) (hb : gcc γ = code) (ho : gow γ = RL) (hy : gly γ = gyL) (hR : grm γ = room_1) (he : genv γ = ε) (hr : grt γ = some .boolean) (hE : gEnv ε) (hEL : gEnvL ε) (hSc : gSc ε SL SX) (hc9 : cs + 0 ≤ c2 ∧ ss + 0 ≤ s2 ∧ c2 ≤ 601024 ∧ s2 ≤ 7293033) (K23 : gK) (h23 : gSm γ c2 s2 23 K23) : gSm γ cs ss 2611 (fL_law_k2611 N SL SX K23) := by
  unfold fL_law_k2611
  refine sm_goto (pc := 2611) (tgt := 2794) G hb (by decide +kernel : decode code 2611 = .ok (.goto 183, 3)) (by decide) ?_
  refine sm_mask ?_
  exact fL_law_s2794 N SL SX G hb ho hy hR he hr hE hEL hSc (by omega) K23 h23
set_option maxRecDepth 100000 in
set_option maxHeartbeats 8000000 in
theorem fL_law_s2587 {γ : gG} {cs ss c2 s2 : Nat} {ε : gE5} (N SL : Nat) (SX : Nat → Int32) (G : gOK γ) (hb : gcc γ = code) (ho : gow γ = RL) (hy : gly γ = gyL) (hR : grm γ = room_1) (he : genv γ = ε) (hr : grt γ = some .boolean) (hE : gEnv ε) (hEL : gEnvL ε) (hSc : gSc ε SL SX) (hc9 : cs + 0 ≤ c2 ∧ ss + 0 ≤ s2 ∧ c2 ≤ 601024 ∧ s2 ≤ 7293033) (K23 : gK) (h23 : gSm γ c2 s2 23 K23) : gSm γ cs ss 2587 (fL_law_k2587 N SL SX K23) := by
  unfold fL_law_k2587
  refine sm_iload (pc := 2587) G hb (by decide +kernel : decode code 2587 = .ok (.iload 5, 2)) ?_
  refine sm_icmp_eq (pc := 2589) (tgt := 2594) G hb (by decide +kernel : decode code 2589 = .ok (.if_icmp .eq 5, 3)) (by decide) ?_ ?_
  · skip
    refine sm_iload (pc := 2594) G hb (by decide +kernel : decode code 2594 = .ok (.iload 5, 2)) ?_
    refine sm_if_ne (pc := 2596) (tgt := 2611) G hb (by decide +kernel : decode code 2596 = .ok (.ifCond .ne 15, 3)) (by decide) ?_ ?_
    · skip
      refine sm_mask ?_
      exact fL_law_s2611 N SL SX G hb ho hy hR he hr hE hEL hSc (by omega) K23 h23
    · skip
      refine sm_aload_n (pc := 2599) G hb (by decide +kernel : decode code 2599 = .ok (.aload_n 3, 1)) rfl ?_
      refine sm_iconst (pc := 2600) G hb (by decide +kernel : decode code 2600 = .ok (.iconst 0, 1)) (by decide) ?_
      refine sm_lald (pc := 2601) G hb hy (by decide +kernel : decode code 2601 = .ok (.laload, 1)) ?_
      refine sm_iload (pc := 2602) G hb (by decide +kernel : decode code 2602 = .ok (.iload 6, 2)) ?_
      refine sm_i2l (pc := 2604) G hb (by decide +kernel : decode code 2604 = .ok (.i2l, 1)) ?_
      refine sm_lcmp (pc := 2605) G hb (by decide +kernel : decode code 2605 = .ok (.lcmp, 1)) ?_
      refine sm_if_eq (pc := 2606) (tgt := 2611) G hb (by decide +kernel : decode code 2606 = .ok (.ifCond .eq 5, 3)) (by decide) ?_ ?_
      · skip
        refine sm_mask ?_
        exact fL_law_s2611 N SL SX G hb ho hy hR he hr hE hEL hSc (by omega) K23 h23
      · skip
        refine sm_iconst (pc := 2609) G hb (by decide +kernel : decode code 2609 = .ok (.iconst 0, 1)) (by decide) ?_
        exact sm_zret (pc := 2610) G hb (by decide +kernel : decode code 2610 = .ok (.ireturn, 1)) hr
  · skip
    refine sm_iconst (pc := 2592) G hb (by decide +kernel : decode code 2592 = .ok (.iconst 0, 1)) (by decide) ?_
    exact sm_zret (pc := 2593) G hb (by decide +kernel : decode code 2593 = .ok (.ireturn, 1)) hr
set_option maxRecDepth 100000 in
set_option maxHeartbeats 8000000 in
theorem fL_law_s2558 {γ : gG} {cs ss c2 s2 : Nat} {ε : gE5} (N SL : Nat) (SX : Nat → Int32) (G : gOK γ) (hb : gcc γ = code) (ho : gow γ = RL) (hy : gly γ = gyL) (hR : grm γ = room_1) (he : genv γ = ε) (hr : grt γ = some .boolean) (hE : gEnv ε) (hEL : gEnvL ε) (hSc : gSc ε SL SX) (hc9 : cs + 1 ≤ c2 ∧ ss + 6 ≤ s2 ∧ c2 ≤ 601024 ∧ s2 ≤ 7293033) (K23 : gK) (h23 : gSm γ c2 s2 23 K23) : gSm γ cs ss 2558 (fL_law_k2558 N SL SX K23) := by
  unfold fL_law_k2558
  refine sm_aload_n (pc := 2558) G hb (by decide +kernel : decode code 2558 = .ok (.aload_n 1, 1)) rfl ?_
  refine sm_aload_n (pc := 2559) G hb (by decide +kernel : decode code 2559 = .ok (.aload_n 0, 1)) rfl ?_
  refine sm_iload (pc := 2560) G hb (by decide +kernel : decode code 2560 = .ok (.iload 4, 2)) ?_
  refine sm_iconst (pc := 2562) G hb (by decide +kernel : decode code 2562 = .ok (.iconst 1, 1)) (by decide) ?_
  refine sm_iadd (pc := 2563) G hb (by decide +kernel : decode code 2563 = .ok (.iadd, 1)) ?_
  refine sm_sld (pc := 2564) G hb ho he hE hSc (by decide +kernel : decode code 2564 = .ok (.iaload, 1)) ?_
  refine sm_aload_n (pc := 2565) G hb (by decide +kernel : decode code 2565 = .ok (.aload_n 3, 1)) rfl ?_
  refine sm_mono (ca_sub gI_sub) (sm_callW (pc := 2566) G hb ho hy he hE.1 3 [0, 1, 2, 3, 4, 5, 6, 7, 8, 9, 10, 11, 12, 13, 14, 15, 16, 17, 18, 19, 20, 21, 22, 23, 24, 25, 26, 27, 28, 29, 30, 31, 32, 33, 34, 35, 36, 37, 38, 39, 40, 41, 42, 43, 44, 45, 46, 47, 48, 49, 50, 51, 52, 53, 54, 55, 56, 57, 58, 59, 60, 61, 62, 63, 64, 65, 66, 67, 68, 69, 70, 71, 72, 73, 74, 75, 76, 77, 78, 79, 80, 81, 82, 83, 84, 85, 86, 87, 88, 89, 90, 91, 92, 93, 94, 95, 96, 97, 98, 99, 100, 101, 102, 103, 104, 105, 106, 107, 108, 109, 110, 111, 112, 113, 114, 115, 116, 117, 118, 119, 120, 121, 122, 123, 124, 125, 126, 127, 128, 129, 130, 131, 132, 133, 134, 135, 136, 137, 138, 139, 140, 141, 142, 143, 144, 145, 146, 147, 148, 149, 150, 151, 152, 153, 154, 155, 156, 157, 158, 159, 160, 161, 162, 163, 164, 165, 166, 167, 168, 169, 170, 171, 172, 173, 174, 175, 176, 177, 178, 179, 180, 181, 182, 183, 184, 185, 186, 187, 188, 189, 190, 191, 192, 193, 194, 195, 196, 197, 198, 199, 200, 201, 202, 203, 222] (kL_bestBias hEL N) (gCo_of (by decide +kernel)) (by rw [hR]; exact ⟨by decide, by decide⟩) (by rw [hR]; exact ⟨by show _ ≤ 601024; omega, by show _ ≤ 7293033; omega⟩) (by decide +kernel) gw5_177 gw5_178 gw1_0 gw5_179 (by decide +kernel : decode code 2566 = .ok (.invokestatic 280, 3)) ?_)
  refine sm_istore (pc := 2569) G hb (by decide +kernel : decode code 2569 = .ok (.istore 5, 2)) ?_
  refine sm_aload_n (pc := 2571) G hb (by decide +kernel : decode code 2571 = .ok (.aload_n 2, 1)) rfl ?_
  refine sm_aload_n (pc := 2572) G hb (by decide +kernel : decode code 2572 = .ok (.aload_n 0, 1)) rfl ?_
  refine sm_iload (pc := 2573) G hb (by decide +kernel : decode code 2573 = .ok (.iload 4, 2)) ?_
  refine sm_iconst (pc := 2575) G hb (by decide +kernel : decode code 2575 = .ok (.iconst 1, 1)) (by decide) ?_
  refine sm_iadd (pc := 2576) G hb (by decide +kernel : decode code 2576 = .ok (.iadd, 1)) ?_
  refine sm_sld (pc := 2577) G hb ho he hE hSc (by decide +kernel : decode code 2577 = .ok (.iaload, 1)) ?_
  refine sm_mono (cav_sub gI_sub) (sm_callV (pc := 2578) (N := 32) (T := TX9) (C := RX9) G hb ho hy he hE.1 2 [204, 205, 206, 207, 208, 209, 210, 211, 212, 213, 214, 215, 216, 217, 218, 219, 220, 221] (kX9_bestBias hE N) (gCo_of (by decide +kernel)) (by rw [hR]; exact ⟨by decide, by decide⟩) rfl rfl (by decide +kernel) gw8_67 gw8_68 gw8_69 gw1_11 gw8_70 (by decide +kernel : decode code 2578 = .ok (.invokevirtual 282, 3)) ?_)
  refine sm_istore (pc := 2581) G hb (by decide +kernel : decode code 2581 = .ok (.istore 6, 2)) ?_
  refine sm_aload_n (pc := 2583) G hb (by decide +kernel : decode code 2583 = .ok (.aload_n 2, 1)) rfl ?_
  refine sm_mono (cav_sub gI_sub) (sm_callV (pc := 2584) (N := 32) (T := TX9) (C := RX9) G hb ho hy he hE.1 1 [204, 205, 206, 207, 208, 209, 210, 211, 212, 213, 214, 215, 216, 217, 218, 219, 220, 221] (kX9_thrown hE N) (gCo_of (by decide +kernel)) (by rw [hR]; exact ⟨by decide, by decide⟩) rfl rfl (by decide +kernel) gw6_94 gw6_95 gw6_96 gw1_11 gw6_97 (by decide +kernel : decode code 2584 = .ok (.invokevirtual 151, 3)) ?_)
  refine sm_mask ?_
  exact fL_law_s2587 N SL SX G hb ho hy hR he hr hE hEL hSc (by omega) K23 h23
set_option maxRecDepth 100000 in
set_option maxHeartbeats 8000000 in
theorem fL_law_s2667 {γ : gG} {cs ss c2 s2 : Nat} {ε : gE5} (N SL : Nat) (SX : Nat → Int32) (G : gOK γ) (hb : gcc γ = code) (ho : gow γ = RL) (hy : gly γ = gyL) (hR : grm γ = room_1) (he : genv γ = ε) (hr : grt γ = some .boolean) (hE : gEnv ε) (hEL : gEnvL ε) (hSc : gSc ε SL SX) (hc9 : cs + 0 ≤ c2 ∧ ss + 0 ≤ s2 ∧ c2 ≤ 601024 ∧ s2 ≤ 7293033) (K23 : gK) (h23 : gSm γ c2 s2 23 K23) : gSm γ cs ss 2667 (fL_law_k2667 N SL SX K23) := by
  unfold fL_law_k2667
  refine sm_goto (pc := 2667) (tgt := 2794) G hb (by decide +kernel : decode code 2667 = .ok (.goto 127, 3)) (by decide) ?_
  refine sm_mask ?_
  exact fL_law_s2794 N SL SX G hb ho hy hR he hr hE hEL hSc (by omega) K23 h23
set_option maxRecDepth 100000 in
set_option maxHeartbeats 8000000 in
theorem fL_law_s2643 {γ : gG} {cs ss c2 s2 : Nat} {ε : gE5} (N SL : Nat) (SX : Nat → Int32) (G : gOK γ) (hb : gcc γ = code) (ho : gow γ = RL) (hy : gly γ = gyL) (hR : grm γ = room_1) (he : genv γ = ε) (hr : grt γ = some .boolean) (hE : gEnv ε) (hEL : gEnvL ε) (hSc : gSc ε SL SX) (hc9 : cs + 0 ≤ c2 ∧ ss + 0 ≤ s2 ∧ c2 ≤ 601024 ∧ s2 ≤ 7293033) (K23 : gK) (h23 : gSm γ c2 s2 23 K23) : gSm γ cs ss 2643 (fL_law_k2643 N SL SX K23) := by
  unfold fL_law_k2643
  refine sm_iload (pc := 2643) G hb (by decide +kernel : decode code 2643 = .ok (.iload 5, 2)) ?_
  refine sm_icmp_eq (pc := 2645) (tgt := 2650) G hb (by decide +kernel : decode code 2645 = .ok (.if_icmp .eq 5, 3)) (by decide) ?_ ?_
  · skip
    refine sm_iload (pc := 2650) G hb (by decide +kernel : decode code 2650 = .ok (.iload 5, 2)) ?_
    refine sm_if_ne (pc := 2652) (tgt := 2667) G hb (by decide +kernel : decode code 2652 = .ok (.ifCond .ne 15, 3)) (by decide) ?_ ?_
    · skip
      refine sm_mask ?_
      exact fL_law_s2667 N SL SX G hb ho hy hR he hr hE hEL hSc (by omega) K23 h23
    · skip
      refine sm_aload_n (pc := 2655) G hb (by decide +kernel : decode code 2655 = .ok (.aload_n 3, 1)) rfl ?_
      refine sm_iconst (pc := 2656) G hb (by decide +kernel : decode code 2656 = .ok (.iconst 0, 1)) (by decide) ?_
      refine sm_lald (pc := 2657) G hb hy (by decide +kernel : decode code 2657 = .ok (.laload, 1)) ?_
      refine sm_iload (pc := 2658) G hb (by decide +kernel : decode code 2658 = .ok (.iload 6, 2)) ?_
      refine sm_i2l (pc := 2660) G hb (by decide +kernel : decode code 2660 = .ok (.i2l, 1)) ?_
      refine sm_lcmp (pc := 2661) G hb (by decide +kernel : decode code 2661 = .ok (.lcmp, 1)) ?_
      refine sm_if_eq (pc := 2662) (tgt := 2667) G hb (by decide +kernel : decode code 2662 = .ok (.ifCond .eq 5, 3)) (by decide) ?_ ?_
      · skip
        refine sm_mask ?_
        exact fL_law_s2667 N SL SX G hb ho hy hR he hr hE hEL hSc (by omega) K23 h23
      · skip
        refine sm_iconst (pc := 2665) G hb (by decide +kernel : decode code 2665 = .ok (.iconst 0, 1)) (by decide) ?_
        exact sm_zret (pc := 2666) G hb (by decide +kernel : decode code 2666 = .ok (.ireturn, 1)) hr
  · skip
    refine sm_iconst (pc := 2648) G hb (by decide +kernel : decode code 2648 = .ok (.iconst 0, 1)) (by decide) ?_
    exact sm_zret (pc := 2649) G hb (by decide +kernel : decode code 2649 = .ok (.ireturn, 1)) hr
set_option maxRecDepth 100000 in
set_option maxHeartbeats 8000000 in
theorem fL_law_s2614 {γ : gG} {cs ss c2 s2 : Nat} {ε : gE5} (N SL : Nat) (SX : Nat → Int32) (G : gOK γ) (hb : gcc γ = code) (ho : gow γ = RL) (hy : gly γ = gyL) (hR : grm γ = room_1) (he : genv γ = ε) (hr : grt γ = some .boolean) (hE : gEnv ε) (hEL : gEnvL ε) (hSc : gSc ε SL SX) (hc9 : cs + 1 ≤ c2 ∧ ss + 6 ≤ s2 ∧ c2 ≤ 601024 ∧ s2 ≤ 7293033) (K23 : gK) (h23 : gSm γ c2 s2 23 K23) : gSm γ cs ss 2614 (fL_law_k2614 N SL SX K23) := by
  unfold fL_law_k2614
  refine sm_aload_n (pc := 2614) G hb (by decide +kernel : decode code 2614 = .ok (.aload_n 1, 1)) rfl ?_
  refine sm_aload_n (pc := 2615) G hb (by decide +kernel : decode code 2615 = .ok (.aload_n 0, 1)) rfl ?_
  refine sm_iload (pc := 2616) G hb (by decide +kernel : decode code 2616 = .ok (.iload 4, 2)) ?_
  refine sm_iconst (pc := 2618) G hb (by decide +kernel : decode code 2618 = .ok (.iconst 1, 1)) (by decide) ?_
  refine sm_iadd (pc := 2619) G hb (by decide +kernel : decode code 2619 = .ok (.iadd, 1)) ?_
  refine sm_sld (pc := 2620) G hb ho he hE hSc (by decide +kernel : decode code 2620 = .ok (.iaload, 1)) ?_
  refine sm_aload_n (pc := 2621) G hb (by decide +kernel : decode code 2621 = .ok (.aload_n 3, 1)) rfl ?_
  refine sm_mono (ca_sub gI_sub) (sm_callW (pc := 2622) G hb ho hy he hE.1 3 [0, 1, 2, 3, 4, 5, 6, 7, 8, 9, 10, 11, 12, 13, 14, 15, 16, 17, 18, 19, 20, 21, 22, 23, 24, 25, 26, 27, 28, 29, 30, 31, 32, 33, 34, 35, 36, 37, 38, 39, 40, 41, 42, 43, 44, 45, 46, 47, 48, 49, 50, 51, 52, 53, 54, 55, 56, 57, 58, 59, 60, 61, 62, 63, 64, 65, 66, 67, 68, 69, 70, 71, 72, 73, 74, 75, 76, 77, 78, 79, 80, 81, 82, 83, 84, 85, 86, 87, 88, 89, 90, 91, 92, 93, 94, 95, 96, 97, 98, 99, 100, 101, 102, 103, 104, 105, 106, 107, 108, 109, 110, 111, 112, 113, 114, 115, 116, 117, 118, 119, 120, 121, 122, 123, 124, 125, 126, 127, 128, 129, 130, 131, 132, 133, 134, 135, 136, 137, 138, 139, 140, 141, 142, 143, 144, 145, 146, 147, 148, 149, 150, 151, 152, 153, 154, 155, 156, 157, 158, 159, 160, 161, 162, 163, 164, 165, 166, 167, 168, 169, 170, 171, 172, 173, 174, 175, 176, 177, 178, 179, 180, 181, 182, 183, 184, 185, 186, 187, 188, 189, 190, 191, 192, 193, 194, 195, 196, 197, 198, 199, 200, 201, 202, 203, 222] (kL_bestExcess hEL N) (gCo_of (by decide +kernel)) (by rw [hR]; exact ⟨by decide, by decide⟩) (by rw [hR]; exact ⟨by show _ ≤ 601024; omega, by show _ ≤ 7293033; omega⟩) (by decide +kernel) gw5_188 gw5_189 gw1_0 gw5_190 (by decide +kernel : decode code 2622 = .ok (.invokestatic 283, 3)) ?_)
  refine sm_istore (pc := 2625) G hb (by decide +kernel : decode code 2625 = .ok (.istore 5, 2)) ?_
  refine sm_aload_n (pc := 2627) G hb (by decide +kernel : decode code 2627 = .ok (.aload_n 2, 1)) rfl ?_
  refine sm_aload_n (pc := 2628) G hb (by decide +kernel : decode code 2628 = .ok (.aload_n 0, 1)) rfl ?_
  refine sm_iload (pc := 2629) G hb (by decide +kernel : decode code 2629 = .ok (.iload 4, 2)) ?_
  refine sm_iconst (pc := 2631) G hb (by decide +kernel : decode code 2631 = .ok (.iconst 1, 1)) (by decide) ?_
  refine sm_iadd (pc := 2632) G hb (by decide +kernel : decode code 2632 = .ok (.iadd, 1)) ?_
  refine sm_sld (pc := 2633) G hb ho he hE hSc (by decide +kernel : decode code 2633 = .ok (.iaload, 1)) ?_
  refine sm_mono (cav_sub gI_sub) (sm_callV (pc := 2634) (N := 32) (T := TX9) (C := RX9) G hb ho hy he hE.1 2 [204, 205, 206, 207, 208, 209, 210, 211, 212, 213, 214, 215, 216, 217, 218, 219, 220, 221] (kX9_bestExcess hE N) (gCo_of (by decide +kernel)) (by rw [hR]; exact ⟨by decide, by decide⟩) rfl rfl (by decide +kernel) gw8_75 gw8_76 gw8_77 gw1_11 gw8_78 (by decide +kernel : decode code 2634 = .ok (.invokevirtual 285, 3)) ?_)
  refine sm_istore (pc := 2637) G hb (by decide +kernel : decode code 2637 = .ok (.istore 6, 2)) ?_
  refine sm_aload_n (pc := 2639) G hb (by decide +kernel : decode code 2639 = .ok (.aload_n 2, 1)) rfl ?_
  refine sm_mono (cav_sub gI_sub) (sm_callV (pc := 2640) (N := 32) (T := TX9) (C := RX9) G hb ho hy he hE.1 1 [204, 205, 206, 207, 208, 209, 210, 211, 212, 213, 214, 215, 216, 217, 218, 219, 220, 221] (kX9_thrown hE N) (gCo_of (by decide +kernel)) (by rw [hR]; exact ⟨by decide, by decide⟩) rfl rfl (by decide +kernel) gw6_94 gw6_95 gw6_96 gw1_11 gw6_97 (by decide +kernel : decode code 2640 = .ok (.invokevirtual 151, 3)) ?_)
  refine sm_mask ?_
  exact fL_law_s2643 N SL SX G hb ho hy hR he hr hE hEL hSc (by omega) K23 h23
set_option maxRecDepth 100000 in
set_option maxHeartbeats 8000000 in
theorem fL_law_s2723 {γ : gG} {cs ss c2 s2 : Nat} {ε : gE5} (N SL : Nat) (SX : Nat → Int32) (G : gOK γ) (hb : gcc γ = code) (ho : gow γ = RL) (hy : gly γ = gyL) (hR : grm γ = room_1) (he : genv γ = ε) (hr : grt γ = some .boolean) (hE : gEnv ε) (hEL : gEnvL ε) (hSc : gSc ε SL SX) (hc9 : cs + 0 ≤ c2 ∧ ss + 0 ≤ s2 ∧ c2 ≤ 601024 ∧ s2 ≤ 7293033) (K23 : gK) (h23 : gSm γ c2 s2 23 K23) : gSm γ cs ss 2723 (fL_law_k2723 N SL SX K23) := by
  unfold fL_law_k2723
  refine sm_goto (pc := 2723) (tgt := 2794) G hb (by decide +kernel : decode code 2723 = .ok (.goto 71, 3)) (by decide) ?_
  refine sm_mask ?_
  exact fL_law_s2794 N SL SX G hb ho hy hR he hr hE hEL hSc (by omega) K23 h23
set_option maxRecDepth 100000 in
set_option maxHeartbeats 8000000 in
theorem fL_law_s2699 {γ : gG} {cs ss c2 s2 : Nat} {ε : gE5} (N SL : Nat) (SX : Nat → Int32) (G : gOK γ) (hb : gcc γ = code) (ho : gow γ = RL) (hy : gly γ = gyL) (hR : grm γ = room_1) (he : genv γ = ε) (hr : grt γ = some .boolean) (hE : gEnv ε) (hEL : gEnvL ε) (hSc : gSc ε SL SX) (hc9 : cs + 0 ≤ c2 ∧ ss + 0 ≤ s2 ∧ c2 ≤ 601024 ∧ s2 ≤ 7293033) (K23 : gK) (h23 : gSm γ c2 s2 23 K23) : gSm γ cs ss 2699 (fL_law_k2699 N SL SX K23) := by
  unfold fL_law_k2699
  refine sm_iload (pc := 2699) G hb (by decide +kernel : decode code 2699 = .ok (.iload 5, 2)) ?_
  refine sm_icmp_eq (pc := 2701) (tgt := 2706) G hb (by decide +kernel : decode code 2701 = .ok (.if_icmp .eq 5, 3)) (by decide) ?_ ?_
  · skip
    refine sm_iload (pc := 2706) G hb (by decide +kernel : decode code 2706 = .ok (.iload 5, 2)) ?_
    refine sm_if_ne (pc := 2708) (tgt := 2723) G hb (by decide +kernel : decode code 2708 = .ok (.ifCond .ne 15, 3)) (by decide) ?_ ?_
    · skip
      refine sm_mask ?_
      exact fL_law_s2723 N SL SX G hb ho hy hR he hr hE hEL hSc (by omega) K23 h23
    · skip
      refine sm_aload_n (pc := 2711) G hb (by decide +kernel : decode code 2711 = .ok (.aload_n 3, 1)) rfl ?_
      refine sm_iconst (pc := 2712) G hb (by decide +kernel : decode code 2712 = .ok (.iconst 0, 1)) (by decide) ?_
      refine sm_lald (pc := 2713) G hb hy (by decide +kernel : decode code 2713 = .ok (.laload, 1)) ?_
      refine sm_iload (pc := 2714) G hb (by decide +kernel : decode code 2714 = .ok (.iload 6, 2)) ?_
      refine sm_i2l (pc := 2716) G hb (by decide +kernel : decode code 2716 = .ok (.i2l, 1)) ?_
      refine sm_lcmp (pc := 2717) G hb (by decide +kernel : decode code 2717 = .ok (.lcmp, 1)) ?_
      refine sm_if_eq (pc := 2718) (tgt := 2723) G hb (by decide +kernel : decode code 2718 = .ok (.ifCond .eq 5, 3)) (by decide) ?_ ?_
      · skip
        refine sm_mask ?_
        exact fL_law_s2723 N SL SX G hb ho hy hR he hr hE hEL hSc (by omega) K23 h23
      · skip
        refine sm_iconst (pc := 2721) G hb (by decide +kernel : decode code 2721 = .ok (.iconst 0, 1)) (by decide) ?_
        exact sm_zret (pc := 2722) G hb (by decide +kernel : decode code 2722 = .ok (.ireturn, 1)) hr
  · skip
    refine sm_iconst (pc := 2704) G hb (by decide +kernel : decode code 2704 = .ok (.iconst 0, 1)) (by decide) ?_
    exact sm_zret (pc := 2705) G hb (by decide +kernel : decode code 2705 = .ok (.ireturn, 1)) hr
set_option maxRecDepth 100000 in
set_option maxHeartbeats 8000000 in
theorem fL_law_s2670 {γ : gG} {cs ss c2 s2 : Nat} {ε : gE5} (N SL : Nat) (SX : Nat → Int32) (G : gOK γ) (hb : gcc γ = code) (ho : gow γ = RL) (hy : gly γ = gyL) (hR : grm γ = room_1) (he : genv γ = ε) (hr : grt γ = some .boolean) (hE : gEnv ε) (hEL : gEnvL ε) (hSc : gSc ε SL SX) (hc9 : cs + 1 ≤ c2 ∧ ss + 6 ≤ s2 ∧ c2 ≤ 601024 ∧ s2 ≤ 7293033) (K23 : gK) (h23 : gSm γ c2 s2 23 K23) : gSm γ cs ss 2670 (fL_law_k2670 N SL SX K23) := by
  unfold fL_law_k2670
  refine sm_aload_n (pc := 2670) G hb (by decide +kernel : decode code 2670 = .ok (.aload_n 1, 1)) rfl ?_
  refine sm_aload_n (pc := 2671) G hb (by decide +kernel : decode code 2671 = .ok (.aload_n 0, 1)) rfl ?_
  refine sm_iload (pc := 2672) G hb (by decide +kernel : decode code 2672 = .ok (.iload 4, 2)) ?_
  refine sm_iconst (pc := 2674) G hb (by decide +kernel : decode code 2674 = .ok (.iconst 1, 1)) (by decide) ?_
  refine sm_iadd (pc := 2675) G hb (by decide +kernel : decode code 2675 = .ok (.iadd, 1)) ?_
  refine sm_sld (pc := 2676) G hb ho he hE hSc (by decide +kernel : decode code 2676 = .ok (.iaload, 1)) ?_
  refine sm_aload_n (pc := 2677) G hb (by decide +kernel : decode code 2677 = .ok (.aload_n 3, 1)) rfl ?_
  refine sm_mono (ca_sub gI_sub) (sm_callW (pc := 2678) G hb ho hy he hE.1 3 [0, 1, 2, 3, 4, 5, 6, 7, 8, 9, 10, 11, 12, 13, 14, 15, 16, 17, 18, 19, 20, 21, 22, 23, 24, 25, 26, 27, 28, 29, 30, 31, 32, 33, 34, 35, 36, 37, 38, 39, 40, 41, 42, 43, 44, 45, 46, 47, 48, 49, 50, 51, 52, 53, 54, 55, 56, 57, 58, 59, 60, 61, 62, 63, 64, 65, 66, 67, 68, 69, 70, 71, 72, 73, 74, 75, 76, 77, 78, 79, 80, 81, 82, 83, 84, 85, 86, 87, 88, 89, 90, 91, 92, 93, 94, 95, 96, 97, 98, 99, 100, 101, 102, 103, 104, 105, 106, 107, 108, 109, 110, 111, 112, 113, 114, 115, 116, 117, 118, 119, 120, 121, 122, 123, 124, 125, 126, 127, 128, 129, 130, 131, 132, 133, 134, 135, 136, 137, 138, 139, 140, 141, 142, 143, 144, 145, 146, 147, 148, 149, 150, 151, 152, 153, 154, 155, 156, 157, 158, 159, 160, 161, 162, 163, 164, 165, 166, 167, 168, 169, 170, 171, 172, 173, 174, 175, 176, 177, 178, 179, 180, 181, 182, 183, 184, 185, 186, 187, 188, 189, 190, 191, 192, 193, 194, 195, 196, 197, 198, 199, 200, 201, 202, 203, 222] (kL_bestSettings hEL N) (gCo_of (by decide +kernel)) (by rw [hR]; exact ⟨by decide, by decide⟩) (by rw [hR]; exact ⟨by show _ ≤ 601024; omega, by show _ ≤ 7293033; omega⟩) (by decide +kernel) gw5_195 gw5_196 gw1_0 gw5_197 (by decide +kernel : decode code 2678 = .ok (.invokestatic 286, 3)) ?_)
  refine sm_istore (pc := 2681) G hb (by decide +kernel : decode code 2681 = .ok (.istore 5, 2)) ?_
  refine sm_aload_n (pc := 2683) G hb (by decide +kernel : decode code 2683 = .ok (.aload_n 2, 1)) rfl ?_
  refine sm_aload_n (pc := 2684) G hb (by decide +kernel : decode code 2684 = .ok (.aload_n 0, 1)) rfl ?_
  refine sm_iload (pc := 2685) G hb (by decide +kernel : decode code 2685 = .ok (.iload 4, 2)) ?_
  refine sm_iconst (pc := 2687) G hb (by decide +kernel : decode code 2687 = .ok (.iconst 1, 1)) (by decide) ?_
  refine sm_iadd (pc := 2688) G hb (by decide +kernel : decode code 2688 = .ok (.iadd, 1)) ?_
  refine sm_sld (pc := 2689) G hb ho he hE hSc (by decide +kernel : decode code 2689 = .ok (.iaload, 1)) ?_
  refine sm_mono (cav_sub gI_sub) (sm_callV (pc := 2690) (N := 32) (T := TX9) (C := RX9) G hb ho hy he hE.1 2 [204, 205, 206, 207, 208, 209, 210, 211, 212, 213, 214, 215, 216, 217, 218, 219, 220, 221] (kX9_bestSettings hE N) (gCo_of (by decide +kernel)) (by rw [hR]; exact ⟨by decide, by decide⟩) rfl rfl (by decide +kernel) gw8_79 gw8_80 gw8_81 gw1_11 gw8_82 (by decide +kernel : decode code 2690 = .ok (.invokevirtual 288, 3)) ?_)
  refine sm_istore (pc := 2693) G hb (by decide +kernel : decode code 2693 = .ok (.istore 6, 2)) ?_
  refine sm_aload_n (pc := 2695) G hb (by decide +kernel : decode code 2695 = .ok (.aload_n 2, 1)) rfl ?_
  refine sm_mono (cav_sub gI_sub) (sm_callV (pc := 2696) (N := 32) (T := TX9) (C := RX9) G hb ho hy he hE.1 1 [204, 205, 206, 207, 208, 209, 210, 211, 212, 213, 214, 215, 216, 217, 218, 219, 220, 221] (kX9_thrown hE N) (gCo_of (by decide +kernel)) (by rw [hR]; exact ⟨by decide, by decide⟩) rfl rfl (by decide +kernel) gw6_94 gw6_95 gw6_96 gw1_11 gw6_97 (by decide +kernel : decode code 2696 = .ok (.invokevirtual 151, 3)) ?_)
  refine sm_mask ?_
  exact fL_law_s2699 N SL SX G hb ho hy hR he hr hE hEL hSc (by omega) K23 h23
set_option maxRecDepth 100000 in
set_option maxHeartbeats 8000000 in
theorem fL_law_s2791 {γ : gG} {cs ss c2 s2 : Nat} {ε : gE5} (N SL : Nat) (SX : Nat → Int32) (G : gOK γ) (hb : gcc γ = code) (ho : gow γ = RL) (hy : gly γ = gyL) (hR : grm γ = room_1) (he : genv γ = ε) (hr : grt γ = some .boolean) (hE : gEnv ε) (hEL : gEnvL ε) (hSc : gSc ε SL SX) (hc9 : cs + 0 ≤ c2 ∧ ss + 0 ≤ s2 ∧ c2 ≤ 601024 ∧ s2 ≤ 7293033) (K23 : gK) (h23 : gSm γ c2 s2 23 K23) : gSm γ cs ss 2791 (fL_law_k2791 N SL SX K23) := by
  unfold fL_law_k2791
  refine sm_goto (pc := 2791) (tgt := 2794) G hb (by decide +kernel : decode code 2791 = .ok (.goto 3, 3)) (by decide) ?_
  refine sm_mask ?_
  exact fL_law_s2794 N SL SX G hb ho hy hR he hr hE hEL hSc (by omega) K23 h23
set_option maxRecDepth 100000 in
set_option maxHeartbeats 8000000 in
theorem fL_law_s2767 {γ : gG} {cs ss c2 s2 : Nat} {ε : gE5} (N SL : Nat) (SX : Nat → Int32) (G : gOK γ) (hb : gcc γ = code) (ho : gow γ = RL) (hy : gly γ = gyL) (hR : grm γ = room_1) (he : genv γ = ε) (hr : grt γ = some .boolean) (hE : gEnv ε) (hEL : gEnvL ε) (hSc : gSc ε SL SX) (hc9 : cs + 0 ≤ c2 ∧ ss + 0 ≤ s2 ∧ c2 ≤ 601024 ∧ s2 ≤ 7293033) (K23 : gK) (h23 : gSm γ c2 s2 23 K23) : gSm γ cs ss 2767 (fL_law_k2767 N SL SX K23) := by
  unfold fL_law_k2767
  refine sm_iload (pc := 2767) G hb (by decide +kernel : decode code 2767 = .ok (.iload 5, 2)) ?_
  refine sm_icmp_eq (pc := 2769) (tgt := 2774) G hb (by decide +kernel : decode code 2769 = .ok (.if_icmp .eq 5, 3)) (by decide) ?_ ?_
  · skip
    refine sm_iload (pc := 2774) G hb (by decide +kernel : decode code 2774 = .ok (.iload 5, 2)) ?_
    refine sm_if_ne (pc := 2776) (tgt := 2791) G hb (by decide +kernel : decode code 2776 = .ok (.ifCond .ne 15, 3)) (by decide) ?_ ?_
    · skip
      refine sm_mask ?_
      exact fL_law_s2791 N SL SX G hb ho hy hR he hr hE hEL hSc (by omega) K23 h23
    · skip
      refine sm_aload_n (pc := 2779) G hb (by decide +kernel : decode code 2779 = .ok (.aload_n 3, 1)) rfl ?_
      refine sm_iconst (pc := 2780) G hb (by decide +kernel : decode code 2780 = .ok (.iconst 0, 1)) (by decide) ?_
      refine sm_lald (pc := 2781) G hb hy (by decide +kernel : decode code 2781 = .ok (.laload, 1)) ?_
      refine sm_iload (pc := 2782) G hb (by decide +kernel : decode code 2782 = .ok (.iload 6, 2)) ?_
      refine sm_i2l (pc := 2784) G hb (by decide +kernel : decode code 2784 = .ok (.i2l, 1)) ?_
      refine sm_lcmp (pc := 2785) G hb (by decide +kernel : decode code 2785 = .ok (.lcmp, 1)) ?_
      refine sm_if_eq (pc := 2786) (tgt := 2791) G hb (by decide +kernel : decode code 2786 = .ok (.ifCond .eq 5, 3)) (by decide) ?_ ?_
      · skip
        refine sm_mask ?_
        exact fL_law_s2791 N SL SX G hb ho hy hR he hr hE hEL hSc (by omega) K23 h23
      · skip
        refine sm_iconst (pc := 2789) G hb (by decide +kernel : decode code 2789 = .ok (.iconst 0, 1)) (by decide) ?_
        exact sm_zret (pc := 2790) G hb (by decide +kernel : decode code 2790 = .ok (.ireturn, 1)) hr
  · skip
    refine sm_iconst (pc := 2772) G hb (by decide +kernel : decode code 2772 = .ok (.iconst 0, 1)) (by decide) ?_
    exact sm_zret (pc := 2773) G hb (by decide +kernel : decode code 2773 = .ok (.ireturn, 1)) hr
set_option maxRecDepth 100000 in
set_option maxHeartbeats 8000000 in
theorem fL_law_s2726 {γ : gG} {cs ss c2 s2 : Nat} {ε : gE5} (N SL : Nat) (SX : Nat → Int32) (G : gOK γ) (hb : gcc γ = code) (ho : gow γ = RL) (hy : gly γ = gyL) (hR : grm γ = room_1) (he : genv γ = ε) (hr : grt γ = some .boolean) (hE : gEnv ε) (hEL : gEnvL ε) (hSc : gSc ε SL SX) (hc9 : cs + 2 ≤ c2 ∧ ss + 12 ≤ s2 ∧ c2 ≤ 601024 ∧ s2 ≤ 7293033) (K23 : gK) (h23 : gSm γ c2 s2 23 K23) : gSm γ cs ss 2726 (fL_law_k2726 N SL SX K23) := by
  unfold fL_law_k2726
  refine sm_aload_n (pc := 2726) G hb (by decide +kernel : decode code 2726 = .ok (.aload_n 1, 1)) rfl ?_
  refine sm_aload_n (pc := 2727) G hb (by decide +kernel : decode code 2727 = .ok (.aload_n 0, 1)) rfl ?_
  refine sm_iload (pc := 2728) G hb (by decide +kernel : decode code 2728 = .ok (.iload 4, 2)) ?_
  refine sm_iconst (pc := 2730) G hb (by decide +kernel : decode code 2730 = .ok (.iconst 1, 1)) (by decide) ?_
  refine sm_iadd (pc := 2731) G hb (by decide +kernel : decode code 2731 = .ok (.iadd, 1)) ?_
  refine sm_sld (pc := 2732) G hb ho he hE hSc (by decide +kernel : decode code 2732 = .ok (.iaload, 1)) ?_
  refine sm_aload_n (pc := 2733) G hb (by decide +kernel : decode code 2733 = .ok (.aload_n 0, 1)) rfl ?_
  refine sm_iload (pc := 2734) G hb (by decide +kernel : decode code 2734 = .ok (.iload 4, 2)) ?_
  refine sm_iconst (pc := 2736) G hb (by decide +kernel : decode code 2736 = .ok (.iconst 2, 1)) (by decide) ?_
  refine sm_iadd (pc := 2737) G hb (by decide +kernel : decode code 2737 = .ok (.iadd, 1)) ?_
  refine sm_sld (pc := 2738) G hb ho he hE hSc (by decide +kernel : decode code 2738 = .ok (.iaload, 1)) ?_
  refine sm_aload_n (pc := 2739) G hb (by decide +kernel : decode code 2739 = .ok (.aload_n 3, 1)) rfl ?_
  refine sm_mono (ca_sub gI_sub) (sm_callW (pc := 2740) G hb ho hy he hE.1 4 [0, 1, 2, 3, 4, 5, 6, 7, 8, 9, 10, 11, 12, 13, 14, 15, 16, 17, 18, 19, 20, 21, 22, 23, 24, 25, 26, 27, 28, 29, 30, 31, 32, 33, 34, 35, 36, 37, 38, 39, 40, 41, 42, 43, 44, 45, 46, 47, 48, 49, 50, 51, 52, 53, 54, 55, 56, 57, 58, 59, 60, 61, 62, 63, 64, 65, 66, 67, 68, 69, 70, 71, 72, 73, 74, 75, 76, 77, 78, 79, 80, 81, 82, 83, 84, 85, 86, 87, 88, 89, 90, 91, 92, 93, 94, 95, 96, 97, 98, 99, 100, 101, 102, 103, 104, 105, 106, 107, 108, 109, 110, 111, 112, 113, 114, 115, 116, 117, 118, 119, 120, 121, 122, 123, 124, 125, 126, 127, 128, 129, 130, 131, 132, 133, 134, 135, 136, 137, 138, 139, 140, 141, 142, 143, 144, 145, 146, 147, 148, 149, 150, 151, 152, 153, 154, 155, 156, 157, 158, 159, 160, 161, 162, 163, 164, 165, 166, 167, 168, 169, 170, 171, 172, 173, 174, 175, 176, 177, 178, 179, 180, 181, 182, 183, 184, 185, 186, 187, 188, 189, 190, 191, 192, 193, 194, 195, 196, 197, 198, 199, 200, 201, 202, 203, 222] (kL_sustainable hEL N) (gCo_of (by decide +kernel)) (by rw [hR]; exact ⟨by decide, by decide⟩) (by rw [hR]; exact ⟨by show _ ≤ 601024; omega, by show _ ≤ 7293033; omega⟩) (by decide +kernel) gw5_202 gw5_203 gw1_0 gw5_204 (by decide +kernel : decode code 2740 = .ok (.invokestatic 289, 3)) ?_)
  refine sm_istore (pc := 2743) G hb (by decide +kernel : decode code 2743 = .ok (.istore 5, 2)) ?_
  refine sm_aload_n (pc := 2745) G hb (by decide +kernel : decode code 2745 = .ok (.aload_n 2, 1)) rfl ?_
  refine sm_aload_n (pc := 2746) G hb (by decide +kernel : decode code 2746 = .ok (.aload_n 0, 1)) rfl ?_
  refine sm_iload (pc := 2747) G hb (by decide +kernel : decode code 2747 = .ok (.iload 4, 2)) ?_
  refine sm_iconst (pc := 2749) G hb (by decide +kernel : decode code 2749 = .ok (.iconst 1, 1)) (by decide) ?_
  refine sm_iadd (pc := 2750) G hb (by decide +kernel : decode code 2750 = .ok (.iadd, 1)) ?_
  refine sm_sld (pc := 2751) G hb ho he hE hSc (by decide +kernel : decode code 2751 = .ok (.iaload, 1)) ?_
  refine sm_aload_n (pc := 2752) G hb (by decide +kernel : decode code 2752 = .ok (.aload_n 0, 1)) rfl ?_
  refine sm_iload (pc := 2753) G hb (by decide +kernel : decode code 2753 = .ok (.iload 4, 2)) ?_
  refine sm_iconst (pc := 2755) G hb (by decide +kernel : decode code 2755 = .ok (.iconst 2, 1)) (by decide) ?_
  refine sm_iadd (pc := 2756) G hb (by decide +kernel : decode code 2756 = .ok (.iadd, 1)) ?_
  refine sm_sld (pc := 2757) G hb ho he hE hSc (by decide +kernel : decode code 2757 = .ok (.iaload, 1)) ?_
  refine sm_mono (cav_sub gI_sub) (sm_callV (pc := 2758) (N := 32) (T := TX9) (C := RX9) G hb ho hy he hE.1 3 [204, 205, 206, 207, 208, 209, 210, 211, 212, 213, 214, 215, 216, 217, 218, 219, 220, 221] (kX9_sustainable hE N) (gCo_of (by decide +kernel)) (by rw [hR]; exact ⟨by decide, by decide⟩) rfl rfl (by decide +kernel) gw8_83 gw8_84 gw8_85 gw1_11 gw8_86 (by decide +kernel : decode code 2758 = .ok (.invokevirtual 291, 3)) ?_)
  refine sm_istore (pc := 2761) G hb (by decide +kernel : decode code 2761 = .ok (.istore 6, 2)) ?_
  refine sm_aload_n (pc := 2763) G hb (by decide +kernel : decode code 2763 = .ok (.aload_n 2, 1)) rfl ?_
  refine sm_mono (cav_sub gI_sub) (sm_callV (pc := 2764) (N := 32) (T := TX9) (C := RX9) G hb ho hy he hE.1 1 [204, 205, 206, 207, 208, 209, 210, 211, 212, 213, 214, 215, 216, 217, 218, 219, 220, 221] (kX9_thrown hE N) (gCo_of (by decide +kernel)) (by rw [hR]; exact ⟨by decide, by decide⟩) rfl rfl (by decide +kernel) gw6_94 gw6_95 gw6_96 gw1_11 gw6_97 (by decide +kernel : decode code 2764 = .ok (.invokevirtual 151, 3)) ?_)
  refine sm_mask ?_
  exact fL_law_s2767 N SL SX G hb ho hy hR he hr hE hEL hSc (by omega) K23 h23

