theorem tb_n {γ : gG} {cs ss : Nat} : ∀ (i t : Nat) (k : gK), ([] : List Nat)[i]? = some t → ([] : List gK)[i]? = some k → gSm γ cs ss t k := fun i t k h => by cases h
theorem tb_c {γ : gG} {cs ss t0 : Nat} {k0 : gK} {ts : List Nat} {ks : List gK} (h0 : gSm γ cs ss t0 k0) (hs : ∀ (i t : Nat) (k : gK), ts[i]? = some t → ks[i]? = some k → gSm γ cs ss t k) : ∀ (i t : Nat) (k : gK), (t0 :: ts)[i]? = some t → (k0 :: ks)[i]? = some k → gSm γ cs ss t k
  | 0, t, k, h1, h2 => by cases h1; cases h2; exact h0
  | i + 1, t, k, h1, h2 => hs i t k h1 h2
set_option maxRecDepth 100000 in
set_option maxHeartbeats 8000000 in
theorem fL_law_s23 {γ : gG} {cs ss c2 s2 : Nat} {ε : gE5} (N SL : Nat) (SX : Nat → Int32) (G : gOK γ) (hb : gcc γ = code) (ho : gow γ = RL) (hy : gly γ = gyL) (hR : grm γ = room_1) (he : genv γ = ε) (hr : grt γ = some .boolean) (hE : gEnv ε) (hEL : gEnvL ε) (hSc : gSc ε SL SX) (hc9 : cs + 6 ≤ c2 ∧ ss + 36 ≤ s2 ∧ c2 ≤ 601024 ∧ s2 ≤ 7293033) (K23 : gK) (h23 : gSm γ c2 s2 23 K23) : gSm γ cs ss 23 (fL_law_b23 N SL SX K23) := by
  unfold fL_law_b23
  refine sm_iload (pc := 23) G hb (by decide +kernel : decode code 23 = .ok (.iload 4, 2)) ?_
  refine sm_aload_n (pc := 25) G hb (by decide +kernel : decode code 25 = .ok (.aload_n 0, 1)) rfl ?_
  refine sm_slen (pc := 26) G hb ho he hE hSc (by decide +kernel : decode code 26 = .ok (.arraylength, 1)) ?_
  refine sm_bipush (pc := 27) G hb (by decide +kernel : decode code 27 = .ok (.bipush 6, 2)) (by decide) ?_
  refine sm_isub (pc := 29) G hb (by decide +kernel : decode code 29 = .ok (.isub, 1)) ?_
  refine sm_icmp_gt (pc := 30) (tgt := 2800) G hb (by decide +kernel : decode code 30 = .ok (.if_icmp .gt 2770, 3)) (by decide) ?_ ?_
  · skip
    refine sm_iconst (pc := 2800) G hb (by decide +kernel : decode code 2800 = .ok (.iconst 1, 1)) (by decide) ?_
    exact sm_zret (pc := 2801) G hb (by decide +kernel : decode code 2801 = .ok (.ireturn, 1)) hr
  · skip
    refine sm_aload_n (pc := 33) G hb (by decide +kernel : decode code 33 = .ok (.aload_n 0, 1)) rfl ?_
    refine sm_iload (pc := 34) G hb (by decide +kernel : decode code 34 = .ok (.iload 4, 2)) ?_
    refine sm_sld (pc := 36) G hb ho he hE hSc (by decide +kernel : decode code 36 = .ok (.iaload, 1)) ?_
    refine sm_bipush (pc := 37) G hb (by decide +kernel : decode code 37 = .ok (.bipush 63, 2)) (by decide) ?_
    refine sm_iand (pc := 39) G hb (by decide +kernel : decode code 39 = .ok (.iand, 1)) ?_
    refine sm_mono tab_sub (sm_table (pc := 40) (tgt := 2794) G hb [228, 332, 388, 401, 445, 525, 593, 696, 788, 856, 924, 992, 1060, 1128, 1141, 1197, 1241, 1254, 1267, 1311, 1367, 1435, 1491, 1559, 1627, 1695, 1763, 1776, 1844, 1912, 2004, 2059, 2103, 2147, 2231, 2287, 2343, 2410, 2490, 2558, 2614, 2670, 2726] (by decide +kernel : decode code 40 = .ok (.tableswitch 2754 0 42 #[188, 292, 348, 361, 405, 485, 553, 656, 748, 816, 884, 952, 1020, 1088, 1101, 1157, 1201, 1214, 1227, 1271, 1327, 1395, 1451, 1519, 1587, 1655, 1723, 1736, 1804, 1872, 1964, 2019, 2063, 2107, 2191, 2247, 2303, 2370, 2450, 2518, 2574, 2630, 2686], 188)) (by decide) (by decide) ?_ ?_ rfl)
    · skip
      refine sm_mask ?_
      exact fL_law_s2794 N SL SX G hb ho hy hR he hr hE hEL hSc (by omega) K23 h23
    · skip
      refine tb_c (sm_mask (fL_law_s228 N SL SX G hb ho hy hR he hr hE hEL hSc (by omega) K23 h23)) ?_
      refine tb_c (sm_mask (fL_law_s332 N SL SX G hb ho hy hR he hr hE hEL hSc (by omega) K23 h23)) ?_
      refine tb_c (sm_mask (fL_law_s388 N SL SX G hb ho hy hR he hr hE hEL hSc (by omega) K23 h23)) ?_
      refine tb_c (sm_mask (fL_law_s401 N SL SX G hb ho hy hR he hr hE hEL hSc (by omega) K23 h23)) ?_
      refine tb_c (sm_mask (fL_law_s445 N SL SX G hb ho hy hR he hr hE hEL hSc (by omega) K23 h23)) ?_
      refine tb_c (sm_mask (fL_law_s525 N SL SX G hb ho hy hR he hr hE hEL hSc (by omega) K23 h23)) ?_
      refine tb_c (sm_mask (fL_law_s593 N SL SX G hb ho hy hR he hr hE hEL hSc (by omega) K23 h23)) ?_
      refine tb_c (sm_mask (fL_law_s696 N SL SX G hb ho hy hR he hr hE hEL hSc (by omega) K23 h23)) ?_
      refine tb_c (sm_mask (fL_law_s788 N SL SX G hb ho hy hR he hr hE hEL hSc (by omega) K23 h23)) ?_
      refine tb_c (sm_mask (fL_law_s856 N SL SX G hb ho hy hR he hr hE hEL hSc (by omega) K23 h23)) ?_
      refine tb_c (sm_mask (fL_law_s924 N SL SX G hb ho hy hR he hr hE hEL hSc (by omega) K23 h23)) ?_
      refine tb_c (sm_mask (fL_law_s992 N SL SX G hb ho hy hR he hr hE hEL hSc (by omega) K23 h23)) ?_
      refine tb_c (sm_mask (fL_law_s1060 N SL SX G hb ho hy hR he hr hE hEL hSc (by omega) K23 h23)) ?_
      refine tb_c (sm_mask (fL_law_s1128 N SL SX G hb ho hy hR he hr hE hEL hSc (by omega) K23 h23)) ?_
      refine tb_c (sm_mask (fL_law_s1141 N SL SX G hb ho hy hR he hr hE hEL hSc (by omega) K23 h23)) ?_
      refine tb_c (sm_mask (fL_law_s1197 N SL SX G hb ho hy hR he hr hE hEL hSc (by omega) K23 h23)) ?_
      refine tb_c (sm_mask (fL_law_s1241 N SL SX G hb ho hy hR he hr hE hEL hSc (by omega) K23 h23)) ?_
      refine tb_c (sm_mask (fL_law_s1254 N SL SX G hb ho hy hR he hr hE hEL hSc (by omega) K23 h23)) ?_
      refine tb_c (sm_mask (fL_law_s1267 N SL SX G hb ho hy hR he hr hE hEL hSc (by omega) K23 h23)) ?_
      refine tb_c (sm_mask (fL_law_s1311 N SL SX G hb ho hy hR he hr hE hEL hSc (by omega) K23 h23)) ?_
      refine tb_c (sm_mask (fL_law_s1367 N SL SX G hb ho hy hR he hr hE hEL hSc (by omega) K23 h23)) ?_
      refine tb_c (sm_mask (fL_law_s1435 N SL SX G hb ho hy hR he hr hE hEL hSc (by omega) K23 h23)) ?_
      refine tb_c (sm_mask (fL_law_s1491 N SL SX G hb ho hy hR he hr hE hEL hSc (by omega) K23 h23)) ?_
      refine tb_c (sm_mask (fL_law_s1559 N SL SX G hb ho hy hR he hr hE hEL hSc (by omega) K23 h23)) ?_
      refine tb_c (sm_mask (fL_law_s1627 N SL SX G hb ho hy hR he hr hE hEL hSc (by omega) K23 h23)) ?_
      refine tb_c (sm_mask (fL_law_s1695 N SL SX G hb ho hy hR he hr hE hEL hSc (by omega) K23 h23)) ?_
      refine tb_c (sm_mask (fL_law_s1763 N SL SX G hb ho hy hR he hr hE hEL hSc (by omega) K23 h23)) ?_
      refine tb_c (sm_mask (fL_law_s1776 N SL SX G hb ho hy hR he hr hE hEL hSc (by omega) K23 h23)) ?_
      refine tb_c (sm_mask (fL_law_s1844 N SL SX G hb ho hy hR he hr hE hEL hSc (by omega) K23 h23)) ?_
      refine tb_c (sm_mask (fL_law_s1912 N SL SX G hb ho hy hR he hr hE hEL hSc (by omega) K23 h23)) ?_
      refine tb_c (sm_mask (fL_law_s2004 N SL SX G hb ho hy hR he hr hE hEL hSc (by omega) K23 h23)) ?_
      refine tb_c (sm_mask (fL_law_s2059 N SL SX G hb ho hy hR he hr hE hEL hSc (by omega) K23 h23)) ?_
      refine tb_c (sm_mask (fL_law_s2103 N SL SX G hb ho hy hR he hr hE hEL hSc (by omega) K23 h23)) ?_
      refine tb_c (sm_mask (fL_law_s2147 N SL SX G hb ho hy hR he hr hE hEL hSc (by omega) K23 h23)) ?_
      refine tb_c (sm_mask (fL_law_s2231 N SL SX G hb ho hy hR he hr hE hEL hSc (by omega) K23 h23)) ?_
      refine tb_c (sm_mask (fL_law_s2287 N SL SX G hb ho hy hR he hr hE hEL hSc (by omega) K23 h23)) ?_
      refine tb_c (sm_mask (fL_law_s2343 N SL SX G hb ho hy hR he hr hE hEL hSc (by omega) K23 h23)) ?_
      refine tb_c (sm_mask (fL_law_s2410 N SL SX G hb ho hy hR he hr hE hEL hSc (by omega) K23 h23)) ?_
      refine tb_c (sm_mask (fL_law_s2490 N SL SX G hb ho hy hR he hr hE hEL hSc (by omega) K23 h23)) ?_
      refine tb_c (sm_mask (fL_law_s2558 N SL SX G hb ho hy hR he hr hE hEL hSc (by omega) K23 h23)) ?_
      refine tb_c (sm_mask (fL_law_s2614 N SL SX G hb ho hy hR he hr hE hEL hSc (by omega) K23 h23)) ?_
      refine tb_c (sm_mask (fL_law_s2670 N SL SX G hb ho hy hR he hr hE hEL hSc (by omega) K23 h23)) ?_
      refine tb_c (sm_mask (fL_law_s2726 N SL SX G hb ho hy hR he hr hE hEL hSc (by omega) K23 h23)) ?_
      exact tb_n

