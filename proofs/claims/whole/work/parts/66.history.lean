set_option maxRecDepth 100000 in
set_option maxHeartbeats 4000000 in
theorem fX1_remember_s56 {γ : gG} {cs ss : Nat} {ε : gE5} (N : Nat) (G : gOK γ) (hb : gcc γ = cX1_remember) (ho : gow γ = RX1) (hy : gly γ = gyH) (hR : grm γ = { frames := 4, cells := 0, slots := 0, locals := 90 }) (he : genv γ = ε) (hr : grt γ = none) (hE : gEnv ε) : gSm γ cs ss 56 (fX1_remember_k56 N) := by
  unfold fX1_remember_k56
  refine sm_aload_n (pc := 56) G hb (by decide +kernel : decode cX1_remember 56 = .ok (.aload_n 0, 1)) rfl ?_
  refine sm_get (pc := 57) (ci := 1) (j := 0) (N := 2) (T := TX1) G hb ho hy rfl (by decide) gin_1 gw1_211 (by decide +kernel : decode cX1_remember 57 = .ok (.getfield 11, 3)) ?_
  refine sm_aload_n (pc := 60) G hb (by decide +kernel : decode cX1_remember 60 = .ok (.aload_n 0, 1)) rfl ?_
  refine sm_get (pc := 61) (ci := 1) (j := 1) (N := 2) (T := TX1) G hb ho hy rfl (by decide) gin_1 gw1_212 (by decide +kernel : decode cX1_remember 61 = .ok (.getfield 18, 3)) ?_
  refine sm_qld (pc := 64) G hb hy (by decide +kernel : decode cX1_remember 64 = .ok (.aaload, 1)) ?_
  refine sm_aload_n (pc := 65) G hb (by decide +kernel : decode cX1_remember 65 = .ok (.aload_n 1, 1)) rfl ?_
  refine sm_mono dy_sub (sm_dyn (pc := 66) ?_)
  intro x9 hx9
  rcases List.mem_cons.mp hx9 with rfl | hx9
  · skip
    refine sm_mono (cav_sub gV_sub) (sm_callV (pc := 66) (N := 4) (T := TX7) (C := RX7) G hb ho hy he hE.1 2 [2, 3, 4, 5, 6, 7, 8, 9, 10, 11, 12, 13, 14, 15, 16, 17, 18, 19, 20, 21, 122, 123, 124, 125, 126, 127, 128, 129, 130, 131, 132, 133, 134, 135, 136, 137, 138, 139, 140, 141] (kX7_copyFrom hE N) (gCo_of (by decide +kernel)) (by rw [hR]; exact ⟨by decide, by decide⟩) rfl rfl (by decide +kernel) gw3_36 gw3_37 gw3_38 gw1_2 gw3_39 (by decide +kernel : decode cX1_remember 66 = .ok (.invokevirtual 22, 3)) ?_)
    refine sm_aload_n (pc := 69) G hb (by decide +kernel : decode cX1_remember 69 = .ok (.aload_n 0, 1)) rfl ?_
    refine sm_dup (pc := 70) G hb (by decide +kernel : decode cX1_remember 70 = .ok (.dup, 1)) ?_
    refine sm_get (pc := 71) (ci := 1) (j := 1) (N := 2) (T := TX1) G hb ho hy rfl (by decide) gin_1 gw1_212 (by decide +kernel : decode cX1_remember 71 = .ok (.getfield 18, 3)) ?_
    refine sm_iconst (pc := 74) G hb (by decide +kernel : decode cX1_remember 74 = .ok (.iconst 1, 1)) (by decide) ?_
    refine sm_iadd (pc := 75) G hb (by decide +kernel : decode cX1_remember 75 = .ok (.iadd, 1)) ?_
    refine sm_put (pc := 76) (ci := 1) (j := 1) (N := 2) (T := TX1) G hb ho hy tyX1 tyX1_ok nmX1 rfl (by decide) gin_1 gw1_212 rfl rfl (by decide +kernel : decode cX1_remember 76 = .ok (.putfield 18, 3)) ?_
    exact sm_vret (pc := 79) G hb (by decide +kernel : decode cX1_remember 79 = .ok (.return_, 1)) hr
  rcases List.mem_cons.mp hx9 with rfl | hx9
  · skip
    refine sm_mono (cav_sub gV_sub) (sm_callV (pc := 66) (N := 4) (T := TX7) (C := RX7) G hb ho hy he hE.1 2 [22, 23, 24, 25, 26, 27, 28, 29, 30, 31, 32, 33, 34, 35, 36, 37, 38, 39, 40, 41, 122, 123, 124, 125, 126, 127, 128, 129, 130, 131, 132, 133, 134, 135, 136, 137, 138, 139, 140, 141] (kX7_copyFrom hE N) (gCo_of (by decide +kernel)) (by rw [hR]; exact ⟨by decide, by decide⟩) rfl rfl (by decide +kernel) gw3_36 gw3_37 gw3_38 gw1_2 gw3_39 (by decide +kernel : decode cX1_remember 66 = .ok (.invokevirtual 22, 3)) ?_)
    refine sm_aload_n (pc := 69) G hb (by decide +kernel : decode cX1_remember 69 = .ok (.aload_n 0, 1)) rfl ?_
    refine sm_dup (pc := 70) G hb (by decide +kernel : decode cX1_remember 70 = .ok (.dup, 1)) ?_
    refine sm_get (pc := 71) (ci := 1) (j := 1) (N := 2) (T := TX1) G hb ho hy rfl (by decide) gin_1 gw1_212 (by decide +kernel : decode cX1_remember 71 = .ok (.getfield 18, 3)) ?_
    refine sm_iconst (pc := 74) G hb (by decide +kernel : decode cX1_remember 74 = .ok (.iconst 1, 1)) (by decide) ?_
    refine sm_iadd (pc := 75) G hb (by decide +kernel : decode cX1_remember 75 = .ok (.iadd, 1)) ?_
    refine sm_put (pc := 76) (ci := 1) (j := 1) (N := 2) (T := TX1) G hb ho hy tyX1 tyX1_ok nmX1 rfl (by decide) gin_1 gw1_212 rfl rfl (by decide +kernel : decode cX1_remember 76 = .ok (.putfield 18, 3)) ?_
    exact sm_vret (pc := 79) G hb (by decide +kernel : decode cX1_remember 79 = .ok (.return_, 1)) hr
  rcases List.mem_cons.mp hx9 with rfl | hx9
  · skip
    refine sm_mono (cav_sub gV_sub) (sm_callV (pc := 66) (N := 4) (T := TX7) (C := RX7) G hb ho hy he hE.1 2 [42, 43, 44, 45, 46, 47, 48, 49, 50, 51, 52, 53, 54, 55, 56, 57, 58, 59, 60, 61, 122, 123, 124, 125, 126, 127, 128, 129, 130, 131, 132, 133, 134, 135, 136, 137, 138, 139, 140, 141] (kX7_copyFrom hE N) (gCo_of (by decide +kernel)) (by rw [hR]; exact ⟨by decide, by decide⟩) rfl rfl (by decide +kernel) gw3_36 gw3_37 gw3_38 gw1_2 gw3_39 (by decide +kernel : decode cX1_remember 66 = .ok (.invokevirtual 22, 3)) ?_)
    refine sm_aload_n (pc := 69) G hb (by decide +kernel : decode cX1_remember 69 = .ok (.aload_n 0, 1)) rfl ?_
    refine sm_dup (pc := 70) G hb (by decide +kernel : decode cX1_remember 70 = .ok (.dup, 1)) ?_
    refine sm_get (pc := 71) (ci := 1) (j := 1) (N := 2) (T := TX1) G hb ho hy rfl (by decide) gin_1 gw1_212 (by decide +kernel : decode cX1_remember 71 = .ok (.getfield 18, 3)) ?_
    refine sm_iconst (pc := 74) G hb (by decide +kernel : decode cX1_remember 74 = .ok (.iconst 1, 1)) (by decide) ?_
    refine sm_iadd (pc := 75) G hb (by decide +kernel : decode cX1_remember 75 = .ok (.iadd, 1)) ?_
    refine sm_put (pc := 76) (ci := 1) (j := 1) (N := 2) (T := TX1) G hb ho hy tyX1 tyX1_ok nmX1 rfl (by decide) gin_1 gw1_212 rfl rfl (by decide +kernel : decode cX1_remember 76 = .ok (.putfield 18, 3)) ?_
    exact sm_vret (pc := 79) G hb (by decide +kernel : decode cX1_remember 79 = .ok (.return_, 1)) hr
  rcases List.mem_cons.mp hx9 with rfl | hx9
  · skip
    refine sm_mono (cav_sub gV_sub) (sm_callV (pc := 66) (N := 4) (T := TX7) (C := RX7) G hb ho hy he hE.1 2 [62, 63, 64, 65, 66, 67, 68, 69, 70, 71, 72, 73, 74, 75, 76, 77, 78, 79, 80, 81, 122, 123, 124, 125, 126, 127, 128, 129, 130, 131, 132, 133, 134, 135, 136, 137, 138, 139, 140, 141] (kX7_copyFrom hE N) (gCo_of (by decide +kernel)) (by rw [hR]; exact ⟨by decide, by decide⟩) rfl rfl (by decide +kernel) gw3_36 gw3_37 gw3_38 gw1_2 gw3_39 (by decide +kernel : decode cX1_remember 66 = .ok (.invokevirtual 22, 3)) ?_)
    refine sm_aload_n (pc := 69) G hb (by decide +kernel : decode cX1_remember 69 = .ok (.aload_n 0, 1)) rfl ?_
    refine sm_dup (pc := 70) G hb (by decide +kernel : decode cX1_remember 70 = .ok (.dup, 1)) ?_
    refine sm_get (pc := 71) (ci := 1) (j := 1) (N := 2) (T := TX1) G hb ho hy rfl (by decide) gin_1 gw1_212 (by decide +kernel : decode cX1_remember 71 = .ok (.getfield 18, 3)) ?_
    refine sm_iconst (pc := 74) G hb (by decide +kernel : decode cX1_remember 74 = .ok (.iconst 1, 1)) (by decide) ?_
    refine sm_iadd (pc := 75) G hb (by decide +kernel : decode cX1_remember 75 = .ok (.iadd, 1)) ?_
    refine sm_put (pc := 76) (ci := 1) (j := 1) (N := 2) (T := TX1) G hb ho hy tyX1 tyX1_ok nmX1 rfl (by decide) gin_1 gw1_212 rfl rfl (by decide +kernel : decode cX1_remember 76 = .ok (.putfield 18, 3)) ?_
    exact sm_vret (pc := 79) G hb (by decide +kernel : decode cX1_remember 79 = .ok (.return_, 1)) hr
  rcases List.mem_cons.mp hx9 with rfl | hx9
  · skip
    refine sm_mono (cav_sub gV_sub) (sm_callV (pc := 66) (N := 4) (T := TX7) (C := RX7) G hb ho hy he hE.1 2 [82, 83, 84, 85, 86, 87, 88, 89, 90, 91, 92, 93, 94, 95, 96, 97, 98, 99, 100, 101, 122, 123, 124, 125, 126, 127, 128, 129, 130, 131, 132, 133, 134, 135, 136, 137, 138, 139, 140, 141] (kX7_copyFrom hE N) (gCo_of (by decide +kernel)) (by rw [hR]; exact ⟨by decide, by decide⟩) rfl rfl (by decide +kernel) gw3_36 gw3_37 gw3_38 gw1_2 gw3_39 (by decide +kernel : decode cX1_remember 66 = .ok (.invokevirtual 22, 3)) ?_)
    refine sm_aload_n (pc := 69) G hb (by decide +kernel : decode cX1_remember 69 = .ok (.aload_n 0, 1)) rfl ?_
    refine sm_dup (pc := 70) G hb (by decide +kernel : decode cX1_remember 70 = .ok (.dup, 1)) ?_
    refine sm_get (pc := 71) (ci := 1) (j := 1) (N := 2) (T := TX1) G hb ho hy rfl (by decide) gin_1 gw1_212 (by decide +kernel : decode cX1_remember 71 = .ok (.getfield 18, 3)) ?_
    refine sm_iconst (pc := 74) G hb (by decide +kernel : decode cX1_remember 74 = .ok (.iconst 1, 1)) (by decide) ?_
    refine sm_iadd (pc := 75) G hb (by decide +kernel : decode cX1_remember 75 = .ok (.iadd, 1)) ?_
    refine sm_put (pc := 76) (ci := 1) (j := 1) (N := 2) (T := TX1) G hb ho hy tyX1 tyX1_ok nmX1 rfl (by decide) gin_1 gw1_212 rfl rfl (by decide +kernel : decode cX1_remember 76 = .ok (.putfield 18, 3)) ?_
    exact sm_vret (pc := 79) G hb (by decide +kernel : decode cX1_remember 79 = .ok (.return_, 1)) hr
  rcases List.mem_cons.mp hx9 with rfl | hx9
  · skip
    refine sm_mono (cav_sub gV_sub) (sm_callV (pc := 66) (N := 4) (T := TX7) (C := RX7) G hb ho hy he hE.1 2 [102, 103, 104, 105, 106, 107, 108, 109, 110, 111, 112, 113, 114, 115, 116, 117, 118, 119, 120, 121, 122, 123, 124, 125, 126, 127, 128, 129, 130, 131, 132, 133, 134, 135, 136, 137, 138, 139, 140, 141] (kX7_copyFrom hE N) (gCo_of (by decide +kernel)) (by rw [hR]; exact ⟨by decide, by decide⟩) rfl rfl (by decide +kernel) gw3_36 gw3_37 gw3_38 gw1_2 gw3_39 (by decide +kernel : decode cX1_remember 66 = .ok (.invokevirtual 22, 3)) ?_)
    refine sm_aload_n (pc := 69) G hb (by decide +kernel : decode cX1_remember 69 = .ok (.aload_n 0, 1)) rfl ?_
    refine sm_dup (pc := 70) G hb (by decide +kernel : decode cX1_remember 70 = .ok (.dup, 1)) ?_
    refine sm_get (pc := 71) (ci := 1) (j := 1) (N := 2) (T := TX1) G hb ho hy rfl (by decide) gin_1 gw1_212 (by decide +kernel : decode cX1_remember 71 = .ok (.getfield 18, 3)) ?_
    refine sm_iconst (pc := 74) G hb (by decide +kernel : decode cX1_remember 74 = .ok (.iconst 1, 1)) (by decide) ?_
    refine sm_iadd (pc := 75) G hb (by decide +kernel : decode cX1_remember 75 = .ok (.iadd, 1)) ?_
    refine sm_put (pc := 76) (ci := 1) (j := 1) (N := 2) (T := TX1) G hb ho hy tyX1 tyX1_ok nmX1 rfl (by decide) gin_1 gw1_212 rfl rfl (by decide +kernel : decode cX1_remember 76 = .ok (.putfield 18, 3)) ?_
    exact sm_vret (pc := 79) G hb (by decide +kernel : decode cX1_remember 79 = .ok (.return_, 1)) hr
  cases hx9
set_option maxRecDepth 100000 in
set_option maxHeartbeats 4000000 in
theorem fX1_remember_s18 {γ : gG} {cs ss : Nat} {ε : gE5} (N : Nat) (G : gOK γ) (hb : gcc γ = cX1_remember) (ho : gow γ = RX1) (hy : gly γ = gyH) (hR : grm γ = { frames := 4, cells := 0, slots := 0, locals := 90 }) (he : genv γ = ε) (hr : grt γ = none) (hE : gEnv ε) : gSm γ cs ss 18 (fX1_remember_k18 N) := by
  unfold fX1_remember_k18
  refine sm_lp (fun K18 h18 => ?_) N
  unfold fX1_remember_b18
  refine sm_iload_n (pc := 18) G hb (by decide +kernel : decode cX1_remember 18 = .ok (.iload_n 3, 1)) rfl ?_
  refine sm_bipush (pc := 19) G hb (by decide +kernel : decode cX1_remember 19 = .ok (.bipush 6, 2)) (by decide) ?_
  refine sm_icmp_ge (pc := 21) (tgt := 44) G hb (by decide +kernel : decode cX1_remember 21 = .ok (.if_icmp .ge 23, 3)) (by decide) ?_ ?_
  · skip
    refine sm_aload_n (pc := 44) G hb (by decide +kernel : decode cX1_remember 44 = .ok (.aload_n 0, 1)) rfl ?_
    refine sm_get (pc := 45) (ci := 1) (j := 0) (N := 2) (T := TX1) G hb ho hy rfl (by decide) gin_1 gw1_211 (by decide +kernel : decode cX1_remember 45 = .ok (.getfield 11, 3)) ?_
    refine sm_iconst (pc := 48) G hb (by decide +kernel : decode cX1_remember 48 = .ok (.iconst 5, 1)) (by decide) ?_
    refine sm_aload_n (pc := 49) G hb (by decide +kernel : decode cX1_remember 49 = .ok (.aload_n 2, 1)) rfl ?_
    refine sm_qst (pc := 50) G hb hy rfl rfl (by decide +kernel : decode cX1_remember 50 = .ok (.aastore, 1)) ?_
    refine sm_aload_n (pc := 51) G hb (by decide +kernel : decode cX1_remember 51 = .ok (.aload_n 0, 1)) rfl ?_
    refine sm_iconst (pc := 52) G hb (by decide +kernel : decode cX1_remember 52 = .ok (.iconst 5, 1)) (by decide) ?_
    refine sm_put (pc := 53) (ci := 1) (j := 1) (N := 2) (T := TX1) G hb ho hy tyX1 tyX1_ok nmX1 rfl (by decide) gin_1 gw1_212 rfl rfl (by decide +kernel : decode cX1_remember 53 = .ok (.putfield 18, 3)) ?_
    refine sm_mask ?_
    exact fX1_remember_s56 N G hb ho hy hR he hr hE
  · skip
    refine sm_aload_n (pc := 24) G hb (by decide +kernel : decode cX1_remember 24 = .ok (.aload_n 0, 1)) rfl ?_
    refine sm_get (pc := 25) (ci := 1) (j := 0) (N := 2) (T := TX1) G hb ho hy rfl (by decide) gin_1 gw1_211 (by decide +kernel : decode cX1_remember 25 = .ok (.getfield 11, 3)) ?_
    refine sm_iload_n (pc := 28) G hb (by decide +kernel : decode cX1_remember 28 = .ok (.iload_n 3, 1)) rfl ?_
    refine sm_iconst (pc := 29) G hb (by decide +kernel : decode cX1_remember 29 = .ok (.iconst 1, 1)) (by decide) ?_
    refine sm_isub (pc := 30) G hb (by decide +kernel : decode cX1_remember 30 = .ok (.isub, 1)) ?_
    refine sm_aload_n (pc := 31) G hb (by decide +kernel : decode cX1_remember 31 = .ok (.aload_n 0, 1)) rfl ?_
    refine sm_get (pc := 32) (ci := 1) (j := 0) (N := 2) (T := TX1) G hb ho hy rfl (by decide) gin_1 gw1_211 (by decide +kernel : decode cX1_remember 32 = .ok (.getfield 11, 3)) ?_
    refine sm_iload_n (pc := 35) G hb (by decide +kernel : decode cX1_remember 35 = .ok (.iload_n 3, 1)) rfl ?_
    refine sm_qld (pc := 36) G hb hy (by decide +kernel : decode cX1_remember 36 = .ok (.aaload, 1)) ?_
    refine sm_qst (pc := 37) G hb hy rfl rfl (by decide +kernel : decode cX1_remember 37 = .ok (.aastore, 1)) ?_
    refine sm_iinc (pc := 38) G hb (by decide +kernel : decode cX1_remember 38 = .ok (.iinc 3 1, 3)) (by decide) ?_
    refine sm_goto (pc := 41) (tgt := 18) G hb (by decide +kernel : decode cX1_remember 41 = .ok (.goto (-23), 3)) (by decide) ?_
    refine sm_mask ?_
    exact h18
set_option maxRecDepth 100000 in
set_option maxHeartbeats 4000000 in
theorem fX1_remember_s0 {γ : gG} {cs ss : Nat} {ε : gE5} (N : Nat) (G : gOK γ) (hb : gcc γ = cX1_remember) (ho : gow γ = RX1) (hy : gly γ = gyH) (hR : grm γ = { frames := 4, cells := 0, slots := 0, locals := 90 }) (he : genv γ = ε) (hr : grt γ = none) (hE : gEnv ε) : gSm γ cs ss 0 (fX1_remember_k0 N) := by
  unfold fX1_remember_k0
  refine sm_aload_n (pc := 0) G hb (by decide +kernel : decode cX1_remember 0 = .ok (.aload_n 0, 1)) rfl ?_
  refine sm_get (pc := 1) (ci := 1) (j := 1) (N := 2) (T := TX1) G hb ho hy rfl (by decide) gin_1 gw1_212 (by decide +kernel : decode cX1_remember 1 = .ok (.getfield 18, 3)) ?_
  refine sm_bipush (pc := 4) G hb (by decide +kernel : decode cX1_remember 4 = .ok (.bipush 6, 2)) (by decide) ?_
  refine sm_icmp_lt (pc := 6) (tgt := 56) G hb (by decide +kernel : decode cX1_remember 6 = .ok (.if_icmp .lt 50, 3)) (by decide) ?_ ?_
  · skip
    refine sm_mask ?_
    exact fX1_remember_s56 N G hb ho hy hR he hr hE
  · skip
    refine sm_aload_n (pc := 9) G hb (by decide +kernel : decode cX1_remember 9 = .ok (.aload_n 0, 1)) rfl ?_
    refine sm_get (pc := 10) (ci := 1) (j := 0) (N := 2) (T := TX1) G hb ho hy rfl (by decide) gin_1 gw1_211 (by decide +kernel : decode cX1_remember 10 = .ok (.getfield 11, 3)) ?_
    refine sm_iconst (pc := 13) G hb (by decide +kernel : decode cX1_remember 13 = .ok (.iconst 0, 1)) (by decide) ?_
    refine sm_qld (pc := 14) G hb hy (by decide +kernel : decode cX1_remember 14 = .ok (.aaload, 1)) ?_
    refine sm_astore_n (pc := 15) G hb (by decide +kernel : decode cX1_remember 15 = .ok (.astore_n 2, 1)) rfl ?_
    refine sm_iconst (pc := 16) G hb (by decide +kernel : decode cX1_remember 16 = .ok (.iconst 1, 1)) (by decide) ?_
    refine sm_istore_n (pc := 17) G hb (by decide +kernel : decode cX1_remember 17 = .ok (.istore_n 3, 1)) rfl ?_
    refine sm_mask ?_
    exact fX1_remember_s18 N G hb ho hy hR he hr hE
theorem kX1_remember {ε : gE5} (hE : gEnv ε) (N : Nat) : gCtr ε yX1_remember cX1_remember 4 none 4 90 gyH (fX1_remember N) :=
  gCtr_of hE.1 (by decide) (fun γ G hb ho hy hR he hr => fX1_remember_s0 N G hb ho hy hR he hr hE)

set_option maxRecDepth 100000 in
set_option maxHeartbeats 4000000 in
theorem fX1_takeBack_s0 {γ : gG} {cs ss : Nat} {ε : gE5} (N : Nat) (G : gOK γ) (hb : gcc γ = cX1_takeBack) (ho : gow γ = RX1) (hy : gly γ = gyH) (hR : grm γ = { frames := 4, cells := 0, slots := 0, locals := 90 }) (he : genv γ = ε) (hr : grt γ = none) (hE : gEnv ε) : gSm γ cs ss 0 (fX1_takeBack_k0 N) := by
  unfold fX1_takeBack_k0
  refine sm_aload_n (pc := 0) G hb (by decide +kernel : decode cX1_takeBack 0 = .ok (.aload_n 0, 1)) rfl ?_
  refine sm_get (pc := 1) (ci := 1) (j := 1) (N := 2) (T := TX1) G hb ho hy rfl (by decide) gin_1 gw1_212 (by decide +kernel : decode cX1_takeBack 1 = .ok (.getfield 18, 3)) ?_
  refine sm_if_le (pc := 4) (tgt := 30) G hb (by decide +kernel : decode cX1_takeBack 4 = .ok (.ifCond .le 26, 3)) (by decide) ?_ ?_
  · skip
    exact sm_vret (pc := 30) G hb (by decide +kernel : decode cX1_takeBack 30 = .ok (.return_, 1)) hr
  · skip
    refine sm_aload_n (pc := 7) G hb (by decide +kernel : decode cX1_takeBack 7 = .ok (.aload_n 0, 1)) rfl ?_
    refine sm_dup (pc := 8) G hb (by decide +kernel : decode cX1_takeBack 8 = .ok (.dup, 1)) ?_
    refine sm_get (pc := 9) (ci := 1) (j := 1) (N := 2) (T := TX1) G hb ho hy rfl (by decide) gin_1 gw1_212 (by decide +kernel : decode cX1_takeBack 9 = .ok (.getfield 18, 3)) ?_
    refine sm_iconst (pc := 12) G hb (by decide +kernel : decode cX1_takeBack 12 = .ok (.iconst 1, 1)) (by decide) ?_
    refine sm_isub (pc := 13) G hb (by decide +kernel : decode cX1_takeBack 13 = .ok (.isub, 1)) ?_
    refine sm_put (pc := 14) (ci := 1) (j := 1) (N := 2) (T := TX1) G hb ho hy tyX1 tyX1_ok nmX1 rfl (by decide) gin_1 gw1_212 rfl rfl (by decide +kernel : decode cX1_takeBack 14 = .ok (.putfield 18, 3)) ?_
    refine sm_aload_n (pc := 17) G hb (by decide +kernel : decode cX1_takeBack 17 = .ok (.aload_n 1, 1)) rfl ?_
    refine sm_aload_n (pc := 18) G hb (by decide +kernel : decode cX1_takeBack 18 = .ok (.aload_n 0, 1)) rfl ?_
    refine sm_get (pc := 19) (ci := 1) (j := 0) (N := 2) (T := TX1) G hb ho hy rfl (by decide) gin_1 gw1_211 (by decide +kernel : decode cX1_takeBack 19 = .ok (.getfield 11, 3)) ?_
    refine sm_aload_n (pc := 22) G hb (by decide +kernel : decode cX1_takeBack 22 = .ok (.aload_n 0, 1)) rfl ?_
    refine sm_get (pc := 23) (ci := 1) (j := 1) (N := 2) (T := TX1) G hb ho hy rfl (by decide) gin_1 gw1_212 (by decide +kernel : decode cX1_takeBack 23 = .ok (.getfield 18, 3)) ?_
    refine sm_qld (pc := 26) G hb hy (by decide +kernel : decode cX1_takeBack 26 = .ok (.aaload, 1)) ?_
    refine sm_mono dy_sub (sm_dyn (pc := 27) ?_)
    intro x9 hx9
    rcases List.mem_cons.mp hx9 with rfl | hx9
    · skip
      refine sm_mono (cav_sub gV_sub) (sm_callV (pc := 27) (N := 4) (T := TX7) (C := RX7) G hb ho hy he hE.1 2 [122, 123, 124, 125, 126, 127, 128, 129, 130, 131, 132, 133, 134, 135, 136, 137, 138, 139, 140, 141, 2, 3, 4, 5, 6, 7, 8, 9, 10, 11, 12, 13, 14, 15, 16, 17, 18, 19, 20, 21] (kX7_copyFrom hE N) (gCo_of (by decide +kernel)) (by rw [hR]; exact ⟨by decide, by decide⟩) rfl rfl (by decide +kernel) gw3_36 gw3_37 gw3_38 gw1_2 gw3_39 (by decide +kernel : decode cX1_takeBack 27 = .ok (.invokevirtual 22, 3)) ?_)
      exact sm_vret (pc := 30) G hb (by decide +kernel : decode cX1_takeBack 30 = .ok (.return_, 1)) hr
    rcases List.mem_cons.mp hx9 with rfl | hx9
    · skip
      refine sm_mono (cav_sub gV_sub) (sm_callV (pc := 27) (N := 4) (T := TX7) (C := RX7) G hb ho hy he hE.1 2 [122, 123, 124, 125, 126, 127, 128, 129, 130, 131, 132, 133, 134, 135, 136, 137, 138, 139, 140, 141, 22, 23, 24, 25, 26, 27, 28, 29, 30, 31, 32, 33, 34, 35, 36, 37, 38, 39, 40, 41] (kX7_copyFrom hE N) (gCo_of (by decide +kernel)) (by rw [hR]; exact ⟨by decide, by decide⟩) rfl rfl (by decide +kernel) gw3_36 gw3_37 gw3_38 gw1_2 gw3_39 (by decide +kernel : decode cX1_takeBack 27 = .ok (.invokevirtual 22, 3)) ?_)
      exact sm_vret (pc := 30) G hb (by decide +kernel : decode cX1_takeBack 30 = .ok (.return_, 1)) hr
    rcases List.mem_cons.mp hx9 with rfl | hx9
    · skip
      refine sm_mono (cav_sub gV_sub) (sm_callV (pc := 27) (N := 4) (T := TX7) (C := RX7) G hb ho hy he hE.1 2 [122, 123, 124, 125, 126, 127, 128, 129, 130, 131, 132, 133, 134, 135, 136, 137, 138, 139, 140, 141, 42, 43, 44, 45, 46, 47, 48, 49, 50, 51, 52, 53, 54, 55, 56, 57, 58, 59, 60, 61] (kX7_copyFrom hE N) (gCo_of (by decide +kernel)) (by rw [hR]; exact ⟨by decide, by decide⟩) rfl rfl (by decide +kernel) gw3_36 gw3_37 gw3_38 gw1_2 gw3_39 (by decide +kernel : decode cX1_takeBack 27 = .ok (.invokevirtual 22, 3)) ?_)
      exact sm_vret (pc := 30) G hb (by decide +kernel : decode cX1_takeBack 30 = .ok (.return_, 1)) hr
    rcases List.mem_cons.mp hx9 with rfl | hx9
    · skip
      refine sm_mono (cav_sub gV_sub) (sm_callV (pc := 27) (N := 4) (T := TX7) (C := RX7) G hb ho hy he hE.1 2 [122, 123, 124, 125, 126, 127, 128, 129, 130, 131, 132, 133, 134, 135, 136, 137, 138, 139, 140, 141, 62, 63, 64, 65, 66, 67, 68, 69, 70, 71, 72, 73, 74, 75, 76, 77, 78, 79, 80, 81] (kX7_copyFrom hE N) (gCo_of (by decide +kernel)) (by rw [hR]; exact ⟨by decide, by decide⟩) rfl rfl (by decide +kernel) gw3_36 gw3_37 gw3_38 gw1_2 gw3_39 (by decide +kernel : decode cX1_takeBack 27 = .ok (.invokevirtual 22, 3)) ?_)
      exact sm_vret (pc := 30) G hb (by decide +kernel : decode cX1_takeBack 30 = .ok (.return_, 1)) hr
    rcases List.mem_cons.mp hx9 with rfl | hx9
    · skip
      refine sm_mono (cav_sub gV_sub) (sm_callV (pc := 27) (N := 4) (T := TX7) (C := RX7) G hb ho hy he hE.1 2 [122, 123, 124, 125, 126, 127, 128, 129, 130, 131, 132, 133, 134, 135, 136, 137, 138, 139, 140, 141, 82, 83, 84, 85, 86, 87, 88, 89, 90, 91, 92, 93, 94, 95, 96, 97, 98, 99, 100, 101] (kX7_copyFrom hE N) (gCo_of (by decide +kernel)) (by rw [hR]; exact ⟨by decide, by decide⟩) rfl rfl (by decide +kernel) gw3_36 gw3_37 gw3_38 gw1_2 gw3_39 (by decide +kernel : decode cX1_takeBack 27 = .ok (.invokevirtual 22, 3)) ?_)
      exact sm_vret (pc := 30) G hb (by decide +kernel : decode cX1_takeBack 30 = .ok (.return_, 1)) hr
    rcases List.mem_cons.mp hx9 with rfl | hx9
    · skip
      refine sm_mono (cav_sub gV_sub) (sm_callV (pc := 27) (N := 4) (T := TX7) (C := RX7) G hb ho hy he hE.1 2 [122, 123, 124, 125, 126, 127, 128, 129, 130, 131, 132, 133, 134, 135, 136, 137, 138, 139, 140, 141, 102, 103, 104, 105, 106, 107, 108, 109, 110, 111, 112, 113, 114, 115, 116, 117, 118, 119, 120, 121] (kX7_copyFrom hE N) (gCo_of (by decide +kernel)) (by rw [hR]; exact ⟨by decide, by decide⟩) rfl rfl (by decide +kernel) gw3_36 gw3_37 gw3_38 gw1_2 gw3_39 (by decide +kernel : decode cX1_takeBack 27 = .ok (.invokevirtual 22, 3)) ?_)
      exact sm_vret (pc := 30) G hb (by decide +kernel : decode cX1_takeBack 30 = .ok (.return_, 1)) hr
    cases hx9
theorem kX1_takeBack {ε : gE5} (hE : gEnv ε) (N : Nat) : gCtr ε yX1_takeBack cX1_takeBack 2 none 4 90 gyH (fX1_takeBack N) :=
  gCtr_of hE.1 (by decide) (fun γ G hb ho hy hR he hr => fX1_takeBack_s0 N G hb ho hy hR he hr hE)
