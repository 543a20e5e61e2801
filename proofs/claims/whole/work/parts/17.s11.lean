theorem s_UpRiverModel_soonestFrom_L46 {X : am_X} {b : Bool} {K : am_K}  : ∀ (x4 : Int) (J : am_J) (r : Int × am_J), f_UpRiverModel_soonestFrom_L46    x4 J = some r → am_runs X T_UpRiverModel_soonestFrom (46, [(0, am_pv 65), (4, am_iv x4)], [], am_SH, (J, K, am_RF b)) (some (am_iv r.1), am_SH, (r.2, K, am_RF b)) := by
  intro x4 J r h
  unfold f_UpRiverModel_soonestFrom_L46 at h
  obtain ⟨q2237, e2238, h⟩ := am_bind_some h
  refine am_r_call (show am_stepn X T_UpRiverModel_soonestFrom 3 true (46, [(0, am_pv 65), (4, am_iv x4)], [], am_SH, (J, K, am_RF b)) = some (true, .inr (.inl (203, [am_pv 65, am_iv x4], 5, 0, 0, 52, [(0, am_pv 65), (4, am_iv x4)], [], am_SH, (J, K, am_RF b)))) from rfl) rfl tb_UpRiverModel_spreads (s_UpRiverModel_spreads e2238) ?_
  obtain rfl := Option.some.inj h
  exact am_r_ret (show am_stepn X T_UpRiverModel_soonestFrom 1 true (52, [(0, am_pv 65), (4, am_iv x4)], [am_iv q2237.1], am_SH, (q2237.2, K, am_RF b)) = some (true, .inr (.inr (some (am_iv q2237.1), am_SH, (q2237.2, K, am_RF b)))) from rfl) rfl
theorem s_UpRiverModel_soonestFrom {X : am_X} {b : Bool} {K : am_K} {x1 : Int} {x2 : Int} {x3 : Int} {x4 : Int} {x5 : Int} {x6 : Int} {J : am_J} {r : Int × am_J} (h : f_UpRiverModel_soonestFrom  x1 x2 x3 x4 x5 x6 J = some r) : am_runs X T_UpRiverModel_soonestFrom (0, [(0, am_pv 65), (1, am_iv x1), (2, am_iv x2), (3, am_iv x3), (4, am_iv x4), (5, am_iv x5), (6, am_iv x6)], [], am_SH, (J, K, am_RF b)) (some (am_iv r.1), am_SH, (r.2, K, am_RF b)) := by
  unfold f_UpRiverModel_soonestFrom at h
  obtain ⟨q2239, e2240, h⟩ := am_bind_some h
  refine am_r_call (show am_stepn X T_UpRiverModel_soonestFrom 3 true (0, [(0, am_pv 65), (1, am_iv x1), (2, am_iv x2), (3, am_iv x3), (4, am_iv x4), (5, am_iv x5), (6, am_iv x6)], [], am_SH, (J, K, am_RF b)) = some (true, .inr (.inl (186, [am_pv 65], 1, 0, 0, 5, [(0, am_pv 65), (1, am_iv x1), (2, am_iv x2), (3, am_iv x3), (4, am_iv x4), (5, am_iv x5), (6, am_iv x6)], [am_iv x1], am_SH, (J, K, am_RF b)))) from rfl) rfl tb_UpRiverModel_top (s_UpRiverModel_top e2240) ?_
  obtain ⟨g2241, h⟩ := am_if_some h
  obtain ⟨g2242, h⟩ := am_if_some h
  by_cases c2243 : x1 < q2239
  · rw [if_pos c2243] at h
    refine am_r_t (show am_stepn X T_UpRiverModel_soonestFrom 1 true (5, [(0, am_pv 65), (1, am_iv x1), (2, am_iv x2), (3, am_iv x3), (4, am_iv x4), (5, am_iv x5), (6, am_iv x6)], [am_iv q2239, am_iv x1], am_SH, (J, K, am_RF b)) = some (((decide (am_i32 q2239) && decide (am_i32 x1)) && true), .inl (bif am_cb .lt x1 q2239 then 11 else 8, [(0, am_pv 65), (1, am_iv x1), (2, am_iv x2), (3, am_iv x3), (4, am_iv x4), (5, am_iv x5), (6, am_iv x6)], [], am_SH, (J, K, am_RF b))) from rfl) (am_g2 g2241 g2242 rfl) (decide_eq_true c2243) ?_
    obtain ⟨q2244, e2245, h⟩ := am_bind_some h
    refine am_r_call (show am_stepn X T_UpRiverModel_soonestFrom 3 true (11, [(0, am_pv 65), (1, am_iv x1), (2, am_iv x2), (3, am_iv x3), (4, am_iv x4), (5, am_iv x5), (6, am_iv x6)], [], am_SH, (J, K, am_RF b)) = some (true, .inr (.inl (186, [am_pv 65], 1, 0, 0, 16, [(0, am_pv 65), (1, am_iv x1), (2, am_iv x2), (3, am_iv x3), (4, am_iv x4), (5, am_iv x5), (6, am_iv x6)], [am_pv 65], am_SH, (J, K, am_RF b)))) from rfl) rfl tb_UpRiverModel_top (s_UpRiverModel_top e2245) ?_
    obtain ⟨q2246, e2247, h⟩ := am_bind_some h
    refine am_r_call (show am_stepn X T_UpRiverModel_soonestFrom 3 true (16, [(0, am_pv 65), (1, am_iv x1), (2, am_iv x2), (3, am_iv x3), (4, am_iv x4), (5, am_iv x5), (6, am_iv x6)], [am_iv q2244, am_pv 65], am_SH, (J, K, am_RF b)) = some (true, .inr (.inl (200, [am_pv 65, am_iv q2244, am_iv x5, am_iv x6], 5, 0, 0, 23, [(0, am_pv 65), (1, am_iv x1), (2, am_iv x2), (3, am_iv x3), (4, am_iv x4), (5, am_iv x5), (6, am_iv x6)], [], am_SH, (J, K, am_RF b)))) from rfl) rfl tb_UpRiverModel_clears (s_UpRiverModel_clears e2247) ?_
    obtain ⟨q2248, e2249, h⟩ := am_bind_some h
    refine am_r_call (show am_stepn X T_UpRiverModel_soonestFrom 7 true (23, [(0, am_pv 65), (1, am_iv x1), (2, am_iv x2), (3, am_iv x3), (4, am_iv x4), (5, am_iv x5), (6, am_iv x6)], [], am_SH, (q2246, K, am_RF b)) = some (true, .inr (.inl (150, [am_jv (am_i2l x2), am_jv (am_i2l x5), am_jv (am_i2l x6)], 6, 0, 0, 34, [(0, am_pv 65), (1, am_iv x1), (2, am_iv x2), (3, am_iv x3), (4, am_iv x4), (5, am_iv x5), (6, am_iv x6)], [], am_SH, (q2246, K, am_RF b)))) from rfl) rfl tb_UpRiverModel_in (s_UpRiverModel_in e2249) ?_
    obtain ⟨g2250, h⟩ := am_if_some h
    by_cases c2251 : q2248 = 0
    · rw [if_pos c2251] at h
      refine am_r_t (show am_stepn X T_UpRiverModel_soonestFrom 1 true (34, [(0, am_pv 65), (1, am_iv x1), (2, am_iv x2), (3, am_iv x3), (4, am_iv x4), (5, am_iv x5), (6, am_iv x6)], [am_iv q2248], am_SH, (q2246, K, am_RF b)) = some ((decide (am_i32 q2248) && true), .inl (bif am_cb .eq q2248 0 then 46 else 37, [(0, am_pv 65), (1, am_iv x1), (2, am_iv x2), (3, am_iv x3), (4, am_iv x4), (5, am_iv x5), (6, am_iv x6)], [], am_SH, (q2246, K, am_RF b))) from rfl) (am_g1 g2250 rfl) (decide_eq_true c2251) ?_
      refine am_r_eq (σ' := (46, [(0, am_pv 65), (4, am_iv x4)], [], am_SH, (q2246, K, am_RF b))) rfl ?_
      exact s_UpRiverModel_soonestFrom_L46  _ _ _ h
    · rw [if_neg c2251] at h
      refine am_r_f (show am_stepn X T_UpRiverModel_soonestFrom 1 true (34, [(0, am_pv 65), (1, am_iv x1), (2, am_iv x2), (3, am_iv x3), (4, am_iv x4), (5, am_iv x5), (6, am_iv x6)], [am_iv q2248], am_SH, (q2246, K, am_RF b)) = some ((decide (am_i32 q2248) && true), .inl (bif am_cb .eq q2248 0 then 46 else 37, [(0, am_pv 65), (1, am_iv x1), (2, am_iv x2), (3, am_iv x3), (4, am_iv x4), (5, am_iv x5), (6, am_iv x6)], [], am_SH, (q2246, K, am_RF b))) from rfl) (am_g1 g2250 rfl) (decide_eq_false c2251) ?_
      obtain ⟨q2252, e2253, h⟩ := am_bind_some h
      refine am_r_call (show am_stepn X T_UpRiverModel_soonestFrom 6 true (37, [(0, am_pv 65), (1, am_iv x1), (2, am_iv x2), (3, am_iv x3), (4, am_iv x4), (5, am_iv x5), (6, am_iv x6)], [], am_SH, (q2246, K, am_RF b)) = some (true, .inr (.inl (201, [am_pv 65, am_iv x4, am_iv x1, am_iv x2, am_iv x3], 5, 0, 0, 46, [(0, am_pv 65), (1, am_iv x1), (2, am_iv x2), (3, am_iv x3), (4, am_iv x4)], [], am_SH, (q2246, K, am_RF b)))) from rfl) rfl tb_UpRiverModel_marks (s_UpRiverModel_marks e2253) ?_
      refine am_r_eq (σ' := (46, [(0, am_pv 65), (4, am_iv x4)], [], am_SH, (q2252, K, am_RF b))) rfl ?_
      exact s_UpRiverModel_soonestFrom_L46  _ _ _ h
  · rw [if_neg c2243] at h
    refine am_r_f (show am_stepn X T_UpRiverModel_soonestFrom 1 true (5, [(0, am_pv 65), (1, am_iv x1), (2, am_iv x2), (3, am_iv x3), (4, am_iv x4), (5, am_iv x5), (6, am_iv x6)], [am_iv q2239, am_iv x1], am_SH, (J, K, am_RF b)) = some (((decide (am_i32 q2239) && decide (am_i32 x1)) && true), .inl (bif am_cb .lt x1 q2239 then 11 else 8, [(0, am_pv 65), (1, am_iv x1), (2, am_iv x2), (3, am_iv x3), (4, am_iv x4), (5, am_iv x5), (6, am_iv x6)], [], am_SH, (J, K, am_RF b))) from rfl) (am_g2 g2241 g2242 rfl) (decide_eq_false c2243) ?_
    obtain rfl := Option.some.inj h
    exact am_r_ret (show am_stepn X T_UpRiverModel_soonestFrom 2 true (8, [(0, am_pv 65), (1, am_iv x1), (2, am_iv x2), (3, am_iv x3), (4, am_iv x4), (5, am_iv x5), (6, am_iv x6)], [], am_SH, (J, K, am_RF b)) = some (true, .inr (.inr (some (am_iv x4), am_SH, (J, K, am_RF b)))) from rfl) rfl
theorem s_UpRiverModel_soonestNow {X : am_X} {b : Bool} {K : am_K} {x1 : Int} {x2 : Int} {J : am_J} {r : Int × am_J} (h : f_UpRiverModel_soonestNow  x1 x2 J = some r) : am_runs X T_UpRiverModel_soonestNow (0, [(0, am_pv 65), (1, am_iv x1), (2, am_iv x2)], [], am_SH, (J, K, am_RF b)) (some (am_iv r.1), am_SH, (r.2, K, am_RF b)) := by
  unfold f_UpRiverModel_soonestNow at h
  obtain ⟨q2254, e2255, h⟩ := am_bind_some h
  refine am_r_call (show am_stepn X T_UpRiverModel_soonestNow 20 true (0, [(0, am_pv 65), (1, am_iv x1), (2, am_iv x2)], [], am_SH, (J, K, am_RF b)) = some ((am_in 0 216 && (am_in 3 216 && (am_in 2 216 && (am_in 1 216 && true)))), .inr (.inl (199, [am_pv 65, am_iv (J 68 1), am_iv (J 68 2), am_iv (J 68 3), am_iv (J 68 0), am_iv x1, am_iv x2], 7, 0, 0, 30, [(0, am_pv 65), (1, am_iv x1), (2, am_iv x2)], [], am_SH, (J, K, am_RF b)))) from rfl) (am_gi (by decide) (am_gi (by decide) (am_gi (by decide) (am_gi (by decide) rfl)))) tb_UpRiverModel_soonestFrom (s_UpRiverModel_soonestFrom e2255) ?_
  obtain rfl := Option.some.inj h
  exact am_r_ret (show am_stepn X T_UpRiverModel_soonestNow 1 true (30, [(0, am_pv 65), (1, am_iv x1), (2, am_iv x2)], [am_iv q2254.1], am_SH, (q2254.2, K, am_RF b)) = some (true, .inr (.inr (some (am_iv q2254.1), am_SH, (q2254.2, K, am_RF b)))) from rfl) rfl
theorem s_UpRiverModel_soonest {X : am_X} {b : Bool} {K : am_K} {J : am_J} {r : Int × am_J} (h : f_UpRiverModel_soonest  J = some r) : am_runs X T_UpRiverModel_soonest (0, [(0, am_pv 65)], [], am_SH, (J, K, am_RF b)) (some (am_iv r.1), am_SH, (r.2, K, am_RF b)) := by
  unfold f_UpRiverModel_soonest at h
  obtain ⟨q2256, e2257, h⟩ := am_bind_some h
  refine am_r_call (show am_stepn X T_UpRiverModel_soonest 2 true (0, [(0, am_pv 65)], [], am_SH, (J, K, am_RF b)) = some (true, .inr (.inl (185, [am_pv 65], 1, 0, 0, 4, [(0, am_pv 65)], [], am_SH, (J, K, am_RF b)))) from rfl) rfl tb_UpRiverModel_isUp (s_UpRiverModel_isUp e2257) ?_
  obtain ⟨g2258, h⟩ := am_if_some h
  by_cases c2259 : q2256 = 0
  · rw [if_pos c2259] at h
    refine am_r_t (show am_stepn X T_UpRiverModel_soonest 1 true (4, [(0, am_pv 65)], [am_iv q2256], am_SH, (J, K, am_RF b)) = some ((decide (am_i32 q2256) && true), .inl (bif am_cb .eq q2256 0 then 12 else 7, [(0, am_pv 65)], [], am_SH, (J, K, am_RF b))) from rfl) (am_g1 g2258 rfl) (decide_eq_true c2259) ?_
    obtain ⟨q2260, e2261, h⟩ := am_bind_some h
    refine am_r_call (show am_stepn X T_UpRiverModel_soonest 4 true (12, [(0, am_pv 65)], [], am_SH, (J, K, am_RF b)) = some (true, .inr (.inl (198, [am_pv 65, am_iv 0, am_iv 8], 3, 0, 0, 19, [(0, am_pv 65)], [], am_SH, (J, K, am_RF b)))) from rfl) rfl tb_UpRiverModel_soonestNow (s_UpRiverModel_soonestNow e2261) ?_
    obtain rfl := Option.some.inj h
    exact am_r_ret (show am_stepn X T_UpRiverModel_soonest 1 true (19, [(0, am_pv 65)], [am_iv q2260.1], am_SH, (q2260.2, K, am_RF b)) = some (true, .inr (.inr (some (am_iv q2260.1), am_SH, (q2260.2, K, am_RF b)))) from rfl) rfl
  · rw [if_neg c2259] at h
    refine am_r_f (show am_stepn X T_UpRiverModel_soonest 1 true (4, [(0, am_pv 65)], [am_iv q2256], am_SH, (J, K, am_RF b)) = some ((decide (am_i32 q2256) && true), .inl (bif am_cb .eq q2256 0 then 12 else 7, [(0, am_pv 65)], [], am_SH, (J, K, am_RF b))) from rfl) (am_g1 g2258 rfl) (decide_eq_false c2259) ?_
    obtain rfl := Option.some.inj h
    exact am_r_ret (show am_stepn X T_UpRiverModel_soonest 3 true (7, [(0, am_pv 65)], [], am_SH, (J, K, am_RF b)) = some (true, .inr (.inr (some (am_iv (-2)), am_SH, (J, K, am_RF b)))) from rfl) rfl
theorem s_UpRiverModel_only {X : am_X} {b : Bool} {K : am_K} {x1 : Int} {x2 : Int} {J : am_J} {r : Int × am_J} (h : f_UpRiverModel_only  x1 x2 J = some r) : am_runs X T_UpRiverModel_only (0, [(0, am_pv 65), (1, am_iv x1), (2, am_iv x2)], [], am_SH, (J, K, am_RF b)) (some (am_iv r.1), am_SH, (r.2, K, am_RF b)) := by
  unfold f_UpRiverModel_only at h
  obtain ⟨q2262, e2263, h⟩ := am_bind_some h
  refine am_r_call (show am_stepn X T_UpRiverModel_only 2 true (0, [(0, am_pv 65), (1, am_iv x1), (2, am_iv x2)], [], am_SH, (J, K, am_RF b)) = some (true, .inr (.inl (181, [am_iv x1], 1, 0, 0, 4, [(0, am_pv 65), (1, am_iv x1), (2, am_iv x2)], [], am_SH, (J, K, am_RF b)))) from rfl) rfl tb_UpRiverModel_isLane (s_UpRiverModel_isLane e2263) ?_
  obtain ⟨g2264, h⟩ := am_if_some h
  by_cases c2265 : q2262 = 0
  · rw [if_pos c2265] at h
    refine am_r_t (show am_stepn X T_UpRiverModel_only 1 true (4, [(0, am_pv 65), (1, am_iv x1), (2, am_iv x2)], [am_iv q2262], am_SH, (J, K, am_RF b)) = some ((decide (am_i32 q2262) && true), .inl (bif am_cb .eq q2262 0 then 20 else 7, [(0, am_pv 65), (1, am_iv x1), (2, am_iv x2)], [], am_SH, (J, K, am_RF b))) from rfl) (am_g1 g2264 rfl) (decide_eq_true c2265) ?_
    obtain rfl := Option.some.inj h
    exact am_r_ret (show am_stepn X T_UpRiverModel_only 2 true (20, [(0, am_pv 65), (1, am_iv x1), (2, am_iv x2)], [], am_SH, (J, K, am_RF b)) = some (true, .inr (.inr (some (am_iv (-1)), am_SH, (J, K, am_RF b)))) from rfl) rfl
  · rw [if_neg c2265] at h
    refine am_r_f (show am_stepn X T_UpRiverModel_only 1 true (4, [(0, am_pv 65), (1, am_iv x1), (2, am_iv x2)], [am_iv q2262], am_SH, (J, K, am_RF b)) = some ((decide (am_i32 q2262) && true), .inl (bif am_cb .eq q2262 0 then 20 else 7, [(0, am_pv 65), (1, am_iv x1), (2, am_iv x2)], [], am_SH, (J, K, am_RF b))) from rfl) (am_g1 g2264 rfl) (decide_eq_false c2265) ?_
    obtain ⟨q2266, e2267, h⟩ := am_bind_some h
    refine am_r_call (show am_stepn X T_UpRiverModel_only 6 true (7, [(0, am_pv 65), (1, am_iv x1), (2, am_iv x2)], [], am_SH, (J, K, am_RF b)) = some (true, .inr (.inl (150, [am_jv (am_i2l x2), am_jv (am_i2l x1), am_jv (8 : Int64)], 6, 0, 0, 17, [(0, am_pv 65), (1, am_iv x1), (2, am_iv x2)], [], am_SH, (J, K, am_RF b)))) from rfl) rfl tb_UpRiverModel_in (s_UpRiverModel_in e2267) ?_
    obtain ⟨g2268, h⟩ := am_if_some h
    by_cases c2269 : q2266 = 0
    · rw [if_pos c2269] at h
      refine am_r_f (show am_stepn X T_UpRiverModel_only 1 true (17, [(0, am_pv 65), (1, am_iv x1), (2, am_iv x2)], [am_iv q2266], am_SH, (J, K, am_RF b)) = some ((decide (am_i32 q2266) && true), .inl (bif am_cb .ne q2266 0 then 22 else 20, [(0, am_pv 65), (1, am_iv x1), (2, am_iv x2)], [], am_SH, (J, K, am_RF b))) from rfl) (am_g1 g2268 rfl) (am_nd_t c2269) ?_
      obtain rfl := Option.some.inj h
      exact am_r_ret (show am_stepn X T_UpRiverModel_only 2 true (20, [(0, am_pv 65), (1, am_iv x1), (2, am_iv x2)], [], am_SH, (J, K, am_RF b)) = some (true, .inr (.inr (some (am_iv (-1)), am_SH, (J, K, am_RF b)))) from rfl) rfl
    · rw [if_neg c2269] at h
      refine am_r_t (show am_stepn X T_UpRiverModel_only 1 true (17, [(0, am_pv 65), (1, am_iv x1), (2, am_iv x2)], [am_iv q2266], am_SH, (J, K, am_RF b)) = some ((decide (am_i32 q2266) && true), .inl (bif am_cb .ne q2266 0 then 22 else 20, [(0, am_pv 65), (1, am_iv x1), (2, am_iv x2)], [], am_SH, (J, K, am_RF b))) from rfl) (am_g1 g2268 rfl) (am_nd_f c2269) ?_
      obtain ⟨q2270, e2271, h⟩ := am_bind_some h
      refine am_r_call (show am_stepn X T_UpRiverModel_only 2 true (22, [(0, am_pv 65), (1, am_iv x1), (2, am_iv x2)], [], am_SH, (J, K, am_RF b)) = some (true, .inr (.inl (185, [am_pv 65], 1, 0, 0, 26, [(0, am_pv 65), (1, am_iv x1), (2, am_iv x2)], [], am_SH, (J, K, am_RF b)))) from rfl) rfl tb_UpRiverModel_isUp (s_UpRiverModel_isUp e2271) ?_
      obtain ⟨g2272, h⟩ := am_if_some h
      by_cases c2273 : q2270 = 0
      · rw [if_pos c2273] at h
        refine am_r_t (show am_stepn X T_UpRiverModel_only 1 true (26, [(0, am_pv 65), (1, am_iv x1), (2, am_iv x2)], [am_iv q2270], am_SH, (J, K, am_RF b)) = some ((decide (am_i32 q2270) && true), .inl (bif am_cb .eq q2270 0 then 34 else 29, [(0, am_pv 65), (1, am_iv x1), (2, am_iv x2)], [], am_SH, (J, K, am_RF b))) from rfl) (am_g1 g2272 rfl) (decide_eq_true c2273) ?_
        obtain ⟨q2274, e2275, h⟩ := am_bind_some h
        refine am_r_call (show am_stepn X T_UpRiverModel_only 4 true (34, [(0, am_pv 65), (1, am_iv x1), (2, am_iv x2)], [], am_SH, (J, K, am_RF b)) = some (true, .inr (.inl (198, [am_pv 65, am_iv x1, am_iv x2], 3, 0, 0, 40, [(0, am_pv 65), (1, am_iv x1), (2, am_iv x2)], [], am_SH, (J, K, am_RF b)))) from rfl) rfl tb_UpRiverModel_soonestNow (s_UpRiverModel_soonestNow e2275) ?_
        obtain rfl := Option.some.inj h
        exact am_r_ret (show am_stepn X T_UpRiverModel_only 1 true (40, [(0, am_pv 65), (1, am_iv x1), (2, am_iv x2)], [am_iv q2274.1], am_SH, (q2274.2, K, am_RF b)) = some (true, .inr (.inr (some (am_iv q2274.1), am_SH, (q2274.2, K, am_RF b)))) from rfl) rfl
      · rw [if_neg c2273] at h
        refine am_r_f (show am_stepn X T_UpRiverModel_only 1 true (26, [(0, am_pv 65), (1, am_iv x1), (2, am_iv x2)], [am_iv q2270], am_SH, (J, K, am_RF b)) = some ((decide (am_i32 q2270) && true), .inl (bif am_cb .eq q2270 0 then 34 else 29, [(0, am_pv 65), (1, am_iv x1), (2, am_iv x2)], [], am_SH, (J, K, am_RF b))) from rfl) (am_g1 g2272 rfl) (decide_eq_false c2273) ?_
        obtain rfl := Option.some.inj h
        exact am_r_ret (show am_stepn X T_UpRiverModel_only 3 true (29, [(0, am_pv 65), (1, am_iv x1), (2, am_iv x2)], [], am_SH, (J, K, am_RF b)) = some (true, .inr (.inr (some (am_iv (-2)), am_SH, (J, K, am_RF b)))) from rfl) rfl
theorem s_UpRiverModel_leadsBy {X : am_X} {b : Bool} {K : am_K} {x1 : Int} {J : am_J} {r : Int × am_J} (h : f_UpRiverModel_leadsBy  x1 J = some r) : am_runs X T_UpRiverModel_leadsBy (0, [(0, am_pv 65), (1, am_iv x1)], [], am_SH, (J, K, am_RF b)) (some (am_iv r.1), am_SH, (r.2, K, am_RF b)) := by
  unfold f_UpRiverModel_leadsBy at h
  obtain ⟨g2276, h⟩ := am_if_some h
  by_cases c2277 : 300 < (J 65 19)
  · rw [if_pos c2277] at h
    refine am_r_t (show am_stepn X T_UpRiverModel_leadsBy 4 true (0, [(0, am_pv 65), (1, am_iv x1)], [], am_SH, (J, K, am_RF b)) = some (((decide (am_i32 300) && decide (am_i32 (J 65 19))) && true), .inl (bif am_cb .gt (J 65 19) 300 then 41 else 10, [(0, am_pv 65), (1, am_iv x1)], [], am_SH, (J, K, am_RF b))) from rfl) (am_g2 (by decide) g2276 rfl) (decide_eq_true c2277) ?_
    obtain rfl := Option.some.inj h
    exact am_r_ret (show am_stepn X T_UpRiverModel_leadsBy 2 true (41, [(0, am_pv 65), (1, am_iv x1)], [], am_SH, (J, K, am_RF b)) = some ((decide ((0 : Int) = 0 ∨ (0 : Int) = 1) && true), .inr (.inr (some (am_iv 0), am_SH, (J, K, am_RF b)))) from rfl) (am_g1 (by decide) rfl)
  · rw [if_neg c2277] at h
    refine am_r_f (show am_stepn X T_UpRiverModel_leadsBy 4 true (0, [(0, am_pv 65), (1, am_iv x1)], [], am_SH, (J, K, am_RF b)) = some (((decide (am_i32 300) && decide (am_i32 (J 65 19))) && true), .inl (bif am_cb .gt (J 65 19) 300 then 41 else 10, [(0, am_pv 65), (1, am_iv x1)], [], am_SH, (J, K, am_RF b))) from rfl) (am_g2 (by decide) g2276 rfl) (decide_eq_false c2277) ?_
    obtain ⟨q2278, e2279, h⟩ := am_bind_some h
    refine am_r_call (show am_stepn X T_UpRiverModel_leadsBy 12 true (10, [(0, am_pv 65), (1, am_iv x1)], [], am_SH, (J, K, am_RF b)) = some (true, .inr (.inl (199, [am_pv 65, am_iv (J 65 16), am_iv (J 65 17), am_iv (J 65 18), am_iv (J 65 19), am_iv 0, am_iv 8], 7, 0, 0, 33, [(0, am_pv 65), (1, am_iv x1)], [], am_SH, (J, K, am_RF b)))) from rfl) rfl tb_UpRiverModel_soonestFrom (s_UpRiverModel_soonestFrom e2279) ?_
    obtain ⟨g2280, h⟩ := am_if_some h
    obtain ⟨g2281, h⟩ := am_if_some h
    by_cases c2282 : q2278.1 = x1
    · rw [if_pos c2282] at h
      refine am_r_f (show am_stepn X T_UpRiverModel_leadsBy 2 true (33, [(0, am_pv 65), (1, am_iv x1)], [am_iv q2278.1], am_SH, (q2278.2, K, am_RF b)) = some (((decide (am_i32 x1) && decide (am_i32 q2278.1)) && true), .inl (bif am_cb .ne q2278.1 x1 then 41 else 37, [(0, am_pv 65), (1, am_iv x1)], [], am_SH, (q2278.2, K, am_RF b))) from rfl) (am_g2 g2280 g2281 rfl) (am_nd_t c2282) ?_
      obtain rfl := Option.some.inj h
      exact am_r_ret (show am_stepn X T_UpRiverModel_leadsBy 3 true (37, [(0, am_pv 65), (1, am_iv x1)], [], am_SH, (q2278.2, K, am_RF b)) = some ((decide ((1 : Int) = 0 ∨ (1 : Int) = 1) && true), .inr (.inr (some (am_iv 1), am_SH, (q2278.2, K, am_RF b)))) from rfl) (am_g1 (by decide) rfl)
    · rw [if_neg c2282] at h
      refine am_r_t (show am_stepn X T_UpRiverModel_leadsBy 2 true (33, [(0, am_pv 65), (1, am_iv x1)], [am_iv q2278.1], am_SH, (q2278.2, K, am_RF b)) = some (((decide (am_i32 x1) && decide (am_i32 q2278.1)) && true), .inl (bif am_cb .ne q2278.1 x1 then 41 else 37, [(0, am_pv 65), (1, am_iv x1)], [], am_SH, (q2278.2, K, am_RF b))) from rfl) (am_g2 g2280 g2281 rfl) (am_nd_f c2282) ?_
      obtain rfl := Option.some.inj h
      exact am_r_ret (show am_stepn X T_UpRiverModel_leadsBy 2 true (41, [(0, am_pv 65), (1, am_iv x1)], [], am_SH, (q2278.2, K, am_RF b)) = some ((decide ((0 : Int) = 0 ∨ (0 : Int) = 1) && true), .inr (.inr (some (am_iv 0), am_SH, (q2278.2, K, am_RF b)))) from rfl) (am_g1 (by decide) rfl)
theorem s_UpRiverModel_first_L77 {X : am_X} {b : Bool} {K : am_K}  : ∀ (x1 : Int) (x2 : Int) (J : am_J) (r : Int × am_J), f_UpRiverModel_first_L77    x1 x2 J = some r → am_runs X T_UpRiverModel_first (77, [(0, am_pv 65), (1, am_iv x1), (2, am_iv x2)], [], am_SH, (J, K, am_RF b)) (some (am_iv r.1), am_SH, (r.2, K, am_RF b)) := by
  intro x1 x2 J r h
  unfold f_UpRiverModel_first_L77 at h
  obtain ⟨g2283, h⟩ := am_if_some h
  by_cases c2284 : x2 = 0
  · rw [if_pos c2284] at h
    refine am_r_t (show am_stepn X T_UpRiverModel_first 2 true (77, [(0, am_pv 65), (1, am_iv x1), (2, am_iv x2)], [], am_SH, (J, K, am_RF b)) = some ((decide (am_i32 x2) && true), .inl (bif am_cb .eq x2 0 then 124 else 81, [(0, am_pv 65), (1, am_iv x1), (2, am_iv x2)], [], am_SH, (J, K, am_RF b))) from rfl) (am_g1 g2283 rfl) (decide_eq_true c2284) ?_
    obtain rfl := Option.some.inj h
    exact am_r_ret (show am_stepn X T_UpRiverModel_first 2 true (124, [(0, am_pv 65), (1, am_iv x1), (2, am_iv x2)], [], am_SH, (J, K, am_RF b)) = some (true, .inr (.inr (some (am_iv 2), am_SH, (J, K, am_RF b)))) from rfl) rfl
  · rw [if_neg c2284] at h
    refine am_r_f (show am_stepn X T_UpRiverModel_first 2 true (77, [(0, am_pv 65), (1, am_iv x1), (2, am_iv x2)], [], am_SH, (J, K, am_RF b)) = some ((decide (am_i32 x2) && true), .inl (bif am_cb .eq x2 0 then 124 else 81, [(0, am_pv 65), (1, am_iv x1), (2, am_iv x2)], [], am_SH, (J, K, am_RF b))) from rfl) (am_g1 g2283 rfl) (decide_eq_false c2284) ?_
    obtain ⟨q2285, e2286, h⟩ := am_bind_some h
    refine am_r_call (show am_stepn X T_UpRiverModel_first 18 true (81, [(0, am_pv 65), (1, am_iv x1), (2, am_iv x2)], [], am_SH, (J, K, am_RF b)) = some ((am_in 0 216 && (am_in 3 216 && (am_in 2 216 && (am_in 1 216 && true)))), .inr (.inl (192, [am_pv 65, am_iv (J 68 1), am_iv (J 68 2), am_iv (J 68 3), am_iv (J 68 0)], 5, 0, 0, 109, [(0, am_pv 65), (1, am_iv x1)], [], am_SH, (J, K, am_RF b)))) from rfl) (am_gi (by decide) (am_gi (by decide) (am_gi (by decide) (am_gi (by decide) rfl)))) tb_UpRiverModel_turns (s_UpRiverModel_turns e2286) ?_
    obtain ⟨g2287, h⟩ := am_if_some h
    by_cases c2288 : q2285.1 = 0
    · rw [if_pos c2288] at h
      refine am_r_t (show am_stepn X T_UpRiverModel_first 1 true (109, [(0, am_pv 65), (1, am_iv x1)], [am_iv q2285.1], am_SH, (q2285.2, K, am_RF b)) = some ((decide (am_i32 q2285.1) && true), .inl (bif am_cb .eq q2285.1 0 then 124 else 112, [(0, am_pv 65), (1, am_iv x1)], [], am_SH, (q2285.2, K, am_RF b))) from rfl) (am_g1 g2287 rfl) (decide_eq_true c2288) ?_
      obtain rfl := Option.some.inj h
      exact am_r_ret (show am_stepn X T_UpRiverModel_first 2 true (124, [(0, am_pv 65), (1, am_iv x1)], [], am_SH, (q2285.2, K, am_RF b)) = some (true, .inr (.inr (some (am_iv 2), am_SH, (q2285.2, K, am_RF b)))) from rfl) rfl
    · rw [if_neg c2288] at h
      refine am_r_f (show am_stepn X T_UpRiverModel_first 1 true (109, [(0, am_pv 65), (1, am_iv x1)], [am_iv q2285.1], am_SH, (q2285.2, K, am_RF b)) = some ((decide (am_i32 q2285.1) && true), .inl (bif am_cb .eq q2285.1 0 then 124 else 112, [(0, am_pv 65), (1, am_iv x1)], [], am_SH, (q2285.2, K, am_RF b))) from rfl) (am_g1 g2287 rfl) (decide_eq_false c2288) ?_
      obtain ⟨q2289, e2290, h⟩ := am_bind_some h
      refine am_r_call (show am_stepn X T_UpRiverModel_first 3 true (112, [(0, am_pv 65), (1, am_iv x1)], [], am_SH, (q2285.2, K, am_RF b)) = some (true, .inr (.inl (209, [am_pv 65, am_iv x1], 2, 0, 0, 117, [(0, am_pv 65), (1, am_iv x1)], [], am_SH, (q2285.2, K, am_RF b)))) from rfl) rfl tb_UpRiverModel_leadsBy (s_UpRiverModel_leadsBy e2290) ?_
      obtain ⟨g2291, h⟩ := am_if_some h
      by_cases c2292 : q2289.1 = 0
      · rw [if_pos c2292] at h
        refine am_r_t (show am_stepn X T_UpRiverModel_first 1 true (117, [(0, am_pv 65), (1, am_iv x1)], [am_iv q2289.1], am_SH, (q2289.2, K, am_RF b)) = some ((decide (am_i32 q2289.1) && true), .inl (bif am_cb .eq q2289.1 0 then 124 else 120, [(0, am_pv 65), (1, am_iv x1)], [], am_SH, (q2289.2, K, am_RF b))) from rfl) (am_g1 g2291 rfl) (decide_eq_true c2292) ?_
        obtain rfl := Option.some.inj h
        exact am_r_ret (show am_stepn X T_UpRiverModel_first 2 true (124, [(0, am_pv 65), (1, am_iv x1)], [], am_SH, (q2289.2, K, am_RF b)) = some (true, .inr (.inr (some (am_iv 2), am_SH, (q2289.2, K, am_RF b)))) from rfl) rfl
      · rw [if_neg c2292] at h
        refine am_r_f (show am_stepn X T_UpRiverModel_first 1 true (117, [(0, am_pv 65), (1, am_iv x1)], [am_iv q2289.1], am_SH, (q2289.2, K, am_RF b)) = some ((decide (am_i32 q2289.1) && true), .inl (bif am_cb .eq q2289.1 0 then 124 else 120, [(0, am_pv 65), (1, am_iv x1)], [], am_SH, (q2289.2, K, am_RF b))) from rfl) (am_g1 g2291 rfl) (decide_eq_false c2292) ?_
        obtain rfl := Option.some.inj h
        exact am_r_ret (show am_stepn X T_UpRiverModel_first 3 true (120, [(0, am_pv 65), (1, am_iv x1)], [], am_SH, (q2289.2, K, am_RF b)) = some (true, .inr (.inr (some (am_iv 1), am_SH, (q2289.2, K, am_RF b)))) from rfl) rfl
theorem s_UpRiverModel_first {X : am_X} {b : Bool} {K : am_K} {J : am_J} {r : Int × am_J} (h : f_UpRiverModel_first  J = some r) : am_runs X T_UpRiverModel_first (0, [(0, am_pv 65)], [], am_SH, (J, K, am_RF b)) (some (am_iv r.1), am_SH, (r.2, K, am_RF b)) := by
  unfold f_UpRiverModel_first at h
  obtain ⟨q2293, e2294, h⟩ := am_bind_some h
  refine am_r_call (show am_stepn X T_UpRiverModel_first 2 true (0, [(0, am_pv 65)], [], am_SH, (J, K, am_RF b)) = some (true, .inr (.inl (185, [am_pv 65], 1, 0, 0, 4, [(0, am_pv 65)], [], am_SH, (J, K, am_RF b)))) from rfl) rfl tb_UpRiverModel_isUp (s_UpRiverModel_isUp e2294) ?_
  obtain ⟨g2295, h⟩ := am_if_some h
  by_cases c2296 : q2293 = 0
  · rw [if_pos c2296] at h
    refine am_r_t (show am_stepn X T_UpRiverModel_first 1 true (4, [(0, am_pv 65)], [am_iv q2293], am_SH, (J, K, am_RF b)) = some ((decide (am_i32 q2293) && true), .inl (bif am_cb .eq q2293 0 then 10 else 7, [(0, am_pv 65)], [], am_SH, (J, K, am_RF b))) from rfl) (am_g1 g2295 rfl) (decide_eq_true c2296) ?_
    obtain ⟨q2297, e2298, h⟩ := am_bind_some h
    refine am_r_call (show am_stepn X T_UpRiverModel_first 4 true (10, [(0, am_pv 65)], [], am_SH, (J, K, am_RF b)) = some (true, .inr (.inl (198, [am_pv 65, am_iv 0, am_iv 8], 3, 0, 0, 17, [(0, am_pv 65)], [], am_SH, (J, K, am_RF b)))) from rfl) rfl tb_UpRiverModel_soonestNow (s_UpRiverModel_soonestNow e2298) ?_
    obtain ⟨g2299, h⟩ := am_if_some h
    by_cases c2300 : q2297.1 = (-4)
    · rw [if_pos c2300] at h
      refine am_r_f (show am_stepn X T_UpRiverModel_first 4 true (17, [(0, am_pv 65)], [am_iv q2297.1], am_SH, (q2297.2, K, am_RF b)) = some (((decide (am_i32 (-4)) && decide (am_i32 q2297.1)) && true), .inl (bif am_cb .ne q2297.1 (-4) then 27 else 24, [(0, am_pv 65), (1, am_iv q2297.1)], [], am_SH, (q2297.2, K, am_RF b))) from rfl) (am_g2 (by decide) g2299 rfl) (am_nd_t c2300) ?_
      obtain rfl := Option.some.inj h
      exact am_r_ret (show am_stepn X T_UpRiverModel_first 2 true (24, [(0, am_pv 65), (1, am_iv q2297.1)], [], am_SH, (q2297.2, K, am_RF b)) = some (true, .inr (.inr (some (am_iv (-4)), am_SH, (q2297.2, K, am_RF b)))) from rfl) rfl
    · rw [if_neg c2300] at h
      refine am_r_t (show am_stepn X T_UpRiverModel_first 4 true (17, [(0, am_pv 65)], [am_iv q2297.1], am_SH, (q2297.2, K, am_RF b)) = some (((decide (am_i32 (-4)) && decide (am_i32 q2297.1)) && true), .inl (bif am_cb .ne q2297.1 (-4) then 27 else 24, [(0, am_pv 65), (1, am_iv q2297.1)], [], am_SH, (q2297.2, K, am_RF b))) from rfl) (am_g2 (by decide) g2299 rfl) (am_nd_f c2300) ?_
      obtain ⟨q2301, e2302, h⟩ := am_bind_some h
      refine am_r_call (show am_stepn X T_UpRiverModel_first 2 true (27, [(0, am_pv 65), (1, am_iv q2297.1)], [], am_SH, (q2297.2, K, am_RF b)) = some (true, .inr (.inl (187, [am_pv 65], 1, 0, 0, 31, [(0, am_pv 65), (1, am_iv q2297.1)], [], am_SH, (q2297.2, K, am_RF b)))) from rfl) rfl tb_UpRiverModel_isFloating (s_UpRiverModel_isFloating e2302) ?_
      obtain ⟨g2303, h⟩ := am_if_some h
      by_cases c2304 : q2301 = 0
      · rw [if_pos c2304] at h
        refine am_r_t (show am_stepn X T_UpRiverModel_first 3 true (31, [(0, am_pv 65), (1, am_iv q2297.1)], [am_iv q2301], am_SH, (q2297.2, K, am_RF b)) = some ((decide (am_i32 q2301) && true), .inl (bif am_cb .eq q2301 0 then 77 else 36, [(0, am_pv 65), (1, am_iv q2297.1), (2, am_iv q2301)], [], am_SH, (q2297.2, K, am_RF b))) from rfl) (am_g1 g2303 rfl) (decide_eq_true c2304) ?_
        exact s_UpRiverModel_first_L77  _ _ _ _ h
      · rw [if_neg c2304] at h
        refine am_r_f (show am_stepn X T_UpRiverModel_first 3 true (31, [(0, am_pv 65), (1, am_iv q2297.1)], [am_iv q2301], am_SH, (q2297.2, K, am_RF b)) = some ((decide (am_i32 q2301) && true), .inl (bif am_cb .eq q2301 0 then 77 else 36, [(0, am_pv 65), (1, am_iv q2297.1), (2, am_iv q2301)], [], am_SH, (q2297.2, K, am_RF b))) from rfl) (am_g1 g2303 rfl) (decide_eq_false c2304) ?_
        obtain ⟨q2305, e2306, h⟩ := am_bind_some h
        refine am_r_call (show am_stepn X T_UpRiverModel_first 18 true (36, [(0, am_pv 65), (1, am_iv q2297.1), (2, am_iv q2301)], [], am_SH, (q2297.2, K, am_RF b)) = some ((am_in 0 216 && (am_in 3 216 && (am_in 2 216 && (am_in 1 216 && true)))), .inr (.inl (188, [am_pv 65, am_iv (q2297.2 68 1), am_iv (q2297.2 68 2), am_iv (q2297.2 68 3), am_iv (q2297.2 68 0)], 6, 0, 0, 64, [(0, am_pv 65), (1, am_iv q2297.1), (2, am_iv q2301)], [], am_SH, (q2297.2, K, am_RF b)))) from rfl) (am_gi (by decide) (am_gi (by decide) (am_gi (by decide) (am_gi (by decide) rfl)))) tb_UpRiverModel_sails (s_UpRiverModel_sails e2306) ?_
        obtain ⟨g2307, h⟩ := am_if_some h
        by_cases c2308 : q2305.1 = 0
        · rw [if_pos c2308] at h
          refine am_r_t (show am_stepn X T_UpRiverModel_first 1 true (64, [(0, am_pv 65), (1, am_iv q2297.1), (2, am_iv q2301)], [am_iv q2305.1], am_SH, (q2305.2, K, am_RF b)) = some ((decide (am_i32 q2305.1) && true), .inl (bif am_cb .eq q2305.1 0 then 77 else 67, [(0, am_pv 65), (1, am_iv q2297.1), (2, am_iv q2301)], [], am_SH, (q2305.2, K, am_RF b))) from rfl) (am_g1 g2307 rfl) (decide_eq_true c2308) ?_
          exact s_UpRiverModel_first_L77  _ _ _ _ h
        · rw [if_neg c2308] at h
          refine am_r_f (show am_stepn X T_UpRiverModel_first 1 true (64, [(0, am_pv 65), (1, am_iv q2297.1), (2, am_iv q2301)], [am_iv q2305.1], am_SH, (q2305.2, K, am_RF b)) = some ((decide (am_i32 q2305.1) && true), .inl (bif am_cb .eq q2305.1 0 then 77 else 67, [(0, am_pv 65), (1, am_iv q2297.1), (2, am_iv q2301)], [], am_SH, (q2305.2, K, am_RF b))) from rfl) (am_g1 g2307 rfl) (decide_eq_false c2308) ?_
          obtain ⟨q2309, e2310, h⟩ := am_bind_some h
          refine am_r_call (show am_stepn X T_UpRiverModel_first 3 true (67, [(0, am_pv 65), (1, am_iv q2297.1), (2, am_iv q2301)], [], am_SH, (q2305.2, K, am_RF b)) = some (true, .inr (.inl (209, [am_pv 65, am_iv q2297.1], 2, 0, 0, 72, [(0, am_pv 65), (1, am_iv q2297.1), (2, am_iv q2301)], [], am_SH, (q2305.2, K, am_RF b)))) from rfl) rfl tb_UpRiverModel_leadsBy (s_UpRiverModel_leadsBy e2310) ?_
          obtain ⟨g2311, h⟩ := am_if_some h
          by_cases c2312 : q2309.1 = 0
          · rw [if_pos c2312] at h
            refine am_r_t (show am_stepn X T_UpRiverModel_first 1 true (72, [(0, am_pv 65), (1, am_iv q2297.1), (2, am_iv q2301)], [am_iv q2309.1], am_SH, (q2309.2, K, am_RF b)) = some ((decide (am_i32 q2309.1) && true), .inl (bif am_cb .eq q2309.1 0 then 77 else 75, [(0, am_pv 65), (1, am_iv q2297.1), (2, am_iv q2301)], [], am_SH, (q2309.2, K, am_RF b))) from rfl) (am_g1 g2311 rfl) (decide_eq_true c2312) ?_
            exact s_UpRiverModel_first_L77  _ _ _ _ h
          · rw [if_neg c2312] at h
            refine am_r_f (show am_stepn X T_UpRiverModel_first 1 true (72, [(0, am_pv 65), (1, am_iv q2297.1), (2, am_iv q2301)], [am_iv q2309.1], am_SH, (q2309.2, K, am_RF b)) = some ((decide (am_i32 q2309.1) && true), .inl (bif am_cb .eq q2309.1 0 then 77 else 75, [(0, am_pv 65), (1, am_iv q2297.1), (2, am_iv q2301)], [], am_SH, (q2309.2, K, am_RF b))) from rfl) (am_g1 g2311 rfl) (decide_eq_false c2312) ?_
            obtain rfl := Option.some.inj h
            exact am_r_ret (show am_stepn X T_UpRiverModel_first 2 true (75, [(0, am_pv 65), (1, am_iv q2297.1), (2, am_iv q2301)], [], am_SH, (q2309.2, K, am_RF b)) = some (true, .inr (.inr (some (am_iv 0), am_SH, (q2309.2, K, am_RF b)))) from rfl) rfl
  · rw [if_neg c2296] at h
    refine am_r_f (show am_stepn X T_UpRiverModel_first 1 true (4, [(0, am_pv 65)], [am_iv q2293], am_SH, (J, K, am_RF b)) = some ((decide (am_i32 q2293) && true), .inl (bif am_cb .eq q2293 0 then 10 else 7, [(0, am_pv 65)], [], am_SH, (J, K, am_RF b))) from rfl) (am_g1 g2295 rfl) (decide_eq_false c2296) ?_
    obtain rfl := Option.some.inj h
    exact am_r_ret (show am_stepn X T_UpRiverModel_first 2 true (7, [(0, am_pv 65)], [], am_SH, (J, K, am_RF b)) = some (true, .inr (.inr (some (am_iv (-2)), am_SH, (J, K, am_RF b)))) from rfl) rfl
theorem s_UpRiverModel_startIn {X : am_X} {b : Bool} {K : am_K} {x1 : Int} {J : am_J} {r : Int × am_J} (h : f_UpRiverModel_startIn  x1 J = some r) : am_runs X T_UpRiverModel_startIn (0, [(0, am_pv 65), (1, am_iv x1)], [], am_SH, (J, K, am_RF b)) (some (am_iv r.1), am_SH, (r.2, K, am_RF b)) := by
  unfold f_UpRiverModel_startIn at h
  obtain ⟨q2313, e2314, h⟩ := am_bind_some h
  refine am_r_call (show am_stepn X T_UpRiverModel_startIn 11 true (0, [(0, am_pv 65), (1, am_iv x1)], [], am_SH, (J, K, am_RF b)) = some ((am_in 7 295 && true), .inr (.inl (199, [am_pv 65, am_iv 0, am_iv (J 66 7), am_iv 0, am_iv x1, am_iv 0, am_iv 8], 7, 0, 0, 17, [(0, am_pv 65), (1, am_iv x1)], [], am_SH, (J, K, am_RF b)))) from rfl) (am_gi (by decide) rfl) tb_UpRiverModel_soonestFrom (s_UpRiverModel_soonestFrom e2314) ?_
  obtain rfl := Option.some.inj h
  exact am_r_ret (show am_stepn X T_UpRiverModel_startIn 1 true (17, [(0, am_pv 65), (1, am_iv x1)], [am_iv q2313.1], am_SH, (q2313.2, K, am_RF b)) = some (true, .inr (.inr (some (am_iv q2313.1), am_SH, (q2313.2, K, am_RF b)))) from rfl) rfl
theorem s_UpRiverModel_from {X : am_X} {b : Bool} {K : am_K} {x1 : Int} {J : am_J} {r : Int × am_J} (h : f_UpRiverModel_from  x1 J = some r) : am_runs X T_UpRiverModel_from (0, [(0, am_pv 65), (1, am_iv x1)], [], am_SH, (J, K, am_RF b)) (some (am_iv r.1), am_SH, (r.2, K, am_RF b)) := by
  unfold f_UpRiverModel_from at h
  obtain ⟨q2315, e2316, h⟩ := am_bind_some h
  refine am_r_call (show am_stepn X T_UpRiverModel_from 2 true (0, [(0, am_pv 65), (1, am_iv x1)], [], am_SH, (J, K, am_RF b)) = some (true, .inr (.inl (177, [am_iv x1], 1, 0, 0, 4, [(0, am_pv 65), (1, am_iv x1)], [], am_SH, (J, K, am_RF b)))) from rfl) rfl tb_UpRiverModel_isMinute (s_UpRiverModel_isMinute e2316) ?_
  obtain ⟨g2317, h⟩ := am_if_some h
  by_cases c2318 : q2315 = 0
  · rw [if_pos c2318] at h
    refine am_r_t (show am_stepn X T_UpRiverModel_from 1 true (4, [(0, am_pv 65), (1, am_iv x1)], [am_iv q2315], am_SH, (J, K, am_RF b)) = some ((decide (am_i32 q2315) && true), .inl (bif am_cb .eq q2315 0 then 15 else 7, [(0, am_pv 65), (1, am_iv x1)], [], am_SH, (J, K, am_RF b))) from rfl) (am_g1 g2317 rfl) (decide_eq_true c2318) ?_
    obtain rfl := Option.some.inj h
    exact am_r_ret (show am_stepn X T_UpRiverModel_from 2 true (15, [(0, am_pv 65), (1, am_iv x1)], [], am_SH, (J, K, am_RF b)) = some (true, .inr (.inr (some (am_iv (-1)), am_SH, (J, K, am_RF b)))) from rfl) rfl
  · rw [if_neg c2318] at h
    refine am_r_f (show am_stepn X T_UpRiverModel_from 1 true (4, [(0, am_pv 65), (1, am_iv x1)], [am_iv q2315], am_SH, (J, K, am_RF b)) = some ((decide (am_i32 q2315) && true), .inl (bif am_cb .eq q2315 0 then 15 else 7, [(0, am_pv 65), (1, am_iv x1)], [], am_SH, (J, K, am_RF b))) from rfl) (am_g1 g2317 rfl) (decide_eq_false c2318) ?_
    obtain ⟨q2319, e2320, h⟩ := am_bind_some h
    refine am_r_call (show am_stepn X T_UpRiverModel_from 3 true (7, [(0, am_pv 65), (1, am_iv x1)], [], am_SH, (J, K, am_RF b)) = some (true, .inr (.inl (211, [am_pv 65, am_iv x1], 2, 0, 0, 12, [(0, am_pv 65), (1, am_iv x1)], [], am_SH, (J, K, am_RF b)))) from rfl) rfl tb_UpRiverModel_startIn (s_UpRiverModel_startIn e2320) ?_
    obtain rfl := Option.some.inj h
    exact am_r_ret (show am_stepn X T_UpRiverModel_from 2 true (12, [(0, am_pv 65), (1, am_iv x1)], [am_iv q2319.1], am_SH, (q2319.2, K, am_RF b)) = some (true, .inr (.inr (some (am_iv q2319.1), am_SH, (q2319.2, K, am_RF b)))) from rfl) rfl
theorem s_UpRiverModel_upThere {X : am_X} {b : Bool} {J : am_J} {K : am_K}  {r : Int} (h : f_UpRiverModel_upThere J  = some r) : am_runs X T_UpRiverModel_upThere (0, [(0, am_pv 65)], [], am_SH, (J, K, am_RF b)) (some (am_iv r), am_SH, (J, K, am_RF b)) := by
  unfold f_UpRiverModel_upThere at h
  obtain ⟨g2321, h⟩ := am_if_some h
  by_cases c2322 : 300 < (J 65 19)
  · rw [if_pos c2322] at h
    refine am_r_f (show am_stepn X T_UpRiverModel_upThere 4 true (0, [(0, am_pv 65)], [], am_SH, (J, K, am_RF b)) = some (((decide (am_i32 300) && decide (am_i32 (J 65 19))) && true), .inl (bif am_cb .le (J 65 19) 300 then 14 else 10, [(0, am_pv 65)], [], am_SH, (J, K, am_RF b))) from rfl) (am_g2 (by decide) g2321 rfl) (am_nd_t c2322) ?_
    obtain rfl := Option.some.inj h
    exact am_r_ret (show am_stepn X T_UpRiverModel_upThere 2 true (10, [(0, am_pv 65)], [], am_SH, (J, K, am_RF b)) = some (true, .inr (.inr (some (am_iv 9999), am_SH, (J, K, am_RF b)))) from rfl) rfl
  · rw [if_neg c2322] at h
    refine am_r_t (show am_stepn X T_UpRiverModel_upThere 4 true (0, [(0, am_pv 65)], [], am_SH, (J, K, am_RF b)) = some (((decide (am_i32 300) && decide (am_i32 (J 65 19))) && true), .inl (bif am_cb .le (J 65 19) 300 then 14 else 10, [(0, am_pv 65)], [], am_SH, (J, K, am_RF b))) from rfl) (am_g2 (by decide) g2321 rfl) (am_nd_f c2322) ?_
    obtain ⟨q2323, e2324, h⟩ := am_bind_some h
    refine am_r_call (show am_stepn X T_UpRiverModel_upThere 4 true (14, [(0, am_pv 65)], [], am_SH, (J, K, am_RF b)) = some (true, .inr (.inl (186, [am_pv 65], 1, 0, 0, 22, [(0, am_pv 65)], [am_iv (J 65 16)], am_SH, (J, K, am_RF b)))) from rfl) rfl tb_UpRiverModel_top (s_UpRiverModel_top e2324) ?_
    obtain ⟨g2325, h⟩ := am_if_some h
    obtain ⟨g2326, h⟩ := am_if_some h
    by_cases c2327 : (J 65 16) < q2323
    · rw [if_pos c2327] at h
      refine am_r_t (show am_stepn X T_UpRiverModel_upThere 1 true (22, [(0, am_pv 65)], [am_iv q2323, am_iv (J 65 16)], am_SH, (J, K, am_RF b)) = some (((decide (am_i32 q2323) && decide (am_i32 (J 65 16))) && true), .inl (bif am_cb .lt (J 65 16) q2323 then 32 else 25, [(0, am_pv 65)], [], am_SH, (J, K, am_RF b))) from rfl) (am_g2 g2325 g2326 rfl) (decide_eq_true c2327) ?_
      obtain ⟨q2328, e2329, h⟩ := am_bind_some h
      refine am_r_call (show am_stepn X T_UpRiverModel_upThere 15 true (32, [(0, am_pv 65)], [], am_SH, (J, K, am_RF b)) = some (((decide (0 < (10 : Int) ∧ am_i32 10) && decide (am_i32 (J 65 19))) && true), .inr (.inl (202, [am_iv (J 65 16), am_iv (J 65 17), am_iv (J 65 18)], 3, 0, 0, 62, [(0, am_pv 65)], [am_iv (1152 * (am_rm (J 65 19) 10)), am_pv 73], am_SH, (J, K, am_RF b)))) from rfl) (am_g2 (by decide) g2321 rfl) tb_UpRiverModel_spot (s_UpRiverModel_spot e2329) ?_
      obtain ⟨g2330, h⟩ := am_if_some h
      obtain rfl := Option.some.inj h
      exact am_r_ret (show am_stepn X T_UpRiverModel_upThere 3 true (62, [(0, am_pv 65)], [am_iv q2328, am_iv (1152 * (am_rm (J 65 19) 10)), am_pv 73], am_SH, (J, K, am_RF b)) = some ((am_in ((1152 * (am_rm (J 65 19) 10)) + q2328) 11520 && true), .inr (.inr (some (am_iv (J 73 (((1152 * (am_rm (J 65 19) 10)) + q2328).toNat))), am_SH, (J, K, am_RF b)))) from rfl) (am_gi g2330 rfl)
    · rw [if_neg c2327] at h
      refine am_r_f (show am_stepn X T_UpRiverModel_upThere 1 true (22, [(0, am_pv 65)], [am_iv q2323, am_iv (J 65 16)], am_SH, (J, K, am_RF b)) = some (((decide (am_i32 q2323) && decide (am_i32 (J 65 16))) && true), .inl (bif am_cb .lt (J 65 16) q2323 then 32 else 25, [(0, am_pv 65)], [], am_SH, (J, K, am_RF b))) from rfl) (am_g2 g2325 g2326 rfl) (decide_eq_false c2327) ?_
      obtain rfl := Option.some.inj h
      exact am_r_ret (show am_stepn X T_UpRiverModel_upThere 4 true (25, [(0, am_pv 65)], [], am_SH, (J, K, am_RF b)) = some (true, .inr (.inr (some (am_iv (J 65 19)), am_SH, (J, K, am_RF b)))) from rfl) rfl
theorem s_UpRiverModel_upFrom_L91 {X : am_X} {b : Bool} {K : am_K}  : ∀ (x1 : Int) (x3 : Int) (x4 : Int) (x5 : Int) (x6 : Int) (J : am_J) (r : Int × am_J), f_UpRiverModel_upFrom_L91    x1 x3 x4 x5 x6 J = some r → am_runs X T_UpRiverModel_upFrom (91, [(0, am_pv 65), (1, am_iv x1), (3, am_iv x3), (4, am_iv x4), (5, am_iv x5), (6, am_iv x6)], [], am_SH, (J, K, am_RF b)) (some (am_iv r.1), am_SH, (r.2, K, am_RF b)) := by
  intro x1 x3 x4 x5 x6 J r h
  unfold f_UpRiverModel_upFrom_L91 at h
  obtain ⟨q2331, e2332, h⟩ := am_bind_some h
  refine am_r_call (show am_stepn X T_UpRiverModel_upFrom 6 true (91, [(0, am_pv 65), (1, am_iv x1), (3, am_iv x3), (4, am_iv x4), (5, am_iv x5), (6, am_iv x6)], [], am_SH, (J, K, am_RF b)) = some (true, .inr (.inl (192, [am_pv 65, am_iv x5, am_iv x4, am_iv x3, am_iv x1], 5, 0, 0, 101, [(0, am_pv 65), (1, am_iv x1), (3, am_iv x3), (4, am_iv x4), (5, am_iv x5), (6, am_iv x6)], [], am_SH, (J, K, am_RF b)))) from rfl) rfl tb_UpRiverModel_turns (s_UpRiverModel_turns e2332) ?_
  obtain ⟨g2333, h⟩ := am_if_some h
  by_cases c2334 : q2331.1 = 0
  · rw [if_pos c2334] at h
    refine am_r_t (show am_stepn X T_UpRiverModel_upFrom 1 true (101, [(0, am_pv 65), (1, am_iv x1), (3, am_iv x3), (4, am_iv x4), (5, am_iv x5), (6, am_iv x6)], [am_iv q2331.1], am_SH, (q2331.2, K, am_RF b)) = some ((decide (am_i32 q2331.1) && true), .inl (bif am_cb .eq q2331.1 0 then 115 else 104, [(0, am_pv 65), (1, am_iv x1), (3, am_iv x3), (4, am_iv x4), (5, am_iv x5), (6, am_iv x6)], [], am_SH, (q2331.2, K, am_RF b))) from rfl) (am_g1 g2333 rfl) (decide_eq_true c2334) ?_
    obtain rfl := Option.some.inj h
    exact am_r_ret (show am_stepn X T_UpRiverModel_upFrom 2 true (115, [(0, am_pv 65), (1, am_iv x1), (3, am_iv x3), (4, am_iv x4), (5, am_iv x5), (6, am_iv x6)], [], am_SH, (q2331.2, K, am_RF b)) = some (true, .inr (.inr (some (am_iv x6), am_SH, (q2331.2, K, am_RF b)))) from rfl) rfl
  · rw [if_neg c2334] at h
    refine am_r_f (show am_stepn X T_UpRiverModel_upFrom 1 true (101, [(0, am_pv 65), (1, am_iv x1), (3, am_iv x3), (4, am_iv x4), (5, am_iv x5), (6, am_iv x6)], [am_iv q2331.1], am_SH, (q2331.2, K, am_RF b)) = some ((decide (am_i32 q2331.1) && true), .inl (bif am_cb .eq q2331.1 0 then 115 else 104, [(0, am_pv 65), (1, am_iv x1), (3, am_iv x3), (4, am_iv x4), (5, am_iv x5), (6, am_iv x6)], [], am_SH, (q2331.2, K, am_RF b))) from rfl) (am_g1 g2333 rfl) (decide_eq_false c2334) ?_
    obtain ⟨q2335, e2336, h⟩ := am_bind_some h
    refine am_r_call (show am_stepn X T_UpRiverModel_upFrom 3 true (104, [(0, am_pv 65), (1, am_iv x1), (3, am_iv x3), (4, am_iv x4), (5, am_iv x5), (6, am_iv x6)], [], am_SH, (q2331.2, K, am_RF b)) = some (true, .inr (.inl (215, [am_pv 65], 1, 0, 0, 110, [(0, am_pv 65), (6, am_iv x6)], [am_iv x6], am_SH, (q2331.2, K, am_RF b)))) from rfl) rfl tb_UpRiverModel_upThere (s_UpRiverModel_upThere e2336) ?_
    obtain ⟨q2337, e2338, h⟩ := am_bind_some h
    refine am_r_call (show am_stepn X T_UpRiverModel_upFrom 1 true (110, [(0, am_pv 65), (6, am_iv x6)], [am_iv q2335, am_iv x6], am_SH, (q2331.2, K, am_RF b)) = some (true, .inr (.inl (206, [am_iv x6, am_iv q2335], 2, 0, 0, 113, [(0, am_pv 65), (6, am_iv x6)], [], am_SH, (q2331.2, K, am_RF b)))) from rfl) rfl tb_UpRiverModel_less (s_UpRiverModel_less e2338) ?_
    obtain rfl := Option.some.inj h
    exact am_r_ret (show am_stepn X T_UpRiverModel_upFrom 3 true (113, [(0, am_pv 65), (6, am_iv x6)], [am_iv q2337], am_SH, (q2331.2, K, am_RF b)) = some (true, .inr (.inr (some (am_iv q2337), am_SH, (q2331.2, K, am_RF b)))) from rfl) rfl
theorem s_UpRiverModel_upFrom_L50 {X : am_X} {b : Bool} {K : am_K}  : ∀ (x1 : Int) (x3 : Int) (x4 : Int) (x5 : Int) (s0 : Int) (J : am_J) (r : Int × am_J), f_UpRiverModel_upFrom_L50    x1 x3 x4 x5 s0 J = some r → am_runs X T_UpRiverModel_upFrom (50, [(0, am_pv 65), (1, am_iv x1), (3, am_iv x3), (4, am_iv x4), (5, am_iv x5)], [am_iv s0], am_SH, (J, K, am_RF b)) (some (am_iv r.1), am_SH, (r.2, K, am_RF b)) := by
  intro x1 x3 x4 x5 s0 J r h
  unfold f_UpRiverModel_upFrom_L50 at h
  obtain ⟨g2339, h⟩ := am_if_some h
  obtain ⟨q2340, e2341, h⟩ := am_bind_some h
  refine am_r_call (show am_stepn X T_UpRiverModel_upFrom 8 true (50, [(0, am_pv 65), (1, am_iv x1), (3, am_iv x3), (4, am_iv x4), (5, am_iv x5)], [am_iv s0], am_SH, (J, K, am_RF b)) = some (((decide (0 < (8 : Int) ∧ am_i32 8) && decide (am_i32 x5)) && true), .inr (.inl (182, [am_pv 65, am_iv (am_dv x5 8), am_iv x4, am_iv x1], 4, 0, 0, 64, [(0, am_pv 65), (1, am_iv x1), (3, am_iv x3), (4, am_iv x4), (5, am_iv x5), (6, am_iv s0)], [], am_SH, (J, K, am_RF b)))) from rfl) (am_g2 (by decide) g2339 rfl) tb_UpRiverModel_isAfloat (s_UpRiverModel_isAfloat e2341) ?_
  obtain ⟨g2342, h⟩ := am_if_some h
  by_cases c2343 : q2340 = 0
  · rw [if_pos c2343] at h
    refine am_r_t (show am_stepn X T_UpRiverModel_upFrom 1 true (64, [(0, am_pv 65), (1, am_iv x1), (3, am_iv x3), (4, am_iv x4), (5, am_iv x5), (6, am_iv s0)], [am_iv q2340], am_SH, (J, K, am_RF b)) = some ((decide (am_i32 q2340) && true), .inl (bif am_cb .eq q2340 0 then 115 else 67, [(0, am_pv 65), (1, am_iv x1), (3, am_iv x3), (4, am_iv x4), (5, am_iv x5), (6, am_iv s0)], [], am_SH, (J, K, am_RF b))) from rfl) (am_g1 g2342 rfl) (decide_eq_true c2343) ?_
    obtain rfl := Option.some.inj h
    exact am_r_ret (show am_stepn X T_UpRiverModel_upFrom 2 true (115, [(0, am_pv 65), (1, am_iv x1), (3, am_iv x3), (4, am_iv x4), (5, am_iv x5), (6, am_iv s0)], [], am_SH, (J, K, am_RF b)) = some (true, .inr (.inr (some (am_iv s0), am_SH, (J, K, am_RF b)))) from rfl) rfl
  · rw [if_neg c2343] at h
    refine am_r_f (show am_stepn X T_UpRiverModel_upFrom 1 true (64, [(0, am_pv 65), (1, am_iv x1), (3, am_iv x3), (4, am_iv x4), (5, am_iv x5), (6, am_iv s0)], [am_iv q2340], am_SH, (J, K, am_RF b)) = some ((decide (am_i32 q2340) && true), .inl (bif am_cb .eq q2340 0 then 115 else 67, [(0, am_pv 65), (1, am_iv x1), (3, am_iv x3), (4, am_iv x4), (5, am_iv x5), (6, am_iv s0)], [], am_SH, (J, K, am_RF b))) from rfl) (am_g1 g2342 rfl) (decide_eq_false c2343) ?_
    obtain ⟨q2344, e2345, h⟩ := am_bind_some h
    refine am_r_call (show am_stepn X T_UpRiverModel_upFrom 6 true (67, [(0, am_pv 65), (1, am_iv x1), (3, am_iv x3), (4, am_iv x4), (5, am_iv x5), (6, am_iv s0)], [], am_SH, (J, K, am_RF b)) = some (true, .inr (.inl (188, [am_pv 65, am_iv x5, am_iv x4, am_iv x3, am_iv x1], 6, 0, 0, 77, [(0, am_pv 65), (1, am_iv x1), (3, am_iv x3), (4, am_iv x4), (5, am_iv x5), (6, am_iv s0)], [], am_SH, (J, K, am_RF b)))) from rfl) rfl tb_UpRiverModel_sails (s_UpRiverModel_sails e2345) ?_
    obtain ⟨g2346, h⟩ := am_if_some h
    by_cases c2347 : q2344.1 = 0
    · rw [if_pos c2347] at h
      refine am_r_t (show am_stepn X T_UpRiverModel_upFrom 1 true (77, [(0, am_pv 65), (1, am_iv x1), (3, am_iv x3), (4, am_iv x4), (5, am_iv x5), (6, am_iv s0)], [am_iv q2344.1], am_SH, (q2344.2, K, am_RF b)) = some ((decide (am_i32 q2344.1) && true), .inl (bif am_cb .eq q2344.1 0 then 91 else 80, [(0, am_pv 65), (1, am_iv x1), (3, am_iv x3), (4, am_iv x4), (5, am_iv x5), (6, am_iv s0)], [], am_SH, (q2344.2, K, am_RF b))) from rfl) (am_g1 g2346 rfl) (decide_eq_true c2347) ?_
      exact s_UpRiverModel_upFrom_L91  _ _ _ _ _ _ _ h
    · rw [if_neg c2347] at h
      refine am_r_f (show am_stepn X T_UpRiverModel_upFrom 1 true (77, [(0, am_pv 65), (1, am_iv x1), (3, am_iv x3), (4, am_iv x4), (5, am_iv x5), (6, am_iv s0)], [am_iv q2344.1], am_SH, (q2344.2, K, am_RF b)) = some ((decide (am_i32 q2344.1) && true), .inl (bif am_cb .eq q2344.1 0 then 91 else 80, [(0, am_pv 65), (1, am_iv x1), (3, am_iv x3), (4, am_iv x4), (5, am_iv x5), (6, am_iv s0)], [], am_SH, (q2344.2, K, am_RF b))) from rfl) (am_g1 g2346 rfl) (decide_eq_false c2347) ?_
      obtain ⟨q2348, e2349, h⟩ := am_bind_some h
      refine am_r_call (show am_stepn X T_UpRiverModel_upFrom 3 true (80, [(0, am_pv 65), (1, am_iv x1), (3, am_iv x3), (4, am_iv x4), (5, am_iv x5), (6, am_iv s0)], [], am_SH, (q2344.2, K, am_RF b)) = some (true, .inr (.inl (215, [am_pv 65], 1, 0, 0, 86, [(0, am_pv 65), (1, am_iv x1), (3, am_iv x3), (4, am_iv x4), (5, am_iv x5), (6, am_iv s0)], [am_iv s0], am_SH, (q2344.2, K, am_RF b)))) from rfl) rfl tb_UpRiverModel_upThere (s_UpRiverModel_upThere e2349) ?_
      obtain ⟨q2350, e2351, h⟩ := am_bind_some h
      refine am_r_call (show am_stepn X T_UpRiverModel_upFrom 1 true (86, [(0, am_pv 65), (1, am_iv x1), (3, am_iv x3), (4, am_iv x4), (5, am_iv x5), (6, am_iv s0)], [am_iv q2348, am_iv s0], am_SH, (q2344.2, K, am_RF b)) = some (true, .inr (.inl (206, [am_iv s0, am_iv q2348], 2, 0, 0, 89, [(0, am_pv 65), (1, am_iv x1), (3, am_iv x3), (4, am_iv x4), (5, am_iv x5), (6, am_iv s0)], [], am_SH, (q2344.2, K, am_RF b)))) from rfl) rfl tb_UpRiverModel_less (s_UpRiverModel_less e2351) ?_
      refine am_r_go (show am_stepn X T_UpRiverModel_upFrom 1 true (89, [(0, am_pv 65), (1, am_iv x1), (3, am_iv x3), (4, am_iv x4), (5, am_iv x5), (6, am_iv s0)], [am_iv q2350], am_SH, (q2344.2, K, am_RF b)) = some (true, .inl (91, [(0, am_pv 65), (1, am_iv x1), (3, am_iv x3), (4, am_iv x4), (5, am_iv x5), (6, am_iv q2350)], [], am_SH, (q2344.2, K, am_RF b))) from rfl) rfl ?_
      exact s_UpRiverModel_upFrom_L91  _ _ _ _ _ _ _ h
theorem s_UpRiverModel_upFrom {X : am_X} {b : Bool} {K : am_K} {x1 : Int} {x2 : Int} {J : am_J} {r : Int × am_J} (h : f_UpRiverModel_upFrom  x1 x2 J = some r) : am_runs X T_UpRiverModel_upFrom (0, [(0, am_pv 65), (1, am_iv x1), (2, am_iv x2)], [], am_SH, (J, K, am_RF b)) (some (am_iv r.1), am_SH, (r.2, K, am_RF b)) := by
  unfold f_UpRiverModel_upFrom at h
  obtain ⟨g2352, h⟩ := am_if_some h
  obtain ⟨g2353, h⟩ := am_if_some h
  obtain ⟨g2354, h⟩ := am_if_some h
  by_cases c2355 : x1 < 300
  · rw [if_pos c2355] at h
    refine am_r_f (show am_stepn X T_UpRiverModel_upFrom 19 true (0, [(0, am_pv 65), (1, am_iv x1), (2, am_iv x2)], [], am_SH, (J, K, am_RF b)) = some (((decide (am_i32 300) && decide (am_i32 x1)) && ((decide (0 < (9 : Int) ∧ am_i32 9) && decide (am_i32 (am_dv x2 2))) && ((decide (0 < (2 : Int) ∧ am_i32 2) && decide (am_i32 x2)) && ((decide (0 < (9 : Int) ∧ am_i32 9) && decide (am_i32 (am_dv x2 2))) && ((decide (0 < (2 : Int) ∧ am_i32 2) && decide (am_i32 x2)) && ((decide (0 < (2 : Int) ∧ am_i32 2) && decide (am_i32 x2)) && true)))))), .inl (bif am_cb .ge x1 300 then 47 else 27, [(0, am_pv 65), (1, am_iv x1), (2, am_iv x2), (3, am_iv (am_rm x2 2)), (4, am_iv (am_rm (am_dv x2 2) 9)), (5, am_iv (am_dv (am_dv x2 2) 9))], [], am_SH, (J, K, am_RF b))) from rfl) (am_g2 (by decide) g2354 (am_g2 (by decide) g2353 (am_g2 (by decide) g2352 (am_g2 (by decide) g2353 (am_g2 (by decide) g2352 (am_g2 (by decide) g2352 rfl)))))) (am_nd_t c2355) ?_
    obtain ⟨g2356, h⟩ := am_if_some h
    obtain ⟨g2357, h⟩ := am_if_some h
    refine am_r_go (show am_stepn X T_UpRiverModel_upFrom 13 true (27, [(0, am_pv 65), (1, am_iv x1), (2, am_iv x2), (3, am_iv (am_rm x2 2)), (4, am_iv (am_rm (am_dv x2 2) 9)), (5, am_iv (am_dv (am_dv x2 2) 9))], [], am_SH, (J, K, am_RF b)) = some ((am_in ((1152 * (am_rm (x1 + 1) 10)) + x2) 11520 && ((decide (0 < (10 : Int) ∧ am_i32 10) && decide (am_i32 (x1 + 1))) && true)), .inl (50, [(0, am_pv 65), (1, am_iv x1), (2, am_iv x2), (3, am_iv (am_rm x2 2)), (4, am_iv (am_rm (am_dv x2 2) 9)), (5, am_iv (am_dv (am_dv x2 2) 9))], [am_iv (J 73 (((1152 * (am_rm (x1 + 1) 10)) + x2).toNat))], am_SH, (J, K, am_RF b))) from rfl) (am_gi g2357 (am_g2 (by decide) g2356 rfl)) ?_
    refine am_r_eq (σ' := (50, [(0, am_pv 65), (1, am_iv x1), (3, am_iv (am_rm x2 2)), (4, am_iv (am_rm (am_dv x2 2) 9)), (5, am_iv (am_dv (am_dv x2 2) 9))], [am_iv (J 73 (((1152 * (am_rm (x1 + 1) 10)) + x2).toNat))], am_SH, (J, K, am_RF b))) rfl ?_
    exact s_UpRiverModel_upFrom_L50  _ _ _ _ _ _ _ h
  · rw [if_neg c2355] at h
    refine am_r_t (show am_stepn X T_UpRiverModel_upFrom 19 true (0, [(0, am_pv 65), (1, am_iv x1), (2, am_iv x2)], [], am_SH, (J, K, am_RF b)) = some (((decide (am_i32 300) && decide (am_i32 x1)) && ((decide (0 < (9 : Int) ∧ am_i32 9) && decide (am_i32 (am_dv x2 2))) && ((decide (0 < (2 : Int) ∧ am_i32 2) && decide (am_i32 x2)) && ((decide (0 < (9 : Int) ∧ am_i32 9) && decide (am_i32 (am_dv x2 2))) && ((decide (0 < (2 : Int) ∧ am_i32 2) && decide (am_i32 x2)) && ((decide (0 < (2 : Int) ∧ am_i32 2) && decide (am_i32 x2)) && true)))))), .inl (bif am_cb .ge x1 300 then 47 else 27, [(0, am_pv 65), (1, am_iv x1), (2, am_iv x2), (3, am_iv (am_rm x2 2)), (4, am_iv (am_rm (am_dv x2 2) 9)), (5, am_iv (am_dv (am_dv x2 2) 9))], [], am_SH, (J, K, am_RF b))) from rfl) (am_g2 (by decide) g2354 (am_g2 (by decide) g2353 (am_g2 (by decide) g2352 (am_g2 (by decide) g2353 (am_g2 (by decide) g2352 (am_g2 (by decide) g2352 rfl)))))) (am_nd_f c2355) ?_
    refine am_r_go (show am_stepn X T_UpRiverModel_upFrom 1 true (47, [(0, am_pv 65), (1, am_iv x1), (2, am_iv x2), (3, am_iv (am_rm x2 2)), (4, am_iv (am_rm (am_dv x2 2) 9)), (5, am_iv (am_dv (am_dv x2 2) 9))], [], am_SH, (J, K, am_RF b)) = some (true, .inl (50, [(0, am_pv 65), (1, am_iv x1), (3, am_iv (am_rm x2 2)), (4, am_iv (am_rm (am_dv x2 2) 9)), (5, am_iv (am_dv (am_dv x2 2) 9))], [am_iv 9999], am_SH, (J, K, am_RF b))) from rfl) rfl ?_
    exact s_UpRiverModel_upFrom_L50  _ _ _ _ _ _ _ h
theorem s_UpRiverModel_layStarts_L18 {X : am_X} {b : Bool} {K : am_K} {kb12 : Int → Int → am_J → Option am_J} (hk12 : ∀ (x1 : Int) (x2 : Int) (J : am_J) (r : am_J), kb12 x1 x2 J = some r → am_runs X T_UpRiverModel_layStarts (12, [(0, am_pv 65), (1, am_iv x1), (2, am_iv x2)], [], am_SH, (J, K, am_RF b)) (none, am_SH, (r, K, am_RF b))) : ∀ (n : Nat) (x1 : Int) (x2 : Int) (x3 : Int) (J : am_J) (r : am_J), f_UpRiverModel_layStarts_L18  kb12 n x1 x2 x3 J = some r → am_runs X T_UpRiverModel_layStarts (18, [(0, am_pv 65), (1, am_iv x1), (2, am_iv x2), (3, am_iv x3)], [], am_SH, (J, K, am_RF b)) (none, am_SH, (r, K, am_RF b)) := by
  intro n
  induction n with
  | zero =>
    intro x1 x2 x3 J r h
    cases h
  | succ n ih =>
    intro x1 x2 x3 J r h
    rw [f_UpRiverModel_layStarts_L18.eq_2] at h
    obtain ⟨g2358, h⟩ := am_if_some h
    obtain ⟨g2359, h⟩ := am_if_some h
    by_cases c2360 : x3 < x1
    · rw [if_pos c2360] at h
      refine am_r_f (show am_stepn X T_UpRiverModel_layStarts 3 true (18, [(0, am_pv 65), (1, am_iv x1), (2, am_iv x2), (3, am_iv x3)], [], am_SH, (J, K, am_RF b)) = some (((decide (am_i32 x1) && decide (am_i32 x3)) && true), .inl (bif am_cb .ge x3 x1 then 50 else 23, [(0, am_pv 65), (1, am_iv x1), (2, am_iv x2), (3, am_iv x3)], [], am_SH, (J, K, am_RF b))) from rfl) (am_g2 g2358 g2359 rfl) (am_nd_t c2360) ?_
      obtain ⟨g2361, h⟩ := am_if_some h
      obtain ⟨q2362, e2363, h⟩ := am_bind_some h
      refine am_r_call (show am_stepn X T_UpRiverModel_layStarts 13 true (23, [(0, am_pv 65), (1, am_iv x1), (2, am_iv x2), (3, am_iv x3)], [], am_SH, (J, K, am_RF b)) = some (((decide (0 < (10 : Int) ∧ am_i32 10) && decide (am_i32 x2)) && true), .inr (.inl (214, [am_pv 65, am_iv x2, am_iv x3], 7, 0, 0, 43, [(0, am_pv 65), (1, am_iv x1), (2, am_iv x2), (3, am_iv x3)], [am_iv ((1152 * (am_rm x2 10)) + x3), am_pv 73], am_SH, (J, K, am_RF b)))) from rfl) (am_g2 (by decide) g2361 rfl) tb_UpRiverModel_upFrom (s_UpRiverModel_upFrom e2363) ?_
      obtain ⟨g2364, h⟩ := am_if_some h
      refine am_r_go (show am_stepn X T_UpRiverModel_layStarts 3 true (43, [(0, am_pv 65), (1, am_iv x1), (2, am_iv x2), (3, am_iv x3)], [am_iv q2362.1, am_iv ((1152 * (am_rm x2 10)) + x3), am_pv 73], am_SH, (q2362.2, K, am_RF b)) = some ((am_in ((1152 * (am_rm x2 10)) + x3) 11520 && true), .inl (18, [(0, am_pv 65), (1, am_iv x1), (2, am_iv x2), (3, am_iv (x3 + 1))], [], am_SH, ((am_up q2362.2 73 (((1152 * (am_rm x2 10)) + x3).toNat) q2362.1), K, am_RF b))) from rfl) (am_gi g2364 rfl) ?_
      exact ih _ _ _ _ _ h
    · rw [if_neg c2360] at h
      refine am_r_t (show am_stepn X T_UpRiverModel_layStarts 3 true (18, [(0, am_pv 65), (1, am_iv x1), (2, am_iv x2), (3, am_iv x3)], [], am_SH, (J, K, am_RF b)) = some (((decide (am_i32 x1) && decide (am_i32 x3)) && true), .inl (bif am_cb .ge x3 x1 then 50 else 23, [(0, am_pv 65), (1, am_iv x1), (2, am_iv x2), (3, am_iv x3)], [], am_SH, (J, K, am_RF b))) from rfl) (am_g2 g2358 g2359 rfl) (am_nd_f c2360) ?_
      obtain ⟨g2365, h⟩ := am_if_some h
      obtain ⟨q2366, e2367, h⟩ := am_bind_some h
      refine am_r_call (show am_stepn X T_UpRiverModel_layStarts 17 true (50, [(0, am_pv 65), (1, am_iv x1), (2, am_iv x2), (3, am_iv x3)], [], am_SH, (J, K, am_RF b)) = some ((am_in 7 295 && ((decide (0 < (10 : Int) ∧ am_i32 10) && decide (am_i32 x2)) && true)), .inr (.inl (202, [am_iv 0, am_iv (J 66 7), am_iv 0], 3, 0, 0, 79, [(0, am_pv 65), (1, am_iv x1), (2, am_iv x2)], [am_iv (1152 * (am_rm x2 10)), am_pv 73, am_iv x2, am_pv 74], am_SH, (J, K, am_RF b)))) from rfl) (am_gi (by decide) (am_g2 (by decide) g2365 rfl)) tb_UpRiverModel_spot (s_UpRiverModel_spot e2367) ?_
      obtain ⟨g2368, h⟩ := am_if_some h
      obtain ⟨g2369, h⟩ := am_if_some h
      refine am_r_go (show am_stepn X T_UpRiverModel_layStarts 5 true (79, [(0, am_pv 65), (1, am_iv x1), (2, am_iv x2)], [am_iv q2366, am_iv (1152 * (am_rm x2 10)), am_pv 73, am_iv x2, am_pv 74], am_SH, (J, K, am_RF b)) = some ((am_in x2 301 && (am_in ((1152 * (am_rm x2 10)) + q2366) 11520 && true)), .inl (12, [(0, am_pv 65), (1, am_iv x1), (2, am_iv (x2 + (-1)))], [], am_SH, ((am_up J 74 x2.toNat (J 73 (((1152 * (am_rm x2 10)) + q2366).toNat))), K, am_RF b))) from rfl) (am_gi g2369 (am_gi g2368 rfl)) ?_
      exact hk12 _ _ _ _ h
theorem s_UpRiverModel_layStarts_L12 {X : am_X} {b : Bool} {K : am_K}  : ∀ (n : Nat) (x1 : Int) (x2 : Int) (J : am_J) (r : am_J), f_UpRiverModel_layStarts_L12   n x1 x2 J = some r → am_runs X T_UpRiverModel_layStarts (12, [(0, am_pv 65), (1, am_iv x1), (2, am_iv x2)], [], am_SH, (J, K, am_RF b)) (none, am_SH, (r, K, am_RF b)) := by
  intro n
  induction n with
  | zero =>
    intro x1 x2 J r h
    cases h
  | succ n ih =>
    intro x1 x2 J r h
    rw [f_UpRiverModel_layStarts_L12.eq_2] at h
    obtain ⟨g2370, h⟩ := am_if_some h
    by_cases c2371 : x2 < 0
    · rw [if_pos c2371] at h
      refine am_r_t (show am_stepn X T_UpRiverModel_layStarts 2 true (12, [(0, am_pv 65), (1, am_iv x1), (2, am_iv x2)], [], am_SH, (J, K, am_RF b)) = some ((decide (am_i32 x2) && true), .inl (bif am_cb .lt x2 0 then 88 else 16, [(0, am_pv 65), (1, am_iv x1), (2, am_iv x2)], [], am_SH, (J, K, am_RF b))) from rfl) (am_g1 g2370 rfl) (decide_eq_true c2371) ?_
      obtain rfl := Option.some.inj h
      exact am_r_ret (show am_stepn X T_UpRiverModel_layStarts 1 true (88, [(0, am_pv 65), (1, am_iv x1), (2, am_iv x2)], [], am_SH, (J, K, am_RF b)) = some (true, .inr (.inr (none, am_SH, (J, K, am_RF b)))) from rfl) rfl
    · rw [if_neg c2371] at h
      refine am_r_f (show am_stepn X T_UpRiverModel_layStarts 2 true (12, [(0, am_pv 65), (1, am_iv x1), (2, am_iv x2)], [], am_SH, (J, K, am_RF b)) = some ((decide (am_i32 x2) && true), .inl (bif am_cb .lt x2 0 then 88 else 16, [(0, am_pv 65), (1, am_iv x1), (2, am_iv x2)], [], am_SH, (J, K, am_RF b))) from rfl) (am_g1 g2370 rfl) (decide_eq_false c2371) ?_
      refine am_r_go (show am_stepn X T_UpRiverModel_layStarts 2 true (16, [(0, am_pv 65), (1, am_iv x1), (2, am_iv x2)], [], am_SH, (J, K, am_RF b)) = some (true, .inl (18, [(0, am_pv 65), (1, am_iv x1), (2, am_iv x2), (3, am_iv 0)], [], am_SH, (J, K, am_RF b))) from rfl) rfl ?_
      exact s_UpRiverModel_layStarts_L18 ih _ _ _ _ _ _ h
theorem s_UpRiverModel_layStarts {X : am_X} {b : Bool} {K : am_K} {J : am_J} {r : am_J} (h : f_UpRiverModel_layStarts  J = some r) : am_runs X T_UpRiverModel_layStarts (0, [(0, am_pv 65)], [], am_SH, (J, K, am_RF b)) (none, am_SH, (r, K, am_RF b)) := by
  unfold f_UpRiverModel_layStarts at h
  obtain ⟨q2372, e2373, h⟩ := am_bind_some h
  refine am_r_call (show am_stepn X T_UpRiverModel_layStarts 3 true (0, [(0, am_pv 65)], [], am_SH, (J, K, am_RF b)) = some (true, .inr (.inl (186, [am_pv 65], 1, 0, 0, 6, [(0, am_pv 65)], [am_iv 18], am_SH, (J, K, am_RF b)))) from rfl) rfl tb_UpRiverModel_top (s_UpRiverModel_top e2373) ?_
  refine am_r_go (show am_stepn X T_UpRiverModel_layStarts 4 true (6, [(0, am_pv 65)], [am_iv q2372, am_iv 18], am_SH, (J, K, am_RF b)) = some (true, .inl (12, [(0, am_pv 65), (1, am_iv (18 * q2372)), (2, am_iv 300)], [], am_SH, (J, K, am_RF b))) from rfl) rfl ?_
  exact s_UpRiverModel_layStarts_L12  _ _ _ _ _ h
theorem s_UpRiverModel_start_L96 {X : am_X} {b : Bool} {K : am_K} {kb30 : Int → Int → Int → Int → Int → am_J → Option (Int × am_J)} (hk30 : ∀ (x1 : Int) (x2 : Int) (x3 : Int) (x4 : Int) (x5 : Int) (J : am_J) (r : Int × am_J), kb30 x1 x2 x3 x4 x5 J = some r → am_runs X T_UpRiverModel_start (30, [(0, am_pv 65), (1, am_iv x1), (2, am_iv x2), (3, am_iv x3), (4, am_iv x4), (5, am_iv x5)], [], am_SH, (J, K, am_RF b)) (some (am_iv r.1), am_SH, (r.2, K, am_RF b))) : ∀ (x1 : Int) (x2 : Int) (x4 : Int) (x5 : Int) (x6 : Int) (x7 : Int) (s0 : Int) (J : am_J) (r : Int × am_J), f_UpRiverModel_start_L96  kb30  x1 x2 x4 x5 x6 x7 s0 J = some r → am_runs X T_UpRiverModel_start (96, [(0, am_pv 65), (1, am_iv x1), (2, am_iv x2), (4, am_iv x4), (5, am_iv x5), (6, am_iv x6), (7, am_iv x7)], [am_iv s0], am_SH, (J, K, am_RF b)) (some (am_iv r.1), am_SH, (r.2, K, am_RF b)) := by
  intro x1 x2 x4 x5 x6 x7 s0 J r h
  unfold f_UpRiverModel_start_L96 at h
  obtain ⟨g2374, h⟩ := am_if_some h
  by_cases c2375 : x7 = 0
  · rw [if_pos c2375] at h
    refine am_r_t (show am_stepn X T_UpRiverModel_start 3 true (96, [(0, am_pv 65), (1, am_iv x1), (2, am_iv x2), (4, am_iv x4), (5, am_iv x5), (6, am_iv x6), (7, am_iv x7)], [am_iv s0], am_SH, (J, K, am_RF b)) = some ((decide (am_i32 x7) && true), .inl (bif am_cb .eq x7 0 then 110 else 102, [(0, am_pv 65), (1, am_iv x1), (2, am_iv x2), (3, am_iv s0), (4, am_iv x4), (5, am_iv x5), (6, am_iv x6), (7, am_iv x7)], [], am_SH, (J, K, am_RF b))) from rfl) (am_g1 g2374 rfl) (decide_eq_true c2375) ?_
    refine am_r_go (show am_stepn X T_UpRiverModel_start 4 true (110, [(0, am_pv 65), (1, am_iv x1), (2, am_iv x2), (3, am_iv s0), (4, am_iv x4), (5, am_iv x5), (6, am_iv x6), (7, am_iv x7)], [], am_SH, (J, K, am_RF b)) = some (true, .inl (30, [(0, am_pv 65), (1, am_iv x1), (2, am_iv x2), (3, am_iv s0), (4, am_iv x4), (5, am_iv (x5 + 1))], [], am_SH, (J, K, am_RF b))) from rfl) rfl ?_
    exact hk30 _ _ _ _ _ _ _ h
  · rw [if_neg c2375] at h
    refine am_r_f (show am_stepn X T_UpRiverModel_start 3 true (96, [(0, am_pv 65), (1, am_iv x1), (2, am_iv x2), (4, am_iv x4), (5, am_iv x5), (6, am_iv x6), (7, am_iv x7)], [am_iv s0], am_SH, (J, K, am_RF b)) = some ((decide (am_i32 x7) && true), .inl (bif am_cb .eq x7 0 then 110 else 102, [(0, am_pv 65), (1, am_iv x1), (2, am_iv x2), (3, am_iv s0), (4, am_iv x4), (5, am_iv x5), (6, am_iv x6), (7, am_iv x7)], [], am_SH, (J, K, am_RF b))) from rfl) (am_g1 g2374 rfl) (decide_eq_false c2375) ?_
    refine am_r_go (show am_stepn X T_UpRiverModel_start 7 true (102, [(0, am_pv 65), (1, am_iv x1), (2, am_iv x2), (3, am_iv s0), (4, am_iv x4), (5, am_iv x5), (6, am_iv x6), (7, am_iv x7)], [], am_SH, (J, K, am_RF b)) = some (true, .inl (30, [(0, am_pv 65), (1, am_iv x1), (2, am_iv x2), (3, am_iv s0), (4, am_iv (x6 - x5)), (5, am_iv (x5 + 1))], [], am_SH, (J, K, am_RF b))) from rfl) rfl ?_
    exact hk30 _ _ _ _ _ _ _ h
theorem s_UpRiverModel_start_L80 {X : am_X} {b : Bool} {K : am_K} {kb30 : Int → Int → Int → Int → Int → am_J → Option (Int × am_J)} (hk30 : ∀ (x1 : Int) (x2 : Int) (x3 : Int) (x4 : Int) (x5 : Int) (J : am_J) (r : Int × am_J), kb30 x1 x2 x3 x4 x5 J = some r → am_runs X T_UpRiverModel_start (30, [(0, am_pv 65), (1, am_iv x1), (2, am_iv x2), (3, am_iv x3), (4, am_iv x4), (5, am_iv x5)], [], am_SH, (J, K, am_RF b)) (some (am_iv r.1), am_SH, (r.2, K, am_RF b))) : ∀ (x1 : Int) (x3 : Int) (x4 : Int) (x5 : Int) (x6 : Int) (s0 : Int) (J : am_J) (r : Int × am_J), f_UpRiverModel_start_L80  kb30  x1 x3 x4 x5 x6 s0 J = some r → am_runs X T_UpRiverModel_start (80, [(0, am_pv 65), (1, am_iv x1), (3, am_iv x3), (4, am_iv x4), (5, am_iv x5), (6, am_iv x6)], [am_iv s0], am_SH, (J, K, am_RF b)) (some (am_iv r.1), am_SH, (r.2, K, am_RF b)) := by
  intro x1 x3 x4 x5 x6 s0 J r h
  unfold f_UpRiverModel_start_L80 at h
  obtain ⟨g2376, h⟩ := am_if_some h
  by_cases c2377 : s0 = 0
  · rw [if_pos c2377] at h
    refine am_r_t (show am_stepn X T_UpRiverModel_start 5 true (80, [(0, am_pv 65), (1, am_iv x1), (3, am_iv x3), (4, am_iv x4), (5, am_iv x5), (6, am_iv x6)], [am_iv s0], am_SH, (J, K, am_RF b)) = some ((decide (am_i32 s0) && true), .inl (bif am_cb .eq s0 0 then 95 else 90, [(0, am_pv 65), (1, am_iv x1), (2, am_iv x5), (3, am_iv x3), (4, am_iv x4), (5, am_iv x5), (6, am_iv x6), (7, am_iv s0)], [], am_SH, (J, K, am_RF b))) from rfl) (am_g1 g2376 rfl) (decide_eq_true c2377) ?_
    refine am_r_go (show am_stepn X T_UpRiverModel_start 1 true (95, [(0, am_pv 65), (1, am_iv x1), (2, am_iv x5), (3, am_iv x3), (4, am_iv x4), (5, am_iv x5), (6, am_iv x6), (7, am_iv s0)], [], am_SH, (J, K, am_RF b)) = some (true, .inl (96, [(0, am_pv 65), (1, am_iv x1), (2, am_iv x5), (3, am_iv x3), (4, am_iv x4), (5, am_iv x5), (6, am_iv x6), (7, am_iv s0)], [am_iv x3], am_SH, (J, K, am_RF b))) from rfl) rfl ?_
    refine am_r_eq (σ' := (96, [(0, am_pv 65), (1, am_iv x1), (2, am_iv x5), (4, am_iv x4), (5, am_iv x5), (6, am_iv x6), (7, am_iv s0)], [am_iv x3], am_SH, (J, K, am_RF b))) rfl ?_
    exact s_UpRiverModel_start_L96 hk30 _ _ _ _ _ _ _ _ _ h
  · rw [if_neg c2377] at h
    refine am_r_f (show am_stepn X T_UpRiverModel_start 5 true (80, [(0, am_pv 65), (1, am_iv x1), (3, am_iv x3), (4, am_iv x4), (5, am_iv x5), (6, am_iv x6)], [am_iv s0], am_SH, (J, K, am_RF b)) = some ((decide (am_i32 s0) && true), .inl (bif am_cb .eq s0 0 then 95 else 90, [(0, am_pv 65), (1, am_iv x1), (2, am_iv x5), (3, am_iv x3), (4, am_iv x4), (5, am_iv x5), (6, am_iv x6), (7, am_iv s0)], [], am_SH, (J, K, am_RF b))) from rfl) (am_g1 g2376 rfl) (decide_eq_false c2377) ?_
    refine am_r_go (show am_stepn X T_UpRiverModel_start 2 true (90, [(0, am_pv 65), (1, am_iv x1), (2, am_iv x5), (3, am_iv x3), (4, am_iv x4), (5, am_iv x5), (6, am_iv x6), (7, am_iv s0)], [], am_SH, (J, K, am_RF b)) = some (true, .inl (96, [(0, am_pv 65), (1, am_iv x1), (2, am_iv x5), (4, am_iv x4), (5, am_iv x5), (6, am_iv x6), (7, am_iv s0)], [am_iv x5], am_SH, (J, K, am_RF b))) from rfl) rfl ?_
    exact s_UpRiverModel_start_L96 hk30 _ _ _ _ _ _ _ _ _ h
theorem s_UpRiverModel_start_L30 {X : am_X} {b : Bool} {K : am_K}  : ∀ (n : Nat) (x1 : Int) (x2 : Int) (x3 : Int) (x4 : Int) (x5 : Int) (J : am_J) (r : Int × am_J), f_UpRiverModel_start_L30   n x1 x2 x3 x4 x5 J = some r → am_runs X T_UpRiverModel_start (30, [(0, am_pv 65), (1, am_iv x1), (2, am_iv x2), (3, am_iv x3), (4, am_iv x4), (5, am_iv x5)], [], am_SH, (J, K, am_RF b)) (some (am_iv r.1), am_SH, (r.2, K, am_RF b)) := by
  intro n
  induction n with
  | zero =>
    intro x1 x2 x3 x4 x5 J r h
    cases h
  | succ n ih =>
    intro x1 x2 x3 x4 x5 J r h
    rw [f_UpRiverModel_start_L30.eq_2] at h
    obtain ⟨g2378, h⟩ := am_if_some h
    by_cases c2379 : 300 < x5
    · rw [if_pos c2379] at h
      refine am_r_t (show am_stepn X T_UpRiverModel_start 3 true (30, [(0, am_pv 65), (1, am_iv x1), (2, am_iv x2), (3, am_iv x3), (4, am_iv x4), (5, am_iv x5)], [], am_SH, (J, K, am_RF b)) = some (((decide (am_i32 300) && decide (am_i32 x5)) && true), .inl (bif am_cb .gt x5 300 then 120 else 38, [(0, am_pv 65), (1, am_iv x1), (2, am_iv x2), (3, am_iv x3), (4, am_iv x4), (5, am_iv x5)], [], am_SH, (J, K, am_RF b))) from rfl) (am_g2 (by decide) g2378 rfl) (decide_eq_true c2379) ?_
      obtain ⟨g2380, h⟩ := am_if_some h
      by_cases c2381 : x2 = (-4)
      · rw [if_pos c2381] at h
        refine am_r_f (show am_stepn X T_UpRiverModel_start 3 true (120, [(0, am_pv 65), (1, am_iv x1), (2, am_iv x2), (3, am_iv x3), (4, am_iv x4), (5, am_iv x5)], [], am_SH, (J, K, am_RF b)) = some (((decide (am_i32 (-4)) && decide (am_i32 x2)) && true), .inl (bif am_cb .ne x2 (-4) then 131 else 126, [(1, am_iv x1), (2, am_iv x2), (3, am_iv x3), (4, am_iv x4)], [], am_SH, (J, K, am_RF b))) from rfl) (am_g2 (by decide) g2380 rfl) (am_nd_t c2381) ?_
        obtain rfl := Option.some.inj h
        exact am_r_ret (show am_stepn X T_UpRiverModel_start 3 true (126, [(1, am_iv x1), (2, am_iv x2), (3, am_iv x3), (4, am_iv x4)], [], am_SH, (J, K, am_RF b)) = some (true, .inr (.inr (some (am_iv (-4)), am_SH, (J, K, am_RF b)))) from rfl) rfl
      · rw [if_neg c2381] at h
        refine am_r_t (show am_stepn X T_UpRiverModel_start 3 true (120, [(0, am_pv 65), (1, am_iv x1), (2, am_iv x2), (3, am_iv x3), (4, am_iv x4), (5, am_iv x5)], [], am_SH, (J, K, am_RF b)) = some (((decide (am_i32 (-4)) && decide (am_i32 x2)) && true), .inl (bif am_cb .ne x2 (-4) then 131 else 126, [(1, am_iv x1), (2, am_iv x2), (3, am_iv x3), (4, am_iv x4)], [], am_SH, (J, K, am_RF b))) from rfl) (am_g2 (by decide) g2380 rfl) (am_nd_f c2381) ?_
        obtain ⟨g2382, h⟩ := am_if_some h
        by_cases c2383 : x1 = 0
        · rw [if_pos c2383] at h
          refine am_r_f (show am_stepn X T_UpRiverModel_start 2 true (131, [(1, am_iv x1), (2, am_iv x2), (3, am_iv x3), (4, am_iv x4)], [], am_SH, (J, K, am_RF b)) = some ((decide (am_i32 x1) && true), .inl (bif am_cb .ne x1 0 then 139 else 135, [(1, am_iv x1), (2, am_iv x2), (3, am_iv x3), (4, am_iv x4)], [], am_SH, (J, K, am_RF b))) from rfl) (am_g1 g2382 rfl) (am_nd_t c2383) ?_
          obtain rfl := Option.some.inj h
          exact am_r_ret (show am_stepn X T_UpRiverModel_start 3 true (135, [(1, am_iv x1), (2, am_iv x2), (3, am_iv x3), (4, am_iv x4)], [], am_SH, (J, K, am_RF b)) = some (true, .inr (.inr (some (am_iv x2), am_SH, (J, K, am_RF b)))) from rfl) rfl
        · rw [if_neg c2383] at h
          refine am_r_t (show am_stepn X T_UpRiverModel_start 2 true (131, [(1, am_iv x1), (2, am_iv x2), (3, am_iv x3), (4, am_iv x4)], [], am_SH, (J, K, am_RF b)) = some ((decide (am_i32 x1) && true), .inl (bif am_cb .ne x1 0 then 139 else 135, [(1, am_iv x1), (2, am_iv x2), (3, am_iv x3), (4, am_iv x4)], [], am_SH, (J, K, am_RF b))) from rfl) (am_g1 g2382 rfl) (am_nd_f c2383) ?_
          by_cases c2384 : x1 = 1
          · rw [if_pos c2384] at h
            refine am_r_f (show am_stepn X T_UpRiverModel_start 3 true (139, [(1, am_iv x1), (2, am_iv x2), (3, am_iv x3), (4, am_iv x4)], [], am_SH, (J, K, am_RF b)) = some (((decide (am_i32 1) && decide (am_i32 x1)) && true), .inl (bif am_cb .ne x1 1 then 148 else 144, [(1, am_iv x1), (3, am_iv x3), (4, am_iv x4)], [], am_SH, (J, K, am_RF b))) from rfl) (am_g2 (by decide) g2382 rfl) (am_nd_t c2384) ?_
            obtain rfl := Option.some.inj h
            exact am_r_ret (show am_stepn X T_UpRiverModel_start 3 true (144, [(1, am_iv x1), (3, am_iv x3), (4, am_iv x4)], [], am_SH, (J, K, am_RF b)) = some (true, .inr (.inr (some (am_iv x3), am_SH, (J, K, am_RF b)))) from rfl) rfl
          · rw [if_neg c2384] at h
            refine am_r_t (show am_stepn X T_UpRiverModel_start 3 true (139, [(1, am_iv x1), (2, am_iv x2), (3, am_iv x3), (4, am_iv x4)], [], am_SH, (J, K, am_RF b)) = some (((decide (am_i32 1) && decide (am_i32 x1)) && true), .inl (bif am_cb .ne x1 1 then 148 else 144, [(1, am_iv x1), (3, am_iv x3), (4, am_iv x4)], [], am_SH, (J, K, am_RF b))) from rfl) (am_g2 (by decide) g2382 rfl) (am_nd_f c2384) ?_
            obtain rfl := Option.some.inj h
            exact am_r_ret (show am_stepn X T_UpRiverModel_start 2 true (148, [(1, am_iv x1), (3, am_iv x3), (4, am_iv x4)], [], am_SH, (J, K, am_RF b)) = some (true, .inr (.inr (some (am_iv x4), am_SH, (J, K, am_RF b)))) from rfl) rfl
    · rw [if_neg c2379] at h
      refine am_r_f (show am_stepn X T_UpRiverModel_start 3 true (30, [(0, am_pv 65), (1, am_iv x1), (2, am_iv x2), (3, am_iv x3), (4, am_iv x4), (5, am_iv x5)], [], am_SH, (J, K, am_RF b)) = some (((decide (am_i32 300) && decide (am_i32 x5)) && true), .inl (bif am_cb .gt x5 300 then 120 else 38, [(0, am_pv 65), (1, am_iv x1), (2, am_iv x2), (3, am_iv x3), (4, am_iv x4), (5, am_iv x5)], [], am_SH, (J, K, am_RF b))) from rfl) (am_g2 (by decide) g2378 rfl) (decide_eq_false c2379) ?_
      obtain ⟨g2385, h⟩ := am_if_some h
      obtain ⟨g2386, h⟩ := am_if_some h
      obtain ⟨g2387, h⟩ := am_if_some h
      by_cases c2388 : (J 66 6) < (J 74 x5.toNat)
      · rw [if_pos c2388] at h
        refine am_r_t (show am_stepn X T_UpRiverModel_start 11 true (38, [(0, am_pv 65), (1, am_iv x1), (2, am_iv x2), (3, am_iv x3), (4, am_iv x4), (5, am_iv x5)], [], am_SH, (J, K, am_RF b)) = some (((decide (am_i32 (J 66 6)) && decide (am_i32 (J 74 x5.toNat))) && (am_in 6 295 && (am_in x5 301 && true))), .inl (bif am_cb .gt (J 74 x5.toNat) (J 66 6) then 114 else 59, [(0, am_pv 65), (1, am_iv x1), (2, am_iv x2), (3, am_iv x3), (4, am_iv x4), (5, am_iv x5), (6, am_iv (J 74 x5.toNat))], [], am_SH, (J, K, am_RF b))) from rfl) (am_g2 g2386 g2387 (am_gi (by decide) (am_gi g2385 rfl))) (decide_eq_true c2388) ?_
        refine am_r_go (show am_stepn X T_UpRiverModel_start 2 true (114, [(0, am_pv 65), (1, am_iv x1), (2, am_iv x2), (3, am_iv x3), (4, am_iv x4), (5, am_iv x5), (6, am_iv (J 74 x5.toNat))], [], am_SH, (J, K, am_RF b)) = some (true, .inl (30, [(0, am_pv 65), (1, am_iv x1), (2, am_iv x2), (3, am_iv x3), (4, am_iv x4), (5, am_iv (x5 + 1))], [], am_SH, (J, K, am_RF b))) from rfl) rfl ?_
        exact ih _ _ _ _ _ _ _ h
      · rw [if_neg c2388] at h
        refine am_r_f (show am_stepn X T_UpRiverModel_start 11 true (38, [(0, am_pv 65), (1, am_iv x1), (2, am_iv x2), (3, am_iv x3), (4, am_iv x4), (5, am_iv x5)], [], am_SH, (J, K, am_RF b)) = some (((decide (am_i32 (J 66 6)) && decide (am_i32 (J 74 x5.toNat))) && (am_in 6 295 && (am_in x5 301 && true))), .inl (bif am_cb .gt (J 74 x5.toNat) (J 66 6) then 114 else 59, [(0, am_pv 65), (1, am_iv x1), (2, am_iv x2), (3, am_iv x3), (4, am_iv x4), (5, am_iv x5), (6, am_iv (J 74 x5.toNat))], [], am_SH, (J, K, am_RF b))) from rfl) (am_g2 g2386 g2387 (am_gi (by decide) (am_gi g2385 rfl))) (decide_eq_false c2388) ?_
        obtain ⟨g2389, h⟩ := am_if_some h
        by_cases c2390 : x3 = (-4)
        · rw [if_pos c2390] at h
          refine am_r_t (show am_stepn X T_UpRiverModel_start 3 true (59, [(0, am_pv 65), (1, am_iv x1), (2, am_iv x2), (3, am_iv x3), (4, am_iv x4), (5, am_iv x5), (6, am_iv (J 74 x5.toNat))], [], am_SH, (J, K, am_RF b)) = some (((decide (am_i32 (-4)) && decide (am_i32 x3)) && true), .inl (bif am_cb .eq x3 (-4) then 75 else 65, [(0, am_pv 65), (1, am_iv x1), (3, am_iv x3), (4, am_iv x4), (5, am_iv x5), (6, am_iv (J 74 x5.toNat))], [], am_SH, (J, K, am_RF b))) from rfl) (am_g2 (by decide) g2389 rfl) (decide_eq_true c2390) ?_
          refine am_r_go (show am_stepn X T_UpRiverModel_start 2 true (75, [(0, am_pv 65), (1, am_iv x1), (3, am_iv x3), (4, am_iv x4), (5, am_iv x5), (6, am_iv (J 74 x5.toNat))], [], am_SH, (J, K, am_RF b)) = some (true, .inl (80, [(0, am_pv 65), (1, am_iv x1), (3, am_iv x3), (4, am_iv x4), (5, am_iv x5), (6, am_iv (J 74 x5.toNat))], [am_iv 1], am_SH, (J, K, am_RF b))) from rfl) rfl ?_
          exact s_UpRiverModel_start_L80 ih _ _ _ _ _ _ _ _ h
        · rw [if_neg c2390] at h
          refine am_r_f (show am_stepn X T_UpRiverModel_start 3 true (59, [(0, am_pv 65), (1, am_iv x1), (2, am_iv x2), (3, am_iv x3), (4, am_iv x4), (5, am_iv x5), (6, am_iv (J 74 x5.toNat))], [], am_SH, (J, K, am_RF b)) = some (((decide (am_i32 (-4)) && decide (am_i32 x3)) && true), .inl (bif am_cb .eq x3 (-4) then 75 else 65, [(0, am_pv 65), (1, am_iv x1), (3, am_iv x3), (4, am_iv x4), (5, am_iv x5), (6, am_iv (J 74 x5.toNat))], [], am_SH, (J, K, am_RF b))) from rfl) (am_g2 (by decide) g2389 rfl) (decide_eq_false c2390) ?_
          obtain ⟨g2391, h⟩ := am_if_some h
          obtain ⟨g2392, h⟩ := am_if_some h
          by_cases c2393 : ((J 74 x5.toNat) - x5) < x4
          · rw [if_pos c2393] at h
            refine am_r_f (show am_stepn X T_UpRiverModel_start 5 true (65, [(0, am_pv 65), (1, am_iv x1), (3, am_iv x3), (4, am_iv x4), (5, am_iv x5), (6, am_iv (J 74 x5.toNat))], [], am_SH, (J, K, am_RF b)) = some (((decide (am_i32 x4) && decide (am_i32 ((J 74 x5.toNat) - x5))) && true), .inl (bif am_cb .ge ((J 74 x5.toNat) - x5) x4 then 79 else 75, [(0, am_pv 65), (1, am_iv x1), (3, am_iv x3), (4, am_iv x4), (5, am_iv x5), (6, am_iv (J 74 x5.toNat))], [], am_SH, (J, K, am_RF b))) from rfl) (am_g2 g2391 g2392 rfl) (am_nd_t c2393) ?_
            refine am_r_go (show am_stepn X T_UpRiverModel_start 2 true (75, [(0, am_pv 65), (1, am_iv x1), (3, am_iv x3), (4, am_iv x4), (5, am_iv x5), (6, am_iv (J 74 x5.toNat))], [], am_SH, (J, K, am_RF b)) = some (true, .inl (80, [(0, am_pv 65), (1, am_iv x1), (3, am_iv x3), (4, am_iv x4), (5, am_iv x5), (6, am_iv (J 74 x5.toNat))], [am_iv 1], am_SH, (J, K, am_RF b))) from rfl) rfl ?_
            exact s_UpRiverModel_start_L80 ih _ _ _ _ _ _ _ _ h
          · rw [if_neg c2393] at h
            refine am_r_t (show am_stepn X T_UpRiverModel_start 5 true (65, [(0, am_pv 65), (1, am_iv x1), (3, am_iv x3), (4, am_iv x4), (5, am_iv x5), (6, am_iv (J 74 x5.toNat))], [], am_SH, (J, K, am_RF b)) = some (((decide (am_i32 x4) && decide (am_i32 ((J 74 x5.toNat) - x5))) && true), .inl (bif am_cb .ge ((J 74 x5.toNat) - x5) x4 then 79 else 75, [(0, am_pv 65), (1, am_iv x1), (3, am_iv x3), (4, am_iv x4), (5, am_iv x5), (6, am_iv (J 74 x5.toNat))], [], am_SH, (J, K, am_RF b))) from rfl) (am_g2 g2391 g2392 rfl) (am_nd_f c2393) ?_
            refine am_r_go (show am_stepn X T_UpRiverModel_start 1 true (79, [(0, am_pv 65), (1, am_iv x1), (3, am_iv x3), (4, am_iv x4), (5, am_iv x5), (6, am_iv (J 74 x5.toNat))], [], am_SH, (J, K, am_RF b)) = some (true, .inl (80, [(0, am_pv 65), (1, am_iv x1), (3, am_iv x3), (4, am_iv x4), (5, am_iv x5), (6, am_iv (J 74 x5.toNat))], [am_iv 0], am_SH, (J, K, am_RF b))) from rfl) rfl ?_
            exact s_UpRiverModel_start_L80 ih _ _ _ _ _ _ _ _ h
theorem s_UpRiverModel_start {X : am_X} {b : Bool} {K : am_K} {x1 : Int} {J : am_J} {r : Int × am_J} (h : f_UpRiverModel_start  x1 J = some r) : am_runs X T_UpRiverModel_start (0, [(0, am_pv 65), (1, am_iv x1)], [], am_SH, (J, K, am_RF b)) (some (am_iv r.1), am_SH, (r.2, K, am_RF b)) := by
  unfold f_UpRiverModel_start at h
  obtain ⟨q2394, e2395, h⟩ := am_bind_some h
  refine am_r_call (show am_stepn X T_UpRiverModel_start 5 true (0, [(0, am_pv 65), (1, am_iv x1)], [], am_SH, (J, K, am_RF b)) = some (true, .inr (.inl (150, [am_jv (am_i2l x1), am_jv (0 : Int64), am_jv (2 : Int64)], 6, 0, 0, 9, [(0, am_pv 65), (1, am_iv x1)], [], am_SH, (J, K, am_RF b)))) from rfl) rfl tb_UpRiverModel_in (s_UpRiverModel_in e2395) ?_
  obtain ⟨g2396, h⟩ := am_if_some h
  by_cases c2397 : q2394 = 0
  · rw [if_pos c2397] at h
    refine am_r_f (show am_stepn X T_UpRiverModel_start 1 true (9, [(0, am_pv 65), (1, am_iv x1)], [am_iv q2394], am_SH, (J, K, am_RF b)) = some ((decide (am_i32 q2394) && true), .inl (bif am_cb .ne q2394 0 then 14 else 12, [(0, am_pv 65), (1, am_iv x1)], [], am_SH, (J, K, am_RF b))) from rfl) (am_g1 g2396 rfl) (am_nd_t c2397) ?_
    obtain rfl := Option.some.inj h
    exact am_r_ret (show am_stepn X T_UpRiverModel_start 2 true (12, [(0, am_pv 65), (1, am_iv x1)], [], am_SH, (J, K, am_RF b)) = some (true, .inr (.inr (some (am_iv (-1)), am_SH, (J, K, am_RF b)))) from rfl) rfl
  · rw [if_neg c2397] at h
    refine am_r_t (show am_stepn X T_UpRiverModel_start 1 true (9, [(0, am_pv 65), (1, am_iv x1)], [am_iv q2394], am_SH, (J, K, am_RF b)) = some ((decide (am_i32 q2394) && true), .inl (bif am_cb .ne q2394 0 then 14 else 12, [(0, am_pv 65), (1, am_iv x1)], [], am_SH, (J, K, am_RF b))) from rfl) (am_g1 g2396 rfl) (am_nd_f c2397) ?_
    obtain ⟨q2398, e2399, h⟩ := am_bind_some h
    refine am_r_call (show am_stepn X T_UpRiverModel_start 2 true (14, [(0, am_pv 65), (1, am_iv x1)], [], am_SH, (J, K, am_RF b)) = some (true, .inr (.inl (213, [am_pv 65], 4, 0, 0, 18, [(0, am_pv 65), (1, am_iv x1)], [], am_SH, (J, K, am_RF b)))) from rfl) rfl tb_UpRiverModel_layStarts (s_UpRiverModel_layStarts e2399) ?_
    refine am_r_go (show am_stepn X T_UpRiverModel_start 8 true (18, [(0, am_pv 65), (1, am_iv x1)], [], am_SH, (q2398, K, am_RF b)) = some (true, .inl (30, [(0, am_pv 65), (1, am_iv x1), (2, am_iv (-4)), (3, am_iv (-4)), (4, am_iv 0), (5, am_iv 0)], [], am_SH, (q2398, K, am_RF b))) from rfl) rfl ?_
    exact s_UpRiverModel_start_L30  _ _ _ _ _ _ _ _ h
theorem s_UpRiverModel_days_L112 {X : am_X} {b : Bool} {K : am_K} {kb46 : Int → Int → Int → Int → Int → Int → am_J → Option (Int × am_J)} (hk46 : ∀ (x1 : Int) (x2 : Int) (x3 : Int) (x4 : Int) (x5 : Int) (x6 : Int) (J : am_J) (r : Int × am_J), kb46 x1 x2 x3 x4 x5 x6 J = some r → am_runs X T_UpRiverModel_days (46, [(0, am_pv 65), (1, am_iv x1), (2, am_iv x2), (3, am_iv x3), (4, am_iv x4), (5, am_iv x5), (6, am_iv x6)], [], am_SH, (J, K, am_RF b)) (some (am_iv r.1), am_SH, (r.2, K, am_RF b))) : ∀ (x1 : Int) (x2 : Int) (x3 : Int) (x4 : Int) (x6 : Int) (x8 : Int) (s0 : Int) (J : am_J) (r : Int × am_J), f_UpRiverModel_days_L112  kb46  x1 x2 x3 x4 x6 x8 s0 J = some r → am_runs X T_UpRiverModel_days (112, [(0, am_pv 65), (1, am_iv x1), (2, am_iv x2), (3, am_iv x3), (4, am_iv x4), (6, am_iv x6), (8, am_iv x8)], [am_iv s0], am_SH, (J, K, am_RF b)) (some (am_iv r.1), am_SH, (r.2, K, am_RF b)) := by
  intro x1 x2 x3 x4 x6 x8 s0 J r h
  unfold f_UpRiverModel_days_L112 at h
  obtain ⟨q2400, e2401, h⟩ := am_bind_some h
  refine am_r_call (show am_stepn X T_UpRiverModel_days 4 true (112, [(0, am_pv 65), (1, am_iv x1), (2, am_iv x2), (3, am_iv x3), (4, am_iv x4), (6, am_iv x6), (8, am_iv x8)], [am_iv s0], am_SH, (J, K, am_RF b)) = some (true, .inr (.inl (195, [am_iv x8], 1, 0, 0, 121, [(0, am_pv 65), (1, am_iv x1), (2, am_iv x2), (3, am_iv x3), (4, am_iv x4), (5, am_iv s0), (6, am_iv x6), (8, am_iv x8)], [am_iv x4], am_SH, (J, K, am_RF b)))) from rfl) rfl tb_UpRiverModel_flag (s_UpRiverModel_flag e2401) ?_
  refine am_r_go (show am_stepn X T_UpRiverModel_days 4 true (121, [(0, am_pv 65), (1, am_iv x1), (2, am_iv x2), (3, am_iv x3), (4, am_iv x4), (5, am_iv s0), (6, am_iv x6), (8, am_iv x8)], [am_iv q2400, am_iv x4], am_SH, (J, K, am_RF b)) = some (true, .inl (46, [(0, am_pv 65), (1, am_iv x1), (2, am_iv x2), (3, am_iv x3), (4, am_iv (x4 + q2400)), (5, am_iv s0), (6, am_iv (x6 + 1)), (8, am_iv x8)], [], am_SH, (J, K, am_RF b))) from rfl) rfl ?_
  refine am_r_eq (σ' := (46, [(0, am_pv 65), (1, am_iv x1), (2, am_iv x2), (3, am_iv x3), (4, am_iv (x4 + q2400)), (5, am_iv s0), (6, am_iv (x6 + 1))], [], am_SH, (J, K, am_RF b))) rfl ?_
  exact hk46 _ _ _ _ _ _ _ _ h
theorem s_UpRiverModel_days_L91 {X : am_X} {b : Bool} {K : am_K} {kb46 : Int → Int → Int → Int → Int → Int → am_J → Option (Int × am_J)} (hk46 : ∀ (x1 : Int) (x2 : Int) (x3 : Int) (x4 : Int) (x5 : Int) (x6 : Int) (J : am_J) (r : Int × am_J), kb46 x1 x2 x3 x4 x5 x6 J = some r → am_runs X T_UpRiverModel_days (46, [(0, am_pv 65), (1, am_iv x1), (2, am_iv x2), (3, am_iv x3), (4, am_iv x4), (5, am_iv x5), (6, am_iv x6)], [], am_SH, (J, K, am_RF b)) (some (am_iv r.1), am_SH, (r.2, K, am_RF b))) : ∀ (x1 : Int) (x2 : Int) (x3 : Int) (x4 : Int) (x5 : Int) (x6 : Int) (s0 : Int) (J : am_J) (r : Int × am_J), f_UpRiverModel_days_L91  kb46  x1 x2 x3 x4 x5 x6 s0 J = some r → am_runs X T_UpRiverModel_days (91, [(0, am_pv 65), (1, am_iv x1), (2, am_iv x2), (3, am_iv x3), (4, am_iv x4), (5, am_iv x5), (6, am_iv x6)], [am_iv s0], am_SH, (J, K, am_RF b)) (some (am_iv r.1), am_SH, (r.2, K, am_RF b)) := by
  intro x1 x2 x3 x4 x5 x6 s0 J r h
  unfold f_UpRiverModel_days_L91 at h
  obtain ⟨g2402, h⟩ := am_if_some h
  by_cases c2403 : s0 = 0
  · rw [if_pos c2403] at h
    refine am_r_t (show am_stepn X T_UpRiverModel_days 3 true (91, [(0, am_pv 65), (1, am_iv x1), (2, am_iv x2), (3, am_iv x3), (4, am_iv x4), (5, am_iv x5), (6, am_iv x6)], [am_iv s0], am_SH, (J, K, am_RF b)) = some ((decide (am_i32 s0) && true), .inl (bif am_cb .eq s0 0 then 110 else 98, [(0, am_pv 65), (1, am_iv x1), (2, am_iv x2), (3, am_iv x3), (4, am_iv x4), (5, am_iv x5), (6, am_iv x6), (8, am_iv s0)], [], am_SH, (J, K, am_RF b))) from rfl) (am_g1 g2402 rfl) (decide_eq_true c2403) ?_
    refine am_r_go (show am_stepn X T_UpRiverModel_days 1 true (110, [(0, am_pv 65), (1, am_iv x1), (2, am_iv x2), (3, am_iv x3), (4, am_iv x4), (5, am_iv x5), (6, am_iv x6), (8, am_iv s0)], [], am_SH, (J, K, am_RF b)) = some (true, .inl (112, [(0, am_pv 65), (1, am_iv x1), (2, am_iv x2), (3, am_iv x3), (4, am_iv x4), (5, am_iv x5), (6, am_iv x6), (8, am_iv s0)], [am_iv x5], am_SH, (J, K, am_RF b))) from rfl) rfl ?_
    refine am_r_eq (σ' := (112, [(0, am_pv 65), (1, am_iv x1), (2, am_iv x2), (3, am_iv x3), (4, am_iv x4), (6, am_iv x6), (8, am_iv s0)], [am_iv x5], am_SH, (J, K, am_RF b))) rfl ?_
    exact s_UpRiverModel_days_L112 hk46 _ _ _ _ _ _ _ _ _ h
  · rw [if_neg c2403] at h
    refine am_r_f (show am_stepn X T_UpRiverModel_days 3 true (91, [(0, am_pv 65), (1, am_iv x1), (2, am_iv x2), (3, am_iv x3), (4, am_iv x4), (5, am_iv x5), (6, am_iv x6)], [am_iv s0], am_SH, (J, K, am_RF b)) = some ((decide (am_i32 s0) && true), .inl (bif am_cb .eq s0 0 then 110 else 98, [(0, am_pv 65), (1, am_iv x1), (2, am_iv x2), (3, am_iv x3), (4, am_iv x4), (5, am_iv x5), (6, am_iv x6), (8, am_iv s0)], [], am_SH, (J, K, am_RF b))) from rfl) (am_g1 g2402 rfl) (decide_eq_false c2403) ?_
    obtain ⟨g2404, h⟩ := am_if_some h
    by_cases c2405 : x5 = (-4)
    · rw [if_pos c2405] at h
      refine am_r_f (show am_stepn X T_UpRiverModel_days 3 true (98, [(0, am_pv 65), (1, am_iv x1), (2, am_iv x2), (3, am_iv x3), (4, am_iv x4), (5, am_iv x5), (6, am_iv x6), (8, am_iv s0)], [], am_SH, (J, K, am_RF b)) = some (((decide (am_i32 (-4)) && decide (am_i32 x5)) && true), .inl (bif am_cb .ne x5 (-4) then 110 else 105, [(0, am_pv 65), (1, am_iv x1), (2, am_iv x2), (3, am_iv x3), (4, am_iv x4), (5, am_iv x5), (6, am_iv x6), (8, am_iv s0)], [], am_SH, (J, K, am_RF b))) from rfl) (am_g2 (by decide) g2404 rfl) (am_nd_t c2405) ?_
      refine am_r_go (show am_stepn X T_UpRiverModel_days 2 true (105, [(0, am_pv 65), (1, am_iv x1), (2, am_iv x2), (3, am_iv x3), (4, am_iv x4), (5, am_iv x5), (6, am_iv x6), (8, am_iv s0)], [], am_SH, (J, K, am_RF b)) = some (true, .inl (112, [(0, am_pv 65), (1, am_iv x1), (2, am_iv x2), (3, am_iv x3), (4, am_iv x4), (6, am_iv x6), (8, am_iv s0)], [am_iv x6], am_SH, (J, K, am_RF b))) from rfl) rfl ?_
      exact s_UpRiverModel_days_L112 hk46 _ _ _ _ _ _ _ _ _ h
    · rw [if_neg c2405] at h
      refine am_r_t (show am_stepn X T_UpRiverModel_days 3 true (98, [(0, am_pv 65), (1, am_iv x1), (2, am_iv x2), (3, am_iv x3), (4, am_iv x4), (5, am_iv x5), (6, am_iv x6), (8, am_iv s0)], [], am_SH, (J, K, am_RF b)) = some (((decide (am_i32 (-4)) && decide (am_i32 x5)) && true), .inl (bif am_cb .ne x5 (-4) then 110 else 105, [(0, am_pv 65), (1, am_iv x1), (2, am_iv x2), (3, am_iv x3), (4, am_iv x4), (5, am_iv x5), (6, am_iv x6), (8, am_iv s0)], [], am_SH, (J, K, am_RF b))) from rfl) (am_g2 (by decide) g2404 rfl) (am_nd_f c2405) ?_
      refine am_r_go (show am_stepn X T_UpRiverModel_days 1 true (110, [(0, am_pv 65), (1, am_iv x1), (2, am_iv x2), (3, am_iv x3), (4, am_iv x4), (5, am_iv x5), (6, am_iv x6), (8, am_iv s0)], [], am_SH, (J, K, am_RF b)) = some (true, .inl (112, [(0, am_pv 65), (1, am_iv x1), (2, am_iv x2), (3, am_iv x3), (4, am_iv x4), (5, am_iv x5), (6, am_iv x6), (8, am_iv s0)], [am_iv x5], am_SH, (J, K, am_RF b))) from rfl) rfl ?_
      refine am_r_eq (σ' := (112, [(0, am_pv 65), (1, am_iv x1), (2, am_iv x2), (3, am_iv x3), (4, am_iv x4), (6, am_iv x6), (8, am_iv s0)], [am_iv x5], am_SH, (J, K, am_RF b))) rfl ?_
      exact s_UpRiverModel_days_L112 hk46 _ _ _ _ _ _ _ _ _ h
theorem s_UpRiverModel_days_L46 {X : am_X} {b : Bool} {K : am_K}  : ∀ (n : Nat) (x1 : Int) (x2 : Int) (x3 : Int) (x4 : Int) (x5 : Int) (x6 : Int) (J : am_J) (r : Int × am_J), f_UpRiverModel_days_L46   n x1 x2 x3 x4 x5 x6 J = some r → am_runs X T_UpRiverModel_days (46, [(0, am_pv 65), (1, am_iv x1), (2, am_iv x2), (3, am_iv x3), (4, am_iv x4), (5, am_iv x5), (6, am_iv x6)], [], am_SH, (J, K, am_RF b)) (some (am_iv r.1), am_SH, (r.2, K, am_RF b)) := by
  intro n
  induction n with
  | zero =>
    intro x1 x2 x3 x4 x5 x6 J r h
    cases h
  | succ n ih =>
    intro x1 x2 x3 x4 x5 x6 J r h
    rw [f_UpRiverModel_days_L46.eq_2] at h
    obtain ⟨g2406, h⟩ := am_if_some h
    obtain ⟨g2407, h⟩ := am_if_some h
    by_cases c2408 : x6 < x1
    · rw [if_pos c2408] at h
      refine am_r_f (show am_stepn X T_UpRiverModel_days 3 true (46, [(0, am_pv 65), (1, am_iv x1), (2, am_iv x2), (3, am_iv x3), (4, am_iv x4), (5, am_iv x5), (6, am_iv x6)], [], am_SH, (J, K, am_RF b)) = some (((decide (am_i32 x1) && decide (am_i32 x6)) && true), .inl (bif am_cb .ge x6 x1 then 130 else 52, [(0, am_pv 65), (1, am_iv x1), (2, am_iv x2), (3, am_iv x3), (4, am_iv x4), (5, am_iv x5), (6, am_iv x6)], [], am_SH, (J, K, am_RF b))) from rfl) (am_g2 g2406 g2407 rfl) (am_nd_t c2408) ?_
      obtain ⟨q2409, e2410, h⟩ := am_bind_some h
      refine am_r_call (show am_stepn X T_UpRiverModel_days 8 true (52, [(0, am_pv 65), (1, am_iv x1), (2, am_iv x2), (3, am_iv x3), (4, am_iv x4), (5, am_iv x5), (6, am_iv x6)], [], am_SH, (J, K, am_RF b)) = some (true, .inr (.inl (211, [am_pv 65, am_iv 0], 2, 0, 0, 65, [(0, am_pv 65), (1, am_iv x1), (2, am_iv x2), (3, am_iv x3), (4, am_iv x4), (5, am_iv x5), (6, am_iv x6)], [], am_SH, ((am_up J 65 15 (x6 * x2)), K, am_RF b)))) from rfl) rfl tb_UpRiverModel_startIn (s_UpRiverModel_startIn e2410) ?_
      obtain ⟨g2411, h⟩ := am_if_some h
      by_cases c2412 : q2409.1 = (-4)
      · rw [if_pos c2412] at h
        refine am_r_t (show am_stepn X T_UpRiverModel_days 4 true (65, [(0, am_pv 65), (1, am_iv x1), (2, am_iv x2), (3, am_iv x3), (4, am_iv x4), (5, am_iv x5), (6, am_iv x6)], [am_iv q2409.1], am_SH, (q2409.2, K, am_RF b)) = some (((decide (am_i32 (-4)) && decide (am_i32 q2409.1)) && true), .inl (bif am_cb .eq q2409.1 (-4) then 90 else 74, [(0, am_pv 65), (1, am_iv x1), (2, am_iv x2), (3, am_iv x3), (4, am_iv x4), (5, am_iv x5), (6, am_iv x6), (7, am_iv q2409.1)], [], am_SH, (q2409.2, K, am_RF b))) from rfl) (am_g2 (by decide) g2411 rfl) (decide_eq_true c2412) ?_
        refine am_r_go (show am_stepn X T_UpRiverModel_days 1 true (90, [(0, am_pv 65), (1, am_iv x1), (2, am_iv x2), (3, am_iv x3), (4, am_iv x4), (5, am_iv x5), (6, am_iv x6), (7, am_iv q2409.1)], [], am_SH, (q2409.2, K, am_RF b)) = some (true, .inl (91, [(0, am_pv 65), (1, am_iv x1), (2, am_iv x2), (3, am_iv x3), (4, am_iv x4), (5, am_iv x5), (6, am_iv x6)], [am_iv 0], am_SH, (q2409.2, K, am_RF b))) from rfl) rfl ?_
        exact s_UpRiverModel_days_L91 ih _ _ _ _ _ _ _ _ _ h
      · rw [if_neg c2412] at h
        refine am_r_f (show am_stepn X T_UpRiverModel_days 4 true (65, [(0, am_pv 65), (1, am_iv x1), (2, am_iv x2), (3, am_iv x3), (4, am_iv x4), (5, am_iv x5), (6, am_iv x6)], [am_iv q2409.1], am_SH, (q2409.2, K, am_RF b)) = some (((decide (am_i32 (-4)) && decide (am_i32 q2409.1)) && true), .inl (bif am_cb .eq q2409.1 (-4) then 90 else 74, [(0, am_pv 65), (1, am_iv x1), (2, am_iv x2), (3, am_iv x3), (4, am_iv x4), (5, am_iv x5), (6, am_iv x6), (7, am_iv q2409.1)], [], am_SH, (q2409.2, K, am_RF b))) from rfl) (am_g2 (by decide) g2411 rfl) (decide_eq_false c2412) ?_
        obtain ⟨g2413, h⟩ := am_if_some h
        by_cases c2414 : (q2409.2 66 6) < q2409.1
        · rw [if_pos c2414] at h
          refine am_r_t (show am_stepn X T_UpRiverModel_days 6 true (74, [(0, am_pv 65), (1, am_iv x1), (2, am_iv x2), (3, am_iv x3), (4, am_iv x4), (5, am_iv x5), (6, am_iv x6), (7, am_iv q2409.1)], [], am_SH, (q2409.2, K, am_RF b)) = some (((decide (am_i32 (q2409.2 66 6)) && decide (am_i32 q2409.1)) && (am_in 6 295 && true)), .inl (bif am_cb .gt q2409.1 (q2409.2 66 6) then 90 else 86, [(0, am_pv 65), (1, am_iv x1), (2, am_iv x2), (3, am_iv x3), (4, am_iv x4), (5, am_iv x5), (6, am_iv x6), (7, am_iv q2409.1)], [], am_SH, (q2409.2, K, am_RF b))) from rfl) (am_g2 g2413 g2411 (am_gi (by decide) rfl)) (decide_eq_true c2414) ?_
          refine am_r_go (show am_stepn X T_UpRiverModel_days 1 true (90, [(0, am_pv 65), (1, am_iv x1), (2, am_iv x2), (3, am_iv x3), (4, am_iv x4), (5, am_iv x5), (6, am_iv x6), (7, am_iv q2409.1)], [], am_SH, (q2409.2, K, am_RF b)) = some (true, .inl (91, [(0, am_pv 65), (1, am_iv x1), (2, am_iv x2), (3, am_iv x3), (4, am_iv x4), (5, am_iv x5), (6, am_iv x6)], [am_iv 0], am_SH, (q2409.2, K, am_RF b))) from rfl) rfl ?_
          exact s_UpRiverModel_days_L91 ih _ _ _ _ _ _ _ _ _ h
        · rw [if_neg c2414] at h
          refine am_r_f (show am_stepn X T_UpRiverModel_days 6 true (74, [(0, am_pv 65), (1, am_iv x1), (2, am_iv x2), (3, am_iv x3), (4, am_iv x4), (5, am_iv x5), (6, am_iv x6), (7, am_iv q2409.1)], [], am_SH, (q2409.2, K, am_RF b)) = some (((decide (am_i32 (q2409.2 66 6)) && decide (am_i32 q2409.1)) && (am_in 6 295 && true)), .inl (bif am_cb .gt q2409.1 (q2409.2 66 6) then 90 else 86, [(0, am_pv 65), (1, am_iv x1), (2, am_iv x2), (3, am_iv x3), (4, am_iv x4), (5, am_iv x5), (6, am_iv x6), (7, am_iv q2409.1)], [], am_SH, (q2409.2, K, am_RF b))) from rfl) (am_g2 g2413 g2411 (am_gi (by decide) rfl)) (decide_eq_false c2414) ?_
          refine am_r_go (show am_stepn X T_UpRiverModel_days 2 true (86, [(0, am_pv 65), (1, am_iv x1), (2, am_iv x2), (3, am_iv x3), (4, am_iv x4), (5, am_iv x5), (6, am_iv x6), (7, am_iv q2409.1)], [], am_SH, (q2409.2, K, am_RF b)) = some (true, .inl (91, [(0, am_pv 65), (1, am_iv x1), (2, am_iv x2), (3, am_iv x3), (4, am_iv x4), (5, am_iv x5), (6, am_iv x6)], [am_iv 1], am_SH, (q2409.2, K, am_RF b))) from rfl) rfl ?_
          exact s_UpRiverModel_days_L91 ih _ _ _ _ _ _ _ _ _ h
    · rw [if_neg c2408] at h
      refine am_r_t (show am_stepn X T_UpRiverModel_days 3 true (46, [(0, am_pv 65), (1, am_iv x1), (2, am_iv x2), (3, am_iv x3), (4, am_iv x4), (5, am_iv x5), (6, am_iv x6)], [], am_SH, (J, K, am_RF b)) = some (((decide (am_i32 x1) && decide (am_i32 x6)) && true), .inl (bif am_cb .ge x6 x1 then 130 else 52, [(0, am_pv 65), (1, am_iv x1), (2, am_iv x2), (3, am_iv x3), (4, am_iv x4), (5, am_iv x5), (6, am_iv x6)], [], am_SH, (J, K, am_RF b))) from rfl) (am_g2 g2406 g2407 rfl) (am_nd_f c2408) ?_
      obtain ⟨g2415, h⟩ := am_if_some h
      by_cases c2416 : x3 = 0
      · rw [if_pos c2416] at h
        refine am_r_f (show am_stepn X T_UpRiverModel_days 5 true (130, [(0, am_pv 65), (1, am_iv x1), (2, am_iv x2), (3, am_iv x3), (4, am_iv x4), (5, am_iv x5), (6, am_iv x6)], [], am_SH, (J, K, am_RF b)) = some ((decide (am_i32 x3) && true), .inl (bif am_cb .ne x3 0 then 144 else 139, [(0, am_pv 65), (3, am_iv x3), (4, am_iv x4), (5, am_iv x5)], [], am_SH, ((am_up J 65 15 0), K, am_RF b))) from rfl) (am_g1 g2415 rfl) (am_nd_t c2416) ?_
        obtain rfl := Option.some.inj h
        exact am_r_ret (show am_stepn X T_UpRiverModel_days 3 true (139, [(0, am_pv 65), (3, am_iv x3), (4, am_iv x4), (5, am_iv x5)], [], am_SH, ((am_up J 65 15 0), K, am_RF b)) = some (true, .inr (.inr (some (am_iv x4), am_SH, ((am_up J 65 15 0), K, am_RF b)))) from rfl) rfl
      · rw [if_neg c2416] at h
        refine am_r_t (show am_stepn X T_UpRiverModel_days 5 true (130, [(0, am_pv 65), (1, am_iv x1), (2, am_iv x2), (3, am_iv x3), (4, am_iv x4), (5, am_iv x5), (6, am_iv x6)], [], am_SH, (J, K, am_RF b)) = some ((decide (am_i32 x3) && true), .inl (bif am_cb .ne x3 0 then 144 else 139, [(0, am_pv 65), (3, am_iv x3), (4, am_iv x4), (5, am_iv x5)], [], am_SH, ((am_up J 65 15 0), K, am_RF b))) from rfl) (am_g1 g2415 rfl) (am_nd_f c2416) ?_
        obtain rfl := Option.some.inj h
        exact am_r_ret (show am_stepn X T_UpRiverModel_days 2 true (144, [(0, am_pv 65), (3, am_iv x3), (4, am_iv x4), (5, am_iv x5)], [], am_SH, ((am_up J 65 15 0), K, am_RF b)) = some (true, .inr (.inr (some (am_iv x5), am_SH, ((am_up J 65 15 0), K, am_RF b)))) from rfl) rfl
theorem s_UpRiverModel_days {X : am_X} {b : Bool} {K : am_K} {x1 : Int} {x2 : Int} {x3 : Int} {J : am_J} {r : Int × am_J} (h : f_UpRiverModel_days  x1 x2 x3 J = some r) : am_runs X T_UpRiverModel_days (0, [(0, am_pv 65), (1, am_iv x1), (2, am_iv x2), (3, am_iv x3)], [], am_SH, (J, K, am_RF b)) (some (am_iv r.1), am_SH, (r.2, K, am_RF b)) := by
  unfold f_UpRiverModel_days at h
  obtain ⟨q2417, e2418, h⟩ := am_bind_some h
  refine am_r_call (show am_stepn X T_UpRiverModel_days 5 true (0, [(0, am_pv 65), (1, am_iv x1), (2, am_iv x2), (3, am_iv x3)], [], am_SH, (J, K, am_RF b)) = some (true, .inr (.inl (150, [am_jv (am_i2l x1), am_jv (1 : Int64), am_jv (14 : Int64)], 6, 0, 0, 9, [(0, am_pv 65), (1, am_iv x1), (2, am_iv x2), (3, am_iv x3)], [], am_SH, (J, K, am_RF b)))) from rfl) rfl tb_UpRiverModel_in (s_UpRiverModel_in e2418) ?_
  obtain ⟨g2419, h⟩ := am_if_some h
  by_cases c2420 : q2417 = 0
  · rw [if_pos c2420] at h
    refine am_r_t (show am_stepn X T_UpRiverModel_days 1 true (9, [(0, am_pv 65), (1, am_iv x1), (2, am_iv x2), (3, am_iv x3)], [am_iv q2417], am_SH, (J, K, am_RF b)) = some ((decide (am_i32 q2417) && true), .inl (bif am_cb .eq q2417 0 then 34 else 12, [(0, am_pv 65), (1, am_iv x1), (2, am_iv x2), (3, am_iv x3)], [], am_SH, (J, K, am_RF b))) from rfl) (am_g1 g2419 rfl) (decide_eq_true c2420) ?_
    obtain rfl := Option.some.inj h
    exact am_r_ret (show am_stepn X T_UpRiverModel_days 2 true (34, [(0, am_pv 65), (1, am_iv x1), (2, am_iv x2), (3, am_iv x3)], [], am_SH, (J, K, am_RF b)) = some (true, .inr (.inr (some (am_iv (-1)), am_SH, (J, K, am_RF b)))) from rfl) rfl
  · rw [if_neg c2420] at h
    refine am_r_f (show am_stepn X T_UpRiverModel_days 1 true (9, [(0, am_pv 65), (1, am_iv x1), (2, am_iv x2), (3, am_iv x3)], [am_iv q2417], am_SH, (J, K, am_RF b)) = some ((decide (am_i32 q2417) && true), .inl (bif am_cb .eq q2417 0 then 34 else 12, [(0, am_pv 65), (1, am_iv x1), (2, am_iv x2), (3, am_iv x3)], [], am_SH, (J, K, am_RF b))) from rfl) (am_g1 g2419 rfl) (decide_eq_false c2420) ?_
    obtain ⟨q2421, e2422, h⟩ := am_bind_some h
    refine am_r_call (show am_stepn X T_UpRiverModel_days 5 true (12, [(0, am_pv 65), (1, am_iv x1), (2, am_iv x2), (3, am_iv x3)], [], am_SH, (J, K, am_RF b)) = some (true, .inr (.inl (150, [am_jv (am_i2l x2), am_jv (0 : Int64), am_jv (99 : Int64)], 6, 0, 0, 21, [(0, am_pv 65), (1, am_iv x1), (2, am_iv x2), (3, am_iv x3)], [], am_SH, (J, K, am_RF b)))) from rfl) rfl tb_UpRiverModel_in (s_UpRiverModel_in e2422) ?_
    obtain ⟨g2423, h⟩ := am_if_some h
    by_cases c2424 : q2421 = 0
    · rw [if_pos c2424] at h
      refine am_r_t (show am_stepn X T_UpRiverModel_days 1 true (21, [(0, am_pv 65), (1, am_iv x1), (2, am_iv x2), (3, am_iv x3)], [am_iv q2421], am_SH, (J, K, am_RF b)) = some ((decide (am_i32 q2421) && true), .inl (bif am_cb .eq q2421 0 then 34 else 24, [(0, am_pv 65), (1, am_iv x1), (2, am_iv x2), (3, am_iv x3)], [], am_SH, (J, K, am_RF b))) from rfl) (am_g1 g2423 rfl) (decide_eq_true c2424) ?_
      obtain rfl := Option.some.inj h
      exact am_r_ret (show am_stepn X T_UpRiverModel_days 2 true (34, [(0, am_pv 65), (1, am_iv x1), (2, am_iv x2), (3, am_iv x3)], [], am_SH, (J, K, am_RF b)) = some (true, .inr (.inr (some (am_iv (-1)), am_SH, (J, K, am_RF b)))) from rfl) rfl
    · rw [if_neg c2424] at h
      refine am_r_f (show am_stepn X T_UpRiverModel_days 1 true (21, [(0, am_pv 65), (1, am_iv x1), (2, am_iv x2), (3, am_iv x3)], [am_iv q2421], am_SH, (J, K, am_RF b)) = some ((decide (am_i32 q2421) && true), .inl (bif am_cb .eq q2421 0 then 34 else 24, [(0, am_pv 65), (1, am_iv x1), (2, am_iv x2), (3, am_iv x3)], [], am_SH, (J, K, am_RF b))) from rfl) (am_g1 g2423 rfl) (decide_eq_false c2424) ?_
      obtain ⟨q2425, e2426, h⟩ := am_bind_some h
      refine am_r_call (show am_stepn X T_UpRiverModel_days 5 true (24, [(0, am_pv 65), (1, am_iv x1), (2, am_iv x2), (3, am_iv x3)], [], am_SH, (J, K, am_RF b)) = some (true, .inr (.inl (150, [am_jv (am_i2l x3), am_jv (0 : Int64), am_jv (1 : Int64)], 6, 0, 0, 31, [(0, am_pv 65), (1, am_iv x1), (2, am_iv x2), (3, am_iv x3)], [], am_SH, (J, K, am_RF b)))) from rfl) rfl tb_UpRiverModel_in (s_UpRiverModel_in e2426) ?_
      obtain ⟨g2427, h⟩ := am_if_some h
      by_cases c2428 : q2425 = 0
      · rw [if_pos c2428] at h
        refine am_r_f (show am_stepn X T_UpRiverModel_days 1 true (31, [(0, am_pv 65), (1, am_iv x1), (2, am_iv x2), (3, am_iv x3)], [am_iv q2425], am_SH, (J, K, am_RF b)) = some ((decide (am_i32 q2425) && true), .inl (bif am_cb .ne q2425 0 then 36 else 34, [(0, am_pv 65), (1, am_iv x1), (2, am_iv x2), (3, am_iv x3)], [], am_SH, (J, K, am_RF b))) from rfl) (am_g1 g2427 rfl) (am_nd_t c2428) ?_
        obtain rfl := Option.some.inj h
        exact am_r_ret (show am_stepn X T_UpRiverModel_days 2 true (34, [(0, am_pv 65), (1, am_iv x1), (2, am_iv x2), (3, am_iv x3)], [], am_SH, (J, K, am_RF b)) = some (true, .inr (.inr (some (am_iv (-1)), am_SH, (J, K, am_RF b)))) from rfl) rfl
      · rw [if_neg c2428] at h
        refine am_r_t (show am_stepn X T_UpRiverModel_days 1 true (31, [(0, am_pv 65), (1, am_iv x1), (2, am_iv x2), (3, am_iv x3)], [am_iv q2425], am_SH, (J, K, am_RF b)) = some ((decide (am_i32 q2425) && true), .inl (bif am_cb .ne q2425 0 then 36 else 34, [(0, am_pv 65), (1, am_iv x1), (2, am_iv x2), (3, am_iv x3)], [], am_SH, (J, K, am_RF b))) from rfl) (am_g1 g2427 rfl) (am_nd_f c2428) ?_
        refine am_r_go (show am_stepn X T_UpRiverModel_days 6 true (36, [(0, am_pv 65), (1, am_iv x1), (2, am_iv x2), (3, am_iv x3)], [], am_SH, (J, K, am_RF b)) = some (true, .inl (46, [(0, am_pv 65), (1, am_iv x1), (2, am_iv x2), (3, am_iv x3), (4, am_iv 0), (5, am_iv (-4)), (6, am_iv 0)], [], am_SH, (J, K, am_RF b))) from rfl) rfl ?_
        exact s_UpRiverModel_days_L46  _ _ _ _ _ _ _ _ _ h
theorem s_UpRiverModel_isSkipper {X : am_X} {b : Bool} {J : am_J} {K : am_K} {x0 : Int} {x1 : Int} {r : Int} (h : f_UpRiverModel_isSkipper  x0 x1 = some r) : am_runs X T_UpRiverModel_isSkipper (0, [(0, am_iv x0), (1, am_iv x1)], [], am_SH, (J, K, am_RF b)) (some (am_iv r), am_SH, (J, K, am_RF b)) := by
  unfold f_UpRiverModel_isSkipper at h
  obtain ⟨q2429, e2430, h⟩ := am_bind_some h
  refine am_r_call (show am_stepn X T_UpRiverModel_isSkipper 5 true (0, [(0, am_iv x0), (1, am_iv x1)], [], am_SH, (J, K, am_RF b)) = some (true, .inr (.inl (150, [am_jv (am_i2l x0), am_jv (0 : Int64), am_jv (20 : Int64)], 6, 0, 0, 9, [(0, am_iv x0), (1, am_iv x1)], [], am_SH, (J, K, am_RF b)))) from rfl) rfl tb_UpRiverModel_in (s_UpRiverModel_in e2430) ?_
  obtain ⟨g2431, h⟩ := am_if_some h
  by_cases c2432 : q2429 = 0
  · rw [if_pos c2432] at h
    refine am_r_t (show am_stepn X T_UpRiverModel_isSkipper 1 true (9, [(0, am_iv x0), (1, am_iv x1)], [am_iv q2429], am_SH, (J, K, am_RF b)) = some ((decide (am_i32 q2429) && true), .inl (bif am_cb .eq q2429 0 then 26 else 12, [(0, am_iv x0), (1, am_iv x1)], [], am_SH, (J, K, am_RF b))) from rfl) (am_g1 g2431 rfl) (decide_eq_true c2432) ?_
    obtain rfl := Option.some.inj h
    exact am_r_ret (show am_stepn X T_UpRiverModel_isSkipper 2 true (26, [(0, am_iv x0), (1, am_iv x1)], [], am_SH, (J, K, am_RF b)) = some ((decide ((0 : Int) = 0 ∨ (0 : Int) = 1) && true), .inr (.inr (some (am_iv 0), am_SH, (J, K, am_RF b)))) from rfl) (am_g1 (by decide) rfl)
  · rw [if_neg c2432] at h
    refine am_r_f (show am_stepn X T_UpRiverModel_isSkipper 1 true (9, [(0, am_iv x0), (1, am_iv x1)], [am_iv q2429], am_SH, (J, K, am_RF b)) = some ((decide (am_i32 q2429) && true), .inl (bif am_cb .eq q2429 0 then 26 else 12, [(0, am_iv x0), (1, am_iv x1)], [], am_SH, (J, K, am_RF b))) from rfl) (am_g1 g2431 rfl) (decide_eq_false c2432) ?_
    obtain ⟨q2433, e2434, h⟩ := am_bind_some h
    refine am_r_call (show am_stepn X T_UpRiverModel_isSkipper 5 true (12, [(0, am_iv x0), (1, am_iv x1)], [], am_SH, (J, K, am_RF b)) = some (true, .inr (.inl (150, [am_jv (am_i2l x1), am_jv (0 : Int64), am_jv (1 : Int64)], 6, 0, 0, 19, [(1, am_iv x1)], [], am_SH, (J, K, am_RF b)))) from rfl) rfl tb_UpRiverModel_in (s_UpRiverModel_in e2434) ?_
    obtain ⟨g2435, h⟩ := am_if_some h
    by_cases c2436 : q2433 = 0
    · rw [if_pos c2436] at h
      refine am_r_t (show am_stepn X T_UpRiverModel_isSkipper 1 true (19, [(1, am_iv x1)], [am_iv q2433], am_SH, (J, K, am_RF b)) = some ((decide (am_i32 q2433) && true), .inl (bif am_cb .eq q2433 0 then 26 else 22, [(1, am_iv x1)], [], am_SH, (J, K, am_RF b))) from rfl) (am_g1 g2435 rfl) (decide_eq_true c2436) ?_
      obtain rfl := Option.some.inj h
      exact am_r_ret (show am_stepn X T_UpRiverModel_isSkipper 2 true (26, [(1, am_iv x1)], [], am_SH, (J, K, am_RF b)) = some ((decide ((0 : Int) = 0 ∨ (0 : Int) = 1) && true), .inr (.inr (some (am_iv 0), am_SH, (J, K, am_RF b)))) from rfl) (am_g1 (by decide) rfl)
    · rw [if_neg c2436] at h
      refine am_r_f (show am_stepn X T_UpRiverModel_isSkipper 1 true (19, [(1, am_iv x1)], [am_iv q2433], am_SH, (J, K, am_RF b)) = some ((decide (am_i32 q2433) && true), .inl (bif am_cb .eq q2433 0 then 26 else 22, [(1, am_iv x1)], [], am_SH, (J, K, am_RF b))) from rfl) (am_g1 g2435 rfl) (decide_eq_false c2436) ?_
      obtain rfl := Option.some.inj h
      exact am_r_ret (show am_stepn X T_UpRiverModel_isSkipper 3 true (22, [(1, am_iv x1)], [], am_SH, (J, K, am_RF b)) = some ((decide ((1 : Int) = 0 ∨ (1 : Int) = 1) && true), .inr (.inr (some (am_iv 1), am_SH, (J, K, am_RF b)))) from rfl) (am_g1 (by decide) rfl)
theorem s_UpRiverModel_hisBegin {X : am_X} {b : Bool} {K : am_K} {x1 : Int} {x2 : Int} {J : am_J} {r : am_J} (h : f_UpRiverModel_hisBegin  x1 x2 J = some r) : am_runs X T_UpRiverModel_hisBegin (0, [(0, am_pv 65), (1, am_iv x1), (2, am_iv x2)], [], am_SH, (J, K, am_RF b)) (none, am_SH, (r, K, am_RF b)) := by
  unfold f_UpRiverModel_hisBegin at h
  obtain rfl := Option.some.inj h
  exact am_r_ret (show am_stepn X T_UpRiverModel_hisBegin 46 true (0, [(0, am_pv 65), (1, am_iv x1), (2, am_iv x2)], [], am_SH, (J, K, am_RF b)) = some ((decide ((1 : Int) = 0 ∨ (1 : Int) = 1) && (am_in 0 216 && (am_in 3 216 && (am_in 2 216 && (am_in 1 216 && true))))), .inr (.inr (none, am_SH, ((am_up (am_up (am_up (am_up (am_up (am_up (am_up (am_up (am_up (am_up (am_up J 65 27 (J 68 1)) 65 28 (J 68 2)) 65 29 (J 68 3)) 65 30 (J 68 0)) 65 31 0) 65 32 0) 65 33 1) 65 34 x1) 65 35 x2) 65 36 (-4)) 65 37 (-4)), K, am_RF b)))) from rfl) (am_g1 (by decide) (am_gi (by decide) (am_gi (by decide) (am_gi (by decide) (am_gi (by decide) rfl)))))
theorem s_UpRiverModel_meets_L2 {X : am_X} {b : Bool} {K : am_K}  : ∀ (n : Nat) (x2 : Int) (x3 : Int) (J : am_J) (r : am_J), f_UpRiverModel_meets_L2   n x2 x3 J = some r → am_runs X T_UpRiverModel_meets (2, [(0, am_pv 65), (2, am_iv x2), (3, am_iv x3)], [], am_SH, (J, K, am_RF b)) (none, am_SH, (r, K, am_RF b)) := by
  intro n
  induction n with
  | zero =>
    intro x2 x3 J r h
    cases h
  | succ n ih =>
    intro x2 x3 J r h
    rw [f_UpRiverModel_meets_L2.eq_2] at h
    obtain ⟨g2437, h⟩ := am_if_some h
    obtain ⟨g2438, h⟩ := am_if_some h
    by_cases c2439 : x3 < x2
    · rw [if_pos c2439] at h
      refine am_r_f (show am_stepn X T_UpRiverModel_meets 3 true (2, [(0, am_pv 65), (2, am_iv x2), (3, am_iv x3)], [], am_SH, (J, K, am_RF b)) = some (((decide (am_i32 x2) && decide (am_i32 x3)) && true), .inl (bif am_cb .ge x3 x2 then 93 else 7, [(0, am_pv 65), (2, am_iv x2), (3, am_iv x3)], [], am_SH, (J, K, am_RF b))) from rfl) (am_g2 g2437 g2438 rfl) (am_nd_t c2439) ?_
      by_cases c2440 : 300 < x3
      · rw [if_pos c2440] at h
        refine am_r_t (show am_stepn X T_UpRiverModel_meets 3 true (7, [(0, am_pv 65), (2, am_iv x2), (3, am_iv x3)], [], am_SH, (J, K, am_RF b)) = some (((decide (am_i32 300) && decide (am_i32 x3)) && true), .inl (bif am_cb .gt x3 300 then 93 else 14, [(0, am_pv 65), (2, am_iv x2), (3, am_iv x3)], [], am_SH, (J, K, am_RF b))) from rfl) (am_g2 (by decide) g2438 rfl) (decide_eq_true c2440) ?_
        obtain rfl := Option.some.inj h
        exact am_r_ret (show am_stepn X T_UpRiverModel_meets 1 true (93, [(0, am_pv 65), (2, am_iv x2), (3, am_iv x3)], [], am_SH, (J, K, am_RF b)) = some (true, .inr (.inr (none, am_SH, (J, K, am_RF b)))) from rfl) rfl
      · rw [if_neg c2440] at h
        refine am_r_f (show am_stepn X T_UpRiverModel_meets 3 true (7, [(0, am_pv 65), (2, am_iv x2), (3, am_iv x3)], [], am_SH, (J, K, am_RF b)) = some (((decide (am_i32 300) && decide (am_i32 x3)) && true), .inl (bif am_cb .gt x3 300 then 93 else 14, [(0, am_pv 65), (2, am_iv x2), (3, am_iv x3)], [], am_SH, (J, K, am_RF b))) from rfl) (am_g2 (by decide) g2438 rfl) (decide_eq_false c2440) ?_
        obtain ⟨g2441, h⟩ := am_if_some h
        by_cases c2442 : (J 65 36) = (-4)
        · rw [if_pos c2442] at h
          refine am_r_f (show am_stepn X T_UpRiverModel_meets 16 true (14, [(0, am_pv 65), (2, am_iv x2), (3, am_iv x3)], [], am_SH, (J, K, am_RF b)) = some (((decide (am_i32 (-4)) && decide (am_i32 (J 65 36))) && (am_in 0 295 && true)), .inl (bif am_cb .ne (J 65 36) (-4) then 87 else 40, [(0, am_pv 65), (2, am_iv x2), (3, am_iv x3), (4, am_iv (((J 66 0) - 1) - (x3 - (J 65 35))))], [], am_SH, (J, K, am_RF b))) from rfl) (am_g2 (by decide) g2441 (am_gi (by decide) rfl)) (am_nd_t c2442) ?_
          obtain ⟨g2443, h⟩ := am_if_some h
          by_cases c2444 : x3 < (J 65 35)
          · rw [if_pos c2444] at h
            refine am_r_t (show am_stepn X T_UpRiverModel_meets 4 true (40, [(0, am_pv 65), (2, am_iv x2), (3, am_iv x3), (4, am_iv (((J 66 0) - 1) - (x3 - (J 65 35))))], [], am_SH, (J, K, am_RF b)) = some (((decide (am_i32 (J 65 35)) && decide (am_i32 x3)) && true), .inl (bif am_cb .lt x3 (J 65 35) then 87 else 48, [(0, am_pv 65), (2, am_iv x2), (3, am_iv x3), (4, am_iv (((J 66 0) - 1) - (x3 - (J 65 35))))], [], am_SH, (J, K, am_RF b))) from rfl) (am_g2 g2443 g2438 rfl) (decide_eq_true c2444) ?_
            refine am_r_go (show am_stepn X T_UpRiverModel_meets 2 true (87, [(0, am_pv 65), (2, am_iv x2), (3, am_iv x3), (4, am_iv (((J 66 0) - 1) - (x3 - (J 65 35))))], [], am_SH, (J, K, am_RF b)) = some (true, .inl (2, [(0, am_pv 65), (2, am_iv x2), (3, am_iv (x3 + 1))], [], am_SH, (J, K, am_RF b))) from rfl) rfl ?_
            exact ih _ _ _ _ h
          · rw [if_neg c2444] at h
            refine am_r_f (show am_stepn X T_UpRiverModel_meets 4 true (40, [(0, am_pv 65), (2, am_iv x2), (3, am_iv x3), (4, am_iv (((J 66 0) - 1) - (x3 - (J 65 35))))], [], am_SH, (J, K, am_RF b)) = some (((decide (am_i32 (J 65 35)) && decide (am_i32 x3)) && true), .inl (bif am_cb .lt x3 (J 65 35) then 87 else 48, [(0, am_pv 65), (2, am_iv x2), (3, am_iv x3), (4, am_iv (((J 66 0) - 1) - (x3 - (J 65 35))))], [], am_SH, (J, K, am_RF b))) from rfl) (am_g2 g2443 g2438 rfl) (decide_eq_false c2444) ?_
            obtain ⟨g2445, h⟩ := am_if_some h
            by_cases c2446 : (((J 66 0) - 1) - (x3 - (J 65 35))) < 0
            · rw [if_pos c2446] at h
              refine am_r_t (show am_stepn X T_UpRiverModel_meets 2 true (48, [(0, am_pv 65), (2, am_iv x2), (3, am_iv x3), (4, am_iv (((J 66 0) - 1) - (x3 - (J 65 35))))], [], am_SH, (J, K, am_RF b)) = some ((decide (am_i32 (((J 66 0) - 1) - (x3 - (J 65 35)))) && true), .inl (bif am_cb .lt (((J 66 0) - 1) - (x3 - (J 65 35))) 0 then 87 else 53, [(0, am_pv 65), (2, am_iv x2), (3, am_iv x3), (4, am_iv (((J 66 0) - 1) - (x3 - (J 65 35))))], [], am_SH, (J, K, am_RF b))) from rfl) (am_g1 g2445 rfl) (decide_eq_true c2446) ?_
              refine am_r_go (show am_stepn X T_UpRiverModel_meets 2 true (87, [(0, am_pv 65), (2, am_iv x2), (3, am_iv x3), (4, am_iv (((J 66 0) - 1) - (x3 - (J 65 35))))], [], am_SH, (J, K, am_RF b)) = some (true, .inl (2, [(0, am_pv 65), (2, am_iv x2), (3, am_iv (x3 + 1))], [], am_SH, (J, K, am_RF b))) from rfl) rfl ?_
              exact ih _ _ _ _ h
            · rw [if_neg c2446] at h
              refine am_r_f (show am_stepn X T_UpRiverModel_meets 2 true (48, [(0, am_pv 65), (2, am_iv x2), (3, am_iv x3), (4, am_iv (((J 66 0) - 1) - (x3 - (J 65 35))))], [], am_SH, (J, K, am_RF b)) = some ((decide (am_i32 (((J 66 0) - 1) - (x3 - (J 65 35)))) && true), .inl (bif am_cb .lt (((J 66 0) - 1) - (x3 - (J 65 35))) 0 then 87 else 53, [(0, am_pv 65), (2, am_iv x2), (3, am_iv x3), (4, am_iv (((J 66 0) - 1) - (x3 - (J 65 35))))], [], am_SH, (J, K, am_RF b))) from rfl) (am_g1 g2445 rfl) (decide_eq_false c2446) ?_
              obtain ⟨g2447, h⟩ := am_if_some h
              obtain ⟨g2448, h⟩ := am_if_some h
              by_cases c2449 : (J 65 34) = (J 65 28)
              · rw [if_pos c2449] at h
                refine am_r_f (show am_stepn X T_UpRiverModel_meets 5 true (53, [(0, am_pv 65), (2, am_iv x2), (3, am_iv x3), (4, am_iv (((J 66 0) - 1) - (x3 - (J 65 35))))], [], am_SH, (J, K, am_RF b)) = some (((decide (am_i32 (J 65 28)) && decide (am_i32 (J 65 34))) && true), .inl (bif am_cb .ne (J 65 34) (J 65 28) then 87 else 64, [(0, am_pv 65), (2, am_iv x2), (3, am_iv x3), (4, am_iv (((J 66 0) - 1) - (x3 - (J 65 35))))], [], am_SH, (J, K, am_RF b))) from rfl) (am_g2 g2447 g2448 rfl) (am_nd_t c2449) ?_
                obtain ⟨g2450, h⟩ := am_if_some h
                obtain ⟨g2451, h⟩ := am_if_some h
                by_cases c2452 : (((J 66 0) - 1) - (x3 - (J 65 35))) = (am_dv (J 65 27) 8)
                · rw [if_pos c2452] at h
                  refine am_r_f (show am_stepn X T_UpRiverModel_meets 6 true (64, [(0, am_pv 65), (2, am_iv x2), (3, am_iv x3), (4, am_iv (((J 66 0) - 1) - (x3 - (J 65 35))))], [], am_SH, (J, K, am_RF b)) = some (((decide (am_i32 (am_dv (J 65 27) 8)) && decide (am_i32 (((J 66 0) - 1) - (x3 - (J 65 35))))) && ((decide (0 < (8 : Int) ∧ am_i32 8) && decide (am_i32 (J 65 27))) && true)), .inl (bif am_cb .ne (((J 66 0) - 1) - (x3 - (J 65 35))) (am_dv (J 65 27) 8) then 87 else 76, [(0, am_pv 65), (2, am_iv x2), (3, am_iv x3), (4, am_iv (((J 66 0) - 1) - (x3 - (J 65 35))))], [], am_SH, (J, K, am_RF b))) from rfl) (am_g2 g2451 g2445 (am_g2 (by decide) g2450 rfl)) (am_nd_t c2452) ?_
                  refine am_r_go (show am_stepn X T_UpRiverModel_meets 8 true (76, [(0, am_pv 65), (2, am_iv x2), (3, am_iv x3), (4, am_iv (((J 66 0) - 1) - (x3 - (J 65 35))))], [], am_SH, (J, K, am_RF b)) = some (true, .inl (2, [(0, am_pv 65), (2, am_iv x2), (3, am_iv (x3 + 1))], [], am_SH, ((am_up (am_up J 65 36 x3) 65 37 (((J 66 0) - 1) - (x3 - (J 65 35)))), K, am_RF b))) from rfl) rfl ?_
                  exact ih _ _ _ _ h
                · rw [if_neg c2452] at h
                  refine am_r_t (show am_stepn X T_UpRiverModel_meets 6 true (64, [(0, am_pv 65), (2, am_iv x2), (3, am_iv x3), (4, am_iv (((J 66 0) - 1) - (x3 - (J 65 35))))], [], am_SH, (J, K, am_RF b)) = some (((decide (am_i32 (am_dv (J 65 27) 8)) && decide (am_i32 (((J 66 0) - 1) - (x3 - (J 65 35))))) && ((decide (0 < (8 : Int) ∧ am_i32 8) && decide (am_i32 (J 65 27))) && true)), .inl (bif am_cb .ne (((J 66 0) - 1) - (x3 - (J 65 35))) (am_dv (J 65 27) 8) then 87 else 76, [(0, am_pv 65), (2, am_iv x2), (3, am_iv x3), (4, am_iv (((J 66 0) - 1) - (x3 - (J 65 35))))], [], am_SH, (J, K, am_RF b))) from rfl) (am_g2 g2451 g2445 (am_g2 (by decide) g2450 rfl)) (am_nd_f c2452) ?_
                  refine am_r_go (show am_stepn X T_UpRiverModel_meets 2 true (87, [(0, am_pv 65), (2, am_iv x2), (3, am_iv x3), (4, am_iv (((J 66 0) - 1) - (x3 - (J 65 35))))], [], am_SH, (J, K, am_RF b)) = some (true, .inl (2, [(0, am_pv 65), (2, am_iv x2), (3, am_iv (x3 + 1))], [], am_SH, (J, K, am_RF b))) from rfl) rfl ?_
                  exact ih _ _ _ _ h
              · rw [if_neg c2449] at h
                refine am_r_t (show am_stepn X T_UpRiverModel_meets 5 true (53, [(0, am_pv 65), (2, am_iv x2), (3, am_iv x3), (4, am_iv (((J 66 0) - 1) - (x3 - (J 65 35))))], [], am_SH, (J, K, am_RF b)) = some (((decide (am_i32 (J 65 28)) && decide (am_i32 (J 65 34))) && true), .inl (bif am_cb .ne (J 65 34) (J 65 28) then 87 else 64, [(0, am_pv 65), (2, am_iv x2), (3, am_iv x3), (4, am_iv (((J 66 0) - 1) - (x3 - (J 65 35))))], [], am_SH, (J, K, am_RF b))) from rfl) (am_g2 g2447 g2448 rfl) (am_nd_f c2449) ?_
                refine am_r_go (show am_stepn X T_UpRiverModel_meets 2 true (87, [(0, am_pv 65), (2, am_iv x2), (3, am_iv x3), (4, am_iv (((J 66 0) - 1) - (x3 - (J 65 35))))], [], am_SH, (J, K, am_RF b)) = some (true, .inl (2, [(0, am_pv 65), (2, am_iv x2), (3, am_iv (x3 + 1))], [], am_SH, (J, K, am_RF b))) from rfl) rfl ?_
                exact ih _ _ _ _ h
        · rw [if_neg c2442] at h
          refine am_r_t (show am_stepn X T_UpRiverModel_meets 16 true (14, [(0, am_pv 65), (2, am_iv x2), (3, am_iv x3)], [], am_SH, (J, K, am_RF b)) = some (((decide (am_i32 (-4)) && decide (am_i32 (J 65 36))) && (am_in 0 295 && true)), .inl (bif am_cb .ne (J 65 36) (-4) then 87 else 40, [(0, am_pv 65), (2, am_iv x2), (3, am_iv x3), (4, am_iv (((J 66 0) - 1) - (x3 - (J 65 35))))], [], am_SH, (J, K, am_RF b))) from rfl) (am_g2 (by decide) g2441 (am_gi (by decide) rfl)) (am_nd_f c2442) ?_
          refine am_r_go (show am_stepn X T_UpRiverModel_meets 2 true (87, [(0, am_pv 65), (2, am_iv x2), (3, am_iv x3), (4, am_iv (((J 66 0) - 1) - (x3 - (J 65 35))))], [], am_SH, (J, K, am_RF b)) = some (true, .inl (2, [(0, am_pv 65), (2, am_iv x2), (3, am_iv (x3 + 1))], [], am_SH, (J, K, am_RF b))) from rfl) rfl ?_
          exact ih _ _ _ _ h
    · rw [if_neg c2439] at h
      refine am_r_t (show am_stepn X T_UpRiverModel_meets 3 true (2, [(0, am_pv 65), (2, am_iv x2), (3, am_iv x3)], [], am_SH, (J, K, am_RF b)) = some (((decide (am_i32 x2) && decide (am_i32 x3)) && true), .inl (bif am_cb .ge x3 x2 then 93 else 7, [(0, am_pv 65), (2, am_iv x2), (3, am_iv x3)], [], am_SH, (J, K, am_RF b))) from rfl) (am_g2 g2437 g2438 rfl) (am_nd_f c2439) ?_
      obtain rfl := Option.some.inj h
      exact am_r_ret (show am_stepn X T_UpRiverModel_meets 1 true (93, [(0, am_pv 65), (2, am_iv x2), (3, am_iv x3)], [], am_SH, (J, K, am_RF b)) = some (true, .inr (.inr (none, am_SH, (J, K, am_RF b)))) from rfl) rfl
theorem s_UpRiverModel_meets {X : am_X} {b : Bool} {K : am_K} {x1 : Int} {x2 : Int} {J : am_J} {r : am_J} (h : f_UpRiverModel_meets  x1 x2 J = some r) : am_runs X T_UpRiverModel_meets (0, [(0, am_pv 65), (1, am_iv x1), (2, am_iv x2)], [], am_SH, (J, K, am_RF b)) (none, am_SH, (r, K, am_RF b)) := by
  unfold f_UpRiverModel_meets at h
  refine am_r_go (show am_stepn X T_UpRiverModel_meets 2 true (0, [(0, am_pv 65), (1, am_iv x1), (2, am_iv x2)], [], am_SH, (J, K, am_RF b)) = some (true, .inl (2, [(0, am_pv 65), (1, am_iv x1), (2, am_iv x2), (3, am_iv x1)], [], am_SH, (J, K, am_RF b))) from rfl) rfl ?_
  refine am_r_eq (σ' := (2, [(0, am_pv 65), (2, am_iv x2), (3, am_iv x1)], [], am_SH, (J, K, am_RF b))) rfl ?_
  exact s_UpRiverModel_meets_L2  _ _ _ _ _ h
theorem s_UpRiverModel_hisMove_L134 {X : am_X} {b : Bool} {K : am_K}  : ∀ (s1 : Int) (s2 : Int) (J : am_J) (r : am_J), f_UpRiverModel_hisMove_L134    s1 s2 J = some r → am_runs X T_UpRiverModel_hisMove (134, [(0, am_pv 65)], [am_iv s2, am_iv s1, am_pv 65], am_SH, (J, K, am_RF b)) (none, am_SH, (r, K, am_RF b)) := by
  intro s1 s2 J r h
  unfold f_UpRiverModel_hisMove_L134 at h
  obtain ⟨q2453, e2454, h⟩ := am_bind_some h
  refine am_r_call (show am_stepn X T_UpRiverModel_hisMove 1 true (134, [(0, am_pv 65)], [am_iv s2, am_iv s1, am_pv 65], am_SH, (J, K, am_RF b)) = some (true, .inr (.inl (195, [am_iv s2], 1, 0, 0, 137, [(0, am_pv 65)], [am_iv s1, am_pv 65], am_SH, (J, K, am_RF b)))) from rfl) rfl tb_UpRiverModel_flag (s_UpRiverModel_flag e2454) ?_
  obtain rfl := Option.some.inj h
  exact am_r_ret (show am_stepn X T_UpRiverModel_hisMove 12 true (137, [(0, am_pv 65)], [am_iv q2453, am_iv s1, am_pv 65], am_SH, (J, K, am_RF b)) = some (true, .inr (.inr (none, am_SH, ((am_up (am_up (am_up J 65 32 (s1 + q2453)) 65 29 (J 65 18)) 65 30 (J 65 19)), K, am_RF b)))) from rfl) rfl
theorem s_UpRiverModel_hisMove_L106 {X : am_X} {b : Bool} {K : am_K}  : ∀ (s1 : Int) (s2 : Int) (J : am_J) (r : am_J), f_UpRiverModel_hisMove_L106    s1 s2 J = some r → am_runs X T_UpRiverModel_hisMove (106, [(0, am_pv 65)], [am_iv s2, am_iv s1, am_pv 65], am_SH, (J, K, am_RF b)) (none, am_SH, (r, K, am_RF b)) := by
  intro s1 s2 J r h
  unfold f_UpRiverModel_hisMove_L106 at h
  obtain ⟨q2455, e2456, h⟩ := am_bind_some h
  refine am_r_call (show am_stepn X T_UpRiverModel_hisMove 1 true (106, [(0, am_pv 65)], [am_iv s2, am_iv s1, am_pv 65], am_SH, (J, K, am_RF b)) = some (true, .inr (.inl (195, [am_iv s2], 1, 0, 0, 109, [(0, am_pv 65)], [am_iv s1, am_pv 65], am_SH, (J, K, am_RF b)))) from rfl) rfl tb_UpRiverModel_flag (s_UpRiverModel_flag e2456) ?_
  obtain ⟨g2457, h⟩ := am_if_some h
  obtain ⟨g2458, h⟩ := am_if_some h
  by_cases c2459 : (J 65 18) = (J 65 29)
  · rw [if_pos c2459] at h
    refine am_r_f (show am_stepn X T_UpRiverModel_hisMove 10 true (109, [(0, am_pv 65)], [am_iv q2455, am_iv s1, am_pv 65], am_SH, (J, K, am_RF b)) = some (((decide (am_i32 (J 65 29)) && decide (am_i32 (J 65 18))) && true), .inl (bif am_cb .ne (J 65 18) (J 65 29) then 133 else 129, [(0, am_pv 65)], [am_iv (J 65 32), am_pv 65], am_SH, ((am_up J 65 31 (s1 + q2455)), K, am_RF b))) from rfl) (am_g2 g2457 g2458 rfl) (am_nd_t c2459) ?_
    refine am_r_go (show am_stepn X T_UpRiverModel_hisMove 2 true (129, [(0, am_pv 65)], [am_iv (J 65 32), am_pv 65], am_SH, ((am_up J 65 31 (s1 + q2455)), K, am_RF b)) = some (true, .inl (134, [(0, am_pv 65)], [am_iv 1, am_iv (J 65 32), am_pv 65], am_SH, ((am_up J 65 31 (s1 + q2455)), K, am_RF b))) from rfl) rfl ?_
    exact s_UpRiverModel_hisMove_L134  _ _ _ _ h
  · rw [if_neg c2459] at h
    refine am_r_t (show am_stepn X T_UpRiverModel_hisMove 10 true (109, [(0, am_pv 65)], [am_iv q2455, am_iv s1, am_pv 65], am_SH, (J, K, am_RF b)) = some (((decide (am_i32 (J 65 29)) && decide (am_i32 (J 65 18))) && true), .inl (bif am_cb .ne (J 65 18) (J 65 29) then 133 else 129, [(0, am_pv 65)], [am_iv (J 65 32), am_pv 65], am_SH, ((am_up J 65 31 (s1 + q2455)), K, am_RF b))) from rfl) (am_g2 g2457 g2458 rfl) (am_nd_f c2459) ?_
    refine am_r_go (show am_stepn X T_UpRiverModel_hisMove 1 true (133, [(0, am_pv 65)], [am_iv (J 65 32), am_pv 65], am_SH, ((am_up J 65 31 (s1 + q2455)), K, am_RF b)) = some (true, .inl (134, [(0, am_pv 65)], [am_iv 0, am_iv (J 65 32), am_pv 65], am_SH, ((am_up J 65 31 (s1 + q2455)), K, am_RF b))) from rfl) rfl ?_
    exact s_UpRiverModel_hisMove_L134  _ _ _ _ h
theorem s_UpRiverModel_hisMove_L82 {X : am_X} {b : Bool} {K : am_K}  : ∀ (s1 : Int) (J : am_J) (r : am_J), f_UpRiverModel_hisMove_L82    s1 J = some r → am_runs X T_UpRiverModel_hisMove (82, [(0, am_pv 65)], [am_iv s1, am_pv 65], am_SH, (J, K, am_RF b)) (none, am_SH, (r, K, am_RF b)) := by
  intro s1 J r h
  unfold f_UpRiverModel_hisMove_L82 at h
  obtain ⟨g2460, h⟩ := am_if_some h
  obtain ⟨g2461, h⟩ := am_if_some h
  obtain ⟨g2462, h⟩ := am_if_some h
  by_cases c2463 : (J 65 18) = (J 65 29)
  · rw [if_pos c2463] at h
    refine am_r_t (show am_stepn X T_UpRiverModel_hisMove 9 true (82, [(0, am_pv 65)], [am_iv s1, am_pv 65], am_SH, (J, K, am_RF b)) = some (((decide (am_i32 (J 65 29)) && decide (am_i32 (J 65 18))) && (decide ((s1 : Int) = 0 ∨ (s1 : Int) = 1) && true)), .inl (bif am_cb .eq (J 65 18) (J 65 29) then 105 else 101, [(0, am_pv 65)], [am_iv (J 65 31), am_pv 65], am_SH, ((am_up J 65 33 s1), K, am_RF b))) from rfl) (am_g2 g2461 g2462 (am_g1 g2460 rfl)) (decide_eq_true c2463) ?_
    refine am_r_go (show am_stepn X T_UpRiverModel_hisMove 1 true (105, [(0, am_pv 65)], [am_iv (J 65 31), am_pv 65], am_SH, ((am_up J 65 33 s1), K, am_RF b)) = some (true, .inl (106, [(0, am_pv 65)], [am_iv 0, am_iv (J 65 31), am_pv 65], am_SH, ((am_up J 65 33 s1), K, am_RF b))) from rfl) rfl ?_
    exact s_UpRiverModel_hisMove_L106  _ _ _ _ h
  · rw [if_neg c2463] at h
    refine am_r_f (show am_stepn X T_UpRiverModel_hisMove 9 true (82, [(0, am_pv 65)], [am_iv s1, am_pv 65], am_SH, (J, K, am_RF b)) = some (((decide (am_i32 (J 65 29)) && decide (am_i32 (J 65 18))) && (decide ((s1 : Int) = 0 ∨ (s1 : Int) = 1) && true)), .inl (bif am_cb .eq (J 65 18) (J 65 29) then 105 else 101, [(0, am_pv 65)], [am_iv (J 65 31), am_pv 65], am_SH, ((am_up J 65 33 s1), K, am_RF b))) from rfl) (am_g2 g2461 g2462 (am_g1 g2460 rfl)) (decide_eq_false c2463) ?_
    refine am_r_go (show am_stepn X T_UpRiverModel_hisMove 2 true (101, [(0, am_pv 65)], [am_iv (J 65 31), am_pv 65], am_SH, ((am_up J 65 33 s1), K, am_RF b)) = some (true, .inl (106, [(0, am_pv 65)], [am_iv 1, am_iv (J 65 31), am_pv 65], am_SH, ((am_up J 65 33 s1), K, am_RF b))) from rfl) rfl ?_
    exact s_UpRiverModel_hisMove_L106  _ _ _ _ h
theorem s_UpRiverModel_hisMove_L42 {X : am_X} {b : Bool} {K : am_K}  : ∀ (x2 : Int) (s1 : Int) (s2 : Int) (J : am_J) (r : am_J), f_UpRiverModel_hisMove_L42    x2 s1 s2 J = some r → am_runs X T_UpRiverModel_hisMove (42, [(0, am_pv 65), (2, am_iv x2)], [am_iv s2, am_iv s1, am_pv 65], am_SH, (J, K, am_RF b)) (none, am_SH, (r, K, am_RF b)) := by
  intro x2 s1 s2 J r h
  unfold f_UpRiverModel_hisMove_L42 at h
  obtain ⟨q2464, e2465, h⟩ := am_bind_some h
  refine am_r_call (show am_stepn X T_UpRiverModel_hisMove 1 true (42, [(0, am_pv 65), (2, am_iv x2)], [am_iv s2, am_iv s1, am_pv 65], am_SH, (J, K, am_RF b)) = some (true, .inr (.inl (223, [am_pv 65, am_iv s1, am_iv s2], 5, 0, 0, 45, [(0, am_pv 65), (2, am_iv x2)], [], am_SH, (J, K, am_RF b)))) from rfl) rfl tb_UpRiverModel_meets (s_UpRiverModel_meets e2465) ?_
  obtain ⟨g2466, h⟩ := am_if_some h
  by_cases c2467 : x2 = 0
  · rw [if_pos c2467] at h
    refine am_r_t (show am_stepn X T_UpRiverModel_hisMove 2 true (45, [(0, am_pv 65), (2, am_iv x2)], [], am_SH, (q2464, K, am_RF b)) = some ((decide (am_i32 x2) && true), .inl (bif am_cb .eq x2 0 then 160 else 49, [(0, am_pv 65), (2, am_iv x2)], [], am_SH, (q2464, K, am_RF b))) from rfl) (am_g1 g2466 rfl) (decide_eq_true c2467) ?_
    obtain rfl := Option.some.inj h
    exact am_r_ret (show am_stepn X T_UpRiverModel_hisMove 7 true (160, [(0, am_pv 65), (2, am_iv x2)], [], am_SH, (q2464, K, am_RF b)) = some (true, .inr (.inr (none, am_SH, ((am_up q2464 65 30 ((q2464 65 30) + 1)), K, am_RF b)))) from rfl) rfl
  · rw [if_neg c2467] at h
    refine am_r_f (show am_stepn X T_UpRiverModel_hisMove 2 true (45, [(0, am_pv 65), (2, am_iv x2)], [], am_SH, (q2464, K, am_RF b)) = some ((decide (am_i32 x2) && true), .inl (bif am_cb .eq x2 0 then 160 else 49, [(0, am_pv 65), (2, am_iv x2)], [], am_SH, (q2464, K, am_RF b))) from rfl) (am_g1 g2466 rfl) (decide_eq_false c2467) ?_
    obtain ⟨g2468, h⟩ := am_if_some h
    obtain ⟨g2469, h⟩ := am_if_some h
    by_cases c2470 : (q2464 65 18) = (q2464 65 29)
    · rw [if_pos c2470] at h
      refine am_r_f (show am_stepn X T_UpRiverModel_hisMove 14 true (49, [(0, am_pv 65), (2, am_iv x2)], [], am_SH, (q2464, K, am_RF b)) = some (((decide (am_i32 (q2464 65 29)) && decide (am_i32 (q2464 65 18))) && true), .inl (bif am_cb .ne (q2464 65 18) (q2464 65 29) then 81 else 77, [(0, am_pv 65)], [am_pv 65], am_SH, ((am_up (am_up q2464 65 27 (q2464 65 16)) 65 28 (q2464 65 17)), K, am_RF b))) from rfl) (am_g2 g2468 g2469 rfl) (am_nd_t c2470) ?_
      refine am_r_go (show am_stepn X T_UpRiverModel_hisMove 2 true (77, [(0, am_pv 65)], [am_pv 65], am_SH, ((am_up (am_up q2464 65 27 (q2464 65 16)) 65 28 (q2464 65 17)), K, am_RF b)) = some (true, .inl (82, [(0, am_pv 65)], [am_iv 1, am_pv 65], am_SH, ((am_up (am_up q2464 65 27 (q2464 65 16)) 65 28 (q2464 65 17)), K, am_RF b))) from rfl) rfl ?_
      exact s_UpRiverModel_hisMove_L82  _ _ _ h
    · rw [if_neg c2470] at h
      refine am_r_t (show am_stepn X T_UpRiverModel_hisMove 14 true (49, [(0, am_pv 65), (2, am_iv x2)], [], am_SH, (q2464, K, am_RF b)) = some (((decide (am_i32 (q2464 65 29)) && decide (am_i32 (q2464 65 18))) && true), .inl (bif am_cb .ne (q2464 65 18) (q2464 65 29) then 81 else 77, [(0, am_pv 65)], [am_pv 65], am_SH, ((am_up (am_up q2464 65 27 (q2464 65 16)) 65 28 (q2464 65 17)), K, am_RF b))) from rfl) (am_g2 g2468 g2469 rfl) (am_nd_f c2470) ?_
      refine am_r_go (show am_stepn X T_UpRiverModel_hisMove 1 true (81, [(0, am_pv 65)], [am_pv 65], am_SH, ((am_up (am_up q2464 65 27 (q2464 65 16)) 65 28 (q2464 65 17)), K, am_RF b)) = some (true, .inl (82, [(0, am_pv 65)], [am_iv 0, am_pv 65], am_SH, ((am_up (am_up q2464 65 27 (q2464 65 16)) 65 28 (q2464 65 17)), K, am_RF b))) from rfl) rfl ?_
      exact s_UpRiverModel_hisMove_L82  _ _ _ h
theorem s_UpRiverModel_hisMove_L19 {X : am_X} {b : Bool} {K : am_K}  : ∀ (s0 : Int) (J : am_J) (r : am_J), f_UpRiverModel_hisMove_L19    s0 J = some r → am_runs X T_UpRiverModel_hisMove (19, [(0, am_pv 65)], [am_iv s0], am_SH, (J, K, am_RF b)) (none, am_SH, (r, K, am_RF b)) := by
  intro s0 J r h
  unfold f_UpRiverModel_hisMove_L19 at h
  obtain ⟨g2471, h⟩ := am_if_some h
  by_cases c2472 : s0 = 0
  · rw [if_pos c2472] at h
    refine am_r_t (show am_stepn X T_UpRiverModel_hisMove 6 true (19, [(0, am_pv 65)], [am_iv s0], am_SH, (J, K, am_RF b)) = some ((decide (am_i32 s0) && true), .inl (bif am_cb .eq s0 0 then 36 else 29, [(0, am_pv 65), (2, am_iv s0)], [am_iv (J 65 30), am_pv 65], am_SH, (J, K, am_RF b))) from rfl) (am_g1 g2471 rfl) (decide_eq_true c2472) ?_
    refine am_r_go (show am_stepn X T_UpRiverModel_hisMove 4 true (36, [(0, am_pv 65), (2, am_iv s0)], [am_iv (J 65 30), am_pv 65], am_SH, (J, K, am_RF b)) = some (true, .inl (42, [(0, am_pv 65), (2, am_iv s0)], [am_iv ((J 65 30) + 1), am_iv (J 65 30), am_pv 65], am_SH, (J, K, am_RF b))) from rfl) rfl ?_
    exact s_UpRiverModel_hisMove_L42  _ _ _ _ _ h
  · rw [if_neg c2472] at h
    refine am_r_f (show am_stepn X T_UpRiverModel_hisMove 6 true (19, [(0, am_pv 65)], [am_iv s0], am_SH, (J, K, am_RF b)) = some ((decide (am_i32 s0) && true), .inl (bif am_cb .eq s0 0 then 36 else 29, [(0, am_pv 65), (2, am_iv s0)], [am_iv (J 65 30), am_pv 65], am_SH, (J, K, am_RF b))) from rfl) (am_g1 g2471 rfl) (decide_eq_false c2472) ?_
    refine am_r_go (show am_stepn X T_UpRiverModel_hisMove 3 true (29, [(0, am_pv 65), (2, am_iv s0)], [am_iv (J 65 30), am_pv 65], am_SH, (J, K, am_RF b)) = some (true, .inl (42, [(0, am_pv 65), (2, am_iv s0)], [am_iv (J 65 19), am_iv (J 65 30), am_pv 65], am_SH, (J, K, am_RF b))) from rfl) rfl ?_
    exact s_UpRiverModel_hisMove_L42  _ _ _ _ _ h
theorem s_UpRiverModel_hisMove {X : am_X} {b : Bool} {K : am_K} {x1 : Int} {J : am_J} {r : am_J} (h : f_UpRiverModel_hisMove  x1 J = some r) : am_runs X T_UpRiverModel_hisMove (0, [(0, am_pv 65), (1, am_iv x1)], [], am_SH, (J, K, am_RF b)) (none, am_SH, (r, K, am_RF b)) := by
  unfold f_UpRiverModel_hisMove at h
  obtain ⟨g2473, h⟩ := am_if_some h
  by_cases c2474 : x1 = 0
  · rw [if_pos c2474] at h
    refine am_r_t (show am_stepn X T_UpRiverModel_hisMove 2 true (0, [(0, am_pv 65), (1, am_iv x1)], [], am_SH, (J, K, am_RF b)) = some ((decide (am_i32 x1) && true), .inl (bif am_cb .eq x1 0 then 18 else 4, [(0, am_pv 65), (1, am_iv x1)], [], am_SH, (J, K, am_RF b))) from rfl) (am_g1 g2473 rfl) (decide_eq_true c2474) ?_
    refine am_r_go (show am_stepn X T_UpRiverModel_hisMove 1 true (18, [(0, am_pv 65), (1, am_iv x1)], [], am_SH, (J, K, am_RF b)) = some (true, .inl (19, [(0, am_pv 65)], [am_iv 0], am_SH, (J, K, am_RF b))) from rfl) rfl ?_
    exact s_UpRiverModel_hisMove_L19  _ _ _ h
  · rw [if_neg c2474] at h
    refine am_r_f (show am_stepn X T_UpRiverModel_hisMove 2 true (0, [(0, am_pv 65), (1, am_iv x1)], [], am_SH, (J, K, am_RF b)) = some ((decide (am_i32 x1) && true), .inl (bif am_cb .eq x1 0 then 18 else 4, [(0, am_pv 65), (1, am_iv x1)], [], am_SH, (J, K, am_RF b))) from rfl) (am_g1 g2473 rfl) (decide_eq_false c2474) ?_
    obtain ⟨g2475, h⟩ := am_if_some h
    by_cases c2476 : 300 < (J 65 19)
    · rw [if_pos c2476] at h
      refine am_r_t (show am_stepn X T_UpRiverModel_hisMove 4 true (4, [(0, am_pv 65), (1, am_iv x1)], [], am_SH, (J, K, am_RF b)) = some (((decide (am_i32 300) && decide (am_i32 (J 65 19))) && true), .inl (bif am_cb .gt (J 65 19) 300 then 18 else 14, [(0, am_pv 65)], [], am_SH, (J, K, am_RF b))) from rfl) (am_g2 (by decide) g2475 rfl) (decide_eq_true c2476) ?_
      refine am_r_go (show am_stepn X T_UpRiverModel_hisMove 1 true (18, [(0, am_pv 65)], [], am_SH, (J, K, am_RF b)) = some (true, .inl (19, [(0, am_pv 65)], [am_iv 0], am_SH, (J, K, am_RF b))) from rfl) rfl ?_
      exact s_UpRiverModel_hisMove_L19  _ _ _ h
    · rw [if_neg c2476] at h
      refine am_r_f (show am_stepn X T_UpRiverModel_hisMove 4 true (4, [(0, am_pv 65), (1, am_iv x1)], [], am_SH, (J, K, am_RF b)) = some (((decide (am_i32 300) && decide (am_i32 (J 65 19))) && true), .inl (bif am_cb .gt (J 65 19) 300 then 18 else 14, [(0, am_pv 65)], [], am_SH, (J, K, am_RF b))) from rfl) (am_g2 (by decide) g2475 rfl) (decide_eq_false c2476) ?_
      refine am_r_go (show am_stepn X T_UpRiverModel_hisMove 2 true (14, [(0, am_pv 65)], [], am_SH, (J, K, am_RF b)) = some (true, .inl (19, [(0, am_pv 65)], [am_iv 1], am_SH, (J, K, am_RF b))) from rfl) rfl ?_
      exact s_UpRiverModel_hisMove_L19  _ _ _ h
theorem s_UpRiverModel_hisStep_L145 {X : am_X} {b : Bool} {K : am_K}  : ∀ (J : am_J) (r : am_J), f_UpRiverModel_hisStep_L145    J = some r → am_runs X T_UpRiverModel_hisStep (145, [(0, am_pv 65)], [], am_SH, (J, K, am_RF b)) (none, am_SH, (r, K, am_RF b)) := by
  intro J r h
  unfold f_UpRiverModel_hisStep_L145 at h
  obtain ⟨q2477, e2478, h⟩ := am_bind_some h
  refine am_r_call (show am_stepn X T_UpRiverModel_hisStep 11 true (145, [(0, am_pv 65)], [], am_SH, (J, K, am_RF b)) = some (true, .inr (.inl (192, [am_pv 65, am_iv (J 65 27), am_iv (J 65 28), am_iv (J 65 29), am_iv (J 65 30)], 5, 0, 0, 166, [(0, am_pv 65)], [am_pv 65], am_SH, (J, K, am_RF b)))) from rfl) rfl tb_UpRiverModel_turns (s_UpRiverModel_turns e2478) ?_
  obtain ⟨q2479, e2480, h⟩ := am_bind_some h
  refine am_r_call (show am_stepn X T_UpRiverModel_hisStep 1 true (166, [(0, am_pv 65)], [am_iv q2477.1, am_pv 65], am_SH, (q2477.2, K, am_RF b)) = some (true, .inr (.inl (222, [am_pv 65, am_iv q2477.1], 3, 0, 0, 169, [(0, am_pv 65)], [], am_SH, (q2477.2, K, am_RF b)))) from rfl) rfl tb_UpRiverModel_hisMove (s_UpRiverModel_hisMove e2480) ?_
  obtain rfl := Option.some.inj h
  exact am_r_ret (show am_stepn X T_UpRiverModel_hisStep 2 true (169, [(0, am_pv 65)], [], am_SH, (q2479, K, am_RF b)) = some (true, .inr (.inr (none, am_SH, (q2479, K, am_RF b)))) from rfl) rfl
theorem s_UpRiverModel_hisStep_L133 {X : am_X} {b : Bool} {K : am_K}  : ∀ (x5 : Int) (s0 : Int) (J : am_J) (r : am_J), f_UpRiverModel_hisStep_L133    x5 s0 J = some r → am_runs X T_UpRiverModel_hisStep (133, [(0, am_pv 65), (5, am_iv x5)], [am_iv s0], am_SH, (J, K, am_RF b)) (none, am_SH, (r, K, am_RF b)) := by
  intro x5 s0 J r h
  unfold f_UpRiverModel_hisStep_L133 at h
  obtain ⟨g2481, h⟩ := am_if_some h
  by_cases c2482 : x5 = 0
  · rw [if_pos c2482] at h
    refine am_r_f (show am_stepn X T_UpRiverModel_hisStep 3 true (133, [(0, am_pv 65), (5, am_iv x5)], [am_iv s0], am_SH, (J, K, am_RF b)) = some ((decide (am_i32 x5) && true), .inl (bif am_cb .ne x5 0 then 145 else 140, [(0, am_pv 65), (5, am_iv x5), (6, am_iv s0)], [], am_SH, (J, K, am_RF b))) from rfl) (am_g1 g2481 rfl) (am_nd_t c2482) ?_
    obtain ⟨g2483, h⟩ := am_if_some h
    by_cases c2484 : s0 = 0
    · rw [if_pos c2484] at h
      refine am_r_t (show am_stepn X T_UpRiverModel_hisStep 2 true (140, [(0, am_pv 65), (5, am_iv x5), (6, am_iv s0)], [], am_SH, (J, K, am_RF b)) = some ((decide (am_i32 s0) && true), .inl (bif am_cb .eq s0 0 then 172 else 145, [(0, am_pv 65), (6, am_iv s0)], [], am_SH, (J, K, am_RF b))) from rfl) (am_g1 g2483 rfl) (decide_eq_true c2484) ?_
      obtain ⟨q2485, e2486, h⟩ := am_bind_some h
      refine am_r_call (show am_stepn X T_UpRiverModel_hisStep 11 true (172, [(0, am_pv 65), (6, am_iv s0)], [], am_SH, (J, K, am_RF b)) = some (true, .inr (.inl (188, [am_pv 65, am_iv (J 65 27), am_iv (J 65 28), am_iv (J 65 29), am_iv (J 65 30)], 6, 0, 0, 193, [(0, am_pv 65)], [am_pv 65], am_SH, (J, K, am_RF b)))) from rfl) rfl tb_UpRiverModel_sails (s_UpRiverModel_sails e2486) ?_
      obtain ⟨q2487, e2488, h⟩ := am_bind_some h
      refine am_r_call (show am_stepn X T_UpRiverModel_hisStep 1 true (193, [(0, am_pv 65)], [am_iv q2485.1, am_pv 65], am_SH, (q2485.2, K, am_RF b)) = some (true, .inr (.inl (222, [am_pv 65, am_iv q2485.1], 3, 0, 0, 196, [(0, am_pv 65)], [], am_SH, (q2485.2, K, am_RF b)))) from rfl) rfl tb_UpRiverModel_hisMove (s_UpRiverModel_hisMove e2488) ?_
      obtain rfl := Option.some.inj h
      exact am_r_ret (show am_stepn X T_UpRiverModel_hisStep 1 true (196, [(0, am_pv 65)], [], am_SH, (q2487, K, am_RF b)) = some (true, .inr (.inr (none, am_SH, (q2487, K, am_RF b)))) from rfl) rfl
    · rw [if_neg c2484] at h
      refine am_r_f (show am_stepn X T_UpRiverModel_hisStep 2 true (140, [(0, am_pv 65), (5, am_iv x5), (6, am_iv s0)], [], am_SH, (J, K, am_RF b)) = some ((decide (am_i32 s0) && true), .inl (bif am_cb .eq s0 0 then 172 else 145, [(0, am_pv 65), (6, am_iv s0)], [], am_SH, (J, K, am_RF b))) from rfl) (am_g1 g2483 rfl) (decide_eq_false c2484) ?_
      refine am_r_eq (σ' := (145, [(0, am_pv 65)], [], am_SH, (J, K, am_RF b))) rfl ?_
      exact s_UpRiverModel_hisStep_L145  _ _ h
  · rw [if_neg c2482] at h
    refine am_r_t (show am_stepn X T_UpRiverModel_hisStep 3 true (133, [(0, am_pv 65), (5, am_iv x5)], [am_iv s0], am_SH, (J, K, am_RF b)) = some ((decide (am_i32 x5) && true), .inl (bif am_cb .ne x5 0 then 145 else 140, [(0, am_pv 65), (5, am_iv x5), (6, am_iv s0)], [], am_SH, (J, K, am_RF b))) from rfl) (am_g1 g2481 rfl) (am_nd_f c2482) ?_
    refine am_r_eq (σ' := (145, [(0, am_pv 65)], [], am_SH, (J, K, am_RF b))) rfl ?_
    exact s_UpRiverModel_hisStep_L145  _ _ h
theorem s_UpRiverModel_hisStep_L91 {X : am_X} {b : Bool} {K : am_K}  : ∀ (x2 : Int) (x3 : Int) (s0 : Int) (J : am_J) (r : am_J), f_UpRiverModel_hisStep_L91    x2 x3 s0 J = some r → am_runs X T_UpRiverModel_hisStep (91, [(0, am_pv 65), (2, am_iv x2), (3, am_iv x3)], [am_iv s0], am_SH, (J, K, am_RF b)) (none, am_SH, (r, K, am_RF b)) := by
  intro x2 x3 s0 J r h
  unfold f_UpRiverModel_hisStep_L91 at h
  obtain ⟨g2489, h⟩ := am_if_some h
  by_cases c2490 : x2 = 1
  · rw [if_pos c2490] at h
    refine am_r_f (show am_stepn X T_UpRiverModel_hisStep 4 true (91, [(0, am_pv 65), (2, am_iv x2), (3, am_iv x3)], [am_iv s0], am_SH, (J, K, am_RF b)) = some (((decide (am_i32 1) && decide (am_i32 x2)) && true), .inl (bif am_cb .ne x2 1 then 132 else 98, [(0, am_pv 65), (2, am_iv x2), (3, am_iv x3), (5, am_iv s0)], [], am_SH, (J, K, am_RF b))) from rfl) (am_g2 (by decide) g2489 rfl) (am_nd_t c2490) ?_
    obtain ⟨g2491, h⟩ := am_if_some h
    by_cases c2492 : (J 65 33) = 0
    · rw [if_pos c2492] at h
      refine am_r_t (show am_stepn X T_UpRiverModel_hisStep 3 true (98, [(0, am_pv 65), (2, am_iv x2), (3, am_iv x3), (5, am_iv s0)], [], am_SH, (J, K, am_RF b)) = some ((decide (am_i32 (J 65 33)) && true), .inl (bif am_cb .eq (J 65 33) 0 then 132 else 105, [(0, am_pv 65), (3, am_iv x3), (5, am_iv s0)], [], am_SH, (J, K, am_RF b))) from rfl) (am_g1 g2491 rfl) (decide_eq_true c2492) ?_
      refine am_r_go (show am_stepn X T_UpRiverModel_hisStep 1 true (132, [(0, am_pv 65), (3, am_iv x3), (5, am_iv s0)], [], am_SH, (J, K, am_RF b)) = some (true, .inl (133, [(0, am_pv 65), (5, am_iv s0)], [am_iv 0], am_SH, (J, K, am_RF b))) from rfl) rfl ?_
      exact s_UpRiverModel_hisStep_L133  _ _ _ _ h
    · rw [if_neg c2492] at h
      refine am_r_f (show am_stepn X T_UpRiverModel_hisStep 3 true (98, [(0, am_pv 65), (2, am_iv x2), (3, am_iv x3), (5, am_iv s0)], [], am_SH, (J, K, am_RF b)) = some ((decide (am_i32 (J 65 33)) && true), .inl (bif am_cb .eq (J 65 33) 0 then 132 else 105, [(0, am_pv 65), (3, am_iv x3), (5, am_iv s0)], [], am_SH, (J, K, am_RF b))) from rfl) (am_g1 g2491 rfl) (decide_eq_false c2492) ?_
      obtain ⟨q2493, e2494, h⟩ := am_bind_some h
      refine am_r_call (show am_stepn X T_UpRiverModel_hisStep 7 true (105, [(0, am_pv 65), (3, am_iv x3), (5, am_iv s0)], [], am_SH, (J, K, am_RF b)) = some (true, .inr (.inl (174, [am_pv 65, am_iv x3, am_iv (1 - (J 65 29))], 4, 0, 0, 116, [(0, am_pv 65), (3, am_iv x3), (5, am_iv s0)], [], am_SH, (J, K, am_RF b)))) from rfl) rfl tb_UpRiverModel_wayOf (s_UpRiverModel_wayOf e2494) ?_
      obtain ⟨q2495, e2496, h⟩ := am_bind_some h
      refine am_r_call (show am_stepn X T_UpRiverModel_hisStep 5 true (116, [(0, am_pv 65), (3, am_iv x3), (5, am_iv s0)], [am_iv q2493], am_SH, (J, K, am_RF b)) = some (true, .inr (.inl (174, [am_pv 65, am_iv x3, am_iv (J 65 29)], 4, 0, 0, 125, [(0, am_pv 65), (3, am_iv x3), (5, am_iv s0)], [am_iv q2493], am_SH, (J, K, am_RF b)))) from rfl) rfl tb_UpRiverModel_wayOf (s_UpRiverModel_wayOf e2496) ?_
      obtain ⟨g2497, h⟩ := am_if_some h
      obtain ⟨g2498, h⟩ := am_if_some h
      by_cases c2499 : q2495 < q2493
      · rw [if_pos c2499] at h
        refine am_r_f (show am_stepn X T_UpRiverModel_hisStep 1 true (125, [(0, am_pv 65), (3, am_iv x3), (5, am_iv s0)], [am_iv q2495, am_iv q2493], am_SH, (J, K, am_RF b)) = some (((decide (am_i32 q2495) && decide (am_i32 q2493)) && true), .inl (bif am_cb .le q2493 q2495 then 132 else 128, [(0, am_pv 65), (3, am_iv x3), (5, am_iv s0)], [], am_SH, (J, K, am_RF b))) from rfl) (am_g2 g2497 g2498 rfl) (am_nd_t c2499) ?_
        refine am_r_go (show am_stepn X T_UpRiverModel_hisStep 2 true (128, [(0, am_pv 65), (3, am_iv x3), (5, am_iv s0)], [], am_SH, (J, K, am_RF b)) = some (true, .inl (133, [(0, am_pv 65), (5, am_iv s0)], [am_iv 1], am_SH, (J, K, am_RF b))) from rfl) rfl ?_
        exact s_UpRiverModel_hisStep_L133  _ _ _ _ h
      · rw [if_neg c2499] at h
        refine am_r_t (show am_stepn X T_UpRiverModel_hisStep 1 true (125, [(0, am_pv 65), (3, am_iv x3), (5, am_iv s0)], [am_iv q2495, am_iv q2493], am_SH, (J, K, am_RF b)) = some (((decide (am_i32 q2495) && decide (am_i32 q2493)) && true), .inl (bif am_cb .le q2493 q2495 then 132 else 128, [(0, am_pv 65), (3, am_iv x3), (5, am_iv s0)], [], am_SH, (J, K, am_RF b))) from rfl) (am_g2 g2497 g2498 rfl) (am_nd_f c2499) ?_
        refine am_r_go (show am_stepn X T_UpRiverModel_hisStep 1 true (132, [(0, am_pv 65), (3, am_iv x3), (5, am_iv s0)], [], am_SH, (J, K, am_RF b)) = some (true, .inl (133, [(0, am_pv 65), (5, am_iv s0)], [am_iv 0], am_SH, (J, K, am_RF b))) from rfl) rfl ?_
        exact s_UpRiverModel_hisStep_L133  _ _ _ _ h
  · rw [if_neg c2490] at h
    refine am_r_t (show am_stepn X T_UpRiverModel_hisStep 4 true (91, [(0, am_pv 65), (2, am_iv x2), (3, am_iv x3)], [am_iv s0], am_SH, (J, K, am_RF b)) = some (((decide (am_i32 1) && decide (am_i32 x2)) && true), .inl (bif am_cb .ne x2 1 then 132 else 98, [(0, am_pv 65), (2, am_iv x2), (3, am_iv x3), (5, am_iv s0)], [], am_SH, (J, K, am_RF b))) from rfl) (am_g2 (by decide) g2489 rfl) (am_nd_f c2490) ?_
    refine am_r_go (show am_stepn X T_UpRiverModel_hisStep 1 true (132, [(0, am_pv 65), (2, am_iv x2), (3, am_iv x3), (5, am_iv s0)], [], am_SH, (J, K, am_RF b)) = some (true, .inl (133, [(0, am_pv 65), (5, am_iv s0)], [am_iv 0], am_SH, (J, K, am_RF b))) from rfl) rfl ?_
    exact s_UpRiverModel_hisStep_L133  _ _ _ _ h
theorem s_UpRiverModel_hisStep_L52 {X : am_X} {b : Bool} {K : am_K}  : ∀ (x1 : Int) (x2 : Int) (x3 : Int) (s0 : Int) (J : am_J) (r : am_J), f_UpRiverModel_hisStep_L52    x1 x2 x3 s0 J = some r → am_runs X T_UpRiverModel_hisStep (52, [(0, am_pv 65), (1, am_iv x1), (2, am_iv x2), (3, am_iv x3)], [am_iv s0], am_SH, (J, K, am_RF b)) (none, am_SH, (r, K, am_RF b)) := by
  intro x1 x2 x3 s0 J r h
  unfold f_UpRiverModel_hisStep_L52 at h
  obtain ⟨q2500, e2501, h⟩ := am_bind_some h
  refine am_r_call (show am_stepn X T_UpRiverModel_hisStep 5 true (52, [(0, am_pv 65), (1, am_iv x1), (2, am_iv x2), (3, am_iv x3)], [am_iv s0], am_SH, (J, K, am_RF b)) = some (true, .inr (.inl (176, [am_pv 65, am_iv x3, am_iv s0], 3, 0, 0, 61, [(0, am_pv 65), (1, am_iv x1), (2, am_iv x2), (3, am_iv x3), (4, am_iv s0)], [], am_SH, (J, K, am_RF b)))) from rfl) rfl tb_UpRiverModel_isOpen (s_UpRiverModel_isOpen e2501) ?_
  obtain ⟨g2502, h⟩ := am_if_some h
  by_cases c2503 : q2500 = 0
  · rw [if_pos c2503] at h
    refine am_r_t (show am_stepn X T_UpRiverModel_hisStep 1 true (61, [(0, am_pv 65), (1, am_iv x1), (2, am_iv x2), (3, am_iv x3), (4, am_iv s0)], [am_iv q2500], am_SH, (J, K, am_RF b)) = some ((decide (am_i32 q2500) && true), .inl (bif am_cb .eq q2500 0 then 86 else 64, [(0, am_pv 65), (1, am_iv x1), (2, am_iv x2), (3, am_iv x3), (4, am_iv s0)], [], am_SH, (J, K, am_RF b))) from rfl) (am_g1 g2502 rfl) (decide_eq_true c2503) ?_
    refine am_r_go (show am_stepn X T_UpRiverModel_hisStep 2 true (86, [(0, am_pv 65), (1, am_iv x1), (2, am_iv x2), (3, am_iv x3), (4, am_iv s0)], [], am_SH, (J, K, am_RF b)) = some (true, .inl (91, [(0, am_pv 65), (2, am_iv x2), (3, am_iv x3)], [am_iv 1], am_SH, (J, K, am_RF b))) from rfl) rfl ?_
    exact s_UpRiverModel_hisStep_L91  _ _ _ _ _ h
  · rw [if_neg c2503] at h
    refine am_r_f (show am_stepn X T_UpRiverModel_hisStep 1 true (61, [(0, am_pv 65), (1, am_iv x1), (2, am_iv x2), (3, am_iv x3), (4, am_iv s0)], [am_iv q2500], am_SH, (J, K, am_RF b)) = some ((decide (am_i32 q2500) && true), .inl (bif am_cb .eq q2500 0 then 86 else 64, [(0, am_pv 65), (1, am_iv x1), (2, am_iv x2), (3, am_iv x3), (4, am_iv s0)], [], am_SH, (J, K, am_RF b))) from rfl) (am_g1 g2502 rfl) (decide_eq_false c2503) ?_
    obtain ⟨q2504, e2505, h⟩ := am_bind_some h
    refine am_r_call (show am_stepn X T_UpRiverModel_hisStep 6 true (64, [(0, am_pv 65), (1, am_iv x1), (2, am_iv x2), (3, am_iv x3), (4, am_iv s0)], [], am_SH, (J, K, am_RF b)) = some (true, .inr (.inl (183, [am_pv 65, am_iv x3, am_iv s0, am_iv (J 65 30)], 4, 0, 0, 75, [(0, am_pv 65), (1, am_iv x1), (2, am_iv x2), (3, am_iv x3), (4, am_iv s0)], [], am_SH, (J, K, am_RF b)))) from rfl) rfl tb_UpRiverModel_waterAt (s_UpRiverModel_waterAt e2505) ?_
    obtain ⟨g2506, h⟩ := am_if_some h
    obtain ⟨g2507, h⟩ := am_if_some h
    by_cases c2508 : q2504 < ((J 66 2) + x1)
    · rw [if_pos c2508] at h
      refine am_r_f (show am_stepn X T_UpRiverModel_hisStep 7 true (75, [(0, am_pv 65), (1, am_iv x1), (2, am_iv x2), (3, am_iv x3), (4, am_iv s0)], [am_iv q2504], am_SH, (J, K, am_RF b)) = some (((decide (am_i32 ((J 66 2) + x1)) && decide (am_i32 q2504)) && (am_in 2 295 && true)), .inl (bif am_cb .ge q2504 ((J 66 2) + x1) then 90 else 86, [(0, am_pv 65), (1, am_iv x1), (2, am_iv x2), (3, am_iv x3), (4, am_iv s0)], [], am_SH, (J, K, am_RF b))) from rfl) (am_g2 g2506 g2507 (am_gi (by decide) rfl)) (am_nd_t c2508) ?_
      refine am_r_go (show am_stepn X T_UpRiverModel_hisStep 2 true (86, [(0, am_pv 65), (1, am_iv x1), (2, am_iv x2), (3, am_iv x3), (4, am_iv s0)], [], am_SH, (J, K, am_RF b)) = some (true, .inl (91, [(0, am_pv 65), (2, am_iv x2), (3, am_iv x3)], [am_iv 1], am_SH, (J, K, am_RF b))) from rfl) rfl ?_
      exact s_UpRiverModel_hisStep_L91  _ _ _ _ _ h
    · rw [if_neg c2508] at h
      refine am_r_t (show am_stepn X T_UpRiverModel_hisStep 7 true (75, [(0, am_pv 65), (1, am_iv x1), (2, am_iv x2), (3, am_iv x3), (4, am_iv s0)], [am_iv q2504], am_SH, (J, K, am_RF b)) = some (((decide (am_i32 ((J 66 2) + x1)) && decide (am_i32 q2504)) && (am_in 2 295 && true)), .inl (bif am_cb .ge q2504 ((J 66 2) + x1) then 90 else 86, [(0, am_pv 65), (1, am_iv x1), (2, am_iv x2), (3, am_iv x3), (4, am_iv s0)], [], am_SH, (J, K, am_RF b))) from rfl) (am_g2 g2506 g2507 (am_gi (by decide) rfl)) (am_nd_f c2508) ?_
      refine am_r_go (show am_stepn X T_UpRiverModel_hisStep 1 true (90, [(0, am_pv 65), (1, am_iv x1), (2, am_iv x2), (3, am_iv x3), (4, am_iv s0)], [], am_SH, (J, K, am_RF b)) = some (true, .inl (91, [(0, am_pv 65), (2, am_iv x2), (3, am_iv x3)], [am_iv 0], am_SH, (J, K, am_RF b))) from rfl) rfl ?_
      exact s_UpRiverModel_hisStep_L91  _ _ _ _ _ h
theorem s_UpRiverModel_hisStep {X : am_X} {b : Bool} {K : am_K} {x1 : Int} {x2 : Int} {J : am_J} {r : am_J} (h : f_UpRiverModel_hisStep  x1 x2 J = some r) : am_runs X T_UpRiverModel_hisStep (0, [(0, am_pv 65), (1, am_iv x1), (2, am_iv x2)], [], am_SH, (J, K, am_RF b)) (none, am_SH, (r, K, am_RF b)) := by
  unfold f_UpRiverModel_hisStep at h
  obtain ⟨g2509, h⟩ := am_if_some h
  obtain ⟨q2510, e2511, h⟩ := am_bind_some h
  refine am_r_call (show am_stepn X T_UpRiverModel_hisStep 12 true (0, [(0, am_pv 65), (1, am_iv x1), (2, am_iv x2)], [], am_SH, (J, K, am_RF b)) = some (((decide (0 < (8 : Int) ∧ am_i32 8) && decide (am_i32 (J 65 27))) && true), .inr (.inl (182, [am_pv 65, am_iv (am_dv (J 65 27) 8), am_iv (J 65 28), am_iv (J 65 30)], 4, 0, 0, 21, [(0, am_pv 65), (1, am_iv x1), (2, am_iv x2), (3, am_iv (am_dv (J 65 27) 8))], [], am_SH, (J, K, am_RF b)))) from rfl) (am_g2 (by decide) g2509 rfl) tb_UpRiverModel_isAfloat (s_UpRiverModel_isAfloat e2511) ?_
  obtain ⟨g2512, h⟩ := am_if_some h
  by_cases c2513 : q2510 = 0
  · rw [if_pos c2513] at h
    refine am_r_f (show am_stepn X T_UpRiverModel_hisStep 1 true (21, [(0, am_pv 65), (1, am_iv x1), (2, am_iv x2), (3, am_iv (am_dv (J 65 27) 8))], [am_iv q2510], am_SH, (J, K, am_RF b)) = some ((decide (am_i32 q2510) && true), .inl (bif am_cb .ne q2510 0 then 30 else 24, [(0, am_pv 65), (1, am_iv x1), (2, am_iv x2), (3, am_iv (am_dv (J 65 27) 8))], [], am_SH, (J, K, am_RF b))) from rfl) (am_g1 g2512 rfl) (am_nd_t c2513) ?_
    obtain ⟨q2514, e2515, h⟩ := am_bind_some h
    refine am_r_call (show am_stepn X T_UpRiverModel_hisStep 3 true (24, [(0, am_pv 65), (1, am_iv x1), (2, am_iv x2), (3, am_iv (am_dv (J 65 27) 8))], [], am_SH, (J, K, am_RF b)) = some (true, .inr (.inl (222, [am_pv 65, am_iv 0], 3, 0, 0, 29, [(0, am_pv 65)], [], am_SH, (J, K, am_RF b)))) from rfl) rfl tb_UpRiverModel_hisMove (s_UpRiverModel_hisMove e2515) ?_
    obtain rfl := Option.some.inj h
    exact am_r_ret (show am_stepn X T_UpRiverModel_hisStep 1 true (29, [(0, am_pv 65)], [], am_SH, (q2514, K, am_RF b)) = some (true, .inr (.inr (none, am_SH, (q2514, K, am_RF b)))) from rfl) rfl
  · rw [if_neg c2513] at h
    refine am_r_t (show am_stepn X T_UpRiverModel_hisStep 1 true (21, [(0, am_pv 65), (1, am_iv x1), (2, am_iv x2), (3, am_iv (am_dv (J 65 27) 8))], [am_iv q2510], am_SH, (J, K, am_RF b)) = some ((decide (am_i32 q2510) && true), .inl (bif am_cb .ne q2510 0 then 30 else 24, [(0, am_pv 65), (1, am_iv x1), (2, am_iv x2), (3, am_iv (am_dv (J 65 27) 8))], [], am_SH, (J, K, am_RF b))) from rfl) (am_g1 g2512 rfl) (am_nd_f c2513) ?_
    obtain ⟨g2516, h⟩ := am_if_some h
    by_cases c2517 : (J 65 29) = 0
    · rw [if_pos c2517] at h
      refine am_r_f (show am_stepn X T_UpRiverModel_hisStep 3 true (30, [(0, am_pv 65), (1, am_iv x1), (2, am_iv x2), (3, am_iv (am_dv (J 65 27) 8))], [], am_SH, (J, K, am_RF b)) = some ((decide (am_i32 (J 65 29)) && true), .inl (bif am_cb .ne (J 65 29) 0 then 46 else 37, [(0, am_pv 65), (1, am_iv x1), (2, am_iv x2), (3, am_iv (am_dv (J 65 27) 8))], [], am_SH, (J, K, am_RF b))) from rfl) (am_g1 g2516 rfl) (am_nd_t c2517) ?_
      refine am_r_go (show am_stepn X T_UpRiverModel_hisStep 5 true (37, [(0, am_pv 65), (1, am_iv x1), (2, am_iv x2), (3, am_iv (am_dv (J 65 27) 8))], [], am_SH, (J, K, am_RF b)) = some (true, .inl (52, [(0, am_pv 65), (1, am_iv x1), (2, am_iv x2), (3, am_iv (am_dv (J 65 27) 8))], [am_iv ((J 65 28) + 1)], am_SH, (J, K, am_RF b))) from rfl) rfl ?_
      exact s_UpRiverModel_hisStep_L52  _ _ _ _ _ _ h
    · rw [if_neg c2517] at h
      refine am_r_t (show am_stepn X T_UpRiverModel_hisStep 3 true (30, [(0, am_pv 65), (1, am_iv x1), (2, am_iv x2), (3, am_iv (am_dv (J 65 27) 8))], [], am_SH, (J, K, am_RF b)) = some ((decide (am_i32 (J 65 29)) && true), .inl (bif am_cb .ne (J 65 29) 0 then 46 else 37, [(0, am_pv 65), (1, am_iv x1), (2, am_iv x2), (3, am_iv (am_dv (J 65 27) 8))], [], am_SH, (J, K, am_RF b))) from rfl) (am_g1 g2516 rfl) (am_nd_f c2517) ?_
      refine am_r_go (show am_stepn X T_UpRiverModel_hisStep 4 true (46, [(0, am_pv 65), (1, am_iv x1), (2, am_iv x2), (3, am_iv (am_dv (J 65 27) 8))], [], am_SH, (J, K, am_RF b)) = some (true, .inl (52, [(0, am_pv 65), (1, am_iv x1), (2, am_iv x2), (3, am_iv (am_dv (J 65 27) 8))], [am_iv ((J 65 28) - 1)], am_SH, (J, K, am_RF b))) from rfl) rfl ?_
      exact s_UpRiverModel_hisStep_L52  _ _ _ _ _ _ h
theorem s_UpRiverModel_skips_L62 {X : am_X} {b : Bool} {K : am_K}  : ∀ (J : am_J) (r : Int × am_J), f_UpRiverModel_skips_L62    J = some r → am_runs X T_UpRiverModel_skips (62, [(0, am_pv 65)], [], am_SH, (J, K, am_RF b)) (some (am_iv r.1), am_SH, (r.2, K, am_RF b)) := by
  intro J r h
  unfold f_UpRiverModel_skips_L62 at h
  obtain ⟨q2518, e2519, h⟩ := am_bind_some h
  refine am_r_call (show am_stepn X T_UpRiverModel_skips 4 true (62, [(0, am_pv 65)], [], am_SH, (J, K, am_RF b)) = some (true, .inr (.inl (186, [am_pv 65], 1, 0, 0, 70, [(0, am_pv 65)], [am_iv (J 65 27)], am_SH, (J, K, am_RF b)))) from rfl) rfl tb_UpRiverModel_top (s_UpRiverModel_top e2519) ?_
  obtain ⟨g2520, h⟩ := am_if_some h
  obtain ⟨g2521, h⟩ := am_if_some h
  by_cases c2522 : (J 65 27) < q2518
  · rw [if_pos c2522] at h
    refine am_r_t (show am_stepn X T_UpRiverModel_skips 1 true (70, [(0, am_pv 65)], [am_iv q2518, am_iv (J 65 27)], am_SH, (J, K, am_RF b)) = some (((decide (am_i32 q2518) && decide (am_i32 (J 65 27))) && true), .inl (bif am_cb .lt (J 65 27) q2518 then 80 else 73, [(0, am_pv 65)], [], am_SH, (J, K, am_RF b))) from rfl) (am_g2 g2520 g2521 rfl) (decide_eq_true c2522) ?_
    obtain rfl := Option.some.inj h
    exact am_r_ret (show am_stepn X T_UpRiverModel_skips 2 true (80, [(0, am_pv 65)], [], am_SH, (J, K, am_RF b)) = some (true, .inr (.inr (some (am_iv (-4)), am_SH, (J, K, am_RF b)))) from rfl) rfl
  · rw [if_neg c2522] at h
    refine am_r_f (show am_stepn X T_UpRiverModel_skips 1 true (70, [(0, am_pv 65)], [am_iv q2518, am_iv (J 65 27)], am_SH, (J, K, am_RF b)) = some (((decide (am_i32 q2518) && decide (am_i32 (J 65 27))) && true), .inl (bif am_cb .lt (J 65 27) q2518 then 80 else 73, [(0, am_pv 65)], [], am_SH, (J, K, am_RF b))) from rfl) (am_g2 g2520 g2521 rfl) (decide_eq_false c2522) ?_
    obtain rfl := Option.some.inj h
    exact am_r_ret (show am_stepn X T_UpRiverModel_skips 4 true (73, [(0, am_pv 65)], [], am_SH, (J, K, am_RF b)) = some (true, .inr (.inr (some (am_iv (J 65 30)), am_SH, (J, K, am_RF b)))) from rfl) rfl
theorem s_UpRiverModel_skips_L37 {X : am_X} {b : Bool} {K : am_K}  : ∀ (J : am_J) (r : Int × am_J), f_UpRiverModel_skips_L37    J = some r → am_runs X T_UpRiverModel_skips (37, [(0, am_pv 65)], [], am_SH, (J, K, am_RF b)) (some (am_iv r.1), am_SH, (r.2, K, am_RF b)) := by
  intro J r h
  unfold f_UpRiverModel_skips_L37 at h
  obtain ⟨q2523, e2524, h⟩ := am_bind_some h
  refine am_r_call (show am_stepn X T_UpRiverModel_skips 4 true (37, [(0, am_pv 65)], [], am_SH, (J, K, am_RF b)) = some (true, .inr (.inl (186, [am_pv 65], 1, 0, 0, 45, [(0, am_pv 65)], [am_iv (J 65 27)], am_SH, (J, K, am_RF b)))) from rfl) rfl tb_UpRiverModel_top (s_UpRiverModel_top e2524) ?_
  obtain ⟨g2525, h⟩ := am_if_some h
  obtain ⟨g2526, h⟩ := am_if_some h
  by_cases c2527 : (J 65 27) < q2523
  · rw [if_pos c2527] at h
    refine am_r_f (show am_stepn X T_UpRiverModel_skips 1 true (45, [(0, am_pv 65)], [am_iv q2523, am_iv (J 65 27)], am_SH, (J, K, am_RF b)) = some (((decide (am_i32 q2523) && decide (am_i32 (J 65 27))) && true), .inl (bif am_cb .ge (J 65 27) q2523 then 62 else 48, [(0, am_pv 65)], [], am_SH, (J, K, am_RF b))) from rfl) (am_g2 g2525 g2526 rfl) (am_nd_t c2527) ?_
    obtain ⟨q2528, e2529, h⟩ := am_bind_some h
    refine am_r_call (show am_stepn X T_UpRiverModel_skips 8 true (48, [(0, am_pv 65)], [], am_SH, (J, K, am_RF b)) = some (true, .inr (.inl (223, [am_pv 65, am_iv (J 65 30), am_iv ((J 65 30) + 1)], 5, 0, 0, 62, [(0, am_pv 65)], [], am_SH, (J, K, am_RF b)))) from rfl) rfl tb_UpRiverModel_meets (s_UpRiverModel_meets e2529) ?_
    exact s_UpRiverModel_skips_L62  _ _ h
  · rw [if_neg c2527] at h
    refine am_r_t (show am_stepn X T_UpRiverModel_skips 1 true (45, [(0, am_pv 65)], [am_iv q2523, am_iv (J 65 27)], am_SH, (J, K, am_RF b)) = some (((decide (am_i32 q2523) && decide (am_i32 (J 65 27))) && true), .inl (bif am_cb .ge (J 65 27) q2523 then 62 else 48, [(0, am_pv 65)], [], am_SH, (J, K, am_RF b))) from rfl) (am_g2 g2525 g2526 rfl) (am_nd_f c2527) ?_
    exact s_UpRiverModel_skips_L62  _ _ h
theorem s_UpRiverModel_skips_L7 {X : am_X} {b : Bool} {K : am_K}  : ∀ (n : Nat) (x1 : Int) (x2 : Int) (J : am_J) (r : Int × am_J), f_UpRiverModel_skips_L7   n x1 x2 J = some r → am_runs X T_UpRiverModel_skips (7, [(0, am_pv 65), (1, am_iv x1), (2, am_iv x2)], [], am_SH, (J, K, am_RF b)) (some (am_iv r.1), am_SH, (r.2, K, am_RF b)) := by
  intro n
  induction n with
  | zero =>
    intro x1 x2 J r h
    cases h
  | succ n ih =>
    intro x1 x2 J r h
    rw [f_UpRiverModel_skips_L7.eq_2] at h
    obtain ⟨q2530, e2531, h⟩ := am_bind_some h
    refine am_r_call (show am_stepn X T_UpRiverModel_skips 4 true (7, [(0, am_pv 65), (1, am_iv x1), (2, am_iv x2)], [], am_SH, (J, K, am_RF b)) = some (true, .inr (.inl (186, [am_pv 65], 1, 0, 0, 15, [(0, am_pv 65), (1, am_iv x1), (2, am_iv x2)], [am_iv (J 65 27)], am_SH, (J, K, am_RF b)))) from rfl) rfl tb_UpRiverModel_top (s_UpRiverModel_top e2531) ?_
    obtain ⟨g2532, h⟩ := am_if_some h
    obtain ⟨g2533, h⟩ := am_if_some h
    by_cases c2534 : (J 65 27) < q2530
    · rw [if_pos c2534] at h
      refine am_r_f (show am_stepn X T_UpRiverModel_skips 1 true (15, [(0, am_pv 65), (1, am_iv x1), (2, am_iv x2)], [am_iv q2530, am_iv (J 65 27)], am_SH, (J, K, am_RF b)) = some (((decide (am_i32 q2530) && decide (am_i32 (J 65 27))) && true), .inl (bif am_cb .ge (J 65 27) q2530 then 37 else 18, [(0, am_pv 65), (1, am_iv x1), (2, am_iv x2)], [], am_SH, (J, K, am_RF b))) from rfl) (am_g2 g2532 g2533 rfl) (am_nd_t c2534) ?_
      obtain ⟨g2535, h⟩ := am_if_some h
      by_cases c2536 : (J 65 30) < 300
      · rw [if_pos c2536] at h
        refine am_r_f (show am_stepn X T_UpRiverModel_skips 4 true (18, [(0, am_pv 65), (1, am_iv x1), (2, am_iv x2)], [], am_SH, (J, K, am_RF b)) = some (((decide (am_i32 300) && decide (am_i32 (J 65 30))) && true), .inl (bif am_cb .ge (J 65 30) 300 then 37 else 28, [(0, am_pv 65), (1, am_iv x1), (2, am_iv x2)], [], am_SH, (J, K, am_RF b))) from rfl) (am_g2 (by decide) g2535 rfl) (am_nd_t c2536) ?_
        obtain ⟨q2537, e2538, h⟩ := am_bind_some h
        refine am_r_call (show am_stepn X T_UpRiverModel_skips 4 true (28, [(0, am_pv 65), (1, am_iv x1), (2, am_iv x2)], [], am_SH, (J, K, am_RF b)) = some (true, .inr (.inl (221, [am_pv 65, am_iv x1, am_iv x2], 7, 0, 0, 34, [(0, am_pv 65), (1, am_iv x1), (2, am_iv x2)], [], am_SH, (J, K, am_RF b)))) from rfl) rfl tb_UpRiverModel_hisStep (s_UpRiverModel_hisStep e2538) ?_
        refine am_r_go (show am_stepn X T_UpRiverModel_skips 1 true (34, [(0, am_pv 65), (1, am_iv x1), (2, am_iv x2)], [], am_SH, (q2537, K, am_RF b)) = some (true, .inl (7, [(0, am_pv 65), (1, am_iv x1), (2, am_iv x2)], [], am_SH, (q2537, K, am_RF b))) from rfl) rfl ?_
        exact ih _ _ _ _ h
      · rw [if_neg c2536] at h
        refine am_r_t (show am_stepn X T_UpRiverModel_skips 4 true (18, [(0, am_pv 65), (1, am_iv x1), (2, am_iv x2)], [], am_SH, (J, K, am_RF b)) = some (((decide (am_i32 300) && decide (am_i32 (J 65 30))) && true), .inl (bif am_cb .ge (J 65 30) 300 then 37 else 28, [(0, am_pv 65), (1, am_iv x1), (2, am_iv x2)], [], am_SH, (J, K, am_RF b))) from rfl) (am_g2 (by decide) g2535 rfl) (am_nd_f c2536) ?_
        refine am_r_eq (σ' := (37, [(0, am_pv 65)], [], am_SH, (J, K, am_RF b))) rfl ?_
        exact s_UpRiverModel_skips_L37  _ _ h
    · rw [if_neg c2534] at h
      refine am_r_t (show am_stepn X T_UpRiverModel_skips 1 true (15, [(0, am_pv 65), (1, am_iv x1), (2, am_iv x2)], [am_iv q2530, am_iv (J 65 27)], am_SH, (J, K, am_RF b)) = some (((decide (am_i32 q2530) && decide (am_i32 (J 65 27))) && true), .inl (bif am_cb .ge (J 65 27) q2530 then 37 else 18, [(0, am_pv 65), (1, am_iv x1), (2, am_iv x2)], [], am_SH, (J, K, am_RF b))) from rfl) (am_g2 g2532 g2533 rfl) (am_nd_f c2534) ?_
      refine am_r_eq (σ' := (37, [(0, am_pv 65)], [], am_SH, (J, K, am_RF b))) rfl ?_
      exact s_UpRiverModel_skips_L37  _ _ h
theorem s_UpRiverModel_skips {X : am_X} {b : Bool} {K : am_K} {x1 : Int} {x2 : Int} {x3 : Int} {x4 : Int} {J : am_J} {r : Int × am_J} (h : f_UpRiverModel_skips  x1 x2 x3 x4 J = some r) : am_runs X T_UpRiverModel_skips (0, [(0, am_pv 65), (1, am_iv x1), (2, am_iv x2), (3, am_iv x3), (4, am_iv x4)], [], am_SH, (J, K, am_RF b)) (some (am_iv r.1), am_SH, (r.2, K, am_RF b)) := by
  unfold f_UpRiverModel_skips at h
  obtain ⟨q2539, e2540, h⟩ := am_bind_some h
  refine am_r_call (show am_stepn X T_UpRiverModel_skips 4 true (0, [(0, am_pv 65), (1, am_iv x1), (2, am_iv x2), (3, am_iv x3), (4, am_iv x4)], [], am_SH, (J, K, am_RF b)) = some (true, .inr (.inl (220, [am_pv 65, am_iv x3, am_iv x4], 3, 0, 0, 7, [(0, am_pv 65), (1, am_iv x1), (2, am_iv x2), (3, am_iv x3), (4, am_iv x4)], [], am_SH, (J, K, am_RF b)))) from rfl) rfl tb_UpRiverModel_hisBegin (s_UpRiverModel_hisBegin e2540) ?_
  refine am_r_eq (σ' := (7, [(0, am_pv 65), (1, am_iv x1), (2, am_iv x2)], [], am_SH, (q2539, K, am_RF b))) rfl ?_
  exact s_UpRiverModel_skips_L7  _ _ _ _ _ h
theorem s_UpRiverModel_skipper {X : am_X} {b : Bool} {K : am_K} {x1 : Int} {x2 : Int} {x3 : Int} {J : am_J} {r : Int × am_J} (h : f_UpRiverModel_skipper  x1 x2 x3 J = some r) : am_runs X T_UpRiverModel_skipper (0, [(0, am_pv 65), (1, am_iv x1), (2, am_iv x2), (3, am_iv x3)], [], am_SH, (J, K, am_RF b)) (some (am_iv r.1), am_SH, (r.2, K, am_RF b)) := by
  unfold f_UpRiverModel_skipper at h
  obtain ⟨q2541, e2542, h⟩ := am_bind_some h
  refine am_r_call (show am_stepn X T_UpRiverModel_skipper 3 true (0, [(0, am_pv 65), (1, am_iv x1), (2, am_iv x2), (3, am_iv x3)], [], am_SH, (J, K, am_RF b)) = some (true, .inr (.inl (218, [am_iv x1, am_iv x2], 2, 0, 0, 5, [(0, am_pv 65), (1, am_iv x1), (2, am_iv x2), (3, am_iv x3)], [], am_SH, (J, K, am_RF b)))) from rfl) rfl tb_UpRiverModel_isSkipper (s_UpRiverModel_isSkipper e2542) ?_
  obtain ⟨g2543, h⟩ := am_if_some h
  by_cases c2544 : q2541 = 0
  · rw [if_pos c2544] at h
    refine am_r_t (show am_stepn X T_UpRiverModel_skipper 1 true (5, [(0, am_pv 65), (1, am_iv x1), (2, am_iv x2), (3, am_iv x3)], [am_iv q2541], am_SH, (J, K, am_RF b)) = some ((decide (am_i32 q2541) && true), .inl (bif am_cb .eq q2541 0 then 20 else 8, [(0, am_pv 65), (1, am_iv x1), (2, am_iv x2), (3, am_iv x3)], [], am_SH, (J, K, am_RF b))) from rfl) (am_g1 g2543 rfl) (decide_eq_true c2544) ?_
    obtain rfl := Option.some.inj h
    exact am_r_ret (show am_stepn X T_UpRiverModel_skipper 2 true (20, [(0, am_pv 65), (1, am_iv x1), (2, am_iv x2), (3, am_iv x3)], [], am_SH, (J, K, am_RF b)) = some (true, .inr (.inr (some (am_iv (-1)), am_SH, (J, K, am_RF b)))) from rfl) rfl
  · rw [if_neg c2544] at h
    refine am_r_f (show am_stepn X T_UpRiverModel_skipper 1 true (5, [(0, am_pv 65), (1, am_iv x1), (2, am_iv x2), (3, am_iv x3)], [am_iv q2541], am_SH, (J, K, am_RF b)) = some ((decide (am_i32 q2541) && true), .inl (bif am_cb .eq q2541 0 then 20 else 8, [(0, am_pv 65), (1, am_iv x1), (2, am_iv x2), (3, am_iv x3)], [], am_SH, (J, K, am_RF b))) from rfl) (am_g1 g2543 rfl) (decide_eq_false c2544) ?_
    obtain ⟨q2545, e2546, h⟩ := am_bind_some h
    refine am_r_call (show am_stepn X T_UpRiverModel_skipper 5 true (8, [(0, am_pv 65), (1, am_iv x1), (2, am_iv x2), (3, am_iv x3)], [], am_SH, (J, K, am_RF b)) = some (true, .inr (.inl (150, [am_jv (am_i2l x3), am_jv (0 : Int64), am_jv (2 : Int64)], 6, 0, 0, 17, [(0, am_pv 65), (1, am_iv x1), (2, am_iv x2), (3, am_iv x3)], [], am_SH, (J, K, am_RF b)))) from rfl) rfl tb_UpRiverModel_in (s_UpRiverModel_in e2546) ?_
    obtain ⟨g2547, h⟩ := am_if_some h
    by_cases c2548 : q2545 = 0
    · rw [if_pos c2548] at h
      refine am_r_f (show am_stepn X T_UpRiverModel_skipper 1 true (17, [(0, am_pv 65), (1, am_iv x1), (2, am_iv x2), (3, am_iv x3)], [am_iv q2545], am_SH, (J, K, am_RF b)) = some ((decide (am_i32 q2545) && true), .inl (bif am_cb .ne q2545 0 then 22 else 20, [(0, am_pv 65), (1, am_iv x1), (2, am_iv x2), (3, am_iv x3)], [], am_SH, (J, K, am_RF b))) from rfl) (am_g1 g2547 rfl) (am_nd_t c2548) ?_
      obtain rfl := Option.some.inj h
      exact am_r_ret (show am_stepn X T_UpRiverModel_skipper 2 true (20, [(0, am_pv 65), (1, am_iv x1), (2, am_iv x2), (3, am_iv x3)], [], am_SH, (J, K, am_RF b)) = some (true, .inr (.inr (some (am_iv (-1)), am_SH, (J, K, am_RF b)))) from rfl) rfl
    · rw [if_neg c2548] at h
      refine am_r_t (show am_stepn X T_UpRiverModel_skipper 1 true (17, [(0, am_pv 65), (1, am_iv x1), (2, am_iv x2), (3, am_iv x3)], [am_iv q2545], am_SH, (J, K, am_RF b)) = some ((decide (am_i32 q2545) && true), .inl (bif am_cb .ne q2545 0 then 22 else 20, [(0, am_pv 65), (1, am_iv x1), (2, am_iv x2), (3, am_iv x3)], [], am_SH, (J, K, am_RF b))) from rfl) (am_g1 g2547 rfl) (am_nd_f c2548) ?_
      obtain ⟨q2549, e2550, h⟩ := am_bind_some h
      refine am_r_call (show am_stepn X T_UpRiverModel_skipper 2 true (22, [(0, am_pv 65), (1, am_iv x1), (2, am_iv x2), (3, am_iv x3)], [], am_SH, (J, K, am_RF b)) = some (true, .inr (.inl (185, [am_pv 65], 1, 0, 0, 26, [(0, am_pv 65), (1, am_iv x1), (2, am_iv x2), (3, am_iv x3)], [], am_SH, (J, K, am_RF b)))) from rfl) rfl tb_UpRiverModel_isUp (s_UpRiverModel_isUp e2550) ?_
      obtain ⟨g2551, h⟩ := am_if_some h
      by_cases c2552 : q2549 = 0
      · rw [if_pos c2552] at h
        refine am_r_t (show am_stepn X T_UpRiverModel_skipper 1 true (26, [(0, am_pv 65), (1, am_iv x1), (2, am_iv x2), (3, am_iv x3)], [am_iv q2549], am_SH, (J, K, am_RF b)) = some ((decide (am_i32 q2549) && true), .inl (bif am_cb .eq q2549 0 then 32 else 29, [(0, am_pv 65), (1, am_iv x1), (2, am_iv x2), (3, am_iv x3)], [], am_SH, (J, K, am_RF b))) from rfl) (am_g1 g2551 rfl) (decide_eq_true c2552) ?_
        obtain ⟨q2553, e2554, h⟩ := am_bind_some h
        refine am_r_call (show am_stepn X T_UpRiverModel_skipper 6 true (32, [(0, am_pv 65), (1, am_iv x1), (2, am_iv x2), (3, am_iv x3)], [], am_SH, (J, K, am_RF b)) = some (true, .inr (.inl (219, [am_pv 65, am_iv x1, am_iv x2, am_iv (-4), am_iv 0], 5, 0, 0, 41, [(0, am_pv 65), (1, am_iv x1), (2, am_iv x2), (3, am_iv x3)], [], am_SH, (J, K, am_RF b)))) from rfl) rfl tb_UpRiverModel_skips (s_UpRiverModel_skips e2554) ?_
        obtain ⟨g2555, h⟩ := am_if_some h
        by_cases c2556 : x3 = 0
        · rw [if_pos c2556] at h
          refine am_r_f (show am_stepn X T_UpRiverModel_skipper 3 true (41, [(0, am_pv 65), (1, am_iv x1), (2, am_iv x2), (3, am_iv x3)], [am_iv q2553.1], am_SH, (q2553.2, K, am_RF b)) = some ((decide (am_i32 x3) && true), .inl (bif am_cb .ne x3 0 then 52 else 47, [(0, am_pv 65), (1, am_iv x1), (2, am_iv x2), (3, am_iv x3), (4, am_iv q2553.1)], [], am_SH, (q2553.2, K, am_RF b))) from rfl) (am_g1 g2555 rfl) (am_nd_t c2556) ?_
          obtain rfl := Option.some.inj h
          exact am_r_ret (show am_stepn X T_UpRiverModel_skipper 3 true (47, [(0, am_pv 65), (1, am_iv x1), (2, am_iv x2), (3, am_iv x3), (4, am_iv q2553.1)], [], am_SH, (q2553.2, K, am_RF b)) = some (true, .inr (.inr (some (am_iv q2553.1), am_SH, (q2553.2, K, am_RF b)))) from rfl) rfl
        · rw [if_neg c2556] at h
          refine am_r_t (show am_stepn X T_UpRiverModel_skipper 3 true (41, [(0, am_pv 65), (1, am_iv x1), (2, am_iv x2), (3, am_iv x3)], [am_iv q2553.1], am_SH, (q2553.2, K, am_RF b)) = some ((decide (am_i32 x3) && true), .inl (bif am_cb .ne x3 0 then 52 else 47, [(0, am_pv 65), (1, am_iv x1), (2, am_iv x2), (3, am_iv x3), (4, am_iv q2553.1)], [], am_SH, (q2553.2, K, am_RF b))) from rfl) (am_g1 g2555 rfl) (am_nd_f c2556) ?_
          by_cases c2557 : x3 = 1
          · rw [if_pos c2557] at h
            refine am_r_f (show am_stepn X T_UpRiverModel_skipper 3 true (52, [(0, am_pv 65), (1, am_iv x1), (2, am_iv x2), (3, am_iv x3), (4, am_iv q2553.1)], [], am_SH, (q2553.2, K, am_RF b)) = some (((decide (am_i32 1) && decide (am_i32 x3)) && true), .inl (bif am_cb .ne x3 1 then 64 else 57, [(0, am_pv 65), (3, am_iv x3)], [], am_SH, (q2553.2, K, am_RF b))) from rfl) (am_g2 (by decide) g2555 rfl) (am_nd_t c2557) ?_
            obtain rfl := Option.some.inj h
            exact am_r_ret (show am_stepn X T_UpRiverModel_skipper 4 true (57, [(0, am_pv 65), (3, am_iv x3)], [], am_SH, (q2553.2, K, am_RF b)) = some (true, .inr (.inr (some (am_iv (q2553.2 65 31)), am_SH, (q2553.2, K, am_RF b)))) from rfl) rfl
          · rw [if_neg c2557] at h
            refine am_r_t (show am_stepn X T_UpRiverModel_skipper 3 true (52, [(0, am_pv 65), (1, am_iv x1), (2, am_iv x2), (3, am_iv x3), (4, am_iv q2553.1)], [], am_SH, (q2553.2, K, am_RF b)) = some (((decide (am_i32 1) && decide (am_i32 x3)) && true), .inl (bif am_cb .ne x3 1 then 64 else 57, [(0, am_pv 65), (3, am_iv x3)], [], am_SH, (q2553.2, K, am_RF b))) from rfl) (am_g2 (by decide) g2555 rfl) (am_nd_f c2557) ?_
            obtain rfl := Option.some.inj h
            exact am_r_ret (show am_stepn X T_UpRiverModel_skipper 3 true (64, [(0, am_pv 65), (3, am_iv x3)], [], am_SH, (q2553.2, K, am_RF b)) = some (true, .inr (.inr (some (am_iv (q2553.2 65 32)), am_SH, (q2553.2, K, am_RF b)))) from rfl) rfl
      · rw [if_neg c2552] at h
        refine am_r_f (show am_stepn X T_UpRiverModel_skipper 1 true (26, [(0, am_pv 65), (1, am_iv x1), (2, am_iv x2), (3, am_iv x3)], [am_iv q2549], am_SH, (J, K, am_RF b)) = some ((decide (am_i32 q2549) && true), .inl (bif am_cb .eq q2549 0 then 32 else 29, [(0, am_pv 65), (1, am_iv x1), (2, am_iv x2), (3, am_iv x3)], [], am_SH, (J, K, am_RF b))) from rfl) (am_g1 g2551 rfl) (decide_eq_false c2552) ?_
        obtain rfl := Option.some.inj h
        exact am_r_ret (show am_stepn X T_UpRiverModel_skipper 2 true (29, [(0, am_pv 65), (1, am_iv x1), (2, am_iv x2), (3, am_iv x3)], [], am_SH, (J, K, am_RF b)) = some (true, .inr (.inr (some (am_iv (-2)), am_SH, (J, K, am_RF b)))) from rfl) rfl
theorem s_UpRiverModel_best_L99 {X : am_X} {b : Bool} {K : am_K} {kb42 : Int → Int → Int → Int → Int → am_J → Option (Int × am_J)} (hk42 : ∀ (x1 : Int) (x2 : Int) (x3 : Int) (x4 : Int) (x5 : Int) (J : am_J) (r : Int × am_J), kb42 x1 x2 x3 x4 x5 J = some r → am_runs X T_UpRiverModel_best (42, [(0, am_pv 65), (1, am_iv x1), (2, am_iv x2), (3, am_iv x3), (4, am_iv x4), (5, am_iv x5)], [], am_SH, (J, K, am_RF b)) (some (am_iv r.1), am_SH, (r.2, K, am_RF b))) : ∀ (x1 : Int) (x2 : Int) (x4 : Int) (x5 : Int) (x6 : Int) (x7 : Int) (s0 : Int) (J : am_J) (r : Int × am_J), f_UpRiverModel_best_L99  kb42  x1 x2 x4 x5 x6 x7 s0 J = some r → am_runs X T_UpRiverModel_best (99, [(0, am_pv 65), (1, am_iv x1), (2, am_iv x2), (4, am_iv x4), (5, am_iv x5), (6, am_iv x6), (7, am_iv x7)], [am_iv s0], am_SH, (J, K, am_RF b)) (some (am_iv r.1), am_SH, (r.2, K, am_RF b)) := by
  intro x1 x2 x4 x5 x6 x7 s0 J r h
  unfold f_UpRiverModel_best_L99 at h
  obtain ⟨g2558, h⟩ := am_if_some h
  by_cases c2559 : x7 = 0
  · rw [if_pos c2559] at h
    refine am_r_t (show am_stepn X T_UpRiverModel_best 3 true (99, [(0, am_pv 65), (1, am_iv x1), (2, am_iv x2), (4, am_iv x4), (5, am_iv x5), (6, am_iv x6), (7, am_iv x7)], [am_iv s0], am_SH, (J, K, am_RF b)) = some ((decide (am_i32 x7) && true), .inl (bif am_cb .eq x7 0 then 110 else 105, [(0, am_pv 65), (1, am_iv x1), (2, am_iv x2), (3, am_iv s0), (4, am_iv x4), (5, am_iv x5), (6, am_iv x6), (7, am_iv x7)], [], am_SH, (J, K, am_RF b))) from rfl) (am_g1 g2558 rfl) (decide_eq_true c2559) ?_
    refine am_r_go (show am_stepn X T_UpRiverModel_best 4 true (110, [(0, am_pv 65), (1, am_iv x1), (2, am_iv x2), (3, am_iv s0), (4, am_iv x4), (5, am_iv x5), (6, am_iv x6), (7, am_iv x7)], [], am_SH, (J, K, am_RF b)) = some (true, .inl (42, [(0, am_pv 65), (1, am_iv x1), (2, am_iv x2), (3, am_iv s0), (4, am_iv x4), (5, am_iv (x5 + 1))], [], am_SH, (J, K, am_RF b))) from rfl) rfl ?_
    exact hk42 _ _ _ _ _ _ _ h
  · rw [if_neg c2559] at h
    refine am_r_f (show am_stepn X T_UpRiverModel_best 3 true (99, [(0, am_pv 65), (1, am_iv x1), (2, am_iv x2), (4, am_iv x4), (5, am_iv x5), (6, am_iv x6), (7, am_iv x7)], [am_iv s0], am_SH, (J, K, am_RF b)) = some ((decide (am_i32 x7) && true), .inl (bif am_cb .eq x7 0 then 110 else 105, [(0, am_pv 65), (1, am_iv x1), (2, am_iv x2), (3, am_iv s0), (4, am_iv x4), (5, am_iv x5), (6, am_iv x6), (7, am_iv x7)], [], am_SH, (J, K, am_RF b))) from rfl) (am_g1 g2558 rfl) (decide_eq_false c2559) ?_
    refine am_r_go (show am_stepn X T_UpRiverModel_best 5 true (105, [(0, am_pv 65), (1, am_iv x1), (2, am_iv x2), (3, am_iv s0), (4, am_iv x4), (5, am_iv x5), (6, am_iv x6), (7, am_iv x7)], [], am_SH, (J, K, am_RF b)) = some (true, .inl (42, [(0, am_pv 65), (1, am_iv x1), (2, am_iv x2), (3, am_iv s0), (4, am_iv x6), (5, am_iv (x5 + 1))], [], am_SH, (J, K, am_RF b))) from rfl) rfl ?_
    exact hk42 _ _ _ _ _ _ _ h
theorem s_UpRiverModel_best_L86 {X : am_X} {b : Bool} {K : am_K} {kb42 : Int → Int → Int → Int → Int → am_J → Option (Int × am_J)} (hk42 : ∀ (x1 : Int) (x2 : Int) (x3 : Int) (x4 : Int) (x5 : Int) (J : am_J) (r : Int × am_J), kb42 x1 x2 x3 x4 x5 J = some r → am_runs X T_UpRiverModel_best (42, [(0, am_pv 65), (1, am_iv x1), (2, am_iv x2), (3, am_iv x3), (4, am_iv x4), (5, am_iv x5)], [], am_SH, (J, K, am_RF b)) (some (am_iv r.1), am_SH, (r.2, K, am_RF b))) : ∀ (x1 : Int) (x2 : Int) (x3 : Int) (x4 : Int) (x5 : Int) (x6 : Int) (s0 : Int) (J : am_J) (r : Int × am_J), f_UpRiverModel_best_L86  kb42  x1 x2 x3 x4 x5 x6 s0 J = some r → am_runs X T_UpRiverModel_best (86, [(0, am_pv 65), (1, am_iv x1), (2, am_iv x2), (3, am_iv x3), (4, am_iv x4), (5, am_iv x5), (6, am_iv x6)], [am_iv s0], am_SH, (J, K, am_RF b)) (some (am_iv r.1), am_SH, (r.2, K, am_RF b)) := by
  intro x1 x2 x3 x4 x5 x6 s0 J r h
  unfold f_UpRiverModel_best_L86 at h
  obtain ⟨g2560, h⟩ := am_if_some h
  by_cases c2561 : s0 = 0
  · rw [if_pos c2561] at h
    refine am_r_t (show am_stepn X T_UpRiverModel_best 3 true (86, [(0, am_pv 65), (1, am_iv x1), (2, am_iv x2), (3, am_iv x3), (4, am_iv x4), (5, am_iv x5), (6, am_iv x6)], [am_iv s0], am_SH, (J, K, am_RF b)) = some ((decide (am_i32 s0) && true), .inl (bif am_cb .eq s0 0 then 98 else 93, [(0, am_pv 65), (1, am_iv x1), (2, am_iv x2), (3, am_iv x3), (4, am_iv x4), (5, am_iv x5), (6, am_iv x6), (7, am_iv s0)], [], am_SH, (J, K, am_RF b))) from rfl) (am_g1 g2560 rfl) (decide_eq_true c2561) ?_
    refine am_r_go (show am_stepn X T_UpRiverModel_best 1 true (98, [(0, am_pv 65), (1, am_iv x1), (2, am_iv x2), (3, am_iv x3), (4, am_iv x4), (5, am_iv x5), (6, am_iv x6), (7, am_iv s0)], [], am_SH, (J, K, am_RF b)) = some (true, .inl (99, [(0, am_pv 65), (1, am_iv x1), (2, am_iv x2), (3, am_iv x3), (4, am_iv x4), (5, am_iv x5), (6, am_iv x6), (7, am_iv s0)], [am_iv x3], am_SH, (J, K, am_RF b))) from rfl) rfl ?_
    refine am_r_eq (σ' := (99, [(0, am_pv 65), (1, am_iv x1), (2, am_iv x2), (4, am_iv x4), (5, am_iv x5), (6, am_iv x6), (7, am_iv s0)], [am_iv x3], am_SH, (J, K, am_RF b))) rfl ?_
    exact s_UpRiverModel_best_L99 hk42 _ _ _ _ _ _ _ _ _ h
  · rw [if_neg c2561] at h
    refine am_r_f (show am_stepn X T_UpRiverModel_best 3 true (86, [(0, am_pv 65), (1, am_iv x1), (2, am_iv x2), (3, am_iv x3), (4, am_iv x4), (5, am_iv x5), (6, am_iv x6)], [am_iv s0], am_SH, (J, K, am_RF b)) = some ((decide (am_i32 s0) && true), .inl (bif am_cb .eq s0 0 then 98 else 93, [(0, am_pv 65), (1, am_iv x1), (2, am_iv x2), (3, am_iv x3), (4, am_iv x4), (5, am_iv x5), (6, am_iv x6), (7, am_iv s0)], [], am_SH, (J, K, am_RF b))) from rfl) (am_g1 g2560 rfl) (decide_eq_false c2561) ?_
    refine am_r_go (show am_stepn X T_UpRiverModel_best 2 true (93, [(0, am_pv 65), (1, am_iv x1), (2, am_iv x2), (3, am_iv x3), (4, am_iv x4), (5, am_iv x5), (6, am_iv x6), (7, am_iv s0)], [], am_SH, (J, K, am_RF b)) = some (true, .inl (99, [(0, am_pv 65), (1, am_iv x1), (2, am_iv x2), (4, am_iv x4), (5, am_iv x5), (6, am_iv x6), (7, am_iv s0)], [am_iv x5], am_SH, (J, K, am_RF b))) from rfl) rfl ?_
    exact s_UpRiverModel_best_L99 hk42 _ _ _ _ _ _ _ _ _ h
theorem s_UpRiverModel_best_L42 {X : am_X} {b : Bool} {K : am_K}  : ∀ (n : Nat) (x1 : Int) (x2 : Int) (x3 : Int) (x4 : Int) (x5 : Int) (J : am_J) (r : Int × am_J), f_UpRiverModel_best_L42   n x1 x2 x3 x4 x5 J = some r → am_runs X T_UpRiverModel_best (42, [(0, am_pv 65), (1, am_iv x1), (2, am_iv x2), (3, am_iv x3), (4, am_iv x4), (5, am_iv x5)], [], am_SH, (J, K, am_RF b)) (some (am_iv r.1), am_SH, (r.2, K, am_RF b)) := by
  intro n
  induction n with
  | zero =>
    intro x1 x2 x3 x4 x5 J r h
    cases h
  | succ n ih =>
    intro x1 x2 x3 x4 x5 J r h
    rw [f_UpRiverModel_best_L42.eq_2] at h
    obtain ⟨g2562, h⟩ := am_if_some h
    by_cases c2563 : 20 < x5
    · rw [if_pos c2563] at h
      refine am_r_t (show am_stepn X T_UpRiverModel_best 3 true (42, [(0, am_pv 65), (1, am_iv x1), (2, am_iv x2), (3, am_iv x3), (4, am_iv x4), (5, am_iv x5)], [], am_SH, (J, K, am_RF b)) = some (((decide (am_i32 20) && decide (am_i32 x5)) && true), .inl (bif am_cb .gt x5 20 then 120 else 49, [(0, am_pv 65), (1, am_iv x1), (2, am_iv x2), (3, am_iv x3), (4, am_iv x4), (5, am_iv x5)], [], am_SH, (J, K, am_RF b))) from rfl) (am_g2 (by decide) g2562 rfl) (decide_eq_true c2563) ?_
      obtain ⟨g2564, h⟩ := am_if_some h
      by_cases c2565 : x2 = 0
      · rw [if_pos c2565] at h
        refine am_r_f (show am_stepn X T_UpRiverModel_best 2 true (120, [(0, am_pv 65), (1, am_iv x1), (2, am_iv x2), (3, am_iv x3), (4, am_iv x4), (5, am_iv x5)], [], am_SH, (J, K, am_RF b)) = some ((decide (am_i32 x2) && true), .inl (bif am_cb .ne x2 0 then 128 else 124, [(2, am_iv x2), (3, am_iv x3), (4, am_iv x4)], [], am_SH, (J, K, am_RF b))) from rfl) (am_g1 g2564 rfl) (am_nd_t c2565) ?_
        obtain rfl := Option.some.inj h
        exact am_r_ret (show am_stepn X T_UpRiverModel_best 3 true (124, [(2, am_iv x2), (3, am_iv x3), (4, am_iv x4)], [], am_SH, (J, K, am_RF b)) = some (true, .inr (.inr (some (am_iv x3), am_SH, (J, K, am_RF b)))) from rfl) rfl
      · rw [if_neg c2565] at h
        refine am_r_t (show am_stepn X T_UpRiverModel_best 2 true (120, [(0, am_pv 65), (1, am_iv x1), (2, am_iv x2), (3, am_iv x3), (4, am_iv x4), (5, am_iv x5)], [], am_SH, (J, K, am_RF b)) = some ((decide (am_i32 x2) && true), .inl (bif am_cb .ne x2 0 then 128 else 124, [(2, am_iv x2), (3, am_iv x3), (4, am_iv x4)], [], am_SH, (J, K, am_RF b))) from rfl) (am_g1 g2564 rfl) (am_nd_f c2565) ?_
        obtain rfl := Option.some.inj h
        exact am_r_ret (show am_stepn X T_UpRiverModel_best 2 true (128, [(2, am_iv x2), (3, am_iv x3), (4, am_iv x4)], [], am_SH, (J, K, am_RF b)) = some (true, .inr (.inr (some (am_iv x4), am_SH, (J, K, am_RF b)))) from rfl) rfl
    · rw [if_neg c2563] at h
      refine am_r_f (show am_stepn X T_UpRiverModel_best 3 true (42, [(0, am_pv 65), (1, am_iv x1), (2, am_iv x2), (3, am_iv x3), (4, am_iv x4), (5, am_iv x5)], [], am_SH, (J, K, am_RF b)) = some (((decide (am_i32 20) && decide (am_i32 x5)) && true), .inl (bif am_cb .gt x5 20 then 120 else 49, [(0, am_pv 65), (1, am_iv x1), (2, am_iv x2), (3, am_iv x3), (4, am_iv x4), (5, am_iv x5)], [], am_SH, (J, K, am_RF b))) from rfl) (am_g2 (by decide) g2562 rfl) (decide_eq_false c2563) ?_
      obtain ⟨q2566, e2567, h⟩ := am_bind_some h
      refine am_r_call (show am_stepn X T_UpRiverModel_best 6 true (49, [(0, am_pv 65), (1, am_iv x1), (2, am_iv x2), (3, am_iv x3), (4, am_iv x4), (5, am_iv x5)], [], am_SH, (J, K, am_RF b)) = some (true, .inr (.inl (219, [am_pv 65, am_iv x5, am_iv x1, am_iv (-4), am_iv 0], 5, 0, 0, 59, [(0, am_pv 65), (1, am_iv x1), (2, am_iv x2), (3, am_iv x3), (4, am_iv x4), (5, am_iv x5)], [], am_SH, (J, K, am_RF b)))) from rfl) rfl tb_UpRiverModel_skips (s_UpRiverModel_skips e2567) ?_
      obtain ⟨g2568, h⟩ := am_if_some h
      by_cases c2569 : q2566.1 = (-4)
      · rw [if_pos c2569] at h
        refine am_r_t (show am_stepn X T_UpRiverModel_best 4 true (59, [(0, am_pv 65), (1, am_iv x1), (2, am_iv x2), (3, am_iv x3), (4, am_iv x4), (5, am_iv x5)], [am_iv q2566.1], am_SH, (q2566.2, K, am_RF b)) = some (((decide (am_i32 (-4)) && decide (am_i32 q2566.1)) && true), .inl (bif am_cb .eq q2566.1 (-4) then 85 else 68, [(0, am_pv 65), (1, am_iv x1), (2, am_iv x2), (3, am_iv x3), (4, am_iv x4), (5, am_iv x5), (6, am_iv q2566.1)], [], am_SH, (q2566.2, K, am_RF b))) from rfl) (am_g2 (by decide) g2568 rfl) (decide_eq_true c2569) ?_
        refine am_r_go (show am_stepn X T_UpRiverModel_best 1 true (85, [(0, am_pv 65), (1, am_iv x1), (2, am_iv x2), (3, am_iv x3), (4, am_iv x4), (5, am_iv x5), (6, am_iv q2566.1)], [], am_SH, (q2566.2, K, am_RF b)) = some (true, .inl (86, [(0, am_pv 65), (1, am_iv x1), (2, am_iv x2), (3, am_iv x3), (4, am_iv x4), (5, am_iv x5), (6, am_iv q2566.1)], [am_iv 0], am_SH, (q2566.2, K, am_RF b))) from rfl) rfl ?_
        exact s_UpRiverModel_best_L86 ih _ _ _ _ _ _ _ _ _ h
      · rw [if_neg c2569] at h
        refine am_r_f (show am_stepn X T_UpRiverModel_best 4 true (59, [(0, am_pv 65), (1, am_iv x1), (2, am_iv x2), (3, am_iv x3), (4, am_iv x4), (5, am_iv x5)], [am_iv q2566.1], am_SH, (q2566.2, K, am_RF b)) = some (((decide (am_i32 (-4)) && decide (am_i32 q2566.1)) && true), .inl (bif am_cb .eq q2566.1 (-4) then 85 else 68, [(0, am_pv 65), (1, am_iv x1), (2, am_iv x2), (3, am_iv x3), (4, am_iv x4), (5, am_iv x5), (6, am_iv q2566.1)], [], am_SH, (q2566.2, K, am_RF b))) from rfl) (am_g2 (by decide) g2568 rfl) (decide_eq_false c2569) ?_
        obtain ⟨g2570, h⟩ := am_if_some h
        by_cases c2571 : x3 = (-4)
        · rw [if_pos c2571] at h
          refine am_r_t (show am_stepn X T_UpRiverModel_best 3 true (68, [(0, am_pv 65), (1, am_iv x1), (2, am_iv x2), (3, am_iv x3), (4, am_iv x4), (5, am_iv x5), (6, am_iv q2566.1)], [], am_SH, (q2566.2, K, am_RF b)) = some (((decide (am_i32 (-4)) && decide (am_i32 x3)) && true), .inl (bif am_cb .eq x3 (-4) then 81 else 74, [(0, am_pv 65), (1, am_iv x1), (2, am_iv x2), (3, am_iv x3), (4, am_iv x4), (5, am_iv x5), (6, am_iv q2566.1)], [], am_SH, (q2566.2, K, am_RF b))) from rfl) (am_g2 (by decide) g2570 rfl) (decide_eq_true c2571) ?_
          refine am_r_go (show am_stepn X T_UpRiverModel_best 2 true (81, [(0, am_pv 65), (1, am_iv x1), (2, am_iv x2), (3, am_iv x3), (4, am_iv x4), (5, am_iv x5), (6, am_iv q2566.1)], [], am_SH, (q2566.2, K, am_RF b)) = some (true, .inl (86, [(0, am_pv 65), (1, am_iv x1), (2, am_iv x2), (3, am_iv x3), (4, am_iv x4), (5, am_iv x5), (6, am_iv q2566.1)], [am_iv 1], am_SH, (q2566.2, K, am_RF b))) from rfl) rfl ?_
          exact s_UpRiverModel_best_L86 ih _ _ _ _ _ _ _ _ _ h
        · rw [if_neg c2571] at h
          refine am_r_f (show am_stepn X T_UpRiverModel_best 3 true (68, [(0, am_pv 65), (1, am_iv x1), (2, am_iv x2), (3, am_iv x3), (4, am_iv x4), (5, am_iv x5), (6, am_iv q2566.1)], [], am_SH, (q2566.2, K, am_RF b)) = some (((decide (am_i32 (-4)) && decide (am_i32 x3)) && true), .inl (bif am_cb .eq x3 (-4) then 81 else 74, [(0, am_pv 65), (1, am_iv x1), (2, am_iv x2), (3, am_iv x3), (4, am_iv x4), (5, am_iv x5), (6, am_iv q2566.1)], [], am_SH, (q2566.2, K, am_RF b))) from rfl) (am_g2 (by decide) g2570 rfl) (decide_eq_false c2571) ?_
          obtain ⟨g2572, h⟩ := am_if_some h
          by_cases c2573 : q2566.1 < x4
          · rw [if_pos c2573] at h
            refine am_r_f (show am_stepn X T_UpRiverModel_best 3 true (74, [(0, am_pv 65), (1, am_iv x1), (2, am_iv x2), (3, am_iv x3), (4, am_iv x4), (5, am_iv x5), (6, am_iv q2566.1)], [], am_SH, (q2566.2, K, am_RF b)) = some (((decide (am_i32 x4) && decide (am_i32 q2566.1)) && true), .inl (bif am_cb .ge q2566.1 x4 then 85 else 81, [(0, am_pv 65), (1, am_iv x1), (2, am_iv x2), (3, am_iv x3), (4, am_iv x4), (5, am_iv x5), (6, am_iv q2566.1)], [], am_SH, (q2566.2, K, am_RF b))) from rfl) (am_g2 g2572 g2568 rfl) (am_nd_t c2573) ?_
            refine am_r_go (show am_stepn X T_UpRiverModel_best 2 true (81, [(0, am_pv 65), (1, am_iv x1), (2, am_iv x2), (3, am_iv x3), (4, am_iv x4), (5, am_iv x5), (6, am_iv q2566.1)], [], am_SH, (q2566.2, K, am_RF b)) = some (true, .inl (86, [(0, am_pv 65), (1, am_iv x1), (2, am_iv x2), (3, am_iv x3), (4, am_iv x4), (5, am_iv x5), (6, am_iv q2566.1)], [am_iv 1], am_SH, (q2566.2, K, am_RF b))) from rfl) rfl ?_
            exact s_UpRiverModel_best_L86 ih _ _ _ _ _ _ _ _ _ h
          · rw [if_neg c2573] at h
            refine am_r_t (show am_stepn X T_UpRiverModel_best 3 true (74, [(0, am_pv 65), (1, am_iv x1), (2, am_iv x2), (3, am_iv x3), (4, am_iv x4), (5, am_iv x5), (6, am_iv q2566.1)], [], am_SH, (q2566.2, K, am_RF b)) = some (((decide (am_i32 x4) && decide (am_i32 q2566.1)) && true), .inl (bif am_cb .ge q2566.1 x4 then 85 else 81, [(0, am_pv 65), (1, am_iv x1), (2, am_iv x2), (3, am_iv x3), (4, am_iv x4), (5, am_iv x5), (6, am_iv q2566.1)], [], am_SH, (q2566.2, K, am_RF b))) from rfl) (am_g2 g2572 g2568 rfl) (am_nd_f c2573) ?_
            refine am_r_go (show am_stepn X T_UpRiverModel_best 1 true (85, [(0, am_pv 65), (1, am_iv x1), (2, am_iv x2), (3, am_iv x3), (4, am_iv x4), (5, am_iv x5), (6, am_iv q2566.1)], [], am_SH, (q2566.2, K, am_RF b)) = some (true, .inl (86, [(0, am_pv 65), (1, am_iv x1), (2, am_iv x2), (3, am_iv x3), (4, am_iv x4), (5, am_iv x5), (6, am_iv q2566.1)], [am_iv 0], am_SH, (q2566.2, K, am_RF b))) from rfl) rfl ?_
            exact s_UpRiverModel_best_L86 ih _ _ _ _ _ _ _ _ _ h
theorem s_UpRiverModel_best {X : am_X} {b : Bool} {K : am_K} {x1 : Int} {x2 : Int} {J : am_J} {r : Int × am_J} (h : f_UpRiverModel_best  x1 x2 J = some r) : am_runs X T_UpRiverModel_best (0, [(0, am_pv 65), (1, am_iv x1), (2, am_iv x2)], [], am_SH, (J, K, am_RF b)) (some (am_iv r.1), am_SH, (r.2, K, am_RF b)) := by
  unfold f_UpRiverModel_best at h
  obtain ⟨q2574, e2575, h⟩ := am_bind_some h
  refine am_r_call (show am_stepn X T_UpRiverModel_best 5 true (0, [(0, am_pv 65), (1, am_iv x1), (2, am_iv x2)], [], am_SH, (J, K, am_RF b)) = some (true, .inr (.inl (150, [am_jv (am_i2l x1), am_jv (0 : Int64), am_jv (1 : Int64)], 6, 0, 0, 7, [(0, am_pv 65), (1, am_iv x1), (2, am_iv x2)], [], am_SH, (J, K, am_RF b)))) from rfl) rfl tb_UpRiverModel_in (s_UpRiverModel_in e2575) ?_
  obtain ⟨g2576, h⟩ := am_if_some h
  by_cases c2577 : q2574 = 0
  · rw [if_pos c2577] at h
    refine am_r_t (show am_stepn X T_UpRiverModel_best 1 true (7, [(0, am_pv 65), (1, am_iv x1), (2, am_iv x2)], [am_iv q2574], am_SH, (J, K, am_RF b)) = some ((decide (am_i32 q2574) && true), .inl (bif am_cb .eq q2574 0 then 20 else 10, [(0, am_pv 65), (1, am_iv x1), (2, am_iv x2)], [], am_SH, (J, K, am_RF b))) from rfl) (am_g1 g2576 rfl) (decide_eq_true c2577) ?_
    obtain rfl := Option.some.inj h
    exact am_r_ret (show am_stepn X T_UpRiverModel_best 2 true (20, [(0, am_pv 65), (1, am_iv x1), (2, am_iv x2)], [], am_SH, (J, K, am_RF b)) = some (true, .inr (.inr (some (am_iv (-1)), am_SH, (J, K, am_RF b)))) from rfl) rfl
  · rw [if_neg c2577] at h
    refine am_r_f (show am_stepn X T_UpRiverModel_best 1 true (7, [(0, am_pv 65), (1, am_iv x1), (2, am_iv x2)], [am_iv q2574], am_SH, (J, K, am_RF b)) = some ((decide (am_i32 q2574) && true), .inl (bif am_cb .eq q2574 0 then 20 else 10, [(0, am_pv 65), (1, am_iv x1), (2, am_iv x2)], [], am_SH, (J, K, am_RF b))) from rfl) (am_g1 g2576 rfl) (decide_eq_false c2577) ?_
    obtain ⟨q2578, e2579, h⟩ := am_bind_some h
    refine am_r_call (show am_stepn X T_UpRiverModel_best 5 true (10, [(0, am_pv 65), (1, am_iv x1), (2, am_iv x2)], [], am_SH, (J, K, am_RF b)) = some (true, .inr (.inl (150, [am_jv (am_i2l x2), am_jv (0 : Int64), am_jv (1 : Int64)], 6, 0, 0, 17, [(0, am_pv 65), (1, am_iv x1), (2, am_iv x2)], [], am_SH, (J, K, am_RF b)))) from rfl) rfl tb_UpRiverModel_in (s_UpRiverModel_in e2579) ?_
    obtain ⟨g2580, h⟩ := am_if_some h
    by_cases c2581 : q2578 = 0
    · rw [if_pos c2581] at h
      refine am_r_f (show am_stepn X T_UpRiverModel_best 1 true (17, [(0, am_pv 65), (1, am_iv x1), (2, am_iv x2)], [am_iv q2578], am_SH, (J, K, am_RF b)) = some ((decide (am_i32 q2578) && true), .inl (bif am_cb .ne q2578 0 then 22 else 20, [(0, am_pv 65), (1, am_iv x1), (2, am_iv x2)], [], am_SH, (J, K, am_RF b))) from rfl) (am_g1 g2580 rfl) (am_nd_t c2581) ?_
      obtain rfl := Option.some.inj h
      exact am_r_ret (show am_stepn X T_UpRiverModel_best 2 true (20, [(0, am_pv 65), (1, am_iv x1), (2, am_iv x2)], [], am_SH, (J, K, am_RF b)) = some (true, .inr (.inr (some (am_iv (-1)), am_SH, (J, K, am_RF b)))) from rfl) rfl
    · rw [if_neg c2581] at h
      refine am_r_t (show am_stepn X T_UpRiverModel_best 1 true (17, [(0, am_pv 65), (1, am_iv x1), (2, am_iv x2)], [am_iv q2578], am_SH, (J, K, am_RF b)) = some ((decide (am_i32 q2578) && true), .inl (bif am_cb .ne q2578 0 then 22 else 20, [(0, am_pv 65), (1, am_iv x1), (2, am_iv x2)], [], am_SH, (J, K, am_RF b))) from rfl) (am_g1 g2580 rfl) (am_nd_f c2581) ?_
      obtain ⟨q2582, e2583, h⟩ := am_bind_some h
      refine am_r_call (show am_stepn X T_UpRiverModel_best 2 true (22, [(0, am_pv 65), (1, am_iv x1), (2, am_iv x2)], [], am_SH, (J, K, am_RF b)) = some (true, .inr (.inl (185, [am_pv 65], 1, 0, 0, 26, [(0, am_pv 65), (1, am_iv x1), (2, am_iv x2)], [], am_SH, (J, K, am_RF b)))) from rfl) rfl tb_UpRiverModel_isUp (s_UpRiverModel_isUp e2583) ?_
      obtain ⟨g2584, h⟩ := am_if_some h
      by_cases c2585 : q2582 = 0
      · rw [if_pos c2585] at h
        refine am_r_t (show am_stepn X T_UpRiverModel_best 1 true (26, [(0, am_pv 65), (1, am_iv x1), (2, am_iv x2)], [am_iv q2582], am_SH, (J, K, am_RF b)) = some ((decide (am_i32 q2582) && true), .inl (bif am_cb .eq q2582 0 then 32 else 29, [(0, am_pv 65), (1, am_iv x1), (2, am_iv x2)], [], am_SH, (J, K, am_RF b))) from rfl) (am_g1 g2584 rfl) (decide_eq_true c2585) ?_
        refine am_r_go (show am_stepn X T_UpRiverModel_best 6 true (32, [(0, am_pv 65), (1, am_iv x1), (2, am_iv x2)], [], am_SH, (J, K, am_RF b)) = some (true, .inl (42, [(0, am_pv 65), (1, am_iv x1), (2, am_iv x2), (3, am_iv (-4)), (4, am_iv (-4)), (5, am_iv 0)], [], am_SH, (J, K, am_RF b))) from rfl) rfl ?_
        exact s_UpRiverModel_best_L42  _ _ _ _ _ _ _ _ h
      · rw [if_neg c2585] at h
        refine am_r_f (show am_stepn X T_UpRiverModel_best 1 true (26, [(0, am_pv 65), (1, am_iv x1), (2, am_iv x2)], [am_iv q2582], am_SH, (J, K, am_RF b)) = some ((decide (am_i32 q2582) && true), .inl (bif am_cb .eq q2582 0 then 32 else 29, [(0, am_pv 65), (1, am_iv x1), (2, am_iv x2)], [], am_SH, (J, K, am_RF b))) from rfl) (am_g1 g2584 rfl) (decide_eq_false c2585) ?_
        obtain rfl := Option.some.inj h
        exact am_r_ret (show am_stepn X T_UpRiverModel_best 2 true (29, [(0, am_pv 65), (1, am_iv x1), (2, am_iv x2)], [], am_SH, (J, K, am_RF b)) = some (true, .inr (.inr (some (am_iv (-2)), am_SH, (J, K, am_RF b)))) from rfl) rfl
