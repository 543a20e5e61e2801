theorem s_UpRiverModel_loses {X : am_X} {b : Bool} {K : am_K} {x1 : Int} {x2 : Int} {J : am_J} {r : Int × am_J} (h : f_UpRiverModel_loses  x1 x2 J = some r) : am_runs X T_UpRiverModel_loses (0, [(0, am_pv 65), (1, am_iv x1), (2, am_iv x2)], [], am_SH, (J, K, am_RF b)) (some (am_iv r.1), am_SH, (r.2, K, am_RF b)) := by
  unfold f_UpRiverModel_loses at h
  obtain ⟨q2586, e2587, h⟩ := am_bind_some h
  refine am_r_call (show am_stepn X T_UpRiverModel_loses 3 true (0, [(0, am_pv 65), (1, am_iv x1), (2, am_iv x2)], [], am_SH, (J, K, am_RF b)) = some (true, .inr (.inl (218, [am_iv x1, am_iv x2], 2, 0, 0, 5, [(0, am_pv 65), (1, am_iv x1), (2, am_iv x2)], [], am_SH, (J, K, am_RF b)))) from rfl) rfl tb_UpRiverModel_isSkipper (s_UpRiverModel_isSkipper e2587) ?_
  obtain ⟨g2588, h⟩ := am_if_some h
  by_cases c2589 : q2586 = 0
  · rw [if_pos c2589] at h
    refine am_r_f (show am_stepn X T_UpRiverModel_loses 1 true (5, [(0, am_pv 65), (1, am_iv x1), (2, am_iv x2)], [am_iv q2586], am_SH, (J, K, am_RF b)) = some ((decide (am_i32 q2586) && true), .inl (bif am_cb .ne q2586 0 then 10 else 8, [(0, am_pv 65), (1, am_iv x1), (2, am_iv x2)], [], am_SH, (J, K, am_RF b))) from rfl) (am_g1 g2588 rfl) (am_nd_t c2589) ?_
    obtain rfl := Option.some.inj h
    exact am_r_ret (show am_stepn X T_UpRiverModel_loses 2 true (8, [(0, am_pv 65), (1, am_iv x1), (2, am_iv x2)], [], am_SH, (J, K, am_RF b)) = some (true, .inr (.inr (some (am_iv (-1)), am_SH, (J, K, am_RF b)))) from rfl) rfl
  · rw [if_neg c2589] at h
    refine am_r_t (show am_stepn X T_UpRiverModel_loses 1 true (5, [(0, am_pv 65), (1, am_iv x1), (2, am_iv x2)], [am_iv q2586], am_SH, (J, K, am_RF b)) = some ((decide (am_i32 q2586) && true), .inl (bif am_cb .ne q2586 0 then 10 else 8, [(0, am_pv 65), (1, am_iv x1), (2, am_iv x2)], [], am_SH, (J, K, am_RF b))) from rfl) (am_g1 g2588 rfl) (am_nd_f c2589) ?_
    obtain ⟨q2590, e2591, h⟩ := am_bind_some h
    refine am_r_call (show am_stepn X T_UpRiverModel_loses 2 true (10, [(0, am_pv 65), (1, am_iv x1), (2, am_iv x2)], [], am_SH, (J, K, am_RF b)) = some (true, .inr (.inl (185, [am_pv 65], 1, 0, 0, 14, [(0, am_pv 65), (1, am_iv x1), (2, am_iv x2)], [], am_SH, (J, K, am_RF b)))) from rfl) rfl tb_UpRiverModel_isUp (s_UpRiverModel_isUp e2591) ?_
    obtain ⟨g2592, h⟩ := am_if_some h
    by_cases c2593 : q2590 = 0
    · rw [if_pos c2593] at h
      refine am_r_t (show am_stepn X T_UpRiverModel_loses 1 true (14, [(0, am_pv 65), (1, am_iv x1), (2, am_iv x2)], [am_iv q2590], am_SH, (J, K, am_RF b)) = some ((decide (am_i32 q2590) && true), .inl (bif am_cb .eq q2590 0 then 20 else 17, [(0, am_pv 65), (1, am_iv x1), (2, am_iv x2)], [], am_SH, (J, K, am_RF b))) from rfl) (am_g1 g2592 rfl) (decide_eq_true c2593) ?_
      obtain ⟨q2594, e2595, h⟩ := am_bind_some h
      refine am_r_call (show am_stepn X T_UpRiverModel_loses 6 true (20, [(0, am_pv 65), (1, am_iv x1), (2, am_iv x2)], [], am_SH, (J, K, am_RF b)) = some (true, .inr (.inl (219, [am_pv 65, am_iv x1, am_iv x2, am_iv (-4), am_iv 0], 5, 0, 0, 29, [(0, am_pv 65), (1, am_iv x1), (2, am_iv x2)], [], am_SH, (J, K, am_RF b)))) from rfl) rfl tb_UpRiverModel_skips (s_UpRiverModel_skips e2595) ?_
      obtain ⟨g2596, h⟩ := am_if_some h
      by_cases c2597 : q2594.1 = (-4)
      · rw [if_pos c2597] at h
        refine am_r_f (show am_stepn X T_UpRiverModel_loses 4 true (29, [(0, am_pv 65), (1, am_iv x1), (2, am_iv x2)], [am_iv q2594.1], am_SH, (q2594.2, K, am_RF b)) = some (((decide (am_i32 (-4)) && decide (am_i32 q2594.1)) && true), .inl (bif am_cb .ne q2594.1 (-4) then 41 else 36, [(0, am_pv 65), (1, am_iv x1), (2, am_iv x2), (3, am_iv q2594.1)], [], am_SH, (q2594.2, K, am_RF b))) from rfl) (am_g2 (by decide) g2596 rfl) (am_nd_t c2597) ?_
        obtain rfl := Option.some.inj h
        exact am_r_ret (show am_stepn X T_UpRiverModel_loses 3 true (36, [(0, am_pv 65), (1, am_iv x1), (2, am_iv x2), (3, am_iv q2594.1)], [], am_SH, (q2594.2, K, am_RF b)) = some (true, .inr (.inr (some (am_iv (-4)), am_SH, (q2594.2, K, am_RF b)))) from rfl) rfl
      · rw [if_neg c2597] at h
        refine am_r_t (show am_stepn X T_UpRiverModel_loses 4 true (29, [(0, am_pv 65), (1, am_iv x1), (2, am_iv x2)], [am_iv q2594.1], am_SH, (q2594.2, K, am_RF b)) = some (((decide (am_i32 (-4)) && decide (am_i32 q2594.1)) && true), .inl (bif am_cb .ne q2594.1 (-4) then 41 else 36, [(0, am_pv 65), (1, am_iv x1), (2, am_iv x2), (3, am_iv q2594.1)], [], am_SH, (q2594.2, K, am_RF b))) from rfl) (am_g2 (by decide) g2596 rfl) (am_nd_f c2597) ?_
        obtain ⟨q2598, e2599, h⟩ := am_bind_some h
        refine am_r_call (show am_stepn X T_UpRiverModel_loses 5 true (41, [(0, am_pv 65), (1, am_iv x1), (2, am_iv x2), (3, am_iv q2594.1)], [], am_SH, (q2594.2, K, am_RF b)) = some (true, .inr (.inl (198, [am_pv 65, am_iv 0, am_iv 8], 3, 0, 0, 49, [(0, am_pv 65), (3, am_iv q2594.1)], [am_iv q2594.1], am_SH, (q2594.2, K, am_RF b)))) from rfl) rfl tb_UpRiverModel_soonestNow (s_UpRiverModel_soonestNow e2599) ?_
        obtain rfl := Option.some.inj h
        exact am_r_ret (show am_stepn X T_UpRiverModel_loses 2 true (49, [(0, am_pv 65), (3, am_iv q2594.1)], [am_iv q2598.1, am_iv q2594.1], am_SH, (q2598.2, K, am_RF b)) = some (true, .inr (.inr (some (am_iv (q2594.1 - q2598.1)), am_SH, (q2598.2, K, am_RF b)))) from rfl) rfl
    · rw [if_neg c2593] at h
      refine am_r_f (show am_stepn X T_UpRiverModel_loses 1 true (14, [(0, am_pv 65), (1, am_iv x1), (2, am_iv x2)], [am_iv q2590], am_SH, (J, K, am_RF b)) = some ((decide (am_i32 q2590) && true), .inl (bif am_cb .eq q2590 0 then 20 else 17, [(0, am_pv 65), (1, am_iv x1), (2, am_iv x2)], [], am_SH, (J, K, am_RF b))) from rfl) (am_g1 g2592 rfl) (decide_eq_false c2593) ?_
      obtain rfl := Option.some.inj h
      exact am_r_ret (show am_stepn X T_UpRiverModel_loses 2 true (17, [(0, am_pv 65), (1, am_iv x1), (2, am_iv x2)], [], am_SH, (J, K, am_RF b)) = some (true, .inr (.inr (some (am_iv (-2)), am_SH, (J, K, am_RF b)))) from rfl) rfl
theorem s_UpRiverModel_narrow_L18 {X : am_X} {b : Bool} {J : am_J} {K : am_K}  : ∀ (n : Nat) (x1 : Int) (x2 : Int) (r : Int), f_UpRiverModel_narrow_L18 J  n x1 x2 = some r → am_runs X T_UpRiverModel_narrow (18, [(0, am_pv 65), (1, am_iv x1), (2, am_iv x2)], [], am_SH, (J, K, am_RF b)) (some (am_iv r), am_SH, (J, K, am_RF b)) := by
  intro n
  induction n with
  | zero =>
    intro x1 x2 r h
    cases h
  | succ n ih =>
    intro x1 x2 r h
    rw [f_UpRiverModel_narrow_L18.eq_2] at h
    obtain ⟨g2600, h⟩ := am_if_some h
    by_cases c2601 : 9 < x2
    · rw [if_pos c2601] at h
      refine am_r_t (show am_stepn X T_UpRiverModel_narrow 3 true (18, [(0, am_pv 65), (1, am_iv x1), (2, am_iv x2)], [], am_SH, (J, K, am_RF b)) = some (((decide (am_i32 9) && decide (am_i32 x2)) && true), .inl (bif am_cb .gt x2 9 then 56 else 24, [(0, am_pv 65), (1, am_iv x1), (2, am_iv x2)], [], am_SH, (J, K, am_RF b))) from rfl) (am_g2 (by decide) g2600 rfl) (decide_eq_true c2601) ?_
      obtain rfl := Option.some.inj h
      exact am_r_ret (show am_stepn X T_UpRiverModel_narrow 2 true (56, [(0, am_pv 65), (1, am_iv x1), (2, am_iv x2)], [], am_SH, (J, K, am_RF b)) = some (true, .inr (.inr (some (am_iv (-4)), am_SH, (J, K, am_RF b)))) from rfl) rfl
    · rw [if_neg c2601] at h
      refine am_r_f (show am_stepn X T_UpRiverModel_narrow 3 true (18, [(0, am_pv 65), (1, am_iv x1), (2, am_iv x2)], [], am_SH, (J, K, am_RF b)) = some (((decide (am_i32 9) && decide (am_i32 x2)) && true), .inl (bif am_cb .gt x2 9 then 56 else 24, [(0, am_pv 65), (1, am_iv x1), (2, am_iv x2)], [], am_SH, (J, K, am_RF b))) from rfl) (am_g2 (by decide) g2600 rfl) (decide_eq_false c2601) ?_
      obtain ⟨g2602, h⟩ := am_if_some h
      by_cases c2603 : 0 < (((x2 - 1) * ((J 66 3) + x1)) + ((J 66 5) * x1))
      · rw [if_pos c2603] at h
        refine am_r_f (show am_stepn X T_UpRiverModel_narrow 18 true (24, [(0, am_pv 65), (1, am_iv x1), (2, am_iv x2)], [], am_SH, (J, K, am_RF b)) = some ((decide (am_i32 (((x2 - 1) * ((J 66 3) + x1)) + ((J 66 5) * x1))) && (am_in 5 295 && (am_in 3 295 && true))), .inl (bif am_cb .le (((x2 - 1) * ((J 66 3) + x1)) + ((J 66 5) * x1)) 0 then 50 else 48, [(0, am_pv 65), (1, am_iv x1), (2, am_iv x2)], [], am_SH, (J, K, am_RF b))) from rfl) (am_g1 g2602 (am_gi (by decide) (am_gi (by decide) rfl))) (am_nd_t c2603) ?_
        obtain rfl := Option.some.inj h
        exact am_r_ret (show am_stepn X T_UpRiverModel_narrow 2 true (48, [(0, am_pv 65), (1, am_iv x1), (2, am_iv x2)], [], am_SH, (J, K, am_RF b)) = some (true, .inr (.inr (some (am_iv x2), am_SH, (J, K, am_RF b)))) from rfl) rfl
      · rw [if_neg c2603] at h
        refine am_r_t (show am_stepn X T_UpRiverModel_narrow 18 true (24, [(0, am_pv 65), (1, am_iv x1), (2, am_iv x2)], [], am_SH, (J, K, am_RF b)) = some ((decide (am_i32 (((x2 - 1) * ((J 66 3) + x1)) + ((J 66 5) * x1))) && (am_in 5 295 && (am_in 3 295 && true))), .inl (bif am_cb .le (((x2 - 1) * ((J 66 3) + x1)) + ((J 66 5) * x1)) 0 then 50 else 48, [(0, am_pv 65), (1, am_iv x1), (2, am_iv x2)], [], am_SH, (J, K, am_RF b))) from rfl) (am_g1 g2602 (am_gi (by decide) (am_gi (by decide) rfl))) (am_nd_f c2603) ?_
        refine am_r_go (show am_stepn X T_UpRiverModel_narrow 2 true (50, [(0, am_pv 65), (1, am_iv x1), (2, am_iv x2)], [], am_SH, (J, K, am_RF b)) = some (true, .inl (18, [(0, am_pv 65), (1, am_iv x1), (2, am_iv (x2 + 1))], [], am_SH, (J, K, am_RF b))) from rfl) rfl ?_
        exact ih _ _ _ h
theorem s_UpRiverModel_narrow {X : am_X} {b : Bool} {J : am_J} {K : am_K} {x1 : Int} {r : Int} (h : f_UpRiverModel_narrow J x1 = some r) : am_runs X T_UpRiverModel_narrow (0, [(0, am_pv 65), (1, am_iv x1)], [], am_SH, (J, K, am_RF b)) (some (am_iv r), am_SH, (J, K, am_RF b)) := by
  unfold f_UpRiverModel_narrow at h
  obtain ⟨q2604, e2605, h⟩ := am_bind_some h
  refine am_r_call (show am_stepn X T_UpRiverModel_narrow 5 true (0, [(0, am_pv 65), (1, am_iv x1)], [], am_SH, (J, K, am_RF b)) = some (true, .inr (.inl (150, [am_jv (am_i2l x1), am_jv (-9 : Int64), am_jv (9 : Int64)], 6, 0, 0, 11, [(0, am_pv 65), (1, am_iv x1)], [], am_SH, (J, K, am_RF b)))) from rfl) rfl tb_UpRiverModel_in (s_UpRiverModel_in e2605) ?_
  obtain ⟨g2606, h⟩ := am_if_some h
  by_cases c2607 : q2604 = 0
  · rw [if_pos c2607] at h
    refine am_r_f (show am_stepn X T_UpRiverModel_narrow 1 true (11, [(0, am_pv 65), (1, am_iv x1)], [am_iv q2604], am_SH, (J, K, am_RF b)) = some ((decide (am_i32 q2604) && true), .inl (bif am_cb .ne q2604 0 then 16 else 14, [(0, am_pv 65), (1, am_iv x1)], [], am_SH, (J, K, am_RF b))) from rfl) (am_g1 g2606 rfl) (am_nd_t c2607) ?_
    obtain rfl := Option.some.inj h
    exact am_r_ret (show am_stepn X T_UpRiverModel_narrow 2 true (14, [(0, am_pv 65), (1, am_iv x1)], [], am_SH, (J, K, am_RF b)) = some (true, .inr (.inr (some (am_iv (-1)), am_SH, (J, K, am_RF b)))) from rfl) rfl
  · rw [if_neg c2607] at h
    refine am_r_t (show am_stepn X T_UpRiverModel_narrow 1 true (11, [(0, am_pv 65), (1, am_iv x1)], [am_iv q2604], am_SH, (J, K, am_RF b)) = some ((decide (am_i32 q2604) && true), .inl (bif am_cb .ne q2604 0 then 16 else 14, [(0, am_pv 65), (1, am_iv x1)], [], am_SH, (J, K, am_RF b))) from rfl) (am_g1 g2606 rfl) (am_nd_f c2607) ?_
    refine am_r_go (show am_stepn X T_UpRiverModel_narrow 2 true (16, [(0, am_pv 65), (1, am_iv x1)], [], am_SH, (J, K, am_RF b)) = some (true, .inl (18, [(0, am_pv 65), (1, am_iv x1), (2, am_iv 2)], [], am_SH, (J, K, am_RF b))) from rfl) rfl ?_
    exact s_UpRiverModel_narrow_L18  _ _ _ _ h
theorem s_UpRiverModel_isLead {X : am_X} {b : Bool} {J : am_J} {K : am_K} {x0 : Int} {x1 : Int} {x2 : Int} {r : Int} (h : f_UpRiverModel_isLead  x0 x1 x2 = some r) : am_runs X T_UpRiverModel_isLead (0, [(0, am_iv x0), (1, am_iv x1), (2, am_iv x2)], [], am_SH, (J, K, am_RF b)) (some (am_iv r), am_SH, (J, K, am_RF b)) := by
  unfold f_UpRiverModel_isLead at h
  obtain ⟨q2608, e2609, h⟩ := am_bind_some h
  refine am_r_call (show am_stepn X T_UpRiverModel_isLead 5 true (0, [(0, am_iv x0), (1, am_iv x1), (2, am_iv x2)], [], am_SH, (J, K, am_RF b)) = some (true, .inr (.inl (150, [am_jv (am_i2l x0), am_jv (0 : Int64), am_jv (9 : Int64)], 6, 0, 0, 9, [(0, am_iv x0), (1, am_iv x1), (2, am_iv x2)], [], am_SH, (J, K, am_RF b)))) from rfl) rfl tb_UpRiverModel_in (s_UpRiverModel_in e2609) ?_
  obtain ⟨g2610, h⟩ := am_if_some h
  by_cases c2611 : q2608 = 0
  · rw [if_pos c2611] at h
    refine am_r_t (show am_stepn X T_UpRiverModel_isLead 1 true (9, [(0, am_iv x0), (1, am_iv x1), (2, am_iv x2)], [am_iv q2608], am_SH, (J, K, am_RF b)) = some ((decide (am_i32 q2608) && true), .inl (bif am_cb .eq q2608 0 then 48 else 12, [(0, am_iv x0), (1, am_iv x1), (2, am_iv x2)], [], am_SH, (J, K, am_RF b))) from rfl) (am_g1 g2610 rfl) (decide_eq_true c2611) ?_
    obtain rfl := Option.some.inj h
    exact am_r_ret (show am_stepn X T_UpRiverModel_isLead 2 true (48, [(0, am_iv x0), (1, am_iv x1), (2, am_iv x2)], [], am_SH, (J, K, am_RF b)) = some ((decide ((0 : Int) = 0 ∨ (0 : Int) = 1) && true), .inr (.inr (some (am_iv 0), am_SH, (J, K, am_RF b)))) from rfl) (am_g1 (by decide) rfl)
  · rw [if_neg c2611] at h
    refine am_r_f (show am_stepn X T_UpRiverModel_isLead 1 true (9, [(0, am_iv x0), (1, am_iv x1), (2, am_iv x2)], [am_iv q2608], am_SH, (J, K, am_RF b)) = some ((decide (am_i32 q2608) && true), .inl (bif am_cb .eq q2608 0 then 48 else 12, [(0, am_iv x0), (1, am_iv x1), (2, am_iv x2)], [], am_SH, (J, K, am_RF b))) from rfl) (am_g1 g2610 rfl) (decide_eq_false c2611) ?_
    obtain ⟨q2612, e2613, h⟩ := am_bind_some h
    refine am_r_call (show am_stepn X T_UpRiverModel_isLead 5 true (12, [(0, am_iv x0), (1, am_iv x1), (2, am_iv x2)], [], am_SH, (J, K, am_RF b)) = some (true, .inr (.inl (150, [am_jv (am_i2l x1), am_jv (0 : Int64), am_jv (9 : Int64)], 6, 0, 0, 21, [(0, am_iv x0), (1, am_iv x1), (2, am_iv x2)], [], am_SH, (J, K, am_RF b)))) from rfl) rfl tb_UpRiverModel_in (s_UpRiverModel_in e2613) ?_
    obtain ⟨g2614, h⟩ := am_if_some h
    by_cases c2615 : q2612 = 0
    · rw [if_pos c2615] at h
      refine am_r_t (show am_stepn X T_UpRiverModel_isLead 1 true (21, [(0, am_iv x0), (1, am_iv x1), (2, am_iv x2)], [am_iv q2612], am_SH, (J, K, am_RF b)) = some ((decide (am_i32 q2612) && true), .inl (bif am_cb .eq q2612 0 then 48 else 24, [(0, am_iv x0), (1, am_iv x1), (2, am_iv x2)], [], am_SH, (J, K, am_RF b))) from rfl) (am_g1 g2614 rfl) (decide_eq_true c2615) ?_
      obtain rfl := Option.some.inj h
      exact am_r_ret (show am_stepn X T_UpRiverModel_isLead 2 true (48, [(0, am_iv x0), (1, am_iv x1), (2, am_iv x2)], [], am_SH, (J, K, am_RF b)) = some ((decide ((0 : Int) = 0 ∨ (0 : Int) = 1) && true), .inr (.inr (some (am_iv 0), am_SH, (J, K, am_RF b)))) from rfl) (am_g1 (by decide) rfl)
    · rw [if_neg c2615] at h
      refine am_r_f (show am_stepn X T_UpRiverModel_isLead 1 true (21, [(0, am_iv x0), (1, am_iv x1), (2, am_iv x2)], [am_iv q2612], am_SH, (J, K, am_RF b)) = some ((decide (am_i32 q2612) && true), .inl (bif am_cb .eq q2612 0 then 48 else 24, [(0, am_iv x0), (1, am_iv x1), (2, am_iv x2)], [], am_SH, (J, K, am_RF b))) from rfl) (am_g1 g2614 rfl) (decide_eq_false c2615) ?_
      obtain ⟨q2616, e2617, h⟩ := am_bind_some h
      refine am_r_call (show am_stepn X T_UpRiverModel_isLead 5 true (24, [(0, am_iv x0), (1, am_iv x1), (2, am_iv x2)], [], am_SH, (J, K, am_RF b)) = some (true, .inr (.inl (150, [am_jv (am_i2l x2), am_jv (0 : Int64), am_jv (9 : Int64)], 6, 0, 0, 33, [(0, am_iv x0), (1, am_iv x1), (2, am_iv x2)], [], am_SH, (J, K, am_RF b)))) from rfl) rfl tb_UpRiverModel_in (s_UpRiverModel_in e2617) ?_
      obtain ⟨g2618, h⟩ := am_if_some h
      by_cases c2619 : q2616 = 0
      · rw [if_pos c2619] at h
        refine am_r_t (show am_stepn X T_UpRiverModel_isLead 1 true (33, [(0, am_iv x0), (1, am_iv x1), (2, am_iv x2)], [am_iv q2616], am_SH, (J, K, am_RF b)) = some ((decide (am_i32 q2616) && true), .inl (bif am_cb .eq q2616 0 then 48 else 36, [(0, am_iv x0), (1, am_iv x1), (2, am_iv x2)], [], am_SH, (J, K, am_RF b))) from rfl) (am_g1 g2618 rfl) (decide_eq_true c2619) ?_
        obtain rfl := Option.some.inj h
        exact am_r_ret (show am_stepn X T_UpRiverModel_isLead 2 true (48, [(0, am_iv x0), (1, am_iv x1), (2, am_iv x2)], [], am_SH, (J, K, am_RF b)) = some ((decide ((0 : Int) = 0 ∨ (0 : Int) = 1) && true), .inr (.inr (some (am_iv 0), am_SH, (J, K, am_RF b)))) from rfl) (am_g1 (by decide) rfl)
      · rw [if_neg c2619] at h
        refine am_r_f (show am_stepn X T_UpRiverModel_isLead 1 true (33, [(0, am_iv x0), (1, am_iv x1), (2, am_iv x2)], [am_iv q2616], am_SH, (J, K, am_RF b)) = some ((decide (am_i32 q2616) && true), .inl (bif am_cb .eq q2616 0 then 48 else 36, [(0, am_iv x0), (1, am_iv x1), (2, am_iv x2)], [], am_SH, (J, K, am_RF b))) from rfl) (am_g1 g2618 rfl) (decide_eq_false c2619) ?_
        obtain ⟨g2620, h⟩ := am_if_some h
        by_cases c2621 : 0 < ((x0 + x1) + x2)
        · rw [if_pos c2621] at h
          refine am_r_f (show am_stepn X T_UpRiverModel_isLead 6 true (36, [(0, am_iv x0), (1, am_iv x1), (2, am_iv x2)], [], am_SH, (J, K, am_RF b)) = some ((decide (am_i32 ((x0 + x1) + x2)) && true), .inl (bif am_cb .le ((x0 + x1) + x2) 0 then 48 else 44, [(0, am_iv x0), (1, am_iv x1), (2, am_iv x2)], [], am_SH, (J, K, am_RF b))) from rfl) (am_g1 g2620 rfl) (am_nd_t c2621) ?_
          obtain rfl := Option.some.inj h
          exact am_r_ret (show am_stepn X T_UpRiverModel_isLead 3 true (44, [(0, am_iv x0), (1, am_iv x1), (2, am_iv x2)], [], am_SH, (J, K, am_RF b)) = some ((decide ((1 : Int) = 0 ∨ (1 : Int) = 1) && true), .inr (.inr (some (am_iv 1), am_SH, (J, K, am_RF b)))) from rfl) (am_g1 (by decide) rfl)
        · rw [if_neg c2621] at h
          refine am_r_t (show am_stepn X T_UpRiverModel_isLead 6 true (36, [(0, am_iv x0), (1, am_iv x1), (2, am_iv x2)], [], am_SH, (J, K, am_RF b)) = some ((decide (am_i32 ((x0 + x1) + x2)) && true), .inl (bif am_cb .le ((x0 + x1) + x2) 0 then 48 else 44, [(0, am_iv x0), (1, am_iv x1), (2, am_iv x2)], [], am_SH, (J, K, am_RF b))) from rfl) (am_g1 g2620 rfl) (am_nd_f c2621) ?_
          obtain rfl := Option.some.inj h
          exact am_r_ret (show am_stepn X T_UpRiverModel_isLead 2 true (48, [(0, am_iv x0), (1, am_iv x1), (2, am_iv x2)], [], am_SH, (J, K, am_RF b)) = some ((decide ((0 : Int) = 0 ∨ (0 : Int) = 1) && true), .inr (.inr (some (am_iv 0), am_SH, (J, K, am_RF b)))) from rfl) (am_g1 (by decide) rfl)
theorem s_UpRiverModel_shallows_L32 {X : am_X} {b : Bool} {J : am_J} {K : am_K}  : ∀ (x1 : Int) (x4 : Int) (x5 : Int) (s0 : Int) (s1 : Int) (r : Int), f_UpRiverModel_shallows_L32 J   x1 x4 x5 s0 s1 = some r → am_runs X T_UpRiverModel_shallows (32, [(1, am_iv x1), (4, am_iv x4), (5, am_iv x5)], [am_iv s1, am_iv s0], am_SH, (J, K, am_RF b)) (some (am_iv r), am_SH, (J, K, am_RF b)) := by
  intro x1 x4 x5 s0 s1 r h
  unfold f_UpRiverModel_shallows_L32 at h
  obtain ⟨g2622, h⟩ := am_if_some h
  obtain ⟨g2623, h⟩ := am_if_some h
  by_cases c2624 : (x1 - 1) < x5
  · rw [if_pos c2624] at h
    refine am_r_f (show am_stepn X T_UpRiverModel_shallows 6 true (32, [(1, am_iv x1), (4, am_iv x4), (5, am_iv x5)], [am_iv s1, am_iv s0], am_SH, (J, K, am_RF b)) = some (((decide (am_i32 x5) && decide (am_i32 (x1 - 1))) && true), .inl (bif am_cb .ge (x1 - 1) x5 then 46 else 41, [(1, am_iv x1), (4, am_iv x4), (5, am_iv x5)], [am_iv (s0 + s1)], am_SH, (J, K, am_RF b))) from rfl) (am_g2 g2622 g2623 rfl) (am_nd_t c2624) ?_
    obtain rfl := Option.some.inj h
    exact am_r_ret (show am_stepn X T_UpRiverModel_shallows 4 true (41, [(1, am_iv x1), (4, am_iv x4), (5, am_iv x5)], [am_iv (s0 + s1)], am_SH, (J, K, am_RF b)) = some (true, .inr (.inr (some (am_iv ((s0 + s1) + x4)), am_SH, (J, K, am_RF b)))) from rfl) rfl
  · rw [if_neg c2624] at h
    refine am_r_t (show am_stepn X T_UpRiverModel_shallows 6 true (32, [(1, am_iv x1), (4, am_iv x4), (5, am_iv x5)], [am_iv s1, am_iv s0], am_SH, (J, K, am_RF b)) = some (((decide (am_i32 x5) && decide (am_i32 (x1 - 1))) && true), .inl (bif am_cb .ge (x1 - 1) x5 then 46 else 41, [(1, am_iv x1), (4, am_iv x4), (5, am_iv x5)], [am_iv (s0 + s1)], am_SH, (J, K, am_RF b))) from rfl) (am_g2 g2622 g2623 rfl) (am_nd_f c2624) ?_
    obtain rfl := Option.some.inj h
    exact am_r_ret (show am_stepn X T_UpRiverModel_shallows 3 true (46, [(1, am_iv x1), (4, am_iv x4), (5, am_iv x5)], [am_iv (s0 + s1)], am_SH, (J, K, am_RF b)) = some (true, .inr (.inr (some (am_iv ((s0 + s1) + 0)), am_SH, (J, K, am_RF b)))) from rfl) rfl
theorem s_UpRiverModel_shallows_L21 {X : am_X} {b : Bool} {J : am_J} {K : am_K}  : ∀ (x1 : Int) (x3 : Int) (x4 : Int) (x5 : Int) (s0 : Int) (r : Int), f_UpRiverModel_shallows_L21 J   x1 x3 x4 x5 s0 = some r → am_runs X T_UpRiverModel_shallows (21, [(1, am_iv x1), (3, am_iv x3), (4, am_iv x4), (5, am_iv x5)], [am_iv s0], am_SH, (J, K, am_RF b)) (some (am_iv r), am_SH, (J, K, am_RF b)) := by
  intro x1 x3 x4 x5 s0 r h
  unfold f_UpRiverModel_shallows_L21 at h
  obtain ⟨g2625, h⟩ := am_if_some h
  obtain ⟨g2626, h⟩ := am_if_some h
  by_cases c2627 : x1 < x5
  · rw [if_pos c2627] at h
    refine am_r_f (show am_stepn X T_UpRiverModel_shallows 3 true (21, [(1, am_iv x1), (3, am_iv x3), (4, am_iv x4), (5, am_iv x5)], [am_iv s0], am_SH, (J, K, am_RF b)) = some (((decide (am_i32 x5) && decide (am_i32 x1)) && true), .inl (bif am_cb .ge x1 x5 then 31 else 27, [(1, am_iv x1), (3, am_iv x3), (4, am_iv x4), (5, am_iv x5)], [am_iv s0], am_SH, (J, K, am_RF b))) from rfl) (am_g2 g2625 g2626 rfl) (am_nd_t c2627) ?_
    refine am_r_go (show am_stepn X T_UpRiverModel_shallows 2 true (27, [(1, am_iv x1), (3, am_iv x3), (4, am_iv x4), (5, am_iv x5)], [am_iv s0], am_SH, (J, K, am_RF b)) = some (true, .inl (32, [(1, am_iv x1), (3, am_iv x3), (4, am_iv x4), (5, am_iv x5)], [am_iv x3, am_iv s0], am_SH, (J, K, am_RF b))) from rfl) rfl ?_
    refine am_r_eq (σ' := (32, [(1, am_iv x1), (4, am_iv x4), (5, am_iv x5)], [am_iv x3, am_iv s0], am_SH, (J, K, am_RF b))) rfl ?_
    exact s_UpRiverModel_shallows_L32  _ _ _ _ _ _ h
  · rw [if_neg c2627] at h
    refine am_r_t (show am_stepn X T_UpRiverModel_shallows 3 true (21, [(1, am_iv x1), (3, am_iv x3), (4, am_iv x4), (5, am_iv x5)], [am_iv s0], am_SH, (J, K, am_RF b)) = some (((decide (am_i32 x5) && decide (am_i32 x1)) && true), .inl (bif am_cb .ge x1 x5 then 31 else 27, [(1, am_iv x1), (3, am_iv x3), (4, am_iv x4), (5, am_iv x5)], [am_iv s0], am_SH, (J, K, am_RF b))) from rfl) (am_g2 g2625 g2626 rfl) (am_nd_f c2627) ?_
    refine am_r_go (show am_stepn X T_UpRiverModel_shallows 1 true (31, [(1, am_iv x1), (3, am_iv x3), (4, am_iv x4), (5, am_iv x5)], [am_iv s0], am_SH, (J, K, am_RF b)) = some (true, .inl (32, [(1, am_iv x1), (4, am_iv x4), (5, am_iv x5)], [am_iv 0, am_iv s0], am_SH, (J, K, am_RF b))) from rfl) rfl ?_
    exact s_UpRiverModel_shallows_L32  _ _ _ _ _ _ h
theorem s_UpRiverModel_shallows {X : am_X} {b : Bool} {J : am_J} {K : am_K} {x1 : Int} {x2 : Int} {x3 : Int} {x4 : Int} {r : Int} (h : f_UpRiverModel_shallows J x1 x2 x3 x4 = some r) : am_runs X T_UpRiverModel_shallows (0, [(0, am_pv 65), (1, am_iv x1), (2, am_iv x2), (3, am_iv x3), (4, am_iv x4)], [], am_SH, (J, K, am_RF b)) (some (am_iv r), am_SH, (J, K, am_RF b)) := by
  unfold f_UpRiverModel_shallows at h
  obtain ⟨g2628, h⟩ := am_if_some h
  obtain ⟨g2629, h⟩ := am_if_some h
  by_cases c2630 : (x1 + 1) < (J 66 2)
  · rw [if_pos c2630] at h
    refine am_r_f (show am_stepn X T_UpRiverModel_shallows 10 true (0, [(0, am_pv 65), (1, am_iv x1), (2, am_iv x2), (3, am_iv x3), (4, am_iv x4)], [], am_SH, (J, K, am_RF b)) = some (((decide (am_i32 (J 66 2)) && decide (am_i32 (x1 + 1))) && (am_in 2 295 && true)), .inl (bif am_cb .ge (x1 + 1) (J 66 2) then 20 else 16, [(0, am_pv 65), (1, am_iv x1), (2, am_iv x2), (3, am_iv x3), (4, am_iv x4), (5, am_iv (J 66 2))], [], am_SH, (J, K, am_RF b))) from rfl) (am_g2 g2628 g2629 (am_gi (by decide) rfl)) (am_nd_t c2630) ?_
    refine am_r_go (show am_stepn X T_UpRiverModel_shallows 2 true (16, [(0, am_pv 65), (1, am_iv x1), (2, am_iv x2), (3, am_iv x3), (4, am_iv x4), (5, am_iv (J 66 2))], [], am_SH, (J, K, am_RF b)) = some (true, .inl (21, [(1, am_iv x1), (2, am_iv x2), (3, am_iv x3), (4, am_iv x4), (5, am_iv (J 66 2))], [am_iv x2], am_SH, (J, K, am_RF b))) from rfl) rfl ?_
    refine am_r_eq (σ' := (21, [(1, am_iv x1), (3, am_iv x3), (4, am_iv x4), (5, am_iv (J 66 2))], [am_iv x2], am_SH, (J, K, am_RF b))) rfl ?_
    exact s_UpRiverModel_shallows_L21  _ _ _ _ _ _ h
  · rw [if_neg c2630] at h
    refine am_r_t (show am_stepn X T_UpRiverModel_shallows 10 true (0, [(0, am_pv 65), (1, am_iv x1), (2, am_iv x2), (3, am_iv x3), (4, am_iv x4)], [], am_SH, (J, K, am_RF b)) = some (((decide (am_i32 (J 66 2)) && decide (am_i32 (x1 + 1))) && (am_in 2 295 && true)), .inl (bif am_cb .ge (x1 + 1) (J 66 2) then 20 else 16, [(0, am_pv 65), (1, am_iv x1), (2, am_iv x2), (3, am_iv x3), (4, am_iv x4), (5, am_iv (J 66 2))], [], am_SH, (J, K, am_RF b))) from rfl) (am_g2 g2628 g2629 (am_gi (by decide) rfl)) (am_nd_f c2630) ?_
    refine am_r_go (show am_stepn X T_UpRiverModel_shallows 1 true (20, [(0, am_pv 65), (1, am_iv x1), (2, am_iv x2), (3, am_iv x3), (4, am_iv x4), (5, am_iv (J 66 2))], [], am_SH, (J, K, am_RF b)) = some (true, .inl (21, [(1, am_iv x1), (3, am_iv x3), (4, am_iv x4), (5, am_iv (J 66 2))], [am_iv 0], am_SH, (J, K, am_RF b))) from rfl) rfl ?_
    exact s_UpRiverModel_shallows_L21  _ _ _ _ _ _ h
theorem s_UpRiverModel_lead_L58 {X : am_X} {b : Bool} {J : am_J} {K : am_K}  : ∀ (n : Nat) (x2 : Int) (x3 : Int) (x4 : Int) (x5 : Int) (x6 : Int) (x7 : Int) (x8 : Int) (r : Int), f_UpRiverModel_lead_L58 J  n x2 x3 x4 x5 x6 x7 x8 = some r → am_runs X T_UpRiverModel_lead (58, [(2, am_iv x2), (3, am_iv x3), (4, am_iv x4), (5, am_iv x5), (6, am_iv x6), (7, am_iv x7), (8, am_iv x8)], [], am_SH, (J, K, am_RF b)) (some (am_iv r), am_SH, (J, K, am_RF b)) := by
  intro n
  induction n with
  | zero =>
    intro x2 x3 x4 x5 x6 x7 x8 r h
    cases h
  | succ n ih =>
    intro x2 x3 x4 x5 x6 x7 x8 r h
    rw [f_UpRiverModel_lead_L58.eq_2] at h
    obtain ⟨g2631, h⟩ := am_if_some h
    by_cases c2632 : x8 = 0
    · rw [if_pos c2632] at h
      refine am_r_t (show am_stepn X T_UpRiverModel_lead 2 true (58, [(2, am_iv x2), (3, am_iv x3), (4, am_iv x4), (5, am_iv x5), (6, am_iv x6), (7, am_iv x7), (8, am_iv x8)], [], am_SH, (J, K, am_RF b)) = some ((decide (am_i32 x8) && true), .inl (bif am_cb .eq x8 0 then 81 else 63, [(2, am_iv x2), (3, am_iv x3), (4, am_iv x4), (5, am_iv x5), (6, am_iv x6), (7, am_iv x7), (8, am_iv x8)], [], am_SH, (J, K, am_RF b))) from rfl) (am_g1 g2631 rfl) (decide_eq_true c2632) ?_
      obtain ⟨g2633, h⟩ := am_if_some h
      by_cases c2634 : x5 = 0
      · rw [if_pos c2634] at h
        refine am_r_f (show am_stepn X T_UpRiverModel_lead 2 true (81, [(2, am_iv x2), (3, am_iv x3), (4, am_iv x4), (5, am_iv x5), (6, am_iv x6), (7, am_iv x7), (8, am_iv x8)], [], am_SH, (J, K, am_RF b)) = some ((decide (am_i32 x5) && true), .inl (bif am_cb .ne x5 0 then 94 else 86, [(2, am_iv x2), (3, am_iv x3), (4, am_iv x4), (5, am_iv x5), (6, am_iv x6), (7, am_iv x7)], [], am_SH, (J, K, am_RF b))) from rfl) (am_g1 g2633 rfl) (am_nd_t c2634) ?_
        obtain ⟨g2635, h⟩ := am_if_some h
        obtain ⟨g2636, h⟩ := am_if_some h
        obtain rfl := Option.some.inj h
        exact am_r_ret (show am_stepn X T_UpRiverModel_lead 5 true (86, [(2, am_iv x2), (3, am_iv x3), (4, am_iv x4), (5, am_iv x5), (6, am_iv x6), (7, am_iv x7)], [], am_SH, (J, K, am_RF b)) = some (((decide (0 < (x7 : Int) ∧ am_i32 x7) && decide (am_i32 x6)) && true), .inr (.inr (some (am_iv (am_dv x6 x7)), am_SH, (J, K, am_RF b)))) from rfl) (am_g2 g2635 g2636 rfl)
      · rw [if_neg c2634] at h
        refine am_r_t (show am_stepn X T_UpRiverModel_lead 2 true (81, [(2, am_iv x2), (3, am_iv x3), (4, am_iv x4), (5, am_iv x5), (6, am_iv x6), (7, am_iv x7), (8, am_iv x8)], [], am_SH, (J, K, am_RF b)) = some ((decide (am_i32 x5) && true), .inl (bif am_cb .ne x5 0 then 94 else 86, [(2, am_iv x2), (3, am_iv x3), (4, am_iv x4), (5, am_iv x5), (6, am_iv x6), (7, am_iv x7)], [], am_SH, (J, K, am_RF b))) from rfl) (am_g1 g2633 rfl) (am_nd_f c2634) ?_
        obtain ⟨g2637, h⟩ := am_if_some h
        obtain ⟨g2638, h⟩ := am_if_some h
        obtain rfl := Option.some.inj h
        exact am_r_ret (show am_stepn X T_UpRiverModel_lead 8 true (94, [(2, am_iv x2), (3, am_iv x3), (4, am_iv x4), (5, am_iv x5), (6, am_iv x6), (7, am_iv x7)], [], am_SH, (J, K, am_RF b)) = some (((decide (0 < (x7 : Int) ∧ am_i32 x7) && decide (am_i32 ((x2 + x3) + x4))) && true), .inr (.inr (some (am_iv (am_dv ((x2 + x3) + x4) x7)), am_SH, (J, K, am_RF b)))) from rfl) (am_g2 g2637 g2638 rfl)
    · rw [if_neg c2632] at h
      refine am_r_f (show am_stepn X T_UpRiverModel_lead 2 true (58, [(2, am_iv x2), (3, am_iv x3), (4, am_iv x4), (5, am_iv x5), (6, am_iv x6), (7, am_iv x7), (8, am_iv x8)], [], am_SH, (J, K, am_RF b)) = some ((decide (am_i32 x8) && true), .inl (bif am_cb .eq x8 0 then 81 else 63, [(2, am_iv x2), (3, am_iv x3), (4, am_iv x4), (5, am_iv x5), (6, am_iv x6), (7, am_iv x7), (8, am_iv x8)], [], am_SH, (J, K, am_RF b))) from rfl) (am_g1 g2631 rfl) (decide_eq_false c2632) ?_
      obtain ⟨g2639, h⟩ := am_if_some h
      obtain ⟨g2640, h⟩ := am_if_some h
      refine am_r_go (show am_stepn X T_UpRiverModel_lead 9 true (63, [(2, am_iv x2), (3, am_iv x3), (4, am_iv x4), (5, am_iv x5), (6, am_iv x6), (7, am_iv x7), (8, am_iv x8)], [], am_SH, (J, K, am_RF b)) = some (((decide (0 < (x8 : Int) ∧ am_i32 x8) && decide (am_i32 x7)) && true), .inl (58, [(2, am_iv x2), (3, am_iv x3), (4, am_iv x4), (5, am_iv x5), (6, am_iv x6), (7, am_iv x8), (8, am_iv (am_rm x7 x8)), (9, am_iv (am_rm x7 x8))], [], am_SH, (J, K, am_RF b))) from rfl) (am_g2 g2639 g2640 rfl) ?_
      refine am_r_eq (σ' := (58, [(2, am_iv x2), (3, am_iv x3), (4, am_iv x4), (5, am_iv x5), (6, am_iv x6), (7, am_iv x8), (8, am_iv (am_rm x7 x8))], [], am_SH, (J, K, am_RF b))) rfl ?_
      exact ih _ _ _ _ _ _ _ _ h
theorem s_UpRiverModel_lead {X : am_X} {b : Bool} {J : am_J} {K : am_K} {x1 : Int} {x2 : Int} {x3 : Int} {x4 : Int} {x5 : Int} {r : Int} (h : f_UpRiverModel_lead J x1 x2 x3 x4 x5 = some r) : am_runs X T_UpRiverModel_lead (0, [(0, am_pv 65), (1, am_iv x1), (2, am_iv x2), (3, am_iv x3), (4, am_iv x4), (5, am_iv x5)], [], am_SH, (J, K, am_RF b)) (some (am_iv r), am_SH, (J, K, am_RF b)) := by
  unfold f_UpRiverModel_lead at h
  obtain ⟨q2641, e2642, h⟩ := am_bind_some h
  refine am_r_call (show am_stepn X T_UpRiverModel_lead 5 true (0, [(0, am_pv 65), (1, am_iv x1), (2, am_iv x2), (3, am_iv x3), (4, am_iv x4), (5, am_iv x5)], [], am_SH, (J, K, am_RF b)) = some (true, .inr (.inl (150, [am_jv (am_i2l x1), am_jv (0 : Int64), am_jv (30 : Int64)], 6, 0, 0, 9, [(0, am_pv 65), (1, am_iv x1), (2, am_iv x2), (3, am_iv x3), (4, am_iv x4), (5, am_iv x5)], [], am_SH, (J, K, am_RF b)))) from rfl) rfl tb_UpRiverModel_in (s_UpRiverModel_in e2642) ?_
  obtain ⟨g2643, h⟩ := am_if_some h
  by_cases c2644 : q2641 = 0
  · rw [if_pos c2644] at h
    refine am_r_t (show am_stepn X T_UpRiverModel_lead 1 true (9, [(0, am_pv 65), (1, am_iv x1), (2, am_iv x2), (3, am_iv x3), (4, am_iv x4), (5, am_iv x5)], [am_iv q2641], am_SH, (J, K, am_RF b)) = some ((decide (am_i32 q2641) && true), .inl (bif am_cb .eq q2641 0 then 33 else 12, [(0, am_pv 65), (1, am_iv x1), (2, am_iv x2), (3, am_iv x3), (4, am_iv x4), (5, am_iv x5)], [], am_SH, (J, K, am_RF b))) from rfl) (am_g1 g2643 rfl) (decide_eq_true c2644) ?_
    obtain rfl := Option.some.inj h
    exact am_r_ret (show am_stepn X T_UpRiverModel_lead 2 true (33, [(0, am_pv 65), (1, am_iv x1), (2, am_iv x2), (3, am_iv x3), (4, am_iv x4), (5, am_iv x5)], [], am_SH, (J, K, am_RF b)) = some (true, .inr (.inr (some (am_iv (-1)), am_SH, (J, K, am_RF b)))) from rfl) rfl
  · rw [if_neg c2644] at h
    refine am_r_f (show am_stepn X T_UpRiverModel_lead 1 true (9, [(0, am_pv 65), (1, am_iv x1), (2, am_iv x2), (3, am_iv x3), (4, am_iv x4), (5, am_iv x5)], [am_iv q2641], am_SH, (J, K, am_RF b)) = some ((decide (am_i32 q2641) && true), .inl (bif am_cb .eq q2641 0 then 33 else 12, [(0, am_pv 65), (1, am_iv x1), (2, am_iv x2), (3, am_iv x3), (4, am_iv x4), (5, am_iv x5)], [], am_SH, (J, K, am_RF b))) from rfl) (am_g1 g2643 rfl) (decide_eq_false c2644) ?_
    obtain ⟨q2645, e2646, h⟩ := am_bind_some h
    refine am_r_call (show am_stepn X T_UpRiverModel_lead 4 true (12, [(0, am_pv 65), (1, am_iv x1), (2, am_iv x2), (3, am_iv x3), (4, am_iv x4), (5, am_iv x5)], [], am_SH, (J, K, am_RF b)) = some (true, .inr (.inl (228, [am_iv x2, am_iv x3, am_iv x4], 3, 0, 0, 19, [(0, am_pv 65), (1, am_iv x1), (2, am_iv x2), (3, am_iv x3), (4, am_iv x4), (5, am_iv x5)], [], am_SH, (J, K, am_RF b)))) from rfl) rfl tb_UpRiverModel_isLead (s_UpRiverModel_isLead e2646) ?_
    obtain ⟨g2647, h⟩ := am_if_some h
    by_cases c2648 : q2645 = 0
    · rw [if_pos c2648] at h
      refine am_r_t (show am_stepn X T_UpRiverModel_lead 1 true (19, [(0, am_pv 65), (1, am_iv x1), (2, am_iv x2), (3, am_iv x3), (4, am_iv x4), (5, am_iv x5)], [am_iv q2645], am_SH, (J, K, am_RF b)) = some ((decide (am_i32 q2645) && true), .inl (bif am_cb .eq q2645 0 then 33 else 22, [(0, am_pv 65), (1, am_iv x1), (2, am_iv x2), (3, am_iv x3), (4, am_iv x4), (5, am_iv x5)], [], am_SH, (J, K, am_RF b))) from rfl) (am_g1 g2647 rfl) (decide_eq_true c2648) ?_
      obtain rfl := Option.some.inj h
      exact am_r_ret (show am_stepn X T_UpRiverModel_lead 2 true (33, [(0, am_pv 65), (1, am_iv x1), (2, am_iv x2), (3, am_iv x3), (4, am_iv x4), (5, am_iv x5)], [], am_SH, (J, K, am_RF b)) = some (true, .inr (.inr (some (am_iv (-1)), am_SH, (J, K, am_RF b)))) from rfl) rfl
    · rw [if_neg c2648] at h
      refine am_r_f (show am_stepn X T_UpRiverModel_lead 1 true (19, [(0, am_pv 65), (1, am_iv x1), (2, am_iv x2), (3, am_iv x3), (4, am_iv x4), (5, am_iv x5)], [am_iv q2645], am_SH, (J, K, am_RF b)) = some ((decide (am_i32 q2645) && true), .inl (bif am_cb .eq q2645 0 then 33 else 22, [(0, am_pv 65), (1, am_iv x1), (2, am_iv x2), (3, am_iv x3), (4, am_iv x4), (5, am_iv x5)], [], am_SH, (J, K, am_RF b))) from rfl) (am_g1 g2647 rfl) (decide_eq_false c2648) ?_
      obtain ⟨q2649, e2650, h⟩ := am_bind_some h
      refine am_r_call (show am_stepn X T_UpRiverModel_lead 5 true (22, [(0, am_pv 65), (1, am_iv x1), (2, am_iv x2), (3, am_iv x3), (4, am_iv x4), (5, am_iv x5)], [], am_SH, (J, K, am_RF b)) = some (true, .inr (.inl (150, [am_jv (am_i2l x5), am_jv (0 : Int64), am_jv (1 : Int64)], 6, 0, 0, 30, [(0, am_pv 65), (1, am_iv x1), (2, am_iv x2), (3, am_iv x3), (4, am_iv x4), (5, am_iv x5)], [], am_SH, (J, K, am_RF b)))) from rfl) rfl tb_UpRiverModel_in (s_UpRiverModel_in e2650) ?_
      obtain ⟨g2651, h⟩ := am_if_some h
      by_cases c2652 : q2649 = 0
      · rw [if_pos c2652] at h
        refine am_r_f (show am_stepn X T_UpRiverModel_lead 1 true (30, [(0, am_pv 65), (1, am_iv x1), (2, am_iv x2), (3, am_iv x3), (4, am_iv x4), (5, am_iv x5)], [am_iv q2649], am_SH, (J, K, am_RF b)) = some ((decide (am_i32 q2649) && true), .inl (bif am_cb .ne q2649 0 then 35 else 33, [(0, am_pv 65), (1, am_iv x1), (2, am_iv x2), (3, am_iv x3), (4, am_iv x4), (5, am_iv x5)], [], am_SH, (J, K, am_RF b))) from rfl) (am_g1 g2651 rfl) (am_nd_t c2652) ?_
        obtain rfl := Option.some.inj h
        exact am_r_ret (show am_stepn X T_UpRiverModel_lead 2 true (33, [(0, am_pv 65), (1, am_iv x1), (2, am_iv x2), (3, am_iv x3), (4, am_iv x4), (5, am_iv x5)], [], am_SH, (J, K, am_RF b)) = some (true, .inr (.inr (some (am_iv (-1)), am_SH, (J, K, am_RF b)))) from rfl) rfl
      · rw [if_neg c2652] at h
        refine am_r_t (show am_stepn X T_UpRiverModel_lead 1 true (30, [(0, am_pv 65), (1, am_iv x1), (2, am_iv x2), (3, am_iv x3), (4, am_iv x4), (5, am_iv x5)], [am_iv q2649], am_SH, (J, K, am_RF b)) = some ((decide (am_i32 q2649) && true), .inl (bif am_cb .ne q2649 0 then 35 else 33, [(0, am_pv 65), (1, am_iv x1), (2, am_iv x2), (3, am_iv x3), (4, am_iv x4), (5, am_iv x5)], [], am_SH, (J, K, am_RF b))) from rfl) (am_g1 g2651 rfl) (am_nd_f c2652) ?_
        obtain ⟨q2653, e2654, h⟩ := am_bind_some h
        refine am_r_call (show am_stepn X T_UpRiverModel_lead 6 true (35, [(0, am_pv 65), (1, am_iv x1), (2, am_iv x2), (3, am_iv x3), (4, am_iv x4), (5, am_iv x5)], [], am_SH, (J, K, am_RF b)) = some (true, .inr (.inl (229, [am_pv 65, am_iv x1, am_iv x2, am_iv x3, am_iv x4], 6, 0, 0, 44, [(0, am_pv 65), (1, am_iv x1), (2, am_iv x2), (3, am_iv x3), (4, am_iv x4), (5, am_iv x5)], [], am_SH, (J, K, am_RF b)))) from rfl) rfl tb_UpRiverModel_shallows (s_UpRiverModel_shallows e2654) ?_
        refine am_r_go (show am_stepn X T_UpRiverModel_lead 9 true (44, [(0, am_pv 65), (1, am_iv x1), (2, am_iv x2), (3, am_iv x3), (4, am_iv x4), (5, am_iv x5)], [am_iv q2653], am_SH, (J, K, am_RF b)) = some (true, .inl (58, [(0, am_pv 65), (1, am_iv x1), (2, am_iv x2), (3, am_iv x3), (4, am_iv x4), (5, am_iv x5), (6, am_iv q2653), (7, am_iv ((x2 + x3) + x4)), (8, am_iv q2653)], [], am_SH, (J, K, am_RF b))) from rfl) rfl ?_
        refine am_r_eq (σ' := (58, [(2, am_iv x2), (3, am_iv x3), (4, am_iv x4), (5, am_iv x5), (6, am_iv q2653), (7, am_iv ((x2 + x3) + x4)), (8, am_iv q2653)], [], am_SH, (J, K, am_RF b))) rfl ?_
        exact s_UpRiverModel_lead_L58  _ _ _ _ _ _ _ _ _ h
theorem s_UpRiverModel_near_L77 {X : am_X} {b : Bool} {J : am_J} {K : am_K}  : ∀ (x6 : Int) (r : Int), f_UpRiverModel_near_L77 J   x6 = some r → am_runs X T_UpRiverModel_near (77, [(6, am_iv x6)], [], am_SH, (J, K, am_RF b)) (some (am_iv r), am_SH, (J, K, am_RF b)) := by
  intro x6 r h
  unfold f_UpRiverModel_near_L77 at h
  obtain ⟨g2655, h⟩ := am_if_some h
  by_cases c2656 : x6 = 31
  · rw [if_pos c2656] at h
    refine am_r_f (show am_stepn X T_UpRiverModel_near 3 true (77, [(6, am_iv x6)], [], am_SH, (J, K, am_RF b)) = some (((decide (am_i32 31) && decide (am_i32 x6)) && true), .inl (bif am_cb .ne x6 31 then 89 else 84, [(6, am_iv x6)], [], am_SH, (J, K, am_RF b))) from rfl) (am_g2 (by decide) g2655 rfl) (am_nd_t c2656) ?_
    obtain rfl := Option.some.inj h
    exact am_r_ret (show am_stepn X T_UpRiverModel_near 3 true (84, [(6, am_iv x6)], [], am_SH, (J, K, am_RF b)) = some (true, .inr (.inr (some (am_iv (-4)), am_SH, (J, K, am_RF b)))) from rfl) rfl
  · rw [if_neg c2656] at h
    refine am_r_t (show am_stepn X T_UpRiverModel_near 3 true (77, [(6, am_iv x6)], [], am_SH, (J, K, am_RF b)) = some (((decide (am_i32 31) && decide (am_i32 x6)) && true), .inl (bif am_cb .ne x6 31 then 89 else 84, [(6, am_iv x6)], [], am_SH, (J, K, am_RF b))) from rfl) (am_g2 (by decide) g2655 rfl) (am_nd_f c2656) ?_
    obtain rfl := Option.some.inj h
    exact am_r_ret (show am_stepn X T_UpRiverModel_near 2 true (89, [(6, am_iv x6)], [], am_SH, (J, K, am_RF b)) = some (true, .inr (.inr (some (am_iv x6), am_SH, (J, K, am_RF b)))) from rfl) rfl
theorem s_UpRiverModel_near_L41 {X : am_X} {b : Bool} {J : am_J} {K : am_K}  : ∀ (n : Nat) (x1 : Int) (x2 : Int) (x3 : Int) (x4 : Int) (x5 : Int) (x6 : Int) (r : Int), f_UpRiverModel_near_L41 J  n x1 x2 x3 x4 x5 x6 = some r → am_runs X T_UpRiverModel_near (41, [(0, am_pv 65), (1, am_iv x1), (2, am_iv x2), (3, am_iv x3), (4, am_iv x4), (5, am_iv x5), (6, am_iv x6)], [], am_SH, (J, K, am_RF b)) (some (am_iv r), am_SH, (J, K, am_RF b)) := by
  intro n
  induction n with
  | zero =>
    intro x1 x2 x3 x4 x5 x6 r h
    cases h
  | succ n ih =>
    intro x1 x2 x3 x4 x5 x6 r h
    rw [f_UpRiverModel_near_L41.eq_2] at h
    obtain ⟨g2657, h⟩ := am_if_some h
    by_cases c2658 : 0 < x6
    · rw [if_pos c2658] at h
      refine am_r_f (show am_stepn X T_UpRiverModel_near 2 true (41, [(0, am_pv 65), (1, am_iv x1), (2, am_iv x2), (3, am_iv x3), (4, am_iv x4), (5, am_iv x5), (6, am_iv x6)], [], am_SH, (J, K, am_RF b)) = some ((decide (am_i32 x6) && true), .inl (bif am_cb .le x6 0 then 77 else 46, [(0, am_pv 65), (1, am_iv x1), (2, am_iv x2), (3, am_iv x3), (4, am_iv x4), (5, am_iv x5), (6, am_iv x6)], [], am_SH, (J, K, am_RF b))) from rfl) (am_g1 g2657 rfl) (am_nd_t c2658) ?_
      obtain ⟨q2659, e2660, h⟩ := am_bind_some h
      refine am_r_call (show am_stepn X T_UpRiverModel_near 8 true (46, [(0, am_pv 65), (1, am_iv x1), (2, am_iv x2), (3, am_iv x3), (4, am_iv x4), (5, am_iv x5), (6, am_iv x6)], [], am_SH, (J, K, am_RF b)) = some (true, .inr (.inl (229, [am_pv 65, am_iv (x6 - 1), am_iv x1, am_iv x2, am_iv x3], 6, 0, 0, 57, [(0, am_pv 65), (1, am_iv x1), (2, am_iv x2), (3, am_iv x3), (4, am_iv x4), (5, am_iv x5), (6, am_iv x6)], [], am_SH, (J, K, am_RF b)))) from rfl) rfl tb_UpRiverModel_shallows (s_UpRiverModel_shallows e2660) ?_
      obtain ⟨g2661, h⟩ := am_if_some h
      obtain ⟨g2662, h⟩ := am_if_some h
      by_cases c2663 : (x4 * ((x1 + x2) + x3)) < (q2659 * x5)
      · rw [if_pos c2663] at h
        refine am_r_t (show am_stepn X T_UpRiverModel_near 10 true (57, [(0, am_pv 65), (1, am_iv x1), (2, am_iv x2), (3, am_iv x3), (4, am_iv x4), (5, am_iv x5), (6, am_iv x6)], [am_iv q2659], am_SH, (J, K, am_RF b)) = some (((decide (am_i32 (x4 * ((x1 + x2) + x3))) && decide (am_i32 (q2659 * x5))) && true), .inl (bif am_cb .gt (q2659 * x5) (x4 * ((x1 + x2) + x3)) then 77 else 71, [(0, am_pv 65), (1, am_iv x1), (2, am_iv x2), (3, am_iv x3), (4, am_iv x4), (5, am_iv x5), (6, am_iv x6)], [], am_SH, (J, K, am_RF b))) from rfl) (am_g2 g2661 g2662 rfl) (decide_eq_true c2663) ?_
        refine am_r_eq (σ' := (77, [(6, am_iv x6)], [], am_SH, (J, K, am_RF b))) rfl ?_
        exact s_UpRiverModel_near_L77  _ _ h
      · rw [if_neg c2663] at h
        refine am_r_f (show am_stepn X T_UpRiverModel_near 10 true (57, [(0, am_pv 65), (1, am_iv x1), (2, am_iv x2), (3, am_iv x3), (4, am_iv x4), (5, am_iv x5), (6, am_iv x6)], [am_iv q2659], am_SH, (J, K, am_RF b)) = some (((decide (am_i32 (x4 * ((x1 + x2) + x3))) && decide (am_i32 (q2659 * x5))) && true), .inl (bif am_cb .gt (q2659 * x5) (x4 * ((x1 + x2) + x3)) then 77 else 71, [(0, am_pv 65), (1, am_iv x1), (2, am_iv x2), (3, am_iv x3), (4, am_iv x4), (5, am_iv x5), (6, am_iv x6)], [], am_SH, (J, K, am_RF b))) from rfl) (am_g2 g2661 g2662 rfl) (decide_eq_false c2663) ?_
        refine am_r_go (show am_stepn X T_UpRiverModel_near 2 true (71, [(0, am_pv 65), (1, am_iv x1), (2, am_iv x2), (3, am_iv x3), (4, am_iv x4), (5, am_iv x5), (6, am_iv x6)], [], am_SH, (J, K, am_RF b)) = some (true, .inl (41, [(0, am_pv 65), (1, am_iv x1), (2, am_iv x2), (3, am_iv x3), (4, am_iv x4), (5, am_iv x5), (6, am_iv (x6 + (-1)))], [], am_SH, (J, K, am_RF b))) from rfl) rfl ?_
        exact ih _ _ _ _ _ _ _ h
    · rw [if_neg c2658] at h
      refine am_r_t (show am_stepn X T_UpRiverModel_near 2 true (41, [(0, am_pv 65), (1, am_iv x1), (2, am_iv x2), (3, am_iv x3), (4, am_iv x4), (5, am_iv x5), (6, am_iv x6)], [], am_SH, (J, K, am_RF b)) = some ((decide (am_i32 x6) && true), .inl (bif am_cb .le x6 0 then 77 else 46, [(0, am_pv 65), (1, am_iv x1), (2, am_iv x2), (3, am_iv x3), (4, am_iv x4), (5, am_iv x5), (6, am_iv x6)], [], am_SH, (J, K, am_RF b))) from rfl) (am_g1 g2657 rfl) (am_nd_f c2658) ?_
      refine am_r_eq (σ' := (77, [(6, am_iv x6)], [], am_SH, (J, K, am_RF b))) rfl ?_
      exact s_UpRiverModel_near_L77  _ _ h
theorem s_UpRiverModel_near {X : am_X} {b : Bool} {J : am_J} {K : am_K} {x1 : Int} {x2 : Int} {x3 : Int} {x4 : Int} {x5 : Int} {r : Int} (h : f_UpRiverModel_near J x1 x2 x3 x4 x5 = some r) : am_runs X T_UpRiverModel_near (0, [(0, am_pv 65), (1, am_iv x1), (2, am_iv x2), (3, am_iv x3), (4, am_iv x4), (5, am_iv x5)], [], am_SH, (J, K, am_RF b)) (some (am_iv r), am_SH, (J, K, am_RF b)) := by
  unfold f_UpRiverModel_near at h
  obtain ⟨q2664, e2665, h⟩ := am_bind_some h
  refine am_r_call (show am_stepn X T_UpRiverModel_near 4 true (0, [(0, am_pv 65), (1, am_iv x1), (2, am_iv x2), (3, am_iv x3), (4, am_iv x4), (5, am_iv x5)], [], am_SH, (J, K, am_RF b)) = some (true, .inr (.inl (228, [am_iv x1, am_iv x2, am_iv x3], 3, 0, 0, 6, [(0, am_pv 65), (1, am_iv x1), (2, am_iv x2), (3, am_iv x3), (4, am_iv x4), (5, am_iv x5)], [], am_SH, (J, K, am_RF b)))) from rfl) rfl tb_UpRiverModel_isLead (s_UpRiverModel_isLead e2665) ?_
  obtain ⟨g2666, h⟩ := am_if_some h
  by_cases c2667 : q2664 = 0
  · rw [if_pos c2667] at h
    refine am_r_t (show am_stepn X T_UpRiverModel_near 1 true (6, [(0, am_pv 65), (1, am_iv x1), (2, am_iv x2), (3, am_iv x3), (4, am_iv x4), (5, am_iv x5)], [am_iv q2664], am_SH, (J, K, am_RF b)) = some ((decide (am_i32 q2664) && true), .inl (bif am_cb .eq q2664 0 then 35 else 9, [(0, am_pv 65), (1, am_iv x1), (2, am_iv x2), (3, am_iv x3), (4, am_iv x4), (5, am_iv x5)], [], am_SH, (J, K, am_RF b))) from rfl) (am_g1 g2666 rfl) (decide_eq_true c2667) ?_
    obtain rfl := Option.some.inj h
    exact am_r_ret (show am_stepn X T_UpRiverModel_near 2 true (35, [(0, am_pv 65), (1, am_iv x1), (2, am_iv x2), (3, am_iv x3), (4, am_iv x4), (5, am_iv x5)], [], am_SH, (J, K, am_RF b)) = some (true, .inr (.inr (some (am_iv (-1)), am_SH, (J, K, am_RF b)))) from rfl) rfl
  · rw [if_neg c2667] at h
    refine am_r_f (show am_stepn X T_UpRiverModel_near 1 true (6, [(0, am_pv 65), (1, am_iv x1), (2, am_iv x2), (3, am_iv x3), (4, am_iv x4), (5, am_iv x5)], [am_iv q2664], am_SH, (J, K, am_RF b)) = some ((decide (am_i32 q2664) && true), .inl (bif am_cb .eq q2664 0 then 35 else 9, [(0, am_pv 65), (1, am_iv x1), (2, am_iv x2), (3, am_iv x3), (4, am_iv x4), (5, am_iv x5)], [], am_SH, (J, K, am_RF b))) from rfl) (am_g1 g2666 rfl) (decide_eq_false c2667) ?_
    obtain ⟨q2668, e2669, h⟩ := am_bind_some h
    refine am_r_call (show am_stepn X T_UpRiverModel_near 5 true (9, [(0, am_pv 65), (1, am_iv x1), (2, am_iv x2), (3, am_iv x3), (4, am_iv x4), (5, am_iv x5)], [], am_SH, (J, K, am_RF b)) = some (true, .inr (.inl (150, [am_jv (am_i2l x4), am_jv (0 : Int64), am_jv (99 : Int64)], 6, 0, 0, 19, [(0, am_pv 65), (1, am_iv x1), (2, am_iv x2), (3, am_iv x3), (4, am_iv x4), (5, am_iv x5)], [], am_SH, (J, K, am_RF b)))) from rfl) rfl tb_UpRiverModel_in (s_UpRiverModel_in e2669) ?_
    obtain ⟨g2670, h⟩ := am_if_some h
    by_cases c2671 : q2668 = 0
    · rw [if_pos c2671] at h
      refine am_r_t (show am_stepn X T_UpRiverModel_near 1 true (19, [(0, am_pv 65), (1, am_iv x1), (2, am_iv x2), (3, am_iv x3), (4, am_iv x4), (5, am_iv x5)], [am_iv q2668], am_SH, (J, K, am_RF b)) = some ((decide (am_i32 q2668) && true), .inl (bif am_cb .eq q2668 0 then 35 else 22, [(0, am_pv 65), (1, am_iv x1), (2, am_iv x2), (3, am_iv x3), (4, am_iv x4), (5, am_iv x5)], [], am_SH, (J, K, am_RF b))) from rfl) (am_g1 g2670 rfl) (decide_eq_true c2671) ?_
      obtain rfl := Option.some.inj h
      exact am_r_ret (show am_stepn X T_UpRiverModel_near 2 true (35, [(0, am_pv 65), (1, am_iv x1), (2, am_iv x2), (3, am_iv x3), (4, am_iv x4), (5, am_iv x5)], [], am_SH, (J, K, am_RF b)) = some (true, .inr (.inr (some (am_iv (-1)), am_SH, (J, K, am_RF b)))) from rfl) rfl
    · rw [if_neg c2671] at h
      refine am_r_f (show am_stepn X T_UpRiverModel_near 1 true (19, [(0, am_pv 65), (1, am_iv x1), (2, am_iv x2), (3, am_iv x3), (4, am_iv x4), (5, am_iv x5)], [am_iv q2668], am_SH, (J, K, am_RF b)) = some ((decide (am_i32 q2668) && true), .inl (bif am_cb .eq q2668 0 then 35 else 22, [(0, am_pv 65), (1, am_iv x1), (2, am_iv x2), (3, am_iv x3), (4, am_iv x4), (5, am_iv x5)], [], am_SH, (J, K, am_RF b))) from rfl) (am_g1 g2670 rfl) (decide_eq_false c2671) ?_
      obtain ⟨q2672, e2673, h⟩ := am_bind_some h
      refine am_r_call (show am_stepn X T_UpRiverModel_near 5 true (22, [(0, am_pv 65), (1, am_iv x1), (2, am_iv x2), (3, am_iv x3), (4, am_iv x4), (5, am_iv x5)], [], am_SH, (J, K, am_RF b)) = some (true, .inr (.inl (150, [am_jv (am_i2l x5), am_jv (1 : Int64), am_jv (99 : Int64)], 6, 0, 0, 32, [(0, am_pv 65), (1, am_iv x1), (2, am_iv x2), (3, am_iv x3), (4, am_iv x4), (5, am_iv x5)], [], am_SH, (J, K, am_RF b)))) from rfl) rfl tb_UpRiverModel_in (s_UpRiverModel_in e2673) ?_
      obtain ⟨g2674, h⟩ := am_if_some h
      by_cases c2675 : q2672 = 0
      · rw [if_pos c2675] at h
        refine am_r_f (show am_stepn X T_UpRiverModel_near 1 true (32, [(0, am_pv 65), (1, am_iv x1), (2, am_iv x2), (3, am_iv x3), (4, am_iv x4), (5, am_iv x5)], [am_iv q2672], am_SH, (J, K, am_RF b)) = some ((decide (am_i32 q2672) && true), .inl (bif am_cb .ne q2672 0 then 37 else 35, [(0, am_pv 65), (1, am_iv x1), (2, am_iv x2), (3, am_iv x3), (4, am_iv x4), (5, am_iv x5)], [], am_SH, (J, K, am_RF b))) from rfl) (am_g1 g2674 rfl) (am_nd_t c2675) ?_
        obtain rfl := Option.some.inj h
        exact am_r_ret (show am_stepn X T_UpRiverModel_near 2 true (35, [(0, am_pv 65), (1, am_iv x1), (2, am_iv x2), (3, am_iv x3), (4, am_iv x4), (5, am_iv x5)], [], am_SH, (J, K, am_RF b)) = some (true, .inr (.inr (some (am_iv (-1)), am_SH, (J, K, am_RF b)))) from rfl) rfl
      · rw [if_neg c2675] at h
        refine am_r_t (show am_stepn X T_UpRiverModel_near 1 true (32, [(0, am_pv 65), (1, am_iv x1), (2, am_iv x2), (3, am_iv x3), (4, am_iv x4), (5, am_iv x5)], [am_iv q2672], am_SH, (J, K, am_RF b)) = some ((decide (am_i32 q2672) && true), .inl (bif am_cb .ne q2672 0 then 37 else 35, [(0, am_pv 65), (1, am_iv x1), (2, am_iv x2), (3, am_iv x3), (4, am_iv x4), (5, am_iv x5)], [], am_SH, (J, K, am_RF b))) from rfl) (am_g1 g2674 rfl) (am_nd_f c2675) ?_
        refine am_r_go (show am_stepn X T_UpRiverModel_near 2 true (37, [(0, am_pv 65), (1, am_iv x1), (2, am_iv x2), (3, am_iv x3), (4, am_iv x4), (5, am_iv x5)], [], am_SH, (J, K, am_RF b)) = some (true, .inl (41, [(0, am_pv 65), (1, am_iv x1), (2, am_iv x2), (3, am_iv x3), (4, am_iv x4), (5, am_iv x5), (6, am_iv 31)], [], am_SH, (J, K, am_RF b))) from rfl) rfl ?_
        exact s_UpRiverModel_near_L41  _ _ _ _ _ _ _ _ h
theorem s_UpRiverModel_logOf {X : am_X} {b : Bool} {J : am_J} {K : am_K} {x1 : Int} {x2 : Int} {r : Int} (h : f_UpRiverModel_logOf J x1 x2 = some r) : am_runs X T_UpRiverModel_logOf (0, [(0, am_pv 65), (1, am_iv x1), (2, am_iv x2)], [], am_SH, (J, K, am_RF b)) (some (am_iv r), am_SH, (J, K, am_RF b)) := by
  unfold f_UpRiverModel_logOf at h
  obtain ⟨g2676, h⟩ := am_if_some h
  obtain rfl := Option.some.inj h
  exact am_r_ret (show am_stepn X T_UpRiverModel_logOf 11 true (0, [(0, am_pv 65), (1, am_iv x1), (2, am_iv x2)], [], am_SH, (J, K, am_RF b)) = some ((am_in ((7 + (2 * x1)) + x2) 216 && true), .inr (.inr (some (am_iv (J 68 (((7 + (2 * x1)) + x2).toNat))), am_SH, (J, K, am_RF b)))) from rfl) (am_gi g2676 rfl)
theorem s_UpRiverModel_logged_L61 {X : am_X} {b : Bool} {K : am_K}  : ∀ (x1 : Int) (x2 : Int) (x3 : Int) (J : am_J) (r : Int × am_J), f_UpRiverModel_logged_L61    x1 x2 x3 J = some r → am_runs X T_UpRiverModel_logged (61, [(0, am_pv 65), (1, am_iv x1), (2, am_iv x2), (3, am_iv x3)], [], am_SH, (J, K, am_RF b)) (some (am_iv r.1), am_SH, (r.2, K, am_RF b)) := by
  intro x1 x2 x3 J r h
  unfold f_UpRiverModel_logged_L61 at h
  obtain ⟨g2677, h⟩ := am_if_some h
  by_cases c2678 : x3 = 12
  · rw [if_pos c2678] at h
    refine am_r_f (show am_stepn X T_UpRiverModel_logged 3 true (61, [(0, am_pv 65), (1, am_iv x1), (2, am_iv x2), (3, am_iv x3)], [], am_SH, (J, K, am_RF b)) = some (((decide (am_i32 12) && decide (am_i32 x3)) && true), .inl (bif am_cb .ne x3 12 then 70 else 67, [(0, am_pv 65), (1, am_iv x1), (2, am_iv x2), (3, am_iv x3)], [], am_SH, (J, K, am_RF b))) from rfl) (am_g2 (by decide) g2677 rfl) (am_nd_t c2678) ?_
    obtain rfl := Option.some.inj h
    exact am_r_ret (show am_stepn X T_UpRiverModel_logged 2 true (67, [(0, am_pv 65), (1, am_iv x1), (2, am_iv x2), (3, am_iv x3)], [], am_SH, (J, K, am_RF b)) = some (true, .inr (.inr (some (am_iv (-3)), am_SH, (J, K, am_RF b)))) from rfl) rfl
  · rw [if_neg c2678] at h
    refine am_r_t (show am_stepn X T_UpRiverModel_logged 3 true (61, [(0, am_pv 65), (1, am_iv x1), (2, am_iv x2), (3, am_iv x3)], [], am_SH, (J, K, am_RF b)) = some (((decide (am_i32 12) && decide (am_i32 x3)) && true), .inl (bif am_cb .ne x3 12 then 70 else 67, [(0, am_pv 65), (1, am_iv x1), (2, am_iv x2), (3, am_iv x3)], [], am_SH, (J, K, am_RF b))) from rfl) (am_g2 (by decide) g2677 rfl) (am_nd_f c2678) ?_
    obtain ⟨g2679, h⟩ := am_if_some h
    obtain ⟨g2680, h⟩ := am_if_some h
    obtain rfl := Option.some.inj h
    exact am_r_ret (show am_stepn X T_UpRiverModel_logged 31 true (70, [(0, am_pv 65), (1, am_iv x1), (2, am_iv x2), (3, am_iv x3)], [], am_SH, (J, K, am_RF b)) = some ((am_in 6 216 && (am_in ((7 + (2 * x3)) + 1) 216 && (am_in (7 + (2 * x3)) 216 && true))), .inr (.inr (some (am_iv (x3 + 1)), am_SH, ((am_up (am_up (am_up J 68 ((7 + (2 * x3)).toNat) x1) 68 (((7 + (2 * x3)) + 1).toNat) x2) 68 6 (x3 + 1)), K, am_RF b)))) from rfl) (am_gi (by decide) (am_gi g2680 (am_gi g2679 rfl)))
theorem s_UpRiverModel_logged {X : am_X} {b : Bool} {K : am_K} {x1 : Int} {x2 : Int} {J : am_J} {r : Int × am_J} (h : f_UpRiverModel_logged  x1 x2 J = some r) : am_runs X T_UpRiverModel_logged (0, [(0, am_pv 65), (1, am_iv x1), (2, am_iv x2)], [], am_SH, (J, K, am_RF b)) (some (am_iv r.1), am_SH, (r.2, K, am_RF b)) := by
  unfold f_UpRiverModel_logged at h
  obtain ⟨q2681, e2682, h⟩ := am_bind_some h
  refine am_r_call (show am_stepn X T_UpRiverModel_logged 14 true (0, [(0, am_pv 65), (1, am_iv x1), (2, am_iv x2)], [], am_SH, (J, K, am_RF b)) = some ((am_in 0 295 && (am_in 6 216 && true)), .inr (.inl (150, [am_jv (am_i2l x1), am_jv (0 : Int64), am_jv (am_i2l (J 66 0))], 6, 0, 0, 21, [(0, am_pv 65), (1, am_iv x1), (2, am_iv x2), (3, am_iv (J 68 6))], [], am_SH, (J, K, am_RF b)))) from rfl) (am_gi (by decide) (am_gi (by decide) rfl)) tb_UpRiverModel_in (s_UpRiverModel_in e2682) ?_
  obtain ⟨g2683, h⟩ := am_if_some h
  by_cases c2684 : q2681 = 0
  · rw [if_pos c2684] at h
    refine am_r_t (show am_stepn X T_UpRiverModel_logged 1 true (21, [(0, am_pv 65), (1, am_iv x1), (2, am_iv x2), (3, am_iv (J 68 6))], [am_iv q2681], am_SH, (J, K, am_RF b)) = some ((decide (am_i32 q2681) && true), .inl (bif am_cb .eq q2681 0 then 59 else 24, [(0, am_pv 65), (1, am_iv x1), (2, am_iv x2), (3, am_iv (J 68 6))], [], am_SH, (J, K, am_RF b))) from rfl) (am_g1 g2683 rfl) (decide_eq_true c2684) ?_
    obtain rfl := Option.some.inj h
    exact am_r_ret (show am_stepn X T_UpRiverModel_logged 2 true (59, [(0, am_pv 65), (1, am_iv x1), (2, am_iv x2), (3, am_iv (J 68 6))], [], am_SH, (J, K, am_RF b)) = some (true, .inr (.inr (some (am_iv (-1)), am_SH, (J, K, am_RF b)))) from rfl) rfl
  · rw [if_neg c2684] at h
    refine am_r_f (show am_stepn X T_UpRiverModel_logged 1 true (21, [(0, am_pv 65), (1, am_iv x1), (2, am_iv x2), (3, am_iv (J 68 6))], [am_iv q2681], am_SH, (J, K, am_RF b)) = some ((decide (am_i32 q2681) && true), .inl (bif am_cb .eq q2681 0 then 59 else 24, [(0, am_pv 65), (1, am_iv x1), (2, am_iv x2), (3, am_iv (J 68 6))], [], am_SH, (J, K, am_RF b))) from rfl) (am_g1 g2683 rfl) (decide_eq_false c2684) ?_
    obtain ⟨q2685, e2686, h⟩ := am_bind_some h
    refine am_r_call (show am_stepn X T_UpRiverModel_logged 2 true (24, [(0, am_pv 65), (1, am_iv x1), (2, am_iv x2), (3, am_iv (J 68 6))], [], am_SH, (J, K, am_RF b)) = some (true, .inr (.inl (177, [am_iv x2], 1, 0, 0, 28, [(0, am_pv 65), (1, am_iv x1), (2, am_iv x2), (3, am_iv (J 68 6))], [], am_SH, (J, K, am_RF b)))) from rfl) rfl tb_UpRiverModel_isMinute (s_UpRiverModel_isMinute e2686) ?_
    obtain ⟨g2687, h⟩ := am_if_some h
    by_cases c2688 : q2685 = 0
    · rw [if_pos c2688] at h
      refine am_r_t (show am_stepn X T_UpRiverModel_logged 1 true (28, [(0, am_pv 65), (1, am_iv x1), (2, am_iv x2), (3, am_iv (J 68 6))], [am_iv q2685], am_SH, (J, K, am_RF b)) = some ((decide (am_i32 q2685) && true), .inl (bif am_cb .eq q2685 0 then 59 else 31, [(0, am_pv 65), (1, am_iv x1), (2, am_iv x2), (3, am_iv (J 68 6))], [], am_SH, (J, K, am_RF b))) from rfl) (am_g1 g2687 rfl) (decide_eq_true c2688) ?_
      obtain rfl := Option.some.inj h
      exact am_r_ret (show am_stepn X T_UpRiverModel_logged 2 true (59, [(0, am_pv 65), (1, am_iv x1), (2, am_iv x2), (3, am_iv (J 68 6))], [], am_SH, (J, K, am_RF b)) = some (true, .inr (.inr (some (am_iv (-1)), am_SH, (J, K, am_RF b)))) from rfl) rfl
    · rw [if_neg c2688] at h
      refine am_r_f (show am_stepn X T_UpRiverModel_logged 1 true (28, [(0, am_pv 65), (1, am_iv x1), (2, am_iv x2), (3, am_iv (J 68 6))], [am_iv q2685], am_SH, (J, K, am_RF b)) = some ((decide (am_i32 q2685) && true), .inl (bif am_cb .eq q2685 0 then 59 else 31, [(0, am_pv 65), (1, am_iv x1), (2, am_iv x2), (3, am_iv (J 68 6))], [], am_SH, (J, K, am_RF b))) from rfl) (am_g1 g2687 rfl) (decide_eq_false c2688) ?_
      obtain ⟨g2689, h⟩ := am_if_some h
      by_cases c2690 : 0 < (J 68 6)
      · rw [if_pos c2690] at h
        refine am_r_f (show am_stepn X T_UpRiverModel_logged 2 true (31, [(0, am_pv 65), (1, am_iv x1), (2, am_iv x2), (3, am_iv (J 68 6))], [], am_SH, (J, K, am_RF b)) = some ((decide (am_i32 (J 68 6)) && true), .inl (bif am_cb .le (J 68 6) 0 then 61 else 35, [(0, am_pv 65), (1, am_iv x1), (2, am_iv x2), (3, am_iv (J 68 6))], [], am_SH, (J, K, am_RF b))) from rfl) (am_g1 g2689 rfl) (am_nd_t c2690) ?_
        obtain ⟨q2691, e2692, h⟩ := am_bind_some h
        refine am_r_call (show am_stepn X T_UpRiverModel_logged 7 true (35, [(0, am_pv 65), (1, am_iv x1), (2, am_iv x2), (3, am_iv (J 68 6))], [], am_SH, (J, K, am_RF b)) = some (true, .inr (.inl (232, [am_pv 65, am_iv ((J 68 6) - 1), am_iv 0], 3, 0, 0, 44, [(0, am_pv 65), (1, am_iv x1), (2, am_iv x2), (3, am_iv (J 68 6))], [am_iv x1], am_SH, (J, K, am_RF b)))) from rfl) rfl tb_UpRiverModel_logOf (s_UpRiverModel_logOf e2692) ?_
        obtain ⟨g2693, h⟩ := am_if_some h
        obtain ⟨g2694, h⟩ := am_if_some h
        by_cases c2695 : q2691 < x1
        · rw [if_pos c2695] at h
          refine am_r_f (show am_stepn X T_UpRiverModel_logged 1 true (44, [(0, am_pv 65), (1, am_iv x1), (2, am_iv x2), (3, am_iv (J 68 6))], [am_iv q2691, am_iv x1], am_SH, (J, K, am_RF b)) = some (((decide (am_i32 q2691) && decide (am_i32 x1)) && true), .inl (bif am_cb .le x1 q2691 then 59 else 47, [(0, am_pv 65), (1, am_iv x1), (2, am_iv x2), (3, am_iv (J 68 6))], [], am_SH, (J, K, am_RF b))) from rfl) (am_g2 g2693 g2694 rfl) (am_nd_t c2695) ?_
          obtain ⟨q2696, e2697, h⟩ := am_bind_some h
          refine am_r_call (show am_stepn X T_UpRiverModel_logged 7 true (47, [(0, am_pv 65), (1, am_iv x1), (2, am_iv x2), (3, am_iv (J 68 6))], [], am_SH, (J, K, am_RF b)) = some (true, .inr (.inl (232, [am_pv 65, am_iv ((J 68 6) - 1), am_iv 1], 3, 0, 0, 56, [(0, am_pv 65), (1, am_iv x1), (2, am_iv x2), (3, am_iv (J 68 6))], [am_iv x2], am_SH, (J, K, am_RF b)))) from rfl) rfl tb_UpRiverModel_logOf (s_UpRiverModel_logOf e2697) ?_
          obtain ⟨g2698, h⟩ := am_if_some h
          obtain ⟨g2699, h⟩ := am_if_some h
          by_cases c2700 : q2696 < x2
          · rw [if_pos c2700] at h
            refine am_r_t (show am_stepn X T_UpRiverModel_logged 1 true (56, [(0, am_pv 65), (1, am_iv x1), (2, am_iv x2), (3, am_iv (J 68 6))], [am_iv q2696, am_iv x2], am_SH, (J, K, am_RF b)) = some (((decide (am_i32 q2696) && decide (am_i32 x2)) && true), .inl (bif am_cb .gt x2 q2696 then 61 else 59, [(0, am_pv 65), (1, am_iv x1), (2, am_iv x2), (3, am_iv (J 68 6))], [], am_SH, (J, K, am_RF b))) from rfl) (am_g2 g2698 g2699 rfl) (decide_eq_true c2700) ?_
            exact s_UpRiverModel_logged_L61  _ _ _ _ _ h
          · rw [if_neg c2700] at h
            refine am_r_f (show am_stepn X T_UpRiverModel_logged 1 true (56, [(0, am_pv 65), (1, am_iv x1), (2, am_iv x2), (3, am_iv (J 68 6))], [am_iv q2696, am_iv x2], am_SH, (J, K, am_RF b)) = some (((decide (am_i32 q2696) && decide (am_i32 x2)) && true), .inl (bif am_cb .gt x2 q2696 then 61 else 59, [(0, am_pv 65), (1, am_iv x1), (2, am_iv x2), (3, am_iv (J 68 6))], [], am_SH, (J, K, am_RF b))) from rfl) (am_g2 g2698 g2699 rfl) (decide_eq_false c2700) ?_
            obtain rfl := Option.some.inj h
            exact am_r_ret (show am_stepn X T_UpRiverModel_logged 2 true (59, [(0, am_pv 65), (1, am_iv x1), (2, am_iv x2), (3, am_iv (J 68 6))], [], am_SH, (J, K, am_RF b)) = some (true, .inr (.inr (some (am_iv (-1)), am_SH, (J, K, am_RF b)))) from rfl) rfl
        · rw [if_neg c2695] at h
          refine am_r_t (show am_stepn X T_UpRiverModel_logged 1 true (44, [(0, am_pv 65), (1, am_iv x1), (2, am_iv x2), (3, am_iv (J 68 6))], [am_iv q2691, am_iv x1], am_SH, (J, K, am_RF b)) = some (((decide (am_i32 q2691) && decide (am_i32 x1)) && true), .inl (bif am_cb .le x1 q2691 then 59 else 47, [(0, am_pv 65), (1, am_iv x1), (2, am_iv x2), (3, am_iv (J 68 6))], [], am_SH, (J, K, am_RF b))) from rfl) (am_g2 g2693 g2694 rfl) (am_nd_f c2695) ?_
          obtain rfl := Option.some.inj h
          exact am_r_ret (show am_stepn X T_UpRiverModel_logged 2 true (59, [(0, am_pv 65), (1, am_iv x1), (2, am_iv x2), (3, am_iv (J 68 6))], [], am_SH, (J, K, am_RF b)) = some (true, .inr (.inr (some (am_iv (-1)), am_SH, (J, K, am_RF b)))) from rfl) rfl
      · rw [if_neg c2690] at h
        refine am_r_t (show am_stepn X T_UpRiverModel_logged 2 true (31, [(0, am_pv 65), (1, am_iv x1), (2, am_iv x2), (3, am_iv (J 68 6))], [], am_SH, (J, K, am_RF b)) = some ((decide (am_i32 (J 68 6)) && true), .inl (bif am_cb .le (J 68 6) 0 then 61 else 35, [(0, am_pv 65), (1, am_iv x1), (2, am_iv x2), (3, am_iv (J 68 6))], [], am_SH, (J, K, am_RF b))) from rfl) (am_g1 g2689 rfl) (am_nd_f c2690) ?_
        exact s_UpRiverModel_logged_L61  _ _ _ _ _ h
theorem s_UpRiverModel_stretch_L35 {X : am_X} {b : Bool} {K : am_K}  : ∀ (n : Nat) (x2 : Int) (x3 : Int) (x4 : Int) (J : am_J) (r : Int × am_J), f_UpRiverModel_stretch_L35   n x2 x3 x4 J = some r → am_runs X T_UpRiverModel_stretch (35, [(0, am_pv 65), (2, am_iv x2), (3, am_iv x3), (4, am_iv x4)], [], am_SH, (J, K, am_RF b)) (some (am_iv r.1), am_SH, (r.2, K, am_RF b)) := by
  intro n
  induction n with
  | zero =>
    intro x2 x3 x4 J r h
    cases h
  | succ n ih =>
    intro x2 x3 x4 J r h
    rw [f_UpRiverModel_stretch_L35.eq_2] at h
    obtain ⟨g2701, h⟩ := am_if_some h
    by_cases c2702 : x4 < 9
    · rw [if_pos c2702] at h
      refine am_r_f (show am_stepn X T_UpRiverModel_stretch 3 true (35, [(0, am_pv 65), (2, am_iv x2), (3, am_iv x3), (4, am_iv x4)], [], am_SH, (J, K, am_RF b)) = some (((decide (am_i32 9) && decide (am_i32 x4)) && true), .inl (bif am_cb .ge x4 9 then 83 else 42, [(0, am_pv 65), (2, am_iv x2), (3, am_iv x3), (4, am_iv x4)], [], am_SH, (J, K, am_RF b))) from rfl) (am_g2 (by decide) g2701 rfl) (am_nd_t c2702) ?_
      obtain ⟨q2703, e2704, h⟩ := am_bind_some h
      refine am_r_call (show am_stepn X T_UpRiverModel_stretch 5 true (42, [(0, am_pv 65), (2, am_iv x2), (3, am_iv x3), (4, am_iv x4)], [], am_SH, (J, K, am_RF b)) = some (true, .inr (.inl (182, [am_pv 65, am_iv x2, am_iv x4, am_iv x3], 4, 0, 0, 50, [(0, am_pv 65), (2, am_iv x2), (3, am_iv x3), (4, am_iv x4)], [], am_SH, (J, K, am_RF b)))) from rfl) rfl tb_UpRiverModel_isAfloat (s_UpRiverModel_isAfloat e2704) ?_
      obtain ⟨g2705, h⟩ := am_if_some h
      by_cases c2706 : q2703 = 0
      · rw [if_pos c2706] at h
        refine am_r_t (show am_stepn X T_UpRiverModel_stretch 1 true (50, [(0, am_pv 65), (2, am_iv x2), (3, am_iv x3), (4, am_iv x4)], [am_iv q2703], am_SH, (J, K, am_RF b)) = some ((decide (am_i32 q2703) && true), .inl (bif am_cb .eq q2703 0 then 77 else 53, [(0, am_pv 65), (2, am_iv x2), (3, am_iv x3), (4, am_iv x4)], [], am_SH, (J, K, am_RF b))) from rfl) (am_g1 g2705 rfl) (decide_eq_true c2706) ?_
        refine am_r_go (show am_stepn X T_UpRiverModel_stretch 2 true (77, [(0, am_pv 65), (2, am_iv x2), (3, am_iv x3), (4, am_iv x4)], [], am_SH, (J, K, am_RF b)) = some (true, .inl (35, [(0, am_pv 65), (2, am_iv x2), (3, am_iv x3), (4, am_iv (x4 + 1))], [], am_SH, (J, K, am_RF b))) from rfl) rfl ?_
        exact ih _ _ _ _ _ h
      · rw [if_neg c2706] at h
        refine am_r_f (show am_stepn X T_UpRiverModel_stretch 1 true (50, [(0, am_pv 65), (2, am_iv x2), (3, am_iv x3), (4, am_iv x4)], [am_iv q2703], am_SH, (J, K, am_RF b)) = some ((decide (am_i32 q2703) && true), .inl (bif am_cb .eq q2703 0 then 77 else 53, [(0, am_pv 65), (2, am_iv x2), (3, am_iv x3), (4, am_iv x4)], [], am_SH, (J, K, am_RF b))) from rfl) (am_g1 g2705 rfl) (decide_eq_false c2706) ?_
        obtain ⟨q2707, e2708, h⟩ := am_bind_some h
        refine am_r_call (show am_stepn X T_UpRiverModel_stretch 8 true (53, [(0, am_pv 65), (2, am_iv x2), (3, am_iv x3), (4, am_iv x4)], [], am_SH, (J, K, am_RF b)) = some (true, .inr (.inl (201, [am_pv 65, am_iv x3, am_iv (8 * x2), am_iv x4, am_iv 0], 5, 0, 0, 65, [(0, am_pv 65), (2, am_iv x2), (3, am_iv x3), (4, am_iv x4)], [], am_SH, (J, K, am_RF b)))) from rfl) rfl tb_UpRiverModel_marks (s_UpRiverModel_marks e2708) ?_
        obtain ⟨q2709, e2710, h⟩ := am_bind_some h
        refine am_r_call (show am_stepn X T_UpRiverModel_stretch 8 true (65, [(0, am_pv 65), (2, am_iv x2), (3, am_iv x3), (4, am_iv x4)], [], am_SH, (q2707, K, am_RF b)) = some (true, .inr (.inl (201, [am_pv 65, am_iv x3, am_iv (8 * x2), am_iv x4, am_iv 1], 5, 0, 0, 77, [(0, am_pv 65), (2, am_iv x2), (3, am_iv x3), (4, am_iv x4)], [], am_SH, (q2707, K, am_RF b)))) from rfl) rfl tb_UpRiverModel_marks (s_UpRiverModel_marks e2710) ?_
        refine am_r_go (show am_stepn X T_UpRiverModel_stretch 2 true (77, [(0, am_pv 65), (2, am_iv x2), (3, am_iv x3), (4, am_iv x4)], [], am_SH, (q2709, K, am_RF b)) = some (true, .inl (35, [(0, am_pv 65), (2, am_iv x2), (3, am_iv x3), (4, am_iv (x4 + 1))], [], am_SH, (q2709, K, am_RF b))) from rfl) rfl ?_
        exact ih _ _ _ _ _ h
    · rw [if_neg c2702] at h
      refine am_r_t (show am_stepn X T_UpRiverModel_stretch 3 true (35, [(0, am_pv 65), (2, am_iv x2), (3, am_iv x3), (4, am_iv x4)], [], am_SH, (J, K, am_RF b)) = some (((decide (am_i32 9) && decide (am_i32 x4)) && true), .inl (bif am_cb .ge x4 9 then 83 else 42, [(0, am_pv 65), (2, am_iv x2), (3, am_iv x3), (4, am_iv x4)], [], am_SH, (J, K, am_RF b))) from rfl) (am_g2 (by decide) g2701 rfl) (am_nd_f c2702) ?_
      obtain ⟨q2711, e2712, h⟩ := am_bind_some h
      refine am_r_call (show am_stepn X T_UpRiverModel_stretch 3 true (83, [(0, am_pv 65), (2, am_iv x2), (3, am_iv x3), (4, am_iv x4)], [], am_SH, (J, K, am_RF b)) = some (true, .inr (.inl (203, [am_pv 65, am_iv x3], 5, 0, 0, 88, [(0, am_pv 65), (3, am_iv x3)], [], am_SH, (J, K, am_RF b)))) from rfl) rfl tb_UpRiverModel_spreads (s_UpRiverModel_spreads e2712) ?_
      obtain rfl := Option.some.inj h
      exact am_r_ret (show am_stepn X T_UpRiverModel_stretch 1 true (88, [(0, am_pv 65), (3, am_iv x3)], [am_iv q2711.1], am_SH, (q2711.2, K, am_RF b)) = some (true, .inr (.inr (some (am_iv q2711.1), am_SH, (q2711.2, K, am_RF b)))) from rfl) rfl
theorem s_UpRiverModel_stretch {X : am_X} {b : Bool} {K : am_K} {x1 : Int} {J : am_J} {r : Int × am_J} (h : f_UpRiverModel_stretch  x1 J = some r) : am_runs X T_UpRiverModel_stretch (0, [(0, am_pv 65), (1, am_iv x1)], [], am_SH, (J, K, am_RF b)) (some (am_iv r.1), am_SH, (r.2, K, am_RF b)) := by
  unfold f_UpRiverModel_stretch at h
  obtain ⟨q2713, e2714, h⟩ := am_bind_some h
  refine am_r_call (show am_stepn X T_UpRiverModel_stretch 4 true (0, [(0, am_pv 65), (1, am_iv x1)], [], am_SH, (J, K, am_RF b)) = some (true, .inr (.inl (232, [am_pv 65, am_iv x1, am_iv 0], 3, 0, 0, 6, [(0, am_pv 65), (1, am_iv x1)], [], am_SH, (J, K, am_RF b)))) from rfl) rfl tb_UpRiverModel_logOf (s_UpRiverModel_logOf e2714) ?_
  obtain ⟨q2715, e2716, h⟩ := am_bind_some h
  refine am_r_call (show am_stepn X T_UpRiverModel_stretch 5 true (6, [(0, am_pv 65), (1, am_iv x1)], [am_iv q2713], am_SH, (J, K, am_RF b)) = some (true, .inr (.inl (232, [am_pv 65, am_iv x1, am_iv 1], 3, 0, 0, 13, [(0, am_pv 65), (1, am_iv x1), (2, am_iv q2713)], [], am_SH, (J, K, am_RF b)))) from rfl) rfl tb_UpRiverModel_logOf (s_UpRiverModel_logOf e2716) ?_
  obtain ⟨q2717, e2718, h⟩ := am_bind_some h
  refine am_r_call (show am_stepn X T_UpRiverModel_stretch 9 true (13, [(0, am_pv 65), (1, am_iv x1), (2, am_iv q2713)], [am_iv q2715], am_SH, (J, K, am_RF b)) = some (true, .inr (.inl (232, [am_pv 65, am_iv (x1 + 1), am_iv 0], 3, 0, 0, 25, [(0, am_pv 65), (1, am_iv x1), (2, am_iv q2713), (3, am_iv q2715)], [am_iv 8, am_pv 65], am_SH, (J, K, am_RF b)))) from rfl) rfl tb_UpRiverModel_logOf (s_UpRiverModel_logOf e2718) ?_
  obtain ⟨q2719, e2720, h⟩ := am_bind_some h
  refine am_r_call (show am_stepn X T_UpRiverModel_stretch 4 true (25, [(0, am_pv 65), (1, am_iv x1), (2, am_iv q2713), (3, am_iv q2715)], [am_iv q2717, am_iv 8, am_pv 65], am_SH, (J, K, am_RF b)) = some (true, .inr (.inl (200, [am_pv 65, am_iv (8 * q2717), am_iv 0, am_iv 8], 5, 0, 0, 32, [(0, am_pv 65), (1, am_iv x1), (2, am_iv q2713), (3, am_iv q2715)], [], am_SH, (J, K, am_RF b)))) from rfl) rfl tb_UpRiverModel_clears (s_UpRiverModel_clears e2720) ?_
  refine am_r_go (show am_stepn X T_UpRiverModel_stretch 2 true (32, [(0, am_pv 65), (1, am_iv x1), (2, am_iv q2713), (3, am_iv q2715)], [], am_SH, (q2719, K, am_RF b)) = some (true, .inl (35, [(0, am_pv 65), (1, am_iv x1), (2, am_iv q2713), (3, am_iv q2715), (4, am_iv 0)], [], am_SH, (q2719, K, am_RF b))) from rfl) rfl ?_
  refine am_r_eq (σ' := (35, [(0, am_pv 65), (2, am_iv q2713), (3, am_iv q2715), (4, am_iv 0)], [], am_SH, (q2719, K, am_RF b))) rfl ?_
  exact s_UpRiverModel_stretch_L35  _ _ _ _ _ _ h
theorem s_UpRiverModel_lost_L95 {X : am_X} {b : Bool} {K : am_K} {kb22 : Int → Int → Int → Int → am_J → Option (Int × am_J)} (hk22 : ∀ (x1 : Int) (x2 : Int) (x3 : Int) (x4 : Int) (J : am_J) (r : Int × am_J), kb22 x1 x2 x3 x4 J = some r → am_runs X T_UpRiverModel_lost (22, [(0, am_pv 65), (1, am_iv x1), (2, am_iv x2), (3, am_iv x3), (4, am_iv x4)], [], am_SH, (J, K, am_RF b)) (some (am_iv r.1), am_SH, (r.2, K, am_RF b))) : ∀ (x1 : Int) (x3 : Int) (x4 : Int) (x6 : Int) (x7 : Int) (s0 : Int) (J : am_J) (r : Int × am_J), f_UpRiverModel_lost_L95  kb22  x1 x3 x4 x6 x7 s0 J = some r → am_runs X T_UpRiverModel_lost (95, [(0, am_pv 65), (1, am_iv x1), (3, am_iv x3), (4, am_iv x4), (6, am_iv x6), (7, am_iv x7)], [am_iv s0], am_SH, (J, K, am_RF b)) (some (am_iv r.1), am_SH, (r.2, K, am_RF b)) := by
  intro x1 x3 x4 x6 x7 s0 J r h
  unfold f_UpRiverModel_lost_L95 at h
  obtain ⟨g2721, h⟩ := am_if_some h
  by_cases c2722 : x7 = 0
  · rw [if_pos c2722] at h
    refine am_r_t (show am_stepn X T_UpRiverModel_lost 3 true (95, [(0, am_pv 65), (1, am_iv x1), (3, am_iv x3), (4, am_iv x4), (6, am_iv x6), (7, am_iv x7)], [am_iv s0], am_SH, (J, K, am_RF b)) = some ((decide (am_i32 x7) && true), .inl (bif am_cb .eq x7 0 then 106 else 101, [(0, am_pv 65), (1, am_iv x1), (2, am_iv s0), (3, am_iv x3), (4, am_iv x4), (6, am_iv x6), (7, am_iv x7)], [], am_SH, (J, K, am_RF b))) from rfl) (am_g1 g2721 rfl) (decide_eq_true c2722) ?_
    refine am_r_go (show am_stepn X T_UpRiverModel_lost 4 true (106, [(0, am_pv 65), (1, am_iv x1), (2, am_iv s0), (3, am_iv x3), (4, am_iv x4), (6, am_iv x6), (7, am_iv x7)], [], am_SH, (J, K, am_RF b)) = some (true, .inl (22, [(0, am_pv 65), (1, am_iv x1), (2, am_iv s0), (3, am_iv x3), (4, am_iv (x4 + 1))], [], am_SH, (J, K, am_RF b))) from rfl) rfl ?_
    exact hk22 _ _ _ _ _ _ h
  · rw [if_neg c2722] at h
    refine am_r_f (show am_stepn X T_UpRiverModel_lost 3 true (95, [(0, am_pv 65), (1, am_iv x1), (3, am_iv x3), (4, am_iv x4), (6, am_iv x6), (7, am_iv x7)], [am_iv s0], am_SH, (J, K, am_RF b)) = some ((decide (am_i32 x7) && true), .inl (bif am_cb .eq x7 0 then 106 else 101, [(0, am_pv 65), (1, am_iv x1), (2, am_iv s0), (3, am_iv x3), (4, am_iv x4), (6, am_iv x6), (7, am_iv x7)], [], am_SH, (J, K, am_RF b))) from rfl) (am_g1 g2721 rfl) (decide_eq_false c2722) ?_
    refine am_r_go (show am_stepn X T_UpRiverModel_lost 5 true (101, [(0, am_pv 65), (1, am_iv x1), (2, am_iv s0), (3, am_iv x3), (4, am_iv x4), (6, am_iv x6), (7, am_iv x7)], [], am_SH, (J, K, am_RF b)) = some (true, .inl (22, [(0, am_pv 65), (1, am_iv x1), (2, am_iv s0), (3, am_iv x6), (4, am_iv (x4 + 1))], [], am_SH, (J, K, am_RF b))) from rfl) rfl ?_
    exact hk22 _ _ _ _ _ _ h
theorem s_UpRiverModel_lost_L82 {X : am_X} {b : Bool} {K : am_K} {kb22 : Int → Int → Int → Int → am_J → Option (Int × am_J)} (hk22 : ∀ (x1 : Int) (x2 : Int) (x3 : Int) (x4 : Int) (J : am_J) (r : Int × am_J), kb22 x1 x2 x3 x4 J = some r → am_runs X T_UpRiverModel_lost (22, [(0, am_pv 65), (1, am_iv x1), (2, am_iv x2), (3, am_iv x3), (4, am_iv x4)], [], am_SH, (J, K, am_RF b)) (some (am_iv r.1), am_SH, (r.2, K, am_RF b))) : ∀ (x1 : Int) (x2 : Int) (x3 : Int) (x4 : Int) (x6 : Int) (s0 : Int) (J : am_J) (r : Int × am_J), f_UpRiverModel_lost_L82  kb22  x1 x2 x3 x4 x6 s0 J = some r → am_runs X T_UpRiverModel_lost (82, [(0, am_pv 65), (1, am_iv x1), (2, am_iv x2), (3, am_iv x3), (4, am_iv x4), (6, am_iv x6)], [am_iv s0], am_SH, (J, K, am_RF b)) (some (am_iv r.1), am_SH, (r.2, K, am_RF b)) := by
  intro x1 x2 x3 x4 x6 s0 J r h
  unfold f_UpRiverModel_lost_L82 at h
  obtain ⟨g2723, h⟩ := am_if_some h
  by_cases c2724 : s0 = 0
  · rw [if_pos c2724] at h
    refine am_r_t (show am_stepn X T_UpRiverModel_lost 3 true (82, [(0, am_pv 65), (1, am_iv x1), (2, am_iv x2), (3, am_iv x3), (4, am_iv x4), (6, am_iv x6)], [am_iv s0], am_SH, (J, K, am_RF b)) = some ((decide (am_i32 s0) && true), .inl (bif am_cb .eq s0 0 then 94 else 89, [(0, am_pv 65), (1, am_iv x1), (2, am_iv x2), (3, am_iv x3), (4, am_iv x4), (6, am_iv x6), (7, am_iv s0)], [], am_SH, (J, K, am_RF b))) from rfl) (am_g1 g2723 rfl) (decide_eq_true c2724) ?_
    refine am_r_go (show am_stepn X T_UpRiverModel_lost 1 true (94, [(0, am_pv 65), (1, am_iv x1), (2, am_iv x2), (3, am_iv x3), (4, am_iv x4), (6, am_iv x6), (7, am_iv s0)], [], am_SH, (J, K, am_RF b)) = some (true, .inl (95, [(0, am_pv 65), (1, am_iv x1), (2, am_iv x2), (3, am_iv x3), (4, am_iv x4), (6, am_iv x6), (7, am_iv s0)], [am_iv x2], am_SH, (J, K, am_RF b))) from rfl) rfl ?_
    refine am_r_eq (σ' := (95, [(0, am_pv 65), (1, am_iv x1), (3, am_iv x3), (4, am_iv x4), (6, am_iv x6), (7, am_iv s0)], [am_iv x2], am_SH, (J, K, am_RF b))) rfl ?_
    exact s_UpRiverModel_lost_L95 hk22 _ _ _ _ _ _ _ _ h
  · rw [if_neg c2724] at h
    refine am_r_f (show am_stepn X T_UpRiverModel_lost 3 true (82, [(0, am_pv 65), (1, am_iv x1), (2, am_iv x2), (3, am_iv x3), (4, am_iv x4), (6, am_iv x6)], [am_iv s0], am_SH, (J, K, am_RF b)) = some ((decide (am_i32 s0) && true), .inl (bif am_cb .eq s0 0 then 94 else 89, [(0, am_pv 65), (1, am_iv x1), (2, am_iv x2), (3, am_iv x3), (4, am_iv x4), (6, am_iv x6), (7, am_iv s0)], [], am_SH, (J, K, am_RF b))) from rfl) (am_g1 g2723 rfl) (decide_eq_false c2724) ?_
    refine am_r_go (show am_stepn X T_UpRiverModel_lost 2 true (89, [(0, am_pv 65), (1, am_iv x1), (2, am_iv x2), (3, am_iv x3), (4, am_iv x4), (6, am_iv x6), (7, am_iv s0)], [], am_SH, (J, K, am_RF b)) = some (true, .inl (95, [(0, am_pv 65), (1, am_iv x1), (3, am_iv x3), (4, am_iv x4), (6, am_iv x6), (7, am_iv s0)], [am_iv x4], am_SH, (J, K, am_RF b))) from rfl) rfl ?_
    exact s_UpRiverModel_lost_L95 hk22 _ _ _ _ _ _ _ _ h
theorem s_UpRiverModel_lost_L22 {X : am_X} {b : Bool} {K : am_K}  : ∀ (n : Nat) (x1 : Int) (x2 : Int) (x3 : Int) (x4 : Int) (J : am_J) (r : Int × am_J), f_UpRiverModel_lost_L22   n x1 x2 x3 x4 J = some r → am_runs X T_UpRiverModel_lost (22, [(0, am_pv 65), (1, am_iv x1), (2, am_iv x2), (3, am_iv x3), (4, am_iv x4)], [], am_SH, (J, K, am_RF b)) (some (am_iv r.1), am_SH, (r.2, K, am_RF b)) := by
  intro n
  induction n with
  | zero =>
    intro x1 x2 x3 x4 J r h
    cases h
  | succ n ih =>
    intro x1 x2 x3 x4 J r h
    rw [f_UpRiverModel_lost_L22.eq_2] at h
    obtain ⟨g2725, h⟩ := am_if_some h
    obtain ⟨g2726, h⟩ := am_if_some h
    by_cases c2727 : (x4 + 1) < (J 68 6)
    · rw [if_pos c2727] at h
      refine am_r_f (show am_stepn X T_UpRiverModel_lost 8 true (22, [(0, am_pv 65), (1, am_iv x1), (2, am_iv x2), (3, am_iv x3), (4, am_iv x4)], [], am_SH, (J, K, am_RF b)) = some (((decide (am_i32 (J 68 6)) && decide (am_i32 (x4 + 1))) && (am_in 6 216 && true)), .inl (bif am_cb .ge (x4 + 1) (J 68 6) then 114 else 36, [(0, am_pv 65), (1, am_iv x1), (2, am_iv x2), (3, am_iv x3), (4, am_iv x4)], [], am_SH, (J, K, am_RF b))) from rfl) (am_g2 g2725 g2726 (am_gi (by decide) rfl)) (am_nd_t c2727) ?_
      obtain ⟨q2728, e2729, h⟩ := am_bind_some h
      refine am_r_call (show am_stepn X T_UpRiverModel_lost 3 true (36, [(0, am_pv 65), (1, am_iv x1), (2, am_iv x2), (3, am_iv x3), (4, am_iv x4)], [], am_SH, (J, K, am_RF b)) = some (true, .inr (.inl (234, [am_pv 65, am_iv x4], 5, 0, 0, 42, [(0, am_pv 65), (1, am_iv x1), (2, am_iv x2), (3, am_iv x3), (4, am_iv x4)], [], am_SH, (J, K, am_RF b)))) from rfl) rfl tb_UpRiverModel_stretch (s_UpRiverModel_stretch e2729) ?_
      obtain ⟨g2730, h⟩ := am_if_some h
      by_cases c2731 : q2728.1 = (-4)
      · rw [if_pos c2731] at h
        refine am_r_t (show am_stepn X T_UpRiverModel_lost 4 true (42, [(0, am_pv 65), (1, am_iv x1), (2, am_iv x2), (3, am_iv x3), (4, am_iv x4)], [am_iv q2728.1], am_SH, (q2728.2, K, am_RF b)) = some (((decide (am_i32 (-4)) && decide (am_i32 q2728.1)) && true), .inl (bif am_cb .eq q2728.1 (-4) then 108 else 51, [(0, am_pv 65), (1, am_iv x1), (2, am_iv x2), (3, am_iv x3), (4, am_iv x4), (5, am_iv q2728.1)], [], am_SH, (q2728.2, K, am_RF b))) from rfl) (am_g2 (by decide) g2730 rfl) (decide_eq_true c2731) ?_
        refine am_r_go (show am_stepn X T_UpRiverModel_lost 2 true (108, [(0, am_pv 65), (1, am_iv x1), (2, am_iv x2), (3, am_iv x3), (4, am_iv x4), (5, am_iv q2728.1)], [], am_SH, (q2728.2, K, am_RF b)) = some (true, .inl (22, [(0, am_pv 65), (1, am_iv x1), (2, am_iv x2), (3, am_iv x3), (4, am_iv (x4 + 1))], [], am_SH, (q2728.2, K, am_RF b))) from rfl) rfl ?_
        exact ih _ _ _ _ _ _ h
      · rw [if_neg c2731] at h
        refine am_r_f (show am_stepn X T_UpRiverModel_lost 4 true (42, [(0, am_pv 65), (1, am_iv x1), (2, am_iv x2), (3, am_iv x3), (4, am_iv x4)], [am_iv q2728.1], am_SH, (q2728.2, K, am_RF b)) = some (((decide (am_i32 (-4)) && decide (am_i32 q2728.1)) && true), .inl (bif am_cb .eq q2728.1 (-4) then 108 else 51, [(0, am_pv 65), (1, am_iv x1), (2, am_iv x2), (3, am_iv x3), (4, am_iv x4), (5, am_iv q2728.1)], [], am_SH, (q2728.2, K, am_RF b))) from rfl) (am_g2 (by decide) g2730 rfl) (decide_eq_false c2731) ?_
        obtain ⟨q2732, e2733, h⟩ := am_bind_some h
        refine am_r_call (show am_stepn X T_UpRiverModel_lost 6 true (51, [(0, am_pv 65), (1, am_iv x1), (2, am_iv x2), (3, am_iv x3), (4, am_iv x4), (5, am_iv q2728.1)], [], am_SH, (q2728.2, K, am_RF b)) = some (true, .inr (.inl (232, [am_pv 65, am_iv (x4 + 1), am_iv 1], 3, 0, 0, 60, [(0, am_pv 65), (1, am_iv x1), (2, am_iv x2), (3, am_iv x3), (4, am_iv x4), (5, am_iv q2728.1)], [], am_SH, (q2728.2, K, am_RF b)))) from rfl) rfl tb_UpRiverModel_logOf (s_UpRiverModel_logOf e2733) ?_
        obtain ⟨g2734, h⟩ := am_if_some h
        by_cases c2735 : x2 = (-4)
        · rw [if_pos c2735] at h
          refine am_r_t (show am_stepn X T_UpRiverModel_lost 6 true (60, [(0, am_pv 65), (1, am_iv x1), (2, am_iv x2), (3, am_iv x3), (4, am_iv x4), (5, am_iv q2728.1)], [am_iv q2732], am_SH, (q2728.2, K, am_RF b)) = some (((decide (am_i32 (-4)) && decide (am_i32 x2)) && true), .inl (bif am_cb .eq x2 (-4) then 77 else 71, [(0, am_pv 65), (1, am_iv x1), (2, am_iv x2), (3, am_iv x3), (4, am_iv x4), (5, am_iv q2728.1), (6, am_iv (q2732 - q2728.1))], [], am_SH, (q2728.2, K, am_RF b))) from rfl) (am_g2 (by decide) g2734 rfl) (decide_eq_true c2735) ?_
          refine am_r_go (show am_stepn X T_UpRiverModel_lost 2 true (77, [(0, am_pv 65), (1, am_iv x1), (2, am_iv x2), (3, am_iv x3), (4, am_iv x4), (5, am_iv q2728.1), (6, am_iv (q2732 - q2728.1))], [], am_SH, (q2728.2, K, am_RF b)) = some (true, .inl (82, [(0, am_pv 65), (1, am_iv x1), (2, am_iv x2), (3, am_iv x3), (4, am_iv x4), (6, am_iv (q2732 - q2728.1))], [am_iv 1], am_SH, (q2728.2, K, am_RF b))) from rfl) rfl ?_
          exact s_UpRiverModel_lost_L82 ih _ _ _ _ _ _ _ _ h
        · rw [if_neg c2735] at h
          refine am_r_f (show am_stepn X T_UpRiverModel_lost 6 true (60, [(0, am_pv 65), (1, am_iv x1), (2, am_iv x2), (3, am_iv x3), (4, am_iv x4), (5, am_iv q2728.1)], [am_iv q2732], am_SH, (q2728.2, K, am_RF b)) = some (((decide (am_i32 (-4)) && decide (am_i32 x2)) && true), .inl (bif am_cb .eq x2 (-4) then 77 else 71, [(0, am_pv 65), (1, am_iv x1), (2, am_iv x2), (3, am_iv x3), (4, am_iv x4), (5, am_iv q2728.1), (6, am_iv (q2732 - q2728.1))], [], am_SH, (q2728.2, K, am_RF b))) from rfl) (am_g2 (by decide) g2734 rfl) (decide_eq_false c2735) ?_
          obtain ⟨g2736, h⟩ := am_if_some h
          obtain ⟨g2737, h⟩ := am_if_some h
          by_cases c2738 : x3 < (q2732 - q2728.1)
          · rw [if_pos c2738] at h
            refine am_r_f (show am_stepn X T_UpRiverModel_lost 3 true (71, [(0, am_pv 65), (1, am_iv x1), (2, am_iv x2), (3, am_iv x3), (4, am_iv x4), (5, am_iv q2728.1), (6, am_iv (q2732 - q2728.1))], [], am_SH, (q2728.2, K, am_RF b)) = some (((decide (am_i32 x3) && decide (am_i32 (q2732 - q2728.1))) && true), .inl (bif am_cb .le (q2732 - q2728.1) x3 then 81 else 77, [(0, am_pv 65), (1, am_iv x1), (2, am_iv x2), (3, am_iv x3), (4, am_iv x4), (6, am_iv (q2732 - q2728.1))], [], am_SH, (q2728.2, K, am_RF b))) from rfl) (am_g2 g2736 g2737 rfl) (am_nd_t c2738) ?_
            refine am_r_go (show am_stepn X T_UpRiverModel_lost 2 true (77, [(0, am_pv 65), (1, am_iv x1), (2, am_iv x2), (3, am_iv x3), (4, am_iv x4), (6, am_iv (q2732 - q2728.1))], [], am_SH, (q2728.2, K, am_RF b)) = some (true, .inl (82, [(0, am_pv 65), (1, am_iv x1), (2, am_iv x2), (3, am_iv x3), (4, am_iv x4), (6, am_iv (q2732 - q2728.1))], [am_iv 1], am_SH, (q2728.2, K, am_RF b))) from rfl) rfl ?_
            exact s_UpRiverModel_lost_L82 ih _ _ _ _ _ _ _ _ h
          · rw [if_neg c2738] at h
            refine am_r_t (show am_stepn X T_UpRiverModel_lost 3 true (71, [(0, am_pv 65), (1, am_iv x1), (2, am_iv x2), (3, am_iv x3), (4, am_iv x4), (5, am_iv q2728.1), (6, am_iv (q2732 - q2728.1))], [], am_SH, (q2728.2, K, am_RF b)) = some (((decide (am_i32 x3) && decide (am_i32 (q2732 - q2728.1))) && true), .inl (bif am_cb .le (q2732 - q2728.1) x3 then 81 else 77, [(0, am_pv 65), (1, am_iv x1), (2, am_iv x2), (3, am_iv x3), (4, am_iv x4), (6, am_iv (q2732 - q2728.1))], [], am_SH, (q2728.2, K, am_RF b))) from rfl) (am_g2 g2736 g2737 rfl) (am_nd_f c2738) ?_
            refine am_r_go (show am_stepn X T_UpRiverModel_lost 1 true (81, [(0, am_pv 65), (1, am_iv x1), (2, am_iv x2), (3, am_iv x3), (4, am_iv x4), (6, am_iv (q2732 - q2728.1))], [], am_SH, (q2728.2, K, am_RF b)) = some (true, .inl (82, [(0, am_pv 65), (1, am_iv x1), (2, am_iv x2), (3, am_iv x3), (4, am_iv x4), (6, am_iv (q2732 - q2728.1))], [am_iv 0], am_SH, (q2728.2, K, am_RF b))) from rfl) rfl ?_
            exact s_UpRiverModel_lost_L82 ih _ _ _ _ _ _ _ _ h
    · rw [if_neg c2727] at h
      refine am_r_t (show am_stepn X T_UpRiverModel_lost 8 true (22, [(0, am_pv 65), (1, am_iv x1), (2, am_iv x2), (3, am_iv x3), (4, am_iv x4)], [], am_SH, (J, K, am_RF b)) = some (((decide (am_i32 (J 68 6)) && decide (am_i32 (x4 + 1))) && (am_in 6 216 && true)), .inl (bif am_cb .ge (x4 + 1) (J 68 6) then 114 else 36, [(0, am_pv 65), (1, am_iv x1), (2, am_iv x2), (3, am_iv x3), (4, am_iv x4)], [], am_SH, (J, K, am_RF b))) from rfl) (am_g2 g2725 g2726 (am_gi (by decide) rfl)) (am_nd_f c2727) ?_
      obtain ⟨g2739, h⟩ := am_if_some h
      by_cases c2740 : x2 = (-4)
      · rw [if_pos c2740] at h
        refine am_r_f (show am_stepn X T_UpRiverModel_lost 3 true (114, [(0, am_pv 65), (1, am_iv x1), (2, am_iv x2), (3, am_iv x3), (4, am_iv x4)], [], am_SH, (J, K, am_RF b)) = some (((decide (am_i32 (-4)) && decide (am_i32 x2)) && true), .inl (bif am_cb .ne x2 (-4) then 126 else 120, [(1, am_iv x1), (2, am_iv x2), (3, am_iv x3)], [], am_SH, (J, K, am_RF b))) from rfl) (am_g2 (by decide) g2739 rfl) (am_nd_t c2740) ?_
        obtain rfl := Option.some.inj h
        exact am_r_ret (show am_stepn X T_UpRiverModel_lost 3 true (120, [(1, am_iv x1), (2, am_iv x2), (3, am_iv x3)], [], am_SH, (J, K, am_RF b)) = some (true, .inr (.inr (some (am_iv (-1001)), am_SH, (J, K, am_RF b)))) from rfl) rfl
      · rw [if_neg c2740] at h
        refine am_r_t (show am_stepn X T_UpRiverModel_lost 3 true (114, [(0, am_pv 65), (1, am_iv x1), (2, am_iv x2), (3, am_iv x3), (4, am_iv x4)], [], am_SH, (J, K, am_RF b)) = some (((decide (am_i32 (-4)) && decide (am_i32 x2)) && true), .inl (bif am_cb .ne x2 (-4) then 126 else 120, [(1, am_iv x1), (2, am_iv x2), (3, am_iv x3)], [], am_SH, (J, K, am_RF b))) from rfl) (am_g2 (by decide) g2739 rfl) (am_nd_f c2740) ?_
        obtain ⟨g2741, h⟩ := am_if_some h
        by_cases c2742 : x1 = 0
        · rw [if_pos c2742] at h
          refine am_r_f (show am_stepn X T_UpRiverModel_lost 2 true (126, [(1, am_iv x1), (2, am_iv x2), (3, am_iv x3)], [], am_SH, (J, K, am_RF b)) = some ((decide (am_i32 x1) && true), .inl (bif am_cb .ne x1 0 then 134 else 130, [(1, am_iv x1), (2, am_iv x2), (3, am_iv x3)], [], am_SH, (J, K, am_RF b))) from rfl) (am_g1 g2741 rfl) (am_nd_t c2742) ?_
          obtain rfl := Option.some.inj h
          exact am_r_ret (show am_stepn X T_UpRiverModel_lost 3 true (130, [(1, am_iv x1), (2, am_iv x2), (3, am_iv x3)], [], am_SH, (J, K, am_RF b)) = some (true, .inr (.inr (some (am_iv x3), am_SH, (J, K, am_RF b)))) from rfl) rfl
        · rw [if_neg c2742] at h
          refine am_r_t (show am_stepn X T_UpRiverModel_lost 2 true (126, [(1, am_iv x1), (2, am_iv x2), (3, am_iv x3)], [], am_SH, (J, K, am_RF b)) = some ((decide (am_i32 x1) && true), .inl (bif am_cb .ne x1 0 then 134 else 130, [(1, am_iv x1), (2, am_iv x2), (3, am_iv x3)], [], am_SH, (J, K, am_RF b))) from rfl) (am_g1 g2741 rfl) (am_nd_f c2742) ?_
          obtain rfl := Option.some.inj h
          exact am_r_ret (show am_stepn X T_UpRiverModel_lost 2 true (134, [(1, am_iv x1), (2, am_iv x2), (3, am_iv x3)], [], am_SH, (J, K, am_RF b)) = some (true, .inr (.inr (some (am_iv x2), am_SH, (J, K, am_RF b)))) from rfl) rfl
theorem s_UpRiverModel_lost {X : am_X} {b : Bool} {K : am_K} {x1 : Int} {J : am_J} {r : Int × am_J} (h : f_UpRiverModel_lost  x1 J = some r) : am_runs X T_UpRiverModel_lost (0, [(0, am_pv 65), (1, am_iv x1)], [], am_SH, (J, K, am_RF b)) (some (am_iv r.1), am_SH, (r.2, K, am_RF b)) := by
  unfold f_UpRiverModel_lost at h
  obtain ⟨q2743, e2744, h⟩ := am_bind_some h
  refine am_r_call (show am_stepn X T_UpRiverModel_lost 5 true (0, [(0, am_pv 65), (1, am_iv x1)], [], am_SH, (J, K, am_RF b)) = some (true, .inr (.inl (150, [am_jv (am_i2l x1), am_jv (0 : Int64), am_jv (1 : Int64)], 6, 0, 0, 7, [(0, am_pv 65), (1, am_iv x1)], [], am_SH, (J, K, am_RF b)))) from rfl) rfl tb_UpRiverModel_in (s_UpRiverModel_in e2744) ?_
  obtain ⟨g2745, h⟩ := am_if_some h
  by_cases c2746 : q2743 = 0
  · rw [if_pos c2746] at h
    refine am_r_f (show am_stepn X T_UpRiverModel_lost 1 true (7, [(0, am_pv 65), (1, am_iv x1)], [am_iv q2743], am_SH, (J, K, am_RF b)) = some ((decide (am_i32 q2743) && true), .inl (bif am_cb .ne q2743 0 then 14 else 10, [(0, am_pv 65), (1, am_iv x1)], [], am_SH, (J, K, am_RF b))) from rfl) (am_g1 g2745 rfl) (am_nd_t c2746) ?_
    obtain rfl := Option.some.inj h
    exact am_r_ret (show am_stepn X T_UpRiverModel_lost 2 true (10, [(0, am_pv 65), (1, am_iv x1)], [], am_SH, (J, K, am_RF b)) = some (true, .inr (.inr (some (am_iv (-1000)), am_SH, (J, K, am_RF b)))) from rfl) rfl
  · rw [if_neg c2746] at h
    refine am_r_t (show am_stepn X T_UpRiverModel_lost 1 true (7, [(0, am_pv 65), (1, am_iv x1)], [am_iv q2743], am_SH, (J, K, am_RF b)) = some ((decide (am_i32 q2743) && true), .inl (bif am_cb .ne q2743 0 then 14 else 10, [(0, am_pv 65), (1, am_iv x1)], [], am_SH, (J, K, am_RF b))) from rfl) (am_g1 g2745 rfl) (am_nd_f c2746) ?_
    refine am_r_go (show am_stepn X T_UpRiverModel_lost 6 true (14, [(0, am_pv 65), (1, am_iv x1)], [], am_SH, (J, K, am_RF b)) = some (true, .inl (22, [(0, am_pv 65), (1, am_iv x1), (2, am_iv (-4)), (3, am_iv 0), (4, am_iv 0)], [], am_SH, (J, K, am_RF b))) from rfl) rfl ?_
    exact s_UpRiverModel_lost_L22  _ _ _ _ _ _ _ h
theorem s_UpRiverModel_swing {X : am_X} {b : Bool} {K : am_K} {x1 : Int} {J : am_J} {r : Int × am_J} (h : f_UpRiverModel_swing  x1 J = some r) : am_runs X T_UpRiverModel_swing (0, [(0, am_pv 65), (1, am_iv x1)], [], am_SH, (J, K, am_RF b)) (some (am_iv r.1), am_SH, (r.2, K, am_RF b)) := by
  unfold f_UpRiverModel_swing at h
  obtain ⟨q2747, e2748, h⟩ := am_bind_some h
  refine am_r_call (show am_stepn X T_UpRiverModel_swing 5 true (0, [(0, am_pv 65), (1, am_iv x1)], [], am_SH, (J, K, am_RF b)) = some (true, .inr (.inl (150, [am_jv (am_i2l x1), am_jv (0 : Int64), am_jv (2 : Int64)], 6, 0, 0, 9, [(0, am_pv 65), (1, am_iv x1)], [], am_SH, (J, K, am_RF b)))) from rfl) rfl tb_UpRiverModel_in (s_UpRiverModel_in e2748) ?_
  obtain ⟨g2749, h⟩ := am_if_some h
  by_cases c2750 : q2747 = 0
  · rw [if_pos c2750] at h
    refine am_r_f (show am_stepn X T_UpRiverModel_swing 1 true (9, [(0, am_pv 65), (1, am_iv x1)], [am_iv q2747], am_SH, (J, K, am_RF b)) = some ((decide (am_i32 q2747) && true), .inl (bif am_cb .ne q2747 0 then 14 else 12, [(0, am_pv 65), (1, am_iv x1)], [], am_SH, (J, K, am_RF b))) from rfl) (am_g1 g2749 rfl) (am_nd_t c2750) ?_
    obtain rfl := Option.some.inj h
    exact am_r_ret (show am_stepn X T_UpRiverModel_swing 2 true (12, [(0, am_pv 65), (1, am_iv x1)], [], am_SH, (J, K, am_RF b)) = some (true, .inr (.inr (some (am_iv (-1)), am_SH, (J, K, am_RF b)))) from rfl) rfl
  · rw [if_neg c2750] at h
    refine am_r_t (show am_stepn X T_UpRiverModel_swing 1 true (9, [(0, am_pv 65), (1, am_iv x1)], [am_iv q2747], am_SH, (J, K, am_RF b)) = some ((decide (am_i32 q2747) && true), .inl (bif am_cb .ne q2747 0 then 14 else 12, [(0, am_pv 65), (1, am_iv x1)], [], am_SH, (J, K, am_RF b))) from rfl) (am_g1 g2749 rfl) (am_nd_f c2750) ?_
    obtain ⟨g2751, h⟩ := am_if_some h
    by_cases c2752 : (J 68 31) = 40
    · rw [if_pos c2752] at h
      refine am_r_f (show am_stepn X T_UpRiverModel_swing 6 true (14, [(0, am_pv 65), (1, am_iv x1)], [], am_SH, (J, K, am_RF b)) = some (((decide (am_i32 40) && decide (am_i32 (J 68 31))) && (am_in 31 216 && true)), .inl (bif am_cb .ne (J 68 31) 40 then 29 else 26, [(0, am_pv 65), (1, am_iv x1)], [], am_SH, (J, K, am_RF b))) from rfl) (am_g2 (by decide) g2751 (am_gi (by decide) rfl)) (am_nd_t c2752) ?_
      obtain rfl := Option.some.inj h
      exact am_r_ret (show am_stepn X T_UpRiverModel_swing 2 true (26, [(0, am_pv 65), (1, am_iv x1)], [], am_SH, (J, K, am_RF b)) = some (true, .inr (.inr (some (am_iv (-3)), am_SH, (J, K, am_RF b)))) from rfl) rfl
    · rw [if_neg c2752] at h
      refine am_r_t (show am_stepn X T_UpRiverModel_swing 6 true (14, [(0, am_pv 65), (1, am_iv x1)], [], am_SH, (J, K, am_RF b)) = some (((decide (am_i32 40) && decide (am_i32 (J 68 31))) && (am_in 31 216 && true)), .inl (bif am_cb .ne (J 68 31) 40 then 29 else 26, [(0, am_pv 65), (1, am_iv x1)], [], am_SH, (J, K, am_RF b))) from rfl) (am_g2 (by decide) g2751 (am_gi (by decide) rfl)) (am_nd_f c2752) ?_
      obtain ⟨g2753, h⟩ := am_if_some h
      obtain rfl := Option.some.inj h
      exact am_r_ret (show am_stepn X T_UpRiverModel_swing 23 true (29, [(0, am_pv 65), (1, am_iv x1)], [], am_SH, (J, K, am_RF b)) = some ((am_in 31 216 && (am_in 31 216 && (am_in 31 216 && (am_in (32 + (J 68 31)) 216 && (am_in 31 216 && true))))), .inr (.inr (some (am_iv (((am_up J 68 ((32 + (J 68 31)).toNat) x1) 68 31) + 1)), am_SH, ((am_up (am_up J 68 ((32 + (J 68 31)).toNat) x1) 68 31 (((am_up J 68 ((32 + (J 68 31)).toNat) x1) 68 31) + 1)), K, am_RF b)))) from rfl) (am_gi (by decide) (am_gi (by decide) (am_gi (by decide) (am_gi g2753 (am_gi (by decide) rfl)))))
theorem s_UpRiverModel_rightBy_L78 {X : am_X} {b : Bool} {J : am_J} {K : am_K} {kb4 : Int → Int → Int → Option Int} (hk4 : ∀ (x1 : Int) (x2 : Int) (x3 : Int) (r : Int), kb4 x1 x2 x3 = some r → am_runs X T_UpRiverModel_rightBy (4, [(0, am_pv 65), (1, am_iv x1), (2, am_iv x2), (3, am_iv x3)], [], am_SH, (J, K, am_RF b)) (some (am_iv r), am_SH, (J, K, am_RF b))) : ∀ (x1 : Int) (x3 : Int) (s0 : Int) (s1 : Int) (r : Int), f_UpRiverModel_rightBy_L78 J kb4  x1 x3 s0 s1 = some r → am_runs X T_UpRiverModel_rightBy (78, [(0, am_pv 65), (1, am_iv x1), (3, am_iv x3)], [am_iv s1, am_iv s0], am_SH, (J, K, am_RF b)) (some (am_iv r), am_SH, (J, K, am_RF b)) := by
  intro x1 x3 s0 s1 r h
  unfold f_UpRiverModel_rightBy_L78 at h
  obtain ⟨q2754, e2755, h⟩ := am_bind_some h
  refine am_r_call (show am_stepn X T_UpRiverModel_rightBy 1 true (78, [(0, am_pv 65), (1, am_iv x1), (3, am_iv x3)], [am_iv s1, am_iv s0], am_SH, (J, K, am_RF b)) = some (true, .inr (.inl (195, [am_iv s1], 1, 0, 0, 81, [(0, am_pv 65), (1, am_iv x1), (3, am_iv x3)], [am_iv s0], am_SH, (J, K, am_RF b)))) from rfl) rfl tb_UpRiverModel_flag (s_UpRiverModel_flag e2755) ?_
  refine am_r_go (show am_stepn X T_UpRiverModel_rightBy 4 true (81, [(0, am_pv 65), (1, am_iv x1), (3, am_iv x3)], [am_iv q2754, am_iv s0], am_SH, (J, K, am_RF b)) = some (true, .inl (4, [(0, am_pv 65), (1, am_iv x1), (2, am_iv (s0 + q2754)), (3, am_iv (x3 + 1))], [], am_SH, (J, K, am_RF b))) from rfl) rfl ?_
  exact hk4 _ _ _ _ h
theorem s_UpRiverModel_rightBy_L23 {X : am_X} {b : Bool} {J : am_J} {K : am_K} {kb4 : Int → Int → Int → Option Int} (hk4 : ∀ (x1 : Int) (x2 : Int) (x3 : Int) (r : Int), kb4 x1 x2 x3 = some r → am_runs X T_UpRiverModel_rightBy (4, [(0, am_pv 65), (1, am_iv x1), (2, am_iv x2), (3, am_iv x3)], [], am_SH, (J, K, am_RF b)) (some (am_iv r), am_SH, (J, K, am_RF b))) : ∀ (n : Nat) (x1 : Int) (x2 : Int) (x3 : Int) (x4 : Int) (x5 : Int) (r : Int), f_UpRiverModel_rightBy_L23 J kb4 n x1 x2 x3 x4 x5 = some r → am_runs X T_UpRiverModel_rightBy (23, [(0, am_pv 65), (1, am_iv x1), (2, am_iv x2), (3, am_iv x3), (4, am_iv x4), (5, am_iv x5)], [], am_SH, (J, K, am_RF b)) (some (am_iv r), am_SH, (J, K, am_RF b)) := by
  intro n
  induction n with
  | zero =>
    intro x1 x2 x3 x4 x5 r h
    cases h
  | succ n ih =>
    intro x1 x2 x3 x4 x5 r h
    rw [f_UpRiverModel_rightBy_L23.eq_2] at h
    obtain ⟨g2756, h⟩ := am_if_some h
    obtain ⟨g2757, h⟩ := am_if_some h
    by_cases c2758 : x5 < x3
    · rw [if_pos c2758] at h
      refine am_r_f (show am_stepn X T_UpRiverModel_rightBy 3 true (23, [(0, am_pv 65), (1, am_iv x1), (2, am_iv x2), (3, am_iv x3), (4, am_iv x4), (5, am_iv x5)], [], am_SH, (J, K, am_RF b)) = some (((decide (am_i32 x3) && decide (am_i32 x5)) && true), .inl (bif am_cb .ge x5 x3 then 50 else 29, [(0, am_pv 65), (1, am_iv x1), (2, am_iv x2), (3, am_iv x3), (4, am_iv x4), (5, am_iv x5)], [], am_SH, (J, K, am_RF b))) from rfl) (am_g2 g2756 g2757 rfl) (am_nd_t c2758) ?_
      obtain ⟨g2759, h⟩ := am_if_some h
      refine am_r_go (show am_stepn X T_UpRiverModel_rightBy 11 true (29, [(0, am_pv 65), (1, am_iv x1), (2, am_iv x2), (3, am_iv x3), (4, am_iv x4), (5, am_iv x5)], [], am_SH, (J, K, am_RF b)) = some ((am_in (32 + x5) 216 && true), .inl (23, [(0, am_pv 65), (1, am_iv x1), (2, am_iv x2), (3, am_iv x3), (4, am_iv (x4 + (J 68 ((32 + x5).toNat)))), (5, am_iv (x5 + 1))], [], am_SH, (J, K, am_RF b))) from rfl) (am_gi g2759 rfl) ?_
      exact ih _ _ _ _ _ _ h
    · rw [if_neg c2758] at h
      refine am_r_t (show am_stepn X T_UpRiverModel_rightBy 3 true (23, [(0, am_pv 65), (1, am_iv x1), (2, am_iv x2), (3, am_iv x3), (4, am_iv x4), (5, am_iv x5)], [], am_SH, (J, K, am_RF b)) = some (((decide (am_i32 x3) && decide (am_i32 x5)) && true), .inl (bif am_cb .ge x5 x3 then 50 else 29, [(0, am_pv 65), (1, am_iv x1), (2, am_iv x2), (3, am_iv x3), (4, am_iv x4), (5, am_iv x5)], [], am_SH, (J, K, am_RF b))) from rfl) (am_g2 g2756 g2757 rfl) (am_nd_f c2758) ?_
      obtain ⟨g2760, h⟩ := am_if_some h
      obtain ⟨g2761, h⟩ := am_if_some h
      obtain ⟨g2762, h⟩ := am_if_some h
      obtain ⟨g2763, h⟩ := am_if_some h
      obtain ⟨g2764, h⟩ := am_if_some h
      by_cases c2765 : (am_dv ((2 * x4) + x1) (2 * x1)) = (J 68 ((32 + x3).toNat))
      · rw [if_pos c2765] at h
        refine am_r_f (show am_stepn X T_UpRiverModel_rightBy 17 true (50, [(0, am_pv 65), (1, am_iv x1), (2, am_iv x2), (3, am_iv x3), (4, am_iv x4), (5, am_iv x5)], [], am_SH, (J, K, am_RF b)) = some (((decide (am_i32 (J 68 ((32 + x3).toNat))) && decide (am_i32 (am_dv ((2 * x4) + x1) (2 * x1)))) && (am_in (32 + x3) 216 && ((decide (0 < (2 * x1 : Int) ∧ am_i32 (2 * x1)) && decide (am_i32 ((2 * x4) + x1))) && true))), .inl (bif am_cb .ne (am_dv ((2 * x4) + x1) (2 * x1)) (J 68 ((32 + x3).toNat)) then 77 else 73, [(0, am_pv 65), (1, am_iv x1), (2, am_iv x2), (3, am_iv x3), (4, am_iv x4)], [am_iv x2], am_SH, (J, K, am_RF b))) from rfl) (am_g2 g2763 g2764 (am_gi g2762 (am_g2 g2760 g2761 rfl))) (am_nd_t c2765) ?_
        refine am_r_go (show am_stepn X T_UpRiverModel_rightBy 2 true (73, [(0, am_pv 65), (1, am_iv x1), (2, am_iv x2), (3, am_iv x3), (4, am_iv x4)], [am_iv x2], am_SH, (J, K, am_RF b)) = some (true, .inl (78, [(0, am_pv 65), (1, am_iv x1), (3, am_iv x3)], [am_iv 1, am_iv x2], am_SH, (J, K, am_RF b))) from rfl) rfl ?_
        exact s_UpRiverModel_rightBy_L78 hk4 _ _ _ _ _ h
      · rw [if_neg c2765] at h
        refine am_r_t (show am_stepn X T_UpRiverModel_rightBy 17 true (50, [(0, am_pv 65), (1, am_iv x1), (2, am_iv x2), (3, am_iv x3), (4, am_iv x4), (5, am_iv x5)], [], am_SH, (J, K, am_RF b)) = some (((decide (am_i32 (J 68 ((32 + x3).toNat))) && decide (am_i32 (am_dv ((2 * x4) + x1) (2 * x1)))) && (am_in (32 + x3) 216 && ((decide (0 < (2 * x1 : Int) ∧ am_i32 (2 * x1)) && decide (am_i32 ((2 * x4) + x1))) && true))), .inl (bif am_cb .ne (am_dv ((2 * x4) + x1) (2 * x1)) (J 68 ((32 + x3).toNat)) then 77 else 73, [(0, am_pv 65), (1, am_iv x1), (2, am_iv x2), (3, am_iv x3), (4, am_iv x4)], [am_iv x2], am_SH, (J, K, am_RF b))) from rfl) (am_g2 g2763 g2764 (am_gi g2762 (am_g2 g2760 g2761 rfl))) (am_nd_f c2765) ?_
        refine am_r_go (show am_stepn X T_UpRiverModel_rightBy 1 true (77, [(0, am_pv 65), (1, am_iv x1), (2, am_iv x2), (3, am_iv x3), (4, am_iv x4)], [am_iv x2], am_SH, (J, K, am_RF b)) = some (true, .inl (78, [(0, am_pv 65), (1, am_iv x1), (3, am_iv x3)], [am_iv 0, am_iv x2], am_SH, (J, K, am_RF b))) from rfl) rfl ?_
        exact s_UpRiverModel_rightBy_L78 hk4 _ _ _ _ _ h
theorem s_UpRiverModel_rightBy_L4 {X : am_X} {b : Bool} {J : am_J} {K : am_K}  : ∀ (n : Nat) (x1 : Int) (x2 : Int) (x3 : Int) (r : Int), f_UpRiverModel_rightBy_L4 J  n x1 x2 x3 = some r → am_runs X T_UpRiverModel_rightBy (4, [(0, am_pv 65), (1, am_iv x1), (2, am_iv x2), (3, am_iv x3)], [], am_SH, (J, K, am_RF b)) (some (am_iv r), am_SH, (J, K, am_RF b)) := by
  intro n
  induction n with
  | zero =>
    intro x1 x2 x3 r h
    cases h
  | succ n ih =>
    intro x1 x2 x3 r h
    rw [f_UpRiverModel_rightBy_L4.eq_2] at h
    obtain ⟨g2766, h⟩ := am_if_some h
    obtain ⟨g2767, h⟩ := am_if_some h
    by_cases c2768 : x3 < (J 68 31)
    · rw [if_pos c2768] at h
      refine am_r_f (show am_stepn X T_UpRiverModel_rightBy 6 true (4, [(0, am_pv 65), (1, am_iv x1), (2, am_iv x2), (3, am_iv x3)], [], am_SH, (J, K, am_RF b)) = some (((decide (am_i32 (J 68 31)) && decide (am_i32 x3)) && (am_in 31 216 && true)), .inl (bif am_cb .ge x3 (J 68 31) then 89 else 15, [(0, am_pv 65), (1, am_iv x1), (2, am_iv x2), (3, am_iv x3)], [], am_SH, (J, K, am_RF b))) from rfl) (am_g2 g2766 g2767 (am_gi (by decide) rfl)) (am_nd_t c2768) ?_
      refine am_r_go (show am_stepn X T_UpRiverModel_rightBy 6 true (15, [(0, am_pv 65), (1, am_iv x1), (2, am_iv x2), (3, am_iv x3)], [], am_SH, (J, K, am_RF b)) = some (true, .inl (23, [(0, am_pv 65), (1, am_iv x1), (2, am_iv x2), (3, am_iv x3), (4, am_iv 0), (5, am_iv (x3 - x1))], [], am_SH, (J, K, am_RF b))) from rfl) rfl ?_
      exact s_UpRiverModel_rightBy_L23 ih _ _ _ _ _ _ _ h
    · rw [if_neg c2768] at h
      refine am_r_t (show am_stepn X T_UpRiverModel_rightBy 6 true (4, [(0, am_pv 65), (1, am_iv x1), (2, am_iv x2), (3, am_iv x3)], [], am_SH, (J, K, am_RF b)) = some (((decide (am_i32 (J 68 31)) && decide (am_i32 x3)) && (am_in 31 216 && true)), .inl (bif am_cb .ge x3 (J 68 31) then 89 else 15, [(0, am_pv 65), (1, am_iv x1), (2, am_iv x2), (3, am_iv x3)], [], am_SH, (J, K, am_RF b))) from rfl) (am_g2 g2766 g2767 (am_gi (by decide) rfl)) (am_nd_f c2768) ?_
      obtain rfl := Option.some.inj h
      exact am_r_ret (show am_stepn X T_UpRiverModel_rightBy 2 true (89, [(0, am_pv 65), (1, am_iv x1), (2, am_iv x2), (3, am_iv x3)], [], am_SH, (J, K, am_RF b)) = some (true, .inr (.inr (some (am_iv x2), am_SH, (J, K, am_RF b)))) from rfl) rfl
theorem s_UpRiverModel_rightBy {X : am_X} {b : Bool} {J : am_J} {K : am_K} {x1 : Int} {r : Int} (h : f_UpRiverModel_rightBy J x1 = some r) : am_runs X T_UpRiverModel_rightBy (0, [(0, am_pv 65), (1, am_iv x1)], [], am_SH, (J, K, am_RF b)) (some (am_iv r), am_SH, (J, K, am_RF b)) := by
  unfold f_UpRiverModel_rightBy at h
  refine am_r_go (show am_stepn X T_UpRiverModel_rightBy 4 true (0, [(0, am_pv 65), (1, am_iv x1)], [], am_SH, (J, K, am_RF b)) = some (true, .inl (4, [(0, am_pv 65), (1, am_iv x1), (2, am_iv 0), (3, am_iv x1)], [], am_SH, (J, K, am_RF b))) from rfl) rfl ?_
  exact s_UpRiverModel_rightBy_L4  _ _ _ _ _ h
theorem s_UpRiverModel_judged {X : am_X} {b : Bool} {J : am_J} {K : am_K} {x1 : Int} {r : Int} (h : f_UpRiverModel_judged J x1 = some r) : am_runs X T_UpRiverModel_judged (0, [(0, am_pv 65), (1, am_iv x1)], [], am_SH, (J, K, am_RF b)) (some (am_iv r), am_SH, (J, K, am_RF b)) := by
  unfold f_UpRiverModel_judged at h
  obtain ⟨q2769, e2770, h⟩ := am_bind_some h
  refine am_r_call (show am_stepn X T_UpRiverModel_judged 5 true (0, [(0, am_pv 65), (1, am_iv x1)], [], am_SH, (J, K, am_RF b)) = some (true, .inr (.inl (150, [am_jv (am_i2l x1), am_jv (1 : Int64), am_jv (20 : Int64)], 6, 0, 0, 9, [(0, am_pv 65), (1, am_iv x1)], [], am_SH, (J, K, am_RF b)))) from rfl) rfl tb_UpRiverModel_in (s_UpRiverModel_in e2770) ?_
  obtain ⟨g2771, h⟩ := am_if_some h
  by_cases c2772 : q2769 = 0
  · rw [if_pos c2772] at h
    refine am_r_t (show am_stepn X T_UpRiverModel_judged 1 true (9, [(0, am_pv 65), (1, am_iv x1)], [am_iv q2769], am_SH, (J, K, am_RF b)) = some ((decide (am_i32 q2769) && true), .inl (bif am_cb .eq q2769 0 then 20 else 12, [(0, am_pv 65), (1, am_iv x1)], [], am_SH, (J, K, am_RF b))) from rfl) (am_g1 g2771 rfl) (decide_eq_true c2772) ?_
    obtain rfl := Option.some.inj h
    exact am_r_ret (show am_stepn X T_UpRiverModel_judged 2 true (20, [(0, am_pv 65), (1, am_iv x1)], [], am_SH, (J, K, am_RF b)) = some (true, .inr (.inr (some (am_iv (-1)), am_SH, (J, K, am_RF b)))) from rfl) rfl
  · rw [if_neg c2772] at h
    refine am_r_f (show am_stepn X T_UpRiverModel_judged 1 true (9, [(0, am_pv 65), (1, am_iv x1)], [am_iv q2769], am_SH, (J, K, am_RF b)) = some ((decide (am_i32 q2769) && true), .inl (bif am_cb .eq q2769 0 then 20 else 12, [(0, am_pv 65), (1, am_iv x1)], [], am_SH, (J, K, am_RF b))) from rfl) (am_g1 g2771 rfl) (decide_eq_false c2772) ?_
    obtain ⟨q2773, e2774, h⟩ := am_bind_some h
    refine am_r_call (show am_stepn X T_UpRiverModel_judged 3 true (12, [(0, am_pv 65), (1, am_iv x1)], [], am_SH, (J, K, am_RF b)) = some (true, .inr (.inl (237, [am_pv 65, am_iv x1], 6, 0, 0, 17, [(0, am_pv 65), (1, am_iv x1)], [], am_SH, (J, K, am_RF b)))) from rfl) rfl tb_UpRiverModel_rightBy (s_UpRiverModel_rightBy e2774) ?_
    obtain rfl := Option.some.inj h
    exact am_r_ret (show am_stepn X T_UpRiverModel_judged 2 true (17, [(0, am_pv 65), (1, am_iv x1)], [am_iv q2773], am_SH, (J, K, am_RF b)) = some (true, .inr (.inr (some (am_iv q2773), am_SH, (J, K, am_RF b)))) from rfl) rfl
theorem s_UpRiverModel_judge_L133 {X : am_X} {b : Bool} {J : am_J} {K : am_K}  : ∀ (x1 : Int) (x2 : Int) (x3 : Int) (x4 : Int) (r : Int), f_UpRiverModel_judge_L133 J   x1 x2 x3 x4 = some r → am_runs X T_UpRiverModel_judge (133, [(1, am_iv x1), (2, am_iv x2), (3, am_iv x3), (4, am_iv x4)], [], am_SH, (J, K, am_RF b)) (some (am_iv r), am_SH, (J, K, am_RF b)) := by
  intro x1 x2 x3 x4 r h
  unfold f_UpRiverModel_judge_L133 at h
  obtain ⟨g2775, h⟩ := am_if_some h
  by_cases c2776 : x2 = (-4)
  · rw [if_pos c2776] at h
    refine am_r_f (show am_stepn X T_UpRiverModel_judge 3 true (133, [(1, am_iv x1), (2, am_iv x2), (3, am_iv x3), (4, am_iv x4)], [], am_SH, (J, K, am_RF b)) = some (((decide (am_i32 (-4)) && decide (am_i32 x2)) && true), .inl (bif am_cb .ne x2 (-4) then 144 else 139, [(1, am_iv x1), (2, am_iv x2), (3, am_iv x3), (4, am_iv x4)], [], am_SH, (J, K, am_RF b))) from rfl) (am_g2 (by decide) g2775 rfl) (am_nd_t c2776) ?_
    obtain rfl := Option.some.inj h
    exact am_r_ret (show am_stepn X T_UpRiverModel_judge 3 true (139, [(1, am_iv x1), (2, am_iv x2), (3, am_iv x3), (4, am_iv x4)], [], am_SH, (J, K, am_RF b)) = some (true, .inr (.inr (some (am_iv (-4)), am_SH, (J, K, am_RF b)))) from rfl) rfl
  · rw [if_neg c2776] at h
    refine am_r_t (show am_stepn X T_UpRiverModel_judge 3 true (133, [(1, am_iv x1), (2, am_iv x2), (3, am_iv x3), (4, am_iv x4)], [], am_SH, (J, K, am_RF b)) = some (((decide (am_i32 (-4)) && decide (am_i32 x2)) && true), .inl (bif am_cb .ne x2 (-4) then 144 else 139, [(1, am_iv x1), (2, am_iv x2), (3, am_iv x3), (4, am_iv x4)], [], am_SH, (J, K, am_RF b))) from rfl) (am_g2 (by decide) g2775 rfl) (am_nd_f c2776) ?_
    obtain ⟨g2777, h⟩ := am_if_some h
    by_cases c2778 : x1 = 0
    · rw [if_pos c2778] at h
      refine am_r_f (show am_stepn X T_UpRiverModel_judge 2 true (144, [(1, am_iv x1), (2, am_iv x2), (3, am_iv x3), (4, am_iv x4)], [], am_SH, (J, K, am_RF b)) = some ((decide (am_i32 x1) && true), .inl (bif am_cb .ne x1 0 then 152 else 148, [(1, am_iv x1), (2, am_iv x2), (3, am_iv x3), (4, am_iv x4)], [], am_SH, (J, K, am_RF b))) from rfl) (am_g1 g2777 rfl) (am_nd_t c2778) ?_
      obtain rfl := Option.some.inj h
      exact am_r_ret (show am_stepn X T_UpRiverModel_judge 3 true (148, [(1, am_iv x1), (2, am_iv x2), (3, am_iv x3), (4, am_iv x4)], [], am_SH, (J, K, am_RF b)) = some (true, .inr (.inr (some (am_iv x2), am_SH, (J, K, am_RF b)))) from rfl) rfl
    · rw [if_neg c2778] at h
      refine am_r_t (show am_stepn X T_UpRiverModel_judge 2 true (144, [(1, am_iv x1), (2, am_iv x2), (3, am_iv x3), (4, am_iv x4)], [], am_SH, (J, K, am_RF b)) = some ((decide (am_i32 x1) && true), .inl (bif am_cb .ne x1 0 then 152 else 148, [(1, am_iv x1), (2, am_iv x2), (3, am_iv x3), (4, am_iv x4)], [], am_SH, (J, K, am_RF b))) from rfl) (am_g1 g2777 rfl) (am_nd_f c2778) ?_
      by_cases c2779 : x1 = 1
      · rw [if_pos c2779] at h
        refine am_r_f (show am_stepn X T_UpRiverModel_judge 3 true (152, [(1, am_iv x1), (2, am_iv x2), (3, am_iv x3), (4, am_iv x4)], [], am_SH, (J, K, am_RF b)) = some (((decide (am_i32 1) && decide (am_i32 x1)) && true), .inl (bif am_cb .ne x1 1 then 161 else 157, [(1, am_iv x1), (3, am_iv x3), (4, am_iv x4)], [], am_SH, (J, K, am_RF b))) from rfl) (am_g2 (by decide) g2777 rfl) (am_nd_t c2779) ?_
        obtain rfl := Option.some.inj h
        exact am_r_ret (show am_stepn X T_UpRiverModel_judge 3 true (157, [(1, am_iv x1), (3, am_iv x3), (4, am_iv x4)], [], am_SH, (J, K, am_RF b)) = some (true, .inr (.inr (some (am_iv x3), am_SH, (J, K, am_RF b)))) from rfl) rfl
      · rw [if_neg c2779] at h
        refine am_r_t (show am_stepn X T_UpRiverModel_judge 3 true (152, [(1, am_iv x1), (2, am_iv x2), (3, am_iv x3), (4, am_iv x4)], [], am_SH, (J, K, am_RF b)) = some (((decide (am_i32 1) && decide (am_i32 x1)) && true), .inl (bif am_cb .ne x1 1 then 161 else 157, [(1, am_iv x1), (3, am_iv x3), (4, am_iv x4)], [], am_SH, (J, K, am_RF b))) from rfl) (am_g2 (by decide) g2777 rfl) (am_nd_f c2779) ?_
        obtain rfl := Option.some.inj h
        exact am_r_ret (show am_stepn X T_UpRiverModel_judge 2 true (161, [(1, am_iv x1), (3, am_iv x3), (4, am_iv x4)], [], am_SH, (J, K, am_RF b)) = some (true, .inr (.inr (some (am_iv x4), am_SH, (J, K, am_RF b)))) from rfl) rfl
theorem s_UpRiverModel_judge_L112 {X : am_X} {b : Bool} {J : am_J} {K : am_K} {kb25 : Int → Int → Int → Int → Int → Option Int} (hk25 : ∀ (x1 : Int) (x2 : Int) (x3 : Int) (x4 : Int) (x5 : Int) (r : Int), kb25 x1 x2 x3 x4 x5 = some r → am_runs X T_UpRiverModel_judge (25, [(0, am_pv 65), (1, am_iv x1), (2, am_iv x2), (3, am_iv x3), (4, am_iv x4), (5, am_iv x5)], [], am_SH, (J, K, am_RF b)) (some (am_iv r), am_SH, (J, K, am_RF b))) : ∀ (x1 : Int) (x2 : Int) (x4 : Int) (x5 : Int) (x7 : Int) (x8 : Int) (s0 : Int) (r : Int), f_UpRiverModel_judge_L112 J kb25  x1 x2 x4 x5 x7 x8 s0 = some r → am_runs X T_UpRiverModel_judge (112, [(0, am_pv 65), (1, am_iv x1), (2, am_iv x2), (4, am_iv x4), (5, am_iv x5), (7, am_iv x7), (8, am_iv x8)], [am_iv s0], am_SH, (J, K, am_RF b)) (some (am_iv r), am_SH, (J, K, am_RF b)) := by
  intro x1 x2 x4 x5 x7 x8 s0 r h
  unfold f_UpRiverModel_judge_L112 at h
  obtain ⟨g2780, h⟩ := am_if_some h
  by_cases c2781 : x8 = 0
  · rw [if_pos c2781] at h
    refine am_r_t (show am_stepn X T_UpRiverModel_judge 3 true (112, [(0, am_pv 65), (1, am_iv x1), (2, am_iv x2), (4, am_iv x4), (5, am_iv x5), (7, am_iv x7), (8, am_iv x8)], [am_iv s0], am_SH, (J, K, am_RF b)) = some ((decide (am_i32 x8) && true), .inl (bif am_cb .eq x8 0 then 123 else 118, [(0, am_pv 65), (1, am_iv x1), (2, am_iv x2), (3, am_iv s0), (4, am_iv x4), (5, am_iv x5), (7, am_iv x7), (8, am_iv x8)], [], am_SH, (J, K, am_RF b))) from rfl) (am_g1 g2780 rfl) (decide_eq_true c2781) ?_
    refine am_r_go (show am_stepn X T_UpRiverModel_judge 4 true (123, [(0, am_pv 65), (1, am_iv x1), (2, am_iv x2), (3, am_iv s0), (4, am_iv x4), (5, am_iv x5), (7, am_iv x7), (8, am_iv x8)], [], am_SH, (J, K, am_RF b)) = some (true, .inl (25, [(0, am_pv 65), (1, am_iv x1), (2, am_iv x2), (3, am_iv s0), (4, am_iv x4), (5, am_iv (x5 + 1))], [], am_SH, (J, K, am_RF b))) from rfl) rfl ?_
    exact hk25 _ _ _ _ _ _ h
  · rw [if_neg c2781] at h
    refine am_r_f (show am_stepn X T_UpRiverModel_judge 3 true (112, [(0, am_pv 65), (1, am_iv x1), (2, am_iv x2), (4, am_iv x4), (5, am_iv x5), (7, am_iv x7), (8, am_iv x8)], [am_iv s0], am_SH, (J, K, am_RF b)) = some ((decide (am_i32 x8) && true), .inl (bif am_cb .eq x8 0 then 123 else 118, [(0, am_pv 65), (1, am_iv x1), (2, am_iv x2), (3, am_iv s0), (4, am_iv x4), (5, am_iv x5), (7, am_iv x7), (8, am_iv x8)], [], am_SH, (J, K, am_RF b))) from rfl) (am_g1 g2780 rfl) (decide_eq_false c2781) ?_
    refine am_r_go (show am_stepn X T_UpRiverModel_judge 5 true (118, [(0, am_pv 65), (1, am_iv x1), (2, am_iv x2), (3, am_iv s0), (4, am_iv x4), (5, am_iv x5), (7, am_iv x7), (8, am_iv x8)], [], am_SH, (J, K, am_RF b)) = some (true, .inl (25, [(0, am_pv 65), (1, am_iv x1), (2, am_iv x2), (3, am_iv s0), (4, am_iv x7), (5, am_iv (x5 + 1))], [], am_SH, (J, K, am_RF b))) from rfl) rfl ?_
    exact hk25 _ _ _ _ _ _ h
theorem s_UpRiverModel_judge_L100 {X : am_X} {b : Bool} {J : am_J} {K : am_K} {kb25 : Int → Int → Int → Int → Int → Option Int} (hk25 : ∀ (x1 : Int) (x2 : Int) (x3 : Int) (x4 : Int) (x5 : Int) (r : Int), kb25 x1 x2 x3 x4 x5 = some r → am_runs X T_UpRiverModel_judge (25, [(0, am_pv 65), (1, am_iv x1), (2, am_iv x2), (3, am_iv x3), (4, am_iv x4), (5, am_iv x5)], [], am_SH, (J, K, am_RF b)) (some (am_iv r), am_SH, (J, K, am_RF b))) : ∀ (x1 : Int) (x3 : Int) (x4 : Int) (x5 : Int) (x6 : Int) (x7 : Int) (x8 : Int) (s0 : Int) (r : Int), f_UpRiverModel_judge_L100 J kb25  x1 x3 x4 x5 x6 x7 x8 s0 = some r → am_runs X T_UpRiverModel_judge (100, [(0, am_pv 65), (1, am_iv x1), (3, am_iv x3), (4, am_iv x4), (5, am_iv x5), (6, am_iv x6), (7, am_iv x7), (8, am_iv x8)], [am_iv s0], am_SH, (J, K, am_RF b)) (some (am_iv r), am_SH, (J, K, am_RF b)) := by
  intro x1 x3 x4 x5 x6 x7 x8 s0 r h
  unfold f_UpRiverModel_judge_L100 at h
  obtain ⟨g2782, h⟩ := am_if_some h
  by_cases c2783 : x8 = 0
  · rw [if_pos c2783] at h
    refine am_r_t (show am_stepn X T_UpRiverModel_judge 3 true (100, [(0, am_pv 65), (1, am_iv x1), (3, am_iv x3), (4, am_iv x4), (5, am_iv x5), (6, am_iv x6), (7, am_iv x7), (8, am_iv x8)], [am_iv s0], am_SH, (J, K, am_RF b)) = some ((decide (am_i32 x8) && true), .inl (bif am_cb .eq x8 0 then 111 else 106, [(0, am_pv 65), (1, am_iv x1), (2, am_iv s0), (3, am_iv x3), (4, am_iv x4), (5, am_iv x5), (6, am_iv x6), (7, am_iv x7), (8, am_iv x8)], [], am_SH, (J, K, am_RF b))) from rfl) (am_g1 g2782 rfl) (decide_eq_true c2783) ?_
    refine am_r_go (show am_stepn X T_UpRiverModel_judge 1 true (111, [(0, am_pv 65), (1, am_iv x1), (2, am_iv s0), (3, am_iv x3), (4, am_iv x4), (5, am_iv x5), (6, am_iv x6), (7, am_iv x7), (8, am_iv x8)], [], am_SH, (J, K, am_RF b)) = some (true, .inl (112, [(0, am_pv 65), (1, am_iv x1), (2, am_iv s0), (3, am_iv x3), (4, am_iv x4), (5, am_iv x5), (7, am_iv x7), (8, am_iv x8)], [am_iv x3], am_SH, (J, K, am_RF b))) from rfl) rfl ?_
    refine am_r_eq (σ' := (112, [(0, am_pv 65), (1, am_iv x1), (2, am_iv s0), (4, am_iv x4), (5, am_iv x5), (7, am_iv x7), (8, am_iv x8)], [am_iv x3], am_SH, (J, K, am_RF b))) rfl ?_
    exact s_UpRiverModel_judge_L112 hk25 _ _ _ _ _ _ _ _ h
  · rw [if_neg c2783] at h
    refine am_r_f (show am_stepn X T_UpRiverModel_judge 3 true (100, [(0, am_pv 65), (1, am_iv x1), (3, am_iv x3), (4, am_iv x4), (5, am_iv x5), (6, am_iv x6), (7, am_iv x7), (8, am_iv x8)], [am_iv s0], am_SH, (J, K, am_RF b)) = some ((decide (am_i32 x8) && true), .inl (bif am_cb .eq x8 0 then 111 else 106, [(0, am_pv 65), (1, am_iv x1), (2, am_iv s0), (3, am_iv x3), (4, am_iv x4), (5, am_iv x5), (6, am_iv x6), (7, am_iv x7), (8, am_iv x8)], [], am_SH, (J, K, am_RF b))) from rfl) (am_g1 g2782 rfl) (decide_eq_false c2783) ?_
    refine am_r_go (show am_stepn X T_UpRiverModel_judge 2 true (106, [(0, am_pv 65), (1, am_iv x1), (2, am_iv s0), (3, am_iv x3), (4, am_iv x4), (5, am_iv x5), (6, am_iv x6), (7, am_iv x7), (8, am_iv x8)], [], am_SH, (J, K, am_RF b)) = some (true, .inl (112, [(0, am_pv 65), (1, am_iv x1), (2, am_iv s0), (4, am_iv x4), (5, am_iv x5), (6, am_iv x6), (7, am_iv x7), (8, am_iv x8)], [am_iv x6], am_SH, (J, K, am_RF b))) from rfl) rfl ?_
    refine am_r_eq (σ' := (112, [(0, am_pv 65), (1, am_iv x1), (2, am_iv s0), (4, am_iv x4), (5, am_iv x5), (7, am_iv x7), (8, am_iv x8)], [am_iv x6], am_SH, (J, K, am_RF b))) rfl ?_
    exact s_UpRiverModel_judge_L112 hk25 _ _ _ _ _ _ _ _ h
theorem s_UpRiverModel_judge_L87 {X : am_X} {b : Bool} {J : am_J} {K : am_K} {kb25 : Int → Int → Int → Int → Int → Option Int} (hk25 : ∀ (x1 : Int) (x2 : Int) (x3 : Int) (x4 : Int) (x5 : Int) (r : Int), kb25 x1 x2 x3 x4 x5 = some r → am_runs X T_UpRiverModel_judge (25, [(0, am_pv 65), (1, am_iv x1), (2, am_iv x2), (3, am_iv x3), (4, am_iv x4), (5, am_iv x5)], [], am_SH, (J, K, am_RF b)) (some (am_iv r), am_SH, (J, K, am_RF b))) : ∀ (x1 : Int) (x2 : Int) (x3 : Int) (x4 : Int) (x5 : Int) (x6 : Int) (x7 : Int) (s0 : Int) (r : Int), f_UpRiverModel_judge_L87 J kb25  x1 x2 x3 x4 x5 x6 x7 s0 = some r → am_runs X T_UpRiverModel_judge (87, [(0, am_pv 65), (1, am_iv x1), (2, am_iv x2), (3, am_iv x3), (4, am_iv x4), (5, am_iv x5), (6, am_iv x6), (7, am_iv x7)], [am_iv s0], am_SH, (J, K, am_RF b)) (some (am_iv r), am_SH, (J, K, am_RF b)) := by
  intro x1 x2 x3 x4 x5 x6 x7 s0 r h
  unfold f_UpRiverModel_judge_L87 at h
  obtain ⟨g2784, h⟩ := am_if_some h
  by_cases c2785 : s0 = 0
  · rw [if_pos c2785] at h
    refine am_r_t (show am_stepn X T_UpRiverModel_judge 3 true (87, [(0, am_pv 65), (1, am_iv x1), (2, am_iv x2), (3, am_iv x3), (4, am_iv x4), (5, am_iv x5), (6, am_iv x6), (7, am_iv x7)], [am_iv s0], am_SH, (J, K, am_RF b)) = some ((decide (am_i32 s0) && true), .inl (bif am_cb .eq s0 0 then 99 else 94, [(0, am_pv 65), (1, am_iv x1), (2, am_iv x2), (3, am_iv x3), (4, am_iv x4), (5, am_iv x5), (6, am_iv x6), (7, am_iv x7), (8, am_iv s0)], [], am_SH, (J, K, am_RF b))) from rfl) (am_g1 g2784 rfl) (decide_eq_true c2785) ?_
    refine am_r_go (show am_stepn X T_UpRiverModel_judge 1 true (99, [(0, am_pv 65), (1, am_iv x1), (2, am_iv x2), (3, am_iv x3), (4, am_iv x4), (5, am_iv x5), (6, am_iv x6), (7, am_iv x7), (8, am_iv s0)], [], am_SH, (J, K, am_RF b)) = some (true, .inl (100, [(0, am_pv 65), (1, am_iv x1), (2, am_iv x2), (3, am_iv x3), (4, am_iv x4), (5, am_iv x5), (6, am_iv x6), (7, am_iv x7), (8, am_iv s0)], [am_iv x2], am_SH, (J, K, am_RF b))) from rfl) rfl ?_
    refine am_r_eq (σ' := (100, [(0, am_pv 65), (1, am_iv x1), (3, am_iv x3), (4, am_iv x4), (5, am_iv x5), (6, am_iv x6), (7, am_iv x7), (8, am_iv s0)], [am_iv x2], am_SH, (J, K, am_RF b))) rfl ?_
    exact s_UpRiverModel_judge_L100 hk25 _ _ _ _ _ _ _ _ _ h
  · rw [if_neg c2785] at h
    refine am_r_f (show am_stepn X T_UpRiverModel_judge 3 true (87, [(0, am_pv 65), (1, am_iv x1), (2, am_iv x2), (3, am_iv x3), (4, am_iv x4), (5, am_iv x5), (6, am_iv x6), (7, am_iv x7)], [am_iv s0], am_SH, (J, K, am_RF b)) = some ((decide (am_i32 s0) && true), .inl (bif am_cb .eq s0 0 then 99 else 94, [(0, am_pv 65), (1, am_iv x1), (2, am_iv x2), (3, am_iv x3), (4, am_iv x4), (5, am_iv x5), (6, am_iv x6), (7, am_iv x7), (8, am_iv s0)], [], am_SH, (J, K, am_RF b))) from rfl) (am_g1 g2784 rfl) (decide_eq_false c2785) ?_
    refine am_r_go (show am_stepn X T_UpRiverModel_judge 2 true (94, [(0, am_pv 65), (1, am_iv x1), (2, am_iv x2), (3, am_iv x3), (4, am_iv x4), (5, am_iv x5), (6, am_iv x6), (7, am_iv x7), (8, am_iv s0)], [], am_SH, (J, K, am_RF b)) = some (true, .inl (100, [(0, am_pv 65), (1, am_iv x1), (3, am_iv x3), (4, am_iv x4), (5, am_iv x5), (6, am_iv x6), (7, am_iv x7), (8, am_iv s0)], [am_iv x5], am_SH, (J, K, am_RF b))) from rfl) rfl ?_
    exact s_UpRiverModel_judge_L100 hk25 _ _ _ _ _ _ _ _ _ h
theorem s_UpRiverModel_judge_L25 {X : am_X} {b : Bool} {J : am_J} {K : am_K}  : ∀ (n : Nat) (x1 : Int) (x2 : Int) (x3 : Int) (x4 : Int) (x5 : Int) (r : Int), f_UpRiverModel_judge_L25 J  n x1 x2 x3 x4 x5 = some r → am_runs X T_UpRiverModel_judge (25, [(0, am_pv 65), (1, am_iv x1), (2, am_iv x2), (3, am_iv x3), (4, am_iv x4), (5, am_iv x5)], [], am_SH, (J, K, am_RF b)) (some (am_iv r), am_SH, (J, K, am_RF b)) := by
  intro n
  induction n with
  | zero =>
    intro x1 x2 x3 x4 x5 r h
    cases h
  | succ n ih =>
    intro x1 x2 x3 x4 x5 r h
    rw [f_UpRiverModel_judge_L25.eq_2] at h
    obtain ⟨g2786, h⟩ := am_if_some h
    by_cases c2787 : 20 < x5
    · rw [if_pos c2787] at h
      refine am_r_t (show am_stepn X T_UpRiverModel_judge 3 true (25, [(0, am_pv 65), (1, am_iv x1), (2, am_iv x2), (3, am_iv x3), (4, am_iv x4), (5, am_iv x5)], [], am_SH, (J, K, am_RF b)) = some (((decide (am_i32 20) && decide (am_i32 x5)) && true), .inl (bif am_cb .gt x5 20 then 133 else 32, [(0, am_pv 65), (1, am_iv x1), (2, am_iv x2), (3, am_iv x3), (4, am_iv x4), (5, am_iv x5)], [], am_SH, (J, K, am_RF b))) from rfl) (am_g2 (by decide) g2786 rfl) (decide_eq_true c2787) ?_
      refine am_r_eq (σ' := (133, [(1, am_iv x1), (2, am_iv x2), (3, am_iv x3), (4, am_iv x4)], [], am_SH, (J, K, am_RF b))) rfl ?_
      exact s_UpRiverModel_judge_L133  _ _ _ _ _ h
    · rw [if_neg c2787] at h
      refine am_r_f (show am_stepn X T_UpRiverModel_judge 3 true (25, [(0, am_pv 65), (1, am_iv x1), (2, am_iv x2), (3, am_iv x3), (4, am_iv x4), (5, am_iv x5)], [], am_SH, (J, K, am_RF b)) = some (((decide (am_i32 20) && decide (am_i32 x5)) && true), .inl (bif am_cb .gt x5 20 then 133 else 32, [(0, am_pv 65), (1, am_iv x1), (2, am_iv x2), (3, am_iv x3), (4, am_iv x4), (5, am_iv x5)], [], am_SH, (J, K, am_RF b))) from rfl) (am_g2 (by decide) g2786 rfl) (decide_eq_false c2787) ?_
      obtain ⟨g2788, h⟩ := am_if_some h
      by_cases c2789 : x5 < (J 68 31)
      · rw [if_pos c2789] at h
        refine am_r_f (show am_stepn X T_UpRiverModel_judge 6 true (32, [(0, am_pv 65), (1, am_iv x1), (2, am_iv x2), (3, am_iv x3), (4, am_iv x4), (5, am_iv x5)], [], am_SH, (J, K, am_RF b)) = some (((decide (am_i32 (J 68 31)) && decide (am_i32 x5)) && (am_in 31 216 && true)), .inl (bif am_cb .ge x5 (J 68 31) then 133 else 44, [(0, am_pv 65), (1, am_iv x1), (2, am_iv x2), (3, am_iv x3), (4, am_iv x4), (5, am_iv x5)], [], am_SH, (J, K, am_RF b))) from rfl) (am_g2 g2788 g2786 (am_gi (by decide) rfl)) (am_nd_t c2789) ?_
        obtain ⟨q2790, e2791, h⟩ := am_bind_some h
        refine am_r_call (show am_stepn X T_UpRiverModel_judge 3 true (44, [(0, am_pv 65), (1, am_iv x1), (2, am_iv x2), (3, am_iv x3), (4, am_iv x4), (5, am_iv x5)], [], am_SH, (J, K, am_RF b)) = some (true, .inr (.inl (237, [am_pv 65, am_iv x5], 6, 0, 0, 50, [(0, am_pv 65), (1, am_iv x1), (2, am_iv x2), (3, am_iv x3), (4, am_iv x4), (5, am_iv x5)], [], am_SH, (J, K, am_RF b)))) from rfl) rfl tb_UpRiverModel_rightBy (s_UpRiverModel_rightBy e2791) ?_
        obtain ⟨g2792, h⟩ := am_if_some h
        by_cases c2793 : x2 = (-4)
        · rw [if_pos c2793] at h
          refine am_r_t (show am_stepn X T_UpRiverModel_judge 11 true (50, [(0, am_pv 65), (1, am_iv x1), (2, am_iv x2), (3, am_iv x3), (4, am_iv x4), (5, am_iv x5)], [am_iv q2790], am_SH, (J, K, am_RF b)) = some (((decide (am_i32 (-4)) && decide (am_i32 x2)) && (am_in 31 216 && true)), .inl (bif am_cb .eq x2 (-4) then 82 else 70, [(0, am_pv 65), (1, am_iv x1), (2, am_iv x2), (3, am_iv x3), (4, am_iv x4), (5, am_iv x5), (6, am_iv q2790), (7, am_iv ((J 68 31) - x5))], [], am_SH, (J, K, am_RF b))) from rfl) (am_g2 (by decide) g2792 (am_gi (by decide) rfl)) (decide_eq_true c2793) ?_
          refine am_r_go (show am_stepn X T_UpRiverModel_judge 2 true (82, [(0, am_pv 65), (1, am_iv x1), (2, am_iv x2), (3, am_iv x3), (4, am_iv x4), (5, am_iv x5), (6, am_iv q2790), (7, am_iv ((J 68 31) - x5))], [], am_SH, (J, K, am_RF b)) = some (true, .inl (87, [(0, am_pv 65), (1, am_iv x1), (2, am_iv x2), (3, am_iv x3), (4, am_iv x4), (5, am_iv x5), (6, am_iv q2790), (7, am_iv ((J 68 31) - x5))], [am_iv 1], am_SH, (J, K, am_RF b))) from rfl) rfl ?_
          exact s_UpRiverModel_judge_L87 ih _ _ _ _ _ _ _ _ _ h
        · rw [if_neg c2793] at h
          refine am_r_f (show am_stepn X T_UpRiverModel_judge 11 true (50, [(0, am_pv 65), (1, am_iv x1), (2, am_iv x2), (3, am_iv x3), (4, am_iv x4), (5, am_iv x5)], [am_iv q2790], am_SH, (J, K, am_RF b)) = some (((decide (am_i32 (-4)) && decide (am_i32 x2)) && (am_in 31 216 && true)), .inl (bif am_cb .eq x2 (-4) then 82 else 70, [(0, am_pv 65), (1, am_iv x1), (2, am_iv x2), (3, am_iv x3), (4, am_iv x4), (5, am_iv x5), (6, am_iv q2790), (7, am_iv ((J 68 31) - x5))], [], am_SH, (J, K, am_RF b))) from rfl) (am_g2 (by decide) g2792 (am_gi (by decide) rfl)) (decide_eq_false c2793) ?_
          obtain ⟨g2794, h⟩ := am_if_some h
          obtain ⟨g2795, h⟩ := am_if_some h
          by_cases c2796 : (x3 * ((J 68 31) - x5)) < (q2790 * x4)
          · rw [if_pos c2796] at h
            refine am_r_f (show am_stepn X T_UpRiverModel_judge 7 true (70, [(0, am_pv 65), (1, am_iv x1), (2, am_iv x2), (3, am_iv x3), (4, am_iv x4), (5, am_iv x5), (6, am_iv q2790), (7, am_iv ((J 68 31) - x5))], [], am_SH, (J, K, am_RF b)) = some (((decide (am_i32 (x3 * ((J 68 31) - x5))) && decide (am_i32 (q2790 * x4))) && true), .inl (bif am_cb .le (q2790 * x4) (x3 * ((J 68 31) - x5)) then 86 else 82, [(0, am_pv 65), (1, am_iv x1), (2, am_iv x2), (3, am_iv x3), (4, am_iv x4), (5, am_iv x5), (6, am_iv q2790), (7, am_iv ((J 68 31) - x5))], [], am_SH, (J, K, am_RF b))) from rfl) (am_g2 g2794 g2795 rfl) (am_nd_t c2796) ?_
            refine am_r_go (show am_stepn X T_UpRiverModel_judge 2 true (82, [(0, am_pv 65), (1, am_iv x1), (2, am_iv x2), (3, am_iv x3), (4, am_iv x4), (5, am_iv x5), (6, am_iv q2790), (7, am_iv ((J 68 31) - x5))], [], am_SH, (J, K, am_RF b)) = some (true, .inl (87, [(0, am_pv 65), (1, am_iv x1), (2, am_iv x2), (3, am_iv x3), (4, am_iv x4), (5, am_iv x5), (6, am_iv q2790), (7, am_iv ((J 68 31) - x5))], [am_iv 1], am_SH, (J, K, am_RF b))) from rfl) rfl ?_
            exact s_UpRiverModel_judge_L87 ih _ _ _ _ _ _ _ _ _ h
          · rw [if_neg c2796] at h
            refine am_r_t (show am_stepn X T_UpRiverModel_judge 7 true (70, [(0, am_pv 65), (1, am_iv x1), (2, am_iv x2), (3, am_iv x3), (4, am_iv x4), (5, am_iv x5), (6, am_iv q2790), (7, am_iv ((J 68 31) - x5))], [], am_SH, (J, K, am_RF b)) = some (((decide (am_i32 (x3 * ((J 68 31) - x5))) && decide (am_i32 (q2790 * x4))) && true), .inl (bif am_cb .le (q2790 * x4) (x3 * ((J 68 31) - x5)) then 86 else 82, [(0, am_pv 65), (1, am_iv x1), (2, am_iv x2), (3, am_iv x3), (4, am_iv x4), (5, am_iv x5), (6, am_iv q2790), (7, am_iv ((J 68 31) - x5))], [], am_SH, (J, K, am_RF b))) from rfl) (am_g2 g2794 g2795 rfl) (am_nd_f c2796) ?_
            refine am_r_go (show am_stepn X T_UpRiverModel_judge 1 true (86, [(0, am_pv 65), (1, am_iv x1), (2, am_iv x2), (3, am_iv x3), (4, am_iv x4), (5, am_iv x5), (6, am_iv q2790), (7, am_iv ((J 68 31) - x5))], [], am_SH, (J, K, am_RF b)) = some (true, .inl (87, [(0, am_pv 65), (1, am_iv x1), (2, am_iv x2), (3, am_iv x3), (4, am_iv x4), (5, am_iv x5), (6, am_iv q2790), (7, am_iv ((J 68 31) - x5))], [am_iv 0], am_SH, (J, K, am_RF b))) from rfl) rfl ?_
            exact s_UpRiverModel_judge_L87 ih _ _ _ _ _ _ _ _ _ h
      · rw [if_neg c2789] at h
        refine am_r_t (show am_stepn X T_UpRiverModel_judge 6 true (32, [(0, am_pv 65), (1, am_iv x1), (2, am_iv x2), (3, am_iv x3), (4, am_iv x4), (5, am_iv x5)], [], am_SH, (J, K, am_RF b)) = some (((decide (am_i32 (J 68 31)) && decide (am_i32 x5)) && (am_in 31 216 && true)), .inl (bif am_cb .ge x5 (J 68 31) then 133 else 44, [(0, am_pv 65), (1, am_iv x1), (2, am_iv x2), (3, am_iv x3), (4, am_iv x4), (5, am_iv x5)], [], am_SH, (J, K, am_RF b))) from rfl) (am_g2 g2788 g2786 (am_gi (by decide) rfl)) (am_nd_f c2789) ?_
        refine am_r_eq (σ' := (133, [(1, am_iv x1), (2, am_iv x2), (3, am_iv x3), (4, am_iv x4)], [], am_SH, (J, K, am_RF b))) rfl ?_
        exact s_UpRiverModel_judge_L133  _ _ _ _ _ h
theorem s_UpRiverModel_judge {X : am_X} {b : Bool} {J : am_J} {K : am_K} {x1 : Int} {r : Int} (h : f_UpRiverModel_judge J x1 = some r) : am_runs X T_UpRiverModel_judge (0, [(0, am_pv 65), (1, am_iv x1)], [], am_SH, (J, K, am_RF b)) (some (am_iv r), am_SH, (J, K, am_RF b)) := by
  unfold f_UpRiverModel_judge at h
  obtain ⟨q2797, e2798, h⟩ := am_bind_some h
  refine am_r_call (show am_stepn X T_UpRiverModel_judge 5 true (0, [(0, am_pv 65), (1, am_iv x1)], [], am_SH, (J, K, am_RF b)) = some (true, .inr (.inl (150, [am_jv (am_i2l x1), am_jv (0 : Int64), am_jv (2 : Int64)], 6, 0, 0, 9, [(0, am_pv 65), (1, am_iv x1)], [], am_SH, (J, K, am_RF b)))) from rfl) rfl tb_UpRiverModel_in (s_UpRiverModel_in e2798) ?_
  obtain ⟨g2799, h⟩ := am_if_some h
  by_cases c2800 : q2797 = 0
  · rw [if_pos c2800] at h
    refine am_r_f (show am_stepn X T_UpRiverModel_judge 1 true (9, [(0, am_pv 65), (1, am_iv x1)], [am_iv q2797], am_SH, (J, K, am_RF b)) = some ((decide (am_i32 q2797) && true), .inl (bif am_cb .ne q2797 0 then 14 else 12, [(0, am_pv 65), (1, am_iv x1)], [], am_SH, (J, K, am_RF b))) from rfl) (am_g1 g2799 rfl) (am_nd_t c2800) ?_
    obtain rfl := Option.some.inj h
    exact am_r_ret (show am_stepn X T_UpRiverModel_judge 2 true (12, [(0, am_pv 65), (1, am_iv x1)], [], am_SH, (J, K, am_RF b)) = some (true, .inr (.inr (some (am_iv (-1)), am_SH, (J, K, am_RF b)))) from rfl) rfl
  · rw [if_neg c2800] at h
    refine am_r_t (show am_stepn X T_UpRiverModel_judge 1 true (9, [(0, am_pv 65), (1, am_iv x1)], [am_iv q2797], am_SH, (J, K, am_RF b)) = some ((decide (am_i32 q2797) && true), .inl (bif am_cb .ne q2797 0 then 14 else 12, [(0, am_pv 65), (1, am_iv x1)], [], am_SH, (J, K, am_RF b))) from rfl) (am_g1 g2799 rfl) (am_nd_f c2800) ?_
    refine am_r_go (show am_stepn X T_UpRiverModel_judge 8 true (14, [(0, am_pv 65), (1, am_iv x1)], [], am_SH, (J, K, am_RF b)) = some (true, .inl (25, [(0, am_pv 65), (1, am_iv x1), (2, am_iv (-4)), (3, am_iv 0), (4, am_iv 0), (5, am_iv 1)], [], am_SH, (J, K, am_RF b))) from rfl) rfl ?_
    exact s_UpRiverModel_judge_L25  _ _ _ _ _ _ _ h
theorem s_UpRiverModel_barge {X : am_X} {b : Bool} {K : am_K} {x1 : Int} {x2 : Int} {x3 : Int} {x4 : Int} {x5 : Int} {J : am_J} {r : Int × am_J} (h : f_UpRiverModel_barge  x1 x2 x3 x4 x5 J = some r) : am_runs X T_UpRiverModel_barge (0, [(0, am_pv 65), (1, am_iv x1), (2, am_iv x2), (3, am_iv x3), (4, am_iv x4), (5, am_iv x5)], [], am_SH, (J, K, am_RF b)) (some (am_iv r.1), am_SH, (r.2, K, am_RF b)) := by
  unfold f_UpRiverModel_barge at h
  obtain ⟨q2801, e2802, h⟩ := am_bind_some h
  refine am_r_call (show am_stepn X T_UpRiverModel_barge 2 true (0, [(0, am_pv 65), (1, am_iv x1), (2, am_iv x2), (3, am_iv x3), (4, am_iv x4), (5, am_iv x5)], [], am_SH, (J, K, am_RF b)) = some (true, .inr (.inl (181, [am_iv x1], 1, 0, 0, 4, [(0, am_pv 65), (1, am_iv x1), (2, am_iv x2), (3, am_iv x3), (4, am_iv x4), (5, am_iv x5)], [], am_SH, (J, K, am_RF b)))) from rfl) rfl tb_UpRiverModel_isLane (s_UpRiverModel_isLane e2802) ?_
  obtain ⟨g2803, h⟩ := am_if_some h
  by_cases c2804 : q2801 = 0
  · rw [if_pos c2804] at h
    refine am_r_t (show am_stepn X T_UpRiverModel_barge 1 true (4, [(0, am_pv 65), (1, am_iv x1), (2, am_iv x2), (3, am_iv x3), (4, am_iv x4), (5, am_iv x5)], [am_iv q2801], am_SH, (J, K, am_RF b)) = some ((decide (am_i32 q2801) && true), .inl (bif am_cb .eq q2801 0 then 34 else 7, [(0, am_pv 65), (1, am_iv x1), (2, am_iv x2), (3, am_iv x3), (4, am_iv x4), (5, am_iv x5)], [], am_SH, (J, K, am_RF b))) from rfl) (am_g1 g2803 rfl) (decide_eq_true c2804) ?_
    obtain rfl := Option.some.inj h
    exact am_r_ret (show am_stepn X T_UpRiverModel_barge 2 true (34, [(0, am_pv 65), (1, am_iv x1), (2, am_iv x2), (3, am_iv x3), (4, am_iv x4), (5, am_iv x5)], [], am_SH, (J, K, am_RF b)) = some (true, .inr (.inr (some (am_iv (-1)), am_SH, (J, K, am_RF b)))) from rfl) rfl
  · rw [if_neg c2804] at h
    refine am_r_f (show am_stepn X T_UpRiverModel_barge 1 true (4, [(0, am_pv 65), (1, am_iv x1), (2, am_iv x2), (3, am_iv x3), (4, am_iv x4), (5, am_iv x5)], [am_iv q2801], am_SH, (J, K, am_RF b)) = some ((decide (am_i32 q2801) && true), .inl (bif am_cb .eq q2801 0 then 34 else 7, [(0, am_pv 65), (1, am_iv x1), (2, am_iv x2), (3, am_iv x3), (4, am_iv x4), (5, am_iv x5)], [], am_SH, (J, K, am_RF b))) from rfl) (am_g1 g2803 rfl) (decide_eq_false c2804) ?_
    obtain ⟨q2805, e2806, h⟩ := am_bind_some h
    refine am_r_call (show am_stepn X T_UpRiverModel_barge 2 true (7, [(0, am_pv 65), (1, am_iv x1), (2, am_iv x2), (3, am_iv x3), (4, am_iv x4), (5, am_iv x5)], [], am_SH, (J, K, am_RF b)) = some (true, .inr (.inl (177, [am_iv x2], 1, 0, 0, 11, [(0, am_pv 65), (1, am_iv x1), (2, am_iv x2), (3, am_iv x3), (4, am_iv x4), (5, am_iv x5)], [], am_SH, (J, K, am_RF b)))) from rfl) rfl tb_UpRiverModel_isMinute (s_UpRiverModel_isMinute e2806) ?_
    obtain ⟨g2807, h⟩ := am_if_some h
    by_cases c2808 : q2805 = 0
    · rw [if_pos c2808] at h
      refine am_r_t (show am_stepn X T_UpRiverModel_barge 1 true (11, [(0, am_pv 65), (1, am_iv x1), (2, am_iv x2), (3, am_iv x3), (4, am_iv x4), (5, am_iv x5)], [am_iv q2805], am_SH, (J, K, am_RF b)) = some ((decide (am_i32 q2805) && true), .inl (bif am_cb .eq q2805 0 then 34 else 14, [(0, am_pv 65), (1, am_iv x1), (2, am_iv x2), (3, am_iv x3), (4, am_iv x4), (5, am_iv x5)], [], am_SH, (J, K, am_RF b))) from rfl) (am_g1 g2807 rfl) (decide_eq_true c2808) ?_
      obtain rfl := Option.some.inj h
      exact am_r_ret (show am_stepn X T_UpRiverModel_barge 2 true (34, [(0, am_pv 65), (1, am_iv x1), (2, am_iv x2), (3, am_iv x3), (4, am_iv x4), (5, am_iv x5)], [], am_SH, (J, K, am_RF b)) = some (true, .inr (.inr (some (am_iv (-1)), am_SH, (J, K, am_RF b)))) from rfl) rfl
    · rw [if_neg c2808] at h
      refine am_r_f (show am_stepn X T_UpRiverModel_barge 1 true (11, [(0, am_pv 65), (1, am_iv x1), (2, am_iv x2), (3, am_iv x3), (4, am_iv x4), (5, am_iv x5)], [am_iv q2805], am_SH, (J, K, am_RF b)) = some ((decide (am_i32 q2805) && true), .inl (bif am_cb .eq q2805 0 then 34 else 14, [(0, am_pv 65), (1, am_iv x1), (2, am_iv x2), (3, am_iv x3), (4, am_iv x4), (5, am_iv x5)], [], am_SH, (J, K, am_RF b))) from rfl) (am_g1 g2807 rfl) (decide_eq_false c2808) ?_
      obtain ⟨q2809, e2810, h⟩ := am_bind_some h
      refine am_r_call (show am_stepn X T_UpRiverModel_barge 3 true (14, [(0, am_pv 65), (1, am_iv x1), (2, am_iv x2), (3, am_iv x3), (4, am_iv x4), (5, am_iv x5)], [], am_SH, (J, K, am_RF b)) = some (true, .inr (.inl (218, [am_iv x3, am_iv x4], 2, 0, 0, 20, [(0, am_pv 65), (1, am_iv x1), (2, am_iv x2), (3, am_iv x3), (4, am_iv x4), (5, am_iv x5)], [], am_SH, (J, K, am_RF b)))) from rfl) rfl tb_UpRiverModel_isSkipper (s_UpRiverModel_isSkipper e2810) ?_
      obtain ⟨g2811, h⟩ := am_if_some h
      by_cases c2812 : q2809 = 0
      · rw [if_pos c2812] at h
        refine am_r_t (show am_stepn X T_UpRiverModel_barge 1 true (20, [(0, am_pv 65), (1, am_iv x1), (2, am_iv x2), (3, am_iv x3), (4, am_iv x4), (5, am_iv x5)], [am_iv q2809], am_SH, (J, K, am_RF b)) = some ((decide (am_i32 q2809) && true), .inl (bif am_cb .eq q2809 0 then 34 else 23, [(0, am_pv 65), (1, am_iv x1), (2, am_iv x2), (3, am_iv x3), (4, am_iv x4), (5, am_iv x5)], [], am_SH, (J, K, am_RF b))) from rfl) (am_g1 g2811 rfl) (decide_eq_true c2812) ?_
        obtain rfl := Option.some.inj h
        exact am_r_ret (show am_stepn X T_UpRiverModel_barge 2 true (34, [(0, am_pv 65), (1, am_iv x1), (2, am_iv x2), (3, am_iv x3), (4, am_iv x4), (5, am_iv x5)], [], am_SH, (J, K, am_RF b)) = some (true, .inr (.inr (some (am_iv (-1)), am_SH, (J, K, am_RF b)))) from rfl) rfl
      · rw [if_neg c2812] at h
        refine am_r_f (show am_stepn X T_UpRiverModel_barge 1 true (20, [(0, am_pv 65), (1, am_iv x1), (2, am_iv x2), (3, am_iv x3), (4, am_iv x4), (5, am_iv x5)], [am_iv q2809], am_SH, (J, K, am_RF b)) = some ((decide (am_i32 q2809) && true), .inl (bif am_cb .eq q2809 0 then 34 else 23, [(0, am_pv 65), (1, am_iv x1), (2, am_iv x2), (3, am_iv x3), (4, am_iv x4), (5, am_iv x5)], [], am_SH, (J, K, am_RF b))) from rfl) (am_g1 g2811 rfl) (decide_eq_false c2812) ?_
        obtain ⟨q2813, e2814, h⟩ := am_bind_some h
        refine am_r_call (show am_stepn X T_UpRiverModel_barge 5 true (23, [(0, am_pv 65), (1, am_iv x1), (2, am_iv x2), (3, am_iv x3), (4, am_iv x4), (5, am_iv x5)], [], am_SH, (J, K, am_RF b)) = some (true, .inr (.inl (150, [am_jv (am_i2l x5), am_jv (0 : Int64), am_jv (1 : Int64)], 6, 0, 0, 31, [(0, am_pv 65), (1, am_iv x1), (2, am_iv x2), (3, am_iv x3), (4, am_iv x4), (5, am_iv x5)], [], am_SH, (J, K, am_RF b)))) from rfl) rfl tb_UpRiverModel_in (s_UpRiverModel_in e2814) ?_
        obtain ⟨g2815, h⟩ := am_if_some h
        by_cases c2816 : q2813 = 0
        · rw [if_pos c2816] at h
          refine am_r_f (show am_stepn X T_UpRiverModel_barge 1 true (31, [(0, am_pv 65), (1, am_iv x1), (2, am_iv x2), (3, am_iv x3), (4, am_iv x4), (5, am_iv x5)], [am_iv q2813], am_SH, (J, K, am_RF b)) = some ((decide (am_i32 q2813) && true), .inl (bif am_cb .ne q2813 0 then 36 else 34, [(0, am_pv 65), (1, am_iv x1), (2, am_iv x2), (3, am_iv x3), (4, am_iv x4), (5, am_iv x5)], [], am_SH, (J, K, am_RF b))) from rfl) (am_g1 g2815 rfl) (am_nd_t c2816) ?_
          obtain rfl := Option.some.inj h
          exact am_r_ret (show am_stepn X T_UpRiverModel_barge 2 true (34, [(0, am_pv 65), (1, am_iv x1), (2, am_iv x2), (3, am_iv x3), (4, am_iv x4), (5, am_iv x5)], [], am_SH, (J, K, am_RF b)) = some (true, .inr (.inr (some (am_iv (-1)), am_SH, (J, K, am_RF b)))) from rfl) rfl
        · rw [if_neg c2816] at h
          refine am_r_t (show am_stepn X T_UpRiverModel_barge 1 true (31, [(0, am_pv 65), (1, am_iv x1), (2, am_iv x2), (3, am_iv x3), (4, am_iv x4), (5, am_iv x5)], [am_iv q2813], am_SH, (J, K, am_RF b)) = some ((decide (am_i32 q2813) && true), .inl (bif am_cb .ne q2813 0 then 36 else 34, [(0, am_pv 65), (1, am_iv x1), (2, am_iv x2), (3, am_iv x3), (4, am_iv x4), (5, am_iv x5)], [], am_SH, (J, K, am_RF b))) from rfl) (am_g1 g2815 rfl) (am_nd_f c2816) ?_
          obtain ⟨q2817, e2818, h⟩ := am_bind_some h
          refine am_r_call (show am_stepn X T_UpRiverModel_barge 2 true (36, [(0, am_pv 65), (1, am_iv x1), (2, am_iv x2), (3, am_iv x3), (4, am_iv x4), (5, am_iv x5)], [], am_SH, (J, K, am_RF b)) = some (true, .inr (.inl (185, [am_pv 65], 1, 0, 0, 40, [(0, am_pv 65), (1, am_iv x1), (2, am_iv x2), (3, am_iv x3), (4, am_iv x4), (5, am_iv x5)], [], am_SH, (J, K, am_RF b)))) from rfl) rfl tb_UpRiverModel_isUp (s_UpRiverModel_isUp e2818) ?_
          obtain ⟨g2819, h⟩ := am_if_some h
          by_cases c2820 : q2817 = 0
          · rw [if_pos c2820] at h
            refine am_r_t (show am_stepn X T_UpRiverModel_barge 1 true (40, [(0, am_pv 65), (1, am_iv x1), (2, am_iv x2), (3, am_iv x3), (4, am_iv x4), (5, am_iv x5)], [am_iv q2817], am_SH, (J, K, am_RF b)) = some ((decide (am_i32 q2817) && true), .inl (bif am_cb .eq q2817 0 then 46 else 43, [(0, am_pv 65), (1, am_iv x1), (2, am_iv x2), (3, am_iv x3), (4, am_iv x4), (5, am_iv x5)], [], am_SH, (J, K, am_RF b))) from rfl) (am_g1 g2819 rfl) (decide_eq_true c2820) ?_
            obtain ⟨q2821, e2822, h⟩ := am_bind_some h
            refine am_r_call (show am_stepn X T_UpRiverModel_barge 6 true (46, [(0, am_pv 65), (1, am_iv x1), (2, am_iv x2), (3, am_iv x3), (4, am_iv x4), (5, am_iv x5)], [], am_SH, (J, K, am_RF b)) = some (true, .inr (.inl (219, [am_pv 65, am_iv x3, am_iv x4, am_iv x1, am_iv x2], 5, 0, 0, 55, [(0, am_pv 65), (1, am_iv x1), (2, am_iv x2), (3, am_iv x3), (4, am_iv x4), (5, am_iv x5)], [], am_SH, (J, K, am_RF b)))) from rfl) rfl tb_UpRiverModel_skips (s_UpRiverModel_skips e2822) ?_
            obtain ⟨g2823, h⟩ := am_if_some h
            by_cases c2824 : x5 = 0
            · rw [if_pos c2824] at h
              refine am_r_f (show am_stepn X T_UpRiverModel_barge 3 true (55, [(0, am_pv 65), (1, am_iv x1), (2, am_iv x2), (3, am_iv x3), (4, am_iv x4), (5, am_iv x5)], [am_iv q2821.1], am_SH, (q2821.2, K, am_RF b)) = some ((decide (am_i32 x5) && true), .inl (bif am_cb .ne x5 0 then 68 else 61, [(0, am_pv 65), (1, am_iv x1), (2, am_iv x2), (3, am_iv x3), (4, am_iv x4), (5, am_iv x5)], [], am_SH, (q2821.2, K, am_RF b))) from rfl) (am_g1 g2823 rfl) (am_nd_t c2824) ?_
              obtain rfl := Option.some.inj h
              exact am_r_ret (show am_stepn X T_UpRiverModel_barge 4 true (61, [(0, am_pv 65), (1, am_iv x1), (2, am_iv x2), (3, am_iv x3), (4, am_iv x4), (5, am_iv x5)], [], am_SH, (q2821.2, K, am_RF b)) = some (true, .inr (.inr (some (am_iv (q2821.2 65 36)), am_SH, (q2821.2, K, am_RF b)))) from rfl) rfl
            · rw [if_neg c2824] at h
              refine am_r_t (show am_stepn X T_UpRiverModel_barge 3 true (55, [(0, am_pv 65), (1, am_iv x1), (2, am_iv x2), (3, am_iv x3), (4, am_iv x4), (5, am_iv x5)], [am_iv q2821.1], am_SH, (q2821.2, K, am_RF b)) = some ((decide (am_i32 x5) && true), .inl (bif am_cb .ne x5 0 then 68 else 61, [(0, am_pv 65), (1, am_iv x1), (2, am_iv x2), (3, am_iv x3), (4, am_iv x4), (5, am_iv x5)], [], am_SH, (q2821.2, K, am_RF b))) from rfl) (am_g1 g2823 rfl) (am_nd_f c2824) ?_
              obtain rfl := Option.some.inj h
              exact am_r_ret (show am_stepn X T_UpRiverModel_barge 3 true (68, [(0, am_pv 65), (1, am_iv x1), (2, am_iv x2), (3, am_iv x3), (4, am_iv x4), (5, am_iv x5)], [], am_SH, (q2821.2, K, am_RF b)) = some (true, .inr (.inr (some (am_iv (q2821.2 65 37)), am_SH, (q2821.2, K, am_RF b)))) from rfl) rfl
          · rw [if_neg c2820] at h
            refine am_r_f (show am_stepn X T_UpRiverModel_barge 1 true (40, [(0, am_pv 65), (1, am_iv x1), (2, am_iv x2), (3, am_iv x3), (4, am_iv x4), (5, am_iv x5)], [am_iv q2817], am_SH, (J, K, am_RF b)) = some ((decide (am_i32 q2817) && true), .inl (bif am_cb .eq q2817 0 then 46 else 43, [(0, am_pv 65), (1, am_iv x1), (2, am_iv x2), (3, am_iv x3), (4, am_iv x4), (5, am_iv x5)], [], am_SH, (J, K, am_RF b))) from rfl) (am_g1 g2819 rfl) (decide_eq_false c2820) ?_
            obtain rfl := Option.some.inj h
            exact am_r_ret (show am_stepn X T_UpRiverModel_barge 2 true (43, [(0, am_pv 65), (1, am_iv x1), (2, am_iv x2), (3, am_iv x3), (4, am_iv x4), (5, am_iv x5)], [], am_SH, (J, K, am_RF b)) = some (true, .inr (.inr (some (am_iv (-2)), am_SH, (J, K, am_RF b)))) from rfl) rfl
theorem s_UpRiverModel_copies_L2 {X : am_X} {b : Bool} {K : am_K}  : ∀ (n : Nat) (x1 : Int) (x2 : Int) (x3 : Int) (J : am_J) (r : am_J), f_UpRiverModel_copies_L2   n x1 x2 x3 J = some r → am_runs X T_UpRiverModel_copies (2, [(0, am_pv 65), (1, am_iv x1), (2, am_iv x2), (3, am_iv x3)], [], am_SH, (J, K, am_RF b)) (none, am_SH, (r, K, am_RF b)) := by
  intro n
  induction n with
  | zero =>
    intro x1 x2 x3 J r h
    cases h
  | succ n ih =>
    intro x1 x2 x3 J r h
    rw [f_UpRiverModel_copies_L2.eq_2] at h
    obtain ⟨g2825, h⟩ := am_if_some h
    by_cases c2826 : x3 < 72
    · rw [if_pos c2826] at h
      refine am_r_f (show am_stepn X T_UpRiverModel_copies 3 true (2, [(0, am_pv 65), (1, am_iv x1), (2, am_iv x2), (3, am_iv x3)], [], am_SH, (J, K, am_RF b)) = some (((decide (am_i32 72) && decide (am_i32 x3)) && true), .inl (bif am_cb .ge x3 72 then 30 else 8, [(0, am_pv 65), (1, am_iv x1), (2, am_iv x2), (3, am_iv x3)], [], am_SH, (J, K, am_RF b))) from rfl) (am_g2 (by decide) g2825 rfl) (am_nd_t c2826) ?_
      obtain ⟨g2827, h⟩ := am_if_some h
      obtain ⟨g2828, h⟩ := am_if_some h
      refine am_r_go (show am_stepn X T_UpRiverModel_copies 14 true (8, [(0, am_pv 65), (1, am_iv x1), (2, am_iv x2), (3, am_iv x3)], [], am_SH, (J, K, am_RF b)) = some ((am_in (x1 + x3) 216 && (am_in (x2 + x3) 216 && true)), .inl (2, [(0, am_pv 65), (1, am_iv x1), (2, am_iv x2), (3, am_iv (x3 + 1))], [], am_SH, ((am_up J 68 ((x1 + x3).toNat) (J 68 ((x2 + x3).toNat))), K, am_RF b))) from rfl) (am_gi g2828 (am_gi g2827 rfl)) ?_
      exact ih _ _ _ _ _ h
    · rw [if_neg c2826] at h
      refine am_r_t (show am_stepn X T_UpRiverModel_copies 3 true (2, [(0, am_pv 65), (1, am_iv x1), (2, am_iv x2), (3, am_iv x3)], [], am_SH, (J, K, am_RF b)) = some (((decide (am_i32 72) && decide (am_i32 x3)) && true), .inl (bif am_cb .ge x3 72 then 30 else 8, [(0, am_pv 65), (1, am_iv x1), (2, am_iv x2), (3, am_iv x3)], [], am_SH, (J, K, am_RF b))) from rfl) (am_g2 (by decide) g2825 rfl) (am_nd_f c2826) ?_
      obtain rfl := Option.some.inj h
      exact am_r_ret (show am_stepn X T_UpRiverModel_copies 1 true (30, [(0, am_pv 65), (1, am_iv x1), (2, am_iv x2), (3, am_iv x3)], [], am_SH, (J, K, am_RF b)) = some (true, .inr (.inr (none, am_SH, (J, K, am_RF b)))) from rfl) rfl
theorem s_UpRiverModel_copies {X : am_X} {b : Bool} {K : am_K} {x1 : Int} {x2 : Int} {J : am_J} {r : am_J} (h : f_UpRiverModel_copies  x1 x2 J = some r) : am_runs X T_UpRiverModel_copies (0, [(0, am_pv 65), (1, am_iv x1), (2, am_iv x2)], [], am_SH, (J, K, am_RF b)) (none, am_SH, (r, K, am_RF b)) := by
  unfold f_UpRiverModel_copies at h
  refine am_r_go (show am_stepn X T_UpRiverModel_copies 2 true (0, [(0, am_pv 65), (1, am_iv x1), (2, am_iv x2)], [], am_SH, (J, K, am_RF b)) = some (true, .inl (2, [(0, am_pv 65), (1, am_iv x1), (2, am_iv x2), (3, am_iv 0)], [], am_SH, (J, K, am_RF b))) from rfl) rfl ?_
  exact s_UpRiverModel_copies_L2  _ _ _ _ _ _ h
theorem s_UpRiverModel_keep {X : am_X} {b : Bool} {K : am_K} {x1 : Int} {J : am_J} {r : Int × am_J} (h : f_UpRiverModel_keep  x1 J = some r) : am_runs X T_UpRiverModel_keep (0, [(0, am_pv 65), (1, am_iv x1)], [], am_SH, (J, K, am_RF b)) (some (am_iv r.1), am_SH, (r.2, K, am_RF b)) := by
  unfold f_UpRiverModel_keep at h
  obtain ⟨q2829, e2830, h⟩ := am_bind_some h
  refine am_r_call (show am_stepn X T_UpRiverModel_keep 5 true (0, [(0, am_pv 65), (1, am_iv x1)], [], am_SH, (J, K, am_RF b)) = some (true, .inr (.inl (150, [am_jv (am_i2l x1), am_jv (0 : Int64), am_jv (1 : Int64)], 6, 0, 0, 7, [(0, am_pv 65), (1, am_iv x1)], [], am_SH, (J, K, am_RF b)))) from rfl) rfl tb_UpRiverModel_in (s_UpRiverModel_in e2830) ?_
  obtain ⟨g2831, h⟩ := am_if_some h
  by_cases c2832 : q2829 = 0
  · rw [if_pos c2832] at h
    refine am_r_f (show am_stepn X T_UpRiverModel_keep 1 true (7, [(0, am_pv 65), (1, am_iv x1)], [am_iv q2829], am_SH, (J, K, am_RF b)) = some ((decide (am_i32 q2829) && true), .inl (bif am_cb .ne q2829 0 then 12 else 10, [(0, am_pv 65), (1, am_iv x1)], [], am_SH, (J, K, am_RF b))) from rfl) (am_g1 g2831 rfl) (am_nd_t c2832) ?_
    obtain rfl := Option.some.inj h
    exact am_r_ret (show am_stepn X T_UpRiverModel_keep 2 true (10, [(0, am_pv 65), (1, am_iv x1)], [], am_SH, (J, K, am_RF b)) = some (true, .inr (.inr (some (am_iv (-1)), am_SH, (J, K, am_RF b)))) from rfl) rfl
  · rw [if_neg c2832] at h
    refine am_r_t (show am_stepn X T_UpRiverModel_keep 1 true (7, [(0, am_pv 65), (1, am_iv x1)], [am_iv q2829], am_SH, (J, K, am_RF b)) = some ((decide (am_i32 q2829) && true), .inl (bif am_cb .ne q2829 0 then 12 else 10, [(0, am_pv 65), (1, am_iv x1)], [], am_SH, (J, K, am_RF b))) from rfl) (am_g1 g2831 rfl) (am_nd_f c2832) ?_
    obtain ⟨g2833, h⟩ := am_if_some h
    obtain ⟨q2834, e2835, h⟩ := am_bind_some h
    refine am_r_call (show am_stepn X T_UpRiverModel_keep 5 true (12, [(0, am_pv 65), (1, am_iv x1)], [], am_SH, (J, K, am_RF b)) = some ((am_in x1 2 && true), .inr (.inl (195, [am_iv (J 69 x1.toNat)], 1, 0, 0, 21, [(0, am_pv 65), (1, am_iv x1)], [], am_SH, (J, K, am_RF b)))) from rfl) (am_gi g2833 rfl) tb_UpRiverModel_flag (s_UpRiverModel_flag e2835) ?_
    obtain ⟨q2836, e2837, h⟩ := am_bind_some h
    refine am_r_call (show am_stepn X T_UpRiverModel_keep 14 true (21, [(0, am_pv 65), (1, am_iv x1)], [am_iv q2834], am_SH, (J, K, am_RF b)) = some (((decide ((1 : Int) = 0 ∨ (1 : Int) = 1) && am_in x1 2) && true), .inr (.inl (241, [am_pv 65, am_iv (72 * (x1 + 1)), am_iv 0], 4, 0, 0, 40, [(0, am_pv 65), (1, am_iv x1), (2, am_iv q2834)], [], am_SH, ((am_up J 69 x1.toNat 1), K, am_RF b)))) from rfl) (am_gz (by decide) g2833 rfl) tb_UpRiverModel_copies (s_UpRiverModel_copies e2837) ?_
    obtain rfl := Option.some.inj h
    exact am_r_ret (show am_stepn X T_UpRiverModel_keep 2 true (40, [(0, am_pv 65), (1, am_iv x1), (2, am_iv q2834)], [], am_SH, (q2836, K, am_RF b)) = some (true, .inr (.inr (some (am_iv q2834), am_SH, (q2836, K, am_RF b)))) from rfl) rfl
theorem s_UpRiverModel_back {X : am_X} {b : Bool} {K : am_K} {x1 : Int} {J : am_J} {r : Int × am_J} (h : f_UpRiverModel_back  x1 J = some r) : am_runs X T_UpRiverModel_back (0, [(0, am_pv 65), (1, am_iv x1)], [], am_SH, (J, K, am_RF b)) (some (am_iv r.1), am_SH, (r.2, K, am_RF b)) := by
  unfold f_UpRiverModel_back at h
  obtain ⟨q2838, e2839, h⟩ := am_bind_some h
  refine am_r_call (show am_stepn X T_UpRiverModel_back 5 true (0, [(0, am_pv 65), (1, am_iv x1)], [], am_SH, (J, K, am_RF b)) = some (true, .inr (.inl (150, [am_jv (am_i2l x1), am_jv (0 : Int64), am_jv (1 : Int64)], 6, 0, 0, 7, [(0, am_pv 65), (1, am_iv x1)], [], am_SH, (J, K, am_RF b)))) from rfl) rfl tb_UpRiverModel_in (s_UpRiverModel_in e2839) ?_
  obtain ⟨g2840, h⟩ := am_if_some h
  by_cases c2841 : q2838 = 0
  · rw [if_pos c2841] at h
    refine am_r_f (show am_stepn X T_UpRiverModel_back 1 true (7, [(0, am_pv 65), (1, am_iv x1)], [am_iv q2838], am_SH, (J, K, am_RF b)) = some ((decide (am_i32 q2838) && true), .inl (bif am_cb .ne q2838 0 then 12 else 10, [(0, am_pv 65), (1, am_iv x1)], [], am_SH, (J, K, am_RF b))) from rfl) (am_g1 g2840 rfl) (am_nd_t c2841) ?_
    obtain rfl := Option.some.inj h
    exact am_r_ret (show am_stepn X T_UpRiverModel_back 2 true (10, [(0, am_pv 65), (1, am_iv x1)], [], am_SH, (J, K, am_RF b)) = some (true, .inr (.inr (some (am_iv (-1)), am_SH, (J, K, am_RF b)))) from rfl) rfl
  · rw [if_neg c2841] at h
    refine am_r_t (show am_stepn X T_UpRiverModel_back 1 true (7, [(0, am_pv 65), (1, am_iv x1)], [am_iv q2838], am_SH, (J, K, am_RF b)) = some ((decide (am_i32 q2838) && true), .inl (bif am_cb .ne q2838 0 then 12 else 10, [(0, am_pv 65), (1, am_iv x1)], [], am_SH, (J, K, am_RF b))) from rfl) (am_g1 g2840 rfl) (am_nd_f c2841) ?_
    obtain ⟨g2842, h⟩ := am_if_some h
    obtain ⟨g2843, h⟩ := am_if_some h
    by_cases c2844 : (J 69 x1.toNat) = 0
    · rw [if_pos c2844] at h
      refine am_r_f (show am_stepn X T_UpRiverModel_back 5 true (12, [(0, am_pv 65), (1, am_iv x1)], [], am_SH, (J, K, am_RF b)) = some ((decide (am_i32 (J 69 x1.toNat)) && (am_in x1 2 && true)), .inl (bif am_cb .ne (J 69 x1.toNat) 0 then 24 else 21, [(0, am_pv 65), (1, am_iv x1)], [], am_SH, (J, K, am_RF b))) from rfl) (am_g1 g2843 (am_gi g2842 rfl)) (am_nd_t c2844) ?_
      obtain rfl := Option.some.inj h
      exact am_r_ret (show am_stepn X T_UpRiverModel_back 2 true (21, [(0, am_pv 65), (1, am_iv x1)], [], am_SH, (J, K, am_RF b)) = some (true, .inr (.inr (some (am_iv (-2)), am_SH, (J, K, am_RF b)))) from rfl) rfl
    · rw [if_neg c2844] at h
      refine am_r_t (show am_stepn X T_UpRiverModel_back 5 true (12, [(0, am_pv 65), (1, am_iv x1)], [], am_SH, (J, K, am_RF b)) = some ((decide (am_i32 (J 69 x1.toNat)) && (am_in x1 2 && true)), .inl (bif am_cb .ne (J 69 x1.toNat) 0 then 24 else 21, [(0, am_pv 65), (1, am_iv x1)], [], am_SH, (J, K, am_RF b))) from rfl) (am_g1 g2843 (am_gi g2842 rfl)) (am_nd_f c2844) ?_
      obtain ⟨q2845, e2846, h⟩ := am_bind_some h
      refine am_r_call (show am_stepn X T_UpRiverModel_back 8 true (24, [(0, am_pv 65), (1, am_iv x1)], [], am_SH, (J, K, am_RF b)) = some (true, .inr (.inl (241, [am_pv 65, am_iv 0, am_iv (72 * (x1 + 1))], 4, 0, 0, 35, [(0, am_pv 65), (1, am_iv x1)], [], am_SH, (J, K, am_RF b)))) from rfl) rfl tb_UpRiverModel_copies (s_UpRiverModel_copies e2846) ?_
      obtain rfl := Option.some.inj h
      exact am_r_ret (show am_stepn X T_UpRiverModel_back 5 true (35, [(0, am_pv 65), (1, am_iv x1)], [], am_SH, (q2845, K, am_RF b)) = some ((am_in 0 216 && true), .inr (.inr (some (am_iv (q2845 68 0)), am_SH, (q2845, K, am_RF b)))) from rfl) (am_gi (by decide) rfl)
theorem s_UpRiverModel_isSheet {X : am_X} {b : Bool} {J : am_J} {K : am_K} {x0 : Int} {x1 : Int} {r : Int} (h : f_UpRiverModel_isSheet  x0 x1 = some r) : am_runs X T_UpRiverModel_isSheet (0, [(0, am_iv x0), (1, am_iv x1)], [], am_SH, (J, K, am_RF b)) (some (am_iv r), am_SH, (J, K, am_RF b)) := by
  unfold f_UpRiverModel_isSheet at h
  obtain ⟨q2847, e2848, h⟩ := am_bind_some h
  refine am_r_call (show am_stepn X T_UpRiverModel_isSheet 5 true (0, [(0, am_iv x0), (1, am_iv x1)], [], am_SH, (J, K, am_RF b)) = some (true, .inr (.inl (150, [am_jv (am_i2l x0), am_jv (0 : Int64), am_jv (3 : Int64)], 6, 0, 0, 9, [(0, am_iv x0), (1, am_iv x1)], [], am_SH, (J, K, am_RF b)))) from rfl) rfl tb_UpRiverModel_in (s_UpRiverModel_in e2848) ?_
  obtain ⟨g2849, h⟩ := am_if_some h
  by_cases c2850 : q2847 = 0
  · rw [if_pos c2850] at h
    refine am_r_t (show am_stepn X T_UpRiverModel_isSheet 1 true (9, [(0, am_iv x0), (1, am_iv x1)], [am_iv q2847], am_SH, (J, K, am_RF b)) = some ((decide (am_i32 q2847) && true), .inl (bif am_cb .eq q2847 0 then 28 else 12, [(0, am_iv x0), (1, am_iv x1)], [], am_SH, (J, K, am_RF b))) from rfl) (am_g1 g2849 rfl) (decide_eq_true c2850) ?_
    obtain rfl := Option.some.inj h
    exact am_r_ret (show am_stepn X T_UpRiverModel_isSheet 2 true (28, [(0, am_iv x0), (1, am_iv x1)], [], am_SH, (J, K, am_RF b)) = some ((decide ((0 : Int) = 0 ∨ (0 : Int) = 1) && true), .inr (.inr (some (am_iv 0), am_SH, (J, K, am_RF b)))) from rfl) (am_g1 (by decide) rfl)
  · rw [if_neg c2850] at h
    refine am_r_f (show am_stepn X T_UpRiverModel_isSheet 1 true (9, [(0, am_iv x0), (1, am_iv x1)], [am_iv q2847], am_SH, (J, K, am_RF b)) = some ((decide (am_i32 q2847) && true), .inl (bif am_cb .eq q2847 0 then 28 else 12, [(0, am_iv x0), (1, am_iv x1)], [], am_SH, (J, K, am_RF b))) from rfl) (am_g1 g2849 rfl) (decide_eq_false c2850) ?_
    obtain ⟨q2851, e2852, h⟩ := am_bind_some h
    refine am_r_call (show am_stepn X T_UpRiverModel_isSheet 5 true (12, [(0, am_iv x0), (1, am_iv x1)], [], am_SH, (J, K, am_RF b)) = some (true, .inr (.inl (150, [am_jv (am_i2l x1), am_jv (0 : Int64), am_jv (2 : Int64)], 6, 0, 0, 21, [(1, am_iv x1)], [], am_SH, (J, K, am_RF b)))) from rfl) rfl tb_UpRiverModel_in (s_UpRiverModel_in e2852) ?_
    obtain ⟨g2853, h⟩ := am_if_some h
    by_cases c2854 : q2851 = 0
    · rw [if_pos c2854] at h
      refine am_r_t (show am_stepn X T_UpRiverModel_isSheet 1 true (21, [(1, am_iv x1)], [am_iv q2851], am_SH, (J, K, am_RF b)) = some ((decide (am_i32 q2851) && true), .inl (bif am_cb .eq q2851 0 then 28 else 24, [(1, am_iv x1)], [], am_SH, (J, K, am_RF b))) from rfl) (am_g1 g2853 rfl) (decide_eq_true c2854) ?_
      obtain rfl := Option.some.inj h
      exact am_r_ret (show am_stepn X T_UpRiverModel_isSheet 2 true (28, [(1, am_iv x1)], [], am_SH, (J, K, am_RF b)) = some ((decide ((0 : Int) = 0 ∨ (0 : Int) = 1) && true), .inr (.inr (some (am_iv 0), am_SH, (J, K, am_RF b)))) from rfl) (am_g1 (by decide) rfl)
    · rw [if_neg c2854] at h
      refine am_r_f (show am_stepn X T_UpRiverModel_isSheet 1 true (21, [(1, am_iv x1)], [am_iv q2851], am_SH, (J, K, am_RF b)) = some ((decide (am_i32 q2851) && true), .inl (bif am_cb .eq q2851 0 then 28 else 24, [(1, am_iv x1)], [], am_SH, (J, K, am_RF b))) from rfl) (am_g1 g2853 rfl) (decide_eq_false c2854) ?_
      obtain rfl := Option.some.inj h
      exact am_r_ret (show am_stepn X T_UpRiverModel_isSheet 3 true (24, [(1, am_iv x1)], [], am_SH, (J, K, am_RF b)) = some ((decide ((1 : Int) = 0 ∨ (1 : Int) = 1) && true), .inr (.inr (some (am_iv 1), am_SH, (J, K, am_RF b)))) from rfl) (am_g1 (by decide) rfl)
theorem s_UpRiverModel_sheet_L40 {X : am_X} {b : Bool} {K : am_K}  : ∀ (n : Nat) (x1 : Int) (x4 : Int) (J : am_J) (r : Int × am_J), f_UpRiverModel_sheet_L40   n x1 x4 J = some r → am_runs X T_UpRiverModel_sheet (40, [(0, am_pv 65), (1, am_iv x1), (4, am_iv x4)], [], am_SH, (J, K, am_RF b)) (some (am_iv r.1), am_SH, (r.2, K, am_RF b)) := by
  intro n
  induction n with
  | zero =>
    intro x1 x4 J r h
    cases h
  | succ n ih =>
    intro x1 x4 J r h
    rw [f_UpRiverModel_sheet_L40.eq_2] at h
    obtain ⟨g2855, h⟩ := am_if_some h
    by_cases c2856 : x4 < 40
    · rw [if_pos c2856] at h
      refine am_r_f (show am_stepn X T_UpRiverModel_sheet 3 true (40, [(0, am_pv 65), (1, am_iv x1), (4, am_iv x4)], [], am_SH, (J, K, am_RF b)) = some (((decide (am_i32 40) && decide (am_i32 x4)) && true), .inl (bif am_cb .ge x4 40 then 66 else 47, [(0, am_pv 65), (1, am_iv x1), (4, am_iv x4)], [], am_SH, (J, K, am_RF b))) from rfl) (am_g2 (by decide) g2855 rfl) (am_nd_t c2856) ?_
      obtain ⟨g2857, h⟩ := am_if_some h
      refine am_r_go (show am_stepn X T_UpRiverModel_sheet 11 true (47, [(0, am_pv 65), (1, am_iv x1), (4, am_iv x4)], [], am_SH, (J, K, am_RF b)) = some ((am_in ((40 * x1) + x4) 160 && true), .inl (40, [(0, am_pv 65), (1, am_iv x1), (4, am_iv (x4 + 1))], [], am_SH, ((am_up J 77 (((40 * x1) + x4).toNat) 0), K, am_RF b))) from rfl) (am_gi g2857 rfl) ?_
      exact ih _ _ _ _ h
    · rw [if_neg c2856] at h
      refine am_r_t (show am_stepn X T_UpRiverModel_sheet 3 true (40, [(0, am_pv 65), (1, am_iv x1), (4, am_iv x4)], [], am_SH, (J, K, am_RF b)) = some (((decide (am_i32 40) && decide (am_i32 x4)) && true), .inl (bif am_cb .ge x4 40 then 66 else 47, [(0, am_pv 65), (1, am_iv x1), (4, am_iv x4)], [], am_SH, (J, K, am_RF b))) from rfl) (am_g2 (by decide) g2855 rfl) (am_nd_f c2856) ?_
      obtain rfl := Option.some.inj h
      exact am_r_ret (show am_stepn X T_UpRiverModel_sheet 2 true (66, [(0, am_pv 65), (1, am_iv x1), (4, am_iv x4)], [], am_SH, (J, K, am_RF b)) = some (true, .inr (.inr (some (am_iv 1), am_SH, (J, K, am_RF b)))) from rfl) rfl
theorem s_UpRiverModel_sheet {X : am_X} {b : Bool} {K : am_K} {x1 : Int} {x2 : Int} {x3 : Int} {J : am_J} {r : Int × am_J} (h : f_UpRiverModel_sheet  x1 x2 x3 J = some r) : am_runs X T_UpRiverModel_sheet (0, [(0, am_pv 65), (1, am_iv x1), (2, am_iv x2), (3, am_iv x3)], [], am_SH, (J, K, am_RF b)) (some (am_iv r.1), am_SH, (r.2, K, am_RF b)) := by
  unfold f_UpRiverModel_sheet at h
  obtain ⟨q2858, e2859, h⟩ := am_bind_some h
  refine am_r_call (show am_stepn X T_UpRiverModel_sheet 3 true (0, [(0, am_pv 65), (1, am_iv x1), (2, am_iv x2), (3, am_iv x3)], [], am_SH, (J, K, am_RF b)) = some (true, .inr (.inl (244, [am_iv x1, am_iv x2], 2, 0, 0, 5, [(0, am_pv 65), (1, am_iv x1), (2, am_iv x2), (3, am_iv x3)], [], am_SH, (J, K, am_RF b)))) from rfl) rfl tb_UpRiverModel_isSheet (s_UpRiverModel_isSheet e2859) ?_
  obtain ⟨g2860, h⟩ := am_if_some h
  by_cases c2861 : q2858 = 0
  · rw [if_pos c2861] at h
    refine am_r_t (show am_stepn X T_UpRiverModel_sheet 1 true (5, [(0, am_pv 65), (1, am_iv x1), (2, am_iv x2), (3, am_iv x3)], [am_iv q2858], am_SH, (J, K, am_RF b)) = some ((decide (am_i32 q2858) && true), .inl (bif am_cb .eq q2858 0 then 14 else 8, [(0, am_pv 65), (1, am_iv x1), (2, am_iv x2), (3, am_iv x3)], [], am_SH, (J, K, am_RF b))) from rfl) (am_g1 g2860 rfl) (decide_eq_true c2861) ?_
    obtain rfl := Option.some.inj h
    exact am_r_ret (show am_stepn X T_UpRiverModel_sheet 2 true (14, [(0, am_pv 65), (1, am_iv x1), (2, am_iv x2), (3, am_iv x3)], [], am_SH, (J, K, am_RF b)) = some (true, .inr (.inr (some (am_iv (-1)), am_SH, (J, K, am_RF b)))) from rfl) rfl
  · rw [if_neg c2861] at h
    refine am_r_f (show am_stepn X T_UpRiverModel_sheet 1 true (5, [(0, am_pv 65), (1, am_iv x1), (2, am_iv x2), (3, am_iv x3)], [am_iv q2858], am_SH, (J, K, am_RF b)) = some ((decide (am_i32 q2858) && true), .inl (bif am_cb .eq q2858 0 then 14 else 8, [(0, am_pv 65), (1, am_iv x1), (2, am_iv x2), (3, am_iv x3)], [], am_SH, (J, K, am_RF b))) from rfl) (am_g1 g2860 rfl) (decide_eq_false c2861) ?_
    obtain ⟨g2862, h⟩ := am_if_some h
    by_cases c2863 : 40 < x3
    · rw [if_pos c2863] at h
      refine am_r_f (show am_stepn X T_UpRiverModel_sheet 3 true (8, [(0, am_pv 65), (1, am_iv x1), (2, am_iv x2), (3, am_iv x3)], [], am_SH, (J, K, am_RF b)) = some (((decide (am_i32 40) && decide (am_i32 x3)) && true), .inl (bif am_cb .le x3 40 then 16 else 14, [(0, am_pv 65), (1, am_iv x1), (2, am_iv x2), (3, am_iv x3)], [], am_SH, (J, K, am_RF b))) from rfl) (am_g2 (by decide) g2862 rfl) (am_nd_t c2863) ?_
      obtain rfl := Option.some.inj h
      exact am_r_ret (show am_stepn X T_UpRiverModel_sheet 2 true (14, [(0, am_pv 65), (1, am_iv x1), (2, am_iv x2), (3, am_iv x3)], [], am_SH, (J, K, am_RF b)) = some (true, .inr (.inr (some (am_iv (-1)), am_SH, (J, K, am_RF b)))) from rfl) rfl
    · rw [if_neg c2863] at h
      refine am_r_t (show am_stepn X T_UpRiverModel_sheet 3 true (8, [(0, am_pv 65), (1, am_iv x1), (2, am_iv x2), (3, am_iv x3)], [], am_SH, (J, K, am_RF b)) = some (((decide (am_i32 40) && decide (am_i32 x3)) && true), .inl (bif am_cb .le x3 40 then 16 else 14, [(0, am_pv 65), (1, am_iv x1), (2, am_iv x2), (3, am_iv x3)], [], am_SH, (J, K, am_RF b))) from rfl) (am_g2 (by decide) g2862 rfl) (am_nd_f c2863) ?_
      by_cases c2864 : x3 < 0
      · rw [if_pos c2864] at h
        refine am_r_f (show am_stepn X T_UpRiverModel_sheet 2 true (16, [(0, am_pv 65), (1, am_iv x1), (2, am_iv x2), (3, am_iv x3)], [], am_SH, (J, K, am_RF b)) = some ((decide (am_i32 x3) && true), .inl (bif am_cb .ge x3 0 then 23 else 20, [(0, am_pv 65), (1, am_iv x1), (2, am_iv x2), (3, am_iv x3)], [], am_SH, (J, K, am_RF b))) from rfl) (am_g1 g2862 rfl) (am_nd_t c2864) ?_
        obtain rfl := Option.some.inj h
        exact am_r_ret (show am_stepn X T_UpRiverModel_sheet 2 true (20, [(0, am_pv 65), (1, am_iv x1), (2, am_iv x2), (3, am_iv x3)], [], am_SH, (J, K, am_RF b)) = some (true, .inr (.inr (some (am_iv (-14)), am_SH, (J, K, am_RF b)))) from rfl) rfl
      · rw [if_neg c2864] at h
        refine am_r_t (show am_stepn X T_UpRiverModel_sheet 2 true (16, [(0, am_pv 65), (1, am_iv x1), (2, am_iv x2), (3, am_iv x3)], [], am_SH, (J, K, am_RF b)) = some ((decide (am_i32 x3) && true), .inl (bif am_cb .ge x3 0 then 23 else 20, [(0, am_pv 65), (1, am_iv x1), (2, am_iv x2), (3, am_iv x3)], [], am_SH, (J, K, am_RF b))) from rfl) (am_g1 g2862 rfl) (am_nd_f c2864) ?_
        obtain ⟨g2865, h⟩ := am_if_some h
        refine am_r_go (show am_stepn X T_UpRiverModel_sheet 12 true (23, [(0, am_pv 65), (1, am_iv x1), (2, am_iv x2), (3, am_iv x3)], [], am_SH, (J, K, am_RF b)) = some ((am_in x1 4 && (am_in x1 4 && true)), .inl (40, [(0, am_pv 65), (1, am_iv x1), (2, am_iv x2), (3, am_iv x3), (4, am_iv 0)], [], am_SH, ((am_up (am_up J 75 x1.toNat x2) 76 x1.toNat x3), K, am_RF b))) from rfl) (am_gi g2865 (am_gi g2865 rfl)) ?_
        refine am_r_eq (σ' := (40, [(0, am_pv 65), (1, am_iv x1), (4, am_iv 0)], [], am_SH, ((am_up (am_up J 75 x1.toNat x2) 76 x1.toNat x3), K, am_RF b))) rfl ?_
        exact s_UpRiverModel_sheet_L40  _ _ _ _ _ h
theorem s_UpRiverModel_lay {X : am_X} {b : Bool} {K : am_K} {x1 : Int} {x2 : Int} {x3 : Int} {J : am_J} {r : Int × am_J} (h : f_UpRiverModel_lay  x1 x2 x3 J = some r) : am_runs X T_UpRiverModel_lay (0, [(0, am_pv 65), (1, am_iv x1), (2, am_iv x2), (3, am_iv x3)], [], am_SH, (J, K, am_RF b)) (some (am_iv r.1), am_SH, (r.2, K, am_RF b)) := by
  unfold f_UpRiverModel_lay at h
  obtain ⟨q2866, e2867, h⟩ := am_bind_some h
  refine am_r_call (show am_stepn X T_UpRiverModel_lay 3 true (0, [(0, am_pv 65), (1, am_iv x1), (2, am_iv x2), (3, am_iv x3)], [], am_SH, (J, K, am_RF b)) = some (true, .inr (.inl (244, [am_iv x1, am_iv 0], 2, 0, 0, 5, [(0, am_pv 65), (1, am_iv x1), (2, am_iv x2), (3, am_iv x3)], [], am_SH, (J, K, am_RF b)))) from rfl) rfl tb_UpRiverModel_isSheet (s_UpRiverModel_isSheet e2867) ?_
  obtain ⟨g2868, h⟩ := am_if_some h
  by_cases c2869 : q2866 = 0
  · rw [if_pos c2869] at h
    refine am_r_f (show am_stepn X T_UpRiverModel_lay 1 true (5, [(0, am_pv 65), (1, am_iv x1), (2, am_iv x2), (3, am_iv x3)], [am_iv q2866], am_SH, (J, K, am_RF b)) = some ((decide (am_i32 q2866) && true), .inl (bif am_cb .ne q2866 0 then 10 else 8, [(0, am_pv 65), (1, am_iv x1), (2, am_iv x2), (3, am_iv x3)], [], am_SH, (J, K, am_RF b))) from rfl) (am_g1 g2868 rfl) (am_nd_t c2869) ?_
    obtain rfl := Option.some.inj h
    exact am_r_ret (show am_stepn X T_UpRiverModel_lay 2 true (8, [(0, am_pv 65), (1, am_iv x1), (2, am_iv x2), (3, am_iv x3)], [], am_SH, (J, K, am_RF b)) = some (true, .inr (.inr (some (am_iv (-1)), am_SH, (J, K, am_RF b)))) from rfl) rfl
  · rw [if_neg c2869] at h
    refine am_r_t (show am_stepn X T_UpRiverModel_lay 1 true (5, [(0, am_pv 65), (1, am_iv x1), (2, am_iv x2), (3, am_iv x3)], [am_iv q2866], am_SH, (J, K, am_RF b)) = some ((decide (am_i32 q2866) && true), .inl (bif am_cb .ne q2866 0 then 10 else 8, [(0, am_pv 65), (1, am_iv x1), (2, am_iv x2), (3, am_iv x3)], [], am_SH, (J, K, am_RF b))) from rfl) (am_g1 g2868 rfl) (am_nd_f c2869) ?_
    obtain ⟨g2870, h⟩ := am_if_some h
    obtain ⟨g2871, h⟩ := am_if_some h
    by_cases c2872 : (J 75 x1.toNat) = (-4)
    · rw [if_pos c2872] at h
      refine am_r_f (show am_stepn X T_UpRiverModel_lay 6 true (10, [(0, am_pv 65), (1, am_iv x1), (2, am_iv x2), (3, am_iv x3)], [], am_SH, (J, K, am_RF b)) = some (((decide (am_i32 (-4)) && decide (am_i32 (J 75 x1.toNat))) && (am_in x1 4 && true)), .inl (bif am_cb .ne (J 75 x1.toNat) (-4) then 24 else 21, [(0, am_pv 65), (1, am_iv x1), (2, am_iv x2), (3, am_iv x3)], [], am_SH, (J, K, am_RF b))) from rfl) (am_g2 (by decide) g2871 (am_gi g2870 rfl)) (am_nd_t c2872) ?_
      obtain rfl := Option.some.inj h
      exact am_r_ret (show am_stepn X T_UpRiverModel_lay 2 true (21, [(0, am_pv 65), (1, am_iv x1), (2, am_iv x2), (3, am_iv x3)], [], am_SH, (J, K, am_RF b)) = some (true, .inr (.inr (some (am_iv (-11)), am_SH, (J, K, am_RF b)))) from rfl) rfl
    · rw [if_neg c2872] at h
      refine am_r_t (show am_stepn X T_UpRiverModel_lay 6 true (10, [(0, am_pv 65), (1, am_iv x1), (2, am_iv x2), (3, am_iv x3)], [], am_SH, (J, K, am_RF b)) = some (((decide (am_i32 (-4)) && decide (am_i32 (J 75 x1.toNat))) && (am_in x1 4 && true)), .inl (bif am_cb .ne (J 75 x1.toNat) (-4) then 24 else 21, [(0, am_pv 65), (1, am_iv x1), (2, am_iv x2), (3, am_iv x3)], [], am_SH, (J, K, am_RF b))) from rfl) (am_g2 (by decide) g2871 (am_gi g2870 rfl)) (am_nd_f c2872) ?_
      obtain ⟨q2873, e2874, h⟩ := am_bind_some h
      refine am_r_call (show am_stepn X T_UpRiverModel_lay 11 true (24, [(0, am_pv 65), (1, am_iv x1), (2, am_iv x2), (3, am_iv x3)], [], am_SH, (J, K, am_RF b)) = some ((am_in x1 4 && true), .inr (.inl (150, [am_jv (am_i2l x2), am_jv (0 : Int64), am_jv (am_i2l ((J 76 x1.toNat) - 1))], 6, 0, 0, 39, [(0, am_pv 65), (1, am_iv x1), (2, am_iv x2), (3, am_iv x3)], [], am_SH, (J, K, am_RF b)))) from rfl) (am_gi g2870 rfl) tb_UpRiverModel_in (s_UpRiverModel_in e2874) ?_
      obtain ⟨g2875, h⟩ := am_if_some h
      by_cases c2876 : q2873 = 0
      · rw [if_pos c2876] at h
        refine am_r_f (show am_stepn X T_UpRiverModel_lay 1 true (39, [(0, am_pv 65), (1, am_iv x1), (2, am_iv x2), (3, am_iv x3)], [am_iv q2873], am_SH, (J, K, am_RF b)) = some ((decide (am_i32 q2873) && true), .inl (bif am_cb .ne q2873 0 then 45 else 42, [(0, am_pv 65), (1, am_iv x1), (2, am_iv x2), (3, am_iv x3)], [], am_SH, (J, K, am_RF b))) from rfl) (am_g1 g2875 rfl) (am_nd_t c2876) ?_
        obtain rfl := Option.some.inj h
        exact am_r_ret (show am_stepn X T_UpRiverModel_lay 2 true (42, [(0, am_pv 65), (1, am_iv x1), (2, am_iv x2), (3, am_iv x3)], [], am_SH, (J, K, am_RF b)) = some (true, .inr (.inr (some (am_iv (-12)), am_SH, (J, K, am_RF b)))) from rfl) rfl
      · rw [if_neg c2876] at h
        refine am_r_t (show am_stepn X T_UpRiverModel_lay 1 true (39, [(0, am_pv 65), (1, am_iv x1), (2, am_iv x2), (3, am_iv x3)], [am_iv q2873], am_SH, (J, K, am_RF b)) = some ((decide (am_i32 q2873) && true), .inl (bif am_cb .ne q2873 0 then 45 else 42, [(0, am_pv 65), (1, am_iv x1), (2, am_iv x2), (3, am_iv x3)], [], am_SH, (J, K, am_RF b))) from rfl) (am_g1 g2875 rfl) (am_nd_f c2876) ?_
        by_cases c2877 : (J 75 x1.toNat) = 0
        · rw [if_pos c2877] at h
          refine am_r_f (show am_stepn X T_UpRiverModel_lay 12 true (45, [(0, am_pv 65), (1, am_iv x1), (2, am_iv x2), (3, am_iv x3)], [], am_SH, (J, K, am_RF b)) = some ((decide (am_i32 (J 75 x1.toNat)) && (am_in x1 4 && true)), .inl (bif am_cb .ne (J 75 x1.toNat) 0 then 69 else 64, [(0, am_pv 65), (1, am_iv x1), (2, am_iv x2), (3, am_iv x3)], [am_iv ((40 * x1) + x2), am_pv 77], am_SH, (J, K, am_RF b))) from rfl) (am_g1 g2871 (am_gi g2870 rfl)) (am_nd_t c2877) ?_
          obtain ⟨g2878, h⟩ := am_if_some h
          obtain rfl := Option.some.inj h
          exact am_r_ret (show am_stepn X T_UpRiverModel_lay 6 true (64, [(0, am_pv 65), (1, am_iv x1), (2, am_iv x2), (3, am_iv x3)], [am_iv ((40 * x1) + x2), am_pv 77], am_SH, (J, K, am_RF b)) = some ((am_in ((40 * x1) + x2) 160 && true), .inr (.inr (some (am_iv 1), am_SH, ((am_up J 77 (((40 * x1) + x2).toNat) (am_i2b x3)), K, am_RF b)))) from rfl) (am_gi g2878 rfl)
        · rw [if_neg c2877] at h
          refine am_r_t (show am_stepn X T_UpRiverModel_lay 12 true (45, [(0, am_pv 65), (1, am_iv x1), (2, am_iv x2), (3, am_iv x3)], [], am_SH, (J, K, am_RF b)) = some ((decide (am_i32 (J 75 x1.toNat)) && (am_in x1 4 && true)), .inl (bif am_cb .ne (J 75 x1.toNat) 0 then 69 else 64, [(0, am_pv 65), (1, am_iv x1), (2, am_iv x2), (3, am_iv x3)], [am_iv ((40 * x1) + x2), am_pv 77], am_SH, (J, K, am_RF b))) from rfl) (am_g1 g2871 (am_gi g2870 rfl)) (am_nd_f c2877) ?_
          by_cases c2879 : (J 75 x1.toNat) = 1
          · rw [if_pos c2879] at h
            refine am_r_f (show am_stepn X T_UpRiverModel_lay 6 true (69, [(0, am_pv 65), (1, am_iv x1), (2, am_iv x2), (3, am_iv x3)], [am_iv ((40 * x1) + x2), am_pv 77], am_SH, (J, K, am_RF b)) = some (((decide (am_i32 1) && decide (am_i32 (J 75 x1.toNat))) && (am_in x1 4 && true)), .inl (bif am_cb .ne (J 75 x1.toNat) 1 then 84 else 79, [(0, am_pv 65), (1, am_iv x1), (3, am_iv x3)], [am_iv ((40 * x1) + x2), am_pv 77], am_SH, (J, K, am_RF b))) from rfl) (am_g2 (by decide) g2871 (am_gi g2870 rfl)) (am_nd_t c2879) ?_
            obtain ⟨g2880, h⟩ := am_if_some h
            obtain rfl := Option.some.inj h
            exact am_r_ret (show am_stepn X T_UpRiverModel_lay 6 true (79, [(0, am_pv 65), (1, am_iv x1), (3, am_iv x3)], [am_iv ((40 * x1) + x2), am_pv 77], am_SH, (J, K, am_RF b)) = some ((am_in ((40 * x1) + x2) 160 && true), .inr (.inr (some (am_iv 1), am_SH, ((am_up J 77 (((40 * x1) + x2).toNat) (am_i2s x3)), K, am_RF b)))) from rfl) (am_gi g2880 rfl)
          · rw [if_neg c2879] at h
            refine am_r_t (show am_stepn X T_UpRiverModel_lay 6 true (69, [(0, am_pv 65), (1, am_iv x1), (2, am_iv x2), (3, am_iv x3)], [am_iv ((40 * x1) + x2), am_pv 77], am_SH, (J, K, am_RF b)) = some (((decide (am_i32 1) && decide (am_i32 (J 75 x1.toNat))) && (am_in x1 4 && true)), .inl (bif am_cb .ne (J 75 x1.toNat) 1 then 84 else 79, [(0, am_pv 65), (1, am_iv x1), (3, am_iv x3)], [am_iv ((40 * x1) + x2), am_pv 77], am_SH, (J, K, am_RF b))) from rfl) (am_g2 (by decide) g2871 (am_gi g2870 rfl)) (am_nd_f c2879) ?_
            obtain ⟨g2881, h⟩ := am_if_some h
            obtain rfl := Option.some.inj h
            exact am_r_ret (show am_stepn X T_UpRiverModel_lay 4 true (84, [(0, am_pv 65), (1, am_iv x1), (3, am_iv x3)], [am_iv ((40 * x1) + x2), am_pv 77], am_SH, (J, K, am_RF b)) = some ((am_in ((40 * x1) + x2) 160 && true), .inr (.inr (some (am_iv 1), am_SH, ((am_up J 77 (((40 * x1) + x2).toNat) x3), K, am_RF b)))) from rfl) (am_gi g2881 rfl)
theorem s_UpRiverModel_read_L143 {X : am_X} {b : Bool} {K : am_K} {kb41 : Int → Int → Int → Int → Int → Int → Int → Int → am_J → Option (Int × am_J)} (hk41 : ∀ (x1 : Int) (x2 : Int) (x3 : Int) (x4 : Int) (x5 : Int) (x6 : Int) (x7 : Int) (x8 : Int) (J : am_J) (r : Int × am_J), kb41 x1 x2 x3 x4 x5 x6 x7 x8 J = some r → am_runs X T_UpRiverModel_read (41, [(0, am_pv 65), (1, am_iv x1), (2, am_iv x2), (3, am_iv x3), (4, am_iv x4), (5, am_iv x5), (6, am_iv x6), (7, am_iv x7), (8, am_iv x8)], [], am_SH, (J, K, am_RF b)) (some (am_iv r.1), am_SH, (r.2, K, am_RF b))) : ∀ (x1 : Int) (x2 : Int) (x3 : Int) (x4 : Int) (x5 : Int) (x6 : Int) (x7 : Int) (x8 : Int) (J : am_J) (r : Int × am_J), f_UpRiverModel_read_L143  kb41  x1 x2 x3 x4 x5 x6 x7 x8 J = some r → am_runs X T_UpRiverModel_read (143, [(0, am_pv 65), (1, am_iv x1), (2, am_iv x2), (3, am_iv x3), (4, am_iv x4), (5, am_iv x5), (6, am_iv x6), (7, am_iv x7), (8, am_iv x8)], [], am_SH, (J, K, am_RF b)) (some (am_iv r.1), am_SH, (r.2, K, am_RF b)) := by
  intro x1 x2 x3 x4 x5 x6 x7 x8 J r h
  unfold f_UpRiverModel_read_L143 at h
  obtain ⟨g2882, h⟩ := am_if_some h
  by_cases c2883 : x6 = 0
  · rw [if_pos c2883] at h
    refine am_r_f (show am_stepn X T_UpRiverModel_read 2 true (143, [(0, am_pv 65), (1, am_iv x1), (2, am_iv x2), (3, am_iv x3), (4, am_iv x4), (5, am_iv x5), (6, am_iv x6), (7, am_iv x7), (8, am_iv x8)], [], am_SH, (J, K, am_RF b)) = some ((decide (am_i32 x6) && true), .inl (bif am_cb .ne x6 0 then 202 else 148, [(0, am_pv 65), (1, am_iv x1), (2, am_iv x2), (3, am_iv x3), (4, am_iv x4), (5, am_iv x5), (6, am_iv x6), (7, am_iv x7), (8, am_iv x8)], [], am_SH, (J, K, am_RF b))) from rfl) (am_g1 g2882 rfl) (am_nd_t c2883) ?_
    obtain ⟨g2884, h⟩ := am_if_some h
    obtain ⟨g2885, h⟩ := am_if_some h
    obtain ⟨q2886, e2887, h⟩ := am_bind_some h
    refine am_r_call (show am_stepn X T_UpRiverModel_read 22 true (148, [(0, am_pv 65), (1, am_iv x1), (2, am_iv x2), (3, am_iv x3), (4, am_iv x4), (5, am_iv x5), (6, am_iv x6), (7, am_iv x7), (8, am_iv x8)], [], am_SH, (J, K, am_RF b)) = some ((am_in ((((40 * x1) + x3) + (2 * x8)) + 1) 160 && (am_in (((40 * x1) + x3) + (2 * x8)) 160 && true)), .inr (.inl (231, [am_pv 65, am_iv (J 77 ((((40 * x1) + x3) + (2 * x8)).toNat)), am_iv (J 77 (((((40 * x1) + x3) + (2 * x8)) + 1).toNat))], 4, 0, 0, 181, [(0, am_pv 65), (1, am_iv x1), (2, am_iv x2), (3, am_iv x3), (4, am_iv x4), (5, am_iv x5), (6, am_iv x6), (7, am_iv x7), (8, am_iv x8), (9, am_iv (((40 * x1) + x3) + (2 * x8)))], [], am_SH, (J, K, am_RF b)))) from rfl) (am_gi g2885 (am_gi g2884 rfl)) tb_UpRiverModel_logged (s_UpRiverModel_logged e2887) ?_
    obtain ⟨g2888, h⟩ := am_if_some h
    by_cases c2889 : q2886.1 < 0
    · rw [if_pos c2889] at h
      refine am_r_f (show am_stepn X T_UpRiverModel_read 1 true (181, [(0, am_pv 65), (1, am_iv x1), (2, am_iv x2), (3, am_iv x3), (4, am_iv x4), (5, am_iv x5), (6, am_iv x6), (7, am_iv x7), (8, am_iv x8), (9, am_iv (((40 * x1) + x3) + (2 * x8)))], [am_iv q2886.1], am_SH, (q2886.2, K, am_RF b)) = some ((decide (am_i32 q2886.1) && true), .inl (bif am_cb .ge q2886.1 0 then 199 else 184, [(0, am_pv 65), (1, am_iv x1), (2, am_iv x2), (3, am_iv x3), (4, am_iv x4), (5, am_iv x5), (6, am_iv x6), (7, am_iv x7), (8, am_iv x8), (9, am_iv (((40 * x1) + x3) + (2 * x8)))], [], am_SH, (q2886.2, K, am_RF b))) from rfl) (am_g1 g2888 rfl) (am_nd_t c2889) ?_
      obtain rfl := Option.some.inj h
      exact am_r_ret (show am_stepn X T_UpRiverModel_read 9 true (184, [(0, am_pv 65), (1, am_iv x1), (2, am_iv x2), (3, am_iv x3), (4, am_iv x4), (5, am_iv x5), (6, am_iv x6), (7, am_iv x7), (8, am_iv x8), (9, am_iv (((40 * x1) + x3) + (2 * x8)))], [], am_SH, (q2886.2, K, am_RF b)) = some ((am_in 6 216 && true), .inr (.inr (some (am_iv ((-20) - x8)), am_SH, ((am_up q2886.2 68 6 x5), K, am_RF b)))) from rfl) (am_gi (by decide) rfl)
    · rw [if_neg c2889] at h
      refine am_r_t (show am_stepn X T_UpRiverModel_read 1 true (181, [(0, am_pv 65), (1, am_iv x1), (2, am_iv x2), (3, am_iv x3), (4, am_iv x4), (5, am_iv x5), (6, am_iv x6), (7, am_iv x7), (8, am_iv x8), (9, am_iv (((40 * x1) + x3) + (2 * x8)))], [am_iv q2886.1], am_SH, (q2886.2, K, am_RF b)) = some ((decide (am_i32 q2886.1) && true), .inl (bif am_cb .ge q2886.1 0 then 199 else 184, [(0, am_pv 65), (1, am_iv x1), (2, am_iv x2), (3, am_iv x3), (4, am_iv x4), (5, am_iv x5), (6, am_iv x6), (7, am_iv x7), (8, am_iv x8), (9, am_iv (((40 * x1) + x3) + (2 * x8)))], [], am_SH, (q2886.2, K, am_RF b))) from rfl) (am_g1 g2888 rfl) (am_nd_f c2889) ?_
      refine am_r_go (show am_stepn X T_UpRiverModel_read 3 true (199, [(0, am_pv 65), (1, am_iv x1), (2, am_iv x2), (3, am_iv x3), (4, am_iv x4), (5, am_iv x5), (6, am_iv x6), (7, am_iv x7), (8, am_iv x8), (9, am_iv (((40 * x1) + x3) + (2 * x8)))], [], am_SH, (q2886.2, K, am_RF b)) = some (true, .inl (41, [(0, am_pv 65), (1, am_iv x1), (2, am_iv x2), (3, am_iv x3), (4, am_iv x4), (5, am_iv x5), (6, am_iv x6), (7, am_iv (x7 + 1)), (8, am_iv (x8 + 1))], [], am_SH, (q2886.2, K, am_RF b))) from rfl) rfl ?_
      exact hk41 _ _ _ _ _ _ _ _ _ _ h
  · rw [if_neg c2883] at h
    refine am_r_t (show am_stepn X T_UpRiverModel_read 2 true (143, [(0, am_pv 65), (1, am_iv x1), (2, am_iv x2), (3, am_iv x3), (4, am_iv x4), (5, am_iv x5), (6, am_iv x6), (7, am_iv x7), (8, am_iv x8)], [], am_SH, (J, K, am_RF b)) = some ((decide (am_i32 x6) && true), .inl (bif am_cb .ne x6 0 then 202 else 148, [(0, am_pv 65), (1, am_iv x1), (2, am_iv x2), (3, am_iv x3), (4, am_iv x4), (5, am_iv x5), (6, am_iv x6), (7, am_iv x7), (8, am_iv x8)], [], am_SH, (J, K, am_RF b))) from rfl) (am_g1 g2882 rfl) (am_nd_f c2883) ?_
    refine am_r_go (show am_stepn X T_UpRiverModel_read 2 true (202, [(0, am_pv 65), (1, am_iv x1), (2, am_iv x2), (3, am_iv x3), (4, am_iv x4), (5, am_iv x5), (6, am_iv x6), (7, am_iv x7), (8, am_iv x8)], [], am_SH, (J, K, am_RF b)) = some (true, .inl (41, [(0, am_pv 65), (1, am_iv x1), (2, am_iv x2), (3, am_iv x3), (4, am_iv x4), (5, am_iv x5), (6, am_iv x6), (7, am_iv x7), (8, am_iv (x8 + 1))], [], am_SH, (J, K, am_RF b))) from rfl) rfl ?_
    exact hk41 _ _ _ _ _ _ _ _ _ _ h
theorem s_UpRiverModel_read_L56 {X : am_X} {b : Bool} {K : am_K} {kb41 : Int → Int → Int → Int → Int → Int → Int → Int → am_J → Option (Int × am_J)} (hk41 : ∀ (x1 : Int) (x2 : Int) (x3 : Int) (x4 : Int) (x5 : Int) (x6 : Int) (x7 : Int) (x8 : Int) (J : am_J) (r : Int × am_J), kb41 x1 x2 x3 x4 x5 x6 x7 x8 J = some r → am_runs X T_UpRiverModel_read (41, [(0, am_pv 65), (1, am_iv x1), (2, am_iv x2), (3, am_iv x3), (4, am_iv x4), (5, am_iv x5), (6, am_iv x6), (7, am_iv x7), (8, am_iv x8)], [], am_SH, (J, K, am_RF b)) (some (am_iv r.1), am_SH, (r.2, K, am_RF b))) : ∀ (n : Nat) (x1 : Int) (x2 : Int) (x3 : Int) (x4 : Int) (x5 : Int) (x6 : Int) (x7 : Int) (x8 : Int) (x9 : Int) (J : am_J) (r : Int × am_J), f_UpRiverModel_read_L56  kb41 n x1 x2 x3 x4 x5 x6 x7 x8 x9 J = some r → am_runs X T_UpRiverModel_read (56, [(0, am_pv 65), (1, am_iv x1), (2, am_iv x2), (3, am_iv x3), (4, am_iv x4), (5, am_iv x5), (6, am_iv x6), (7, am_iv x7), (8, am_iv x8), (9, am_iv x9)], [], am_SH, (J, K, am_RF b)) (some (am_iv r.1), am_SH, (r.2, K, am_RF b)) := by
  intro n
  induction n with
  | zero =>
    intro x1 x2 x3 x4 x5 x6 x7 x8 x9 J r h
    cases h
  | succ n ih =>
    intro x1 x2 x3 x4 x5 x6 x7 x8 x9 J r h
    rw [f_UpRiverModel_read_L56.eq_2] at h
    obtain ⟨g2890, h⟩ := am_if_some h
    by_cases c2891 : x9 < 2
    · rw [if_pos c2891] at h
      refine am_r_f (show am_stepn X T_UpRiverModel_read 3 true (56, [(0, am_pv 65), (1, am_iv x1), (2, am_iv x2), (3, am_iv x3), (4, am_iv x4), (5, am_iv x5), (6, am_iv x6), (7, am_iv x7), (8, am_iv x8), (9, am_iv x9)], [], am_SH, (J, K, am_RF b)) = some (((decide (am_i32 2) && decide (am_i32 x9)) && true), .inl (bif am_cb .ge x9 2 then 143 else 62, [(0, am_pv 65), (1, am_iv x1), (2, am_iv x2), (3, am_iv x3), (4, am_iv x4), (5, am_iv x5), (6, am_iv x6), (7, am_iv x7), (8, am_iv x8), (9, am_iv x9)], [], am_SH, (J, K, am_RF b))) from rfl) (am_g2 (by decide) g2890 rfl) (am_nd_t c2891) ?_
      obtain ⟨g2892, h⟩ := am_if_some h
      by_cases c2893 : x6 = 0
      · rw [if_pos c2893] at h
        refine am_r_f (show am_stepn X T_UpRiverModel_read 2 true (62, [(0, am_pv 65), (1, am_iv x1), (2, am_iv x2), (3, am_iv x3), (4, am_iv x4), (5, am_iv x5), (6, am_iv x6), (7, am_iv x7), (8, am_iv x8), (9, am_iv x9)], [], am_SH, (J, K, am_RF b)) = some ((decide (am_i32 x6) && true), .inl (bif am_cb .ne x6 0 then 143 else 67, [(0, am_pv 65), (1, am_iv x1), (2, am_iv x2), (3, am_iv x3), (4, am_iv x4), (5, am_iv x5), (6, am_iv x6), (7, am_iv x7), (8, am_iv x8), (9, am_iv x9)], [], am_SH, (J, K, am_RF b))) from rfl) (am_g1 g2892 rfl) (am_nd_t c2893) ?_
        obtain ⟨g2894, h⟩ := am_if_some h
        obtain ⟨g2895, h⟩ := am_if_some h
        by_cases c2896 : (J 75 x1.toNat) = (-4)
        · rw [if_pos c2896] at h
          refine am_r_f (show am_stepn X T_UpRiverModel_read 17 true (67, [(0, am_pv 65), (1, am_iv x1), (2, am_iv x2), (3, am_iv x3), (4, am_iv x4), (5, am_iv x5), (6, am_iv x6), (7, am_iv x7), (8, am_iv x8), (9, am_iv x9)], [], am_SH, (J, K, am_RF b)) = some (((decide (am_i32 (-4)) && decide (am_i32 (J 75 x1.toNat))) && (am_in x1 4 && true)), .inl (bif am_cb .ne (J 75 x1.toNat) (-4) then 96 else 92, [(0, am_pv 65), (1, am_iv x1), (2, am_iv x2), (3, am_iv x3), (4, am_iv x4), (5, am_iv x5), (7, am_iv x7), (8, am_iv x8), (9, am_iv x9), (10, am_jv (((am_i2l x3) + (am_i2l (2 * x8))) + (am_i2l x9)))], [], am_SH, (J, K, am_RF b))) from rfl) (am_g2 (by decide) g2895 (am_gi g2894 rfl)) (am_nd_t c2896) ?_
          refine am_r_go (show am_stepn X T_UpRiverModel_read 5 true (92, [(0, am_pv 65), (1, am_iv x1), (2, am_iv x2), (3, am_iv x3), (4, am_iv x4), (5, am_iv x5), (7, am_iv x7), (8, am_iv x8), (9, am_iv x9), (10, am_jv (((am_i2l x3) + (am_i2l (2 * x8))) + (am_i2l x9)))], [], am_SH, (J, K, am_RF b)) = some (true, .inl (56, [(0, am_pv 65), (1, am_iv x1), (2, am_iv x2), (3, am_iv x3), (4, am_iv x4), (5, am_iv x5), (6, am_iv 1), (7, am_iv x7), (8, am_iv x8), (9, am_iv (x9 + 1))], [], am_SH, (J, K, am_RF b))) from rfl) rfl ?_
          exact ih _ _ _ _ _ _ _ _ _ _ _ h
        · rw [if_neg c2896] at h
          refine am_r_t (show am_stepn X T_UpRiverModel_read 17 true (67, [(0, am_pv 65), (1, am_iv x1), (2, am_iv x2), (3, am_iv x3), (4, am_iv x4), (5, am_iv x5), (6, am_iv x6), (7, am_iv x7), (8, am_iv x8), (9, am_iv x9)], [], am_SH, (J, K, am_RF b)) = some (((decide (am_i32 (-4)) && decide (am_i32 (J 75 x1.toNat))) && (am_in x1 4 && true)), .inl (bif am_cb .ne (J 75 x1.toNat) (-4) then 96 else 92, [(0, am_pv 65), (1, am_iv x1), (2, am_iv x2), (3, am_iv x3), (4, am_iv x4), (5, am_iv x5), (7, am_iv x7), (8, am_iv x8), (9, am_iv x9), (10, am_jv (((am_i2l x3) + (am_i2l (2 * x8))) + (am_i2l x9)))], [], am_SH, (J, K, am_RF b))) from rfl) (am_g2 (by decide) g2895 (am_gi g2894 rfl)) (am_nd_f c2896) ?_
          obtain ⟨g2897, h⟩ := am_if_some h
          by_cases c2898 : (J 75 x1.toNat) = x2
          · rw [if_pos c2898] at h
            refine am_r_t (show am_stepn X T_UpRiverModel_read 6 true (96, [(0, am_pv 65), (1, am_iv x1), (2, am_iv x2), (3, am_iv x3), (4, am_iv x4), (5, am_iv x5), (7, am_iv x7), (8, am_iv x8), (9, am_iv x9), (10, am_jv (((am_i2l x3) + (am_i2l (2 * x8))) + (am_i2l x9)))], [], am_SH, (J, K, am_RF b)) = some (((decide (am_i32 x2) && decide (am_i32 (J 75 x1.toNat))) && (am_in x1 4 && true)), .inl (bif am_cb .eq (J 75 x1.toNat) x2 then 110 else 106, [(0, am_pv 65), (1, am_iv x1), (2, am_iv x2), (3, am_iv x3), (4, am_iv x4), (5, am_iv x5), (7, am_iv x7), (8, am_iv x8), (9, am_iv x9), (10, am_jv (((am_i2l x3) + (am_i2l (2 * x8))) + (am_i2l x9)))], [], am_SH, (J, K, am_RF b))) from rfl) (am_g2 g2897 g2895 (am_gi g2894 rfl)) (decide_eq_true c2898) ?_
            obtain ⟨g2899, h⟩ := am_if_some h
            by_cases c2900 : (am_lcmp (((am_i2l x3) + (am_i2l (2 * x8))) + (am_i2l x9)) (0 : Int64)) < 0
            · rw [if_pos c2900] at h
              refine am_r_t (show am_stepn X T_UpRiverModel_read 4 true (110, [(0, am_pv 65), (1, am_iv x1), (2, am_iv x2), (3, am_iv x3), (4, am_iv x4), (5, am_iv x5), (7, am_iv x7), (8, am_iv x8), (9, am_iv x9), (10, am_jv (((am_i2l x3) + (am_i2l (2 * x8))) + (am_i2l x9)))], [], am_SH, (J, K, am_RF b)) = some ((decide (am_i32 (am_lcmp (((am_i2l x3) + (am_i2l (2 * x8))) + (am_i2l x9)) (0 : Int64))) && true), .inl (bif am_cb .lt (am_lcmp (((am_i2l x3) + (am_i2l (2 * x8))) + (am_i2l x9)) (0 : Int64)) 0 then 130 else 117, [(0, am_pv 65), (1, am_iv x1), (2, am_iv x2), (3, am_iv x3), (4, am_iv x4), (5, am_iv x5), (7, am_iv x7), (8, am_iv x8), (9, am_iv x9), (10, am_jv (((am_i2l x3) + (am_i2l (2 * x8))) + (am_i2l x9)))], [], am_SH, (J, K, am_RF b))) from rfl) (am_g1 g2899 rfl) (decide_eq_true c2900) ?_
              refine am_r_go (show am_stepn X T_UpRiverModel_read 5 true (130, [(0, am_pv 65), (1, am_iv x1), (2, am_iv x2), (3, am_iv x3), (4, am_iv x4), (5, am_iv x5), (7, am_iv x7), (8, am_iv x8), (9, am_iv x9), (10, am_jv (((am_i2l x3) + (am_i2l (2 * x8))) + (am_i2l x9)))], [], am_SH, (J, K, am_RF b)) = some (true, .inl (56, [(0, am_pv 65), (1, am_iv x1), (2, am_iv x2), (3, am_iv x3), (4, am_iv x4), (5, am_iv x5), (6, am_iv 2), (7, am_iv x7), (8, am_iv x8), (9, am_iv (x9 + 1))], [], am_SH, (J, K, am_RF b))) from rfl) rfl ?_
              exact ih _ _ _ _ _ _ _ _ _ _ _ h
            · rw [if_neg c2900] at h
              refine am_r_f (show am_stepn X T_UpRiverModel_read 4 true (110, [(0, am_pv 65), (1, am_iv x1), (2, am_iv x2), (3, am_iv x3), (4, am_iv x4), (5, am_iv x5), (7, am_iv x7), (8, am_iv x8), (9, am_iv x9), (10, am_jv (((am_i2l x3) + (am_i2l (2 * x8))) + (am_i2l x9)))], [], am_SH, (J, K, am_RF b)) = some ((decide (am_i32 (am_lcmp (((am_i2l x3) + (am_i2l (2 * x8))) + (am_i2l x9)) (0 : Int64))) && true), .inl (bif am_cb .lt (am_lcmp (((am_i2l x3) + (am_i2l (2 * x8))) + (am_i2l x9)) (0 : Int64)) 0 then 130 else 117, [(0, am_pv 65), (1, am_iv x1), (2, am_iv x2), (3, am_iv x3), (4, am_iv x4), (5, am_iv x5), (7, am_iv x7), (8, am_iv x8), (9, am_iv x9), (10, am_jv (((am_i2l x3) + (am_i2l (2 * x8))) + (am_i2l x9)))], [], am_SH, (J, K, am_RF b))) from rfl) (am_g1 g2899 rfl) (decide_eq_false c2900) ?_
              obtain ⟨g2901, h⟩ := am_if_some h
              by_cases c2902 : (am_lcmp (((am_i2l x3) + (am_i2l (2 * x8))) + (am_i2l x9)) (am_i2l (J 76 x1.toNat))) < 0
              · rw [if_pos c2902] at h
                refine am_r_t (show am_stepn X T_UpRiverModel_read 8 true (117, [(0, am_pv 65), (1, am_iv x1), (2, am_iv x2), (3, am_iv x3), (4, am_iv x4), (5, am_iv x5), (7, am_iv x7), (8, am_iv x8), (9, am_iv x9), (10, am_jv (((am_i2l x3) + (am_i2l (2 * x8))) + (am_i2l x9)))], [], am_SH, (J, K, am_RF b)) = some ((decide (am_i32 (am_lcmp (((am_i2l x3) + (am_i2l (2 * x8))) + (am_i2l x9)) (am_i2l (J 76 x1.toNat)))) && (am_in x1 4 && true)), .inl (bif am_cb .lt (am_lcmp (((am_i2l x3) + (am_i2l (2 * x8))) + (am_i2l x9)) (am_i2l (J 76 x1.toNat))) 0 then 134 else 130, [(0, am_pv 65), (1, am_iv x1), (2, am_iv x2), (3, am_iv x3), (4, am_iv x4), (5, am_iv x5), (7, am_iv x7), (8, am_iv x8), (9, am_iv x9), (10, am_jv (((am_i2l x3) + (am_i2l (2 * x8))) + (am_i2l x9)))], [], am_SH, (J, K, am_RF b))) from rfl) (am_g1 g2901 (am_gi g2894 rfl)) (decide_eq_true c2902) ?_
                refine am_r_go (show am_stepn X T_UpRiverModel_read 4 true (134, [(0, am_pv 65), (1, am_iv x1), (2, am_iv x2), (3, am_iv x3), (4, am_iv x4), (5, am_iv x5), (7, am_iv x7), (8, am_iv x8), (9, am_iv x9), (10, am_jv (((am_i2l x3) + (am_i2l (2 * x8))) + (am_i2l x9)))], [], am_SH, (J, K, am_RF b)) = some (true, .inl (56, [(0, am_pv 65), (1, am_iv x1), (2, am_iv x2), (3, am_iv x3), (4, am_iv x4), (5, am_iv x5), (6, am_iv 0), (7, am_iv x7), (8, am_iv x8), (9, am_iv (x9 + 1))], [], am_SH, (J, K, am_RF b))) from rfl) rfl ?_
                exact ih _ _ _ _ _ _ _ _ _ _ _ h
              · rw [if_neg c2902] at h
                refine am_r_f (show am_stepn X T_UpRiverModel_read 8 true (117, [(0, am_pv 65), (1, am_iv x1), (2, am_iv x2), (3, am_iv x3), (4, am_iv x4), (5, am_iv x5), (7, am_iv x7), (8, am_iv x8), (9, am_iv x9), (10, am_jv (((am_i2l x3) + (am_i2l (2 * x8))) + (am_i2l x9)))], [], am_SH, (J, K, am_RF b)) = some ((decide (am_i32 (am_lcmp (((am_i2l x3) + (am_i2l (2 * x8))) + (am_i2l x9)) (am_i2l (J 76 x1.toNat)))) && (am_in x1 4 && true)), .inl (bif am_cb .lt (am_lcmp (((am_i2l x3) + (am_i2l (2 * x8))) + (am_i2l x9)) (am_i2l (J 76 x1.toNat))) 0 then 134 else 130, [(0, am_pv 65), (1, am_iv x1), (2, am_iv x2), (3, am_iv x3), (4, am_iv x4), (5, am_iv x5), (7, am_iv x7), (8, am_iv x8), (9, am_iv x9), (10, am_jv (((am_i2l x3) + (am_i2l (2 * x8))) + (am_i2l x9)))], [], am_SH, (J, K, am_RF b))) from rfl) (am_g1 g2901 (am_gi g2894 rfl)) (decide_eq_false c2902) ?_
                refine am_r_go (show am_stepn X T_UpRiverModel_read 5 true (130, [(0, am_pv 65), (1, am_iv x1), (2, am_iv x2), (3, am_iv x3), (4, am_iv x4), (5, am_iv x5), (7, am_iv x7), (8, am_iv x8), (9, am_iv x9), (10, am_jv (((am_i2l x3) + (am_i2l (2 * x8))) + (am_i2l x9)))], [], am_SH, (J, K, am_RF b)) = some (true, .inl (56, [(0, am_pv 65), (1, am_iv x1), (2, am_iv x2), (3, am_iv x3), (4, am_iv x4), (5, am_iv x5), (6, am_iv 2), (7, am_iv x7), (8, am_iv x8), (9, am_iv (x9 + 1))], [], am_SH, (J, K, am_RF b))) from rfl) rfl ?_
                exact ih _ _ _ _ _ _ _ _ _ _ _ h
          · rw [if_neg c2898] at h
            refine am_r_f (show am_stepn X T_UpRiverModel_read 6 true (96, [(0, am_pv 65), (1, am_iv x1), (2, am_iv x2), (3, am_iv x3), (4, am_iv x4), (5, am_iv x5), (7, am_iv x7), (8, am_iv x8), (9, am_iv x9), (10, am_jv (((am_i2l x3) + (am_i2l (2 * x8))) + (am_i2l x9)))], [], am_SH, (J, K, am_RF b)) = some (((decide (am_i32 x2) && decide (am_i32 (J 75 x1.toNat))) && (am_in x1 4 && true)), .inl (bif am_cb .eq (J 75 x1.toNat) x2 then 110 else 106, [(0, am_pv 65), (1, am_iv x1), (2, am_iv x2), (3, am_iv x3), (4, am_iv x4), (5, am_iv x5), (7, am_iv x7), (8, am_iv x8), (9, am_iv x9), (10, am_jv (((am_i2l x3) + (am_i2l (2 * x8))) + (am_i2l x9)))], [], am_SH, (J, K, am_RF b))) from rfl) (am_g2 g2897 g2895 (am_gi g2894 rfl)) (decide_eq_false c2898) ?_
            refine am_r_go (show am_stepn X T_UpRiverModel_read 5 true (106, [(0, am_pv 65), (1, am_iv x1), (2, am_iv x2), (3, am_iv x3), (4, am_iv x4), (5, am_iv x5), (7, am_iv x7), (8, am_iv x8), (9, am_iv x9), (10, am_jv (((am_i2l x3) + (am_i2l (2 * x8))) + (am_i2l x9)))], [], am_SH, (J, K, am_RF b)) = some (true, .inl (56, [(0, am_pv 65), (1, am_iv x1), (2, am_iv x2), (3, am_iv x3), (4, am_iv x4), (5, am_iv x5), (6, am_iv 3), (7, am_iv x7), (8, am_iv x8), (9, am_iv (x9 + 1))], [], am_SH, (J, K, am_RF b))) from rfl) rfl ?_
            exact ih _ _ _ _ _ _ _ _ _ _ _ h
      · rw [if_neg c2893] at h
        refine am_r_t (show am_stepn X T_UpRiverModel_read 2 true (62, [(0, am_pv 65), (1, am_iv x1), (2, am_iv x2), (3, am_iv x3), (4, am_iv x4), (5, am_iv x5), (6, am_iv x6), (7, am_iv x7), (8, am_iv x8), (9, am_iv x9)], [], am_SH, (J, K, am_RF b)) = some ((decide (am_i32 x6) && true), .inl (bif am_cb .ne x6 0 then 143 else 67, [(0, am_pv 65), (1, am_iv x1), (2, am_iv x2), (3, am_iv x3), (4, am_iv x4), (5, am_iv x5), (6, am_iv x6), (7, am_iv x7), (8, am_iv x8), (9, am_iv x9)], [], am_SH, (J, K, am_RF b))) from rfl) (am_g1 g2892 rfl) (am_nd_f c2893) ?_
        refine am_r_eq (σ' := (143, [(0, am_pv 65), (1, am_iv x1), (2, am_iv x2), (3, am_iv x3), (4, am_iv x4), (5, am_iv x5), (6, am_iv x6), (7, am_iv x7), (8, am_iv x8)], [], am_SH, (J, K, am_RF b))) rfl ?_
        exact s_UpRiverModel_read_L143 hk41 _ _ _ _ _ _ _ _ _ _ h
    · rw [if_neg c2891] at h
      refine am_r_t (show am_stepn X T_UpRiverModel_read 3 true (56, [(0, am_pv 65), (1, am_iv x1), (2, am_iv x2), (3, am_iv x3), (4, am_iv x4), (5, am_iv x5), (6, am_iv x6), (7, am_iv x7), (8, am_iv x8), (9, am_iv x9)], [], am_SH, (J, K, am_RF b)) = some (((decide (am_i32 2) && decide (am_i32 x9)) && true), .inl (bif am_cb .ge x9 2 then 143 else 62, [(0, am_pv 65), (1, am_iv x1), (2, am_iv x2), (3, am_iv x3), (4, am_iv x4), (5, am_iv x5), (6, am_iv x6), (7, am_iv x7), (8, am_iv x8), (9, am_iv x9)], [], am_SH, (J, K, am_RF b))) from rfl) (am_g2 (by decide) g2890 rfl) (am_nd_f c2891) ?_
      refine am_r_eq (σ' := (143, [(0, am_pv 65), (1, am_iv x1), (2, am_iv x2), (3, am_iv x3), (4, am_iv x4), (5, am_iv x5), (6, am_iv x6), (7, am_iv x7), (8, am_iv x8)], [], am_SH, (J, K, am_RF b))) rfl ?_
      exact s_UpRiverModel_read_L143 hk41 _ _ _ _ _ _ _ _ _ _ h
theorem s_UpRiverModel_read_L41 {X : am_X} {b : Bool} {K : am_K}  : ∀ (n : Nat) (x1 : Int) (x2 : Int) (x3 : Int) (x4 : Int) (x5 : Int) (x6 : Int) (x7 : Int) (x8 : Int) (J : am_J) (r : Int × am_J), f_UpRiverModel_read_L41   n x1 x2 x3 x4 x5 x6 x7 x8 J = some r → am_runs X T_UpRiverModel_read (41, [(0, am_pv 65), (1, am_iv x1), (2, am_iv x2), (3, am_iv x3), (4, am_iv x4), (5, am_iv x5), (6, am_iv x6), (7, am_iv x7), (8, am_iv x8)], [], am_SH, (J, K, am_RF b)) (some (am_iv r.1), am_SH, (r.2, K, am_RF b)) := by
  intro n
  induction n with
  | zero =>
    intro x1 x2 x3 x4 x5 x6 x7 x8 J r h
    cases h
  | succ n ih =>
    intro x1 x2 x3 x4 x5 x6 x7 x8 J r h
    rw [f_UpRiverModel_read_L41.eq_2] at h
    obtain ⟨g2903, h⟩ := am_if_some h
    obtain ⟨g2904, h⟩ := am_if_some h
    by_cases c2905 : x8 < x4
    · rw [if_pos c2905] at h
      refine am_r_f (show am_stepn X T_UpRiverModel_read 3 true (41, [(0, am_pv 65), (1, am_iv x1), (2, am_iv x2), (3, am_iv x3), (4, am_iv x4), (5, am_iv x5), (6, am_iv x6), (7, am_iv x7), (8, am_iv x8)], [], am_SH, (J, K, am_RF b)) = some (((decide (am_i32 x4) && decide (am_i32 x8)) && true), .inl (bif am_cb .ge x8 x4 then 208 else 48, [(0, am_pv 65), (1, am_iv x1), (2, am_iv x2), (3, am_iv x3), (4, am_iv x4), (5, am_iv x5), (6, am_iv x6), (7, am_iv x7), (8, am_iv x8)], [], am_SH, (J, K, am_RF b))) from rfl) (am_g2 g2903 g2904 rfl) (am_nd_t c2905) ?_
      obtain ⟨g2906, h⟩ := am_if_some h
      by_cases c2907 : x6 = 0
      · rw [if_pos c2907] at h
        refine am_r_f (show am_stepn X T_UpRiverModel_read 2 true (48, [(0, am_pv 65), (1, am_iv x1), (2, am_iv x2), (3, am_iv x3), (4, am_iv x4), (5, am_iv x5), (6, am_iv x6), (7, am_iv x7), (8, am_iv x8)], [], am_SH, (J, K, am_RF b)) = some ((decide (am_i32 x6) && true), .inl (bif am_cb .ne x6 0 then 208 else 53, [(0, am_pv 65), (1, am_iv x1), (2, am_iv x2), (3, am_iv x3), (4, am_iv x4), (5, am_iv x5), (6, am_iv x6), (7, am_iv x7), (8, am_iv x8)], [], am_SH, (J, K, am_RF b))) from rfl) (am_g1 g2906 rfl) (am_nd_t c2907) ?_
        refine am_r_go (show am_stepn X T_UpRiverModel_read 2 true (53, [(0, am_pv 65), (1, am_iv x1), (2, am_iv x2), (3, am_iv x3), (4, am_iv x4), (5, am_iv x5), (6, am_iv x6), (7, am_iv x7), (8, am_iv x8)], [], am_SH, (J, K, am_RF b)) = some (true, .inl (56, [(0, am_pv 65), (1, am_iv x1), (2, am_iv x2), (3, am_iv x3), (4, am_iv x4), (5, am_iv x5), (6, am_iv x6), (7, am_iv x7), (8, am_iv x8), (9, am_iv 0)], [], am_SH, (J, K, am_RF b))) from rfl) rfl ?_
        exact s_UpRiverModel_read_L56 ih _ _ _ _ _ _ _ _ _ _ _ _ h
      · rw [if_neg c2907] at h
        refine am_r_t (show am_stepn X T_UpRiverModel_read 2 true (48, [(0, am_pv 65), (1, am_iv x1), (2, am_iv x2), (3, am_iv x3), (4, am_iv x4), (5, am_iv x5), (6, am_iv x6), (7, am_iv x7), (8, am_iv x8)], [], am_SH, (J, K, am_RF b)) = some ((decide (am_i32 x6) && true), .inl (bif am_cb .ne x6 0 then 208 else 53, [(0, am_pv 65), (1, am_iv x1), (2, am_iv x2), (3, am_iv x3), (4, am_iv x4), (5, am_iv x5), (6, am_iv x6), (7, am_iv x7), (8, am_iv x8)], [], am_SH, (J, K, am_RF b))) from rfl) (am_g1 g2906 rfl) (am_nd_f c2907) ?_
        obtain rfl := Option.some.inj h
        exact am_r_ret (show am_stepn X T_UpRiverModel_read 5 true (208, [(0, am_pv 65), (1, am_iv x1), (2, am_iv x2), (3, am_iv x3), (4, am_iv x4), (5, am_iv x5), (6, am_iv x6), (7, am_iv x7), (8, am_iv x8)], [], am_SH, (J, K, am_RF b)) = some (true, .inr (.inr (some (am_iv x7), am_SH, ((am_up J 65 41 x6), K, am_RF b)))) from rfl) rfl
    · rw [if_neg c2905] at h
      refine am_r_t (show am_stepn X T_UpRiverModel_read 3 true (41, [(0, am_pv 65), (1, am_iv x1), (2, am_iv x2), (3, am_iv x3), (4, am_iv x4), (5, am_iv x5), (6, am_iv x6), (7, am_iv x7), (8, am_iv x8)], [], am_SH, (J, K, am_RF b)) = some (((decide (am_i32 x4) && decide (am_i32 x8)) && true), .inl (bif am_cb .ge x8 x4 then 208 else 48, [(0, am_pv 65), (1, am_iv x1), (2, am_iv x2), (3, am_iv x3), (4, am_iv x4), (5, am_iv x5), (6, am_iv x6), (7, am_iv x7), (8, am_iv x8)], [], am_SH, (J, K, am_RF b))) from rfl) (am_g2 g2903 g2904 rfl) (am_nd_f c2905) ?_
      obtain rfl := Option.some.inj h
      exact am_r_ret (show am_stepn X T_UpRiverModel_read 5 true (208, [(0, am_pv 65), (1, am_iv x1), (2, am_iv x2), (3, am_iv x3), (4, am_iv x4), (5, am_iv x5), (6, am_iv x6), (7, am_iv x7), (8, am_iv x8)], [], am_SH, (J, K, am_RF b)) = some (true, .inr (.inr (some (am_iv x7), am_SH, ((am_up J 65 41 x6), K, am_RF b)))) from rfl) rfl
theorem s_UpRiverModel_read {X : am_X} {b : Bool} {K : am_K} {x1 : Int} {x2 : Int} {x3 : Int} {x4 : Int} {J : am_J} {r : Int × am_J} (h : f_UpRiverModel_read  x1 x2 x3 x4 J = some r) : am_runs X T_UpRiverModel_read (0, [(0, am_pv 65), (1, am_iv x1), (2, am_iv x2), (3, am_iv x3), (4, am_iv x4)], [], am_SH, (J, K, am_RF b)) (some (am_iv r.1), am_SH, (r.2, K, am_RF b)) := by
  unfold f_UpRiverModel_read at h
  obtain ⟨q2908, e2909, h⟩ := am_bind_some h
  refine am_r_call (show am_stepn X T_UpRiverModel_read 3 true (0, [(0, am_pv 65), (1, am_iv x1), (2, am_iv x2), (3, am_iv x3), (4, am_iv x4)], [], am_SH, (J, K, am_RF b)) = some (true, .inr (.inl (244, [am_iv x1, am_iv x2], 2, 0, 0, 5, [(0, am_pv 65), (1, am_iv x1), (2, am_iv x2), (3, am_iv x3), (4, am_iv x4)], [], am_SH, (J, K, am_RF b)))) from rfl) rfl tb_UpRiverModel_isSheet (s_UpRiverModel_isSheet e2909) ?_
  obtain ⟨g2910, h⟩ := am_if_some h
  by_cases c2911 : q2908 = 0
  · rw [if_pos c2911] at h
    refine am_r_t (show am_stepn X T_UpRiverModel_read 1 true (5, [(0, am_pv 65), (1, am_iv x1), (2, am_iv x2), (3, am_iv x3), (4, am_iv x4)], [am_iv q2908], am_SH, (J, K, am_RF b)) = some ((decide (am_i32 q2908) && true), .inl (bif am_cb .eq q2908 0 then 21 else 8, [(0, am_pv 65), (1, am_iv x1), (2, am_iv x2), (3, am_iv x3), (4, am_iv x4)], [], am_SH, (J, K, am_RF b))) from rfl) (am_g1 g2910 rfl) (decide_eq_true c2911) ?_
    obtain rfl := Option.some.inj h
    exact am_r_ret (show am_stepn X T_UpRiverModel_read 2 true (21, [(0, am_pv 65), (1, am_iv x1), (2, am_iv x2), (3, am_iv x3), (4, am_iv x4)], [], am_SH, (J, K, am_RF b)) = some (true, .inr (.inr (some (am_iv (-1)), am_SH, (J, K, am_RF b)))) from rfl) rfl
  · rw [if_neg c2911] at h
    refine am_r_f (show am_stepn X T_UpRiverModel_read 1 true (5, [(0, am_pv 65), (1, am_iv x1), (2, am_iv x2), (3, am_iv x3), (4, am_iv x4)], [am_iv q2908], am_SH, (J, K, am_RF b)) = some ((decide (am_i32 q2908) && true), .inl (bif am_cb .eq q2908 0 then 21 else 8, [(0, am_pv 65), (1, am_iv x1), (2, am_iv x2), (3, am_iv x3), (4, am_iv x4)], [], am_SH, (J, K, am_RF b))) from rfl) (am_g1 g2910 rfl) (decide_eq_false c2911) ?_
    obtain ⟨q2912, e2913, h⟩ := am_bind_some h
    refine am_r_call (show am_stepn X T_UpRiverModel_read 5 true (8, [(0, am_pv 65), (1, am_iv x1), (2, am_iv x2), (3, am_iv x3), (4, am_iv x4)], [], am_SH, (J, K, am_RF b)) = some (true, .inr (.inl (150, [am_jv (am_i2l x4), am_jv (0 : Int64), am_jv (12 : Int64)], 6, 0, 0, 18, [(0, am_pv 65), (1, am_iv x1), (2, am_iv x2), (3, am_iv x3), (4, am_iv x4)], [], am_SH, (J, K, am_RF b)))) from rfl) rfl tb_UpRiverModel_in (s_UpRiverModel_in e2913) ?_
    obtain ⟨g2914, h⟩ := am_if_some h
    by_cases c2915 : q2912 = 0
    · rw [if_pos c2915] at h
      refine am_r_f (show am_stepn X T_UpRiverModel_read 1 true (18, [(0, am_pv 65), (1, am_iv x1), (2, am_iv x2), (3, am_iv x3), (4, am_iv x4)], [am_iv q2912], am_SH, (J, K, am_RF b)) = some ((decide (am_i32 q2912) && true), .inl (bif am_cb .ne q2912 0 then 23 else 21, [(0, am_pv 65), (1, am_iv x1), (2, am_iv x2), (3, am_iv x3), (4, am_iv x4)], [], am_SH, (J, K, am_RF b))) from rfl) (am_g1 g2914 rfl) (am_nd_t c2915) ?_
      obtain rfl := Option.some.inj h
      exact am_r_ret (show am_stepn X T_UpRiverModel_read 2 true (21, [(0, am_pv 65), (1, am_iv x1), (2, am_iv x2), (3, am_iv x3), (4, am_iv x4)], [], am_SH, (J, K, am_RF b)) = some (true, .inr (.inr (some (am_iv (-1)), am_SH, (J, K, am_RF b)))) from rfl) rfl
    · rw [if_neg c2915] at h
      refine am_r_t (show am_stepn X T_UpRiverModel_read 1 true (18, [(0, am_pv 65), (1, am_iv x1), (2, am_iv x2), (3, am_iv x3), (4, am_iv x4)], [am_iv q2912], am_SH, (J, K, am_RF b)) = some ((decide (am_i32 q2912) && true), .inl (bif am_cb .ne q2912 0 then 23 else 21, [(0, am_pv 65), (1, am_iv x1), (2, am_iv x2), (3, am_iv x3), (4, am_iv x4)], [], am_SH, (J, K, am_RF b))) from rfl) (am_g1 g2914 rfl) (am_nd_f c2915) ?_
      refine am_r_go (show am_stepn X T_UpRiverModel_read 11 true (23, [(0, am_pv 65), (1, am_iv x1), (2, am_iv x2), (3, am_iv x3), (4, am_iv x4)], [], am_SH, (J, K, am_RF b)) = some ((am_in 6 216 && true), .inl (41, [(0, am_pv 65), (1, am_iv x1), (2, am_iv x2), (3, am_iv x3), (4, am_iv x4), (5, am_iv (J 68 6)), (6, am_iv 0), (7, am_iv 0), (8, am_iv 0)], [], am_SH, (J, K, am_RF b))) from rfl) (am_gi (by decide) rfl) ?_
      exact s_UpRiverModel_read_L41  _ _ _ _ _ _ _ _ _ _ _ h
