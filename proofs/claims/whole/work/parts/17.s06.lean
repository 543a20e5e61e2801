theorem s_UpRiver_days_L40_f {X : am_X}  : ∀ (n : Nat) (x1 : Int) (x2 : Int) (x3 : Int) (x4 : Int) (x5 : Int) (x6 : Int) (J : am_J) (K : am_K) (r : Int × am_J × am_K), f_UpRiver_days_L40 false  n x1 x2 x3 x4 x5 x6 J K = some r → am_runs X T_UpRiver_days (40, [(0, am_pv 0), (1, am_iv x1), (2, am_iv x2), (3, am_iv x3), (4, am_iv x4), (5, am_iv x5), (6, am_iv x6)], [], am_SH, (J, K, am_RF false)) (some (am_iv r.1), am_SH, (r.2.1, r.2.2, am_RF false)) := by
  intro n
  induction n with
  | zero =>
    intro x1 x2 x3 x4 x5 x6 J K r h
    cases h
  | succ n ih =>
    intro x1 x2 x3 x4 x5 x6 J K r h
    rw [f_UpRiver_days_L40.eq_2] at h
    obtain ⟨g896, h⟩ := am_if_some h
    obtain ⟨g897, h⟩ := am_if_some h
    by_cases c898 : x6 < x1
    · rw [if_pos c898] at h
      refine am_r_f (show am_stepn X T_UpRiver_days 3 true (40, [(0, am_pv 0), (1, am_iv x1), (2, am_iv x2), (3, am_iv x3), (4, am_iv x4), (5, am_iv x5), (6, am_iv x6)], [], am_SH, (J, K, am_RF false)) = some (((decide (am_i32 x1) && decide (am_i32 x6)) && true), .inl (bif am_cb .ge x6 x1 then 136 else 46, [(0, am_pv 0), (1, am_iv x1), (2, am_iv x2), (3, am_iv x3), (4, am_iv x4), (5, am_iv x5), (6, am_iv x6)], [], am_SH, (J, K, am_RF false))) from rfl) (am_g2 g896 g897 rfl) (am_nd_t c898) ?_
      obtain ⟨q899, e900, h⟩ := am_bind_some h
      refine am_r_call (show am_stepn X T_UpRiver_days 6 true (46, [(0, am_pv 0), (1, am_iv x1), (2, am_iv x2), (3, am_iv x3), (4, am_iv x4), (5, am_iv x5), (6, am_iv x6)], [], am_SH, (J, K, am_RF false)) = some (true, .inr (.inl (51, [am_pv 30, am_pv (am_rv false), am_iv 0], 3, 0, 0, 58, [(0, am_pv 0), (1, am_iv x1), (2, am_iv x2), (3, am_iv x3), (4, am_iv x4), (5, am_iv x5), (6, am_iv x6)], [], am_SH, (J, K, am_RF false)))) from rfl) rfl tb_Boat_lieAtStart (s_Boat_lieAtStart (by decide) e900) ?_
      obtain ⟨q901, e902, h⟩ := am_bind_some h
      refine am_r_call (show am_stepn X T_UpRiver_days 8 true (58, [(0, am_pv 0), (1, am_iv x1), (2, am_iv x2), (3, am_iv x3), (4, am_iv x4), (5, am_iv x5), (6, am_iv x6)], [], am_SH, (q899, K, am_RF false)) = some (true, .inr (.inl (83, [am_pv 26, am_pv (am_rv false), am_iv (x6 * x2)], 4, 0, 0, 73, [(0, am_pv 0), (1, am_iv x1), (2, am_iv x2), (3, am_iv x3), (4, am_iv x4), (5, am_iv x5), (6, am_iv x6)], [], am_SH, (q899, K, am_RF false)))) from rfl) rfl tb_Search_begin (s_Search_begin (by decide) e902) ?_
      obtain ⟨q903, e904, h⟩ := am_bind_some h
      refine am_r_call (show am_stepn X T_UpRiver_days 5 true (73, [(0, am_pv 0), (1, am_iv x1), (2, am_iv x2), (3, am_iv x3), (4, am_iv x4), (5, am_iv x5), (6, am_iv x6)], [], am_SH, (q901.1, q901.2, am_RF false)) = some (true, .inr (.inl (86, [am_pv 26, am_pv 30], 2, 0, 0, 84, [(0, am_pv 0), (1, am_iv x1), (2, am_iv x2), (3, am_iv x3), (4, am_iv x4), (5, am_iv x5), (6, am_iv x6)], [], am_SH, (q901.1, q901.2, am_RF false)))) from rfl) rfl tb_Search_add (s_Search_add (by decide) e904) ?_
      obtain ⟨q905, e906, h⟩ := am_bind_some h
      refine am_r_call (show am_stepn X T_UpRiver_days 11 true (84, [(0, am_pv 0), (1, am_iv x1), (2, am_iv x2), (3, am_iv x3), (4, am_iv x4), (5, am_iv x5), (6, am_iv x6)], [], am_SH, (q901.1, q903, am_RF false)) = some ((am_in 6 7 && true), .inr (.inl (89, [am_pv 26, am_pv (am_rv false), am_iv 0, am_iv (q901.1 (am_rv false + 1) 6)], 6, 0, 0, 106, [(0, am_pv 0), (1, am_iv x1), (2, am_iv x2), (3, am_iv x3), (4, am_iv x4), (5, am_iv x5), (6, am_iv x6)], [], am_SH, (q901.1, q903, am_RF false)))) from rfl) (am_gi (by decide) rfl) tb_Search_arrive (s_Search_arrive (by decide) e906) ?_
      obtain ⟨g907, h⟩ := am_if_some h
      by_cases c908 : q905.1 = (-4)
      · rw [if_pos c908] at h
        refine am_r_t (show am_stepn X T_UpRiver_days 2 true (106, [(0, am_pv 0), (1, am_iv x1), (2, am_iv x2), (3, am_iv x3), (4, am_iv x4), (5, am_iv x5), (6, am_iv x6)], [am_iv q905.1], am_SH, (q905.2.1, q905.2.2, am_RF false)) = some (((decide (am_i32 (-4)) && decide (am_i32 q905.1)) && true), .inl (bif am_cb .eq q905.1 (-4) then 130 else 111, [(0, am_pv 0), (1, am_iv x1), (2, am_iv x2), (3, am_iv x3), (4, am_iv x4), (5, am_iv x5), (6, am_iv x6)], [], am_SH, (q905.2.1, q905.2.2, am_RF false))) from rfl) (am_g2 (by decide) g907 rfl) (decide_eq_true c908) ?_
        refine am_r_go (show am_stepn X T_UpRiver_days 2 true (130, [(0, am_pv 0), (1, am_iv x1), (2, am_iv x2), (3, am_iv x3), (4, am_iv x4), (5, am_iv x5), (6, am_iv x6)], [], am_SH, (q905.2.1, q905.2.2, am_RF false)) = some (true, .inl (40, [(0, am_pv 0), (1, am_iv x1), (2, am_iv x2), (3, am_iv x3), (4, am_iv x4), (5, am_iv x5), (6, am_iv (x6 + 1))], [], am_SH, (q905.2.1, q905.2.2, am_RF false))) from rfl) rfl ?_
        exact ih _ _ _ _ _ _ _ _ _ h
      · rw [if_neg c908] at h
        refine am_r_f (show am_stepn X T_UpRiver_days 2 true (106, [(0, am_pv 0), (1, am_iv x1), (2, am_iv x2), (3, am_iv x3), (4, am_iv x4), (5, am_iv x5), (6, am_iv x6)], [am_iv q905.1], am_SH, (q905.2.1, q905.2.2, am_RF false)) = some (((decide (am_i32 (-4)) && decide (am_i32 q905.1)) && true), .inl (bif am_cb .eq q905.1 (-4) then 130 else 111, [(0, am_pv 0), (1, am_iv x1), (2, am_iv x2), (3, am_iv x3), (4, am_iv x4), (5, am_iv x5), (6, am_iv x6)], [], am_SH, (q905.2.1, q905.2.2, am_RF false))) from rfl) (am_g2 (by decide) g907 rfl) (decide_eq_false c908) ?_
        obtain ⟨g909, h⟩ := am_if_some h
        by_cases c910 : x5 = (-4)
        · rw [if_pos c910] at h
          refine am_r_f (show am_stepn X T_UpRiver_days 4 true (111, [(0, am_pv 0), (1, am_iv x1), (2, am_iv x2), (3, am_iv x3), (4, am_iv x4), (5, am_iv x5), (6, am_iv x6)], [], am_SH, (q905.2.1, q905.2.2, am_RF false)) = some (((decide (am_i32 (-4)) && decide (am_i32 x5)) && true), .inl (bif am_cb .ne x5 (-4) then 126 else 121, [(0, am_pv 0), (1, am_iv x1), (2, am_iv x2), (3, am_iv x3), (4, am_iv (x4 + 1)), (5, am_iv x5), (6, am_iv x6)], [], am_SH, (q905.2.1, q905.2.2, am_RF false))) from rfl) (am_g2 (by decide) g909 rfl) (am_nd_t c910) ?_
          refine am_r_go (show am_stepn X T_UpRiver_days 5 true (121, [(0, am_pv 0), (1, am_iv x1), (2, am_iv x2), (3, am_iv x3), (4, am_iv (x4 + 1)), (5, am_iv x5), (6, am_iv x6)], [], am_SH, (q905.2.1, q905.2.2, am_RF false)) = some (true, .inl (40, [(0, am_pv 0), (1, am_iv x1), (2, am_iv x2), (3, am_iv x3), (4, am_iv (x4 + 1)), (5, am_iv x6), (6, am_iv (x6 + 1))], [], am_SH, (q905.2.1, q905.2.2, am_RF false))) from rfl) rfl ?_
          exact ih _ _ _ _ _ _ _ _ _ h
        · rw [if_neg c910] at h
          refine am_r_t (show am_stepn X T_UpRiver_days 4 true (111, [(0, am_pv 0), (1, am_iv x1), (2, am_iv x2), (3, am_iv x3), (4, am_iv x4), (5, am_iv x5), (6, am_iv x6)], [], am_SH, (q905.2.1, q905.2.2, am_RF false)) = some (((decide (am_i32 (-4)) && decide (am_i32 x5)) && true), .inl (bif am_cb .ne x5 (-4) then 126 else 121, [(0, am_pv 0), (1, am_iv x1), (2, am_iv x2), (3, am_iv x3), (4, am_iv (x4 + 1)), (5, am_iv x5), (6, am_iv x6)], [], am_SH, (q905.2.1, q905.2.2, am_RF false))) from rfl) (am_g2 (by decide) g909 rfl) (am_nd_f c910) ?_
          refine am_r_go (show am_stepn X T_UpRiver_days 4 true (126, [(0, am_pv 0), (1, am_iv x1), (2, am_iv x2), (3, am_iv x3), (4, am_iv (x4 + 1)), (5, am_iv x5), (6, am_iv x6)], [], am_SH, (q905.2.1, q905.2.2, am_RF false)) = some (true, .inl (40, [(0, am_pv 0), (1, am_iv x1), (2, am_iv x2), (3, am_iv x3), (4, am_iv (x4 + 1)), (5, am_iv x5), (6, am_iv (x6 + 1))], [], am_SH, (q905.2.1, q905.2.2, am_RF false))) from rfl) rfl ?_
          exact ih _ _ _ _ _ _ _ _ _ h
    · rw [if_neg c898] at h
      refine am_r_t (show am_stepn X T_UpRiver_days 3 true (40, [(0, am_pv 0), (1, am_iv x1), (2, am_iv x2), (3, am_iv x3), (4, am_iv x4), (5, am_iv x5), (6, am_iv x6)], [], am_SH, (J, K, am_RF false)) = some (((decide (am_i32 x1) && decide (am_i32 x6)) && true), .inl (bif am_cb .ge x6 x1 then 136 else 46, [(0, am_pv 0), (1, am_iv x1), (2, am_iv x2), (3, am_iv x3), (4, am_iv x4), (5, am_iv x5), (6, am_iv x6)], [], am_SH, (J, K, am_RF false))) from rfl) (am_g2 g896 g897 rfl) (am_nd_f c898) ?_
      obtain ⟨g911, h⟩ := am_if_some h
      by_cases c912 : x3 = 0
      · rw [if_pos c912] at h
        refine am_r_f (show am_stepn X T_UpRiver_days 2 true (136, [(0, am_pv 0), (1, am_iv x1), (2, am_iv x2), (3, am_iv x3), (4, am_iv x4), (5, am_iv x5), (6, am_iv x6)], [], am_SH, (J, K, am_RF false)) = some ((decide (am_i32 x3) && true), .inl (bif am_cb .ne x3 0 then 145 else 140, [(3, am_iv x3), (4, am_iv x4), (5, am_iv x5)], [], am_SH, (J, K, am_RF false))) from rfl) (am_g1 g911 rfl) (am_nd_t c912) ?_
        obtain rfl := Option.some.inj h
        exact am_r_ret (show am_stepn X T_UpRiver_days 3 true (140, [(3, am_iv x3), (4, am_iv x4), (5, am_iv x5)], [], am_SH, (J, K, am_RF false)) = some (true, .inr (.inr (some (am_iv x4), am_SH, (J, K, am_RF false)))) from rfl) rfl
      · rw [if_neg c912] at h
        refine am_r_t (show am_stepn X T_UpRiver_days 2 true (136, [(0, am_pv 0), (1, am_iv x1), (2, am_iv x2), (3, am_iv x3), (4, am_iv x4), (5, am_iv x5), (6, am_iv x6)], [], am_SH, (J, K, am_RF false)) = some ((decide (am_i32 x3) && true), .inl (bif am_cb .ne x3 0 then 145 else 140, [(3, am_iv x3), (4, am_iv x4), (5, am_iv x5)], [], am_SH, (J, K, am_RF false))) from rfl) (am_g1 g911 rfl) (am_nd_f c912) ?_
        obtain rfl := Option.some.inj h
        exact am_r_ret (show am_stepn X T_UpRiver_days 2 true (145, [(3, am_iv x3), (4, am_iv x4), (5, am_iv x5)], [], am_SH, (J, K, am_RF false)) = some (true, .inr (.inr (some (am_iv x5), am_SH, (J, K, am_RF false)))) from rfl) rfl
theorem s_UpRiver_days_f {X : am_X} {x1 : Int} {x2 : Int} {x3 : Int} {J : am_J} {K : am_K} {r : Int × am_J × am_K} (h : f_UpRiver_days false x1 x2 x3 J K = some r) : am_runs X T_UpRiver_days (0, [(0, am_pv 0), (1, am_iv x1), (2, am_iv x2), (3, am_iv x3)], [], am_SH, (J, K, am_RF false)) (some (am_iv r.1), am_SH, (r.2.1, r.2.2, am_RF false)) := by
  unfold f_UpRiver_days at h
  obtain ⟨g913, h⟩ := am_if_some h
  by_cases c914 : x1 < 1
  · rw [if_pos c914] at h
    refine am_r_t (show am_stepn X T_UpRiver_days 3 true (0, [(0, am_pv 0), (1, am_iv x1), (2, am_iv x2), (3, am_iv x3)], [], am_SH, (J, K, am_RF false)) = some (((decide (am_i32 1) && decide (am_i32 x1)) && true), .inl (bif am_cb .lt x1 1 then 28 else 5, [(0, am_pv 0), (1, am_iv x1), (2, am_iv x2), (3, am_iv x3)], [], am_SH, (J, K, am_RF false))) from rfl) (am_g2 (by decide) g913 rfl) (decide_eq_true c914) ?_
    obtain rfl := Option.some.inj h
    exact am_r_ret (show am_stepn X T_UpRiver_days 2 true (28, [(0, am_pv 0), (1, am_iv x1), (2, am_iv x2), (3, am_iv x3)], [], am_SH, (J, K, am_RF false)) = some (true, .inr (.inr (some (am_iv (-1)), am_SH, (J, K, am_RF false)))) from rfl) rfl
  · rw [if_neg c914] at h
    refine am_r_f (show am_stepn X T_UpRiver_days 3 true (0, [(0, am_pv 0), (1, am_iv x1), (2, am_iv x2), (3, am_iv x3)], [], am_SH, (J, K, am_RF false)) = some (((decide (am_i32 1) && decide (am_i32 x1)) && true), .inl (bif am_cb .lt x1 1 then 28 else 5, [(0, am_pv 0), (1, am_iv x1), (2, am_iv x2), (3, am_iv x3)], [], am_SH, (J, K, am_RF false))) from rfl) (am_g2 (by decide) g913 rfl) (decide_eq_false c914) ?_
    by_cases c915 : 14 < x1
    · rw [if_pos c915] at h
      refine am_r_t (show am_stepn X T_UpRiver_days 3 true (5, [(0, am_pv 0), (1, am_iv x1), (2, am_iv x2), (3, am_iv x3)], [], am_SH, (J, K, am_RF false)) = some (((decide (am_i32 14) && decide (am_i32 x1)) && true), .inl (bif am_cb .gt x1 14 then 28 else 11, [(0, am_pv 0), (1, am_iv x1), (2, am_iv x2), (3, am_iv x3)], [], am_SH, (J, K, am_RF false))) from rfl) (am_g2 (by decide) g913 rfl) (decide_eq_true c915) ?_
      obtain rfl := Option.some.inj h
      exact am_r_ret (show am_stepn X T_UpRiver_days 2 true (28, [(0, am_pv 0), (1, am_iv x1), (2, am_iv x2), (3, am_iv x3)], [], am_SH, (J, K, am_RF false)) = some (true, .inr (.inr (some (am_iv (-1)), am_SH, (J, K, am_RF false)))) from rfl) rfl
    · rw [if_neg c915] at h
      refine am_r_f (show am_stepn X T_UpRiver_days 3 true (5, [(0, am_pv 0), (1, am_iv x1), (2, am_iv x2), (3, am_iv x3)], [], am_SH, (J, K, am_RF false)) = some (((decide (am_i32 14) && decide (am_i32 x1)) && true), .inl (bif am_cb .gt x1 14 then 28 else 11, [(0, am_pv 0), (1, am_iv x1), (2, am_iv x2), (3, am_iv x3)], [], am_SH, (J, K, am_RF false))) from rfl) (am_g2 (by decide) g913 rfl) (decide_eq_false c915) ?_
      obtain ⟨g916, h⟩ := am_if_some h
      by_cases c917 : x2 < 0
      · rw [if_pos c917] at h
        refine am_r_t (show am_stepn X T_UpRiver_days 2 true (11, [(0, am_pv 0), (1, am_iv x1), (2, am_iv x2), (3, am_iv x3)], [], am_SH, (J, K, am_RF false)) = some ((decide (am_i32 x2) && true), .inl (bif am_cb .lt x2 0 then 28 else 15, [(0, am_pv 0), (1, am_iv x1), (2, am_iv x2), (3, am_iv x3)], [], am_SH, (J, K, am_RF false))) from rfl) (am_g1 g916 rfl) (decide_eq_true c917) ?_
        obtain rfl := Option.some.inj h
        exact am_r_ret (show am_stepn X T_UpRiver_days 2 true (28, [(0, am_pv 0), (1, am_iv x1), (2, am_iv x2), (3, am_iv x3)], [], am_SH, (J, K, am_RF false)) = some (true, .inr (.inr (some (am_iv (-1)), am_SH, (J, K, am_RF false)))) from rfl) rfl
      · rw [if_neg c917] at h
        refine am_r_f (show am_stepn X T_UpRiver_days 2 true (11, [(0, am_pv 0), (1, am_iv x1), (2, am_iv x2), (3, am_iv x3)], [], am_SH, (J, K, am_RF false)) = some ((decide (am_i32 x2) && true), .inl (bif am_cb .lt x2 0 then 28 else 15, [(0, am_pv 0), (1, am_iv x1), (2, am_iv x2), (3, am_iv x3)], [], am_SH, (J, K, am_RF false))) from rfl) (am_g1 g916 rfl) (decide_eq_false c917) ?_
        by_cases c918 : 99 < x2
        · rw [if_pos c918] at h
          refine am_r_t (show am_stepn X T_UpRiver_days 3 true (15, [(0, am_pv 0), (1, am_iv x1), (2, am_iv x2), (3, am_iv x3)], [], am_SH, (J, K, am_RF false)) = some (((decide (am_i32 99) && decide (am_i32 x2)) && true), .inl (bif am_cb .gt x2 99 then 28 else 21, [(0, am_pv 0), (1, am_iv x1), (2, am_iv x2), (3, am_iv x3)], [], am_SH, (J, K, am_RF false))) from rfl) (am_g2 (by decide) g916 rfl) (decide_eq_true c918) ?_
          obtain rfl := Option.some.inj h
          exact am_r_ret (show am_stepn X T_UpRiver_days 2 true (28, [(0, am_pv 0), (1, am_iv x1), (2, am_iv x2), (3, am_iv x3)], [], am_SH, (J, K, am_RF false)) = some (true, .inr (.inr (some (am_iv (-1)), am_SH, (J, K, am_RF false)))) from rfl) rfl
        · rw [if_neg c918] at h
          refine am_r_f (show am_stepn X T_UpRiver_days 3 true (15, [(0, am_pv 0), (1, am_iv x1), (2, am_iv x2), (3, am_iv x3)], [], am_SH, (J, K, am_RF false)) = some (((decide (am_i32 99) && decide (am_i32 x2)) && true), .inl (bif am_cb .gt x2 99 then 28 else 21, [(0, am_pv 0), (1, am_iv x1), (2, am_iv x2), (3, am_iv x3)], [], am_SH, (J, K, am_RF false))) from rfl) (am_g2 (by decide) g916 rfl) (decide_eq_false c918) ?_
          obtain ⟨q919, e920, h⟩ := am_bind_some h
          refine am_r_call (show am_stepn X T_UpRiver_days 2 true (21, [(0, am_pv 0), (1, am_iv x1), (2, am_iv x2), (3, am_iv x3)], [], am_SH, (J, K, am_RF false)) = some (true, .inr (.inl (67, [am_iv x3], 1, 0, 0, 25, [(0, am_pv 0), (1, am_iv x1), (2, am_iv x2), (3, am_iv x3)], [], am_SH, (J, K, am_RF false)))) from rfl) rfl tb_UpRiver_isYesOrNo (s_UpRiver_isYesOrNo e920) ?_
          obtain ⟨g921, h⟩ := am_if_some h
          by_cases c922 : q919 = 0
          · rw [if_pos c922] at h
            refine am_r_f (show am_stepn X T_UpRiver_days 1 true (25, [(0, am_pv 0), (1, am_iv x1), (2, am_iv x2), (3, am_iv x3)], [am_iv q919], am_SH, (J, K, am_RF false)) = some ((decide (am_i32 q919) && true), .inl (bif am_cb .ne q919 0 then 30 else 28, [(0, am_pv 0), (1, am_iv x1), (2, am_iv x2), (3, am_iv x3)], [], am_SH, (J, K, am_RF false))) from rfl) (am_g1 g921 rfl) (am_nd_t c922) ?_
            obtain rfl := Option.some.inj h
            exact am_r_ret (show am_stepn X T_UpRiver_days 2 true (28, [(0, am_pv 0), (1, am_iv x1), (2, am_iv x2), (3, am_iv x3)], [], am_SH, (J, K, am_RF false)) = some (true, .inr (.inr (some (am_iv (-1)), am_SH, (J, K, am_RF false)))) from rfl) rfl
          · rw [if_neg c922] at h
            refine am_r_t (show am_stepn X T_UpRiver_days 1 true (25, [(0, am_pv 0), (1, am_iv x1), (2, am_iv x2), (3, am_iv x3)], [am_iv q919], am_SH, (J, K, am_RF false)) = some ((decide (am_i32 q919) && true), .inl (bif am_cb .ne q919 0 then 30 else 28, [(0, am_pv 0), (1, am_iv x1), (2, am_iv x2), (3, am_iv x3)], [], am_SH, (J, K, am_RF false))) from rfl) (am_g1 g921 rfl) (am_nd_f c922) ?_
            refine am_r_go (show am_stepn X T_UpRiver_days 6 true (30, [(0, am_pv 0), (1, am_iv x1), (2, am_iv x2), (3, am_iv x3)], [], am_SH, (J, K, am_RF false)) = some (true, .inl (40, [(0, am_pv 0), (1, am_iv x1), (2, am_iv x2), (3, am_iv x3), (4, am_iv 0), (5, am_iv (-4)), (6, am_iv 0)], [], am_SH, (J, K, am_RF false))) from rfl) rfl ?_
            exact s_UpRiver_days_L40_f  _ _ _ _ _ _ _ _ _ _ h
theorem s_UpRiver_days_L40_t {X : am_X}  : ∀ (n : Nat) (x1 : Int) (x2 : Int) (x3 : Int) (x4 : Int) (x5 : Int) (x6 : Int) (J : am_J) (K : am_K) (r : Int × am_J × am_K), f_UpRiver_days_L40 true  n x1 x2 x3 x4 x5 x6 J K = some r → am_runs X T_UpRiver_days (40, [(0, am_pv 0), (1, am_iv x1), (2, am_iv x2), (3, am_iv x3), (4, am_iv x4), (5, am_iv x5), (6, am_iv x6)], [], am_SH, (J, K, am_RF true)) (some (am_iv r.1), am_SH, (r.2.1, r.2.2, am_RF true)) := by
  intro n
  induction n with
  | zero =>
    intro x1 x2 x3 x4 x5 x6 J K r h
    cases h
  | succ n ih =>
    intro x1 x2 x3 x4 x5 x6 J K r h
    rw [f_UpRiver_days_L40.eq_2] at h
    obtain ⟨g896, h⟩ := am_if_some h
    obtain ⟨g897, h⟩ := am_if_some h
    by_cases c898 : x6 < x1
    · rw [if_pos c898] at h
      refine am_r_f (show am_stepn X T_UpRiver_days 3 true (40, [(0, am_pv 0), (1, am_iv x1), (2, am_iv x2), (3, am_iv x3), (4, am_iv x4), (5, am_iv x5), (6, am_iv x6)], [], am_SH, (J, K, am_RF true)) = some (((decide (am_i32 x1) && decide (am_i32 x6)) && true), .inl (bif am_cb .ge x6 x1 then 136 else 46, [(0, am_pv 0), (1, am_iv x1), (2, am_iv x2), (3, am_iv x3), (4, am_iv x4), (5, am_iv x5), (6, am_iv x6)], [], am_SH, (J, K, am_RF true))) from rfl) (am_g2 g896 g897 rfl) (am_nd_t c898) ?_
      obtain ⟨q899, e900, h⟩ := am_bind_some h
      refine am_r_call (show am_stepn X T_UpRiver_days 6 true (46, [(0, am_pv 0), (1, am_iv x1), (2, am_iv x2), (3, am_iv x3), (4, am_iv x4), (5, am_iv x5), (6, am_iv x6)], [], am_SH, (J, K, am_RF true)) = some (true, .inr (.inl (51, [am_pv 30, am_pv (am_rv true), am_iv 0], 3, 0, 0, 58, [(0, am_pv 0), (1, am_iv x1), (2, am_iv x2), (3, am_iv x3), (4, am_iv x4), (5, am_iv x5), (6, am_iv x6)], [], am_SH, (J, K, am_RF true)))) from rfl) rfl tb_Boat_lieAtStart (s_Boat_lieAtStart (by decide) e900) ?_
      obtain ⟨q901, e902, h⟩ := am_bind_some h
      refine am_r_call (show am_stepn X T_UpRiver_days 8 true (58, [(0, am_pv 0), (1, am_iv x1), (2, am_iv x2), (3, am_iv x3), (4, am_iv x4), (5, am_iv x5), (6, am_iv x6)], [], am_SH, (q899, K, am_RF true)) = some (true, .inr (.inl (83, [am_pv 26, am_pv (am_rv true), am_iv (x6 * x2)], 4, 0, 0, 73, [(0, am_pv 0), (1, am_iv x1), (2, am_iv x2), (3, am_iv x3), (4, am_iv x4), (5, am_iv x5), (6, am_iv x6)], [], am_SH, (q899, K, am_RF true)))) from rfl) rfl tb_Search_begin (s_Search_begin (by decide) e902) ?_
      obtain ⟨q903, e904, h⟩ := am_bind_some h
      refine am_r_call (show am_stepn X T_UpRiver_days 5 true (73, [(0, am_pv 0), (1, am_iv x1), (2, am_iv x2), (3, am_iv x3), (4, am_iv x4), (5, am_iv x5), (6, am_iv x6)], [], am_SH, (q901.1, q901.2, am_RF true)) = some (true, .inr (.inl (86, [am_pv 26, am_pv 30], 2, 0, 0, 84, [(0, am_pv 0), (1, am_iv x1), (2, am_iv x2), (3, am_iv x3), (4, am_iv x4), (5, am_iv x5), (6, am_iv x6)], [], am_SH, (q901.1, q901.2, am_RF true)))) from rfl) rfl tb_Search_add (s_Search_add (by decide) e904) ?_
      obtain ⟨q905, e906, h⟩ := am_bind_some h
      refine am_r_call (show am_stepn X T_UpRiver_days 11 true (84, [(0, am_pv 0), (1, am_iv x1), (2, am_iv x2), (3, am_iv x3), (4, am_iv x4), (5, am_iv x5), (6, am_iv x6)], [], am_SH, (q901.1, q903, am_RF true)) = some ((am_in 6 7 && true), .inr (.inl (89, [am_pv 26, am_pv (am_rv true), am_iv 0, am_iv (q901.1 (am_rv true + 1) 6)], 6, 0, 0, 106, [(0, am_pv 0), (1, am_iv x1), (2, am_iv x2), (3, am_iv x3), (4, am_iv x4), (5, am_iv x5), (6, am_iv x6)], [], am_SH, (q901.1, q903, am_RF true)))) from rfl) (am_gi (by decide) rfl) tb_Search_arrive (s_Search_arrive (by decide) e906) ?_
      obtain ⟨g907, h⟩ := am_if_some h
      by_cases c908 : q905.1 = (-4)
      · rw [if_pos c908] at h
        refine am_r_t (show am_stepn X T_UpRiver_days 2 true (106, [(0, am_pv 0), (1, am_iv x1), (2, am_iv x2), (3, am_iv x3), (4, am_iv x4), (5, am_iv x5), (6, am_iv x6)], [am_iv q905.1], am_SH, (q905.2.1, q905.2.2, am_RF true)) = some (((decide (am_i32 (-4)) && decide (am_i32 q905.1)) && true), .inl (bif am_cb .eq q905.1 (-4) then 130 else 111, [(0, am_pv 0), (1, am_iv x1), (2, am_iv x2), (3, am_iv x3), (4, am_iv x4), (5, am_iv x5), (6, am_iv x6)], [], am_SH, (q905.2.1, q905.2.2, am_RF true))) from rfl) (am_g2 (by decide) g907 rfl) (decide_eq_true c908) ?_
        refine am_r_go (show am_stepn X T_UpRiver_days 2 true (130, [(0, am_pv 0), (1, am_iv x1), (2, am_iv x2), (3, am_iv x3), (4, am_iv x4), (5, am_iv x5), (6, am_iv x6)], [], am_SH, (q905.2.1, q905.2.2, am_RF true)) = some (true, .inl (40, [(0, am_pv 0), (1, am_iv x1), (2, am_iv x2), (3, am_iv x3), (4, am_iv x4), (5, am_iv x5), (6, am_iv (x6 + 1))], [], am_SH, (q905.2.1, q905.2.2, am_RF true))) from rfl) rfl ?_
        exact ih _ _ _ _ _ _ _ _ _ h
      · rw [if_neg c908] at h
        refine am_r_f (show am_stepn X T_UpRiver_days 2 true (106, [(0, am_pv 0), (1, am_iv x1), (2, am_iv x2), (3, am_iv x3), (4, am_iv x4), (5, am_iv x5), (6, am_iv x6)], [am_iv q905.1], am_SH, (q905.2.1, q905.2.2, am_RF true)) = some (((decide (am_i32 (-4)) && decide (am_i32 q905.1)) && true), .inl (bif am_cb .eq q905.1 (-4) then 130 else 111, [(0, am_pv 0), (1, am_iv x1), (2, am_iv x2), (3, am_iv x3), (4, am_iv x4), (5, am_iv x5), (6, am_iv x6)], [], am_SH, (q905.2.1, q905.2.2, am_RF true))) from rfl) (am_g2 (by decide) g907 rfl) (decide_eq_false c908) ?_
        obtain ⟨g909, h⟩ := am_if_some h
        by_cases c910 : x5 = (-4)
        · rw [if_pos c910] at h
          refine am_r_f (show am_stepn X T_UpRiver_days 4 true (111, [(0, am_pv 0), (1, am_iv x1), (2, am_iv x2), (3, am_iv x3), (4, am_iv x4), (5, am_iv x5), (6, am_iv x6)], [], am_SH, (q905.2.1, q905.2.2, am_RF true)) = some (((decide (am_i32 (-4)) && decide (am_i32 x5)) && true), .inl (bif am_cb .ne x5 (-4) then 126 else 121, [(0, am_pv 0), (1, am_iv x1), (2, am_iv x2), (3, am_iv x3), (4, am_iv (x4 + 1)), (5, am_iv x5), (6, am_iv x6)], [], am_SH, (q905.2.1, q905.2.2, am_RF true))) from rfl) (am_g2 (by decide) g909 rfl) (am_nd_t c910) ?_
          refine am_r_go (show am_stepn X T_UpRiver_days 5 true (121, [(0, am_pv 0), (1, am_iv x1), (2, am_iv x2), (3, am_iv x3), (4, am_iv (x4 + 1)), (5, am_iv x5), (6, am_iv x6)], [], am_SH, (q905.2.1, q905.2.2, am_RF true)) = some (true, .inl (40, [(0, am_pv 0), (1, am_iv x1), (2, am_iv x2), (3, am_iv x3), (4, am_iv (x4 + 1)), (5, am_iv x6), (6, am_iv (x6 + 1))], [], am_SH, (q905.2.1, q905.2.2, am_RF true))) from rfl) rfl ?_
          exact ih _ _ _ _ _ _ _ _ _ h
        · rw [if_neg c910] at h
          refine am_r_t (show am_stepn X T_UpRiver_days 4 true (111, [(0, am_pv 0), (1, am_iv x1), (2, am_iv x2), (3, am_iv x3), (4, am_iv x4), (5, am_iv x5), (6, am_iv x6)], [], am_SH, (q905.2.1, q905.2.2, am_RF true)) = some (((decide (am_i32 (-4)) && decide (am_i32 x5)) && true), .inl (bif am_cb .ne x5 (-4) then 126 else 121, [(0, am_pv 0), (1, am_iv x1), (2, am_iv x2), (3, am_iv x3), (4, am_iv (x4 + 1)), (5, am_iv x5), (6, am_iv x6)], [], am_SH, (q905.2.1, q905.2.2, am_RF true))) from rfl) (am_g2 (by decide) g909 rfl) (am_nd_f c910) ?_
          refine am_r_go (show am_stepn X T_UpRiver_days 4 true (126, [(0, am_pv 0), (1, am_iv x1), (2, am_iv x2), (3, am_iv x3), (4, am_iv (x4 + 1)), (5, am_iv x5), (6, am_iv x6)], [], am_SH, (q905.2.1, q905.2.2, am_RF true)) = some (true, .inl (40, [(0, am_pv 0), (1, am_iv x1), (2, am_iv x2), (3, am_iv x3), (4, am_iv (x4 + 1)), (5, am_iv x5), (6, am_iv (x6 + 1))], [], am_SH, (q905.2.1, q905.2.2, am_RF true))) from rfl) rfl ?_
          exact ih _ _ _ _ _ _ _ _ _ h
    · rw [if_neg c898] at h
      refine am_r_t (show am_stepn X T_UpRiver_days 3 true (40, [(0, am_pv 0), (1, am_iv x1), (2, am_iv x2), (3, am_iv x3), (4, am_iv x4), (5, am_iv x5), (6, am_iv x6)], [], am_SH, (J, K, am_RF true)) = some (((decide (am_i32 x1) && decide (am_i32 x6)) && true), .inl (bif am_cb .ge x6 x1 then 136 else 46, [(0, am_pv 0), (1, am_iv x1), (2, am_iv x2), (3, am_iv x3), (4, am_iv x4), (5, am_iv x5), (6, am_iv x6)], [], am_SH, (J, K, am_RF true))) from rfl) (am_g2 g896 g897 rfl) (am_nd_f c898) ?_
      obtain ⟨g911, h⟩ := am_if_some h
      by_cases c912 : x3 = 0
      · rw [if_pos c912] at h
        refine am_r_f (show am_stepn X T_UpRiver_days 2 true (136, [(0, am_pv 0), (1, am_iv x1), (2, am_iv x2), (3, am_iv x3), (4, am_iv x4), (5, am_iv x5), (6, am_iv x6)], [], am_SH, (J, K, am_RF true)) = some ((decide (am_i32 x3) && true), .inl (bif am_cb .ne x3 0 then 145 else 140, [(3, am_iv x3), (4, am_iv x4), (5, am_iv x5)], [], am_SH, (J, K, am_RF true))) from rfl) (am_g1 g911 rfl) (am_nd_t c912) ?_
        obtain rfl := Option.some.inj h
        exact am_r_ret (show am_stepn X T_UpRiver_days 3 true (140, [(3, am_iv x3), (4, am_iv x4), (5, am_iv x5)], [], am_SH, (J, K, am_RF true)) = some (true, .inr (.inr (some (am_iv x4), am_SH, (J, K, am_RF true)))) from rfl) rfl
      · rw [if_neg c912] at h
        refine am_r_t (show am_stepn X T_UpRiver_days 2 true (136, [(0, am_pv 0), (1, am_iv x1), (2, am_iv x2), (3, am_iv x3), (4, am_iv x4), (5, am_iv x5), (6, am_iv x6)], [], am_SH, (J, K, am_RF true)) = some ((decide (am_i32 x3) && true), .inl (bif am_cb .ne x3 0 then 145 else 140, [(3, am_iv x3), (4, am_iv x4), (5, am_iv x5)], [], am_SH, (J, K, am_RF true))) from rfl) (am_g1 g911 rfl) (am_nd_f c912) ?_
        obtain rfl := Option.some.inj h
        exact am_r_ret (show am_stepn X T_UpRiver_days 2 true (145, [(3, am_iv x3), (4, am_iv x4), (5, am_iv x5)], [], am_SH, (J, K, am_RF true)) = some (true, .inr (.inr (some (am_iv x5), am_SH, (J, K, am_RF true)))) from rfl) rfl
theorem s_UpRiver_days_t {X : am_X} {x1 : Int} {x2 : Int} {x3 : Int} {J : am_J} {K : am_K} {r : Int × am_J × am_K} (h : f_UpRiver_days true x1 x2 x3 J K = some r) : am_runs X T_UpRiver_days (0, [(0, am_pv 0), (1, am_iv x1), (2, am_iv x2), (3, am_iv x3)], [], am_SH, (J, K, am_RF true)) (some (am_iv r.1), am_SH, (r.2.1, r.2.2, am_RF true)) := by
  unfold f_UpRiver_days at h
  obtain ⟨g913, h⟩ := am_if_some h
  by_cases c914 : x1 < 1
  · rw [if_pos c914] at h
    refine am_r_t (show am_stepn X T_UpRiver_days 3 true (0, [(0, am_pv 0), (1, am_iv x1), (2, am_iv x2), (3, am_iv x3)], [], am_SH, (J, K, am_RF true)) = some (((decide (am_i32 1) && decide (am_i32 x1)) && true), .inl (bif am_cb .lt x1 1 then 28 else 5, [(0, am_pv 0), (1, am_iv x1), (2, am_iv x2), (3, am_iv x3)], [], am_SH, (J, K, am_RF true))) from rfl) (am_g2 (by decide) g913 rfl) (decide_eq_true c914) ?_
    obtain rfl := Option.some.inj h
    exact am_r_ret (show am_stepn X T_UpRiver_days 2 true (28, [(0, am_pv 0), (1, am_iv x1), (2, am_iv x2), (3, am_iv x3)], [], am_SH, (J, K, am_RF true)) = some (true, .inr (.inr (some (am_iv (-1)), am_SH, (J, K, am_RF true)))) from rfl) rfl
  · rw [if_neg c914] at h
    refine am_r_f (show am_stepn X T_UpRiver_days 3 true (0, [(0, am_pv 0), (1, am_iv x1), (2, am_iv x2), (3, am_iv x3)], [], am_SH, (J, K, am_RF true)) = some (((decide (am_i32 1) && decide (am_i32 x1)) && true), .inl (bif am_cb .lt x1 1 then 28 else 5, [(0, am_pv 0), (1, am_iv x1), (2, am_iv x2), (3, am_iv x3)], [], am_SH, (J, K, am_RF true))) from rfl) (am_g2 (by decide) g913 rfl) (decide_eq_false c914) ?_
    by_cases c915 : 14 < x1
    · rw [if_pos c915] at h
      refine am_r_t (show am_stepn X T_UpRiver_days 3 true (5, [(0, am_pv 0), (1, am_iv x1), (2, am_iv x2), (3, am_iv x3)], [], am_SH, (J, K, am_RF true)) = some (((decide (am_i32 14) && decide (am_i32 x1)) && true), .inl (bif am_cb .gt x1 14 then 28 else 11, [(0, am_pv 0), (1, am_iv x1), (2, am_iv x2), (3, am_iv x3)], [], am_SH, (J, K, am_RF true))) from rfl) (am_g2 (by decide) g913 rfl) (decide_eq_true c915) ?_
      obtain rfl := Option.some.inj h
      exact am_r_ret (show am_stepn X T_UpRiver_days 2 true (28, [(0, am_pv 0), (1, am_iv x1), (2, am_iv x2), (3, am_iv x3)], [], am_SH, (J, K, am_RF true)) = some (true, .inr (.inr (some (am_iv (-1)), am_SH, (J, K, am_RF true)))) from rfl) rfl
    · rw [if_neg c915] at h
      refine am_r_f (show am_stepn X T_UpRiver_days 3 true (5, [(0, am_pv 0), (1, am_iv x1), (2, am_iv x2), (3, am_iv x3)], [], am_SH, (J, K, am_RF true)) = some (((decide (am_i32 14) && decide (am_i32 x1)) && true), .inl (bif am_cb .gt x1 14 then 28 else 11, [(0, am_pv 0), (1, am_iv x1), (2, am_iv x2), (3, am_iv x3)], [], am_SH, (J, K, am_RF true))) from rfl) (am_g2 (by decide) g913 rfl) (decide_eq_false c915) ?_
      obtain ⟨g916, h⟩ := am_if_some h
      by_cases c917 : x2 < 0
      · rw [if_pos c917] at h
        refine am_r_t (show am_stepn X T_UpRiver_days 2 true (11, [(0, am_pv 0), (1, am_iv x1), (2, am_iv x2), (3, am_iv x3)], [], am_SH, (J, K, am_RF true)) = some ((decide (am_i32 x2) && true), .inl (bif am_cb .lt x2 0 then 28 else 15, [(0, am_pv 0), (1, am_iv x1), (2, am_iv x2), (3, am_iv x3)], [], am_SH, (J, K, am_RF true))) from rfl) (am_g1 g916 rfl) (decide_eq_true c917) ?_
        obtain rfl := Option.some.inj h
        exact am_r_ret (show am_stepn X T_UpRiver_days 2 true (28, [(0, am_pv 0), (1, am_iv x1), (2, am_iv x2), (3, am_iv x3)], [], am_SH, (J, K, am_RF true)) = some (true, .inr (.inr (some (am_iv (-1)), am_SH, (J, K, am_RF true)))) from rfl) rfl
      · rw [if_neg c917] at h
        refine am_r_f (show am_stepn X T_UpRiver_days 2 true (11, [(0, am_pv 0), (1, am_iv x1), (2, am_iv x2), (3, am_iv x3)], [], am_SH, (J, K, am_RF true)) = some ((decide (am_i32 x2) && true), .inl (bif am_cb .lt x2 0 then 28 else 15, [(0, am_pv 0), (1, am_iv x1), (2, am_iv x2), (3, am_iv x3)], [], am_SH, (J, K, am_RF true))) from rfl) (am_g1 g916 rfl) (decide_eq_false c917) ?_
        by_cases c918 : 99 < x2
        · rw [if_pos c918] at h
          refine am_r_t (show am_stepn X T_UpRiver_days 3 true (15, [(0, am_pv 0), (1, am_iv x1), (2, am_iv x2), (3, am_iv x3)], [], am_SH, (J, K, am_RF true)) = some (((decide (am_i32 99) && decide (am_i32 x2)) && true), .inl (bif am_cb .gt x2 99 then 28 else 21, [(0, am_pv 0), (1, am_iv x1), (2, am_iv x2), (3, am_iv x3)], [], am_SH, (J, K, am_RF true))) from rfl) (am_g2 (by decide) g916 rfl) (decide_eq_true c918) ?_
          obtain rfl := Option.some.inj h
          exact am_r_ret (show am_stepn X T_UpRiver_days 2 true (28, [(0, am_pv 0), (1, am_iv x1), (2, am_iv x2), (3, am_iv x3)], [], am_SH, (J, K, am_RF true)) = some (true, .inr (.inr (some (am_iv (-1)), am_SH, (J, K, am_RF true)))) from rfl) rfl
        · rw [if_neg c918] at h
          refine am_r_f (show am_stepn X T_UpRiver_days 3 true (15, [(0, am_pv 0), (1, am_iv x1), (2, am_iv x2), (3, am_iv x3)], [], am_SH, (J, K, am_RF true)) = some (((decide (am_i32 99) && decide (am_i32 x2)) && true), .inl (bif am_cb .gt x2 99 then 28 else 21, [(0, am_pv 0), (1, am_iv x1), (2, am_iv x2), (3, am_iv x3)], [], am_SH, (J, K, am_RF true))) from rfl) (am_g2 (by decide) g916 rfl) (decide_eq_false c918) ?_
          obtain ⟨q919, e920, h⟩ := am_bind_some h
          refine am_r_call (show am_stepn X T_UpRiver_days 2 true (21, [(0, am_pv 0), (1, am_iv x1), (2, am_iv x2), (3, am_iv x3)], [], am_SH, (J, K, am_RF true)) = some (true, .inr (.inl (67, [am_iv x3], 1, 0, 0, 25, [(0, am_pv 0), (1, am_iv x1), (2, am_iv x2), (3, am_iv x3)], [], am_SH, (J, K, am_RF true)))) from rfl) rfl tb_UpRiver_isYesOrNo (s_UpRiver_isYesOrNo e920) ?_
          obtain ⟨g921, h⟩ := am_if_some h
          by_cases c922 : q919 = 0
          · rw [if_pos c922] at h
            refine am_r_f (show am_stepn X T_UpRiver_days 1 true (25, [(0, am_pv 0), (1, am_iv x1), (2, am_iv x2), (3, am_iv x3)], [am_iv q919], am_SH, (J, K, am_RF true)) = some ((decide (am_i32 q919) && true), .inl (bif am_cb .ne q919 0 then 30 else 28, [(0, am_pv 0), (1, am_iv x1), (2, am_iv x2), (3, am_iv x3)], [], am_SH, (J, K, am_RF true))) from rfl) (am_g1 g921 rfl) (am_nd_t c922) ?_
            obtain rfl := Option.some.inj h
            exact am_r_ret (show am_stepn X T_UpRiver_days 2 true (28, [(0, am_pv 0), (1, am_iv x1), (2, am_iv x2), (3, am_iv x3)], [], am_SH, (J, K, am_RF true)) = some (true, .inr (.inr (some (am_iv (-1)), am_SH, (J, K, am_RF true)))) from rfl) rfl
          · rw [if_neg c922] at h
            refine am_r_t (show am_stepn X T_UpRiver_days 1 true (25, [(0, am_pv 0), (1, am_iv x1), (2, am_iv x2), (3, am_iv x3)], [am_iv q919], am_SH, (J, K, am_RF true)) = some ((decide (am_i32 q919) && true), .inl (bif am_cb .ne q919 0 then 30 else 28, [(0, am_pv 0), (1, am_iv x1), (2, am_iv x2), (3, am_iv x3)], [], am_SH, (J, K, am_RF true))) from rfl) (am_g1 g921 rfl) (am_nd_f c922) ?_
            refine am_r_go (show am_stepn X T_UpRiver_days 6 true (30, [(0, am_pv 0), (1, am_iv x1), (2, am_iv x2), (3, am_iv x3)], [], am_SH, (J, K, am_RF true)) = some (true, .inl (40, [(0, am_pv 0), (1, am_iv x1), (2, am_iv x2), (3, am_iv x3), (4, am_iv 0), (5, am_iv (-4)), (6, am_iv 0)], [], am_SH, (J, K, am_RF true))) from rfl) rfl ?_
            exact s_UpRiver_days_L40_t  _ _ _ _ _ _ _ _ _ _ h
theorem s_UpRiver_days {X : am_X} {b : Bool} {x1 : Int} {x2 : Int} {x3 : Int} {J : am_J} {K : am_K} {r : Int × am_J × am_K} (h : f_UpRiver_days b x1 x2 x3 J K = some r) : am_runs X T_UpRiver_days (0, [(0, am_pv 0), (1, am_iv x1), (2, am_iv x2), (3, am_iv x3)], [], am_SH, (J, K, am_RF b)) (some (am_iv r.1), am_SH, (r.2.1, r.2.2, am_RF b)) := by
  cases b
  · exact s_UpRiver_days_f h
  · exact s_UpRiver_days_t h
theorem s_UpRiver_isSkipper {X : am_X} {b : Bool} {J : am_J} {K : am_K} {x0 : Int} {x1 : Int} {r : Int} (h : f_UpRiver_isSkipper  x0 x1 = some r) : am_runs X T_UpRiver_isSkipper (0, [(0, am_iv x0), (1, am_iv x1)], [], am_SH, (J, K, am_RF b)) (some (am_iv r), am_SH, (J, K, am_RF b)) := by
  unfold f_UpRiver_isSkipper at h
  obtain ⟨g923, h⟩ := am_if_some h
  by_cases c924 : x0 < 0
  · rw [if_pos c924] at h
    refine am_r_t (show am_stepn X T_UpRiver_isSkipper 2 true (0, [(0, am_iv x0), (1, am_iv x1)], [], am_SH, (J, K, am_RF b)) = some ((decide (am_i32 x0) && true), .inl (bif am_cb .lt x0 0 then 21 else 4, [(0, am_iv x0), (1, am_iv x1)], [], am_SH, (J, K, am_RF b))) from rfl) (am_g1 g923 rfl) (decide_eq_true c924) ?_
    obtain rfl := Option.some.inj h
    exact am_r_ret (show am_stepn X T_UpRiver_isSkipper 2 true (21, [(0, am_iv x0), (1, am_iv x1)], [], am_SH, (J, K, am_RF b)) = some ((decide ((0 : Int) = 0 ∨ (0 : Int) = 1) && true), .inr (.inr (some (am_iv 0), am_SH, (J, K, am_RF b)))) from rfl) (am_g1 (by decide) rfl)
  · rw [if_neg c924] at h
    refine am_r_f (show am_stepn X T_UpRiver_isSkipper 2 true (0, [(0, am_iv x0), (1, am_iv x1)], [], am_SH, (J, K, am_RF b)) = some ((decide (am_i32 x0) && true), .inl (bif am_cb .lt x0 0 then 21 else 4, [(0, am_iv x0), (1, am_iv x1)], [], am_SH, (J, K, am_RF b))) from rfl) (am_g1 g923 rfl) (decide_eq_false c924) ?_
    by_cases c925 : 20 < x0
    · rw [if_pos c925] at h
      refine am_r_t (show am_stepn X T_UpRiver_isSkipper 3 true (4, [(0, am_iv x0), (1, am_iv x1)], [], am_SH, (J, K, am_RF b)) = some (((decide (am_i32 20) && decide (am_i32 x0)) && true), .inl (bif am_cb .gt x0 20 then 21 else 10, [(0, am_iv x0), (1, am_iv x1)], [], am_SH, (J, K, am_RF b))) from rfl) (am_g2 (by decide) g923 rfl) (decide_eq_true c925) ?_
      obtain rfl := Option.some.inj h
      exact am_r_ret (show am_stepn X T_UpRiver_isSkipper 2 true (21, [(0, am_iv x0), (1, am_iv x1)], [], am_SH, (J, K, am_RF b)) = some ((decide ((0 : Int) = 0 ∨ (0 : Int) = 1) && true), .inr (.inr (some (am_iv 0), am_SH, (J, K, am_RF b)))) from rfl) (am_g1 (by decide) rfl)
    · rw [if_neg c925] at h
      refine am_r_f (show am_stepn X T_UpRiver_isSkipper 3 true (4, [(0, am_iv x0), (1, am_iv x1)], [], am_SH, (J, K, am_RF b)) = some (((decide (am_i32 20) && decide (am_i32 x0)) && true), .inl (bif am_cb .gt x0 20 then 21 else 10, [(0, am_iv x0), (1, am_iv x1)], [], am_SH, (J, K, am_RF b))) from rfl) (am_g2 (by decide) g923 rfl) (decide_eq_false c925) ?_
      obtain ⟨q926, e927, h⟩ := am_bind_some h
      refine am_r_call (show am_stepn X T_UpRiver_isSkipper 2 true (10, [(0, am_iv x0), (1, am_iv x1)], [], am_SH, (J, K, am_RF b)) = some (true, .inr (.inl (67, [am_iv x1], 1, 0, 0, 14, [(1, am_iv x1)], [], am_SH, (J, K, am_RF b)))) from rfl) rfl tb_UpRiver_isYesOrNo (s_UpRiver_isYesOrNo e927) ?_
      obtain ⟨g928, h⟩ := am_if_some h
      by_cases c929 : q926 = 0
      · rw [if_pos c929] at h
        refine am_r_t (show am_stepn X T_UpRiver_isSkipper 1 true (14, [(1, am_iv x1)], [am_iv q926], am_SH, (J, K, am_RF b)) = some ((decide (am_i32 q926) && true), .inl (bif am_cb .eq q926 0 then 21 else 17, [(1, am_iv x1)], [], am_SH, (J, K, am_RF b))) from rfl) (am_g1 g928 rfl) (decide_eq_true c929) ?_
        obtain rfl := Option.some.inj h
        exact am_r_ret (show am_stepn X T_UpRiver_isSkipper 2 true (21, [(1, am_iv x1)], [], am_SH, (J, K, am_RF b)) = some ((decide ((0 : Int) = 0 ∨ (0 : Int) = 1) && true), .inr (.inr (some (am_iv 0), am_SH, (J, K, am_RF b)))) from rfl) (am_g1 (by decide) rfl)
      · rw [if_neg c929] at h
        refine am_r_f (show am_stepn X T_UpRiver_isSkipper 1 true (14, [(1, am_iv x1)], [am_iv q926], am_SH, (J, K, am_RF b)) = some ((decide (am_i32 q926) && true), .inl (bif am_cb .eq q926 0 then 21 else 17, [(1, am_iv x1)], [], am_SH, (J, K, am_RF b))) from rfl) (am_g1 g928 rfl) (decide_eq_false c929) ?_
        obtain rfl := Option.some.inj h
        exact am_r_ret (show am_stepn X T_UpRiver_isSkipper 3 true (17, [(1, am_iv x1)], [], am_SH, (J, K, am_RF b)) = some ((decide ((1 : Int) = 0 ∨ (1 : Int) = 1) && true), .inr (.inr (some (am_iv 1), am_SH, (J, K, am_RF b)))) from rfl) (am_g1 (by decide) rfl)
theorem s_Skipper_isOtherBoardBetter_L45_32_ {X : am_X} {b : Bool} {J : am_J} {K : am_K}  : ∀ (s0 : Int) (r : Int), f_Skipper_isOtherBoardBetter_L45 32 J   s0 = some r → am_runs X T_Skipper_isOtherBoardBetter (45, [(0, am_pv 28)], [am_iv s0], am_SH, (J, K, am_RF b)) (some (am_iv r), am_SH, (J, K, am_RF b)) := by
  intro s0 r h
  unfold f_Skipper_isOtherBoardBetter_L45 at h
  obtain ⟨g930, h⟩ := am_if_some h
  by_cases c931 : (J 28 2) = 1
  · rw [if_pos c931] at h
    refine am_r_f (show am_stepn X T_Skipper_isOtherBoardBetter 5 true (45, [(0, am_pv 28)], [am_iv s0], am_SH, (J, K, am_RF b)) = some (((decide (am_i32 1) && decide (am_i32 (J 28 2))) && true), .inl (bif am_cb .ne (J 28 2) 1 then 69 else 54, [(0, am_pv 28), (3, am_iv s0)], [], am_SH, (J, K, am_RF b))) from rfl) (am_g2 (by decide) g930 rfl) (am_nd_t c931) ?_
    obtain ⟨g932, h⟩ := am_if_some h
    by_cases c933 : (J 28 3) = 0
    · rw [if_pos c933] at h
      refine am_r_t (show am_stepn X T_Skipper_isOtherBoardBetter 3 true (54, [(0, am_pv 28), (3, am_iv s0)], [], am_SH, (J, K, am_RF b)) = some ((decide (am_i32 (J 28 3)) && true), .inl (bif am_cb .eq (J 28 3) 0 then 69 else 61, [(0, am_pv 28), (3, am_iv s0)], [], am_SH, (J, K, am_RF b))) from rfl) (am_g1 g932 rfl) (decide_eq_true c933) ?_
      obtain rfl := Option.some.inj h
      exact am_r_ret (show am_stepn X T_Skipper_isOtherBoardBetter 2 true (69, [(0, am_pv 28), (3, am_iv s0)], [], am_SH, (J, K, am_RF b)) = some ((decide ((0 : Int) = 0 ∨ (0 : Int) = 1) && true), .inr (.inr (some (am_iv 0), am_SH, (J, K, am_RF b)))) from rfl) (am_g1 (by decide) rfl)
    · rw [if_neg c933] at h
      refine am_r_f (show am_stepn X T_Skipper_isOtherBoardBetter 3 true (54, [(0, am_pv 28), (3, am_iv s0)], [], am_SH, (J, K, am_RF b)) = some ((decide (am_i32 (J 28 3)) && true), .inl (bif am_cb .eq (J 28 3) 0 then 69 else 61, [(0, am_pv 28), (3, am_iv s0)], [], am_SH, (J, K, am_RF b))) from rfl) (am_g1 g932 rfl) (decide_eq_false c933) ?_
      obtain ⟨g934, h⟩ := am_if_some h
      by_cases c935 : s0 = 0
      · rw [if_pos c935] at h
        refine am_r_t (show am_stepn X T_Skipper_isOtherBoardBetter 2 true (61, [(0, am_pv 28), (3, am_iv s0)], [], am_SH, (J, K, am_RF b)) = some ((decide (am_i32 s0) && true), .inl (bif am_cb .eq s0 0 then 69 else 65, [(3, am_iv s0)], [], am_SH, (J, K, am_RF b))) from rfl) (am_g1 g934 rfl) (decide_eq_true c935) ?_
        obtain rfl := Option.some.inj h
        exact am_r_ret (show am_stepn X T_Skipper_isOtherBoardBetter 2 true (69, [(3, am_iv s0)], [], am_SH, (J, K, am_RF b)) = some ((decide ((0 : Int) = 0 ∨ (0 : Int) = 1) && true), .inr (.inr (some (am_iv 0), am_SH, (J, K, am_RF b)))) from rfl) (am_g1 (by decide) rfl)
      · rw [if_neg c935] at h
        refine am_r_f (show am_stepn X T_Skipper_isOtherBoardBetter 2 true (61, [(0, am_pv 28), (3, am_iv s0)], [], am_SH, (J, K, am_RF b)) = some ((decide (am_i32 s0) && true), .inl (bif am_cb .eq s0 0 then 69 else 65, [(3, am_iv s0)], [], am_SH, (J, K, am_RF b))) from rfl) (am_g1 g934 rfl) (decide_eq_false c935) ?_
        obtain rfl := Option.some.inj h
        exact am_r_ret (show am_stepn X T_Skipper_isOtherBoardBetter 3 true (65, [(3, am_iv s0)], [], am_SH, (J, K, am_RF b)) = some ((decide ((1 : Int) = 0 ∨ (1 : Int) = 1) && true), .inr (.inr (some (am_iv 1), am_SH, (J, K, am_RF b)))) from rfl) (am_g1 (by decide) rfl)
  · rw [if_neg c931] at h
    refine am_r_t (show am_stepn X T_Skipper_isOtherBoardBetter 5 true (45, [(0, am_pv 28)], [am_iv s0], am_SH, (J, K, am_RF b)) = some (((decide (am_i32 1) && decide (am_i32 (J 28 2))) && true), .inl (bif am_cb .ne (J 28 2) 1 then 69 else 54, [(0, am_pv 28), (3, am_iv s0)], [], am_SH, (J, K, am_RF b))) from rfl) (am_g2 (by decide) g930 rfl) (am_nd_f c931) ?_
    obtain rfl := Option.some.inj h
    exact am_r_ret (show am_stepn X T_Skipper_isOtherBoardBetter 2 true (69, [(0, am_pv 28), (3, am_iv s0)], [], am_SH, (J, K, am_RF b)) = some ((decide ((0 : Int) = 0 ∨ (0 : Int) = 1) && true), .inr (.inr (some (am_iv 0), am_SH, (J, K, am_RF b)))) from rfl) (am_g1 (by decide) rfl)
theorem s_Skipper_isOtherBoardBetter_32_ {X : am_X} {b : Bool} {J : am_J} {K : am_K}  {r : Int} (h : f_Skipper_isOtherBoardBetter 32 J  = some r) : am_runs X T_Skipper_isOtherBoardBetter (0, [(0, am_pv 28), (1, am_pv 32)], [], am_SH, (J, K, am_RF b)) (some (am_iv r), am_SH, (J, K, am_RF b)) := by
  unfold f_Skipper_isOtherBoardBetter at h
  obtain ⟨g936, h⟩ := am_if_some h
  obtain ⟨q937, e938, h⟩ := am_bind_some h
  refine am_r_call (show am_stepn X T_Skipper_isOtherBoardBetter 14 true (0, [(0, am_pv 28), (1, am_pv 32)], [], am_SH, (J, K, am_RF b)) = some (((decide (0 < (8 : Int) ∧ am_i32 8) && decide (am_i32 (J 29 0))) && true), .inr (.inl (58, [am_pv 32, am_iv (am_dv (J 29 0) 8), am_iv (1 - (J 29 2))], 4, 0, 0, 25, [(0, am_pv 28), (1, am_pv 32), (2, am_iv (am_dv (J 29 0) 8))], [], am_SH, (J, K, am_RF b)))) from rfl) (am_g2 (by decide) g936 rfl) tb_River_wayOn (s_River_wayOn (by decide) e938) ?_
  obtain ⟨q939, e940, h⟩ := am_bind_some h
  refine am_r_call (show am_stepn X T_Skipper_isOtherBoardBetter 6 true (25, [(0, am_pv 28), (1, am_pv 32), (2, am_iv (am_dv (J 29 0) 8))], [am_iv q937], am_SH, (J, K, am_RF b)) = some (true, .inr (.inl (58, [am_pv 32, am_iv (am_dv (J 29 0) 8), am_iv (J 29 2)], 4, 0, 0, 37, [(0, am_pv 28), (1, am_pv 32), (2, am_iv (am_dv (J 29 0) 8))], [am_iv q937], am_SH, (J, K, am_RF b)))) from rfl) rfl tb_River_wayOn (s_River_wayOn (by decide) e940) ?_
  obtain ⟨g941, h⟩ := am_if_some h
  obtain ⟨g942, h⟩ := am_if_some h
  by_cases c943 : q939 < q937
  · rw [if_pos c943] at h
    refine am_r_f (show am_stepn X T_Skipper_isOtherBoardBetter 1 true (37, [(0, am_pv 28), (1, am_pv 32), (2, am_iv (am_dv (J 29 0) 8))], [am_iv q939, am_iv q937], am_SH, (J, K, am_RF b)) = some (((decide (am_i32 q939) && decide (am_i32 q937)) && true), .inl (bif am_cb .le q937 q939 then 44 else 40, [(0, am_pv 28), (1, am_pv 32), (2, am_iv (am_dv (J 29 0) 8))], [], am_SH, (J, K, am_RF b))) from rfl) (am_g2 g941 g942 rfl) (am_nd_t c943) ?_
    refine am_r_go (show am_stepn X T_Skipper_isOtherBoardBetter 2 true (40, [(0, am_pv 28), (1, am_pv 32), (2, am_iv (am_dv (J 29 0) 8))], [], am_SH, (J, K, am_RF b)) = some (true, .inl (45, [(0, am_pv 28)], [am_iv 1], am_SH, (J, K, am_RF b))) from rfl) rfl ?_
    exact s_Skipper_isOtherBoardBetter_L45_32_  _ _ h
  · rw [if_neg c943] at h
    refine am_r_t (show am_stepn X T_Skipper_isOtherBoardBetter 1 true (37, [(0, am_pv 28), (1, am_pv 32), (2, am_iv (am_dv (J 29 0) 8))], [am_iv q939, am_iv q937], am_SH, (J, K, am_RF b)) = some (((decide (am_i32 q939) && decide (am_i32 q937)) && true), .inl (bif am_cb .le q937 q939 then 44 else 40, [(0, am_pv 28), (1, am_pv 32), (2, am_iv (am_dv (J 29 0) 8))], [], am_SH, (J, K, am_RF b))) from rfl) (am_g2 g941 g942 rfl) (am_nd_f c943) ?_
    refine am_r_go (show am_stepn X T_Skipper_isOtherBoardBetter 1 true (44, [(0, am_pv 28), (1, am_pv 32), (2, am_iv (am_dv (J 29 0) 8))], [], am_SH, (J, K, am_RF b)) = some (true, .inl (45, [(0, am_pv 28)], [am_iv 0], am_SH, (J, K, am_RF b))) from rfl) rfl ?_
    exact s_Skipper_isOtherBoardBetter_L45_32_  _ _ h
theorem s_Skipper_isOtherBoardBetter_L45_6_ {X : am_X} {b : Bool} {J : am_J} {K : am_K}  : ∀ (s0 : Int) (r : Int), f_Skipper_isOtherBoardBetter_L45 6 J   s0 = some r → am_runs X T_Skipper_isOtherBoardBetter (45, [(0, am_pv 28)], [am_iv s0], am_SH, (J, K, am_RF b)) (some (am_iv r), am_SH, (J, K, am_RF b)) := by
  intro s0 r h
  unfold f_Skipper_isOtherBoardBetter_L45 at h
  obtain ⟨g930, h⟩ := am_if_some h
  by_cases c931 : (J 28 2) = 1
  · rw [if_pos c931] at h
    refine am_r_f (show am_stepn X T_Skipper_isOtherBoardBetter 5 true (45, [(0, am_pv 28)], [am_iv s0], am_SH, (J, K, am_RF b)) = some (((decide (am_i32 1) && decide (am_i32 (J 28 2))) && true), .inl (bif am_cb .ne (J 28 2) 1 then 69 else 54, [(0, am_pv 28), (3, am_iv s0)], [], am_SH, (J, K, am_RF b))) from rfl) (am_g2 (by decide) g930 rfl) (am_nd_t c931) ?_
    obtain ⟨g932, h⟩ := am_if_some h
    by_cases c933 : (J 28 3) = 0
    · rw [if_pos c933] at h
      refine am_r_t (show am_stepn X T_Skipper_isOtherBoardBetter 3 true (54, [(0, am_pv 28), (3, am_iv s0)], [], am_SH, (J, K, am_RF b)) = some ((decide (am_i32 (J 28 3)) && true), .inl (bif am_cb .eq (J 28 3) 0 then 69 else 61, [(0, am_pv 28), (3, am_iv s0)], [], am_SH, (J, K, am_RF b))) from rfl) (am_g1 g932 rfl) (decide_eq_true c933) ?_
      obtain rfl := Option.some.inj h
      exact am_r_ret (show am_stepn X T_Skipper_isOtherBoardBetter 2 true (69, [(0, am_pv 28), (3, am_iv s0)], [], am_SH, (J, K, am_RF b)) = some ((decide ((0 : Int) = 0 ∨ (0 : Int) = 1) && true), .inr (.inr (some (am_iv 0), am_SH, (J, K, am_RF b)))) from rfl) (am_g1 (by decide) rfl)
    · rw [if_neg c933] at h
      refine am_r_f (show am_stepn X T_Skipper_isOtherBoardBetter 3 true (54, [(0, am_pv 28), (3, am_iv s0)], [], am_SH, (J, K, am_RF b)) = some ((decide (am_i32 (J 28 3)) && true), .inl (bif am_cb .eq (J 28 3) 0 then 69 else 61, [(0, am_pv 28), (3, am_iv s0)], [], am_SH, (J, K, am_RF b))) from rfl) (am_g1 g932 rfl) (decide_eq_false c933) ?_
      obtain ⟨g934, h⟩ := am_if_some h
      by_cases c935 : s0 = 0
      · rw [if_pos c935] at h
        refine am_r_t (show am_stepn X T_Skipper_isOtherBoardBetter 2 true (61, [(0, am_pv 28), (3, am_iv s0)], [], am_SH, (J, K, am_RF b)) = some ((decide (am_i32 s0) && true), .inl (bif am_cb .eq s0 0 then 69 else 65, [(3, am_iv s0)], [], am_SH, (J, K, am_RF b))) from rfl) (am_g1 g934 rfl) (decide_eq_true c935) ?_
        obtain rfl := Option.some.inj h
        exact am_r_ret (show am_stepn X T_Skipper_isOtherBoardBetter 2 true (69, [(3, am_iv s0)], [], am_SH, (J, K, am_RF b)) = some ((decide ((0 : Int) = 0 ∨ (0 : Int) = 1) && true), .inr (.inr (some (am_iv 0), am_SH, (J, K, am_RF b)))) from rfl) (am_g1 (by decide) rfl)
      · rw [if_neg c935] at h
        refine am_r_f (show am_stepn X T_Skipper_isOtherBoardBetter 2 true (61, [(0, am_pv 28), (3, am_iv s0)], [], am_SH, (J, K, am_RF b)) = some ((decide (am_i32 s0) && true), .inl (bif am_cb .eq s0 0 then 69 else 65, [(3, am_iv s0)], [], am_SH, (J, K, am_RF b))) from rfl) (am_g1 g934 rfl) (decide_eq_false c935) ?_
        obtain rfl := Option.some.inj h
        exact am_r_ret (show am_stepn X T_Skipper_isOtherBoardBetter 3 true (65, [(3, am_iv s0)], [], am_SH, (J, K, am_RF b)) = some ((decide ((1 : Int) = 0 ∨ (1 : Int) = 1) && true), .inr (.inr (some (am_iv 1), am_SH, (J, K, am_RF b)))) from rfl) (am_g1 (by decide) rfl)
  · rw [if_neg c931] at h
    refine am_r_t (show am_stepn X T_Skipper_isOtherBoardBetter 5 true (45, [(0, am_pv 28)], [am_iv s0], am_SH, (J, K, am_RF b)) = some (((decide (am_i32 1) && decide (am_i32 (J 28 2))) && true), .inl (bif am_cb .ne (J 28 2) 1 then 69 else 54, [(0, am_pv 28), (3, am_iv s0)], [], am_SH, (J, K, am_RF b))) from rfl) (am_g2 (by decide) g930 rfl) (am_nd_f c931) ?_
    obtain rfl := Option.some.inj h
    exact am_r_ret (show am_stepn X T_Skipper_isOtherBoardBetter 2 true (69, [(0, am_pv 28), (3, am_iv s0)], [], am_SH, (J, K, am_RF b)) = some ((decide ((0 : Int) = 0 ∨ (0 : Int) = 1) && true), .inr (.inr (some (am_iv 0), am_SH, (J, K, am_RF b)))) from rfl) (am_g1 (by decide) rfl)
theorem s_Skipper_isOtherBoardBetter_6_ {X : am_X} {b : Bool} {J : am_J} {K : am_K}  {r : Int} (h : f_Skipper_isOtherBoardBetter 6 J  = some r) : am_runs X T_Skipper_isOtherBoardBetter (0, [(0, am_pv 28), (1, am_pv 6)], [], am_SH, (J, K, am_RF b)) (some (am_iv r), am_SH, (J, K, am_RF b)) := by
  unfold f_Skipper_isOtherBoardBetter at h
  obtain ⟨g936, h⟩ := am_if_some h
  obtain ⟨q937, e938, h⟩ := am_bind_some h
  refine am_r_call (show am_stepn X T_Skipper_isOtherBoardBetter 14 true (0, [(0, am_pv 28), (1, am_pv 6)], [], am_SH, (J, K, am_RF b)) = some (((decide (0 < (8 : Int) ∧ am_i32 8) && decide (am_i32 (J 29 0))) && true), .inr (.inl (58, [am_pv 6, am_iv (am_dv (J 29 0) 8), am_iv (1 - (J 29 2))], 4, 0, 0, 25, [(0, am_pv 28), (1, am_pv 6), (2, am_iv (am_dv (J 29 0) 8))], [], am_SH, (J, K, am_RF b)))) from rfl) (am_g2 (by decide) g936 rfl) tb_River_wayOn (s_River_wayOn (by decide) e938) ?_
  obtain ⟨q939, e940, h⟩ := am_bind_some h
  refine am_r_call (show am_stepn X T_Skipper_isOtherBoardBetter 6 true (25, [(0, am_pv 28), (1, am_pv 6), (2, am_iv (am_dv (J 29 0) 8))], [am_iv q937], am_SH, (J, K, am_RF b)) = some (true, .inr (.inl (58, [am_pv 6, am_iv (am_dv (J 29 0) 8), am_iv (J 29 2)], 4, 0, 0, 37, [(0, am_pv 28), (1, am_pv 6), (2, am_iv (am_dv (J 29 0) 8))], [am_iv q937], am_SH, (J, K, am_RF b)))) from rfl) rfl tb_River_wayOn (s_River_wayOn (by decide) e940) ?_
  obtain ⟨g941, h⟩ := am_if_some h
  obtain ⟨g942, h⟩ := am_if_some h
  by_cases c943 : q939 < q937
  · rw [if_pos c943] at h
    refine am_r_f (show am_stepn X T_Skipper_isOtherBoardBetter 1 true (37, [(0, am_pv 28), (1, am_pv 6), (2, am_iv (am_dv (J 29 0) 8))], [am_iv q939, am_iv q937], am_SH, (J, K, am_RF b)) = some (((decide (am_i32 q939) && decide (am_i32 q937)) && true), .inl (bif am_cb .le q937 q939 then 44 else 40, [(0, am_pv 28), (1, am_pv 6), (2, am_iv (am_dv (J 29 0) 8))], [], am_SH, (J, K, am_RF b))) from rfl) (am_g2 g941 g942 rfl) (am_nd_t c943) ?_
    refine am_r_go (show am_stepn X T_Skipper_isOtherBoardBetter 2 true (40, [(0, am_pv 28), (1, am_pv 6), (2, am_iv (am_dv (J 29 0) 8))], [], am_SH, (J, K, am_RF b)) = some (true, .inl (45, [(0, am_pv 28)], [am_iv 1], am_SH, (J, K, am_RF b))) from rfl) rfl ?_
    exact s_Skipper_isOtherBoardBetter_L45_6_  _ _ h
  · rw [if_neg c943] at h
    refine am_r_t (show am_stepn X T_Skipper_isOtherBoardBetter 1 true (37, [(0, am_pv 28), (1, am_pv 6), (2, am_iv (am_dv (J 29 0) 8))], [am_iv q939, am_iv q937], am_SH, (J, K, am_RF b)) = some (((decide (am_i32 q939) && decide (am_i32 q937)) && true), .inl (bif am_cb .le q937 q939 then 44 else 40, [(0, am_pv 28), (1, am_pv 6), (2, am_iv (am_dv (J 29 0) 8))], [], am_SH, (J, K, am_RF b))) from rfl) (am_g2 g941 g942 rfl) (am_nd_f c943) ?_
    refine am_r_go (show am_stepn X T_Skipper_isOtherBoardBetter 1 true (44, [(0, am_pv 28), (1, am_pv 6), (2, am_iv (am_dv (J 29 0) 8))], [], am_SH, (J, K, am_RF b)) = some (true, .inl (45, [(0, am_pv 28)], [am_iv 0], am_SH, (J, K, am_RF b))) from rfl) rfl ?_
    exact s_Skipper_isOtherBoardBetter_L45_6_  _ _ h
theorem s_Skipper_isOtherBoardBetter {X : am_X} {b : Bool} {o1 : Nat} (ho : o1 = 32 ∨ o1 = 6) {J : am_J} {K : am_K}  {r : Int} (h : f_Skipper_isOtherBoardBetter o1 J  = some r) : am_runs X T_Skipper_isOtherBoardBetter (0, [(0, am_pv 28), (1, am_pv o1)], [], am_SH, (J, K, am_RF b)) (some (am_iv r), am_SH, (J, K, am_RF b)) := by
  rcases ho with rfl | rfl
  · skip
    exact s_Skipper_isOtherBoardBetter_32_ h
  · skip
    exact s_Skipper_isOtherBoardBetter_6_ h
theorem s_Skipper_isShoalAhead_32_ {X : am_X} {b : Bool} {J : am_J} {K : am_K}  {r : Int} (h : f_Skipper_isShoalAhead 32 J  = some r) : am_runs X T_Skipper_isShoalAhead (0, [(0, am_pv 28), (1, am_pv 32)], [], am_SH, (J, K, am_RF b)) (some (am_iv r), am_SH, (J, K, am_RF b)) := by
  unfold f_Skipper_isShoalAhead at h
  obtain ⟨g944, h⟩ := am_if_some h
  obtain ⟨q945, e946, h⟩ := am_bind_some h
  refine am_r_call (show am_stepn X T_Skipper_isShoalAhead 17 true (0, [(0, am_pv 28), (1, am_pv 32)], [], am_SH, (J, K, am_RF b)) = some (((decide (0 < (8 : Int) ∧ am_i32 8) && decide (am_i32 (J 29 0))) && (am_in 2 7 && true)), .inr (.inl (75, [am_pv 29], 1, 0, 0, 30, [(0, am_pv 28), (1, am_pv 32), (2, am_iv ((J (32 + 1) 2) + (J 28 1)))], [am_iv (am_dv (J 29 0) 8), am_pv 32], am_SH, (J, K, am_RF b)))) from rfl) (am_g2 (by decide) g944 (am_gi (by decide) rfl)) tb_Boat_laneAhead (s_Boat_laneAhead (by decide) e946) ?_
  obtain ⟨q947, e948, h⟩ := am_bind_some h
  refine am_r_call (show am_stepn X T_Skipper_isShoalAhead 4 true (30, [(0, am_pv 28), (1, am_pv 32), (2, am_iv ((J (32 + 1) 2) + (J 28 1)))], [am_iv q945, am_iv (am_dv (J 29 0) 8), am_pv 32], am_SH, (J, K, am_RF b)) = some (true, .inr (.inl (69, [am_pv 32, am_iv (am_dv (J 29 0) 8), am_iv q945, am_iv (J 29 3)], 4, 0, 0, 40, [(0, am_pv 28), (1, am_pv 32), (2, am_iv ((J (32 + 1) 2) + (J 28 1)))], [], am_SH, (J, K, am_RF b)))) from rfl) rfl tb_River_waterAt (s_River_waterAt (by decide) e948) ?_
  obtain ⟨g949, h⟩ := am_if_some h
  obtain ⟨g950, h⟩ := am_if_some h
  by_cases c951 : q947 < ((J (32 + 1) 2) + (J 28 1))
  · rw [if_pos c951] at h
    refine am_r_f (show am_stepn X T_Skipper_isShoalAhead 2 true (40, [(0, am_pv 28), (1, am_pv 32), (2, am_iv ((J (32 + 1) 2) + (J 28 1)))], [am_iv q947], am_SH, (J, K, am_RF b)) = some (((decide (am_i32 ((J (32 + 1) 2) + (J 28 1))) && decide (am_i32 q947)) && true), .inl (bif am_cb .ge q947 ((J (32 + 1) 2) + (J 28 1)) then 48 else 44, [(0, am_pv 28), (1, am_pv 32), (2, am_iv ((J (32 + 1) 2) + (J 28 1)))], [], am_SH, (J, K, am_RF b))) from rfl) (am_g2 g949 g950 rfl) (am_nd_t c951) ?_
    obtain rfl := Option.some.inj h
    exact am_r_ret (show am_stepn X T_Skipper_isShoalAhead 3 true (44, [(0, am_pv 28), (1, am_pv 32), (2, am_iv ((J (32 + 1) 2) + (J 28 1)))], [], am_SH, (J, K, am_RF b)) = some ((decide ((1 : Int) = 0 ∨ (1 : Int) = 1) && true), .inr (.inr (some (am_iv 1), am_SH, (J, K, am_RF b)))) from rfl) (am_g1 (by decide) rfl)
  · rw [if_neg c951] at h
    refine am_r_t (show am_stepn X T_Skipper_isShoalAhead 2 true (40, [(0, am_pv 28), (1, am_pv 32), (2, am_iv ((J (32 + 1) 2) + (J 28 1)))], [am_iv q947], am_SH, (J, K, am_RF b)) = some (((decide (am_i32 ((J (32 + 1) 2) + (J 28 1))) && decide (am_i32 q947)) && true), .inl (bif am_cb .ge q947 ((J (32 + 1) 2) + (J 28 1)) then 48 else 44, [(0, am_pv 28), (1, am_pv 32), (2, am_iv ((J (32 + 1) 2) + (J 28 1)))], [], am_SH, (J, K, am_RF b))) from rfl) (am_g2 g949 g950 rfl) (am_nd_f c951) ?_
    obtain rfl := Option.some.inj h
    exact am_r_ret (show am_stepn X T_Skipper_isShoalAhead 2 true (48, [(0, am_pv 28), (1, am_pv 32), (2, am_iv ((J (32 + 1) 2) + (J 28 1)))], [], am_SH, (J, K, am_RF b)) = some ((decide ((0 : Int) = 0 ∨ (0 : Int) = 1) && true), .inr (.inr (some (am_iv 0), am_SH, (J, K, am_RF b)))) from rfl) (am_g1 (by decide) rfl)
theorem s_Skipper_isShoalAhead_6_ {X : am_X} {b : Bool} {J : am_J} {K : am_K}  {r : Int} (h : f_Skipper_isShoalAhead 6 J  = some r) : am_runs X T_Skipper_isShoalAhead (0, [(0, am_pv 28), (1, am_pv 6)], [], am_SH, (J, K, am_RF b)) (some (am_iv r), am_SH, (J, K, am_RF b)) := by
  unfold f_Skipper_isShoalAhead at h
  obtain ⟨g944, h⟩ := am_if_some h
  obtain ⟨q945, e946, h⟩ := am_bind_some h
  refine am_r_call (show am_stepn X T_Skipper_isShoalAhead 17 true (0, [(0, am_pv 28), (1, am_pv 6)], [], am_SH, (J, K, am_RF b)) = some (((decide (0 < (8 : Int) ∧ am_i32 8) && decide (am_i32 (J 29 0))) && (am_in 2 7 && true)), .inr (.inl (75, [am_pv 29], 1, 0, 0, 30, [(0, am_pv 28), (1, am_pv 6), (2, am_iv ((J (6 + 1) 2) + (J 28 1)))], [am_iv (am_dv (J 29 0) 8), am_pv 6], am_SH, (J, K, am_RF b)))) from rfl) (am_g2 (by decide) g944 (am_gi (by decide) rfl)) tb_Boat_laneAhead (s_Boat_laneAhead (by decide) e946) ?_
  obtain ⟨q947, e948, h⟩ := am_bind_some h
  refine am_r_call (show am_stepn X T_Skipper_isShoalAhead 4 true (30, [(0, am_pv 28), (1, am_pv 6), (2, am_iv ((J (6 + 1) 2) + (J 28 1)))], [am_iv q945, am_iv (am_dv (J 29 0) 8), am_pv 6], am_SH, (J, K, am_RF b)) = some (true, .inr (.inl (69, [am_pv 6, am_iv (am_dv (J 29 0) 8), am_iv q945, am_iv (J 29 3)], 4, 0, 0, 40, [(0, am_pv 28), (1, am_pv 6), (2, am_iv ((J (6 + 1) 2) + (J 28 1)))], [], am_SH, (J, K, am_RF b)))) from rfl) rfl tb_River_waterAt (s_River_waterAt (by decide) e948) ?_
  obtain ⟨g949, h⟩ := am_if_some h
  obtain ⟨g950, h⟩ := am_if_some h
  by_cases c951 : q947 < ((J (6 + 1) 2) + (J 28 1))
  · rw [if_pos c951] at h
    refine am_r_f (show am_stepn X T_Skipper_isShoalAhead 2 true (40, [(0, am_pv 28), (1, am_pv 6), (2, am_iv ((J (6 + 1) 2) + (J 28 1)))], [am_iv q947], am_SH, (J, K, am_RF b)) = some (((decide (am_i32 ((J (6 + 1) 2) + (J 28 1))) && decide (am_i32 q947)) && true), .inl (bif am_cb .ge q947 ((J (6 + 1) 2) + (J 28 1)) then 48 else 44, [(0, am_pv 28), (1, am_pv 6), (2, am_iv ((J (6 + 1) 2) + (J 28 1)))], [], am_SH, (J, K, am_RF b))) from rfl) (am_g2 g949 g950 rfl) (am_nd_t c951) ?_
    obtain rfl := Option.some.inj h
    exact am_r_ret (show am_stepn X T_Skipper_isShoalAhead 3 true (44, [(0, am_pv 28), (1, am_pv 6), (2, am_iv ((J (6 + 1) 2) + (J 28 1)))], [], am_SH, (J, K, am_RF b)) = some ((decide ((1 : Int) = 0 ∨ (1 : Int) = 1) && true), .inr (.inr (some (am_iv 1), am_SH, (J, K, am_RF b)))) from rfl) (am_g1 (by decide) rfl)
  · rw [if_neg c951] at h
    refine am_r_t (show am_stepn X T_Skipper_isShoalAhead 2 true (40, [(0, am_pv 28), (1, am_pv 6), (2, am_iv ((J (6 + 1) 2) + (J 28 1)))], [am_iv q947], am_SH, (J, K, am_RF b)) = some (((decide (am_i32 ((J (6 + 1) 2) + (J 28 1))) && decide (am_i32 q947)) && true), .inl (bif am_cb .ge q947 ((J (6 + 1) 2) + (J 28 1)) then 48 else 44, [(0, am_pv 28), (1, am_pv 6), (2, am_iv ((J (6 + 1) 2) + (J 28 1)))], [], am_SH, (J, K, am_RF b))) from rfl) (am_g2 g949 g950 rfl) (am_nd_f c951) ?_
    obtain rfl := Option.some.inj h
    exact am_r_ret (show am_stepn X T_Skipper_isShoalAhead 2 true (48, [(0, am_pv 28), (1, am_pv 6), (2, am_iv ((J (6 + 1) 2) + (J 28 1)))], [], am_SH, (J, K, am_RF b)) = some ((decide ((0 : Int) = 0 ∨ (0 : Int) = 1) && true), .inr (.inr (some (am_iv 0), am_SH, (J, K, am_RF b)))) from rfl) (am_g1 (by decide) rfl)
theorem s_Skipper_isShoalAhead {X : am_X} {b : Bool} {o1 : Nat} (ho : o1 = 32 ∨ o1 = 6) {J : am_J} {K : am_K}  {r : Int} (h : f_Skipper_isShoalAhead o1 J  = some r) : am_runs X T_Skipper_isShoalAhead (0, [(0, am_pv 28), (1, am_pv o1)], [], am_SH, (J, K, am_RF b)) (some (am_iv r), am_SH, (J, K, am_RF b)) := by
  rcases ho with rfl | rfl
  · skip
    exact s_Skipper_isShoalAhead_32_ h
  · skip
    exact s_Skipper_isShoalAhead_6_ h
theorem s_Skipper_act_L60_32_ {X : am_X} {b : Bool} {K : am_K}  : ∀ (x2 : Int) (s0 : Int) (J : am_J) (r : Int × am_J), f_Skipper_act_L60 32   x2 s0 J = some r → am_runs X T_Skipper_act (60, [(0, am_pv 28), (2, am_iv x2)], [am_iv s0], am_SH, (J, K, am_RF b)) (some (am_iv r.1), am_SH, (r.2, K, am_RF b)) := by
  intro x2 s0 J r h
  unfold f_Skipper_act_L60 at h
  obtain ⟨g952, h⟩ := am_if_some h
  by_cases c953 : s0 = 0
  · rw [if_pos c953] at h
    refine am_r_t (show am_stepn X T_Skipper_act 3 true (60, [(0, am_pv 28), (2, am_iv x2)], [am_iv s0], am_SH, (J, K, am_RF b)) = some ((decide (am_i32 s0) && true), .inl (bif am_cb .eq s0 0 then 81 else 65, [(0, am_pv 28), (2, am_iv x2), (3, am_iv s0)], [], am_SH, (J, K, am_RF b))) from rfl) (am_g1 g952 rfl) (decide_eq_true c953) ?_
    obtain rfl := Option.some.inj h
    exact am_r_ret (show am_stepn X T_Skipper_act 9 true (81, [(0, am_pv 28), (2, am_iv x2), (3, am_iv s0)], [], am_SH, (J, K, am_RF b)) = some ((decide ((1 : Int) = 0 ∨ (1 : Int) = 1) && true), .inr (.inr (some (am_iv 1), am_SH, ((am_up J 29 3 ((J 29 3) + 1)), K, am_RF b)))) from rfl) (am_g1 (by decide) rfl)
  · rw [if_neg c953] at h
    refine am_r_f (show am_stepn X T_Skipper_act 3 true (60, [(0, am_pv 28), (2, am_iv x2)], [am_iv s0], am_SH, (J, K, am_RF b)) = some ((decide (am_i32 s0) && true), .inl (bif am_cb .eq s0 0 then 81 else 65, [(0, am_pv 28), (2, am_iv x2), (3, am_iv s0)], [], am_SH, (J, K, am_RF b))) from rfl) (am_g1 g952 rfl) (decide_eq_false c953) ?_
    obtain ⟨g954, h⟩ := am_if_some h
    by_cases c955 : x2 = 0
    · rw [if_pos c955] at h
      refine am_r_f (show am_stepn X T_Skipper_act 3 true (65, [(0, am_pv 28), (2, am_iv x2), (3, am_iv s0)], [], am_SH, (J, K, am_RF b)) = some ((decide (am_i32 x2) && true), .inl (bif am_cb .ne x2 0 then 74 else 70, [(0, am_pv 28), (2, am_iv x2)], [am_pv 28], am_SH, (J, K, am_RF b))) from rfl) (am_g1 g954 rfl) (am_nd_t c955) ?_
      obtain rfl := Option.some.inj h
      exact am_r_ret (show am_stepn X T_Skipper_act 6 true (70, [(0, am_pv 28), (2, am_iv x2)], [am_pv 28], am_SH, (J, K, am_RF b)) = some ((decide ((1 : Int) = 0 ∨ (1 : Int) = 1) && (decide ((1 : Int) = 0 ∨ (1 : Int) = 1) && true)), .inr (.inr (some (am_iv 1), am_SH, ((am_up J 28 3 1), K, am_RF b)))) from rfl) (am_g1 (by decide) (am_g1 (by decide) rfl))
    · rw [if_neg c955] at h
      refine am_r_t (show am_stepn X T_Skipper_act 3 true (65, [(0, am_pv 28), (2, am_iv x2), (3, am_iv s0)], [], am_SH, (J, K, am_RF b)) = some ((decide (am_i32 x2) && true), .inl (bif am_cb .ne x2 0 then 74 else 70, [(0, am_pv 28), (2, am_iv x2)], [am_pv 28], am_SH, (J, K, am_RF b))) from rfl) (am_g1 g954 rfl) (am_nd_f c955) ?_
      obtain rfl := Option.some.inj h
      exact am_r_ret (show am_stepn X T_Skipper_act 5 true (74, [(0, am_pv 28), (2, am_iv x2)], [am_pv 28], am_SH, (J, K, am_RF b)) = some ((decide ((1 : Int) = 0 ∨ (1 : Int) = 1) && (decide ((0 : Int) = 0 ∨ (0 : Int) = 1) && true)), .inr (.inr (some (am_iv 1), am_SH, ((am_up J 28 3 0), K, am_RF b)))) from rfl) (am_g1 (by decide) (am_g1 (by decide) rfl))
theorem s_Skipper_act_L36_32_ {X : am_X} {b : Bool} {K : am_K}  : ∀ (s0 : Int) (J : am_J) (r : Int × am_J), f_Skipper_act_L36 32   s0 J = some r → am_runs X T_Skipper_act (36, [(0, am_pv 28), (1, am_pv 32)], [am_iv s0], am_SH, (J, K, am_RF b)) (some (am_iv r.1), am_SH, (r.2, K, am_RF b)) := by
  intro s0 J r h
  unfold f_Skipper_act_L36 at h
  obtain ⟨g956, h⟩ := am_if_some h
  by_cases c957 : s0 = 0
  · rw [if_pos c957] at h
    refine am_r_t (show am_stepn X T_Skipper_act 3 true (36, [(0, am_pv 28), (1, am_pv 32)], [am_iv s0], am_SH, (J, K, am_RF b)) = some ((decide (am_i32 s0) && true), .inl (bif am_cb .eq s0 0 then 52 else 41, [(0, am_pv 28), (1, am_pv 32), (2, am_iv s0)], [], am_SH, (J, K, am_RF b))) from rfl) (am_g1 g956 rfl) (decide_eq_true c957) ?_
    obtain ⟨q958, e959, h⟩ := am_bind_some h
    refine am_r_call (show am_stepn X T_Skipper_act 4 true (52, [(0, am_pv 28), (1, am_pv 32), (2, am_iv s0)], [], am_SH, (J, K, am_RF b)) = some (true, .inr (.inl (73, [am_pv 29, am_pv 32], 5, 0, 0, 60, [(0, am_pv 28), (1, am_pv 32), (2, am_iv s0)], [], am_SH, (J, K, am_RF b)))) from rfl) rfl tb_Boat_trySail (s_Boat_trySail (by decide) e959) ?_
    refine am_r_eq (σ' := (60, [(0, am_pv 28), (2, am_iv s0)], [am_iv q958.1], am_SH, (q958.2, K, am_RF b))) rfl ?_
    exact s_Skipper_act_L60_32_  _ _ _ _ h
  · rw [if_neg c957] at h
    refine am_r_f (show am_stepn X T_Skipper_act 3 true (36, [(0, am_pv 28), (1, am_pv 32)], [am_iv s0], am_SH, (J, K, am_RF b)) = some ((decide (am_i32 s0) && true), .inl (bif am_cb .eq s0 0 then 52 else 41, [(0, am_pv 28), (1, am_pv 32), (2, am_iv s0)], [], am_SH, (J, K, am_RF b))) from rfl) (am_g1 g956 rfl) (decide_eq_false c957) ?_
    obtain ⟨q960, e961, h⟩ := am_bind_some h
    refine am_r_call (show am_stepn X T_Skipper_act 4 true (41, [(0, am_pv 28), (1, am_pv 32), (2, am_iv s0)], [], am_SH, (J, K, am_RF b)) = some (true, .inr (.inl (77, [am_pv 29, am_pv 32], 4, 0, 0, 49, [(0, am_pv 28), (1, am_pv 32), (2, am_iv s0)], [], am_SH, (J, K, am_RF b)))) from rfl) rfl tb_Boat_tryTurn (s_Boat_tryTurn (by decide) e961) ?_
    refine am_r_go (show am_stepn X T_Skipper_act 1 true (49, [(0, am_pv 28), (1, am_pv 32), (2, am_iv s0)], [am_iv q960.1], am_SH, (q960.2, K, am_RF b)) = some (true, .inl (60, [(0, am_pv 28), (1, am_pv 32), (2, am_iv s0)], [am_iv q960.1], am_SH, (q960.2, K, am_RF b))) from rfl) rfl ?_
    refine am_r_eq (σ' := (60, [(0, am_pv 28), (2, am_iv s0)], [am_iv q960.1], am_SH, (q960.2, K, am_RF b))) rfl ?_
    exact s_Skipper_act_L60_32_  _ _ _ _ h
theorem s_Skipper_act_32_ {X : am_X} {b : Bool} {K : am_K} {J : am_J} {r : Int × am_J} (h : f_Skipper_act 32 J = some r) : am_runs X T_Skipper_act (0, [(0, am_pv 28), (1, am_pv 32)], [], am_SH, (J, K, am_RF b)) (some (am_iv r.1), am_SH, (r.2, K, am_RF b)) := by
  unfold f_Skipper_act at h
  obtain ⟨g962, h⟩ := am_if_some h
  by_cases c963 : (J 29 3) < 300
  · rw [if_pos c963] at h
    refine am_r_t (show am_stepn X T_Skipper_act 5 true (0, [(0, am_pv 28), (1, am_pv 32)], [], am_SH, (J, K, am_RF b)) = some (((decide (am_i32 300) && decide (am_i32 (J 29 3))) && true), .inl (bif am_cb .lt (J 29 3) 300 then 15 else 13, [(0, am_pv 28), (1, am_pv 32)], [], am_SH, (J, K, am_RF b))) from rfl) (am_g2 (by decide) g962 rfl) (decide_eq_true c963) ?_
    obtain ⟨q964, e965, h⟩ := am_bind_some h
    refine am_r_call (show am_stepn X T_Skipper_act 3 true (15, [(0, am_pv 28), (1, am_pv 32)], [], am_SH, (J, K, am_RF b)) = some (true, .inr (.inl (109, [am_pv 28, am_pv 32], 3, 0, 0, 20, [(0, am_pv 28), (1, am_pv 32)], [], am_SH, (J, K, am_RF b)))) from rfl) rfl tb_Skipper_isShoalAhead (s_Skipper_isShoalAhead (by decide) e965) ?_
    obtain ⟨g966, h⟩ := am_if_some h
    by_cases c967 : q964 = 0
    · rw [if_pos c967] at h
      refine am_r_f (show am_stepn X T_Skipper_act 1 true (20, [(0, am_pv 28), (1, am_pv 32)], [am_iv q964], am_SH, (J, K, am_RF b)) = some ((decide (am_i32 q964) && true), .inl (bif am_cb .ne q964 0 then 31 else 23, [(0, am_pv 28), (1, am_pv 32)], [], am_SH, (J, K, am_RF b))) from rfl) (am_g1 g966 rfl) (am_nd_t c967) ?_
      obtain ⟨q968, e969, h⟩ := am_bind_some h
      refine am_r_call (show am_stepn X T_Skipper_act 3 true (23, [(0, am_pv 28), (1, am_pv 32)], [], am_SH, (J, K, am_RF b)) = some (true, .inr (.inl (110, [am_pv 28, am_pv 32], 4, 0, 0, 28, [(0, am_pv 28), (1, am_pv 32)], [], am_SH, (J, K, am_RF b)))) from rfl) rfl tb_Skipper_isOtherBoardBetter (s_Skipper_isOtherBoardBetter (by decide) e969) ?_
      obtain ⟨g970, h⟩ := am_if_some h
      by_cases c971 : q968 = 0
      · rw [if_pos c971] at h
        refine am_r_t (show am_stepn X T_Skipper_act 1 true (28, [(0, am_pv 28), (1, am_pv 32)], [am_iv q968], am_SH, (J, K, am_RF b)) = some ((decide (am_i32 q968) && true), .inl (bif am_cb .eq q968 0 then 35 else 31, [(0, am_pv 28), (1, am_pv 32)], [], am_SH, (J, K, am_RF b))) from rfl) (am_g1 g970 rfl) (decide_eq_true c971) ?_
        refine am_r_go (show am_stepn X T_Skipper_act 1 true (35, [(0, am_pv 28), (1, am_pv 32)], [], am_SH, (J, K, am_RF b)) = some (true, .inl (36, [(0, am_pv 28), (1, am_pv 32)], [am_iv 0], am_SH, (J, K, am_RF b))) from rfl) rfl ?_
        exact s_Skipper_act_L36_32_  _ _ _ h
      · rw [if_neg c971] at h
        refine am_r_f (show am_stepn X T_Skipper_act 1 true (28, [(0, am_pv 28), (1, am_pv 32)], [am_iv q968], am_SH, (J, K, am_RF b)) = some ((decide (am_i32 q968) && true), .inl (bif am_cb .eq q968 0 then 35 else 31, [(0, am_pv 28), (1, am_pv 32)], [], am_SH, (J, K, am_RF b))) from rfl) (am_g1 g970 rfl) (decide_eq_false c971) ?_
        refine am_r_go (show am_stepn X T_Skipper_act 2 true (31, [(0, am_pv 28), (1, am_pv 32)], [], am_SH, (J, K, am_RF b)) = some (true, .inl (36, [(0, am_pv 28), (1, am_pv 32)], [am_iv 1], am_SH, (J, K, am_RF b))) from rfl) rfl ?_
        exact s_Skipper_act_L36_32_  _ _ _ h
    · rw [if_neg c967] at h
      refine am_r_t (show am_stepn X T_Skipper_act 1 true (20, [(0, am_pv 28), (1, am_pv 32)], [am_iv q964], am_SH, (J, K, am_RF b)) = some ((decide (am_i32 q964) && true), .inl (bif am_cb .ne q964 0 then 31 else 23, [(0, am_pv 28), (1, am_pv 32)], [], am_SH, (J, K, am_RF b))) from rfl) (am_g1 g966 rfl) (am_nd_f c967) ?_
      refine am_r_go (show am_stepn X T_Skipper_act 2 true (31, [(0, am_pv 28), (1, am_pv 32)], [], am_SH, (J, K, am_RF b)) = some (true, .inl (36, [(0, am_pv 28), (1, am_pv 32)], [am_iv 1], am_SH, (J, K, am_RF b))) from rfl) rfl ?_
      exact s_Skipper_act_L36_32_  _ _ _ h
  · rw [if_neg c963] at h
    refine am_r_f (show am_stepn X T_Skipper_act 5 true (0, [(0, am_pv 28), (1, am_pv 32)], [], am_SH, (J, K, am_RF b)) = some (((decide (am_i32 300) && decide (am_i32 (J 29 3))) && true), .inl (bif am_cb .lt (J 29 3) 300 then 15 else 13, [(0, am_pv 28), (1, am_pv 32)], [], am_SH, (J, K, am_RF b))) from rfl) (am_g2 (by decide) g962 rfl) (decide_eq_false c963) ?_
    obtain rfl := Option.some.inj h
    exact am_r_ret (show am_stepn X T_Skipper_act 2 true (13, [(0, am_pv 28), (1, am_pv 32)], [], am_SH, (J, K, am_RF b)) = some ((decide ((0 : Int) = 0 ∨ (0 : Int) = 1) && true), .inr (.inr (some (am_iv 0), am_SH, (J, K, am_RF b)))) from rfl) (am_g1 (by decide) rfl)
theorem s_Skipper_act_L60_6_ {X : am_X} {b : Bool} {K : am_K}  : ∀ (x2 : Int) (s0 : Int) (J : am_J) (r : Int × am_J), f_Skipper_act_L60 6   x2 s0 J = some r → am_runs X T_Skipper_act (60, [(0, am_pv 28), (2, am_iv x2)], [am_iv s0], am_SH, (J, K, am_RF b)) (some (am_iv r.1), am_SH, (r.2, K, am_RF b)) := by
  intro x2 s0 J r h
  unfold f_Skipper_act_L60 at h
  obtain ⟨g952, h⟩ := am_if_some h
  by_cases c953 : s0 = 0
  · rw [if_pos c953] at h
    refine am_r_t (show am_stepn X T_Skipper_act 3 true (60, [(0, am_pv 28), (2, am_iv x2)], [am_iv s0], am_SH, (J, K, am_RF b)) = some ((decide (am_i32 s0) && true), .inl (bif am_cb .eq s0 0 then 81 else 65, [(0, am_pv 28), (2, am_iv x2), (3, am_iv s0)], [], am_SH, (J, K, am_RF b))) from rfl) (am_g1 g952 rfl) (decide_eq_true c953) ?_
    obtain rfl := Option.some.inj h
    exact am_r_ret (show am_stepn X T_Skipper_act 9 true (81, [(0, am_pv 28), (2, am_iv x2), (3, am_iv s0)], [], am_SH, (J, K, am_RF b)) = some ((decide ((1 : Int) = 0 ∨ (1 : Int) = 1) && true), .inr (.inr (some (am_iv 1), am_SH, ((am_up J 29 3 ((J 29 3) + 1)), K, am_RF b)))) from rfl) (am_g1 (by decide) rfl)
  · rw [if_neg c953] at h
    refine am_r_f (show am_stepn X T_Skipper_act 3 true (60, [(0, am_pv 28), (2, am_iv x2)], [am_iv s0], am_SH, (J, K, am_RF b)) = some ((decide (am_i32 s0) && true), .inl (bif am_cb .eq s0 0 then 81 else 65, [(0, am_pv 28), (2, am_iv x2), (3, am_iv s0)], [], am_SH, (J, K, am_RF b))) from rfl) (am_g1 g952 rfl) (decide_eq_false c953) ?_
    obtain ⟨g954, h⟩ := am_if_some h
    by_cases c955 : x2 = 0
    · rw [if_pos c955] at h
      refine am_r_f (show am_stepn X T_Skipper_act 3 true (65, [(0, am_pv 28), (2, am_iv x2), (3, am_iv s0)], [], am_SH, (J, K, am_RF b)) = some ((decide (am_i32 x2) && true), .inl (bif am_cb .ne x2 0 then 74 else 70, [(0, am_pv 28), (2, am_iv x2)], [am_pv 28], am_SH, (J, K, am_RF b))) from rfl) (am_g1 g954 rfl) (am_nd_t c955) ?_
      obtain rfl := Option.some.inj h
      exact am_r_ret (show am_stepn X T_Skipper_act 6 true (70, [(0, am_pv 28), (2, am_iv x2)], [am_pv 28], am_SH, (J, K, am_RF b)) = some ((decide ((1 : Int) = 0 ∨ (1 : Int) = 1) && (decide ((1 : Int) = 0 ∨ (1 : Int) = 1) && true)), .inr (.inr (some (am_iv 1), am_SH, ((am_up J 28 3 1), K, am_RF b)))) from rfl) (am_g1 (by decide) (am_g1 (by decide) rfl))
    · rw [if_neg c955] at h
      refine am_r_t (show am_stepn X T_Skipper_act 3 true (65, [(0, am_pv 28), (2, am_iv x2), (3, am_iv s0)], [], am_SH, (J, K, am_RF b)) = some ((decide (am_i32 x2) && true), .inl (bif am_cb .ne x2 0 then 74 else 70, [(0, am_pv 28), (2, am_iv x2)], [am_pv 28], am_SH, (J, K, am_RF b))) from rfl) (am_g1 g954 rfl) (am_nd_f c955) ?_
      obtain rfl := Option.some.inj h
      exact am_r_ret (show am_stepn X T_Skipper_act 5 true (74, [(0, am_pv 28), (2, am_iv x2)], [am_pv 28], am_SH, (J, K, am_RF b)) = some ((decide ((1 : Int) = 0 ∨ (1 : Int) = 1) && (decide ((0 : Int) = 0 ∨ (0 : Int) = 1) && true)), .inr (.inr (some (am_iv 1), am_SH, ((am_up J 28 3 0), K, am_RF b)))) from rfl) (am_g1 (by decide) (am_g1 (by decide) rfl))
theorem s_Skipper_act_L36_6_ {X : am_X} {b : Bool} {K : am_K}  : ∀ (s0 : Int) (J : am_J) (r : Int × am_J), f_Skipper_act_L36 6   s0 J = some r → am_runs X T_Skipper_act (36, [(0, am_pv 28), (1, am_pv 6)], [am_iv s0], am_SH, (J, K, am_RF b)) (some (am_iv r.1), am_SH, (r.2, K, am_RF b)) := by
  intro s0 J r h
  unfold f_Skipper_act_L36 at h
  obtain ⟨g956, h⟩ := am_if_some h
  by_cases c957 : s0 = 0
  · rw [if_pos c957] at h
    refine am_r_t (show am_stepn X T_Skipper_act 3 true (36, [(0, am_pv 28), (1, am_pv 6)], [am_iv s0], am_SH, (J, K, am_RF b)) = some ((decide (am_i32 s0) && true), .inl (bif am_cb .eq s0 0 then 52 else 41, [(0, am_pv 28), (1, am_pv 6), (2, am_iv s0)], [], am_SH, (J, K, am_RF b))) from rfl) (am_g1 g956 rfl) (decide_eq_true c957) ?_
    obtain ⟨q958, e959, h⟩ := am_bind_some h
    refine am_r_call (show am_stepn X T_Skipper_act 4 true (52, [(0, am_pv 28), (1, am_pv 6), (2, am_iv s0)], [], am_SH, (J, K, am_RF b)) = some (true, .inr (.inl (73, [am_pv 29, am_pv 6], 5, 0, 0, 60, [(0, am_pv 28), (1, am_pv 6), (2, am_iv s0)], [], am_SH, (J, K, am_RF b)))) from rfl) rfl tb_Boat_trySail (s_Boat_trySail (by decide) e959) ?_
    refine am_r_eq (σ' := (60, [(0, am_pv 28), (2, am_iv s0)], [am_iv q958.1], am_SH, (q958.2, K, am_RF b))) rfl ?_
    exact s_Skipper_act_L60_6_  _ _ _ _ h
  · rw [if_neg c957] at h
    refine am_r_f (show am_stepn X T_Skipper_act 3 true (36, [(0, am_pv 28), (1, am_pv 6)], [am_iv s0], am_SH, (J, K, am_RF b)) = some ((decide (am_i32 s0) && true), .inl (bif am_cb .eq s0 0 then 52 else 41, [(0, am_pv 28), (1, am_pv 6), (2, am_iv s0)], [], am_SH, (J, K, am_RF b))) from rfl) (am_g1 g956 rfl) (decide_eq_false c957) ?_
    obtain ⟨q960, e961, h⟩ := am_bind_some h
    refine am_r_call (show am_stepn X T_Skipper_act 4 true (41, [(0, am_pv 28), (1, am_pv 6), (2, am_iv s0)], [], am_SH, (J, K, am_RF b)) = some (true, .inr (.inl (77, [am_pv 29, am_pv 6], 4, 0, 0, 49, [(0, am_pv 28), (1, am_pv 6), (2, am_iv s0)], [], am_SH, (J, K, am_RF b)))) from rfl) rfl tb_Boat_tryTurn (s_Boat_tryTurn (by decide) e961) ?_
    refine am_r_go (show am_stepn X T_Skipper_act 1 true (49, [(0, am_pv 28), (1, am_pv 6), (2, am_iv s0)], [am_iv q960.1], am_SH, (q960.2, K, am_RF b)) = some (true, .inl (60, [(0, am_pv 28), (1, am_pv 6), (2, am_iv s0)], [am_iv q960.1], am_SH, (q960.2, K, am_RF b))) from rfl) rfl ?_
    refine am_r_eq (σ' := (60, [(0, am_pv 28), (2, am_iv s0)], [am_iv q960.1], am_SH, (q960.2, K, am_RF b))) rfl ?_
    exact s_Skipper_act_L60_6_  _ _ _ _ h
theorem s_Skipper_act_6_ {X : am_X} {b : Bool} {K : am_K} {J : am_J} {r : Int × am_J} (h : f_Skipper_act 6 J = some r) : am_runs X T_Skipper_act (0, [(0, am_pv 28), (1, am_pv 6)], [], am_SH, (J, K, am_RF b)) (some (am_iv r.1), am_SH, (r.2, K, am_RF b)) := by
  unfold f_Skipper_act at h
  obtain ⟨g962, h⟩ := am_if_some h
  by_cases c963 : (J 29 3) < 300
  · rw [if_pos c963] at h
    refine am_r_t (show am_stepn X T_Skipper_act 5 true (0, [(0, am_pv 28), (1, am_pv 6)], [], am_SH, (J, K, am_RF b)) = some (((decide (am_i32 300) && decide (am_i32 (J 29 3))) && true), .inl (bif am_cb .lt (J 29 3) 300 then 15 else 13, [(0, am_pv 28), (1, am_pv 6)], [], am_SH, (J, K, am_RF b))) from rfl) (am_g2 (by decide) g962 rfl) (decide_eq_true c963) ?_
    obtain ⟨q964, e965, h⟩ := am_bind_some h
    refine am_r_call (show am_stepn X T_Skipper_act 3 true (15, [(0, am_pv 28), (1, am_pv 6)], [], am_SH, (J, K, am_RF b)) = some (true, .inr (.inl (109, [am_pv 28, am_pv 6], 3, 0, 0, 20, [(0, am_pv 28), (1, am_pv 6)], [], am_SH, (J, K, am_RF b)))) from rfl) rfl tb_Skipper_isShoalAhead (s_Skipper_isShoalAhead (by decide) e965) ?_
    obtain ⟨g966, h⟩ := am_if_some h
    by_cases c967 : q964 = 0
    · rw [if_pos c967] at h
      refine am_r_f (show am_stepn X T_Skipper_act 1 true (20, [(0, am_pv 28), (1, am_pv 6)], [am_iv q964], am_SH, (J, K, am_RF b)) = some ((decide (am_i32 q964) && true), .inl (bif am_cb .ne q964 0 then 31 else 23, [(0, am_pv 28), (1, am_pv 6)], [], am_SH, (J, K, am_RF b))) from rfl) (am_g1 g966 rfl) (am_nd_t c967) ?_
      obtain ⟨q968, e969, h⟩ := am_bind_some h
      refine am_r_call (show am_stepn X T_Skipper_act 3 true (23, [(0, am_pv 28), (1, am_pv 6)], [], am_SH, (J, K, am_RF b)) = some (true, .inr (.inl (110, [am_pv 28, am_pv 6], 4, 0, 0, 28, [(0, am_pv 28), (1, am_pv 6)], [], am_SH, (J, K, am_RF b)))) from rfl) rfl tb_Skipper_isOtherBoardBetter (s_Skipper_isOtherBoardBetter (by decide) e969) ?_
      obtain ⟨g970, h⟩ := am_if_some h
      by_cases c971 : q968 = 0
      · rw [if_pos c971] at h
        refine am_r_t (show am_stepn X T_Skipper_act 1 true (28, [(0, am_pv 28), (1, am_pv 6)], [am_iv q968], am_SH, (J, K, am_RF b)) = some ((decide (am_i32 q968) && true), .inl (bif am_cb .eq q968 0 then 35 else 31, [(0, am_pv 28), (1, am_pv 6)], [], am_SH, (J, K, am_RF b))) from rfl) (am_g1 g970 rfl) (decide_eq_true c971) ?_
        refine am_r_go (show am_stepn X T_Skipper_act 1 true (35, [(0, am_pv 28), (1, am_pv 6)], [], am_SH, (J, K, am_RF b)) = some (true, .inl (36, [(0, am_pv 28), (1, am_pv 6)], [am_iv 0], am_SH, (J, K, am_RF b))) from rfl) rfl ?_
        exact s_Skipper_act_L36_6_  _ _ _ h
      · rw [if_neg c971] at h
        refine am_r_f (show am_stepn X T_Skipper_act 1 true (28, [(0, am_pv 28), (1, am_pv 6)], [am_iv q968], am_SH, (J, K, am_RF b)) = some ((decide (am_i32 q968) && true), .inl (bif am_cb .eq q968 0 then 35 else 31, [(0, am_pv 28), (1, am_pv 6)], [], am_SH, (J, K, am_RF b))) from rfl) (am_g1 g970 rfl) (decide_eq_false c971) ?_
        refine am_r_go (show am_stepn X T_Skipper_act 2 true (31, [(0, am_pv 28), (1, am_pv 6)], [], am_SH, (J, K, am_RF b)) = some (true, .inl (36, [(0, am_pv 28), (1, am_pv 6)], [am_iv 1], am_SH, (J, K, am_RF b))) from rfl) rfl ?_
        exact s_Skipper_act_L36_6_  _ _ _ h
    · rw [if_neg c967] at h
      refine am_r_t (show am_stepn X T_Skipper_act 1 true (20, [(0, am_pv 28), (1, am_pv 6)], [am_iv q964], am_SH, (J, K, am_RF b)) = some ((decide (am_i32 q964) && true), .inl (bif am_cb .ne q964 0 then 31 else 23, [(0, am_pv 28), (1, am_pv 6)], [], am_SH, (J, K, am_RF b))) from rfl) (am_g1 g966 rfl) (am_nd_f c967) ?_
      refine am_r_go (show am_stepn X T_Skipper_act 2 true (31, [(0, am_pv 28), (1, am_pv 6)], [], am_SH, (J, K, am_RF b)) = some (true, .inl (36, [(0, am_pv 28), (1, am_pv 6)], [am_iv 1], am_SH, (J, K, am_RF b))) from rfl) rfl ?_
      exact s_Skipper_act_L36_6_  _ _ _ h
  · rw [if_neg c963] at h
    refine am_r_f (show am_stepn X T_Skipper_act 5 true (0, [(0, am_pv 28), (1, am_pv 6)], [], am_SH, (J, K, am_RF b)) = some (((decide (am_i32 300) && decide (am_i32 (J 29 3))) && true), .inl (bif am_cb .lt (J 29 3) 300 then 15 else 13, [(0, am_pv 28), (1, am_pv 6)], [], am_SH, (J, K, am_RF b))) from rfl) (am_g2 (by decide) g962 rfl) (decide_eq_false c963) ?_
    obtain rfl := Option.some.inj h
    exact am_r_ret (show am_stepn X T_Skipper_act 2 true (13, [(0, am_pv 28), (1, am_pv 6)], [], am_SH, (J, K, am_RF b)) = some ((decide ((0 : Int) = 0 ∨ (0 : Int) = 1) && true), .inr (.inr (some (am_iv 0), am_SH, (J, K, am_RF b)))) from rfl) (am_g1 (by decide) rfl)
theorem s_Skipper_act {X : am_X} {b : Bool} {o1 : Nat} (ho : o1 = 32 ∨ o1 = 6) {K : am_K} {J : am_J} {r : Int × am_J} (h : f_Skipper_act o1 J = some r) : am_runs X T_Skipper_act (0, [(0, am_pv 28), (1, am_pv o1)], [], am_SH, (J, K, am_RF b)) (some (am_iv r.1), am_SH, (r.2, K, am_RF b)) := by
  rcases ho with rfl | rfl
  · skip
    exact s_Skipper_act_32_ h
  · skip
    exact s_Skipper_act_6_ h
theorem s_Skipper_begin {X : am_X} {b : Bool} {K : am_K} {x2 : Int} {x3 : Int} {J : am_J} {r : am_J} (h : f_Skipper_begin  x2 x3 J = some r) : am_runs X T_Skipper_begin (0, [(0, am_pv 28), (1, am_pv 18), (2, am_iv x2), (3, am_iv x3)], [], am_SH, (J, K, am_RF b)) (none, am_SH, (r, K, am_RF b)) := by
  unfold f_Skipper_begin at h
  obtain ⟨q972, e973, h⟩ := am_bind_some h
  refine am_r_call (show am_stepn X T_Skipper_begin 11 true (0, [(0, am_pv 28), (1, am_pv 18), (2, am_iv x2), (3, am_iv x3)], [], am_SH, (J, K, am_RF b)) = some (true, .inr (.inl (52, [am_pv 29, am_iv (J 18 0), am_iv (J 18 1), am_iv (J 18 2), am_iv (J 18 3)], 5, 0, 0, 23, [(0, am_pv 28), (1, am_pv 18), (2, am_iv x2), (3, am_iv x3)], [], am_SH, (J, K, am_RF b)))) from rfl) rfl tb_Boat_lieAt (s_Boat_lieAt (by decide) e973) ?_
  obtain rfl := Option.some.inj h
  exact am_r_ret (show am_stepn X T_Skipper_begin 10 true (23, [(0, am_pv 28), (1, am_pv 18), (2, am_iv x2), (3, am_iv x3)], [], am_SH, (q972, K, am_RF b)) = some ((decide ((1 : Int) = 0 ∨ (1 : Int) = 1) && true), .inr (.inr (none, am_SH, ((am_up (am_up (am_up q972 28 1 x2) 28 2 x3) 28 3 1), K, am_RF b)))) from rfl) (am_g1 (by decide) rfl)
theorem s_UpRiver_skipperArrival_L65_f {X : am_X} {K : am_K}  : ∀ (J : am_J) (r : Int × am_J), f_UpRiver_skipperArrival_L65 false   J = some r → am_runs X T_UpRiver_skipperArrival (65, [(0, am_pv 0)], [], am_SH, (J, K, am_RF false)) (some (am_iv r.1), am_SH, (r.2, K, am_RF false)) := by
  intro J r h
  unfold f_UpRiver_skipperArrival_L65 at h
  obtain ⟨q974, e975, h⟩ := am_bind_some h
  refine am_r_call (show am_stepn X T_UpRiver_skipperArrival 6 true (65, [(0, am_pv 0)], [], am_SH, (J, K, am_RF false)) = some (true, .inr (.inl (71, [am_pv 29, am_pv (am_rv false)], 2, 0, 0, 79, [(0, am_pv 0)], [], am_SH, (J, K, am_RF false)))) from rfl) rfl tb_Boat_isUp (s_Boat_isUp (by decide) e975) ?_
  obtain ⟨g976, h⟩ := am_if_some h
  by_cases c977 : q974 = 0
  · rw [if_pos c977] at h
    refine am_r_t (show am_stepn X T_UpRiver_skipperArrival 1 true (79, [(0, am_pv 0)], [am_iv q974], am_SH, (J, K, am_RF false)) = some ((decide (am_i32 q974) && true), .inl (bif am_cb .eq q974 0 then 95 else 82, [(0, am_pv 0)], [], am_SH, (J, K, am_RF false))) from rfl) (am_g1 g976 rfl) (decide_eq_true c977) ?_
    obtain rfl := Option.some.inj h
    exact am_r_ret (show am_stepn X T_UpRiver_skipperArrival 2 true (95, [(0, am_pv 0)], [], am_SH, (J, K, am_RF false)) = some (true, .inr (.inr (some (am_iv (-4)), am_SH, (J, K, am_RF false)))) from rfl) rfl
  · rw [if_neg c977] at h
    refine am_r_f (show am_stepn X T_UpRiver_skipperArrival 1 true (79, [(0, am_pv 0)], [am_iv q974], am_SH, (J, K, am_RF false)) = some ((decide (am_i32 q974) && true), .inl (bif am_cb .eq q974 0 then 95 else 82, [(0, am_pv 0)], [], am_SH, (J, K, am_RF false))) from rfl) (am_g1 g976 rfl) (decide_eq_false c977) ?_
    obtain rfl := Option.some.inj h
    exact am_r_ret (show am_stepn X T_UpRiver_skipperArrival 6 true (82, [(0, am_pv 0)], [], am_SH, (J, K, am_RF false)) = some (true, .inr (.inr (some (am_iv (J 29 3)), am_SH, (J, K, am_RF false)))) from rfl) rfl
theorem s_UpRiver_skipperArrival_L18_f {X : am_X} {K : am_K}  : ∀ (n : Nat) (x3 : Int) (J : am_J) (r : Int × am_J), f_UpRiver_skipperArrival_L18 false  n x3 J = some r → am_runs X T_UpRiver_skipperArrival (18, [(0, am_pv 0), (3, am_iv x3)], [], am_SH, (J, K, am_RF false)) (some (am_iv r.1), am_SH, (r.2, K, am_RF false)) := by
  intro n
  induction n with
  | zero =>
    intro x3 J r h
    cases h
  | succ n ih =>
    intro x3 J r h
    rw [f_UpRiver_skipperArrival_L18.eq_2] at h
    obtain ⟨g978, h⟩ := am_if_some h
    by_cases c979 : 300 < x3
    · rw [if_pos c979] at h
      refine am_r_t (show am_stepn X T_UpRiver_skipperArrival 3 true (18, [(0, am_pv 0), (3, am_iv x3)], [], am_SH, (J, K, am_RF false)) = some (((decide (am_i32 300) && decide (am_i32 x3)) && true), .inl (bif am_cb .gt x3 300 then 65 else 25, [(0, am_pv 0), (3, am_iv x3)], [], am_SH, (J, K, am_RF false))) from rfl) (am_g2 (by decide) g978 rfl) (decide_eq_true c979) ?_
      refine am_r_eq (σ' := (65, [(0, am_pv 0)], [], am_SH, (J, K, am_RF false))) rfl ?_
      exact s_UpRiver_skipperArrival_L65_f  _ _ h
    · rw [if_neg c979] at h
      refine am_r_f (show am_stepn X T_UpRiver_skipperArrival 3 true (18, [(0, am_pv 0), (3, am_iv x3)], [], am_SH, (J, K, am_RF false)) = some (((decide (am_i32 300) && decide (am_i32 x3)) && true), .inl (bif am_cb .gt x3 300 then 65 else 25, [(0, am_pv 0), (3, am_iv x3)], [], am_SH, (J, K, am_RF false))) from rfl) (am_g2 (by decide) g978 rfl) (decide_eq_false c979) ?_
      obtain ⟨q980, e981, h⟩ := am_bind_some h
      refine am_r_call (show am_stepn X T_UpRiver_skipperArrival 6 true (25, [(0, am_pv 0), (3, am_iv x3)], [], am_SH, (J, K, am_RF false)) = some (true, .inr (.inl (71, [am_pv 29, am_pv (am_rv false)], 2, 0, 0, 39, [(0, am_pv 0), (3, am_iv x3)], [], am_SH, (J, K, am_RF false)))) from rfl) rfl tb_Boat_isUp (s_Boat_isUp (by decide) e981) ?_
      obtain ⟨g982, h⟩ := am_if_some h
      by_cases c983 : q980 = 0
      · rw [if_pos c983] at h
        refine am_r_f (show am_stepn X T_UpRiver_skipperArrival 1 true (39, [(0, am_pv 0), (3, am_iv x3)], [am_iv q980], am_SH, (J, K, am_RF false)) = some ((decide (am_i32 q980) && true), .inl (bif am_cb .ne q980 0 then 65 else 42, [(0, am_pv 0), (3, am_iv x3)], [], am_SH, (J, K, am_RF false))) from rfl) (am_g1 g982 rfl) (am_nd_t c983) ?_
        obtain ⟨q984, e985, h⟩ := am_bind_some h
        refine am_r_call (show am_stepn X T_UpRiver_skipperArrival 5 true (42, [(0, am_pv 0), (3, am_iv x3)], [], am_SH, (J, K, am_RF false)) = some (true, .inr (.inl (108, [am_pv 28, am_pv (am_rv false)], 4, 0, 0, 53, [(0, am_pv 0), (3, am_iv x3)], [], am_SH, (J, K, am_RF false)))) from rfl) rfl tb_Skipper_act (s_Skipper_act (by decide) e985) ?_
        obtain ⟨g986, h⟩ := am_if_some h
        by_cases c987 : q984.1 = 0
        · rw [if_pos c987] at h
          refine am_r_f (show am_stepn X T_UpRiver_skipperArrival 1 true (53, [(0, am_pv 0), (3, am_iv x3)], [am_iv q984.1], am_SH, (q984.2, K, am_RF false)) = some ((decide (am_i32 q984.1) && true), .inl (bif am_cb .ne q984.1 0 then 59 else 56, [(0, am_pv 0), (3, am_iv x3)], [], am_SH, (q984.2, K, am_RF false))) from rfl) (am_g1 g986 rfl) (am_nd_t c987) ?_
          obtain rfl := Option.some.inj h
          exact am_r_ret (show am_stepn X T_UpRiver_skipperArrival 2 true (56, [(0, am_pv 0), (3, am_iv x3)], [], am_SH, (q984.2, K, am_RF false)) = some (true, .inr (.inr (some (am_iv (-4)), am_SH, (q984.2, K, am_RF false)))) from rfl) rfl
        · rw [if_neg c987] at h
          refine am_r_t (show am_stepn X T_UpRiver_skipperArrival 1 true (53, [(0, am_pv 0), (3, am_iv x3)], [am_iv q984.1], am_SH, (q984.2, K, am_RF false)) = some ((decide (am_i32 q984.1) && true), .inl (bif am_cb .ne q984.1 0 then 59 else 56, [(0, am_pv 0), (3, am_iv x3)], [], am_SH, (q984.2, K, am_RF false))) from rfl) (am_g1 g986 rfl) (am_nd_f c987) ?_
          refine am_r_go (show am_stepn X T_UpRiver_skipperArrival 2 true (59, [(0, am_pv 0), (3, am_iv x3)], [], am_SH, (q984.2, K, am_RF false)) = some (true, .inl (18, [(0, am_pv 0), (3, am_iv (x3 + 1))], [], am_SH, (q984.2, K, am_RF false))) from rfl) rfl ?_
          exact ih _ _ _ h
      · rw [if_neg c983] at h
        refine am_r_t (show am_stepn X T_UpRiver_skipperArrival 1 true (39, [(0, am_pv 0), (3, am_iv x3)], [am_iv q980], am_SH, (J, K, am_RF false)) = some ((decide (am_i32 q980) && true), .inl (bif am_cb .ne q980 0 then 65 else 42, [(0, am_pv 0), (3, am_iv x3)], [], am_SH, (J, K, am_RF false))) from rfl) (am_g1 g982 rfl) (am_nd_f c983) ?_
        refine am_r_eq (σ' := (65, [(0, am_pv 0)], [], am_SH, (J, K, am_RF false))) rfl ?_
        exact s_UpRiver_skipperArrival_L65_f  _ _ h
theorem s_UpRiver_skipperArrival_f {X : am_X} {K : am_K} {x1 : Int} {x2 : Int} {J : am_J} {r : Int × am_J} (h : f_UpRiver_skipperArrival false x1 x2 J = some r) : am_runs X T_UpRiver_skipperArrival (0, [(0, am_pv 0), (1, am_iv x1), (2, am_iv x2)], [], am_SH, (J, K, am_RF false)) (some (am_iv r.1), am_SH, (r.2, K, am_RF false)) := by
  unfold f_UpRiver_skipperArrival at h
  obtain ⟨q988, e989, h⟩ := am_bind_some h
  refine am_r_call (show am_stepn X T_UpRiver_skipperArrival 8 true (0, [(0, am_pv 0), (1, am_iv x1), (2, am_iv x2)], [], am_SH, (J, K, am_RF false)) = some (true, .inr (.inl (107, [am_pv 28, am_pv 18, am_iv x1, am_iv x2], 4, 0, 0, 16, [(0, am_pv 0), (1, am_iv x1), (2, am_iv x2)], [], am_SH, (J, K, am_RF false)))) from rfl) rfl tb_Skipper_begin (s_Skipper_begin e989) ?_
  refine am_r_go (show am_stepn X T_UpRiver_skipperArrival 2 true (16, [(0, am_pv 0), (1, am_iv x1), (2, am_iv x2)], [], am_SH, (q988, K, am_RF false)) = some (true, .inl (18, [(0, am_pv 0), (1, am_iv x1), (2, am_iv x2), (3, am_iv 0)], [], am_SH, (q988, K, am_RF false))) from rfl) rfl ?_
  refine am_r_eq (σ' := (18, [(0, am_pv 0), (3, am_iv 0)], [], am_SH, (q988, K, am_RF false))) rfl ?_
  exact s_UpRiver_skipperArrival_L18_f  _ _ _ _ h
theorem s_UpRiver_skipperArrival_L65_t {X : am_X} {K : am_K}  : ∀ (J : am_J) (r : Int × am_J), f_UpRiver_skipperArrival_L65 true   J = some r → am_runs X T_UpRiver_skipperArrival (65, [(0, am_pv 0)], [], am_SH, (J, K, am_RF true)) (some (am_iv r.1), am_SH, (r.2, K, am_RF true)) := by
  intro J r h
  unfold f_UpRiver_skipperArrival_L65 at h
  obtain ⟨q974, e975, h⟩ := am_bind_some h
  refine am_r_call (show am_stepn X T_UpRiver_skipperArrival 6 true (65, [(0, am_pv 0)], [], am_SH, (J, K, am_RF true)) = some (true, .inr (.inl (71, [am_pv 29, am_pv (am_rv true)], 2, 0, 0, 79, [(0, am_pv 0)], [], am_SH, (J, K, am_RF true)))) from rfl) rfl tb_Boat_isUp (s_Boat_isUp (by decide) e975) ?_
  obtain ⟨g976, h⟩ := am_if_some h
  by_cases c977 : q974 = 0
  · rw [if_pos c977] at h
    refine am_r_t (show am_stepn X T_UpRiver_skipperArrival 1 true (79, [(0, am_pv 0)], [am_iv q974], am_SH, (J, K, am_RF true)) = some ((decide (am_i32 q974) && true), .inl (bif am_cb .eq q974 0 then 95 else 82, [(0, am_pv 0)], [], am_SH, (J, K, am_RF true))) from rfl) (am_g1 g976 rfl) (decide_eq_true c977) ?_
    obtain rfl := Option.some.inj h
    exact am_r_ret (show am_stepn X T_UpRiver_skipperArrival 2 true (95, [(0, am_pv 0)], [], am_SH, (J, K, am_RF true)) = some (true, .inr (.inr (some (am_iv (-4)), am_SH, (J, K, am_RF true)))) from rfl) rfl
  · rw [if_neg c977] at h
    refine am_r_f (show am_stepn X T_UpRiver_skipperArrival 1 true (79, [(0, am_pv 0)], [am_iv q974], am_SH, (J, K, am_RF true)) = some ((decide (am_i32 q974) && true), .inl (bif am_cb .eq q974 0 then 95 else 82, [(0, am_pv 0)], [], am_SH, (J, K, am_RF true))) from rfl) (am_g1 g976 rfl) (decide_eq_false c977) ?_
    obtain rfl := Option.some.inj h
    exact am_r_ret (show am_stepn X T_UpRiver_skipperArrival 6 true (82, [(0, am_pv 0)], [], am_SH, (J, K, am_RF true)) = some (true, .inr (.inr (some (am_iv (J 29 3)), am_SH, (J, K, am_RF true)))) from rfl) rfl
theorem s_UpRiver_skipperArrival_L18_t {X : am_X} {K : am_K}  : ∀ (n : Nat) (x3 : Int) (J : am_J) (r : Int × am_J), f_UpRiver_skipperArrival_L18 true  n x3 J = some r → am_runs X T_UpRiver_skipperArrival (18, [(0, am_pv 0), (3, am_iv x3)], [], am_SH, (J, K, am_RF true)) (some (am_iv r.1), am_SH, (r.2, K, am_RF true)) := by
  intro n
  induction n with
  | zero =>
    intro x3 J r h
    cases h
  | succ n ih =>
    intro x3 J r h
    rw [f_UpRiver_skipperArrival_L18.eq_2] at h
    obtain ⟨g978, h⟩ := am_if_some h
    by_cases c979 : 300 < x3
    · rw [if_pos c979] at h
      refine am_r_t (show am_stepn X T_UpRiver_skipperArrival 3 true (18, [(0, am_pv 0), (3, am_iv x3)], [], am_SH, (J, K, am_RF true)) = some (((decide (am_i32 300) && decide (am_i32 x3)) && true), .inl (bif am_cb .gt x3 300 then 65 else 25, [(0, am_pv 0), (3, am_iv x3)], [], am_SH, (J, K, am_RF true))) from rfl) (am_g2 (by decide) g978 rfl) (decide_eq_true c979) ?_
      refine am_r_eq (σ' := (65, [(0, am_pv 0)], [], am_SH, (J, K, am_RF true))) rfl ?_
      exact s_UpRiver_skipperArrival_L65_t  _ _ h
    · rw [if_neg c979] at h
      refine am_r_f (show am_stepn X T_UpRiver_skipperArrival 3 true (18, [(0, am_pv 0), (3, am_iv x3)], [], am_SH, (J, K, am_RF true)) = some (((decide (am_i32 300) && decide (am_i32 x3)) && true), .inl (bif am_cb .gt x3 300 then 65 else 25, [(0, am_pv 0), (3, am_iv x3)], [], am_SH, (J, K, am_RF true))) from rfl) (am_g2 (by decide) g978 rfl) (decide_eq_false c979) ?_
      obtain ⟨q980, e981, h⟩ := am_bind_some h
      refine am_r_call (show am_stepn X T_UpRiver_skipperArrival 6 true (25, [(0, am_pv 0), (3, am_iv x3)], [], am_SH, (J, K, am_RF true)) = some (true, .inr (.inl (71, [am_pv 29, am_pv (am_rv true)], 2, 0, 0, 39, [(0, am_pv 0), (3, am_iv x3)], [], am_SH, (J, K, am_RF true)))) from rfl) rfl tb_Boat_isUp (s_Boat_isUp (by decide) e981) ?_
      obtain ⟨g982, h⟩ := am_if_some h
      by_cases c983 : q980 = 0
      · rw [if_pos c983] at h
        refine am_r_f (show am_stepn X T_UpRiver_skipperArrival 1 true (39, [(0, am_pv 0), (3, am_iv x3)], [am_iv q980], am_SH, (J, K, am_RF true)) = some ((decide (am_i32 q980) && true), .inl (bif am_cb .ne q980 0 then 65 else 42, [(0, am_pv 0), (3, am_iv x3)], [], am_SH, (J, K, am_RF true))) from rfl) (am_g1 g982 rfl) (am_nd_t c983) ?_
        obtain ⟨q984, e985, h⟩ := am_bind_some h
        refine am_r_call (show am_stepn X T_UpRiver_skipperArrival 5 true (42, [(0, am_pv 0), (3, am_iv x3)], [], am_SH, (J, K, am_RF true)) = some (true, .inr (.inl (108, [am_pv 28, am_pv (am_rv true)], 4, 0, 0, 53, [(0, am_pv 0), (3, am_iv x3)], [], am_SH, (J, K, am_RF true)))) from rfl) rfl tb_Skipper_act (s_Skipper_act (by decide) e985) ?_
        obtain ⟨g986, h⟩ := am_if_some h
        by_cases c987 : q984.1 = 0
        · rw [if_pos c987] at h
          refine am_r_f (show am_stepn X T_UpRiver_skipperArrival 1 true (53, [(0, am_pv 0), (3, am_iv x3)], [am_iv q984.1], am_SH, (q984.2, K, am_RF true)) = some ((decide (am_i32 q984.1) && true), .inl (bif am_cb .ne q984.1 0 then 59 else 56, [(0, am_pv 0), (3, am_iv x3)], [], am_SH, (q984.2, K, am_RF true))) from rfl) (am_g1 g986 rfl) (am_nd_t c987) ?_
          obtain rfl := Option.some.inj h
          exact am_r_ret (show am_stepn X T_UpRiver_skipperArrival 2 true (56, [(0, am_pv 0), (3, am_iv x3)], [], am_SH, (q984.2, K, am_RF true)) = some (true, .inr (.inr (some (am_iv (-4)), am_SH, (q984.2, K, am_RF true)))) from rfl) rfl
        · rw [if_neg c987] at h
          refine am_r_t (show am_stepn X T_UpRiver_skipperArrival 1 true (53, [(0, am_pv 0), (3, am_iv x3)], [am_iv q984.1], am_SH, (q984.2, K, am_RF true)) = some ((decide (am_i32 q984.1) && true), .inl (bif am_cb .ne q984.1 0 then 59 else 56, [(0, am_pv 0), (3, am_iv x3)], [], am_SH, (q984.2, K, am_RF true))) from rfl) (am_g1 g986 rfl) (am_nd_f c987) ?_
          refine am_r_go (show am_stepn X T_UpRiver_skipperArrival 2 true (59, [(0, am_pv 0), (3, am_iv x3)], [], am_SH, (q984.2, K, am_RF true)) = some (true, .inl (18, [(0, am_pv 0), (3, am_iv (x3 + 1))], [], am_SH, (q984.2, K, am_RF true))) from rfl) rfl ?_
          exact ih _ _ _ h
      · rw [if_neg c983] at h
        refine am_r_t (show am_stepn X T_UpRiver_skipperArrival 1 true (39, [(0, am_pv 0), (3, am_iv x3)], [am_iv q980], am_SH, (J, K, am_RF true)) = some ((decide (am_i32 q980) && true), .inl (bif am_cb .ne q980 0 then 65 else 42, [(0, am_pv 0), (3, am_iv x3)], [], am_SH, (J, K, am_RF true))) from rfl) (am_g1 g982 rfl) (am_nd_f c983) ?_
        refine am_r_eq (σ' := (65, [(0, am_pv 0)], [], am_SH, (J, K, am_RF true))) rfl ?_
        exact s_UpRiver_skipperArrival_L65_t  _ _ h
theorem s_UpRiver_skipperArrival_t {X : am_X} {K : am_K} {x1 : Int} {x2 : Int} {J : am_J} {r : Int × am_J} (h : f_UpRiver_skipperArrival true x1 x2 J = some r) : am_runs X T_UpRiver_skipperArrival (0, [(0, am_pv 0), (1, am_iv x1), (2, am_iv x2)], [], am_SH, (J, K, am_RF true)) (some (am_iv r.1), am_SH, (r.2, K, am_RF true)) := by
  unfold f_UpRiver_skipperArrival at h
  obtain ⟨q988, e989, h⟩ := am_bind_some h
  refine am_r_call (show am_stepn X T_UpRiver_skipperArrival 8 true (0, [(0, am_pv 0), (1, am_iv x1), (2, am_iv x2)], [], am_SH, (J, K, am_RF true)) = some (true, .inr (.inl (107, [am_pv 28, am_pv 18, am_iv x1, am_iv x2], 4, 0, 0, 16, [(0, am_pv 0), (1, am_iv x1), (2, am_iv x2)], [], am_SH, (J, K, am_RF true)))) from rfl) rfl tb_Skipper_begin (s_Skipper_begin e989) ?_
  refine am_r_go (show am_stepn X T_UpRiver_skipperArrival 2 true (16, [(0, am_pv 0), (1, am_iv x1), (2, am_iv x2)], [], am_SH, (q988, K, am_RF true)) = some (true, .inl (18, [(0, am_pv 0), (1, am_iv x1), (2, am_iv x2), (3, am_iv 0)], [], am_SH, (q988, K, am_RF true))) from rfl) rfl ?_
  refine am_r_eq (σ' := (18, [(0, am_pv 0), (3, am_iv 0)], [], am_SH, (q988, K, am_RF true))) rfl ?_
  exact s_UpRiver_skipperArrival_L18_t  _ _ _ _ h
theorem s_UpRiver_skipperArrival {X : am_X} {b : Bool} {K : am_K} {x1 : Int} {x2 : Int} {J : am_J} {r : Int × am_J} (h : f_UpRiver_skipperArrival b x1 x2 J = some r) : am_runs X T_UpRiver_skipperArrival (0, [(0, am_pv 0), (1, am_iv x1), (2, am_iv x2)], [], am_SH, (J, K, am_RF b)) (some (am_iv r.1), am_SH, (r.2, K, am_RF b)) := by
  cases b
  · exact s_UpRiver_skipperArrival_f h
  · exact s_UpRiver_skipperArrival_t h
theorem s_UpRiver_skipper_f {X : am_X} {K : am_K} {x1 : Int} {x2 : Int} {x3 : Int} {J : am_J} {r : Int × am_J} (h : f_UpRiver_skipper false x1 x2 x3 J = some r) : am_runs X T_UpRiver_skipper (0, [(0, am_pv 0), (1, am_iv x1), (2, am_iv x2), (3, am_iv x3)], [], am_SH, (J, K, am_RF false)) (some (am_iv r.1), am_SH, (r.2, K, am_RF false)) := by
  unfold f_UpRiver_skipper at h
  obtain ⟨q990, e991, h⟩ := am_bind_some h
  refine am_r_call (show am_stepn X T_UpRiver_skipper 3 true (0, [(0, am_pv 0), (1, am_iv x1), (2, am_iv x2), (3, am_iv x3)], [], am_SH, (J, K, am_RF false)) = some (true, .inr (.inl (105, [am_iv x1, am_iv x2], 2, 0, 0, 5, [(0, am_pv 0), (1, am_iv x1), (2, am_iv x2), (3, am_iv x3)], [], am_SH, (J, K, am_RF false)))) from rfl) rfl tb_UpRiver_isSkipper (s_UpRiver_isSkipper e991) ?_
  obtain ⟨g992, h⟩ := am_if_some h
  by_cases c993 : q990 = 0
  · rw [if_pos c993] at h
    refine am_r_t (show am_stepn X T_UpRiver_skipper 1 true (5, [(0, am_pv 0), (1, am_iv x1), (2, am_iv x2), (3, am_iv x3)], [am_iv q990], am_SH, (J, K, am_RF false)) = some ((decide (am_i32 q990) && true), .inl (bif am_cb .eq q990 0 then 17 else 8, [(0, am_pv 0), (1, am_iv x1), (2, am_iv x2), (3, am_iv x3)], [], am_SH, (J, K, am_RF false))) from rfl) (am_g1 g992 rfl) (decide_eq_true c993) ?_
    obtain rfl := Option.some.inj h
    exact am_r_ret (show am_stepn X T_UpRiver_skipper 2 true (17, [(0, am_pv 0), (1, am_iv x1), (2, am_iv x2), (3, am_iv x3)], [], am_SH, (J, K, am_RF false)) = some (true, .inr (.inr (some (am_iv (-1)), am_SH, (J, K, am_RF false)))) from rfl) rfl
  · rw [if_neg c993] at h
    refine am_r_f (show am_stepn X T_UpRiver_skipper 1 true (5, [(0, am_pv 0), (1, am_iv x1), (2, am_iv x2), (3, am_iv x3)], [am_iv q990], am_SH, (J, K, am_RF false)) = some ((decide (am_i32 q990) && true), .inl (bif am_cb .eq q990 0 then 17 else 8, [(0, am_pv 0), (1, am_iv x1), (2, am_iv x2), (3, am_iv x3)], [], am_SH, (J, K, am_RF false))) from rfl) (am_g1 g992 rfl) (decide_eq_false c993) ?_
    obtain ⟨g994, h⟩ := am_if_some h
    by_cases c995 : x3 < 0
    · rw [if_pos c995] at h
      refine am_r_t (show am_stepn X T_UpRiver_skipper 2 true (8, [(0, am_pv 0), (1, am_iv x1), (2, am_iv x2), (3, am_iv x3)], [], am_SH, (J, K, am_RF false)) = some ((decide (am_i32 x3) && true), .inl (bif am_cb .lt x3 0 then 17 else 12, [(0, am_pv 0), (1, am_iv x1), (2, am_iv x2), (3, am_iv x3)], [], am_SH, (J, K, am_RF false))) from rfl) (am_g1 g994 rfl) (decide_eq_true c995) ?_
      obtain rfl := Option.some.inj h
      exact am_r_ret (show am_stepn X T_UpRiver_skipper 2 true (17, [(0, am_pv 0), (1, am_iv x1), (2, am_iv x2), (3, am_iv x3)], [], am_SH, (J, K, am_RF false)) = some (true, .inr (.inr (some (am_iv (-1)), am_SH, (J, K, am_RF false)))) from rfl) rfl
    · rw [if_neg c995] at h
      refine am_r_f (show am_stepn X T_UpRiver_skipper 2 true (8, [(0, am_pv 0), (1, am_iv x1), (2, am_iv x2), (3, am_iv x3)], [], am_SH, (J, K, am_RF false)) = some ((decide (am_i32 x3) && true), .inl (bif am_cb .lt x3 0 then 17 else 12, [(0, am_pv 0), (1, am_iv x1), (2, am_iv x2), (3, am_iv x3)], [], am_SH, (J, K, am_RF false))) from rfl) (am_g1 g994 rfl) (decide_eq_false c995) ?_
      by_cases c996 : 2 < x3
      · rw [if_pos c996] at h
        refine am_r_f (show am_stepn X T_UpRiver_skipper 3 true (12, [(0, am_pv 0), (1, am_iv x1), (2, am_iv x2), (3, am_iv x3)], [], am_SH, (J, K, am_RF false)) = some (((decide (am_i32 2) && decide (am_i32 x3)) && true), .inl (bif am_cb .le x3 2 then 19 else 17, [(0, am_pv 0), (1, am_iv x1), (2, am_iv x2), (3, am_iv x3)], [], am_SH, (J, K, am_RF false))) from rfl) (am_g2 (by decide) g994 rfl) (am_nd_t c996) ?_
        obtain rfl := Option.some.inj h
        exact am_r_ret (show am_stepn X T_UpRiver_skipper 2 true (17, [(0, am_pv 0), (1, am_iv x1), (2, am_iv x2), (3, am_iv x3)], [], am_SH, (J, K, am_RF false)) = some (true, .inr (.inr (some (am_iv (-1)), am_SH, (J, K, am_RF false)))) from rfl) rfl
      · rw [if_neg c996] at h
        refine am_r_t (show am_stepn X T_UpRiver_skipper 3 true (12, [(0, am_pv 0), (1, am_iv x1), (2, am_iv x2), (3, am_iv x3)], [], am_SH, (J, K, am_RF false)) = some (((decide (am_i32 2) && decide (am_i32 x3)) && true), .inl (bif am_cb .le x3 2 then 19 else 17, [(0, am_pv 0), (1, am_iv x1), (2, am_iv x2), (3, am_iv x3)], [], am_SH, (J, K, am_RF false))) from rfl) (am_g2 (by decide) g994 rfl) (am_nd_f c996) ?_
        obtain ⟨q997, e998, h⟩ := am_bind_some h
        refine am_r_call (show am_stepn X T_UpRiver_skipper 6 true (19, [(0, am_pv 0), (1, am_iv x1), (2, am_iv x2), (3, am_iv x3)], [], am_SH, (J, K, am_RF false)) = some (true, .inr (.inl (71, [am_pv 18, am_pv (am_rv false)], 2, 0, 0, 33, [(0, am_pv 0), (1, am_iv x1), (2, am_iv x2), (3, am_iv x3)], [], am_SH, (J, K, am_RF false)))) from rfl) rfl tb_Boat_isUp (s_Boat_isUp (by decide) e998) ?_
        obtain ⟨g999, h⟩ := am_if_some h
        by_cases c1000 : q997 = 0
        · rw [if_pos c1000] at h
          refine am_r_t (show am_stepn X T_UpRiver_skipper 1 true (33, [(0, am_pv 0), (1, am_iv x1), (2, am_iv x2), (3, am_iv x3)], [am_iv q997], am_SH, (J, K, am_RF false)) = some ((decide (am_i32 q997) && true), .inl (bif am_cb .eq q997 0 then 39 else 36, [(0, am_pv 0), (1, am_iv x1), (2, am_iv x2), (3, am_iv x3)], [], am_SH, (J, K, am_RF false))) from rfl) (am_g1 g999 rfl) (decide_eq_true c1000) ?_
          obtain ⟨q1001, e1002, h⟩ := am_bind_some h
          refine am_r_call (show am_stepn X T_UpRiver_skipper 4 true (39, [(0, am_pv 0), (1, am_iv x1), (2, am_iv x2), (3, am_iv x3)], [], am_SH, (J, K, am_RF false)) = some (true, .inr (.inl (106, [am_pv 0, am_iv x1, am_iv x2], 4, 0, 0, 45, [(0, am_pv 0), (1, am_iv x1), (2, am_iv x2), (3, am_iv x3)], [], am_SH, (J, K, am_RF false)))) from rfl) rfl tb_UpRiver_skipperArrival (s_UpRiver_skipperArrival e1002) ?_
          by_cases c1003 : x3 = 0
          · rw [if_pos c1003] at h
            refine am_r_f (show am_stepn X T_UpRiver_skipper 3 true (45, [(0, am_pv 0), (1, am_iv x1), (2, am_iv x2), (3, am_iv x3)], [am_iv q1001.1], am_SH, (q1001.2, K, am_RF false)) = some ((decide (am_i32 x3) && true), .inl (bif am_cb .ne x3 0 then 56 else 51, [(0, am_pv 0), (1, am_iv x1), (2, am_iv x2), (3, am_iv x3), (4, am_iv q1001.1)], [], am_SH, (q1001.2, K, am_RF false))) from rfl) (am_g1 g994 rfl) (am_nd_t c1003) ?_
            obtain rfl := Option.some.inj h
            exact am_r_ret (show am_stepn X T_UpRiver_skipper 3 true (51, [(0, am_pv 0), (1, am_iv x1), (2, am_iv x2), (3, am_iv x3), (4, am_iv q1001.1)], [], am_SH, (q1001.2, K, am_RF false)) = some (true, .inr (.inr (some (am_iv q1001.1), am_SH, (q1001.2, K, am_RF false)))) from rfl) rfl
          · rw [if_neg c1003] at h
            refine am_r_t (show am_stepn X T_UpRiver_skipper 3 true (45, [(0, am_pv 0), (1, am_iv x1), (2, am_iv x2), (3, am_iv x3)], [am_iv q1001.1], am_SH, (q1001.2, K, am_RF false)) = some ((decide (am_i32 x3) && true), .inl (bif am_cb .ne x3 0 then 56 else 51, [(0, am_pv 0), (1, am_iv x1), (2, am_iv x2), (3, am_iv x3), (4, am_iv q1001.1)], [], am_SH, (q1001.2, K, am_RF false))) from rfl) (am_g1 g994 rfl) (am_nd_f c1003) ?_
            by_cases c1004 : x3 = 1
            · rw [if_pos c1004] at h
              refine am_r_f (show am_stepn X T_UpRiver_skipper 3 true (56, [(0, am_pv 0), (1, am_iv x1), (2, am_iv x2), (3, am_iv x3), (4, am_iv q1001.1)], [], am_SH, (q1001.2, K, am_RF false)) = some (((decide (am_i32 1) && decide (am_i32 x3)) && true), .inl (bif am_cb .ne x3 1 then 74 else 61, [(0, am_pv 0), (3, am_iv x3)], [], am_SH, (q1001.2, K, am_RF false))) from rfl) (am_g2 (by decide) g994 rfl) (am_nd_t c1004) ?_
              obtain rfl := Option.some.inj h
              exact am_r_ret (show am_stepn X T_UpRiver_skipper 6 true (61, [(0, am_pv 0), (3, am_iv x3)], [], am_SH, (q1001.2, K, am_RF false)) = some (true, .inr (.inr (some (am_iv (q1001.2 29 4)), am_SH, (q1001.2, K, am_RF false)))) from rfl) rfl
            · rw [if_neg c1004] at h
              refine am_r_t (show am_stepn X T_UpRiver_skipper 3 true (56, [(0, am_pv 0), (1, am_iv x1), (2, am_iv x2), (3, am_iv x3), (4, am_iv q1001.1)], [], am_SH, (q1001.2, K, am_RF false)) = some (((decide (am_i32 1) && decide (am_i32 x3)) && true), .inl (bif am_cb .ne x3 1 then 74 else 61, [(0, am_pv 0), (3, am_iv x3)], [], am_SH, (q1001.2, K, am_RF false))) from rfl) (am_g2 (by decide) g994 rfl) (am_nd_f c1004) ?_
              obtain rfl := Option.some.inj h
              exact am_r_ret (show am_stepn X T_UpRiver_skipper 5 true (74, [(0, am_pv 0), (3, am_iv x3)], [], am_SH, (q1001.2, K, am_RF false)) = some (true, .inr (.inr (some (am_iv (q1001.2 29 5)), am_SH, (q1001.2, K, am_RF false)))) from rfl) rfl
        · rw [if_neg c1000] at h
          refine am_r_f (show am_stepn X T_UpRiver_skipper 1 true (33, [(0, am_pv 0), (1, am_iv x1), (2, am_iv x2), (3, am_iv x3)], [am_iv q997], am_SH, (J, K, am_RF false)) = some ((decide (am_i32 q997) && true), .inl (bif am_cb .eq q997 0 then 39 else 36, [(0, am_pv 0), (1, am_iv x1), (2, am_iv x2), (3, am_iv x3)], [], am_SH, (J, K, am_RF false))) from rfl) (am_g1 g999 rfl) (decide_eq_false c1000) ?_
          obtain rfl := Option.some.inj h
          exact am_r_ret (show am_stepn X T_UpRiver_skipper 2 true (36, [(0, am_pv 0), (1, am_iv x1), (2, am_iv x2), (3, am_iv x3)], [], am_SH, (J, K, am_RF false)) = some (true, .inr (.inr (some (am_iv (-2)), am_SH, (J, K, am_RF false)))) from rfl) rfl
theorem s_UpRiver_skipper_t {X : am_X} {K : am_K} {x1 : Int} {x2 : Int} {x3 : Int} {J : am_J} {r : Int × am_J} (h : f_UpRiver_skipper true x1 x2 x3 J = some r) : am_runs X T_UpRiver_skipper (0, [(0, am_pv 0), (1, am_iv x1), (2, am_iv x2), (3, am_iv x3)], [], am_SH, (J, K, am_RF true)) (some (am_iv r.1), am_SH, (r.2, K, am_RF true)) := by
  unfold f_UpRiver_skipper at h
  obtain ⟨q990, e991, h⟩ := am_bind_some h
  refine am_r_call (show am_stepn X T_UpRiver_skipper 3 true (0, [(0, am_pv 0), (1, am_iv x1), (2, am_iv x2), (3, am_iv x3)], [], am_SH, (J, K, am_RF true)) = some (true, .inr (.inl (105, [am_iv x1, am_iv x2], 2, 0, 0, 5, [(0, am_pv 0), (1, am_iv x1), (2, am_iv x2), (3, am_iv x3)], [], am_SH, (J, K, am_RF true)))) from rfl) rfl tb_UpRiver_isSkipper (s_UpRiver_isSkipper e991) ?_
  obtain ⟨g992, h⟩ := am_if_some h
  by_cases c993 : q990 = 0
  · rw [if_pos c993] at h
    refine am_r_t (show am_stepn X T_UpRiver_skipper 1 true (5, [(0, am_pv 0), (1, am_iv x1), (2, am_iv x2), (3, am_iv x3)], [am_iv q990], am_SH, (J, K, am_RF true)) = some ((decide (am_i32 q990) && true), .inl (bif am_cb .eq q990 0 then 17 else 8, [(0, am_pv 0), (1, am_iv x1), (2, am_iv x2), (3, am_iv x3)], [], am_SH, (J, K, am_RF true))) from rfl) (am_g1 g992 rfl) (decide_eq_true c993) ?_
    obtain rfl := Option.some.inj h
    exact am_r_ret (show am_stepn X T_UpRiver_skipper 2 true (17, [(0, am_pv 0), (1, am_iv x1), (2, am_iv x2), (3, am_iv x3)], [], am_SH, (J, K, am_RF true)) = some (true, .inr (.inr (some (am_iv (-1)), am_SH, (J, K, am_RF true)))) from rfl) rfl
  · rw [if_neg c993] at h
    refine am_r_f (show am_stepn X T_UpRiver_skipper 1 true (5, [(0, am_pv 0), (1, am_iv x1), (2, am_iv x2), (3, am_iv x3)], [am_iv q990], am_SH, (J, K, am_RF true)) = some ((decide (am_i32 q990) && true), .inl (bif am_cb .eq q990 0 then 17 else 8, [(0, am_pv 0), (1, am_iv x1), (2, am_iv x2), (3, am_iv x3)], [], am_SH, (J, K, am_RF true))) from rfl) (am_g1 g992 rfl) (decide_eq_false c993) ?_
    obtain ⟨g994, h⟩ := am_if_some h
    by_cases c995 : x3 < 0
    · rw [if_pos c995] at h
      refine am_r_t (show am_stepn X T_UpRiver_skipper 2 true (8, [(0, am_pv 0), (1, am_iv x1), (2, am_iv x2), (3, am_iv x3)], [], am_SH, (J, K, am_RF true)) = some ((decide (am_i32 x3) && true), .inl (bif am_cb .lt x3 0 then 17 else 12, [(0, am_pv 0), (1, am_iv x1), (2, am_iv x2), (3, am_iv x3)], [], am_SH, (J, K, am_RF true))) from rfl) (am_g1 g994 rfl) (decide_eq_true c995) ?_
      obtain rfl := Option.some.inj h
      exact am_r_ret (show am_stepn X T_UpRiver_skipper 2 true (17, [(0, am_pv 0), (1, am_iv x1), (2, am_iv x2), (3, am_iv x3)], [], am_SH, (J, K, am_RF true)) = some (true, .inr (.inr (some (am_iv (-1)), am_SH, (J, K, am_RF true)))) from rfl) rfl
    · rw [if_neg c995] at h
      refine am_r_f (show am_stepn X T_UpRiver_skipper 2 true (8, [(0, am_pv 0), (1, am_iv x1), (2, am_iv x2), (3, am_iv x3)], [], am_SH, (J, K, am_RF true)) = some ((decide (am_i32 x3) && true), .inl (bif am_cb .lt x3 0 then 17 else 12, [(0, am_pv 0), (1, am_iv x1), (2, am_iv x2), (3, am_iv x3)], [], am_SH, (J, K, am_RF true))) from rfl) (am_g1 g994 rfl) (decide_eq_false c995) ?_
      by_cases c996 : 2 < x3
      · rw [if_pos c996] at h
        refine am_r_f (show am_stepn X T_UpRiver_skipper 3 true (12, [(0, am_pv 0), (1, am_iv x1), (2, am_iv x2), (3, am_iv x3)], [], am_SH, (J, K, am_RF true)) = some (((decide (am_i32 2) && decide (am_i32 x3)) && true), .inl (bif am_cb .le x3 2 then 19 else 17, [(0, am_pv 0), (1, am_iv x1), (2, am_iv x2), (3, am_iv x3)], [], am_SH, (J, K, am_RF true))) from rfl) (am_g2 (by decide) g994 rfl) (am_nd_t c996) ?_
        obtain rfl := Option.some.inj h
        exact am_r_ret (show am_stepn X T_UpRiver_skipper 2 true (17, [(0, am_pv 0), (1, am_iv x1), (2, am_iv x2), (3, am_iv x3)], [], am_SH, (J, K, am_RF true)) = some (true, .inr (.inr (some (am_iv (-1)), am_SH, (J, K, am_RF true)))) from rfl) rfl
      · rw [if_neg c996] at h
        refine am_r_t (show am_stepn X T_UpRiver_skipper 3 true (12, [(0, am_pv 0), (1, am_iv x1), (2, am_iv x2), (3, am_iv x3)], [], am_SH, (J, K, am_RF true)) = some (((decide (am_i32 2) && decide (am_i32 x3)) && true), .inl (bif am_cb .le x3 2 then 19 else 17, [(0, am_pv 0), (1, am_iv x1), (2, am_iv x2), (3, am_iv x3)], [], am_SH, (J, K, am_RF true))) from rfl) (am_g2 (by decide) g994 rfl) (am_nd_f c996) ?_
        obtain ⟨q997, e998, h⟩ := am_bind_some h
        refine am_r_call (show am_stepn X T_UpRiver_skipper 6 true (19, [(0, am_pv 0), (1, am_iv x1), (2, am_iv x2), (3, am_iv x3)], [], am_SH, (J, K, am_RF true)) = some (true, .inr (.inl (71, [am_pv 18, am_pv (am_rv true)], 2, 0, 0, 33, [(0, am_pv 0), (1, am_iv x1), (2, am_iv x2), (3, am_iv x3)], [], am_SH, (J, K, am_RF true)))) from rfl) rfl tb_Boat_isUp (s_Boat_isUp (by decide) e998) ?_
        obtain ⟨g999, h⟩ := am_if_some h
        by_cases c1000 : q997 = 0
        · rw [if_pos c1000] at h
          refine am_r_t (show am_stepn X T_UpRiver_skipper 1 true (33, [(0, am_pv 0), (1, am_iv x1), (2, am_iv x2), (3, am_iv x3)], [am_iv q997], am_SH, (J, K, am_RF true)) = some ((decide (am_i32 q997) && true), .inl (bif am_cb .eq q997 0 then 39 else 36, [(0, am_pv 0), (1, am_iv x1), (2, am_iv x2), (3, am_iv x3)], [], am_SH, (J, K, am_RF true))) from rfl) (am_g1 g999 rfl) (decide_eq_true c1000) ?_
          obtain ⟨q1001, e1002, h⟩ := am_bind_some h
          refine am_r_call (show am_stepn X T_UpRiver_skipper 4 true (39, [(0, am_pv 0), (1, am_iv x1), (2, am_iv x2), (3, am_iv x3)], [], am_SH, (J, K, am_RF true)) = some (true, .inr (.inl (106, [am_pv 0, am_iv x1, am_iv x2], 4, 0, 0, 45, [(0, am_pv 0), (1, am_iv x1), (2, am_iv x2), (3, am_iv x3)], [], am_SH, (J, K, am_RF true)))) from rfl) rfl tb_UpRiver_skipperArrival (s_UpRiver_skipperArrival e1002) ?_
          by_cases c1003 : x3 = 0
          · rw [if_pos c1003] at h
            refine am_r_f (show am_stepn X T_UpRiver_skipper 3 true (45, [(0, am_pv 0), (1, am_iv x1), (2, am_iv x2), (3, am_iv x3)], [am_iv q1001.1], am_SH, (q1001.2, K, am_RF true)) = some ((decide (am_i32 x3) && true), .inl (bif am_cb .ne x3 0 then 56 else 51, [(0, am_pv 0), (1, am_iv x1), (2, am_iv x2), (3, am_iv x3), (4, am_iv q1001.1)], [], am_SH, (q1001.2, K, am_RF true))) from rfl) (am_g1 g994 rfl) (am_nd_t c1003) ?_
            obtain rfl := Option.some.inj h
            exact am_r_ret (show am_stepn X T_UpRiver_skipper 3 true (51, [(0, am_pv 0), (1, am_iv x1), (2, am_iv x2), (3, am_iv x3), (4, am_iv q1001.1)], [], am_SH, (q1001.2, K, am_RF true)) = some (true, .inr (.inr (some (am_iv q1001.1), am_SH, (q1001.2, K, am_RF true)))) from rfl) rfl
          · rw [if_neg c1003] at h
            refine am_r_t (show am_stepn X T_UpRiver_skipper 3 true (45, [(0, am_pv 0), (1, am_iv x1), (2, am_iv x2), (3, am_iv x3)], [am_iv q1001.1], am_SH, (q1001.2, K, am_RF true)) = some ((decide (am_i32 x3) && true), .inl (bif am_cb .ne x3 0 then 56 else 51, [(0, am_pv 0), (1, am_iv x1), (2, am_iv x2), (3, am_iv x3), (4, am_iv q1001.1)], [], am_SH, (q1001.2, K, am_RF true))) from rfl) (am_g1 g994 rfl) (am_nd_f c1003) ?_
            by_cases c1004 : x3 = 1
            · rw [if_pos c1004] at h
              refine am_r_f (show am_stepn X T_UpRiver_skipper 3 true (56, [(0, am_pv 0), (1, am_iv x1), (2, am_iv x2), (3, am_iv x3), (4, am_iv q1001.1)], [], am_SH, (q1001.2, K, am_RF true)) = some (((decide (am_i32 1) && decide (am_i32 x3)) && true), .inl (bif am_cb .ne x3 1 then 74 else 61, [(0, am_pv 0), (3, am_iv x3)], [], am_SH, (q1001.2, K, am_RF true))) from rfl) (am_g2 (by decide) g994 rfl) (am_nd_t c1004) ?_
              obtain rfl := Option.some.inj h
              exact am_r_ret (show am_stepn X T_UpRiver_skipper 6 true (61, [(0, am_pv 0), (3, am_iv x3)], [], am_SH, (q1001.2, K, am_RF true)) = some (true, .inr (.inr (some (am_iv (q1001.2 29 4)), am_SH, (q1001.2, K, am_RF true)))) from rfl) rfl
            · rw [if_neg c1004] at h
              refine am_r_t (show am_stepn X T_UpRiver_skipper 3 true (56, [(0, am_pv 0), (1, am_iv x1), (2, am_iv x2), (3, am_iv x3), (4, am_iv q1001.1)], [], am_SH, (q1001.2, K, am_RF true)) = some (((decide (am_i32 1) && decide (am_i32 x3)) && true), .inl (bif am_cb .ne x3 1 then 74 else 61, [(0, am_pv 0), (3, am_iv x3)], [], am_SH, (q1001.2, K, am_RF true))) from rfl) (am_g2 (by decide) g994 rfl) (am_nd_f c1004) ?_
              obtain rfl := Option.some.inj h
              exact am_r_ret (show am_stepn X T_UpRiver_skipper 5 true (74, [(0, am_pv 0), (3, am_iv x3)], [], am_SH, (q1001.2, K, am_RF true)) = some (true, .inr (.inr (some (am_iv (q1001.2 29 5)), am_SH, (q1001.2, K, am_RF true)))) from rfl) rfl
        · rw [if_neg c1000] at h
          refine am_r_f (show am_stepn X T_UpRiver_skipper 1 true (33, [(0, am_pv 0), (1, am_iv x1), (2, am_iv x2), (3, am_iv x3)], [am_iv q997], am_SH, (J, K, am_RF true)) = some ((decide (am_i32 q997) && true), .inl (bif am_cb .eq q997 0 then 39 else 36, [(0, am_pv 0), (1, am_iv x1), (2, am_iv x2), (3, am_iv x3)], [], am_SH, (J, K, am_RF true))) from rfl) (am_g1 g999 rfl) (decide_eq_false c1000) ?_
          obtain rfl := Option.some.inj h
          exact am_r_ret (show am_stepn X T_UpRiver_skipper 2 true (36, [(0, am_pv 0), (1, am_iv x1), (2, am_iv x2), (3, am_iv x3)], [], am_SH, (J, K, am_RF true)) = some (true, .inr (.inr (some (am_iv (-2)), am_SH, (J, K, am_RF true)))) from rfl) rfl
theorem s_UpRiver_skipper {X : am_X} {b : Bool} {K : am_K} {x1 : Int} {x2 : Int} {x3 : Int} {J : am_J} {r : Int × am_J} (h : f_UpRiver_skipper b x1 x2 x3 J = some r) : am_runs X T_UpRiver_skipper (0, [(0, am_pv 0), (1, am_iv x1), (2, am_iv x2), (3, am_iv x3)], [], am_SH, (J, K, am_RF b)) (some (am_iv r.1), am_SH, (r.2, K, am_RF b)) := by
  cases b
  · exact s_UpRiver_skipper_f h
  · exact s_UpRiver_skipper_t h
theorem s_UpRiver_best_L46_f {X : am_X} {K : am_K}  : ∀ (n : Nat) (x1 : Int) (x2 : Int) (x3 : Int) (x4 : Int) (x5 : Int) (J : am_J) (r : Int × am_J), f_UpRiver_best_L46 false  n x1 x2 x3 x4 x5 J = some r → am_runs X T_UpRiver_best (46, [(0, am_pv 0), (1, am_iv x1), (2, am_iv x2), (3, am_iv x3), (4, am_iv x4), (5, am_iv x5)], [], am_SH, (J, K, am_RF false)) (some (am_iv r.1), am_SH, (r.2, K, am_RF false)) := by
  intro n
  induction n with
  | zero =>
    intro x1 x2 x3 x4 x5 J r h
    cases h
  | succ n ih =>
    intro x1 x2 x3 x4 x5 J r h
    rw [f_UpRiver_best_L46.eq_2] at h
    obtain ⟨g1005, h⟩ := am_if_some h
    by_cases c1006 : 20 < x5
    · rw [if_pos c1006] at h
      refine am_r_t (show am_stepn X T_UpRiver_best 3 true (46, [(0, am_pv 0), (1, am_iv x1), (2, am_iv x2), (3, am_iv x3), (4, am_iv x4), (5, am_iv x5)], [], am_SH, (J, K, am_RF false)) = some (((decide (am_i32 20) && decide (am_i32 x5)) && true), .inl (bif am_cb .gt x5 20 then 96 else 53, [(0, am_pv 0), (1, am_iv x1), (2, am_iv x2), (3, am_iv x3), (4, am_iv x4), (5, am_iv x5)], [], am_SH, (J, K, am_RF false))) from rfl) (am_g2 (by decide) g1005 rfl) (decide_eq_true c1006) ?_
      obtain ⟨g1007, h⟩ := am_if_some h
      by_cases c1008 : x2 = 0
      · rw [if_pos c1008] at h
        refine am_r_f (show am_stepn X T_UpRiver_best 2 true (96, [(0, am_pv 0), (1, am_iv x1), (2, am_iv x2), (3, am_iv x3), (4, am_iv x4), (5, am_iv x5)], [], am_SH, (J, K, am_RF false)) = some ((decide (am_i32 x2) && true), .inl (bif am_cb .ne x2 0 then 104 else 100, [(2, am_iv x2), (3, am_iv x3), (4, am_iv x4)], [], am_SH, (J, K, am_RF false))) from rfl) (am_g1 g1007 rfl) (am_nd_t c1008) ?_
        obtain rfl := Option.some.inj h
        exact am_r_ret (show am_stepn X T_UpRiver_best 3 true (100, [(2, am_iv x2), (3, am_iv x3), (4, am_iv x4)], [], am_SH, (J, K, am_RF false)) = some (true, .inr (.inr (some (am_iv x3), am_SH, (J, K, am_RF false)))) from rfl) rfl
      · rw [if_neg c1008] at h
        refine am_r_t (show am_stepn X T_UpRiver_best 2 true (96, [(0, am_pv 0), (1, am_iv x1), (2, am_iv x2), (3, am_iv x3), (4, am_iv x4), (5, am_iv x5)], [], am_SH, (J, K, am_RF false)) = some ((decide (am_i32 x2) && true), .inl (bif am_cb .ne x2 0 then 104 else 100, [(2, am_iv x2), (3, am_iv x3), (4, am_iv x4)], [], am_SH, (J, K, am_RF false))) from rfl) (am_g1 g1007 rfl) (am_nd_f c1008) ?_
        obtain rfl := Option.some.inj h
        exact am_r_ret (show am_stepn X T_UpRiver_best 2 true (104, [(2, am_iv x2), (3, am_iv x3), (4, am_iv x4)], [], am_SH, (J, K, am_RF false)) = some (true, .inr (.inr (some (am_iv x4), am_SH, (J, K, am_RF false)))) from rfl) rfl
    · rw [if_neg c1006] at h
      refine am_r_f (show am_stepn X T_UpRiver_best 3 true (46, [(0, am_pv 0), (1, am_iv x1), (2, am_iv x2), (3, am_iv x3), (4, am_iv x4), (5, am_iv x5)], [], am_SH, (J, K, am_RF false)) = some (((decide (am_i32 20) && decide (am_i32 x5)) && true), .inl (bif am_cb .gt x5 20 then 96 else 53, [(0, am_pv 0), (1, am_iv x1), (2, am_iv x2), (3, am_iv x3), (4, am_iv x4), (5, am_iv x5)], [], am_SH, (J, K, am_RF false))) from rfl) (am_g2 (by decide) g1005 rfl) (decide_eq_false c1006) ?_
      obtain ⟨q1009, e1010, h⟩ := am_bind_some h
      refine am_r_call (show am_stepn X T_UpRiver_best 4 true (53, [(0, am_pv 0), (1, am_iv x1), (2, am_iv x2), (3, am_iv x3), (4, am_iv x4), (5, am_iv x5)], [], am_SH, (J, K, am_RF false)) = some (true, .inr (.inl (106, [am_pv 0, am_iv x5, am_iv x1], 4, 0, 0, 60, [(0, am_pv 0), (1, am_iv x1), (2, am_iv x2), (3, am_iv x3), (4, am_iv x4), (5, am_iv x5)], [], am_SH, (J, K, am_RF false)))) from rfl) rfl tb_UpRiver_skipperArrival (s_UpRiver_skipperArrival e1010) ?_
      obtain ⟨g1011, h⟩ := am_if_some h
      by_cases c1012 : q1009.1 = (-4)
      · rw [if_pos c1012] at h
        refine am_r_t (show am_stepn X T_UpRiver_best 4 true (60, [(0, am_pv 0), (1, am_iv x1), (2, am_iv x2), (3, am_iv x3), (4, am_iv x4), (5, am_iv x5)], [am_iv q1009.1], am_SH, (q1009.2, K, am_RF false)) = some (((decide (am_i32 (-4)) && decide (am_i32 q1009.1)) && true), .inl (bif am_cb .eq q1009.1 (-4) then 90 else 69, [(0, am_pv 0), (1, am_iv x1), (2, am_iv x2), (3, am_iv x3), (4, am_iv x4), (5, am_iv x5), (6, am_iv q1009.1)], [], am_SH, (q1009.2, K, am_RF false))) from rfl) (am_g2 (by decide) g1011 rfl) (decide_eq_true c1012) ?_
        refine am_r_go (show am_stepn X T_UpRiver_best 2 true (90, [(0, am_pv 0), (1, am_iv x1), (2, am_iv x2), (3, am_iv x3), (4, am_iv x4), (5, am_iv x5), (6, am_iv q1009.1)], [], am_SH, (q1009.2, K, am_RF false)) = some (true, .inl (46, [(0, am_pv 0), (1, am_iv x1), (2, am_iv x2), (3, am_iv x3), (4, am_iv x4), (5, am_iv (x5 + 1))], [], am_SH, (q1009.2, K, am_RF false))) from rfl) rfl ?_
        exact ih _ _ _ _ _ _ _ h
      · rw [if_neg c1012] at h
        refine am_r_f (show am_stepn X T_UpRiver_best 4 true (60, [(0, am_pv 0), (1, am_iv x1), (2, am_iv x2), (3, am_iv x3), (4, am_iv x4), (5, am_iv x5)], [am_iv q1009.1], am_SH, (q1009.2, K, am_RF false)) = some (((decide (am_i32 (-4)) && decide (am_i32 q1009.1)) && true), .inl (bif am_cb .eq q1009.1 (-4) then 90 else 69, [(0, am_pv 0), (1, am_iv x1), (2, am_iv x2), (3, am_iv x3), (4, am_iv x4), (5, am_iv x5), (6, am_iv q1009.1)], [], am_SH, (q1009.2, K, am_RF false))) from rfl) (am_g2 (by decide) g1011 rfl) (decide_eq_false c1012) ?_
        obtain ⟨g1013, h⟩ := am_if_some h
        by_cases c1014 : x4 = (-4)
        · rw [if_pos c1014] at h
          refine am_r_t (show am_stepn X T_UpRiver_best 3 true (69, [(0, am_pv 0), (1, am_iv x1), (2, am_iv x2), (3, am_iv x3), (4, am_iv x4), (5, am_iv x5), (6, am_iv q1009.1)], [], am_SH, (q1009.2, K, am_RF false)) = some (((decide (am_i32 (-4)) && decide (am_i32 x4)) && true), .inl (bif am_cb .eq x4 (-4) then 83 else 76, [(0, am_pv 0), (1, am_iv x1), (2, am_iv x2), (3, am_iv x3), (4, am_iv x4), (5, am_iv x5), (6, am_iv q1009.1)], [], am_SH, (q1009.2, K, am_RF false))) from rfl) (am_g2 (by decide) g1013 rfl) (decide_eq_true c1014) ?_
          refine am_r_go (show am_stepn X T_UpRiver_best 6 true (83, [(0, am_pv 0), (1, am_iv x1), (2, am_iv x2), (3, am_iv x3), (4, am_iv x4), (5, am_iv x5), (6, am_iv q1009.1)], [], am_SH, (q1009.2, K, am_RF false)) = some (true, .inl (46, [(0, am_pv 0), (1, am_iv x1), (2, am_iv x2), (3, am_iv x5), (4, am_iv q1009.1), (5, am_iv (x5 + 1))], [], am_SH, (q1009.2, K, am_RF false))) from rfl) rfl ?_
          exact ih _ _ _ _ _ _ _ h
        · rw [if_neg c1014] at h
          refine am_r_f (show am_stepn X T_UpRiver_best 3 true (69, [(0, am_pv 0), (1, am_iv x1), (2, am_iv x2), (3, am_iv x3), (4, am_iv x4), (5, am_iv x5), (6, am_iv q1009.1)], [], am_SH, (q1009.2, K, am_RF false)) = some (((decide (am_i32 (-4)) && decide (am_i32 x4)) && true), .inl (bif am_cb .eq x4 (-4) then 83 else 76, [(0, am_pv 0), (1, am_iv x1), (2, am_iv x2), (3, am_iv x3), (4, am_iv x4), (5, am_iv x5), (6, am_iv q1009.1)], [], am_SH, (q1009.2, K, am_RF false))) from rfl) (am_g2 (by decide) g1013 rfl) (decide_eq_false c1014) ?_
          by_cases c1015 : q1009.1 < x4
          · rw [if_pos c1015] at h
            refine am_r_f (show am_stepn X T_UpRiver_best 3 true (76, [(0, am_pv 0), (1, am_iv x1), (2, am_iv x2), (3, am_iv x3), (4, am_iv x4), (5, am_iv x5), (6, am_iv q1009.1)], [], am_SH, (q1009.2, K, am_RF false)) = some (((decide (am_i32 x4) && decide (am_i32 q1009.1)) && true), .inl (bif am_cb .ge q1009.1 x4 then 90 else 83, [(0, am_pv 0), (1, am_iv x1), (2, am_iv x2), (3, am_iv x3), (4, am_iv x4), (5, am_iv x5), (6, am_iv q1009.1)], [], am_SH, (q1009.2, K, am_RF false))) from rfl) (am_g2 g1013 g1011 rfl) (am_nd_t c1015) ?_
            refine am_r_go (show am_stepn X T_UpRiver_best 6 true (83, [(0, am_pv 0), (1, am_iv x1), (2, am_iv x2), (3, am_iv x3), (4, am_iv x4), (5, am_iv x5), (6, am_iv q1009.1)], [], am_SH, (q1009.2, K, am_RF false)) = some (true, .inl (46, [(0, am_pv 0), (1, am_iv x1), (2, am_iv x2), (3, am_iv x5), (4, am_iv q1009.1), (5, am_iv (x5 + 1))], [], am_SH, (q1009.2, K, am_RF false))) from rfl) rfl ?_
            exact ih _ _ _ _ _ _ _ h
          · rw [if_neg c1015] at h
            refine am_r_t (show am_stepn X T_UpRiver_best 3 true (76, [(0, am_pv 0), (1, am_iv x1), (2, am_iv x2), (3, am_iv x3), (4, am_iv x4), (5, am_iv x5), (6, am_iv q1009.1)], [], am_SH, (q1009.2, K, am_RF false)) = some (((decide (am_i32 x4) && decide (am_i32 q1009.1)) && true), .inl (bif am_cb .ge q1009.1 x4 then 90 else 83, [(0, am_pv 0), (1, am_iv x1), (2, am_iv x2), (3, am_iv x3), (4, am_iv x4), (5, am_iv x5), (6, am_iv q1009.1)], [], am_SH, (q1009.2, K, am_RF false))) from rfl) (am_g2 g1013 g1011 rfl) (am_nd_f c1015) ?_
            refine am_r_go (show am_stepn X T_UpRiver_best 2 true (90, [(0, am_pv 0), (1, am_iv x1), (2, am_iv x2), (3, am_iv x3), (4, am_iv x4), (5, am_iv x5), (6, am_iv q1009.1)], [], am_SH, (q1009.2, K, am_RF false)) = some (true, .inl (46, [(0, am_pv 0), (1, am_iv x1), (2, am_iv x2), (3, am_iv x3), (4, am_iv x4), (5, am_iv (x5 + 1))], [], am_SH, (q1009.2, K, am_RF false))) from rfl) rfl ?_
            exact ih _ _ _ _ _ _ _ h
theorem s_UpRiver_best_f {X : am_X} {K : am_K} {x1 : Int} {x2 : Int} {J : am_J} {r : Int × am_J} (h : f_UpRiver_best false x1 x2 J = some r) : am_runs X T_UpRiver_best (0, [(0, am_pv 0), (1, am_iv x1), (2, am_iv x2)], [], am_SH, (J, K, am_RF false)) (some (am_iv r.1), am_SH, (r.2, K, am_RF false)) := by
  unfold f_UpRiver_best at h
  obtain ⟨q1016, e1017, h⟩ := am_bind_some h
  refine am_r_call (show am_stepn X T_UpRiver_best 2 true (0, [(0, am_pv 0), (1, am_iv x1), (2, am_iv x2)], [], am_SH, (J, K, am_RF false)) = some (true, .inr (.inl (67, [am_iv x1], 1, 0, 0, 4, [(0, am_pv 0), (1, am_iv x1), (2, am_iv x2)], [], am_SH, (J, K, am_RF false)))) from rfl) rfl tb_UpRiver_isYesOrNo (s_UpRiver_isYesOrNo e1017) ?_
  obtain ⟨g1018, h⟩ := am_if_some h
  by_cases c1019 : q1016 = 0
  · rw [if_pos c1019] at h
    refine am_r_t (show am_stepn X T_UpRiver_best 1 true (4, [(0, am_pv 0), (1, am_iv x1), (2, am_iv x2)], [am_iv q1016], am_SH, (J, K, am_RF false)) = some ((decide (am_i32 q1016) && true), .inl (bif am_cb .eq q1016 0 then 14 else 7, [(0, am_pv 0), (1, am_iv x1), (2, am_iv x2)], [], am_SH, (J, K, am_RF false))) from rfl) (am_g1 g1018 rfl) (decide_eq_true c1019) ?_
    obtain rfl := Option.some.inj h
    exact am_r_ret (show am_stepn X T_UpRiver_best 2 true (14, [(0, am_pv 0), (1, am_iv x1), (2, am_iv x2)], [], am_SH, (J, K, am_RF false)) = some (true, .inr (.inr (some (am_iv (-1)), am_SH, (J, K, am_RF false)))) from rfl) rfl
  · rw [if_neg c1019] at h
    refine am_r_f (show am_stepn X T_UpRiver_best 1 true (4, [(0, am_pv 0), (1, am_iv x1), (2, am_iv x2)], [am_iv q1016], am_SH, (J, K, am_RF false)) = some ((decide (am_i32 q1016) && true), .inl (bif am_cb .eq q1016 0 then 14 else 7, [(0, am_pv 0), (1, am_iv x1), (2, am_iv x2)], [], am_SH, (J, K, am_RF false))) from rfl) (am_g1 g1018 rfl) (decide_eq_false c1019) ?_
    obtain ⟨q1020, e1021, h⟩ := am_bind_some h
    refine am_r_call (show am_stepn X T_UpRiver_best 2 true (7, [(0, am_pv 0), (1, am_iv x1), (2, am_iv x2)], [], am_SH, (J, K, am_RF false)) = some (true, .inr (.inl (67, [am_iv x2], 1, 0, 0, 11, [(0, am_pv 0), (1, am_iv x1), (2, am_iv x2)], [], am_SH, (J, K, am_RF false)))) from rfl) rfl tb_UpRiver_isYesOrNo (s_UpRiver_isYesOrNo e1021) ?_
    obtain ⟨g1022, h⟩ := am_if_some h
    by_cases c1023 : q1020 = 0
    · rw [if_pos c1023] at h
      refine am_r_f (show am_stepn X T_UpRiver_best 1 true (11, [(0, am_pv 0), (1, am_iv x1), (2, am_iv x2)], [am_iv q1020], am_SH, (J, K, am_RF false)) = some ((decide (am_i32 q1020) && true), .inl (bif am_cb .ne q1020 0 then 16 else 14, [(0, am_pv 0), (1, am_iv x1), (2, am_iv x2)], [], am_SH, (J, K, am_RF false))) from rfl) (am_g1 g1022 rfl) (am_nd_t c1023) ?_
      obtain rfl := Option.some.inj h
      exact am_r_ret (show am_stepn X T_UpRiver_best 2 true (14, [(0, am_pv 0), (1, am_iv x1), (2, am_iv x2)], [], am_SH, (J, K, am_RF false)) = some (true, .inr (.inr (some (am_iv (-1)), am_SH, (J, K, am_RF false)))) from rfl) rfl
    · rw [if_neg c1023] at h
      refine am_r_t (show am_stepn X T_UpRiver_best 1 true (11, [(0, am_pv 0), (1, am_iv x1), (2, am_iv x2)], [am_iv q1020], am_SH, (J, K, am_RF false)) = some ((decide (am_i32 q1020) && true), .inl (bif am_cb .ne q1020 0 then 16 else 14, [(0, am_pv 0), (1, am_iv x1), (2, am_iv x2)], [], am_SH, (J, K, am_RF false))) from rfl) (am_g1 g1022 rfl) (am_nd_f c1023) ?_
      obtain ⟨q1024, e1025, h⟩ := am_bind_some h
      refine am_r_call (show am_stepn X T_UpRiver_best 6 true (16, [(0, am_pv 0), (1, am_iv x1), (2, am_iv x2)], [], am_SH, (J, K, am_RF false)) = some (true, .inr (.inl (71, [am_pv 18, am_pv (am_rv false)], 2, 0, 0, 30, [(0, am_pv 0), (1, am_iv x1), (2, am_iv x2)], [], am_SH, (J, K, am_RF false)))) from rfl) rfl tb_Boat_isUp (s_Boat_isUp (by decide) e1025) ?_
      obtain ⟨g1026, h⟩ := am_if_some h
      by_cases c1027 : q1024 = 0
      · rw [if_pos c1027] at h
        refine am_r_t (show am_stepn X T_UpRiver_best 1 true (30, [(0, am_pv 0), (1, am_iv x1), (2, am_iv x2)], [am_iv q1024], am_SH, (J, K, am_RF false)) = some ((decide (am_i32 q1024) && true), .inl (bif am_cb .eq q1024 0 then 36 else 33, [(0, am_pv 0), (1, am_iv x1), (2, am_iv x2)], [], am_SH, (J, K, am_RF false))) from rfl) (am_g1 g1026 rfl) (decide_eq_true c1027) ?_
        refine am_r_go (show am_stepn X T_UpRiver_best 6 true (36, [(0, am_pv 0), (1, am_iv x1), (2, am_iv x2)], [], am_SH, (J, K, am_RF false)) = some (true, .inl (46, [(0, am_pv 0), (1, am_iv x1), (2, am_iv x2), (3, am_iv (-4)), (4, am_iv (-4)), (5, am_iv 0)], [], am_SH, (J, K, am_RF false))) from rfl) rfl ?_
        exact s_UpRiver_best_L46_f  _ _ _ _ _ _ _ _ h
      · rw [if_neg c1027] at h
        refine am_r_f (show am_stepn X T_UpRiver_best 1 true (30, [(0, am_pv 0), (1, am_iv x1), (2, am_iv x2)], [am_iv q1024], am_SH, (J, K, am_RF false)) = some ((decide (am_i32 q1024) && true), .inl (bif am_cb .eq q1024 0 then 36 else 33, [(0, am_pv 0), (1, am_iv x1), (2, am_iv x2)], [], am_SH, (J, K, am_RF false))) from rfl) (am_g1 g1026 rfl) (decide_eq_false c1027) ?_
        obtain rfl := Option.some.inj h
        exact am_r_ret (show am_stepn X T_UpRiver_best 2 true (33, [(0, am_pv 0), (1, am_iv x1), (2, am_iv x2)], [], am_SH, (J, K, am_RF false)) = some (true, .inr (.inr (some (am_iv (-2)), am_SH, (J, K, am_RF false)))) from rfl) rfl
theorem s_UpRiver_best_L46_t {X : am_X} {K : am_K}  : ∀ (n : Nat) (x1 : Int) (x2 : Int) (x3 : Int) (x4 : Int) (x5 : Int) (J : am_J) (r : Int × am_J), f_UpRiver_best_L46 true  n x1 x2 x3 x4 x5 J = some r → am_runs X T_UpRiver_best (46, [(0, am_pv 0), (1, am_iv x1), (2, am_iv x2), (3, am_iv x3), (4, am_iv x4), (5, am_iv x5)], [], am_SH, (J, K, am_RF true)) (some (am_iv r.1), am_SH, (r.2, K, am_RF true)) := by
  intro n
  induction n with
  | zero =>
    intro x1 x2 x3 x4 x5 J r h
    cases h
  | succ n ih =>
    intro x1 x2 x3 x4 x5 J r h
    rw [f_UpRiver_best_L46.eq_2] at h
    obtain ⟨g1005, h⟩ := am_if_some h
    by_cases c1006 : 20 < x5
    · rw [if_pos c1006] at h
      refine am_r_t (show am_stepn X T_UpRiver_best 3 true (46, [(0, am_pv 0), (1, am_iv x1), (2, am_iv x2), (3, am_iv x3), (4, am_iv x4), (5, am_iv x5)], [], am_SH, (J, K, am_RF true)) = some (((decide (am_i32 20) && decide (am_i32 x5)) && true), .inl (bif am_cb .gt x5 20 then 96 else 53, [(0, am_pv 0), (1, am_iv x1), (2, am_iv x2), (3, am_iv x3), (4, am_iv x4), (5, am_iv x5)], [], am_SH, (J, K, am_RF true))) from rfl) (am_g2 (by decide) g1005 rfl) (decide_eq_true c1006) ?_
      obtain ⟨g1007, h⟩ := am_if_some h
      by_cases c1008 : x2 = 0
      · rw [if_pos c1008] at h
        refine am_r_f (show am_stepn X T_UpRiver_best 2 true (96, [(0, am_pv 0), (1, am_iv x1), (2, am_iv x2), (3, am_iv x3), (4, am_iv x4), (5, am_iv x5)], [], am_SH, (J, K, am_RF true)) = some ((decide (am_i32 x2) && true), .inl (bif am_cb .ne x2 0 then 104 else 100, [(2, am_iv x2), (3, am_iv x3), (4, am_iv x4)], [], am_SH, (J, K, am_RF true))) from rfl) (am_g1 g1007 rfl) (am_nd_t c1008) ?_
        obtain rfl := Option.some.inj h
        exact am_r_ret (show am_stepn X T_UpRiver_best 3 true (100, [(2, am_iv x2), (3, am_iv x3), (4, am_iv x4)], [], am_SH, (J, K, am_RF true)) = some (true, .inr (.inr (some (am_iv x3), am_SH, (J, K, am_RF true)))) from rfl) rfl
      · rw [if_neg c1008] at h
        refine am_r_t (show am_stepn X T_UpRiver_best 2 true (96, [(0, am_pv 0), (1, am_iv x1), (2, am_iv x2), (3, am_iv x3), (4, am_iv x4), (5, am_iv x5)], [], am_SH, (J, K, am_RF true)) = some ((decide (am_i32 x2) && true), .inl (bif am_cb .ne x2 0 then 104 else 100, [(2, am_iv x2), (3, am_iv x3), (4, am_iv x4)], [], am_SH, (J, K, am_RF true))) from rfl) (am_g1 g1007 rfl) (am_nd_f c1008) ?_
        obtain rfl := Option.some.inj h
        exact am_r_ret (show am_stepn X T_UpRiver_best 2 true (104, [(2, am_iv x2), (3, am_iv x3), (4, am_iv x4)], [], am_SH, (J, K, am_RF true)) = some (true, .inr (.inr (some (am_iv x4), am_SH, (J, K, am_RF true)))) from rfl) rfl
    · rw [if_neg c1006] at h
      refine am_r_f (show am_stepn X T_UpRiver_best 3 true (46, [(0, am_pv 0), (1, am_iv x1), (2, am_iv x2), (3, am_iv x3), (4, am_iv x4), (5, am_iv x5)], [], am_SH, (J, K, am_RF true)) = some (((decide (am_i32 20) && decide (am_i32 x5)) && true), .inl (bif am_cb .gt x5 20 then 96 else 53, [(0, am_pv 0), (1, am_iv x1), (2, am_iv x2), (3, am_iv x3), (4, am_iv x4), (5, am_iv x5)], [], am_SH, (J, K, am_RF true))) from rfl) (am_g2 (by decide) g1005 rfl) (decide_eq_false c1006) ?_
      obtain ⟨q1009, e1010, h⟩ := am_bind_some h
      refine am_r_call (show am_stepn X T_UpRiver_best 4 true (53, [(0, am_pv 0), (1, am_iv x1), (2, am_iv x2), (3, am_iv x3), (4, am_iv x4), (5, am_iv x5)], [], am_SH, (J, K, am_RF true)) = some (true, .inr (.inl (106, [am_pv 0, am_iv x5, am_iv x1], 4, 0, 0, 60, [(0, am_pv 0), (1, am_iv x1), (2, am_iv x2), (3, am_iv x3), (4, am_iv x4), (5, am_iv x5)], [], am_SH, (J, K, am_RF true)))) from rfl) rfl tb_UpRiver_skipperArrival (s_UpRiver_skipperArrival e1010) ?_
      obtain ⟨g1011, h⟩ := am_if_some h
      by_cases c1012 : q1009.1 = (-4)
      · rw [if_pos c1012] at h
        refine am_r_t (show am_stepn X T_UpRiver_best 4 true (60, [(0, am_pv 0), (1, am_iv x1), (2, am_iv x2), (3, am_iv x3), (4, am_iv x4), (5, am_iv x5)], [am_iv q1009.1], am_SH, (q1009.2, K, am_RF true)) = some (((decide (am_i32 (-4)) && decide (am_i32 q1009.1)) && true), .inl (bif am_cb .eq q1009.1 (-4) then 90 else 69, [(0, am_pv 0), (1, am_iv x1), (2, am_iv x2), (3, am_iv x3), (4, am_iv x4), (5, am_iv x5), (6, am_iv q1009.1)], [], am_SH, (q1009.2, K, am_RF true))) from rfl) (am_g2 (by decide) g1011 rfl) (decide_eq_true c1012) ?_
        refine am_r_go (show am_stepn X T_UpRiver_best 2 true (90, [(0, am_pv 0), (1, am_iv x1), (2, am_iv x2), (3, am_iv x3), (4, am_iv x4), (5, am_iv x5), (6, am_iv q1009.1)], [], am_SH, (q1009.2, K, am_RF true)) = some (true, .inl (46, [(0, am_pv 0), (1, am_iv x1), (2, am_iv x2), (3, am_iv x3), (4, am_iv x4), (5, am_iv (x5 + 1))], [], am_SH, (q1009.2, K, am_RF true))) from rfl) rfl ?_
        exact ih _ _ _ _ _ _ _ h
      · rw [if_neg c1012] at h
        refine am_r_f (show am_stepn X T_UpRiver_best 4 true (60, [(0, am_pv 0), (1, am_iv x1), (2, am_iv x2), (3, am_iv x3), (4, am_iv x4), (5, am_iv x5)], [am_iv q1009.1], am_SH, (q1009.2, K, am_RF true)) = some (((decide (am_i32 (-4)) && decide (am_i32 q1009.1)) && true), .inl (bif am_cb .eq q1009.1 (-4) then 90 else 69, [(0, am_pv 0), (1, am_iv x1), (2, am_iv x2), (3, am_iv x3), (4, am_iv x4), (5, am_iv x5), (6, am_iv q1009.1)], [], am_SH, (q1009.2, K, am_RF true))) from rfl) (am_g2 (by decide) g1011 rfl) (decide_eq_false c1012) ?_
        obtain ⟨g1013, h⟩ := am_if_some h
        by_cases c1014 : x4 = (-4)
        · rw [if_pos c1014] at h
          refine am_r_t (show am_stepn X T_UpRiver_best 3 true (69, [(0, am_pv 0), (1, am_iv x1), (2, am_iv x2), (3, am_iv x3), (4, am_iv x4), (5, am_iv x5), (6, am_iv q1009.1)], [], am_SH, (q1009.2, K, am_RF true)) = some (((decide (am_i32 (-4)) && decide (am_i32 x4)) && true), .inl (bif am_cb .eq x4 (-4) then 83 else 76, [(0, am_pv 0), (1, am_iv x1), (2, am_iv x2), (3, am_iv x3), (4, am_iv x4), (5, am_iv x5), (6, am_iv q1009.1)], [], am_SH, (q1009.2, K, am_RF true))) from rfl) (am_g2 (by decide) g1013 rfl) (decide_eq_true c1014) ?_
          refine am_r_go (show am_stepn X T_UpRiver_best 6 true (83, [(0, am_pv 0), (1, am_iv x1), (2, am_iv x2), (3, am_iv x3), (4, am_iv x4), (5, am_iv x5), (6, am_iv q1009.1)], [], am_SH, (q1009.2, K, am_RF true)) = some (true, .inl (46, [(0, am_pv 0), (1, am_iv x1), (2, am_iv x2), (3, am_iv x5), (4, am_iv q1009.1), (5, am_iv (x5 + 1))], [], am_SH, (q1009.2, K, am_RF true))) from rfl) rfl ?_
          exact ih _ _ _ _ _ _ _ h
        · rw [if_neg c1014] at h
          refine am_r_f (show am_stepn X T_UpRiver_best 3 true (69, [(0, am_pv 0), (1, am_iv x1), (2, am_iv x2), (3, am_iv x3), (4, am_iv x4), (5, am_iv x5), (6, am_iv q1009.1)], [], am_SH, (q1009.2, K, am_RF true)) = some (((decide (am_i32 (-4)) && decide (am_i32 x4)) && true), .inl (bif am_cb .eq x4 (-4) then 83 else 76, [(0, am_pv 0), (1, am_iv x1), (2, am_iv x2), (3, am_iv x3), (4, am_iv x4), (5, am_iv x5), (6, am_iv q1009.1)], [], am_SH, (q1009.2, K, am_RF true))) from rfl) (am_g2 (by decide) g1013 rfl) (decide_eq_false c1014) ?_
          by_cases c1015 : q1009.1 < x4
          · rw [if_pos c1015] at h
            refine am_r_f (show am_stepn X T_UpRiver_best 3 true (76, [(0, am_pv 0), (1, am_iv x1), (2, am_iv x2), (3, am_iv x3), (4, am_iv x4), (5, am_iv x5), (6, am_iv q1009.1)], [], am_SH, (q1009.2, K, am_RF true)) = some (((decide (am_i32 x4) && decide (am_i32 q1009.1)) && true), .inl (bif am_cb .ge q1009.1 x4 then 90 else 83, [(0, am_pv 0), (1, am_iv x1), (2, am_iv x2), (3, am_iv x3), (4, am_iv x4), (5, am_iv x5), (6, am_iv q1009.1)], [], am_SH, (q1009.2, K, am_RF true))) from rfl) (am_g2 g1013 g1011 rfl) (am_nd_t c1015) ?_
            refine am_r_go (show am_stepn X T_UpRiver_best 6 true (83, [(0, am_pv 0), (1, am_iv x1), (2, am_iv x2), (3, am_iv x3), (4, am_iv x4), (5, am_iv x5), (6, am_iv q1009.1)], [], am_SH, (q1009.2, K, am_RF true)) = some (true, .inl (46, [(0, am_pv 0), (1, am_iv x1), (2, am_iv x2), (3, am_iv x5), (4, am_iv q1009.1), (5, am_iv (x5 + 1))], [], am_SH, (q1009.2, K, am_RF true))) from rfl) rfl ?_
            exact ih _ _ _ _ _ _ _ h
          · rw [if_neg c1015] at h
            refine am_r_t (show am_stepn X T_UpRiver_best 3 true (76, [(0, am_pv 0), (1, am_iv x1), (2, am_iv x2), (3, am_iv x3), (4, am_iv x4), (5, am_iv x5), (6, am_iv q1009.1)], [], am_SH, (q1009.2, K, am_RF true)) = some (((decide (am_i32 x4) && decide (am_i32 q1009.1)) && true), .inl (bif am_cb .ge q1009.1 x4 then 90 else 83, [(0, am_pv 0), (1, am_iv x1), (2, am_iv x2), (3, am_iv x3), (4, am_iv x4), (5, am_iv x5), (6, am_iv q1009.1)], [], am_SH, (q1009.2, K, am_RF true))) from rfl) (am_g2 g1013 g1011 rfl) (am_nd_f c1015) ?_
            refine am_r_go (show am_stepn X T_UpRiver_best 2 true (90, [(0, am_pv 0), (1, am_iv x1), (2, am_iv x2), (3, am_iv x3), (4, am_iv x4), (5, am_iv x5), (6, am_iv q1009.1)], [], am_SH, (q1009.2, K, am_RF true)) = some (true, .inl (46, [(0, am_pv 0), (1, am_iv x1), (2, am_iv x2), (3, am_iv x3), (4, am_iv x4), (5, am_iv (x5 + 1))], [], am_SH, (q1009.2, K, am_RF true))) from rfl) rfl ?_
            exact ih _ _ _ _ _ _ _ h
theorem s_UpRiver_best_t {X : am_X} {K : am_K} {x1 : Int} {x2 : Int} {J : am_J} {r : Int × am_J} (h : f_UpRiver_best true x1 x2 J = some r) : am_runs X T_UpRiver_best (0, [(0, am_pv 0), (1, am_iv x1), (2, am_iv x2)], [], am_SH, (J, K, am_RF true)) (some (am_iv r.1), am_SH, (r.2, K, am_RF true)) := by
  unfold f_UpRiver_best at h
  obtain ⟨q1016, e1017, h⟩ := am_bind_some h
  refine am_r_call (show am_stepn X T_UpRiver_best 2 true (0, [(0, am_pv 0), (1, am_iv x1), (2, am_iv x2)], [], am_SH, (J, K, am_RF true)) = some (true, .inr (.inl (67, [am_iv x1], 1, 0, 0, 4, [(0, am_pv 0), (1, am_iv x1), (2, am_iv x2)], [], am_SH, (J, K, am_RF true)))) from rfl) rfl tb_UpRiver_isYesOrNo (s_UpRiver_isYesOrNo e1017) ?_
  obtain ⟨g1018, h⟩ := am_if_some h
  by_cases c1019 : q1016 = 0
  · rw [if_pos c1019] at h
    refine am_r_t (show am_stepn X T_UpRiver_best 1 true (4, [(0, am_pv 0), (1, am_iv x1), (2, am_iv x2)], [am_iv q1016], am_SH, (J, K, am_RF true)) = some ((decide (am_i32 q1016) && true), .inl (bif am_cb .eq q1016 0 then 14 else 7, [(0, am_pv 0), (1, am_iv x1), (2, am_iv x2)], [], am_SH, (J, K, am_RF true))) from rfl) (am_g1 g1018 rfl) (decide_eq_true c1019) ?_
    obtain rfl := Option.some.inj h
    exact am_r_ret (show am_stepn X T_UpRiver_best 2 true (14, [(0, am_pv 0), (1, am_iv x1), (2, am_iv x2)], [], am_SH, (J, K, am_RF true)) = some (true, .inr (.inr (some (am_iv (-1)), am_SH, (J, K, am_RF true)))) from rfl) rfl
  · rw [if_neg c1019] at h
    refine am_r_f (show am_stepn X T_UpRiver_best 1 true (4, [(0, am_pv 0), (1, am_iv x1), (2, am_iv x2)], [am_iv q1016], am_SH, (J, K, am_RF true)) = some ((decide (am_i32 q1016) && true), .inl (bif am_cb .eq q1016 0 then 14 else 7, [(0, am_pv 0), (1, am_iv x1), (2, am_iv x2)], [], am_SH, (J, K, am_RF true))) from rfl) (am_g1 g1018 rfl) (decide_eq_false c1019) ?_
    obtain ⟨q1020, e1021, h⟩ := am_bind_some h
    refine am_r_call (show am_stepn X T_UpRiver_best 2 true (7, [(0, am_pv 0), (1, am_iv x1), (2, am_iv x2)], [], am_SH, (J, K, am_RF true)) = some (true, .inr (.inl (67, [am_iv x2], 1, 0, 0, 11, [(0, am_pv 0), (1, am_iv x1), (2, am_iv x2)], [], am_SH, (J, K, am_RF true)))) from rfl) rfl tb_UpRiver_isYesOrNo (s_UpRiver_isYesOrNo e1021) ?_
    obtain ⟨g1022, h⟩ := am_if_some h
    by_cases c1023 : q1020 = 0
    · rw [if_pos c1023] at h
      refine am_r_f (show am_stepn X T_UpRiver_best 1 true (11, [(0, am_pv 0), (1, am_iv x1), (2, am_iv x2)], [am_iv q1020], am_SH, (J, K, am_RF true)) = some ((decide (am_i32 q1020) && true), .inl (bif am_cb .ne q1020 0 then 16 else 14, [(0, am_pv 0), (1, am_iv x1), (2, am_iv x2)], [], am_SH, (J, K, am_RF true))) from rfl) (am_g1 g1022 rfl) (am_nd_t c1023) ?_
      obtain rfl := Option.some.inj h
      exact am_r_ret (show am_stepn X T_UpRiver_best 2 true (14, [(0, am_pv 0), (1, am_iv x1), (2, am_iv x2)], [], am_SH, (J, K, am_RF true)) = some (true, .inr (.inr (some (am_iv (-1)), am_SH, (J, K, am_RF true)))) from rfl) rfl
    · rw [if_neg c1023] at h
      refine am_r_t (show am_stepn X T_UpRiver_best 1 true (11, [(0, am_pv 0), (1, am_iv x1), (2, am_iv x2)], [am_iv q1020], am_SH, (J, K, am_RF true)) = some ((decide (am_i32 q1020) && true), .inl (bif am_cb .ne q1020 0 then 16 else 14, [(0, am_pv 0), (1, am_iv x1), (2, am_iv x2)], [], am_SH, (J, K, am_RF true))) from rfl) (am_g1 g1022 rfl) (am_nd_f c1023) ?_
      obtain ⟨q1024, e1025, h⟩ := am_bind_some h
      refine am_r_call (show am_stepn X T_UpRiver_best 6 true (16, [(0, am_pv 0), (1, am_iv x1), (2, am_iv x2)], [], am_SH, (J, K, am_RF true)) = some (true, .inr (.inl (71, [am_pv 18, am_pv (am_rv true)], 2, 0, 0, 30, [(0, am_pv 0), (1, am_iv x1), (2, am_iv x2)], [], am_SH, (J, K, am_RF true)))) from rfl) rfl tb_Boat_isUp (s_Boat_isUp (by decide) e1025) ?_
      obtain ⟨g1026, h⟩ := am_if_some h
      by_cases c1027 : q1024 = 0
      · rw [if_pos c1027] at h
        refine am_r_t (show am_stepn X T_UpRiver_best 1 true (30, [(0, am_pv 0), (1, am_iv x1), (2, am_iv x2)], [am_iv q1024], am_SH, (J, K, am_RF true)) = some ((decide (am_i32 q1024) && true), .inl (bif am_cb .eq q1024 0 then 36 else 33, [(0, am_pv 0), (1, am_iv x1), (2, am_iv x2)], [], am_SH, (J, K, am_RF true))) from rfl) (am_g1 g1026 rfl) (decide_eq_true c1027) ?_
        refine am_r_go (show am_stepn X T_UpRiver_best 6 true (36, [(0, am_pv 0), (1, am_iv x1), (2, am_iv x2)], [], am_SH, (J, K, am_RF true)) = some (true, .inl (46, [(0, am_pv 0), (1, am_iv x1), (2, am_iv x2), (3, am_iv (-4)), (4, am_iv (-4)), (5, am_iv 0)], [], am_SH, (J, K, am_RF true))) from rfl) rfl ?_
        exact s_UpRiver_best_L46_t  _ _ _ _ _ _ _ _ h
      · rw [if_neg c1027] at h
        refine am_r_f (show am_stepn X T_UpRiver_best 1 true (30, [(0, am_pv 0), (1, am_iv x1), (2, am_iv x2)], [am_iv q1024], am_SH, (J, K, am_RF true)) = some ((decide (am_i32 q1024) && true), .inl (bif am_cb .eq q1024 0 then 36 else 33, [(0, am_pv 0), (1, am_iv x1), (2, am_iv x2)], [], am_SH, (J, K, am_RF true))) from rfl) (am_g1 g1026 rfl) (decide_eq_false c1027) ?_
        obtain rfl := Option.some.inj h
        exact am_r_ret (show am_stepn X T_UpRiver_best 2 true (33, [(0, am_pv 0), (1, am_iv x1), (2, am_iv x2)], [], am_SH, (J, K, am_RF true)) = some (true, .inr (.inr (some (am_iv (-2)), am_SH, (J, K, am_RF true)))) from rfl) rfl
theorem s_UpRiver_best {X : am_X} {b : Bool} {K : am_K} {x1 : Int} {x2 : Int} {J : am_J} {r : Int × am_J} (h : f_UpRiver_best b x1 x2 J = some r) : am_runs X T_UpRiver_best (0, [(0, am_pv 0), (1, am_iv x1), (2, am_iv x2)], [], am_SH, (J, K, am_RF b)) (some (am_iv r.1), am_SH, (r.2, K, am_RF b)) := by
  cases b
  · exact s_UpRiver_best_f h
  · exact s_UpRiver_best_t h
theorem s_UpRiver_loses_f {X : am_X} {x1 : Int} {x2 : Int} {J : am_J} {K : am_K} {r : Int × am_J × am_K} (h : f_UpRiver_loses false x1 x2 J K = some r) : am_runs X T_UpRiver_loses (0, [(0, am_pv 0), (1, am_iv x1), (2, am_iv x2)], [], am_SH, (J, K, am_RF false)) (some (am_iv r.1), am_SH, (r.2.1, r.2.2, am_RF false)) := by
  unfold f_UpRiver_loses at h
  obtain ⟨q1028, e1029, h⟩ := am_bind_some h
  refine am_r_call (show am_stepn X T_UpRiver_loses 3 true (0, [(0, am_pv 0), (1, am_iv x1), (2, am_iv x2)], [], am_SH, (J, K, am_RF false)) = some (true, .inr (.inl (105, [am_iv x1, am_iv x2], 2, 0, 0, 5, [(0, am_pv 0), (1, am_iv x1), (2, am_iv x2)], [], am_SH, (J, K, am_RF false)))) from rfl) rfl tb_UpRiver_isSkipper (s_UpRiver_isSkipper e1029) ?_
  obtain ⟨g1030, h⟩ := am_if_some h
  by_cases c1031 : q1028 = 0
  · rw [if_pos c1031] at h
    refine am_r_f (show am_stepn X T_UpRiver_loses 1 true (5, [(0, am_pv 0), (1, am_iv x1), (2, am_iv x2)], [am_iv q1028], am_SH, (J, K, am_RF false)) = some ((decide (am_i32 q1028) && true), .inl (bif am_cb .ne q1028 0 then 10 else 8, [(0, am_pv 0), (1, am_iv x1), (2, am_iv x2)], [], am_SH, (J, K, am_RF false))) from rfl) (am_g1 g1030 rfl) (am_nd_t c1031) ?_
    obtain rfl := Option.some.inj h
    exact am_r_ret (show am_stepn X T_UpRiver_loses 2 true (8, [(0, am_pv 0), (1, am_iv x1), (2, am_iv x2)], [], am_SH, (J, K, am_RF false)) = some (true, .inr (.inr (some (am_iv (-1)), am_SH, (J, K, am_RF false)))) from rfl) rfl
  · rw [if_neg c1031] at h
    refine am_r_t (show am_stepn X T_UpRiver_loses 1 true (5, [(0, am_pv 0), (1, am_iv x1), (2, am_iv x2)], [am_iv q1028], am_SH, (J, K, am_RF false)) = some ((decide (am_i32 q1028) && true), .inl (bif am_cb .ne q1028 0 then 10 else 8, [(0, am_pv 0), (1, am_iv x1), (2, am_iv x2)], [], am_SH, (J, K, am_RF false))) from rfl) (am_g1 g1030 rfl) (am_nd_f c1031) ?_
    obtain ⟨q1032, e1033, h⟩ := am_bind_some h
    refine am_r_call (show am_stepn X T_UpRiver_loses 6 true (10, [(0, am_pv 0), (1, am_iv x1), (2, am_iv x2)], [], am_SH, (J, K, am_RF false)) = some (true, .inr (.inl (71, [am_pv 18, am_pv (am_rv false)], 2, 0, 0, 24, [(0, am_pv 0), (1, am_iv x1), (2, am_iv x2)], [], am_SH, (J, K, am_RF false)))) from rfl) rfl tb_Boat_isUp (s_Boat_isUp (by decide) e1033) ?_
    obtain ⟨g1034, h⟩ := am_if_some h
    by_cases c1035 : q1032 = 0
    · rw [if_pos c1035] at h
      refine am_r_t (show am_stepn X T_UpRiver_loses 1 true (24, [(0, am_pv 0), (1, am_iv x1), (2, am_iv x2)], [am_iv q1032], am_SH, (J, K, am_RF false)) = some ((decide (am_i32 q1032) && true), .inl (bif am_cb .eq q1032 0 then 30 else 27, [(0, am_pv 0), (1, am_iv x1), (2, am_iv x2)], [], am_SH, (J, K, am_RF false))) from rfl) (am_g1 g1034 rfl) (decide_eq_true c1035) ?_
      obtain ⟨q1036, e1037, h⟩ := am_bind_some h
      refine am_r_call (show am_stepn X T_UpRiver_loses 4 true (30, [(0, am_pv 0), (1, am_iv x1), (2, am_iv x2)], [], am_SH, (J, K, am_RF false)) = some (true, .inr (.inl (106, [am_pv 0, am_iv x1, am_iv x2], 4, 0, 0, 36, [(0, am_pv 0), (1, am_iv x1), (2, am_iv x2)], [], am_SH, (J, K, am_RF false)))) from rfl) rfl tb_UpRiver_skipperArrival (s_UpRiver_skipperArrival e1037) ?_
      obtain ⟨g1038, h⟩ := am_if_some h
      by_cases c1039 : q1036.1 = (-4)
      · rw [if_pos c1039] at h
        refine am_r_f (show am_stepn X T_UpRiver_loses 4 true (36, [(0, am_pv 0), (1, am_iv x1), (2, am_iv x2)], [am_iv q1036.1], am_SH, (q1036.2, K, am_RF false)) = some (((decide (am_i32 (-4)) && decide (am_i32 q1036.1)) && true), .inl (bif am_cb .ne q1036.1 (-4) then 48 else 43, [(0, am_pv 0), (1, am_iv x1), (2, am_iv x2), (3, am_iv q1036.1)], [], am_SH, (q1036.2, K, am_RF false))) from rfl) (am_g2 (by decide) g1038 rfl) (am_nd_t c1039) ?_
        obtain rfl := Option.some.inj h
        exact am_r_ret (show am_stepn X T_UpRiver_loses 3 true (43, [(0, am_pv 0), (1, am_iv x1), (2, am_iv x2), (3, am_iv q1036.1)], [], am_SH, (q1036.2, K, am_RF false)) = some (true, .inr (.inr (some (am_iv (-4)), am_SH, (q1036.2, K, am_RF false)))) from rfl) rfl
      · rw [if_neg c1039] at h
        refine am_r_t (show am_stepn X T_UpRiver_loses 4 true (36, [(0, am_pv 0), (1, am_iv x1), (2, am_iv x2)], [am_iv q1036.1], am_SH, (q1036.2, K, am_RF false)) = some (((decide (am_i32 (-4)) && decide (am_i32 q1036.1)) && true), .inl (bif am_cb .ne q1036.1 (-4) then 48 else 43, [(0, am_pv 0), (1, am_iv x1), (2, am_iv x2), (3, am_iv q1036.1)], [], am_SH, (q1036.2, K, am_RF false))) from rfl) (am_g2 (by decide) g1038 rfl) (am_nd_f c1039) ?_
        obtain ⟨q1040, e1041, h⟩ := am_bind_some h
        refine am_r_call (show am_stepn X T_UpRiver_loses 8 true (48, [(0, am_pv 0), (1, am_iv x1), (2, am_iv x2), (3, am_iv q1036.1)], [], am_SH, (q1036.2, K, am_RF false)) = some (true, .inr (.inl (82, [am_pv 0, am_pv 18, am_iv 0, am_iv 8], 4, 0, 0, 63, [(0, am_pv 0), (3, am_iv q1036.1)], [am_iv q1036.1], am_SH, (q1036.2, K, am_RF false)))) from rfl) rfl tb_UpRiver_arrivalOf (s_UpRiver_arrivalOf (by decide) e1041) ?_
        obtain rfl := Option.some.inj h
        exact am_r_ret (show am_stepn X T_UpRiver_loses 2 true (63, [(0, am_pv 0), (3, am_iv q1036.1)], [am_iv q1040.1, am_iv q1036.1], am_SH, (q1040.2.1, q1040.2.2, am_RF false)) = some (true, .inr (.inr (some (am_iv (q1036.1 - q1040.1)), am_SH, (q1040.2.1, q1040.2.2, am_RF false)))) from rfl) rfl
    · rw [if_neg c1035] at h
      refine am_r_f (show am_stepn X T_UpRiver_loses 1 true (24, [(0, am_pv 0), (1, am_iv x1), (2, am_iv x2)], [am_iv q1032], am_SH, (J, K, am_RF false)) = some ((decide (am_i32 q1032) && true), .inl (bif am_cb .eq q1032 0 then 30 else 27, [(0, am_pv 0), (1, am_iv x1), (2, am_iv x2)], [], am_SH, (J, K, am_RF false))) from rfl) (am_g1 g1034 rfl) (decide_eq_false c1035) ?_
      obtain rfl := Option.some.inj h
      exact am_r_ret (show am_stepn X T_UpRiver_loses 2 true (27, [(0, am_pv 0), (1, am_iv x1), (2, am_iv x2)], [], am_SH, (J, K, am_RF false)) = some (true, .inr (.inr (some (am_iv (-2)), am_SH, (J, K, am_RF false)))) from rfl) rfl
theorem s_UpRiver_loses_t {X : am_X} {x1 : Int} {x2 : Int} {J : am_J} {K : am_K} {r : Int × am_J × am_K} (h : f_UpRiver_loses true x1 x2 J K = some r) : am_runs X T_UpRiver_loses (0, [(0, am_pv 0), (1, am_iv x1), (2, am_iv x2)], [], am_SH, (J, K, am_RF true)) (some (am_iv r.1), am_SH, (r.2.1, r.2.2, am_RF true)) := by
  unfold f_UpRiver_loses at h
  obtain ⟨q1028, e1029, h⟩ := am_bind_some h
  refine am_r_call (show am_stepn X T_UpRiver_loses 3 true (0, [(0, am_pv 0), (1, am_iv x1), (2, am_iv x2)], [], am_SH, (J, K, am_RF true)) = some (true, .inr (.inl (105, [am_iv x1, am_iv x2], 2, 0, 0, 5, [(0, am_pv 0), (1, am_iv x1), (2, am_iv x2)], [], am_SH, (J, K, am_RF true)))) from rfl) rfl tb_UpRiver_isSkipper (s_UpRiver_isSkipper e1029) ?_
  obtain ⟨g1030, h⟩ := am_if_some h
  by_cases c1031 : q1028 = 0
  · rw [if_pos c1031] at h
    refine am_r_f (show am_stepn X T_UpRiver_loses 1 true (5, [(0, am_pv 0), (1, am_iv x1), (2, am_iv x2)], [am_iv q1028], am_SH, (J, K, am_RF true)) = some ((decide (am_i32 q1028) && true), .inl (bif am_cb .ne q1028 0 then 10 else 8, [(0, am_pv 0), (1, am_iv x1), (2, am_iv x2)], [], am_SH, (J, K, am_RF true))) from rfl) (am_g1 g1030 rfl) (am_nd_t c1031) ?_
    obtain rfl := Option.some.inj h
    exact am_r_ret (show am_stepn X T_UpRiver_loses 2 true (8, [(0, am_pv 0), (1, am_iv x1), (2, am_iv x2)], [], am_SH, (J, K, am_RF true)) = some (true, .inr (.inr (some (am_iv (-1)), am_SH, (J, K, am_RF true)))) from rfl) rfl
  · rw [if_neg c1031] at h
    refine am_r_t (show am_stepn X T_UpRiver_loses 1 true (5, [(0, am_pv 0), (1, am_iv x1), (2, am_iv x2)], [am_iv q1028], am_SH, (J, K, am_RF true)) = some ((decide (am_i32 q1028) && true), .inl (bif am_cb .ne q1028 0 then 10 else 8, [(0, am_pv 0), (1, am_iv x1), (2, am_iv x2)], [], am_SH, (J, K, am_RF true))) from rfl) (am_g1 g1030 rfl) (am_nd_f c1031) ?_
    obtain ⟨q1032, e1033, h⟩ := am_bind_some h
    refine am_r_call (show am_stepn X T_UpRiver_loses 6 true (10, [(0, am_pv 0), (1, am_iv x1), (2, am_iv x2)], [], am_SH, (J, K, am_RF true)) = some (true, .inr (.inl (71, [am_pv 18, am_pv (am_rv true)], 2, 0, 0, 24, [(0, am_pv 0), (1, am_iv x1), (2, am_iv x2)], [], am_SH, (J, K, am_RF true)))) from rfl) rfl tb_Boat_isUp (s_Boat_isUp (by decide) e1033) ?_
    obtain ⟨g1034, h⟩ := am_if_some h
    by_cases c1035 : q1032 = 0
    · rw [if_pos c1035] at h
      refine am_r_t (show am_stepn X T_UpRiver_loses 1 true (24, [(0, am_pv 0), (1, am_iv x1), (2, am_iv x2)], [am_iv q1032], am_SH, (J, K, am_RF true)) = some ((decide (am_i32 q1032) && true), .inl (bif am_cb .eq q1032 0 then 30 else 27, [(0, am_pv 0), (1, am_iv x1), (2, am_iv x2)], [], am_SH, (J, K, am_RF true))) from rfl) (am_g1 g1034 rfl) (decide_eq_true c1035) ?_
      obtain ⟨q1036, e1037, h⟩ := am_bind_some h
      refine am_r_call (show am_stepn X T_UpRiver_loses 4 true (30, [(0, am_pv 0), (1, am_iv x1), (2, am_iv x2)], [], am_SH, (J, K, am_RF true)) = some (true, .inr (.inl (106, [am_pv 0, am_iv x1, am_iv x2], 4, 0, 0, 36, [(0, am_pv 0), (1, am_iv x1), (2, am_iv x2)], [], am_SH, (J, K, am_RF true)))) from rfl) rfl tb_UpRiver_skipperArrival (s_UpRiver_skipperArrival e1037) ?_
      obtain ⟨g1038, h⟩ := am_if_some h
      by_cases c1039 : q1036.1 = (-4)
      · rw [if_pos c1039] at h
        refine am_r_f (show am_stepn X T_UpRiver_loses 4 true (36, [(0, am_pv 0), (1, am_iv x1), (2, am_iv x2)], [am_iv q1036.1], am_SH, (q1036.2, K, am_RF true)) = some (((decide (am_i32 (-4)) && decide (am_i32 q1036.1)) && true), .inl (bif am_cb .ne q1036.1 (-4) then 48 else 43, [(0, am_pv 0), (1, am_iv x1), (2, am_iv x2), (3, am_iv q1036.1)], [], am_SH, (q1036.2, K, am_RF true))) from rfl) (am_g2 (by decide) g1038 rfl) (am_nd_t c1039) ?_
        obtain rfl := Option.some.inj h
        exact am_r_ret (show am_stepn X T_UpRiver_loses 3 true (43, [(0, am_pv 0), (1, am_iv x1), (2, am_iv x2), (3, am_iv q1036.1)], [], am_SH, (q1036.2, K, am_RF true)) = some (true, .inr (.inr (some (am_iv (-4)), am_SH, (q1036.2, K, am_RF true)))) from rfl) rfl
      · rw [if_neg c1039] at h
        refine am_r_t (show am_stepn X T_UpRiver_loses 4 true (36, [(0, am_pv 0), (1, am_iv x1), (2, am_iv x2)], [am_iv q1036.1], am_SH, (q1036.2, K, am_RF true)) = some (((decide (am_i32 (-4)) && decide (am_i32 q1036.1)) && true), .inl (bif am_cb .ne q1036.1 (-4) then 48 else 43, [(0, am_pv 0), (1, am_iv x1), (2, am_iv x2), (3, am_iv q1036.1)], [], am_SH, (q1036.2, K, am_RF true))) from rfl) (am_g2 (by decide) g1038 rfl) (am_nd_f c1039) ?_
        obtain ⟨q1040, e1041, h⟩ := am_bind_some h
        refine am_r_call (show am_stepn X T_UpRiver_loses 8 true (48, [(0, am_pv 0), (1, am_iv x1), (2, am_iv x2), (3, am_iv q1036.1)], [], am_SH, (q1036.2, K, am_RF true)) = some (true, .inr (.inl (82, [am_pv 0, am_pv 18, am_iv 0, am_iv 8], 4, 0, 0, 63, [(0, am_pv 0), (3, am_iv q1036.1)], [am_iv q1036.1], am_SH, (q1036.2, K, am_RF true)))) from rfl) rfl tb_UpRiver_arrivalOf (s_UpRiver_arrivalOf (by decide) e1041) ?_
        obtain rfl := Option.some.inj h
        exact am_r_ret (show am_stepn X T_UpRiver_loses 2 true (63, [(0, am_pv 0), (3, am_iv q1036.1)], [am_iv q1040.1, am_iv q1036.1], am_SH, (q1040.2.1, q1040.2.2, am_RF true)) = some (true, .inr (.inr (some (am_iv (q1036.1 - q1040.1)), am_SH, (q1040.2.1, q1040.2.2, am_RF true)))) from rfl) rfl
    · rw [if_neg c1035] at h
      refine am_r_f (show am_stepn X T_UpRiver_loses 1 true (24, [(0, am_pv 0), (1, am_iv x1), (2, am_iv x2)], [am_iv q1032], am_SH, (J, K, am_RF true)) = some ((decide (am_i32 q1032) && true), .inl (bif am_cb .eq q1032 0 then 30 else 27, [(0, am_pv 0), (1, am_iv x1), (2, am_iv x2)], [], am_SH, (J, K, am_RF true))) from rfl) (am_g1 g1034 rfl) (decide_eq_false c1035) ?_
      obtain rfl := Option.some.inj h
      exact am_r_ret (show am_stepn X T_UpRiver_loses 2 true (27, [(0, am_pv 0), (1, am_iv x1), (2, am_iv x2)], [], am_SH, (J, K, am_RF true)) = some (true, .inr (.inr (some (am_iv (-2)), am_SH, (J, K, am_RF true)))) from rfl) rfl
theorem s_UpRiver_loses {X : am_X} {b : Bool} {x1 : Int} {x2 : Int} {J : am_J} {K : am_K} {r : Int × am_J × am_K} (h : f_UpRiver_loses b x1 x2 J K = some r) : am_runs X T_UpRiver_loses (0, [(0, am_pv 0), (1, am_iv x1), (2, am_iv x2)], [], am_SH, (J, K, am_RF b)) (some (am_iv r.1), am_SH, (r.2.1, r.2.2, am_RF b)) := by
  cases b
  · exact s_UpRiver_loses_f h
  · exact s_UpRiver_loses_t h
theorem s_UpRiver_narrow_L16_f {X : am_X} {J : am_J} {K : am_K}  : ∀ (n : Nat) (x1 : Int) (x2 : Int) (r : Int), f_UpRiver_narrow_L16 false J  n x1 x2 = some r → am_runs X T_UpRiver_narrow (16, [(0, am_pv 0), (1, am_iv x1), (2, am_iv x2)], [], am_SH, (J, K, am_RF false)) (some (am_iv r), am_SH, (J, K, am_RF false)) := by
  intro n
  induction n with
  | zero =>
    intro x1 x2 r h
    cases h
  | succ n ih =>
    intro x1 x2 r h
    rw [f_UpRiver_narrow_L16.eq_2] at h
    obtain ⟨g1042, h⟩ := am_if_some h
    by_cases c1043 : 9 < x2
    · rw [if_pos c1043] at h
      refine am_r_t (show am_stepn X T_UpRiver_narrow 3 true (16, [(0, am_pv 0), (1, am_iv x1), (2, am_iv x2)], [], am_SH, (J, K, am_RF false)) = some (((decide (am_i32 9) && decide (am_i32 x2)) && true), .inl (bif am_cb .gt x2 9 then 62 else 22, [(0, am_pv 0), (1, am_iv x1), (2, am_iv x2)], [], am_SH, (J, K, am_RF false))) from rfl) (am_g2 (by decide) g1042 rfl) (decide_eq_true c1043) ?_
      obtain rfl := Option.some.inj h
      exact am_r_ret (show am_stepn X T_UpRiver_narrow 2 true (62, [(0, am_pv 0), (1, am_iv x1), (2, am_iv x2)], [], am_SH, (J, K, am_RF false)) = some (true, .inr (.inr (some (am_iv (-4)), am_SH, (J, K, am_RF false)))) from rfl) rfl
    · rw [if_neg c1043] at h
      refine am_r_f (show am_stepn X T_UpRiver_narrow 3 true (16, [(0, am_pv 0), (1, am_iv x1), (2, am_iv x2)], [], am_SH, (J, K, am_RF false)) = some (((decide (am_i32 9) && decide (am_i32 x2)) && true), .inl (bif am_cb .gt x2 9 then 62 else 22, [(0, am_pv 0), (1, am_iv x1), (2, am_iv x2)], [], am_SH, (J, K, am_RF false))) from rfl) (am_g2 (by decide) g1042 rfl) (decide_eq_false c1043) ?_
      obtain ⟨g1044, h⟩ := am_if_some h
      by_cases c1045 : 0 < (((x2 - 1) * ((J (am_rv false + 1) 3) + x1)) + ((J (am_rv false + 1) 5) * x1))
      · rw [if_pos c1045] at h
        refine am_r_f (show am_stepn X T_UpRiver_narrow 22 true (22, [(0, am_pv 0), (1, am_iv x1), (2, am_iv x2)], [], am_SH, (J, K, am_RF false)) = some ((decide (am_i32 (((x2 - 1) * ((J (am_rv false + 1) 3) + x1)) + ((J (am_rv false + 1) 5) * x1))) && (am_in 5 7 && (am_in 3 7 && true))), .inl (bif am_cb .le (((x2 - 1) * ((J (am_rv false + 1) 3) + x1)) + ((J (am_rv false + 1) 5) * x1)) 0 then 56 else 54, [(0, am_pv 0), (1, am_iv x1), (2, am_iv x2), (3, am_iv (((x2 - 1) * ((J (am_rv false + 1) 3) + x1)) + ((J (am_rv false + 1) 5) * x1)))], [], am_SH, (J, K, am_RF false))) from rfl) (am_g1 g1044 (am_gi (by decide) (am_gi (by decide) rfl))) (am_nd_t c1045) ?_
        obtain rfl := Option.some.inj h
        exact am_r_ret (show am_stepn X T_UpRiver_narrow 2 true (54, [(0, am_pv 0), (1, am_iv x1), (2, am_iv x2), (3, am_iv (((x2 - 1) * ((J (am_rv false + 1) 3) + x1)) + ((J (am_rv false + 1) 5) * x1)))], [], am_SH, (J, K, am_RF false)) = some (true, .inr (.inr (some (am_iv x2), am_SH, (J, K, am_RF false)))) from rfl) rfl
      · rw [if_neg c1045] at h
        refine am_r_t (show am_stepn X T_UpRiver_narrow 22 true (22, [(0, am_pv 0), (1, am_iv x1), (2, am_iv x2)], [], am_SH, (J, K, am_RF false)) = some ((decide (am_i32 (((x2 - 1) * ((J (am_rv false + 1) 3) + x1)) + ((J (am_rv false + 1) 5) * x1))) && (am_in 5 7 && (am_in 3 7 && true))), .inl (bif am_cb .le (((x2 - 1) * ((J (am_rv false + 1) 3) + x1)) + ((J (am_rv false + 1) 5) * x1)) 0 then 56 else 54, [(0, am_pv 0), (1, am_iv x1), (2, am_iv x2), (3, am_iv (((x2 - 1) * ((J (am_rv false + 1) 3) + x1)) + ((J (am_rv false + 1) 5) * x1)))], [], am_SH, (J, K, am_RF false))) from rfl) (am_g1 g1044 (am_gi (by decide) (am_gi (by decide) rfl))) (am_nd_f c1045) ?_
        refine am_r_go (show am_stepn X T_UpRiver_narrow 2 true (56, [(0, am_pv 0), (1, am_iv x1), (2, am_iv x2), (3, am_iv (((x2 - 1) * ((J (am_rv false + 1) 3) + x1)) + ((J (am_rv false + 1) 5) * x1)))], [], am_SH, (J, K, am_RF false)) = some (true, .inl (16, [(0, am_pv 0), (1, am_iv x1), (2, am_iv (x2 + 1))], [], am_SH, (J, K, am_RF false))) from rfl) rfl ?_
        exact ih _ _ _ h
theorem s_UpRiver_narrow_f {X : am_X} {J : am_J} {K : am_K} {x1 : Int} {r : Int} (h : f_UpRiver_narrow false J x1 = some r) : am_runs X T_UpRiver_narrow (0, [(0, am_pv 0), (1, am_iv x1)], [], am_SH, (J, K, am_RF false)) (some (am_iv r), am_SH, (J, K, am_RF false)) := by
  unfold f_UpRiver_narrow at h
  obtain ⟨g1046, h⟩ := am_if_some h
  by_cases c1047 : x1 < (-9)
  · rw [if_pos c1047] at h
    refine am_r_t (show am_stepn X T_UpRiver_narrow 3 true (0, [(0, am_pv 0), (1, am_iv x1)], [], am_SH, (J, K, am_RF false)) = some (((decide (am_i32 (-9)) && decide (am_i32 x1)) && true), .inl (bif am_cb .lt x1 (-9) then 12 else 6, [(0, am_pv 0), (1, am_iv x1)], [], am_SH, (J, K, am_RF false))) from rfl) (am_g2 (by decide) g1046 rfl) (decide_eq_true c1047) ?_
    obtain rfl := Option.some.inj h
    exact am_r_ret (show am_stepn X T_UpRiver_narrow 2 true (12, [(0, am_pv 0), (1, am_iv x1)], [], am_SH, (J, K, am_RF false)) = some (true, .inr (.inr (some (am_iv (-1)), am_SH, (J, K, am_RF false)))) from rfl) rfl
  · rw [if_neg c1047] at h
    refine am_r_f (show am_stepn X T_UpRiver_narrow 3 true (0, [(0, am_pv 0), (1, am_iv x1)], [], am_SH, (J, K, am_RF false)) = some (((decide (am_i32 (-9)) && decide (am_i32 x1)) && true), .inl (bif am_cb .lt x1 (-9) then 12 else 6, [(0, am_pv 0), (1, am_iv x1)], [], am_SH, (J, K, am_RF false))) from rfl) (am_g2 (by decide) g1046 rfl) (decide_eq_false c1047) ?_
    by_cases c1048 : 9 < x1
    · rw [if_pos c1048] at h
      refine am_r_f (show am_stepn X T_UpRiver_narrow 3 true (6, [(0, am_pv 0), (1, am_iv x1)], [], am_SH, (J, K, am_RF false)) = some (((decide (am_i32 9) && decide (am_i32 x1)) && true), .inl (bif am_cb .le x1 9 then 14 else 12, [(0, am_pv 0), (1, am_iv x1)], [], am_SH, (J, K, am_RF false))) from rfl) (am_g2 (by decide) g1046 rfl) (am_nd_t c1048) ?_
      obtain rfl := Option.some.inj h
      exact am_r_ret (show am_stepn X T_UpRiver_narrow 2 true (12, [(0, am_pv 0), (1, am_iv x1)], [], am_SH, (J, K, am_RF false)) = some (true, .inr (.inr (some (am_iv (-1)), am_SH, (J, K, am_RF false)))) from rfl) rfl
    · rw [if_neg c1048] at h
      refine am_r_t (show am_stepn X T_UpRiver_narrow 3 true (6, [(0, am_pv 0), (1, am_iv x1)], [], am_SH, (J, K, am_RF false)) = some (((decide (am_i32 9) && decide (am_i32 x1)) && true), .inl (bif am_cb .le x1 9 then 14 else 12, [(0, am_pv 0), (1, am_iv x1)], [], am_SH, (J, K, am_RF false))) from rfl) (am_g2 (by decide) g1046 rfl) (am_nd_f c1048) ?_
      refine am_r_go (show am_stepn X T_UpRiver_narrow 2 true (14, [(0, am_pv 0), (1, am_iv x1)], [], am_SH, (J, K, am_RF false)) = some (true, .inl (16, [(0, am_pv 0), (1, am_iv x1), (2, am_iv 2)], [], am_SH, (J, K, am_RF false))) from rfl) rfl ?_
      exact s_UpRiver_narrow_L16_f  _ _ _ _ h
theorem s_UpRiver_narrow_L16_t {X : am_X} {J : am_J} {K : am_K}  : ∀ (n : Nat) (x1 : Int) (x2 : Int) (r : Int), f_UpRiver_narrow_L16 true J  n x1 x2 = some r → am_runs X T_UpRiver_narrow (16, [(0, am_pv 0), (1, am_iv x1), (2, am_iv x2)], [], am_SH, (J, K, am_RF true)) (some (am_iv r), am_SH, (J, K, am_RF true)) := by
  intro n
  induction n with
  | zero =>
    intro x1 x2 r h
    cases h
  | succ n ih =>
    intro x1 x2 r h
    rw [f_UpRiver_narrow_L16.eq_2] at h
    obtain ⟨g1042, h⟩ := am_if_some h
    by_cases c1043 : 9 < x2
    · rw [if_pos c1043] at h
      refine am_r_t (show am_stepn X T_UpRiver_narrow 3 true (16, [(0, am_pv 0), (1, am_iv x1), (2, am_iv x2)], [], am_SH, (J, K, am_RF true)) = some (((decide (am_i32 9) && decide (am_i32 x2)) && true), .inl (bif am_cb .gt x2 9 then 62 else 22, [(0, am_pv 0), (1, am_iv x1), (2, am_iv x2)], [], am_SH, (J, K, am_RF true))) from rfl) (am_g2 (by decide) g1042 rfl) (decide_eq_true c1043) ?_
      obtain rfl := Option.some.inj h
      exact am_r_ret (show am_stepn X T_UpRiver_narrow 2 true (62, [(0, am_pv 0), (1, am_iv x1), (2, am_iv x2)], [], am_SH, (J, K, am_RF true)) = some (true, .inr (.inr (some (am_iv (-4)), am_SH, (J, K, am_RF true)))) from rfl) rfl
    · rw [if_neg c1043] at h
      refine am_r_f (show am_stepn X T_UpRiver_narrow 3 true (16, [(0, am_pv 0), (1, am_iv x1), (2, am_iv x2)], [], am_SH, (J, K, am_RF true)) = some (((decide (am_i32 9) && decide (am_i32 x2)) && true), .inl (bif am_cb .gt x2 9 then 62 else 22, [(0, am_pv 0), (1, am_iv x1), (2, am_iv x2)], [], am_SH, (J, K, am_RF true))) from rfl) (am_g2 (by decide) g1042 rfl) (decide_eq_false c1043) ?_
      obtain ⟨g1044, h⟩ := am_if_some h
      by_cases c1045 : 0 < (((x2 - 1) * ((J (am_rv true + 1) 3) + x1)) + ((J (am_rv true + 1) 5) * x1))
      · rw [if_pos c1045] at h
        refine am_r_f (show am_stepn X T_UpRiver_narrow 22 true (22, [(0, am_pv 0), (1, am_iv x1), (2, am_iv x2)], [], am_SH, (J, K, am_RF true)) = some ((decide (am_i32 (((x2 - 1) * ((J (am_rv true + 1) 3) + x1)) + ((J (am_rv true + 1) 5) * x1))) && (am_in 5 7 && (am_in 3 7 && true))), .inl (bif am_cb .le (((x2 - 1) * ((J (am_rv true + 1) 3) + x1)) + ((J (am_rv true + 1) 5) * x1)) 0 then 56 else 54, [(0, am_pv 0), (1, am_iv x1), (2, am_iv x2), (3, am_iv (((x2 - 1) * ((J (am_rv true + 1) 3) + x1)) + ((J (am_rv true + 1) 5) * x1)))], [], am_SH, (J, K, am_RF true))) from rfl) (am_g1 g1044 (am_gi (by decide) (am_gi (by decide) rfl))) (am_nd_t c1045) ?_
        obtain rfl := Option.some.inj h
        exact am_r_ret (show am_stepn X T_UpRiver_narrow 2 true (54, [(0, am_pv 0), (1, am_iv x1), (2, am_iv x2), (3, am_iv (((x2 - 1) * ((J (am_rv true + 1) 3) + x1)) + ((J (am_rv true + 1) 5) * x1)))], [], am_SH, (J, K, am_RF true)) = some (true, .inr (.inr (some (am_iv x2), am_SH, (J, K, am_RF true)))) from rfl) rfl
      · rw [if_neg c1045] at h
        refine am_r_t (show am_stepn X T_UpRiver_narrow 22 true (22, [(0, am_pv 0), (1, am_iv x1), (2, am_iv x2)], [], am_SH, (J, K, am_RF true)) = some ((decide (am_i32 (((x2 - 1) * ((J (am_rv true + 1) 3) + x1)) + ((J (am_rv true + 1) 5) * x1))) && (am_in 5 7 && (am_in 3 7 && true))), .inl (bif am_cb .le (((x2 - 1) * ((J (am_rv true + 1) 3) + x1)) + ((J (am_rv true + 1) 5) * x1)) 0 then 56 else 54, [(0, am_pv 0), (1, am_iv x1), (2, am_iv x2), (3, am_iv (((x2 - 1) * ((J (am_rv true + 1) 3) + x1)) + ((J (am_rv true + 1) 5) * x1)))], [], am_SH, (J, K, am_RF true))) from rfl) (am_g1 g1044 (am_gi (by decide) (am_gi (by decide) rfl))) (am_nd_f c1045) ?_
        refine am_r_go (show am_stepn X T_UpRiver_narrow 2 true (56, [(0, am_pv 0), (1, am_iv x1), (2, am_iv x2), (3, am_iv (((x2 - 1) * ((J (am_rv true + 1) 3) + x1)) + ((J (am_rv true + 1) 5) * x1)))], [], am_SH, (J, K, am_RF true)) = some (true, .inl (16, [(0, am_pv 0), (1, am_iv x1), (2, am_iv (x2 + 1))], [], am_SH, (J, K, am_RF true))) from rfl) rfl ?_
        exact ih _ _ _ h
theorem s_UpRiver_narrow_t {X : am_X} {J : am_J} {K : am_K} {x1 : Int} {r : Int} (h : f_UpRiver_narrow true J x1 = some r) : am_runs X T_UpRiver_narrow (0, [(0, am_pv 0), (1, am_iv x1)], [], am_SH, (J, K, am_RF true)) (some (am_iv r), am_SH, (J, K, am_RF true)) := by
  unfold f_UpRiver_narrow at h
  obtain ⟨g1046, h⟩ := am_if_some h
  by_cases c1047 : x1 < (-9)
  · rw [if_pos c1047] at h
    refine am_r_t (show am_stepn X T_UpRiver_narrow 3 true (0, [(0, am_pv 0), (1, am_iv x1)], [], am_SH, (J, K, am_RF true)) = some (((decide (am_i32 (-9)) && decide (am_i32 x1)) && true), .inl (bif am_cb .lt x1 (-9) then 12 else 6, [(0, am_pv 0), (1, am_iv x1)], [], am_SH, (J, K, am_RF true))) from rfl) (am_g2 (by decide) g1046 rfl) (decide_eq_true c1047) ?_
    obtain rfl := Option.some.inj h
    exact am_r_ret (show am_stepn X T_UpRiver_narrow 2 true (12, [(0, am_pv 0), (1, am_iv x1)], [], am_SH, (J, K, am_RF true)) = some (true, .inr (.inr (some (am_iv (-1)), am_SH, (J, K, am_RF true)))) from rfl) rfl
  · rw [if_neg c1047] at h
    refine am_r_f (show am_stepn X T_UpRiver_narrow 3 true (0, [(0, am_pv 0), (1, am_iv x1)], [], am_SH, (J, K, am_RF true)) = some (((decide (am_i32 (-9)) && decide (am_i32 x1)) && true), .inl (bif am_cb .lt x1 (-9) then 12 else 6, [(0, am_pv 0), (1, am_iv x1)], [], am_SH, (J, K, am_RF true))) from rfl) (am_g2 (by decide) g1046 rfl) (decide_eq_false c1047) ?_
    by_cases c1048 : 9 < x1
    · rw [if_pos c1048] at h
      refine am_r_f (show am_stepn X T_UpRiver_narrow 3 true (6, [(0, am_pv 0), (1, am_iv x1)], [], am_SH, (J, K, am_RF true)) = some (((decide (am_i32 9) && decide (am_i32 x1)) && true), .inl (bif am_cb .le x1 9 then 14 else 12, [(0, am_pv 0), (1, am_iv x1)], [], am_SH, (J, K, am_RF true))) from rfl) (am_g2 (by decide) g1046 rfl) (am_nd_t c1048) ?_
      obtain rfl := Option.some.inj h
      exact am_r_ret (show am_stepn X T_UpRiver_narrow 2 true (12, [(0, am_pv 0), (1, am_iv x1)], [], am_SH, (J, K, am_RF true)) = some (true, .inr (.inr (some (am_iv (-1)), am_SH, (J, K, am_RF true)))) from rfl) rfl
    · rw [if_neg c1048] at h
      refine am_r_t (show am_stepn X T_UpRiver_narrow 3 true (6, [(0, am_pv 0), (1, am_iv x1)], [], am_SH, (J, K, am_RF true)) = some (((decide (am_i32 9) && decide (am_i32 x1)) && true), .inl (bif am_cb .le x1 9 then 14 else 12, [(0, am_pv 0), (1, am_iv x1)], [], am_SH, (J, K, am_RF true))) from rfl) (am_g2 (by decide) g1046 rfl) (am_nd_f c1048) ?_
      refine am_r_go (show am_stepn X T_UpRiver_narrow 2 true (14, [(0, am_pv 0), (1, am_iv x1)], [], am_SH, (J, K, am_RF true)) = some (true, .inl (16, [(0, am_pv 0), (1, am_iv x1), (2, am_iv 2)], [], am_SH, (J, K, am_RF true))) from rfl) rfl ?_
      exact s_UpRiver_narrow_L16_t  _ _ _ _ h
theorem s_UpRiver_narrow {X : am_X} {b : Bool} {J : am_J} {K : am_K} {x1 : Int} {r : Int} (h : f_UpRiver_narrow b J x1 = some r) : am_runs X T_UpRiver_narrow (0, [(0, am_pv 0), (1, am_iv x1)], [], am_SH, (J, K, am_RF b)) (some (am_iv r), am_SH, (J, K, am_RF b)) := by
  cases b
  · exact s_UpRiver_narrow_f h
  · exact s_UpRiver_narrow_t h
theorem s_UpRiver_areChances {X : am_X} {b : Bool} {J : am_J} {K : am_K} {x0 : Int} {x1 : Int} {x2 : Int} {r : Int} (h : f_UpRiver_areChances  x0 x1 x2 = some r) : am_runs X T_UpRiver_areChances (0, [(0, am_iv x0), (1, am_iv x1), (2, am_iv x2)], [], am_SH, (J, K, am_RF b)) (some (am_iv r), am_SH, (J, K, am_RF b)) := by
  unfold f_UpRiver_areChances at h
  obtain ⟨g1049, h⟩ := am_if_some h
  by_cases c1050 : x0 < 0
  · rw [if_pos c1050] at h
    refine am_r_t (show am_stepn X T_UpRiver_areChances 2 true (0, [(0, am_iv x0), (1, am_iv x1), (2, am_iv x2)], [], am_SH, (J, K, am_RF b)) = some ((decide (am_i32 x0) && true), .inl (bif am_cb .lt x0 0 then 42 else 4, [(0, am_iv x0), (1, am_iv x1), (2, am_iv x2)], [], am_SH, (J, K, am_RF b))) from rfl) (am_g1 g1049 rfl) (decide_eq_true c1050) ?_
    obtain rfl := Option.some.inj h
    exact am_r_ret (show am_stepn X T_UpRiver_areChances 2 true (42, [(0, am_iv x0), (1, am_iv x1), (2, am_iv x2)], [], am_SH, (J, K, am_RF b)) = some ((decide ((0 : Int) = 0 ∨ (0 : Int) = 1) && true), .inr (.inr (some (am_iv 0), am_SH, (J, K, am_RF b)))) from rfl) (am_g1 (by decide) rfl)
  · rw [if_neg c1050] at h
    refine am_r_f (show am_stepn X T_UpRiver_areChances 2 true (0, [(0, am_iv x0), (1, am_iv x1), (2, am_iv x2)], [], am_SH, (J, K, am_RF b)) = some ((decide (am_i32 x0) && true), .inl (bif am_cb .lt x0 0 then 42 else 4, [(0, am_iv x0), (1, am_iv x1), (2, am_iv x2)], [], am_SH, (J, K, am_RF b))) from rfl) (am_g1 g1049 rfl) (decide_eq_false c1050) ?_
    by_cases c1051 : 9 < x0
    · rw [if_pos c1051] at h
      refine am_r_t (show am_stepn X T_UpRiver_areChances 3 true (4, [(0, am_iv x0), (1, am_iv x1), (2, am_iv x2)], [], am_SH, (J, K, am_RF b)) = some (((decide (am_i32 9) && decide (am_i32 x0)) && true), .inl (bif am_cb .gt x0 9 then 42 else 10, [(0, am_iv x0), (1, am_iv x1), (2, am_iv x2)], [], am_SH, (J, K, am_RF b))) from rfl) (am_g2 (by decide) g1049 rfl) (decide_eq_true c1051) ?_
      obtain rfl := Option.some.inj h
      exact am_r_ret (show am_stepn X T_UpRiver_areChances 2 true (42, [(0, am_iv x0), (1, am_iv x1), (2, am_iv x2)], [], am_SH, (J, K, am_RF b)) = some ((decide ((0 : Int) = 0 ∨ (0 : Int) = 1) && true), .inr (.inr (some (am_iv 0), am_SH, (J, K, am_RF b)))) from rfl) (am_g1 (by decide) rfl)
    · rw [if_neg c1051] at h
      refine am_r_f (show am_stepn X T_UpRiver_areChances 3 true (4, [(0, am_iv x0), (1, am_iv x1), (2, am_iv x2)], [], am_SH, (J, K, am_RF b)) = some (((decide (am_i32 9) && decide (am_i32 x0)) && true), .inl (bif am_cb .gt x0 9 then 42 else 10, [(0, am_iv x0), (1, am_iv x1), (2, am_iv x2)], [], am_SH, (J, K, am_RF b))) from rfl) (am_g2 (by decide) g1049 rfl) (decide_eq_false c1051) ?_
      obtain ⟨g1052, h⟩ := am_if_some h
      by_cases c1053 : x1 < 0
      · rw [if_pos c1053] at h
        refine am_r_t (show am_stepn X T_UpRiver_areChances 2 true (10, [(0, am_iv x0), (1, am_iv x1), (2, am_iv x2)], [], am_SH, (J, K, am_RF b)) = some ((decide (am_i32 x1) && true), .inl (bif am_cb .lt x1 0 then 42 else 14, [(0, am_iv x0), (1, am_iv x1), (2, am_iv x2)], [], am_SH, (J, K, am_RF b))) from rfl) (am_g1 g1052 rfl) (decide_eq_true c1053) ?_
        obtain rfl := Option.some.inj h
        exact am_r_ret (show am_stepn X T_UpRiver_areChances 2 true (42, [(0, am_iv x0), (1, am_iv x1), (2, am_iv x2)], [], am_SH, (J, K, am_RF b)) = some ((decide ((0 : Int) = 0 ∨ (0 : Int) = 1) && true), .inr (.inr (some (am_iv 0), am_SH, (J, K, am_RF b)))) from rfl) (am_g1 (by decide) rfl)
      · rw [if_neg c1053] at h
        refine am_r_f (show am_stepn X T_UpRiver_areChances 2 true (10, [(0, am_iv x0), (1, am_iv x1), (2, am_iv x2)], [], am_SH, (J, K, am_RF b)) = some ((decide (am_i32 x1) && true), .inl (bif am_cb .lt x1 0 then 42 else 14, [(0, am_iv x0), (1, am_iv x1), (2, am_iv x2)], [], am_SH, (J, K, am_RF b))) from rfl) (am_g1 g1052 rfl) (decide_eq_false c1053) ?_
        by_cases c1054 : 9 < x1
        · rw [if_pos c1054] at h
          refine am_r_t (show am_stepn X T_UpRiver_areChances 3 true (14, [(0, am_iv x0), (1, am_iv x1), (2, am_iv x2)], [], am_SH, (J, K, am_RF b)) = some (((decide (am_i32 9) && decide (am_i32 x1)) && true), .inl (bif am_cb .gt x1 9 then 42 else 20, [(0, am_iv x0), (1, am_iv x1), (2, am_iv x2)], [], am_SH, (J, K, am_RF b))) from rfl) (am_g2 (by decide) g1052 rfl) (decide_eq_true c1054) ?_
          obtain rfl := Option.some.inj h
          exact am_r_ret (show am_stepn X T_UpRiver_areChances 2 true (42, [(0, am_iv x0), (1, am_iv x1), (2, am_iv x2)], [], am_SH, (J, K, am_RF b)) = some ((decide ((0 : Int) = 0 ∨ (0 : Int) = 1) && true), .inr (.inr (some (am_iv 0), am_SH, (J, K, am_RF b)))) from rfl) (am_g1 (by decide) rfl)
        · rw [if_neg c1054] at h
          refine am_r_f (show am_stepn X T_UpRiver_areChances 3 true (14, [(0, am_iv x0), (1, am_iv x1), (2, am_iv x2)], [], am_SH, (J, K, am_RF b)) = some (((decide (am_i32 9) && decide (am_i32 x1)) && true), .inl (bif am_cb .gt x1 9 then 42 else 20, [(0, am_iv x0), (1, am_iv x1), (2, am_iv x2)], [], am_SH, (J, K, am_RF b))) from rfl) (am_g2 (by decide) g1052 rfl) (decide_eq_false c1054) ?_
          obtain ⟨g1055, h⟩ := am_if_some h
          by_cases c1056 : x2 < 0
          · rw [if_pos c1056] at h
            refine am_r_t (show am_stepn X T_UpRiver_areChances 2 true (20, [(0, am_iv x0), (1, am_iv x1), (2, am_iv x2)], [], am_SH, (J, K, am_RF b)) = some ((decide (am_i32 x2) && true), .inl (bif am_cb .lt x2 0 then 42 else 24, [(0, am_iv x0), (1, am_iv x1), (2, am_iv x2)], [], am_SH, (J, K, am_RF b))) from rfl) (am_g1 g1055 rfl) (decide_eq_true c1056) ?_
            obtain rfl := Option.some.inj h
            exact am_r_ret (show am_stepn X T_UpRiver_areChances 2 true (42, [(0, am_iv x0), (1, am_iv x1), (2, am_iv x2)], [], am_SH, (J, K, am_RF b)) = some ((decide ((0 : Int) = 0 ∨ (0 : Int) = 1) && true), .inr (.inr (some (am_iv 0), am_SH, (J, K, am_RF b)))) from rfl) (am_g1 (by decide) rfl)
          · rw [if_neg c1056] at h
            refine am_r_f (show am_stepn X T_UpRiver_areChances 2 true (20, [(0, am_iv x0), (1, am_iv x1), (2, am_iv x2)], [], am_SH, (J, K, am_RF b)) = some ((decide (am_i32 x2) && true), .inl (bif am_cb .lt x2 0 then 42 else 24, [(0, am_iv x0), (1, am_iv x1), (2, am_iv x2)], [], am_SH, (J, K, am_RF b))) from rfl) (am_g1 g1055 rfl) (decide_eq_false c1056) ?_
            by_cases c1057 : 9 < x2
            · rw [if_pos c1057] at h
              refine am_r_t (show am_stepn X T_UpRiver_areChances 3 true (24, [(0, am_iv x0), (1, am_iv x1), (2, am_iv x2)], [], am_SH, (J, K, am_RF b)) = some (((decide (am_i32 9) && decide (am_i32 x2)) && true), .inl (bif am_cb .gt x2 9 then 42 else 30, [(0, am_iv x0), (1, am_iv x1), (2, am_iv x2)], [], am_SH, (J, K, am_RF b))) from rfl) (am_g2 (by decide) g1055 rfl) (decide_eq_true c1057) ?_
              obtain rfl := Option.some.inj h
              exact am_r_ret (show am_stepn X T_UpRiver_areChances 2 true (42, [(0, am_iv x0), (1, am_iv x1), (2, am_iv x2)], [], am_SH, (J, K, am_RF b)) = some ((decide ((0 : Int) = 0 ∨ (0 : Int) = 1) && true), .inr (.inr (some (am_iv 0), am_SH, (J, K, am_RF b)))) from rfl) (am_g1 (by decide) rfl)
            · rw [if_neg c1057] at h
              refine am_r_f (show am_stepn X T_UpRiver_areChances 3 true (24, [(0, am_iv x0), (1, am_iv x1), (2, am_iv x2)], [], am_SH, (J, K, am_RF b)) = some (((decide (am_i32 9) && decide (am_i32 x2)) && true), .inl (bif am_cb .gt x2 9 then 42 else 30, [(0, am_iv x0), (1, am_iv x1), (2, am_iv x2)], [], am_SH, (J, K, am_RF b))) from rfl) (am_g2 (by decide) g1055 rfl) (decide_eq_false c1057) ?_
              obtain ⟨g1058, h⟩ := am_if_some h
              by_cases c1059 : 0 < ((x0 + x1) + x2)
              · rw [if_pos c1059] at h
                refine am_r_f (show am_stepn X T_UpRiver_areChances 6 true (30, [(0, am_iv x0), (1, am_iv x1), (2, am_iv x2)], [], am_SH, (J, K, am_RF b)) = some ((decide (am_i32 ((x0 + x1) + x2)) && true), .inl (bif am_cb .le ((x0 + x1) + x2) 0 then 42 else 38, [(0, am_iv x0), (1, am_iv x1), (2, am_iv x2)], [], am_SH, (J, K, am_RF b))) from rfl) (am_g1 g1058 rfl) (am_nd_t c1059) ?_
                obtain rfl := Option.some.inj h
                exact am_r_ret (show am_stepn X T_UpRiver_areChances 3 true (38, [(0, am_iv x0), (1, am_iv x1), (2, am_iv x2)], [], am_SH, (J, K, am_RF b)) = some ((decide ((1 : Int) = 0 ∨ (1 : Int) = 1) && true), .inr (.inr (some (am_iv 1), am_SH, (J, K, am_RF b)))) from rfl) (am_g1 (by decide) rfl)
              · rw [if_neg c1059] at h
                refine am_r_t (show am_stepn X T_UpRiver_areChances 6 true (30, [(0, am_iv x0), (1, am_iv x1), (2, am_iv x2)], [], am_SH, (J, K, am_RF b)) = some ((decide (am_i32 ((x0 + x1) + x2)) && true), .inl (bif am_cb .le ((x0 + x1) + x2) 0 then 42 else 38, [(0, am_iv x0), (1, am_iv x1), (2, am_iv x2)], [], am_SH, (J, K, am_RF b))) from rfl) (am_g1 g1058 rfl) (am_nd_f c1059) ?_
                obtain rfl := Option.some.inj h
                exact am_r_ret (show am_stepn X T_UpRiver_areChances 2 true (42, [(0, am_iv x0), (1, am_iv x1), (2, am_iv x2)], [], am_SH, (J, K, am_RF b)) = some ((decide ((0 : Int) = 0 ∨ (0 : Int) = 1) && true), .inr (.inr (some (am_iv 0), am_SH, (J, K, am_RF b)))) from rfl) (am_g1 (by decide) rfl)
