theorem s_UpRiver_commonDivisor_L2 {X : am_X} {b : Bool} {J : am_J} {K : am_K}  : ∀ (n : Nat) (x0 : Int) (x1 : Int) (x2 : Int) (r : Int), f_UpRiver_commonDivisor_L2   n x0 x1 x2 = some r → am_runs X T_UpRiver_commonDivisor (2, [(0, am_iv x0), (1, am_iv x1), (2, am_iv x2)], [], am_SH, (J, K, am_RF b)) (some (am_iv r), am_SH, (J, K, am_RF b)) := by
  intro n
  induction n with
  | zero =>
    intro x0 x1 x2 r h
    cases h
  | succ n ih =>
    intro x0 x1 x2 r h
    rw [f_UpRiver_commonDivisor_L2.eq_2] at h
    obtain ⟨g1060, h⟩ := am_if_some h
    by_cases c1061 : 1 < x2
    · rw [if_pos c1061] at h
      refine am_r_f (show am_stepn X T_UpRiver_commonDivisor 3 true (2, [(0, am_iv x0), (1, am_iv x1), (2, am_iv x2)], [], am_SH, (J, K, am_RF b)) = some (((decide (am_i32 1) && decide (am_i32 x2)) && true), .inl (bif am_cb .le x2 1 then 27 else 7, [(0, am_iv x0), (1, am_iv x1), (2, am_iv x2)], [], am_SH, (J, K, am_RF b))) from rfl) (am_g2 (by decide) g1060 rfl) (am_nd_t c1061) ?_
      obtain ⟨g1062, h⟩ := am_if_some h
      obtain ⟨g1063, h⟩ := am_if_some h
      obtain ⟨g1064, h⟩ := am_if_some h
      by_cases c1065 : (am_rm x0 x2) = 0
      · rw [if_pos c1065] at h
        refine am_r_f (show am_stepn X T_UpRiver_commonDivisor 4 true (7, [(0, am_iv x0), (1, am_iv x1), (2, am_iv x2)], [], am_SH, (J, K, am_RF b)) = some ((decide (am_i32 (am_rm x0 x2)) && ((decide (0 < (x2 : Int) ∧ am_i32 x2) && decide (am_i32 x0)) && true)), .inl (bif am_cb .ne (am_rm x0 x2) 0 then 21 else 13, [(0, am_iv x0), (1, am_iv x1), (2, am_iv x2)], [], am_SH, (J, K, am_RF b))) from rfl) (am_g1 g1064 (am_g2 g1062 g1063 rfl)) (am_nd_t c1065) ?_
        obtain ⟨g1066, h⟩ := am_if_some h
        obtain ⟨g1067, h⟩ := am_if_some h
        by_cases c1068 : (am_rm x1 x2) = 0
        · rw [if_pos c1068] at h
          refine am_r_f (show am_stepn X T_UpRiver_commonDivisor 4 true (13, [(0, am_iv x0), (1, am_iv x1), (2, am_iv x2)], [], am_SH, (J, K, am_RF b)) = some ((decide (am_i32 (am_rm x1 x2)) && ((decide (0 < (x2 : Int) ∧ am_i32 x2) && decide (am_i32 x1)) && true)), .inl (bif am_cb .ne (am_rm x1 x2) 0 then 21 else 19, [(0, am_iv x0), (1, am_iv x1), (2, am_iv x2)], [], am_SH, (J, K, am_RF b))) from rfl) (am_g1 g1067 (am_g2 g1062 g1066 rfl)) (am_nd_t c1068) ?_
          obtain rfl := Option.some.inj h
          exact am_r_ret (show am_stepn X T_UpRiver_commonDivisor 2 true (19, [(0, am_iv x0), (1, am_iv x1), (2, am_iv x2)], [], am_SH, (J, K, am_RF b)) = some (true, .inr (.inr (some (am_iv x2), am_SH, (J, K, am_RF b)))) from rfl) rfl
        · rw [if_neg c1068] at h
          refine am_r_t (show am_stepn X T_UpRiver_commonDivisor 4 true (13, [(0, am_iv x0), (1, am_iv x1), (2, am_iv x2)], [], am_SH, (J, K, am_RF b)) = some ((decide (am_i32 (am_rm x1 x2)) && ((decide (0 < (x2 : Int) ∧ am_i32 x2) && decide (am_i32 x1)) && true)), .inl (bif am_cb .ne (am_rm x1 x2) 0 then 21 else 19, [(0, am_iv x0), (1, am_iv x1), (2, am_iv x2)], [], am_SH, (J, K, am_RF b))) from rfl) (am_g1 g1067 (am_g2 g1062 g1066 rfl)) (am_nd_f c1068) ?_
          refine am_r_go (show am_stepn X T_UpRiver_commonDivisor 2 true (21, [(0, am_iv x0), (1, am_iv x1), (2, am_iv x2)], [], am_SH, (J, K, am_RF b)) = some (true, .inl (2, [(0, am_iv x0), (1, am_iv x1), (2, am_iv (x2 + (-1)))], [], am_SH, (J, K, am_RF b))) from rfl) rfl ?_
          exact ih _ _ _ _ h
      · rw [if_neg c1065] at h
        refine am_r_t (show am_stepn X T_UpRiver_commonDivisor 4 true (7, [(0, am_iv x0), (1, am_iv x1), (2, am_iv x2)], [], am_SH, (J, K, am_RF b)) = some ((decide (am_i32 (am_rm x0 x2)) && ((decide (0 < (x2 : Int) ∧ am_i32 x2) && decide (am_i32 x0)) && true)), .inl (bif am_cb .ne (am_rm x0 x2) 0 then 21 else 13, [(0, am_iv x0), (1, am_iv x1), (2, am_iv x2)], [], am_SH, (J, K, am_RF b))) from rfl) (am_g1 g1064 (am_g2 g1062 g1063 rfl)) (am_nd_f c1065) ?_
        refine am_r_go (show am_stepn X T_UpRiver_commonDivisor 2 true (21, [(0, am_iv x0), (1, am_iv x1), (2, am_iv x2)], [], am_SH, (J, K, am_RF b)) = some (true, .inl (2, [(0, am_iv x0), (1, am_iv x1), (2, am_iv (x2 + (-1)))], [], am_SH, (J, K, am_RF b))) from rfl) rfl ?_
        exact ih _ _ _ _ h
    · rw [if_neg c1061] at h
      refine am_r_t (show am_stepn X T_UpRiver_commonDivisor 3 true (2, [(0, am_iv x0), (1, am_iv x1), (2, am_iv x2)], [], am_SH, (J, K, am_RF b)) = some (((decide (am_i32 1) && decide (am_i32 x2)) && true), .inl (bif am_cb .le x2 1 then 27 else 7, [(0, am_iv x0), (1, am_iv x1), (2, am_iv x2)], [], am_SH, (J, K, am_RF b))) from rfl) (am_g2 (by decide) g1060 rfl) (am_nd_f c1061) ?_
      obtain rfl := Option.some.inj h
      exact am_r_ret (show am_stepn X T_UpRiver_commonDivisor 2 true (27, [(0, am_iv x0), (1, am_iv x1), (2, am_iv x2)], [], am_SH, (J, K, am_RF b)) = some (true, .inr (.inr (some (am_iv 1), am_SH, (J, K, am_RF b)))) from rfl) rfl
theorem s_UpRiver_commonDivisor {X : am_X} {b : Bool} {J : am_J} {K : am_K} {x0 : Int} {x1 : Int} {r : Int} (h : f_UpRiver_commonDivisor  x0 x1 = some r) : am_runs X T_UpRiver_commonDivisor (0, [(0, am_iv x0), (1, am_iv x1)], [], am_SH, (J, K, am_RF b)) (some (am_iv r), am_SH, (J, K, am_RF b)) := by
  unfold f_UpRiver_commonDivisor at h
  refine am_r_go (show am_stepn X T_UpRiver_commonDivisor 2 true (0, [(0, am_iv x0), (1, am_iv x1)], [], am_SH, (J, K, am_RF b)) = some (true, .inl (2, [(0, am_iv x0), (1, am_iv x1), (2, am_iv x1)], [], am_SH, (J, K, am_RF b))) from rfl) rfl ?_
  exact s_UpRiver_commonDivisor_L2  _ _ _ _ _ h
theorem s_UpRiver_shallowChances_L35_f {X : am_X} {J : am_J} {K : am_K}  : ∀ (x1 : Int) (x4 : Int) (x5 : Int) (s0 : Int) (s1 : Int) (r : Int), f_UpRiver_shallowChances_L35 false J   x1 x4 x5 s0 s1 = some r → am_runs X T_UpRiver_shallowChances (35, [(1, am_iv x1), (4, am_iv x4), (5, am_iv x5)], [am_iv s1, am_iv s0], am_SH, (J, K, am_RF false)) (some (am_iv r), am_SH, (J, K, am_RF false)) := by
  intro x1 x4 x5 s0 s1 r h
  unfold f_UpRiver_shallowChances_L35 at h
  obtain ⟨g1069, h⟩ := am_if_some h
  obtain ⟨g1070, h⟩ := am_if_some h
  by_cases c1071 : (x1 - 1) < x5
  · rw [if_pos c1071] at h
    refine am_r_f (show am_stepn X T_UpRiver_shallowChances 6 true (35, [(1, am_iv x1), (4, am_iv x4), (5, am_iv x5)], [am_iv s1, am_iv s0], am_SH, (J, K, am_RF false)) = some (((decide (am_i32 x5) && decide (am_i32 (x1 - 1))) && true), .inl (bif am_cb .ge (x1 - 1) x5 then 49 else 44, [(1, am_iv x1), (4, am_iv x4), (5, am_iv x5)], [am_iv (s0 + s1)], am_SH, (J, K, am_RF false))) from rfl) (am_g2 g1069 g1070 rfl) (am_nd_t c1071) ?_
    obtain rfl := Option.some.inj h
    exact am_r_ret (show am_stepn X T_UpRiver_shallowChances 4 true (44, [(1, am_iv x1), (4, am_iv x4), (5, am_iv x5)], [am_iv (s0 + s1)], am_SH, (J, K, am_RF false)) = some (true, .inr (.inr (some (am_iv ((s0 + s1) + x4)), am_SH, (J, K, am_RF false)))) from rfl) rfl
  · rw [if_neg c1071] at h
    refine am_r_t (show am_stepn X T_UpRiver_shallowChances 6 true (35, [(1, am_iv x1), (4, am_iv x4), (5, am_iv x5)], [am_iv s1, am_iv s0], am_SH, (J, K, am_RF false)) = some (((decide (am_i32 x5) && decide (am_i32 (x1 - 1))) && true), .inl (bif am_cb .ge (x1 - 1) x5 then 49 else 44, [(1, am_iv x1), (4, am_iv x4), (5, am_iv x5)], [am_iv (s0 + s1)], am_SH, (J, K, am_RF false))) from rfl) (am_g2 g1069 g1070 rfl) (am_nd_f c1071) ?_
    obtain rfl := Option.some.inj h
    exact am_r_ret (show am_stepn X T_UpRiver_shallowChances 3 true (49, [(1, am_iv x1), (4, am_iv x4), (5, am_iv x5)], [am_iv (s0 + s1)], am_SH, (J, K, am_RF false)) = some (true, .inr (.inr (some (am_iv ((s0 + s1) + 0)), am_SH, (J, K, am_RF false)))) from rfl) rfl
theorem s_UpRiver_shallowChances_L24_f {X : am_X} {J : am_J} {K : am_K}  : ∀ (x1 : Int) (x3 : Int) (x4 : Int) (x5 : Int) (s0 : Int) (r : Int), f_UpRiver_shallowChances_L24 false J   x1 x3 x4 x5 s0 = some r → am_runs X T_UpRiver_shallowChances (24, [(1, am_iv x1), (3, am_iv x3), (4, am_iv x4), (5, am_iv x5)], [am_iv s0], am_SH, (J, K, am_RF false)) (some (am_iv r), am_SH, (J, K, am_RF false)) := by
  intro x1 x3 x4 x5 s0 r h
  unfold f_UpRiver_shallowChances_L24 at h
  obtain ⟨g1072, h⟩ := am_if_some h
  obtain ⟨g1073, h⟩ := am_if_some h
  by_cases c1074 : x1 < x5
  · rw [if_pos c1074] at h
    refine am_r_f (show am_stepn X T_UpRiver_shallowChances 3 true (24, [(1, am_iv x1), (3, am_iv x3), (4, am_iv x4), (5, am_iv x5)], [am_iv s0], am_SH, (J, K, am_RF false)) = some (((decide (am_i32 x5) && decide (am_i32 x1)) && true), .inl (bif am_cb .ge x1 x5 then 34 else 30, [(1, am_iv x1), (3, am_iv x3), (4, am_iv x4), (5, am_iv x5)], [am_iv s0], am_SH, (J, K, am_RF false))) from rfl) (am_g2 g1072 g1073 rfl) (am_nd_t c1074) ?_
    refine am_r_go (show am_stepn X T_UpRiver_shallowChances 2 true (30, [(1, am_iv x1), (3, am_iv x3), (4, am_iv x4), (5, am_iv x5)], [am_iv s0], am_SH, (J, K, am_RF false)) = some (true, .inl (35, [(1, am_iv x1), (3, am_iv x3), (4, am_iv x4), (5, am_iv x5)], [am_iv x3, am_iv s0], am_SH, (J, K, am_RF false))) from rfl) rfl ?_
    refine am_r_eq (σ' := (35, [(1, am_iv x1), (4, am_iv x4), (5, am_iv x5)], [am_iv x3, am_iv s0], am_SH, (J, K, am_RF false))) rfl ?_
    exact s_UpRiver_shallowChances_L35_f  _ _ _ _ _ _ h
  · rw [if_neg c1074] at h
    refine am_r_t (show am_stepn X T_UpRiver_shallowChances 3 true (24, [(1, am_iv x1), (3, am_iv x3), (4, am_iv x4), (5, am_iv x5)], [am_iv s0], am_SH, (J, K, am_RF false)) = some (((decide (am_i32 x5) && decide (am_i32 x1)) && true), .inl (bif am_cb .ge x1 x5 then 34 else 30, [(1, am_iv x1), (3, am_iv x3), (4, am_iv x4), (5, am_iv x5)], [am_iv s0], am_SH, (J, K, am_RF false))) from rfl) (am_g2 g1072 g1073 rfl) (am_nd_f c1074) ?_
    refine am_r_go (show am_stepn X T_UpRiver_shallowChances 1 true (34, [(1, am_iv x1), (3, am_iv x3), (4, am_iv x4), (5, am_iv x5)], [am_iv s0], am_SH, (J, K, am_RF false)) = some (true, .inl (35, [(1, am_iv x1), (4, am_iv x4), (5, am_iv x5)], [am_iv 0, am_iv s0], am_SH, (J, K, am_RF false))) from rfl) rfl ?_
    exact s_UpRiver_shallowChances_L35_f  _ _ _ _ _ _ h
theorem s_UpRiver_shallowChances_f {X : am_X} {J : am_J} {K : am_K} {x1 : Int} {x2 : Int} {x3 : Int} {x4 : Int} {r : Int} (h : f_UpRiver_shallowChances false J x1 x2 x3 x4 = some r) : am_runs X T_UpRiver_shallowChances (0, [(0, am_pv 0), (1, am_iv x1), (2, am_iv x2), (3, am_iv x3), (4, am_iv x4)], [], am_SH, (J, K, am_RF false)) (some (am_iv r), am_SH, (J, K, am_RF false)) := by
  unfold f_UpRiver_shallowChances at h
  obtain ⟨g1075, h⟩ := am_if_some h
  obtain ⟨g1076, h⟩ := am_if_some h
  by_cases c1077 : (x1 + 1) < (J (am_rv false + 1) 2)
  · rw [if_pos c1077] at h
    refine am_r_f (show am_stepn X T_UpRiver_shallowChances 11 true (0, [(0, am_pv 0), (1, am_iv x1), (2, am_iv x2), (3, am_iv x3), (4, am_iv x4)], [], am_SH, (J, K, am_RF false)) = some (((decide (am_i32 (J (am_rv false + 1) 2)) && decide (am_i32 (x1 + 1))) && (am_in 2 7 && true)), .inl (bif am_cb .ge (x1 + 1) (J (am_rv false + 1) 2) then 23 else 19, [(0, am_pv 0), (1, am_iv x1), (2, am_iv x2), (3, am_iv x3), (4, am_iv x4), (5, am_iv (J (am_rv false + 1) 2))], [], am_SH, (J, K, am_RF false))) from rfl) (am_g2 g1075 g1076 (am_gi (by decide) rfl)) (am_nd_t c1077) ?_
    refine am_r_go (show am_stepn X T_UpRiver_shallowChances 2 true (19, [(0, am_pv 0), (1, am_iv x1), (2, am_iv x2), (3, am_iv x3), (4, am_iv x4), (5, am_iv (J (am_rv false + 1) 2))], [], am_SH, (J, K, am_RF false)) = some (true, .inl (24, [(1, am_iv x1), (2, am_iv x2), (3, am_iv x3), (4, am_iv x4), (5, am_iv (J (am_rv false + 1) 2))], [am_iv x2], am_SH, (J, K, am_RF false))) from rfl) rfl ?_
    refine am_r_eq (σ' := (24, [(1, am_iv x1), (3, am_iv x3), (4, am_iv x4), (5, am_iv (J (am_rv false + 1) 2))], [am_iv x2], am_SH, (J, K, am_RF false))) rfl ?_
    exact s_UpRiver_shallowChances_L24_f  _ _ _ _ _ _ h
  · rw [if_neg c1077] at h
    refine am_r_t (show am_stepn X T_UpRiver_shallowChances 11 true (0, [(0, am_pv 0), (1, am_iv x1), (2, am_iv x2), (3, am_iv x3), (4, am_iv x4)], [], am_SH, (J, K, am_RF false)) = some (((decide (am_i32 (J (am_rv false + 1) 2)) && decide (am_i32 (x1 + 1))) && (am_in 2 7 && true)), .inl (bif am_cb .ge (x1 + 1) (J (am_rv false + 1) 2) then 23 else 19, [(0, am_pv 0), (1, am_iv x1), (2, am_iv x2), (3, am_iv x3), (4, am_iv x4), (5, am_iv (J (am_rv false + 1) 2))], [], am_SH, (J, K, am_RF false))) from rfl) (am_g2 g1075 g1076 (am_gi (by decide) rfl)) (am_nd_f c1077) ?_
    refine am_r_go (show am_stepn X T_UpRiver_shallowChances 1 true (23, [(0, am_pv 0), (1, am_iv x1), (2, am_iv x2), (3, am_iv x3), (4, am_iv x4), (5, am_iv (J (am_rv false + 1) 2))], [], am_SH, (J, K, am_RF false)) = some (true, .inl (24, [(1, am_iv x1), (3, am_iv x3), (4, am_iv x4), (5, am_iv (J (am_rv false + 1) 2))], [am_iv 0], am_SH, (J, K, am_RF false))) from rfl) rfl ?_
    exact s_UpRiver_shallowChances_L24_f  _ _ _ _ _ _ h
theorem s_UpRiver_shallowChances_L35_t {X : am_X} {J : am_J} {K : am_K}  : ∀ (x1 : Int) (x4 : Int) (x5 : Int) (s0 : Int) (s1 : Int) (r : Int), f_UpRiver_shallowChances_L35 true J   x1 x4 x5 s0 s1 = some r → am_runs X T_UpRiver_shallowChances (35, [(1, am_iv x1), (4, am_iv x4), (5, am_iv x5)], [am_iv s1, am_iv s0], am_SH, (J, K, am_RF true)) (some (am_iv r), am_SH, (J, K, am_RF true)) := by
  intro x1 x4 x5 s0 s1 r h
  unfold f_UpRiver_shallowChances_L35 at h
  obtain ⟨g1069, h⟩ := am_if_some h
  obtain ⟨g1070, h⟩ := am_if_some h
  by_cases c1071 : (x1 - 1) < x5
  · rw [if_pos c1071] at h
    refine am_r_f (show am_stepn X T_UpRiver_shallowChances 6 true (35, [(1, am_iv x1), (4, am_iv x4), (5, am_iv x5)], [am_iv s1, am_iv s0], am_SH, (J, K, am_RF true)) = some (((decide (am_i32 x5) && decide (am_i32 (x1 - 1))) && true), .inl (bif am_cb .ge (x1 - 1) x5 then 49 else 44, [(1, am_iv x1), (4, am_iv x4), (5, am_iv x5)], [am_iv (s0 + s1)], am_SH, (J, K, am_RF true))) from rfl) (am_g2 g1069 g1070 rfl) (am_nd_t c1071) ?_
    obtain rfl := Option.some.inj h
    exact am_r_ret (show am_stepn X T_UpRiver_shallowChances 4 true (44, [(1, am_iv x1), (4, am_iv x4), (5, am_iv x5)], [am_iv (s0 + s1)], am_SH, (J, K, am_RF true)) = some (true, .inr (.inr (some (am_iv ((s0 + s1) + x4)), am_SH, (J, K, am_RF true)))) from rfl) rfl
  · rw [if_neg c1071] at h
    refine am_r_t (show am_stepn X T_UpRiver_shallowChances 6 true (35, [(1, am_iv x1), (4, am_iv x4), (5, am_iv x5)], [am_iv s1, am_iv s0], am_SH, (J, K, am_RF true)) = some (((decide (am_i32 x5) && decide (am_i32 (x1 - 1))) && true), .inl (bif am_cb .ge (x1 - 1) x5 then 49 else 44, [(1, am_iv x1), (4, am_iv x4), (5, am_iv x5)], [am_iv (s0 + s1)], am_SH, (J, K, am_RF true))) from rfl) (am_g2 g1069 g1070 rfl) (am_nd_f c1071) ?_
    obtain rfl := Option.some.inj h
    exact am_r_ret (show am_stepn X T_UpRiver_shallowChances 3 true (49, [(1, am_iv x1), (4, am_iv x4), (5, am_iv x5)], [am_iv (s0 + s1)], am_SH, (J, K, am_RF true)) = some (true, .inr (.inr (some (am_iv ((s0 + s1) + 0)), am_SH, (J, K, am_RF true)))) from rfl) rfl
theorem s_UpRiver_shallowChances_L24_t {X : am_X} {J : am_J} {K : am_K}  : ∀ (x1 : Int) (x3 : Int) (x4 : Int) (x5 : Int) (s0 : Int) (r : Int), f_UpRiver_shallowChances_L24 true J   x1 x3 x4 x5 s0 = some r → am_runs X T_UpRiver_shallowChances (24, [(1, am_iv x1), (3, am_iv x3), (4, am_iv x4), (5, am_iv x5)], [am_iv s0], am_SH, (J, K, am_RF true)) (some (am_iv r), am_SH, (J, K, am_RF true)) := by
  intro x1 x3 x4 x5 s0 r h
  unfold f_UpRiver_shallowChances_L24 at h
  obtain ⟨g1072, h⟩ := am_if_some h
  obtain ⟨g1073, h⟩ := am_if_some h
  by_cases c1074 : x1 < x5
  · rw [if_pos c1074] at h
    refine am_r_f (show am_stepn X T_UpRiver_shallowChances 3 true (24, [(1, am_iv x1), (3, am_iv x3), (4, am_iv x4), (5, am_iv x5)], [am_iv s0], am_SH, (J, K, am_RF true)) = some (((decide (am_i32 x5) && decide (am_i32 x1)) && true), .inl (bif am_cb .ge x1 x5 then 34 else 30, [(1, am_iv x1), (3, am_iv x3), (4, am_iv x4), (5, am_iv x5)], [am_iv s0], am_SH, (J, K, am_RF true))) from rfl) (am_g2 g1072 g1073 rfl) (am_nd_t c1074) ?_
    refine am_r_go (show am_stepn X T_UpRiver_shallowChances 2 true (30, [(1, am_iv x1), (3, am_iv x3), (4, am_iv x4), (5, am_iv x5)], [am_iv s0], am_SH, (J, K, am_RF true)) = some (true, .inl (35, [(1, am_iv x1), (3, am_iv x3), (4, am_iv x4), (5, am_iv x5)], [am_iv x3, am_iv s0], am_SH, (J, K, am_RF true))) from rfl) rfl ?_
    refine am_r_eq (σ' := (35, [(1, am_iv x1), (4, am_iv x4), (5, am_iv x5)], [am_iv x3, am_iv s0], am_SH, (J, K, am_RF true))) rfl ?_
    exact s_UpRiver_shallowChances_L35_t  _ _ _ _ _ _ h
  · rw [if_neg c1074] at h
    refine am_r_t (show am_stepn X T_UpRiver_shallowChances 3 true (24, [(1, am_iv x1), (3, am_iv x3), (4, am_iv x4), (5, am_iv x5)], [am_iv s0], am_SH, (J, K, am_RF true)) = some (((decide (am_i32 x5) && decide (am_i32 x1)) && true), .inl (bif am_cb .ge x1 x5 then 34 else 30, [(1, am_iv x1), (3, am_iv x3), (4, am_iv x4), (5, am_iv x5)], [am_iv s0], am_SH, (J, K, am_RF true))) from rfl) (am_g2 g1072 g1073 rfl) (am_nd_f c1074) ?_
    refine am_r_go (show am_stepn X T_UpRiver_shallowChances 1 true (34, [(1, am_iv x1), (3, am_iv x3), (4, am_iv x4), (5, am_iv x5)], [am_iv s0], am_SH, (J, K, am_RF true)) = some (true, .inl (35, [(1, am_iv x1), (4, am_iv x4), (5, am_iv x5)], [am_iv 0, am_iv s0], am_SH, (J, K, am_RF true))) from rfl) rfl ?_
    exact s_UpRiver_shallowChances_L35_t  _ _ _ _ _ _ h
theorem s_UpRiver_shallowChances_t {X : am_X} {J : am_J} {K : am_K} {x1 : Int} {x2 : Int} {x3 : Int} {x4 : Int} {r : Int} (h : f_UpRiver_shallowChances true J x1 x2 x3 x4 = some r) : am_runs X T_UpRiver_shallowChances (0, [(0, am_pv 0), (1, am_iv x1), (2, am_iv x2), (3, am_iv x3), (4, am_iv x4)], [], am_SH, (J, K, am_RF true)) (some (am_iv r), am_SH, (J, K, am_RF true)) := by
  unfold f_UpRiver_shallowChances at h
  obtain ⟨g1075, h⟩ := am_if_some h
  obtain ⟨g1076, h⟩ := am_if_some h
  by_cases c1077 : (x1 + 1) < (J (am_rv true + 1) 2)
  · rw [if_pos c1077] at h
    refine am_r_f (show am_stepn X T_UpRiver_shallowChances 11 true (0, [(0, am_pv 0), (1, am_iv x1), (2, am_iv x2), (3, am_iv x3), (4, am_iv x4)], [], am_SH, (J, K, am_RF true)) = some (((decide (am_i32 (J (am_rv true + 1) 2)) && decide (am_i32 (x1 + 1))) && (am_in 2 7 && true)), .inl (bif am_cb .ge (x1 + 1) (J (am_rv true + 1) 2) then 23 else 19, [(0, am_pv 0), (1, am_iv x1), (2, am_iv x2), (3, am_iv x3), (4, am_iv x4), (5, am_iv (J (am_rv true + 1) 2))], [], am_SH, (J, K, am_RF true))) from rfl) (am_g2 g1075 g1076 (am_gi (by decide) rfl)) (am_nd_t c1077) ?_
    refine am_r_go (show am_stepn X T_UpRiver_shallowChances 2 true (19, [(0, am_pv 0), (1, am_iv x1), (2, am_iv x2), (3, am_iv x3), (4, am_iv x4), (5, am_iv (J (am_rv true + 1) 2))], [], am_SH, (J, K, am_RF true)) = some (true, .inl (24, [(1, am_iv x1), (2, am_iv x2), (3, am_iv x3), (4, am_iv x4), (5, am_iv (J (am_rv true + 1) 2))], [am_iv x2], am_SH, (J, K, am_RF true))) from rfl) rfl ?_
    refine am_r_eq (σ' := (24, [(1, am_iv x1), (3, am_iv x3), (4, am_iv x4), (5, am_iv (J (am_rv true + 1) 2))], [am_iv x2], am_SH, (J, K, am_RF true))) rfl ?_
    exact s_UpRiver_shallowChances_L24_t  _ _ _ _ _ _ h
  · rw [if_neg c1077] at h
    refine am_r_t (show am_stepn X T_UpRiver_shallowChances 11 true (0, [(0, am_pv 0), (1, am_iv x1), (2, am_iv x2), (3, am_iv x3), (4, am_iv x4)], [], am_SH, (J, K, am_RF true)) = some (((decide (am_i32 (J (am_rv true + 1) 2)) && decide (am_i32 (x1 + 1))) && (am_in 2 7 && true)), .inl (bif am_cb .ge (x1 + 1) (J (am_rv true + 1) 2) then 23 else 19, [(0, am_pv 0), (1, am_iv x1), (2, am_iv x2), (3, am_iv x3), (4, am_iv x4), (5, am_iv (J (am_rv true + 1) 2))], [], am_SH, (J, K, am_RF true))) from rfl) (am_g2 g1075 g1076 (am_gi (by decide) rfl)) (am_nd_f c1077) ?_
    refine am_r_go (show am_stepn X T_UpRiver_shallowChances 1 true (23, [(0, am_pv 0), (1, am_iv x1), (2, am_iv x2), (3, am_iv x3), (4, am_iv x4), (5, am_iv (J (am_rv true + 1) 2))], [], am_SH, (J, K, am_RF true)) = some (true, .inl (24, [(1, am_iv x1), (3, am_iv x3), (4, am_iv x4), (5, am_iv (J (am_rv true + 1) 2))], [am_iv 0], am_SH, (J, K, am_RF true))) from rfl) rfl ?_
    exact s_UpRiver_shallowChances_L24_t  _ _ _ _ _ _ h
theorem s_UpRiver_shallowChances {X : am_X} {b : Bool} {J : am_J} {K : am_K} {x1 : Int} {x2 : Int} {x3 : Int} {x4 : Int} {r : Int} (h : f_UpRiver_shallowChances b J x1 x2 x3 x4 = some r) : am_runs X T_UpRiver_shallowChances (0, [(0, am_pv 0), (1, am_iv x1), (2, am_iv x2), (3, am_iv x3), (4, am_iv x4)], [], am_SH, (J, K, am_RF b)) (some (am_iv r), am_SH, (J, K, am_RF b)) := by
  cases b
  · exact s_UpRiver_shallowChances_f h
  · exact s_UpRiver_shallowChances_t h
theorem s_UpRiver_lead_f {X : am_X} {J : am_J} {K : am_K} {x1 : Int} {x2 : Int} {x3 : Int} {x4 : Int} {x5 : Int} {r : Int} (h : f_UpRiver_lead false J x1 x2 x3 x4 x5 = some r) : am_runs X T_UpRiver_lead (0, [(0, am_pv 0), (1, am_iv x1), (2, am_iv x2), (3, am_iv x3), (4, am_iv x4), (5, am_iv x5)], [], am_SH, (J, K, am_RF false)) (some (am_iv r), am_SH, (J, K, am_RF false)) := by
  unfold f_UpRiver_lead at h
  obtain ⟨g1078, h⟩ := am_if_some h
  by_cases c1079 : x1 < 0
  · rw [if_pos c1079] at h
    refine am_r_t (show am_stepn X T_UpRiver_lead 2 true (0, [(0, am_pv 0), (1, am_iv x1), (2, am_iv x2), (3, am_iv x3), (4, am_iv x4), (5, am_iv x5)], [], am_SH, (J, K, am_RF false)) = some ((decide (am_i32 x1) && true), .inl (bif am_cb .lt x1 0 then 28 else 4, [(0, am_pv 0), (1, am_iv x1), (2, am_iv x2), (3, am_iv x3), (4, am_iv x4), (5, am_iv x5)], [], am_SH, (J, K, am_RF false))) from rfl) (am_g1 g1078 rfl) (decide_eq_true c1079) ?_
    obtain rfl := Option.some.inj h
    exact am_r_ret (show am_stepn X T_UpRiver_lead 2 true (28, [(0, am_pv 0), (1, am_iv x1), (2, am_iv x2), (3, am_iv x3), (4, am_iv x4), (5, am_iv x5)], [], am_SH, (J, K, am_RF false)) = some (true, .inr (.inr (some (am_iv (-1)), am_SH, (J, K, am_RF false)))) from rfl) rfl
  · rw [if_neg c1079] at h
    refine am_r_f (show am_stepn X T_UpRiver_lead 2 true (0, [(0, am_pv 0), (1, am_iv x1), (2, am_iv x2), (3, am_iv x3), (4, am_iv x4), (5, am_iv x5)], [], am_SH, (J, K, am_RF false)) = some ((decide (am_i32 x1) && true), .inl (bif am_cb .lt x1 0 then 28 else 4, [(0, am_pv 0), (1, am_iv x1), (2, am_iv x2), (3, am_iv x3), (4, am_iv x4), (5, am_iv x5)], [], am_SH, (J, K, am_RF false))) from rfl) (am_g1 g1078 rfl) (decide_eq_false c1079) ?_
    by_cases c1080 : 30 < x1
    · rw [if_pos c1080] at h
      refine am_r_t (show am_stepn X T_UpRiver_lead 3 true (4, [(0, am_pv 0), (1, am_iv x1), (2, am_iv x2), (3, am_iv x3), (4, am_iv x4), (5, am_iv x5)], [], am_SH, (J, K, am_RF false)) = some (((decide (am_i32 30) && decide (am_i32 x1)) && true), .inl (bif am_cb .gt x1 30 then 28 else 10, [(0, am_pv 0), (1, am_iv x1), (2, am_iv x2), (3, am_iv x3), (4, am_iv x4), (5, am_iv x5)], [], am_SH, (J, K, am_RF false))) from rfl) (am_g2 (by decide) g1078 rfl) (decide_eq_true c1080) ?_
      obtain rfl := Option.some.inj h
      exact am_r_ret (show am_stepn X T_UpRiver_lead 2 true (28, [(0, am_pv 0), (1, am_iv x1), (2, am_iv x2), (3, am_iv x3), (4, am_iv x4), (5, am_iv x5)], [], am_SH, (J, K, am_RF false)) = some (true, .inr (.inr (some (am_iv (-1)), am_SH, (J, K, am_RF false)))) from rfl) rfl
    · rw [if_neg c1080] at h
      refine am_r_f (show am_stepn X T_UpRiver_lead 3 true (4, [(0, am_pv 0), (1, am_iv x1), (2, am_iv x2), (3, am_iv x3), (4, am_iv x4), (5, am_iv x5)], [], am_SH, (J, K, am_RF false)) = some (((decide (am_i32 30) && decide (am_i32 x1)) && true), .inl (bif am_cb .gt x1 30 then 28 else 10, [(0, am_pv 0), (1, am_iv x1), (2, am_iv x2), (3, am_iv x3), (4, am_iv x4), (5, am_iv x5)], [], am_SH, (J, K, am_RF false))) from rfl) (am_g2 (by decide) g1078 rfl) (decide_eq_false c1080) ?_
      obtain ⟨q1081, e1082, h⟩ := am_bind_some h
      refine am_r_call (show am_stepn X T_UpRiver_lead 4 true (10, [(0, am_pv 0), (1, am_iv x1), (2, am_iv x2), (3, am_iv x3), (4, am_iv x4), (5, am_iv x5)], [], am_SH, (J, K, am_RF false)) = some (true, .inr (.inl (115, [am_iv x2, am_iv x3, am_iv x4], 3, 0, 0, 17, [(0, am_pv 0), (1, am_iv x1), (2, am_iv x2), (3, am_iv x3), (4, am_iv x4), (5, am_iv x5)], [], am_SH, (J, K, am_RF false)))) from rfl) rfl tb_UpRiver_areChances (s_UpRiver_areChances e1082) ?_
      obtain ⟨g1083, h⟩ := am_if_some h
      by_cases c1084 : q1081 = 0
      · rw [if_pos c1084] at h
        refine am_r_t (show am_stepn X T_UpRiver_lead 1 true (17, [(0, am_pv 0), (1, am_iv x1), (2, am_iv x2), (3, am_iv x3), (4, am_iv x4), (5, am_iv x5)], [am_iv q1081], am_SH, (J, K, am_RF false)) = some ((decide (am_i32 q1081) && true), .inl (bif am_cb .eq q1081 0 then 28 else 20, [(0, am_pv 0), (1, am_iv x1), (2, am_iv x2), (3, am_iv x3), (4, am_iv x4), (5, am_iv x5)], [], am_SH, (J, K, am_RF false))) from rfl) (am_g1 g1083 rfl) (decide_eq_true c1084) ?_
        obtain rfl := Option.some.inj h
        exact am_r_ret (show am_stepn X T_UpRiver_lead 2 true (28, [(0, am_pv 0), (1, am_iv x1), (2, am_iv x2), (3, am_iv x3), (4, am_iv x4), (5, am_iv x5)], [], am_SH, (J, K, am_RF false)) = some (true, .inr (.inr (some (am_iv (-1)), am_SH, (J, K, am_RF false)))) from rfl) rfl
      · rw [if_neg c1084] at h
        refine am_r_f (show am_stepn X T_UpRiver_lead 1 true (17, [(0, am_pv 0), (1, am_iv x1), (2, am_iv x2), (3, am_iv x3), (4, am_iv x4), (5, am_iv x5)], [am_iv q1081], am_SH, (J, K, am_RF false)) = some ((decide (am_i32 q1081) && true), .inl (bif am_cb .eq q1081 0 then 28 else 20, [(0, am_pv 0), (1, am_iv x1), (2, am_iv x2), (3, am_iv x3), (4, am_iv x4), (5, am_iv x5)], [], am_SH, (J, K, am_RF false))) from rfl) (am_g1 g1083 rfl) (decide_eq_false c1084) ?_
        obtain ⟨q1085, e1086, h⟩ := am_bind_some h
        refine am_r_call (show am_stepn X T_UpRiver_lead 2 true (20, [(0, am_pv 0), (1, am_iv x1), (2, am_iv x2), (3, am_iv x3), (4, am_iv x4), (5, am_iv x5)], [], am_SH, (J, K, am_RF false)) = some (true, .inr (.inl (67, [am_iv x5], 1, 0, 0, 25, [(0, am_pv 0), (1, am_iv x1), (2, am_iv x2), (3, am_iv x3), (4, am_iv x4), (5, am_iv x5)], [], am_SH, (J, K, am_RF false)))) from rfl) rfl tb_UpRiver_isYesOrNo (s_UpRiver_isYesOrNo e1086) ?_
        obtain ⟨g1087, h⟩ := am_if_some h
        by_cases c1088 : q1085 = 0
        · rw [if_pos c1088] at h
          refine am_r_f (show am_stepn X T_UpRiver_lead 1 true (25, [(0, am_pv 0), (1, am_iv x1), (2, am_iv x2), (3, am_iv x3), (4, am_iv x4), (5, am_iv x5)], [am_iv q1085], am_SH, (J, K, am_RF false)) = some ((decide (am_i32 q1085) && true), .inl (bif am_cb .ne q1085 0 then 30 else 28, [(0, am_pv 0), (1, am_iv x1), (2, am_iv x2), (3, am_iv x3), (4, am_iv x4), (5, am_iv x5)], [], am_SH, (J, K, am_RF false))) from rfl) (am_g1 g1087 rfl) (am_nd_t c1088) ?_
          obtain rfl := Option.some.inj h
          exact am_r_ret (show am_stepn X T_UpRiver_lead 2 true (28, [(0, am_pv 0), (1, am_iv x1), (2, am_iv x2), (3, am_iv x3), (4, am_iv x4), (5, am_iv x5)], [], am_SH, (J, K, am_RF false)) = some (true, .inr (.inr (some (am_iv (-1)), am_SH, (J, K, am_RF false)))) from rfl) rfl
        · rw [if_neg c1088] at h
          refine am_r_t (show am_stepn X T_UpRiver_lead 1 true (25, [(0, am_pv 0), (1, am_iv x1), (2, am_iv x2), (3, am_iv x3), (4, am_iv x4), (5, am_iv x5)], [am_iv q1085], am_SH, (J, K, am_RF false)) = some ((decide (am_i32 q1085) && true), .inl (bif am_cb .ne q1085 0 then 30 else 28, [(0, am_pv 0), (1, am_iv x1), (2, am_iv x2), (3, am_iv x3), (4, am_iv x4), (5, am_iv x5)], [], am_SH, (J, K, am_RF false))) from rfl) (am_g1 g1087 rfl) (am_nd_f c1088) ?_
          obtain ⟨q1089, e1090, h⟩ := am_bind_some h
          refine am_r_call (show am_stepn X T_UpRiver_lead 6 true (30, [(0, am_pv 0), (1, am_iv x1), (2, am_iv x2), (3, am_iv x3), (4, am_iv x4), (5, am_iv x5)], [], am_SH, (J, K, am_RF false)) = some (true, .inr (.inl (116, [am_pv 0, am_iv x1, am_iv x2, am_iv x3, am_iv x4], 6, 0, 0, 39, [(0, am_pv 0), (1, am_iv x1), (2, am_iv x2), (3, am_iv x3), (4, am_iv x4), (5, am_iv x5)], [], am_SH, (J, K, am_RF false)))) from rfl) rfl tb_UpRiver_shallowChances (s_UpRiver_shallowChances e1090) ?_
          obtain ⟨q1091, e1092, h⟩ := am_bind_some h
          refine am_r_call (show am_stepn X T_UpRiver_lead 10 true (39, [(0, am_pv 0), (1, am_iv x1), (2, am_iv x2), (3, am_iv x3), (4, am_iv x4), (5, am_iv x5)], [am_iv q1089], am_SH, (J, K, am_RF false)) = some (true, .inr (.inl (117, [am_iv q1089, am_iv ((x2 + x3) + x4)], 3, 0, 0, 56, [(0, am_pv 0), (1, am_iv x1), (2, am_iv x2), (3, am_iv x3), (4, am_iv x4), (5, am_iv x5), (6, am_iv q1089), (7, am_iv ((x2 + x3) + x4))], [], am_SH, (J, K, am_RF false)))) from rfl) rfl tb_UpRiver_commonDivisor (s_UpRiver_commonDivisor e1092) ?_
          obtain ⟨g1093, h⟩ := am_if_some h
          by_cases c1094 : q1091 < 1
          · rw [if_pos c1094] at h
            refine am_r_f (show am_stepn X T_UpRiver_lead 4 true (56, [(0, am_pv 0), (1, am_iv x1), (2, am_iv x2), (3, am_iv x3), (4, am_iv x4), (5, am_iv x5), (6, am_iv q1089), (7, am_iv ((x2 + x3) + x4))], [am_iv q1091], am_SH, (J, K, am_RF false)) = some (((decide (am_i32 1) && decide (am_i32 q1091)) && true), .inl (bif am_cb .ge q1091 1 then 66 else 64, [(0, am_pv 0), (1, am_iv x1), (2, am_iv x2), (3, am_iv x3), (4, am_iv x4), (5, am_iv x5), (6, am_iv q1089), (7, am_iv ((x2 + x3) + x4)), (8, am_iv q1091)], [], am_SH, (J, K, am_RF false))) from rfl) (am_g2 (by decide) g1093 rfl) (am_nd_t c1094) ?_
            obtain rfl := Option.some.inj h
            exact am_r_ret (show am_stepn X T_UpRiver_lead 2 true (64, [(0, am_pv 0), (1, am_iv x1), (2, am_iv x2), (3, am_iv x3), (4, am_iv x4), (5, am_iv x5), (6, am_iv q1089), (7, am_iv ((x2 + x3) + x4)), (8, am_iv q1091)], [], am_SH, (J, K, am_RF false)) = some (true, .inr (.inr (some (am_iv (-1)), am_SH, (J, K, am_RF false)))) from rfl) rfl
          · rw [if_neg c1094] at h
            refine am_r_t (show am_stepn X T_UpRiver_lead 4 true (56, [(0, am_pv 0), (1, am_iv x1), (2, am_iv x2), (3, am_iv x3), (4, am_iv x4), (5, am_iv x5), (6, am_iv q1089), (7, am_iv ((x2 + x3) + x4))], [am_iv q1091], am_SH, (J, K, am_RF false)) = some (((decide (am_i32 1) && decide (am_i32 q1091)) && true), .inl (bif am_cb .ge q1091 1 then 66 else 64, [(0, am_pv 0), (1, am_iv x1), (2, am_iv x2), (3, am_iv x3), (4, am_iv x4), (5, am_iv x5), (6, am_iv q1089), (7, am_iv ((x2 + x3) + x4)), (8, am_iv q1091)], [], am_SH, (J, K, am_RF false))) from rfl) (am_g2 (by decide) g1093 rfl) (am_nd_f c1094) ?_
            obtain ⟨g1095, h⟩ := am_if_some h
            by_cases c1096 : x5 = 0
            · rw [if_pos c1096] at h
              refine am_r_f (show am_stepn X T_UpRiver_lead 2 true (66, [(0, am_pv 0), (1, am_iv x1), (2, am_iv x2), (3, am_iv x3), (4, am_iv x4), (5, am_iv x5), (6, am_iv q1089), (7, am_iv ((x2 + x3) + x4)), (8, am_iv q1091)], [], am_SH, (J, K, am_RF false)) = some ((decide (am_i32 x5) && true), .inl (bif am_cb .ne x5 0 then 79 else 71, [(5, am_iv x5), (6, am_iv q1089), (7, am_iv ((x2 + x3) + x4)), (8, am_iv q1091)], [], am_SH, (J, K, am_RF false))) from rfl) (am_g1 g1095 rfl) (am_nd_t c1096) ?_
              obtain ⟨g1097, h⟩ := am_if_some h
              obtain ⟨g1098, h⟩ := am_if_some h
              obtain rfl := Option.some.inj h
              exact am_r_ret (show am_stepn X T_UpRiver_lead 5 true (71, [(5, am_iv x5), (6, am_iv q1089), (7, am_iv ((x2 + x3) + x4)), (8, am_iv q1091)], [], am_SH, (J, K, am_RF false)) = some (((decide (0 < (q1091 : Int) ∧ am_i32 q1091) && decide (am_i32 q1089)) && true), .inr (.inr (some (am_iv (am_dv q1089 q1091)), am_SH, (J, K, am_RF false)))) from rfl) (am_g2 g1097 g1098 rfl)
            · rw [if_neg c1096] at h
              refine am_r_t (show am_stepn X T_UpRiver_lead 2 true (66, [(0, am_pv 0), (1, am_iv x1), (2, am_iv x2), (3, am_iv x3), (4, am_iv x4), (5, am_iv x5), (6, am_iv q1089), (7, am_iv ((x2 + x3) + x4)), (8, am_iv q1091)], [], am_SH, (J, K, am_RF false)) = some ((decide (am_i32 x5) && true), .inl (bif am_cb .ne x5 0 then 79 else 71, [(5, am_iv x5), (6, am_iv q1089), (7, am_iv ((x2 + x3) + x4)), (8, am_iv q1091)], [], am_SH, (J, K, am_RF false))) from rfl) (am_g1 g1095 rfl) (am_nd_f c1096) ?_
              obtain ⟨g1099, h⟩ := am_if_some h
              obtain ⟨g1100, h⟩ := am_if_some h
              obtain rfl := Option.some.inj h
              exact am_r_ret (show am_stepn X T_UpRiver_lead 4 true (79, [(5, am_iv x5), (6, am_iv q1089), (7, am_iv ((x2 + x3) + x4)), (8, am_iv q1091)], [], am_SH, (J, K, am_RF false)) = some (((decide (0 < (q1091 : Int) ∧ am_i32 q1091) && decide (am_i32 ((x2 + x3) + x4))) && true), .inr (.inr (some (am_iv (am_dv ((x2 + x3) + x4) q1091)), am_SH, (J, K, am_RF false)))) from rfl) (am_g2 g1099 g1100 rfl)
theorem s_UpRiver_lead_t {X : am_X} {J : am_J} {K : am_K} {x1 : Int} {x2 : Int} {x3 : Int} {x4 : Int} {x5 : Int} {r : Int} (h : f_UpRiver_lead true J x1 x2 x3 x4 x5 = some r) : am_runs X T_UpRiver_lead (0, [(0, am_pv 0), (1, am_iv x1), (2, am_iv x2), (3, am_iv x3), (4, am_iv x4), (5, am_iv x5)], [], am_SH, (J, K, am_RF true)) (some (am_iv r), am_SH, (J, K, am_RF true)) := by
  unfold f_UpRiver_lead at h
  obtain ⟨g1078, h⟩ := am_if_some h
  by_cases c1079 : x1 < 0
  · rw [if_pos c1079] at h
    refine am_r_t (show am_stepn X T_UpRiver_lead 2 true (0, [(0, am_pv 0), (1, am_iv x1), (2, am_iv x2), (3, am_iv x3), (4, am_iv x4), (5, am_iv x5)], [], am_SH, (J, K, am_RF true)) = some ((decide (am_i32 x1) && true), .inl (bif am_cb .lt x1 0 then 28 else 4, [(0, am_pv 0), (1, am_iv x1), (2, am_iv x2), (3, am_iv x3), (4, am_iv x4), (5, am_iv x5)], [], am_SH, (J, K, am_RF true))) from rfl) (am_g1 g1078 rfl) (decide_eq_true c1079) ?_
    obtain rfl := Option.some.inj h
    exact am_r_ret (show am_stepn X T_UpRiver_lead 2 true (28, [(0, am_pv 0), (1, am_iv x1), (2, am_iv x2), (3, am_iv x3), (4, am_iv x4), (5, am_iv x5)], [], am_SH, (J, K, am_RF true)) = some (true, .inr (.inr (some (am_iv (-1)), am_SH, (J, K, am_RF true)))) from rfl) rfl
  · rw [if_neg c1079] at h
    refine am_r_f (show am_stepn X T_UpRiver_lead 2 true (0, [(0, am_pv 0), (1, am_iv x1), (2, am_iv x2), (3, am_iv x3), (4, am_iv x4), (5, am_iv x5)], [], am_SH, (J, K, am_RF true)) = some ((decide (am_i32 x1) && true), .inl (bif am_cb .lt x1 0 then 28 else 4, [(0, am_pv 0), (1, am_iv x1), (2, am_iv x2), (3, am_iv x3), (4, am_iv x4), (5, am_iv x5)], [], am_SH, (J, K, am_RF true))) from rfl) (am_g1 g1078 rfl) (decide_eq_false c1079) ?_
    by_cases c1080 : 30 < x1
    · rw [if_pos c1080] at h
      refine am_r_t (show am_stepn X T_UpRiver_lead 3 true (4, [(0, am_pv 0), (1, am_iv x1), (2, am_iv x2), (3, am_iv x3), (4, am_iv x4), (5, am_iv x5)], [], am_SH, (J, K, am_RF true)) = some (((decide (am_i32 30) && decide (am_i32 x1)) && true), .inl (bif am_cb .gt x1 30 then 28 else 10, [(0, am_pv 0), (1, am_iv x1), (2, am_iv x2), (3, am_iv x3), (4, am_iv x4), (5, am_iv x5)], [], am_SH, (J, K, am_RF true))) from rfl) (am_g2 (by decide) g1078 rfl) (decide_eq_true c1080) ?_
      obtain rfl := Option.some.inj h
      exact am_r_ret (show am_stepn X T_UpRiver_lead 2 true (28, [(0, am_pv 0), (1, am_iv x1), (2, am_iv x2), (3, am_iv x3), (4, am_iv x4), (5, am_iv x5)], [], am_SH, (J, K, am_RF true)) = some (true, .inr (.inr (some (am_iv (-1)), am_SH, (J, K, am_RF true)))) from rfl) rfl
    · rw [if_neg c1080] at h
      refine am_r_f (show am_stepn X T_UpRiver_lead 3 true (4, [(0, am_pv 0), (1, am_iv x1), (2, am_iv x2), (3, am_iv x3), (4, am_iv x4), (5, am_iv x5)], [], am_SH, (J, K, am_RF true)) = some (((decide (am_i32 30) && decide (am_i32 x1)) && true), .inl (bif am_cb .gt x1 30 then 28 else 10, [(0, am_pv 0), (1, am_iv x1), (2, am_iv x2), (3, am_iv x3), (4, am_iv x4), (5, am_iv x5)], [], am_SH, (J, K, am_RF true))) from rfl) (am_g2 (by decide) g1078 rfl) (decide_eq_false c1080) ?_
      obtain ⟨q1081, e1082, h⟩ := am_bind_some h
      refine am_r_call (show am_stepn X T_UpRiver_lead 4 true (10, [(0, am_pv 0), (1, am_iv x1), (2, am_iv x2), (3, am_iv x3), (4, am_iv x4), (5, am_iv x5)], [], am_SH, (J, K, am_RF true)) = some (true, .inr (.inl (115, [am_iv x2, am_iv x3, am_iv x4], 3, 0, 0, 17, [(0, am_pv 0), (1, am_iv x1), (2, am_iv x2), (3, am_iv x3), (4, am_iv x4), (5, am_iv x5)], [], am_SH, (J, K, am_RF true)))) from rfl) rfl tb_UpRiver_areChances (s_UpRiver_areChances e1082) ?_
      obtain ⟨g1083, h⟩ := am_if_some h
      by_cases c1084 : q1081 = 0
      · rw [if_pos c1084] at h
        refine am_r_t (show am_stepn X T_UpRiver_lead 1 true (17, [(0, am_pv 0), (1, am_iv x1), (2, am_iv x2), (3, am_iv x3), (4, am_iv x4), (5, am_iv x5)], [am_iv q1081], am_SH, (J, K, am_RF true)) = some ((decide (am_i32 q1081) && true), .inl (bif am_cb .eq q1081 0 then 28 else 20, [(0, am_pv 0), (1, am_iv x1), (2, am_iv x2), (3, am_iv x3), (4, am_iv x4), (5, am_iv x5)], [], am_SH, (J, K, am_RF true))) from rfl) (am_g1 g1083 rfl) (decide_eq_true c1084) ?_
        obtain rfl := Option.some.inj h
        exact am_r_ret (show am_stepn X T_UpRiver_lead 2 true (28, [(0, am_pv 0), (1, am_iv x1), (2, am_iv x2), (3, am_iv x3), (4, am_iv x4), (5, am_iv x5)], [], am_SH, (J, K, am_RF true)) = some (true, .inr (.inr (some (am_iv (-1)), am_SH, (J, K, am_RF true)))) from rfl) rfl
      · rw [if_neg c1084] at h
        refine am_r_f (show am_stepn X T_UpRiver_lead 1 true (17, [(0, am_pv 0), (1, am_iv x1), (2, am_iv x2), (3, am_iv x3), (4, am_iv x4), (5, am_iv x5)], [am_iv q1081], am_SH, (J, K, am_RF true)) = some ((decide (am_i32 q1081) && true), .inl (bif am_cb .eq q1081 0 then 28 else 20, [(0, am_pv 0), (1, am_iv x1), (2, am_iv x2), (3, am_iv x3), (4, am_iv x4), (5, am_iv x5)], [], am_SH, (J, K, am_RF true))) from rfl) (am_g1 g1083 rfl) (decide_eq_false c1084) ?_
        obtain ⟨q1085, e1086, h⟩ := am_bind_some h
        refine am_r_call (show am_stepn X T_UpRiver_lead 2 true (20, [(0, am_pv 0), (1, am_iv x1), (2, am_iv x2), (3, am_iv x3), (4, am_iv x4), (5, am_iv x5)], [], am_SH, (J, K, am_RF true)) = some (true, .inr (.inl (67, [am_iv x5], 1, 0, 0, 25, [(0, am_pv 0), (1, am_iv x1), (2, am_iv x2), (3, am_iv x3), (4, am_iv x4), (5, am_iv x5)], [], am_SH, (J, K, am_RF true)))) from rfl) rfl tb_UpRiver_isYesOrNo (s_UpRiver_isYesOrNo e1086) ?_
        obtain ⟨g1087, h⟩ := am_if_some h
        by_cases c1088 : q1085 = 0
        · rw [if_pos c1088] at h
          refine am_r_f (show am_stepn X T_UpRiver_lead 1 true (25, [(0, am_pv 0), (1, am_iv x1), (2, am_iv x2), (3, am_iv x3), (4, am_iv x4), (5, am_iv x5)], [am_iv q1085], am_SH, (J, K, am_RF true)) = some ((decide (am_i32 q1085) && true), .inl (bif am_cb .ne q1085 0 then 30 else 28, [(0, am_pv 0), (1, am_iv x1), (2, am_iv x2), (3, am_iv x3), (4, am_iv x4), (5, am_iv x5)], [], am_SH, (J, K, am_RF true))) from rfl) (am_g1 g1087 rfl) (am_nd_t c1088) ?_
          obtain rfl := Option.some.inj h
          exact am_r_ret (show am_stepn X T_UpRiver_lead 2 true (28, [(0, am_pv 0), (1, am_iv x1), (2, am_iv x2), (3, am_iv x3), (4, am_iv x4), (5, am_iv x5)], [], am_SH, (J, K, am_RF true)) = some (true, .inr (.inr (some (am_iv (-1)), am_SH, (J, K, am_RF true)))) from rfl) rfl
        · rw [if_neg c1088] at h
          refine am_r_t (show am_stepn X T_UpRiver_lead 1 true (25, [(0, am_pv 0), (1, am_iv x1), (2, am_iv x2), (3, am_iv x3), (4, am_iv x4), (5, am_iv x5)], [am_iv q1085], am_SH, (J, K, am_RF true)) = some ((decide (am_i32 q1085) && true), .inl (bif am_cb .ne q1085 0 then 30 else 28, [(0, am_pv 0), (1, am_iv x1), (2, am_iv x2), (3, am_iv x3), (4, am_iv x4), (5, am_iv x5)], [], am_SH, (J, K, am_RF true))) from rfl) (am_g1 g1087 rfl) (am_nd_f c1088) ?_
          obtain ⟨q1089, e1090, h⟩ := am_bind_some h
          refine am_r_call (show am_stepn X T_UpRiver_lead 6 true (30, [(0, am_pv 0), (1, am_iv x1), (2, am_iv x2), (3, am_iv x3), (4, am_iv x4), (5, am_iv x5)], [], am_SH, (J, K, am_RF true)) = some (true, .inr (.inl (116, [am_pv 0, am_iv x1, am_iv x2, am_iv x3, am_iv x4], 6, 0, 0, 39, [(0, am_pv 0), (1, am_iv x1), (2, am_iv x2), (3, am_iv x3), (4, am_iv x4), (5, am_iv x5)], [], am_SH, (J, K, am_RF true)))) from rfl) rfl tb_UpRiver_shallowChances (s_UpRiver_shallowChances e1090) ?_
          obtain ⟨q1091, e1092, h⟩ := am_bind_some h
          refine am_r_call (show am_stepn X T_UpRiver_lead 10 true (39, [(0, am_pv 0), (1, am_iv x1), (2, am_iv x2), (3, am_iv x3), (4, am_iv x4), (5, am_iv x5)], [am_iv q1089], am_SH, (J, K, am_RF true)) = some (true, .inr (.inl (117, [am_iv q1089, am_iv ((x2 + x3) + x4)], 3, 0, 0, 56, [(0, am_pv 0), (1, am_iv x1), (2, am_iv x2), (3, am_iv x3), (4, am_iv x4), (5, am_iv x5), (6, am_iv q1089), (7, am_iv ((x2 + x3) + x4))], [], am_SH, (J, K, am_RF true)))) from rfl) rfl tb_UpRiver_commonDivisor (s_UpRiver_commonDivisor e1092) ?_
          obtain ⟨g1093, h⟩ := am_if_some h
          by_cases c1094 : q1091 < 1
          · rw [if_pos c1094] at h
            refine am_r_f (show am_stepn X T_UpRiver_lead 4 true (56, [(0, am_pv 0), (1, am_iv x1), (2, am_iv x2), (3, am_iv x3), (4, am_iv x4), (5, am_iv x5), (6, am_iv q1089), (7, am_iv ((x2 + x3) + x4))], [am_iv q1091], am_SH, (J, K, am_RF true)) = some (((decide (am_i32 1) && decide (am_i32 q1091)) && true), .inl (bif am_cb .ge q1091 1 then 66 else 64, [(0, am_pv 0), (1, am_iv x1), (2, am_iv x2), (3, am_iv x3), (4, am_iv x4), (5, am_iv x5), (6, am_iv q1089), (7, am_iv ((x2 + x3) + x4)), (8, am_iv q1091)], [], am_SH, (J, K, am_RF true))) from rfl) (am_g2 (by decide) g1093 rfl) (am_nd_t c1094) ?_
            obtain rfl := Option.some.inj h
            exact am_r_ret (show am_stepn X T_UpRiver_lead 2 true (64, [(0, am_pv 0), (1, am_iv x1), (2, am_iv x2), (3, am_iv x3), (4, am_iv x4), (5, am_iv x5), (6, am_iv q1089), (7, am_iv ((x2 + x3) + x4)), (8, am_iv q1091)], [], am_SH, (J, K, am_RF true)) = some (true, .inr (.inr (some (am_iv (-1)), am_SH, (J, K, am_RF true)))) from rfl) rfl
          · rw [if_neg c1094] at h
            refine am_r_t (show am_stepn X T_UpRiver_lead 4 true (56, [(0, am_pv 0), (1, am_iv x1), (2, am_iv x2), (3, am_iv x3), (4, am_iv x4), (5, am_iv x5), (6, am_iv q1089), (7, am_iv ((x2 + x3) + x4))], [am_iv q1091], am_SH, (J, K, am_RF true)) = some (((decide (am_i32 1) && decide (am_i32 q1091)) && true), .inl (bif am_cb .ge q1091 1 then 66 else 64, [(0, am_pv 0), (1, am_iv x1), (2, am_iv x2), (3, am_iv x3), (4, am_iv x4), (5, am_iv x5), (6, am_iv q1089), (7, am_iv ((x2 + x3) + x4)), (8, am_iv q1091)], [], am_SH, (J, K, am_RF true))) from rfl) (am_g2 (by decide) g1093 rfl) (am_nd_f c1094) ?_
            obtain ⟨g1095, h⟩ := am_if_some h
            by_cases c1096 : x5 = 0
            · rw [if_pos c1096] at h
              refine am_r_f (show am_stepn X T_UpRiver_lead 2 true (66, [(0, am_pv 0), (1, am_iv x1), (2, am_iv x2), (3, am_iv x3), (4, am_iv x4), (5, am_iv x5), (6, am_iv q1089), (7, am_iv ((x2 + x3) + x4)), (8, am_iv q1091)], [], am_SH, (J, K, am_RF true)) = some ((decide (am_i32 x5) && true), .inl (bif am_cb .ne x5 0 then 79 else 71, [(5, am_iv x5), (6, am_iv q1089), (7, am_iv ((x2 + x3) + x4)), (8, am_iv q1091)], [], am_SH, (J, K, am_RF true))) from rfl) (am_g1 g1095 rfl) (am_nd_t c1096) ?_
              obtain ⟨g1097, h⟩ := am_if_some h
              obtain ⟨g1098, h⟩ := am_if_some h
              obtain rfl := Option.some.inj h
              exact am_r_ret (show am_stepn X T_UpRiver_lead 5 true (71, [(5, am_iv x5), (6, am_iv q1089), (7, am_iv ((x2 + x3) + x4)), (8, am_iv q1091)], [], am_SH, (J, K, am_RF true)) = some (((decide (0 < (q1091 : Int) ∧ am_i32 q1091) && decide (am_i32 q1089)) && true), .inr (.inr (some (am_iv (am_dv q1089 q1091)), am_SH, (J, K, am_RF true)))) from rfl) (am_g2 g1097 g1098 rfl)
            · rw [if_neg c1096] at h
              refine am_r_t (show am_stepn X T_UpRiver_lead 2 true (66, [(0, am_pv 0), (1, am_iv x1), (2, am_iv x2), (3, am_iv x3), (4, am_iv x4), (5, am_iv x5), (6, am_iv q1089), (7, am_iv ((x2 + x3) + x4)), (8, am_iv q1091)], [], am_SH, (J, K, am_RF true)) = some ((decide (am_i32 x5) && true), .inl (bif am_cb .ne x5 0 then 79 else 71, [(5, am_iv x5), (6, am_iv q1089), (7, am_iv ((x2 + x3) + x4)), (8, am_iv q1091)], [], am_SH, (J, K, am_RF true))) from rfl) (am_g1 g1095 rfl) (am_nd_f c1096) ?_
              obtain ⟨g1099, h⟩ := am_if_some h
              obtain ⟨g1100, h⟩ := am_if_some h
              obtain rfl := Option.some.inj h
              exact am_r_ret (show am_stepn X T_UpRiver_lead 4 true (79, [(5, am_iv x5), (6, am_iv q1089), (7, am_iv ((x2 + x3) + x4)), (8, am_iv q1091)], [], am_SH, (J, K, am_RF true)) = some (((decide (0 < (q1091 : Int) ∧ am_i32 q1091) && decide (am_i32 ((x2 + x3) + x4))) && true), .inr (.inr (some (am_iv (am_dv ((x2 + x3) + x4) q1091)), am_SH, (J, K, am_RF true)))) from rfl) (am_g2 g1099 g1100 rfl)
theorem s_UpRiver_lead {X : am_X} {b : Bool} {J : am_J} {K : am_K} {x1 : Int} {x2 : Int} {x3 : Int} {x4 : Int} {x5 : Int} {r : Int} (h : f_UpRiver_lead b J x1 x2 x3 x4 x5 = some r) : am_runs X T_UpRiver_lead (0, [(0, am_pv 0), (1, am_iv x1), (2, am_iv x2), (3, am_iv x3), (4, am_iv x4), (5, am_iv x5)], [], am_SH, (J, K, am_RF b)) (some (am_iv r), am_SH, (J, K, am_RF b)) := by
  cases b
  · exact s_UpRiver_lead_f h
  · exact s_UpRiver_lead_t h
theorem s_UpRiver_near_L44_f {X : am_X} {J : am_J} {K : am_K}  : ∀ (n : Nat) (x1 : Int) (x2 : Int) (x3 : Int) (x4 : Int) (x5 : Int) (x6 : Int) (x7 : Int) (r : Int), f_UpRiver_near_L44 false J  n x1 x2 x3 x4 x5 x6 x7 = some r → am_runs X T_UpRiver_near (44, [(0, am_pv 0), (1, am_iv x1), (2, am_iv x2), (3, am_iv x3), (4, am_iv x4), (5, am_iv x5), (6, am_iv x6), (7, am_iv x7)], [], am_SH, (J, K, am_RF false)) (some (am_iv r), am_SH, (J, K, am_RF false)) := by
  intro n
  induction n with
  | zero =>
    intro x1 x2 x3 x4 x5 x6 x7 r h
    cases h
  | succ n ih =>
    intro x1 x2 x3 x4 x5 x6 x7 r h
    rw [f_UpRiver_near_L44.eq_2] at h
    obtain ⟨g1101, h⟩ := am_if_some h
    by_cases c1102 : x7 < 0
    · rw [if_pos c1102] at h
      refine am_r_t (show am_stepn X T_UpRiver_near 2 true (44, [(0, am_pv 0), (1, am_iv x1), (2, am_iv x2), (3, am_iv x3), (4, am_iv x4), (5, am_iv x5), (6, am_iv x6), (7, am_iv x7)], [], am_SH, (J, K, am_RF false)) = some ((decide (am_i32 x7) && true), .inl (bif am_cb .lt x7 0 then 85 else 49, [(0, am_pv 0), (1, am_iv x1), (2, am_iv x2), (3, am_iv x3), (4, am_iv x4), (5, am_iv x5), (6, am_iv x6), (7, am_iv x7)], [], am_SH, (J, K, am_RF false))) from rfl) (am_g1 g1101 rfl) (decide_eq_true c1102) ?_
      obtain rfl := Option.some.inj h
      exact am_r_ret (show am_stepn X T_UpRiver_near 2 true (85, [(0, am_pv 0), (1, am_iv x1), (2, am_iv x2), (3, am_iv x3), (4, am_iv x4), (5, am_iv x5), (6, am_iv x6), (7, am_iv x7)], [], am_SH, (J, K, am_RF false)) = some (true, .inr (.inr (some (am_iv x6), am_SH, (J, K, am_RF false)))) from rfl) rfl
    · rw [if_neg c1102] at h
      refine am_r_f (show am_stepn X T_UpRiver_near 2 true (44, [(0, am_pv 0), (1, am_iv x1), (2, am_iv x2), (3, am_iv x3), (4, am_iv x4), (5, am_iv x5), (6, am_iv x6), (7, am_iv x7)], [], am_SH, (J, K, am_RF false)) = some ((decide (am_i32 x7) && true), .inl (bif am_cb .lt x7 0 then 85 else 49, [(0, am_pv 0), (1, am_iv x1), (2, am_iv x2), (3, am_iv x3), (4, am_iv x4), (5, am_iv x5), (6, am_iv x6), (7, am_iv x7)], [], am_SH, (J, K, am_RF false))) from rfl) (am_g1 g1101 rfl) (decide_eq_false c1102) ?_
      obtain ⟨q1103, e1104, h⟩ := am_bind_some h
      refine am_r_call (show am_stepn X T_UpRiver_near 6 true (49, [(0, am_pv 0), (1, am_iv x1), (2, am_iv x2), (3, am_iv x3), (4, am_iv x4), (5, am_iv x5), (6, am_iv x6), (7, am_iv x7)], [], am_SH, (J, K, am_RF false)) = some (true, .inr (.inl (116, [am_pv 0, am_iv x7, am_iv x1, am_iv x2, am_iv x3], 6, 0, 0, 58, [(0, am_pv 0), (1, am_iv x1), (2, am_iv x2), (3, am_iv x3), (4, am_iv x4), (5, am_iv x5), (6, am_iv x6), (7, am_iv x7)], [], am_SH, (J, K, am_RF false)))) from rfl) rfl tb_UpRiver_shallowChances (s_UpRiver_shallowChances e1104) ?_
      obtain ⟨g1105, h⟩ := am_if_some h
      obtain ⟨g1106, h⟩ := am_if_some h
      by_cases c1107 : (x4 * ((x1 + x2) + x3)) < (q1103 * x5)
      · rw [if_pos c1107] at h
        refine am_r_f (show am_stepn X T_UpRiver_near 10 true (58, [(0, am_pv 0), (1, am_iv x1), (2, am_iv x2), (3, am_iv x3), (4, am_iv x4), (5, am_iv x5), (6, am_iv x6), (7, am_iv x7)], [am_iv q1103], am_SH, (J, K, am_RF false)) = some (((decide (am_i32 (x4 * ((x1 + x2) + x3))) && decide (am_i32 (q1103 * x5))) && true), .inl (bif am_cb .le (q1103 * x5) (x4 * ((x1 + x2) + x3)) then 75 else 72, [(0, am_pv 0), (1, am_iv x1), (2, am_iv x2), (3, am_iv x3), (4, am_iv x4), (5, am_iv x5), (6, am_iv x6), (7, am_iv x7)], [], am_SH, (J, K, am_RF false))) from rfl) (am_g2 g1105 g1106 rfl) (am_nd_t c1107) ?_
        obtain rfl := Option.some.inj h
        exact am_r_ret (show am_stepn X T_UpRiver_near 3 true (72, [(0, am_pv 0), (1, am_iv x1), (2, am_iv x2), (3, am_iv x3), (4, am_iv x4), (5, am_iv x5), (6, am_iv x6), (7, am_iv x7)], [], am_SH, (J, K, am_RF false)) = some (true, .inr (.inr (some (am_iv x6), am_SH, (J, K, am_RF false)))) from rfl) rfl
      · rw [if_neg c1107] at h
        refine am_r_t (show am_stepn X T_UpRiver_near 10 true (58, [(0, am_pv 0), (1, am_iv x1), (2, am_iv x2), (3, am_iv x3), (4, am_iv x4), (5, am_iv x5), (6, am_iv x6), (7, am_iv x7)], [am_iv q1103], am_SH, (J, K, am_RF false)) = some (((decide (am_i32 (x4 * ((x1 + x2) + x3))) && decide (am_i32 (q1103 * x5))) && true), .inl (bif am_cb .le (q1103 * x5) (x4 * ((x1 + x2) + x3)) then 75 else 72, [(0, am_pv 0), (1, am_iv x1), (2, am_iv x2), (3, am_iv x3), (4, am_iv x4), (5, am_iv x5), (6, am_iv x6), (7, am_iv x7)], [], am_SH, (J, K, am_RF false))) from rfl) (am_g2 g1105 g1106 rfl) (am_nd_f c1107) ?_
        refine am_r_go (show am_stepn X T_UpRiver_near 4 true (75, [(0, am_pv 0), (1, am_iv x1), (2, am_iv x2), (3, am_iv x3), (4, am_iv x4), (5, am_iv x5), (6, am_iv x6), (7, am_iv x7)], [], am_SH, (J, K, am_RF false)) = some (true, .inl (44, [(0, am_pv 0), (1, am_iv x1), (2, am_iv x2), (3, am_iv x3), (4, am_iv x4), (5, am_iv x5), (6, am_iv x7), (7, am_iv (x7 + (-1)))], [], am_SH, (J, K, am_RF false))) from rfl) rfl ?_
        exact ih _ _ _ _ _ _ _ _ h
theorem s_UpRiver_near_f {X : am_X} {J : am_J} {K : am_K} {x1 : Int} {x2 : Int} {x3 : Int} {x4 : Int} {x5 : Int} {r : Int} (h : f_UpRiver_near false J x1 x2 x3 x4 x5 = some r) : am_runs X T_UpRiver_near (0, [(0, am_pv 0), (1, am_iv x1), (2, am_iv x2), (3, am_iv x3), (4, am_iv x4), (5, am_iv x5)], [], am_SH, (J, K, am_RF false)) (some (am_iv r), am_SH, (J, K, am_RF false)) := by
  unfold f_UpRiver_near at h
  obtain ⟨q1108, e1109, h⟩ := am_bind_some h
  refine am_r_call (show am_stepn X T_UpRiver_near 4 true (0, [(0, am_pv 0), (1, am_iv x1), (2, am_iv x2), (3, am_iv x3), (4, am_iv x4), (5, am_iv x5)], [], am_SH, (J, K, am_RF false)) = some (true, .inr (.inl (115, [am_iv x1, am_iv x2, am_iv x3], 3, 0, 0, 6, [(0, am_pv 0), (1, am_iv x1), (2, am_iv x2), (3, am_iv x3), (4, am_iv x4), (5, am_iv x5)], [], am_SH, (J, K, am_RF false)))) from rfl) rfl tb_UpRiver_areChances (s_UpRiver_areChances e1109) ?_
  obtain ⟨g1110, h⟩ := am_if_some h
  by_cases c1111 : q1108 = 0
  · rw [if_pos c1111] at h
    refine am_r_t (show am_stepn X T_UpRiver_near 1 true (6, [(0, am_pv 0), (1, am_iv x1), (2, am_iv x2), (3, am_iv x3), (4, am_iv x4), (5, am_iv x5)], [am_iv q1108], am_SH, (J, K, am_RF false)) = some ((decide (am_i32 q1108) && true), .inl (bif am_cb .eq q1108 0 then 34 else 9, [(0, am_pv 0), (1, am_iv x1), (2, am_iv x2), (3, am_iv x3), (4, am_iv x4), (5, am_iv x5)], [], am_SH, (J, K, am_RF false))) from rfl) (am_g1 g1110 rfl) (decide_eq_true c1111) ?_
    obtain rfl := Option.some.inj h
    exact am_r_ret (show am_stepn X T_UpRiver_near 2 true (34, [(0, am_pv 0), (1, am_iv x1), (2, am_iv x2), (3, am_iv x3), (4, am_iv x4), (5, am_iv x5)], [], am_SH, (J, K, am_RF false)) = some (true, .inr (.inr (some (am_iv (-1)), am_SH, (J, K, am_RF false)))) from rfl) rfl
  · rw [if_neg c1111] at h
    refine am_r_f (show am_stepn X T_UpRiver_near 1 true (6, [(0, am_pv 0), (1, am_iv x1), (2, am_iv x2), (3, am_iv x3), (4, am_iv x4), (5, am_iv x5)], [am_iv q1108], am_SH, (J, K, am_RF false)) = some ((decide (am_i32 q1108) && true), .inl (bif am_cb .eq q1108 0 then 34 else 9, [(0, am_pv 0), (1, am_iv x1), (2, am_iv x2), (3, am_iv x3), (4, am_iv x4), (5, am_iv x5)], [], am_SH, (J, K, am_RF false))) from rfl) (am_g1 g1110 rfl) (decide_eq_false c1111) ?_
    obtain ⟨g1112, h⟩ := am_if_some h
    by_cases c1113 : x4 < 0
    · rw [if_pos c1113] at h
      refine am_r_t (show am_stepn X T_UpRiver_near 2 true (9, [(0, am_pv 0), (1, am_iv x1), (2, am_iv x2), (3, am_iv x3), (4, am_iv x4), (5, am_iv x5)], [], am_SH, (J, K, am_RF false)) = some ((decide (am_i32 x4) && true), .inl (bif am_cb .lt x4 0 then 34 else 14, [(0, am_pv 0), (1, am_iv x1), (2, am_iv x2), (3, am_iv x3), (4, am_iv x4), (5, am_iv x5)], [], am_SH, (J, K, am_RF false))) from rfl) (am_g1 g1112 rfl) (decide_eq_true c1113) ?_
      obtain rfl := Option.some.inj h
      exact am_r_ret (show am_stepn X T_UpRiver_near 2 true (34, [(0, am_pv 0), (1, am_iv x1), (2, am_iv x2), (3, am_iv x3), (4, am_iv x4), (5, am_iv x5)], [], am_SH, (J, K, am_RF false)) = some (true, .inr (.inr (some (am_iv (-1)), am_SH, (J, K, am_RF false)))) from rfl) rfl
    · rw [if_neg c1113] at h
      refine am_r_f (show am_stepn X T_UpRiver_near 2 true (9, [(0, am_pv 0), (1, am_iv x1), (2, am_iv x2), (3, am_iv x3), (4, am_iv x4), (5, am_iv x5)], [], am_SH, (J, K, am_RF false)) = some ((decide (am_i32 x4) && true), .inl (bif am_cb .lt x4 0 then 34 else 14, [(0, am_pv 0), (1, am_iv x1), (2, am_iv x2), (3, am_iv x3), (4, am_iv x4), (5, am_iv x5)], [], am_SH, (J, K, am_RF false))) from rfl) (am_g1 g1112 rfl) (decide_eq_false c1113) ?_
      by_cases c1114 : 99 < x4
      · rw [if_pos c1114] at h
        refine am_r_t (show am_stepn X T_UpRiver_near 3 true (14, [(0, am_pv 0), (1, am_iv x1), (2, am_iv x2), (3, am_iv x3), (4, am_iv x4), (5, am_iv x5)], [], am_SH, (J, K, am_RF false)) = some (((decide (am_i32 99) && decide (am_i32 x4)) && true), .inl (bif am_cb .gt x4 99 then 34 else 21, [(0, am_pv 0), (1, am_iv x1), (2, am_iv x2), (3, am_iv x3), (4, am_iv x4), (5, am_iv x5)], [], am_SH, (J, K, am_RF false))) from rfl) (am_g2 (by decide) g1112 rfl) (decide_eq_true c1114) ?_
        obtain rfl := Option.some.inj h
        exact am_r_ret (show am_stepn X T_UpRiver_near 2 true (34, [(0, am_pv 0), (1, am_iv x1), (2, am_iv x2), (3, am_iv x3), (4, am_iv x4), (5, am_iv x5)], [], am_SH, (J, K, am_RF false)) = some (true, .inr (.inr (some (am_iv (-1)), am_SH, (J, K, am_RF false)))) from rfl) rfl
      · rw [if_neg c1114] at h
        refine am_r_f (show am_stepn X T_UpRiver_near 3 true (14, [(0, am_pv 0), (1, am_iv x1), (2, am_iv x2), (3, am_iv x3), (4, am_iv x4), (5, am_iv x5)], [], am_SH, (J, K, am_RF false)) = some (((decide (am_i32 99) && decide (am_i32 x4)) && true), .inl (bif am_cb .gt x4 99 then 34 else 21, [(0, am_pv 0), (1, am_iv x1), (2, am_iv x2), (3, am_iv x3), (4, am_iv x4), (5, am_iv x5)], [], am_SH, (J, K, am_RF false))) from rfl) (am_g2 (by decide) g1112 rfl) (decide_eq_false c1114) ?_
        obtain ⟨g1115, h⟩ := am_if_some h
        by_cases c1116 : x5 < 1
        · rw [if_pos c1116] at h
          refine am_r_t (show am_stepn X T_UpRiver_near 3 true (21, [(0, am_pv 0), (1, am_iv x1), (2, am_iv x2), (3, am_iv x3), (4, am_iv x4), (5, am_iv x5)], [], am_SH, (J, K, am_RF false)) = some (((decide (am_i32 1) && decide (am_i32 x5)) && true), .inl (bif am_cb .lt x5 1 then 34 else 27, [(0, am_pv 0), (1, am_iv x1), (2, am_iv x2), (3, am_iv x3), (4, am_iv x4), (5, am_iv x5)], [], am_SH, (J, K, am_RF false))) from rfl) (am_g2 (by decide) g1115 rfl) (decide_eq_true c1116) ?_
          obtain rfl := Option.some.inj h
          exact am_r_ret (show am_stepn X T_UpRiver_near 2 true (34, [(0, am_pv 0), (1, am_iv x1), (2, am_iv x2), (3, am_iv x3), (4, am_iv x4), (5, am_iv x5)], [], am_SH, (J, K, am_RF false)) = some (true, .inr (.inr (some (am_iv (-1)), am_SH, (J, K, am_RF false)))) from rfl) rfl
        · rw [if_neg c1116] at h
          refine am_r_f (show am_stepn X T_UpRiver_near 3 true (21, [(0, am_pv 0), (1, am_iv x1), (2, am_iv x2), (3, am_iv x3), (4, am_iv x4), (5, am_iv x5)], [], am_SH, (J, K, am_RF false)) = some (((decide (am_i32 1) && decide (am_i32 x5)) && true), .inl (bif am_cb .lt x5 1 then 34 else 27, [(0, am_pv 0), (1, am_iv x1), (2, am_iv x2), (3, am_iv x3), (4, am_iv x4), (5, am_iv x5)], [], am_SH, (J, K, am_RF false))) from rfl) (am_g2 (by decide) g1115 rfl) (decide_eq_false c1116) ?_
          by_cases c1117 : 99 < x5
          · rw [if_pos c1117] at h
            refine am_r_f (show am_stepn X T_UpRiver_near 3 true (27, [(0, am_pv 0), (1, am_iv x1), (2, am_iv x2), (3, am_iv x3), (4, am_iv x4), (5, am_iv x5)], [], am_SH, (J, K, am_RF false)) = some (((decide (am_i32 99) && decide (am_i32 x5)) && true), .inl (bif am_cb .le x5 99 then 36 else 34, [(0, am_pv 0), (1, am_iv x1), (2, am_iv x2), (3, am_iv x3), (4, am_iv x4), (5, am_iv x5)], [], am_SH, (J, K, am_RF false))) from rfl) (am_g2 (by decide) g1115 rfl) (am_nd_t c1117) ?_
            obtain rfl := Option.some.inj h
            exact am_r_ret (show am_stepn X T_UpRiver_near 2 true (34, [(0, am_pv 0), (1, am_iv x1), (2, am_iv x2), (3, am_iv x3), (4, am_iv x4), (5, am_iv x5)], [], am_SH, (J, K, am_RF false)) = some (true, .inr (.inr (some (am_iv (-1)), am_SH, (J, K, am_RF false)))) from rfl) rfl
          · rw [if_neg c1117] at h
            refine am_r_t (show am_stepn X T_UpRiver_near 3 true (27, [(0, am_pv 0), (1, am_iv x1), (2, am_iv x2), (3, am_iv x3), (4, am_iv x4), (5, am_iv x5)], [], am_SH, (J, K, am_RF false)) = some (((decide (am_i32 99) && decide (am_i32 x5)) && true), .inl (bif am_cb .le x5 99 then 36 else 34, [(0, am_pv 0), (1, am_iv x1), (2, am_iv x2), (3, am_iv x3), (4, am_iv x4), (5, am_iv x5)], [], am_SH, (J, K, am_RF false))) from rfl) (am_g2 (by decide) g1115 rfl) (am_nd_f c1117) ?_
            refine am_r_go (show am_stepn X T_UpRiver_near 4 true (36, [(0, am_pv 0), (1, am_iv x1), (2, am_iv x2), (3, am_iv x3), (4, am_iv x4), (5, am_iv x5)], [], am_SH, (J, K, am_RF false)) = some (true, .inl (44, [(0, am_pv 0), (1, am_iv x1), (2, am_iv x2), (3, am_iv x3), (4, am_iv x4), (5, am_iv x5), (6, am_iv (-4)), (7, am_iv 30)], [], am_SH, (J, K, am_RF false))) from rfl) rfl ?_
            exact s_UpRiver_near_L44_f  _ _ _ _ _ _ _ _ _ h
theorem s_UpRiver_near_L44_t {X : am_X} {J : am_J} {K : am_K}  : ∀ (n : Nat) (x1 : Int) (x2 : Int) (x3 : Int) (x4 : Int) (x5 : Int) (x6 : Int) (x7 : Int) (r : Int), f_UpRiver_near_L44 true J  n x1 x2 x3 x4 x5 x6 x7 = some r → am_runs X T_UpRiver_near (44, [(0, am_pv 0), (1, am_iv x1), (2, am_iv x2), (3, am_iv x3), (4, am_iv x4), (5, am_iv x5), (6, am_iv x6), (7, am_iv x7)], [], am_SH, (J, K, am_RF true)) (some (am_iv r), am_SH, (J, K, am_RF true)) := by
  intro n
  induction n with
  | zero =>
    intro x1 x2 x3 x4 x5 x6 x7 r h
    cases h
  | succ n ih =>
    intro x1 x2 x3 x4 x5 x6 x7 r h
    rw [f_UpRiver_near_L44.eq_2] at h
    obtain ⟨g1101, h⟩ := am_if_some h
    by_cases c1102 : x7 < 0
    · rw [if_pos c1102] at h
      refine am_r_t (show am_stepn X T_UpRiver_near 2 true (44, [(0, am_pv 0), (1, am_iv x1), (2, am_iv x2), (3, am_iv x3), (4, am_iv x4), (5, am_iv x5), (6, am_iv x6), (7, am_iv x7)], [], am_SH, (J, K, am_RF true)) = some ((decide (am_i32 x7) && true), .inl (bif am_cb .lt x7 0 then 85 else 49, [(0, am_pv 0), (1, am_iv x1), (2, am_iv x2), (3, am_iv x3), (4, am_iv x4), (5, am_iv x5), (6, am_iv x6), (7, am_iv x7)], [], am_SH, (J, K, am_RF true))) from rfl) (am_g1 g1101 rfl) (decide_eq_true c1102) ?_
      obtain rfl := Option.some.inj h
      exact am_r_ret (show am_stepn X T_UpRiver_near 2 true (85, [(0, am_pv 0), (1, am_iv x1), (2, am_iv x2), (3, am_iv x3), (4, am_iv x4), (5, am_iv x5), (6, am_iv x6), (7, am_iv x7)], [], am_SH, (J, K, am_RF true)) = some (true, .inr (.inr (some (am_iv x6), am_SH, (J, K, am_RF true)))) from rfl) rfl
    · rw [if_neg c1102] at h
      refine am_r_f (show am_stepn X T_UpRiver_near 2 true (44, [(0, am_pv 0), (1, am_iv x1), (2, am_iv x2), (3, am_iv x3), (4, am_iv x4), (5, am_iv x5), (6, am_iv x6), (7, am_iv x7)], [], am_SH, (J, K, am_RF true)) = some ((decide (am_i32 x7) && true), .inl (bif am_cb .lt x7 0 then 85 else 49, [(0, am_pv 0), (1, am_iv x1), (2, am_iv x2), (3, am_iv x3), (4, am_iv x4), (5, am_iv x5), (6, am_iv x6), (7, am_iv x7)], [], am_SH, (J, K, am_RF true))) from rfl) (am_g1 g1101 rfl) (decide_eq_false c1102) ?_
      obtain ⟨q1103, e1104, h⟩ := am_bind_some h
      refine am_r_call (show am_stepn X T_UpRiver_near 6 true (49, [(0, am_pv 0), (1, am_iv x1), (2, am_iv x2), (3, am_iv x3), (4, am_iv x4), (5, am_iv x5), (6, am_iv x6), (7, am_iv x7)], [], am_SH, (J, K, am_RF true)) = some (true, .inr (.inl (116, [am_pv 0, am_iv x7, am_iv x1, am_iv x2, am_iv x3], 6, 0, 0, 58, [(0, am_pv 0), (1, am_iv x1), (2, am_iv x2), (3, am_iv x3), (4, am_iv x4), (5, am_iv x5), (6, am_iv x6), (7, am_iv x7)], [], am_SH, (J, K, am_RF true)))) from rfl) rfl tb_UpRiver_shallowChances (s_UpRiver_shallowChances e1104) ?_
      obtain ⟨g1105, h⟩ := am_if_some h
      obtain ⟨g1106, h⟩ := am_if_some h
      by_cases c1107 : (x4 * ((x1 + x2) + x3)) < (q1103 * x5)
      · rw [if_pos c1107] at h
        refine am_r_f (show am_stepn X T_UpRiver_near 10 true (58, [(0, am_pv 0), (1, am_iv x1), (2, am_iv x2), (3, am_iv x3), (4, am_iv x4), (5, am_iv x5), (6, am_iv x6), (7, am_iv x7)], [am_iv q1103], am_SH, (J, K, am_RF true)) = some (((decide (am_i32 (x4 * ((x1 + x2) + x3))) && decide (am_i32 (q1103 * x5))) && true), .inl (bif am_cb .le (q1103 * x5) (x4 * ((x1 + x2) + x3)) then 75 else 72, [(0, am_pv 0), (1, am_iv x1), (2, am_iv x2), (3, am_iv x3), (4, am_iv x4), (5, am_iv x5), (6, am_iv x6), (7, am_iv x7)], [], am_SH, (J, K, am_RF true))) from rfl) (am_g2 g1105 g1106 rfl) (am_nd_t c1107) ?_
        obtain rfl := Option.some.inj h
        exact am_r_ret (show am_stepn X T_UpRiver_near 3 true (72, [(0, am_pv 0), (1, am_iv x1), (2, am_iv x2), (3, am_iv x3), (4, am_iv x4), (5, am_iv x5), (6, am_iv x6), (7, am_iv x7)], [], am_SH, (J, K, am_RF true)) = some (true, .inr (.inr (some (am_iv x6), am_SH, (J, K, am_RF true)))) from rfl) rfl
      · rw [if_neg c1107] at h
        refine am_r_t (show am_stepn X T_UpRiver_near 10 true (58, [(0, am_pv 0), (1, am_iv x1), (2, am_iv x2), (3, am_iv x3), (4, am_iv x4), (5, am_iv x5), (6, am_iv x6), (7, am_iv x7)], [am_iv q1103], am_SH, (J, K, am_RF true)) = some (((decide (am_i32 (x4 * ((x1 + x2) + x3))) && decide (am_i32 (q1103 * x5))) && true), .inl (bif am_cb .le (q1103 * x5) (x4 * ((x1 + x2) + x3)) then 75 else 72, [(0, am_pv 0), (1, am_iv x1), (2, am_iv x2), (3, am_iv x3), (4, am_iv x4), (5, am_iv x5), (6, am_iv x6), (7, am_iv x7)], [], am_SH, (J, K, am_RF true))) from rfl) (am_g2 g1105 g1106 rfl) (am_nd_f c1107) ?_
        refine am_r_go (show am_stepn X T_UpRiver_near 4 true (75, [(0, am_pv 0), (1, am_iv x1), (2, am_iv x2), (3, am_iv x3), (4, am_iv x4), (5, am_iv x5), (6, am_iv x6), (7, am_iv x7)], [], am_SH, (J, K, am_RF true)) = some (true, .inl (44, [(0, am_pv 0), (1, am_iv x1), (2, am_iv x2), (3, am_iv x3), (4, am_iv x4), (5, am_iv x5), (6, am_iv x7), (7, am_iv (x7 + (-1)))], [], am_SH, (J, K, am_RF true))) from rfl) rfl ?_
        exact ih _ _ _ _ _ _ _ _ h
theorem s_UpRiver_near_t {X : am_X} {J : am_J} {K : am_K} {x1 : Int} {x2 : Int} {x3 : Int} {x4 : Int} {x5 : Int} {r : Int} (h : f_UpRiver_near true J x1 x2 x3 x4 x5 = some r) : am_runs X T_UpRiver_near (0, [(0, am_pv 0), (1, am_iv x1), (2, am_iv x2), (3, am_iv x3), (4, am_iv x4), (5, am_iv x5)], [], am_SH, (J, K, am_RF true)) (some (am_iv r), am_SH, (J, K, am_RF true)) := by
  unfold f_UpRiver_near at h
  obtain ⟨q1108, e1109, h⟩ := am_bind_some h
  refine am_r_call (show am_stepn X T_UpRiver_near 4 true (0, [(0, am_pv 0), (1, am_iv x1), (2, am_iv x2), (3, am_iv x3), (4, am_iv x4), (5, am_iv x5)], [], am_SH, (J, K, am_RF true)) = some (true, .inr (.inl (115, [am_iv x1, am_iv x2, am_iv x3], 3, 0, 0, 6, [(0, am_pv 0), (1, am_iv x1), (2, am_iv x2), (3, am_iv x3), (4, am_iv x4), (5, am_iv x5)], [], am_SH, (J, K, am_RF true)))) from rfl) rfl tb_UpRiver_areChances (s_UpRiver_areChances e1109) ?_
  obtain ⟨g1110, h⟩ := am_if_some h
  by_cases c1111 : q1108 = 0
  · rw [if_pos c1111] at h
    refine am_r_t (show am_stepn X T_UpRiver_near 1 true (6, [(0, am_pv 0), (1, am_iv x1), (2, am_iv x2), (3, am_iv x3), (4, am_iv x4), (5, am_iv x5)], [am_iv q1108], am_SH, (J, K, am_RF true)) = some ((decide (am_i32 q1108) && true), .inl (bif am_cb .eq q1108 0 then 34 else 9, [(0, am_pv 0), (1, am_iv x1), (2, am_iv x2), (3, am_iv x3), (4, am_iv x4), (5, am_iv x5)], [], am_SH, (J, K, am_RF true))) from rfl) (am_g1 g1110 rfl) (decide_eq_true c1111) ?_
    obtain rfl := Option.some.inj h
    exact am_r_ret (show am_stepn X T_UpRiver_near 2 true (34, [(0, am_pv 0), (1, am_iv x1), (2, am_iv x2), (3, am_iv x3), (4, am_iv x4), (5, am_iv x5)], [], am_SH, (J, K, am_RF true)) = some (true, .inr (.inr (some (am_iv (-1)), am_SH, (J, K, am_RF true)))) from rfl) rfl
  · rw [if_neg c1111] at h
    refine am_r_f (show am_stepn X T_UpRiver_near 1 true (6, [(0, am_pv 0), (1, am_iv x1), (2, am_iv x2), (3, am_iv x3), (4, am_iv x4), (5, am_iv x5)], [am_iv q1108], am_SH, (J, K, am_RF true)) = some ((decide (am_i32 q1108) && true), .inl (bif am_cb .eq q1108 0 then 34 else 9, [(0, am_pv 0), (1, am_iv x1), (2, am_iv x2), (3, am_iv x3), (4, am_iv x4), (5, am_iv x5)], [], am_SH, (J, K, am_RF true))) from rfl) (am_g1 g1110 rfl) (decide_eq_false c1111) ?_
    obtain ⟨g1112, h⟩ := am_if_some h
    by_cases c1113 : x4 < 0
    · rw [if_pos c1113] at h
      refine am_r_t (show am_stepn X T_UpRiver_near 2 true (9, [(0, am_pv 0), (1, am_iv x1), (2, am_iv x2), (3, am_iv x3), (4, am_iv x4), (5, am_iv x5)], [], am_SH, (J, K, am_RF true)) = some ((decide (am_i32 x4) && true), .inl (bif am_cb .lt x4 0 then 34 else 14, [(0, am_pv 0), (1, am_iv x1), (2, am_iv x2), (3, am_iv x3), (4, am_iv x4), (5, am_iv x5)], [], am_SH, (J, K, am_RF true))) from rfl) (am_g1 g1112 rfl) (decide_eq_true c1113) ?_
      obtain rfl := Option.some.inj h
      exact am_r_ret (show am_stepn X T_UpRiver_near 2 true (34, [(0, am_pv 0), (1, am_iv x1), (2, am_iv x2), (3, am_iv x3), (4, am_iv x4), (5, am_iv x5)], [], am_SH, (J, K, am_RF true)) = some (true, .inr (.inr (some (am_iv (-1)), am_SH, (J, K, am_RF true)))) from rfl) rfl
    · rw [if_neg c1113] at h
      refine am_r_f (show am_stepn X T_UpRiver_near 2 true (9, [(0, am_pv 0), (1, am_iv x1), (2, am_iv x2), (3, am_iv x3), (4, am_iv x4), (5, am_iv x5)], [], am_SH, (J, K, am_RF true)) = some ((decide (am_i32 x4) && true), .inl (bif am_cb .lt x4 0 then 34 else 14, [(0, am_pv 0), (1, am_iv x1), (2, am_iv x2), (3, am_iv x3), (4, am_iv x4), (5, am_iv x5)], [], am_SH, (J, K, am_RF true))) from rfl) (am_g1 g1112 rfl) (decide_eq_false c1113) ?_
      by_cases c1114 : 99 < x4
      · rw [if_pos c1114] at h
        refine am_r_t (show am_stepn X T_UpRiver_near 3 true (14, [(0, am_pv 0), (1, am_iv x1), (2, am_iv x2), (3, am_iv x3), (4, am_iv x4), (5, am_iv x5)], [], am_SH, (J, K, am_RF true)) = some (((decide (am_i32 99) && decide (am_i32 x4)) && true), .inl (bif am_cb .gt x4 99 then 34 else 21, [(0, am_pv 0), (1, am_iv x1), (2, am_iv x2), (3, am_iv x3), (4, am_iv x4), (5, am_iv x5)], [], am_SH, (J, K, am_RF true))) from rfl) (am_g2 (by decide) g1112 rfl) (decide_eq_true c1114) ?_
        obtain rfl := Option.some.inj h
        exact am_r_ret (show am_stepn X T_UpRiver_near 2 true (34, [(0, am_pv 0), (1, am_iv x1), (2, am_iv x2), (3, am_iv x3), (4, am_iv x4), (5, am_iv x5)], [], am_SH, (J, K, am_RF true)) = some (true, .inr (.inr (some (am_iv (-1)), am_SH, (J, K, am_RF true)))) from rfl) rfl
      · rw [if_neg c1114] at h
        refine am_r_f (show am_stepn X T_UpRiver_near 3 true (14, [(0, am_pv 0), (1, am_iv x1), (2, am_iv x2), (3, am_iv x3), (4, am_iv x4), (5, am_iv x5)], [], am_SH, (J, K, am_RF true)) = some (((decide (am_i32 99) && decide (am_i32 x4)) && true), .inl (bif am_cb .gt x4 99 then 34 else 21, [(0, am_pv 0), (1, am_iv x1), (2, am_iv x2), (3, am_iv x3), (4, am_iv x4), (5, am_iv x5)], [], am_SH, (J, K, am_RF true))) from rfl) (am_g2 (by decide) g1112 rfl) (decide_eq_false c1114) ?_
        obtain ⟨g1115, h⟩ := am_if_some h
        by_cases c1116 : x5 < 1
        · rw [if_pos c1116] at h
          refine am_r_t (show am_stepn X T_UpRiver_near 3 true (21, [(0, am_pv 0), (1, am_iv x1), (2, am_iv x2), (3, am_iv x3), (4, am_iv x4), (5, am_iv x5)], [], am_SH, (J, K, am_RF true)) = some (((decide (am_i32 1) && decide (am_i32 x5)) && true), .inl (bif am_cb .lt x5 1 then 34 else 27, [(0, am_pv 0), (1, am_iv x1), (2, am_iv x2), (3, am_iv x3), (4, am_iv x4), (5, am_iv x5)], [], am_SH, (J, K, am_RF true))) from rfl) (am_g2 (by decide) g1115 rfl) (decide_eq_true c1116) ?_
          obtain rfl := Option.some.inj h
          exact am_r_ret (show am_stepn X T_UpRiver_near 2 true (34, [(0, am_pv 0), (1, am_iv x1), (2, am_iv x2), (3, am_iv x3), (4, am_iv x4), (5, am_iv x5)], [], am_SH, (J, K, am_RF true)) = some (true, .inr (.inr (some (am_iv (-1)), am_SH, (J, K, am_RF true)))) from rfl) rfl
        · rw [if_neg c1116] at h
          refine am_r_f (show am_stepn X T_UpRiver_near 3 true (21, [(0, am_pv 0), (1, am_iv x1), (2, am_iv x2), (3, am_iv x3), (4, am_iv x4), (5, am_iv x5)], [], am_SH, (J, K, am_RF true)) = some (((decide (am_i32 1) && decide (am_i32 x5)) && true), .inl (bif am_cb .lt x5 1 then 34 else 27, [(0, am_pv 0), (1, am_iv x1), (2, am_iv x2), (3, am_iv x3), (4, am_iv x4), (5, am_iv x5)], [], am_SH, (J, K, am_RF true))) from rfl) (am_g2 (by decide) g1115 rfl) (decide_eq_false c1116) ?_
          by_cases c1117 : 99 < x5
          · rw [if_pos c1117] at h
            refine am_r_f (show am_stepn X T_UpRiver_near 3 true (27, [(0, am_pv 0), (1, am_iv x1), (2, am_iv x2), (3, am_iv x3), (4, am_iv x4), (5, am_iv x5)], [], am_SH, (J, K, am_RF true)) = some (((decide (am_i32 99) && decide (am_i32 x5)) && true), .inl (bif am_cb .le x5 99 then 36 else 34, [(0, am_pv 0), (1, am_iv x1), (2, am_iv x2), (3, am_iv x3), (4, am_iv x4), (5, am_iv x5)], [], am_SH, (J, K, am_RF true))) from rfl) (am_g2 (by decide) g1115 rfl) (am_nd_t c1117) ?_
            obtain rfl := Option.some.inj h
            exact am_r_ret (show am_stepn X T_UpRiver_near 2 true (34, [(0, am_pv 0), (1, am_iv x1), (2, am_iv x2), (3, am_iv x3), (4, am_iv x4), (5, am_iv x5)], [], am_SH, (J, K, am_RF true)) = some (true, .inr (.inr (some (am_iv (-1)), am_SH, (J, K, am_RF true)))) from rfl) rfl
          · rw [if_neg c1117] at h
            refine am_r_t (show am_stepn X T_UpRiver_near 3 true (27, [(0, am_pv 0), (1, am_iv x1), (2, am_iv x2), (3, am_iv x3), (4, am_iv x4), (5, am_iv x5)], [], am_SH, (J, K, am_RF true)) = some (((decide (am_i32 99) && decide (am_i32 x5)) && true), .inl (bif am_cb .le x5 99 then 36 else 34, [(0, am_pv 0), (1, am_iv x1), (2, am_iv x2), (3, am_iv x3), (4, am_iv x4), (5, am_iv x5)], [], am_SH, (J, K, am_RF true))) from rfl) (am_g2 (by decide) g1115 rfl) (am_nd_f c1117) ?_
            refine am_r_go (show am_stepn X T_UpRiver_near 4 true (36, [(0, am_pv 0), (1, am_iv x1), (2, am_iv x2), (3, am_iv x3), (4, am_iv x4), (5, am_iv x5)], [], am_SH, (J, K, am_RF true)) = some (true, .inl (44, [(0, am_pv 0), (1, am_iv x1), (2, am_iv x2), (3, am_iv x3), (4, am_iv x4), (5, am_iv x5), (6, am_iv (-4)), (7, am_iv 30)], [], am_SH, (J, K, am_RF true))) from rfl) rfl ?_
            exact s_UpRiver_near_L44_t  _ _ _ _ _ _ _ _ _ h
theorem s_UpRiver_near {X : am_X} {b : Bool} {J : am_J} {K : am_K} {x1 : Int} {x2 : Int} {x3 : Int} {x4 : Int} {x5 : Int} {r : Int} (h : f_UpRiver_near b J x1 x2 x3 x4 x5 = some r) : am_runs X T_UpRiver_near (0, [(0, am_pv 0), (1, am_iv x1), (2, am_iv x2), (3, am_iv x3), (4, am_iv x4), (5, am_iv x5)], [], am_SH, (J, K, am_RF b)) (some (am_iv r), am_SH, (J, K, am_RF b)) := by
  cases b
  · exact s_UpRiver_near_f h
  · exact s_UpRiver_near_t h
theorem s_Log_add_L57 {X : am_X} {b : Bool} {K : am_K}  : ∀ (x1 : Int) (x2 : Int) (J : am_J) (r : Int × am_J), f_Log_add_L57    x1 x2 J = some r → am_runs X T_Log_add (57, [(0, am_pv 19), (1, am_iv x1), (2, am_iv x2)], [], am_SH, (J, K, am_RF b)) (some (am_iv r.1), am_SH, (r.2, K, am_RF b)) := by
  intro x1 x2 J r h
  unfold f_Log_add_L57 at h
  obtain ⟨g1118, h⟩ := am_if_some h
  by_cases c1119 : (J 19 2) < 12
  · rw [if_pos c1119] at h
    refine am_r_t (show am_stepn X T_Log_add 4 true (57, [(0, am_pv 19), (1, am_iv x1), (2, am_iv x2)], [], am_SH, (J, K, am_RF b)) = some (((decide (am_i32 12) && decide (am_i32 (J 19 2))) && true), .inl (bif am_cb .lt (J 19 2) 12 then 69 else 66, [(0, am_pv 19), (1, am_iv x1), (2, am_iv x2)], [], am_SH, (J, K, am_RF b))) from rfl) (am_g2 (by decide) g1118 rfl) (decide_eq_true c1119) ?_
    obtain ⟨g1120, h⟩ := am_if_some h
    obtain rfl := Option.some.inj h
    exact am_r_ret (show am_stepn X T_Log_add 21 true (69, [(0, am_pv 19), (1, am_iv x1), (2, am_iv x2)], [], am_SH, (J, K, am_RF b)) = some ((am_in (J 19 2) 12 && (am_in (J 19 2) 12 && true)), .inr (.inr (some (am_iv ((J 19 2) + 1)), am_SH, ((am_up (am_up (am_up J 20 ((J 19 2).toNat) x1) 21 ((J 19 2).toNat) x2) 19 2 ((J 19 2) + 1)), K, am_RF b)))) from rfl) (am_gi g1120 (am_gi g1120 rfl))
  · rw [if_neg c1119] at h
    refine am_r_f (show am_stepn X T_Log_add 4 true (57, [(0, am_pv 19), (1, am_iv x1), (2, am_iv x2)], [], am_SH, (J, K, am_RF b)) = some (((decide (am_i32 12) && decide (am_i32 (J 19 2))) && true), .inl (bif am_cb .lt (J 19 2) 12 then 69 else 66, [(0, am_pv 19), (1, am_iv x1), (2, am_iv x2)], [], am_SH, (J, K, am_RF b))) from rfl) (am_g2 (by decide) g1118 rfl) (decide_eq_false c1119) ?_
    obtain rfl := Option.some.inj h
    exact am_r_ret (show am_stepn X T_Log_add 2 true (66, [(0, am_pv 19), (1, am_iv x1), (2, am_iv x2)], [], am_SH, (J, K, am_RF b)) = some (true, .inr (.inr (some (am_iv (-3)), am_SH, (J, K, am_RF b)))) from rfl) rfl
theorem s_Log_add {X : am_X} {b : Bool} {K : am_K} {x1 : Int} {x2 : Int} {x3 : Int} {J : am_J} {r : Int × am_J} (h : f_Log_add  x1 x2 x3 J = some r) : am_runs X T_Log_add (0, [(0, am_pv 19), (1, am_iv x1), (2, am_iv x2), (3, am_iv x3)], [], am_SH, (J, K, am_RF b)) (some (am_iv r.1), am_SH, (r.2, K, am_RF b)) := by
  unfold f_Log_add at h
  obtain ⟨g1121, h⟩ := am_if_some h
  by_cases c1122 : x1 < 0
  · rw [if_pos c1122] at h
    refine am_r_t (show am_stepn X T_Log_add 2 true (0, [(0, am_pv 19), (1, am_iv x1), (2, am_iv x2), (3, am_iv x3)], [], am_SH, (J, K, am_RF b)) = some ((decide (am_i32 x1) && true), .inl (bif am_cb .lt x1 0 then 16 else 4, [(0, am_pv 19), (1, am_iv x1), (2, am_iv x2), (3, am_iv x3)], [], am_SH, (J, K, am_RF b))) from rfl) (am_g1 g1121 rfl) (decide_eq_true c1122) ?_
    obtain rfl := Option.some.inj h
    exact am_r_ret (show am_stepn X T_Log_add 2 true (16, [(0, am_pv 19), (1, am_iv x1), (2, am_iv x2), (3, am_iv x3)], [], am_SH, (J, K, am_RF b)) = some (true, .inr (.inr (some (am_iv (-1)), am_SH, (J, K, am_RF b)))) from rfl) rfl
  · rw [if_neg c1122] at h
    refine am_r_f (show am_stepn X T_Log_add 2 true (0, [(0, am_pv 19), (1, am_iv x1), (2, am_iv x2), (3, am_iv x3)], [], am_SH, (J, K, am_RF b)) = some ((decide (am_i32 x1) && true), .inl (bif am_cb .lt x1 0 then 16 else 4, [(0, am_pv 19), (1, am_iv x1), (2, am_iv x2), (3, am_iv x3)], [], am_SH, (J, K, am_RF b))) from rfl) (am_g1 g1121 rfl) (decide_eq_false c1122) ?_
    obtain ⟨g1123, h⟩ := am_if_some h
    by_cases c1124 : x3 < x1
    · rw [if_pos c1124] at h
      refine am_r_t (show am_stepn X T_Log_add 3 true (4, [(0, am_pv 19), (1, am_iv x1), (2, am_iv x2), (3, am_iv x3)], [], am_SH, (J, K, am_RF b)) = some (((decide (am_i32 x3) && decide (am_i32 x1)) && true), .inl (bif am_cb .gt x1 x3 then 16 else 9, [(0, am_pv 19), (1, am_iv x1), (2, am_iv x2), (3, am_iv x3)], [], am_SH, (J, K, am_RF b))) from rfl) (am_g2 g1123 g1121 rfl) (decide_eq_true c1124) ?_
      obtain rfl := Option.some.inj h
      exact am_r_ret (show am_stepn X T_Log_add 2 true (16, [(0, am_pv 19), (1, am_iv x1), (2, am_iv x2), (3, am_iv x3)], [], am_SH, (J, K, am_RF b)) = some (true, .inr (.inr (some (am_iv (-1)), am_SH, (J, K, am_RF b)))) from rfl) rfl
    · rw [if_neg c1124] at h
      refine am_r_f (show am_stepn X T_Log_add 3 true (4, [(0, am_pv 19), (1, am_iv x1), (2, am_iv x2), (3, am_iv x3)], [], am_SH, (J, K, am_RF b)) = some (((decide (am_i32 x3) && decide (am_i32 x1)) && true), .inl (bif am_cb .gt x1 x3 then 16 else 9, [(0, am_pv 19), (1, am_iv x1), (2, am_iv x2), (3, am_iv x3)], [], am_SH, (J, K, am_RF b))) from rfl) (am_g2 g1123 g1121 rfl) (decide_eq_false c1124) ?_
      obtain ⟨q1125, e1126, h⟩ := am_bind_some h
      refine am_r_call (show am_stepn X T_Log_add 2 true (9, [(0, am_pv 19), (1, am_iv x1), (2, am_iv x2), (3, am_iv x3)], [], am_SH, (J, K, am_RF b)) = some (true, .inr (.inl (60, [am_iv x2], 1, 0, 0, 13, [(0, am_pv 19), (1, am_iv x1), (2, am_iv x2)], [], am_SH, (J, K, am_RF b)))) from rfl) rfl tb_UpRiver_isMinute (s_UpRiver_isMinute e1126) ?_
      obtain ⟨g1127, h⟩ := am_if_some h
      by_cases c1128 : q1125 = 0
      · rw [if_pos c1128] at h
        refine am_r_f (show am_stepn X T_Log_add 1 true (13, [(0, am_pv 19), (1, am_iv x1), (2, am_iv x2)], [am_iv q1125], am_SH, (J, K, am_RF b)) = some ((decide (am_i32 q1125) && true), .inl (bif am_cb .ne q1125 0 then 18 else 16, [(0, am_pv 19), (1, am_iv x1), (2, am_iv x2)], [], am_SH, (J, K, am_RF b))) from rfl) (am_g1 g1127 rfl) (am_nd_t c1128) ?_
        obtain rfl := Option.some.inj h
        exact am_r_ret (show am_stepn X T_Log_add 2 true (16, [(0, am_pv 19), (1, am_iv x1), (2, am_iv x2)], [], am_SH, (J, K, am_RF b)) = some (true, .inr (.inr (some (am_iv (-1)), am_SH, (J, K, am_RF b)))) from rfl) rfl
      · rw [if_neg c1128] at h
        refine am_r_t (show am_stepn X T_Log_add 1 true (13, [(0, am_pv 19), (1, am_iv x1), (2, am_iv x2)], [am_iv q1125], am_SH, (J, K, am_RF b)) = some ((decide (am_i32 q1125) && true), .inl (bif am_cb .ne q1125 0 then 18 else 16, [(0, am_pv 19), (1, am_iv x1), (2, am_iv x2)], [], am_SH, (J, K, am_RF b))) from rfl) (am_g1 g1127 rfl) (am_nd_f c1128) ?_
        obtain ⟨g1129, h⟩ := am_if_some h
        by_cases c1130 : 0 < (J 19 2)
        · rw [if_pos c1130] at h
          refine am_r_f (show am_stepn X T_Log_add 3 true (18, [(0, am_pv 19), (1, am_iv x1), (2, am_iv x2)], [], am_SH, (J, K, am_RF b)) = some ((decide (am_i32 (J 19 2)) && true), .inl (bif am_cb .le (J 19 2) 0 then 57 else 25, [(0, am_pv 19), (1, am_iv x1), (2, am_iv x2)], [], am_SH, (J, K, am_RF b))) from rfl) (am_g1 g1129 rfl) (am_nd_t c1130) ?_
          obtain ⟨g1131, h⟩ := am_if_some h
          obtain ⟨g1132, h⟩ := am_if_some h
          by_cases c1133 : (J 20 (((J 19 2) - 1).toNat)) < x1
          · rw [if_pos c1133] at h
            refine am_r_f (show am_stepn X T_Log_add 9 true (25, [(0, am_pv 19), (1, am_iv x1), (2, am_iv x2)], [], am_SH, (J, K, am_RF b)) = some (((decide (am_i32 (J 20 (((J 19 2) - 1).toNat))) && decide (am_i32 x1)) && (am_in ((J 19 2) - 1) 12 && true)), .inl (bif am_cb .le x1 (J 20 (((J 19 2) - 1).toNat)) then 55 else 40, [(0, am_pv 19), (1, am_iv x1), (2, am_iv x2)], [], am_SH, (J, K, am_RF b))) from rfl) (am_g2 g1132 g1121 (am_gi g1131 rfl)) (am_nd_t c1133) ?_
            obtain ⟨g1134, h⟩ := am_if_some h
            obtain ⟨g1135, h⟩ := am_if_some h
            by_cases c1136 : (J 21 (((J 19 2) - 1).toNat)) < x2
            · rw [if_pos c1136] at h
              refine am_r_t (show am_stepn X T_Log_add 9 true (40, [(0, am_pv 19), (1, am_iv x1), (2, am_iv x2)], [], am_SH, (J, K, am_RF b)) = some (((decide (am_i32 (J 21 (((J 19 2) - 1).toNat))) && decide (am_i32 x2)) && (am_in ((J 19 2) - 1) 12 && true)), .inl (bif am_cb .gt x2 (J 21 (((J 19 2) - 1).toNat)) then 57 else 55, [(0, am_pv 19), (1, am_iv x1), (2, am_iv x2)], [], am_SH, (J, K, am_RF b))) from rfl) (am_g2 g1134 g1135 (am_gi g1131 rfl)) (decide_eq_true c1136) ?_
              exact s_Log_add_L57  _ _ _ _ h
            · rw [if_neg c1136] at h
              refine am_r_f (show am_stepn X T_Log_add 9 true (40, [(0, am_pv 19), (1, am_iv x1), (2, am_iv x2)], [], am_SH, (J, K, am_RF b)) = some (((decide (am_i32 (J 21 (((J 19 2) - 1).toNat))) && decide (am_i32 x2)) && (am_in ((J 19 2) - 1) 12 && true)), .inl (bif am_cb .gt x2 (J 21 (((J 19 2) - 1).toNat)) then 57 else 55, [(0, am_pv 19), (1, am_iv x1), (2, am_iv x2)], [], am_SH, (J, K, am_RF b))) from rfl) (am_g2 g1134 g1135 (am_gi g1131 rfl)) (decide_eq_false c1136) ?_
              obtain rfl := Option.some.inj h
              exact am_r_ret (show am_stepn X T_Log_add 2 true (55, [(0, am_pv 19), (1, am_iv x1), (2, am_iv x2)], [], am_SH, (J, K, am_RF b)) = some (true, .inr (.inr (some (am_iv (-1)), am_SH, (J, K, am_RF b)))) from rfl) rfl
          · rw [if_neg c1133] at h
            refine am_r_t (show am_stepn X T_Log_add 9 true (25, [(0, am_pv 19), (1, am_iv x1), (2, am_iv x2)], [], am_SH, (J, K, am_RF b)) = some (((decide (am_i32 (J 20 (((J 19 2) - 1).toNat))) && decide (am_i32 x1)) && (am_in ((J 19 2) - 1) 12 && true)), .inl (bif am_cb .le x1 (J 20 (((J 19 2) - 1).toNat)) then 55 else 40, [(0, am_pv 19), (1, am_iv x1), (2, am_iv x2)], [], am_SH, (J, K, am_RF b))) from rfl) (am_g2 g1132 g1121 (am_gi g1131 rfl)) (am_nd_f c1133) ?_
            obtain rfl := Option.some.inj h
            exact am_r_ret (show am_stepn X T_Log_add 2 true (55, [(0, am_pv 19), (1, am_iv x1), (2, am_iv x2)], [], am_SH, (J, K, am_RF b)) = some (true, .inr (.inr (some (am_iv (-1)), am_SH, (J, K, am_RF b)))) from rfl) rfl
        · rw [if_neg c1130] at h
          refine am_r_t (show am_stepn X T_Log_add 3 true (18, [(0, am_pv 19), (1, am_iv x1), (2, am_iv x2)], [], am_SH, (J, K, am_RF b)) = some ((decide (am_i32 (J 19 2)) && true), .inl (bif am_cb .le (J 19 2) 0 then 57 else 25, [(0, am_pv 19), (1, am_iv x1), (2, am_iv x2)], [], am_SH, (J, K, am_RF b))) from rfl) (am_g1 g1129 rfl) (am_nd_f c1130) ?_
          exact s_Log_add_L57  _ _ _ _ h
theorem s_UpRiver_logged_f {X : am_X} {K : am_K} {x1 : Int} {x2 : Int} {J : am_J} {r : Int × am_J} (h : f_UpRiver_logged false x1 x2 J = some r) : am_runs X T_UpRiver_logged (0, [(0, am_pv 0), (1, am_iv x1), (2, am_iv x2)], [], am_SH, (J, K, am_RF false)) (some (am_iv r.1), am_SH, (r.2, K, am_RF false)) := by
  unfold f_UpRiver_logged at h
  obtain ⟨q1137, e1138, h⟩ := am_bind_some h
  refine am_r_call (show am_stepn X T_UpRiver_logged 11 true (0, [(0, am_pv 0), (1, am_iv x1), (2, am_iv x2)], [], am_SH, (J, K, am_RF false)) = some ((am_in 0 7 && true), .inr (.inl (120, [am_pv 19, am_iv x1, am_iv x2, am_iv (J (am_rv false + 1) 0)], 4, 0, 0, 21, [(0, am_pv 0), (1, am_iv x1), (2, am_iv x2)], [], am_SH, (J, K, am_RF false)))) from rfl) (am_gi (by decide) rfl) tb_Log_add (s_Log_add e1138) ?_
  obtain rfl := Option.some.inj h
  exact am_r_ret (show am_stepn X T_UpRiver_logged 1 true (21, [(0, am_pv 0), (1, am_iv x1), (2, am_iv x2)], [am_iv q1137.1], am_SH, (q1137.2, K, am_RF false)) = some (true, .inr (.inr (some (am_iv q1137.1), am_SH, (q1137.2, K, am_RF false)))) from rfl) rfl
theorem s_UpRiver_logged_t {X : am_X} {K : am_K} {x1 : Int} {x2 : Int} {J : am_J} {r : Int × am_J} (h : f_UpRiver_logged true x1 x2 J = some r) : am_runs X T_UpRiver_logged (0, [(0, am_pv 0), (1, am_iv x1), (2, am_iv x2)], [], am_SH, (J, K, am_RF true)) (some (am_iv r.1), am_SH, (r.2, K, am_RF true)) := by
  unfold f_UpRiver_logged at h
  obtain ⟨q1137, e1138, h⟩ := am_bind_some h
  refine am_r_call (show am_stepn X T_UpRiver_logged 11 true (0, [(0, am_pv 0), (1, am_iv x1), (2, am_iv x2)], [], am_SH, (J, K, am_RF true)) = some ((am_in 0 7 && true), .inr (.inl (120, [am_pv 19, am_iv x1, am_iv x2, am_iv (J (am_rv true + 1) 0)], 4, 0, 0, 21, [(0, am_pv 0), (1, am_iv x1), (2, am_iv x2)], [], am_SH, (J, K, am_RF true)))) from rfl) (am_gi (by decide) rfl) tb_Log_add (s_Log_add e1138) ?_
  obtain rfl := Option.some.inj h
  exact am_r_ret (show am_stepn X T_UpRiver_logged 1 true (21, [(0, am_pv 0), (1, am_iv x1), (2, am_iv x2)], [am_iv q1137.1], am_SH, (q1137.2, K, am_RF true)) = some (true, .inr (.inr (some (am_iv q1137.1), am_SH, (q1137.2, K, am_RF true)))) from rfl) rfl
theorem s_UpRiver_logged {X : am_X} {b : Bool} {K : am_K} {x1 : Int} {x2 : Int} {J : am_J} {r : Int × am_J} (h : f_UpRiver_logged b x1 x2 J = some r) : am_runs X T_UpRiver_logged (0, [(0, am_pv 0), (1, am_iv x1), (2, am_iv x2)], [], am_SH, (J, K, am_RF b)) (some (am_iv r.1), am_SH, (r.2, K, am_RF b)) := by
  cases b
  · exact s_UpRiver_logged_f h
  · exact s_UpRiver_logged_t h
theorem s_UpRiver_stretchArrival_L56_f {X : am_X}  : ∀ (n : Nat) (x3 : Int) (x4 : Int) (x5 : Int) (J : am_J) (K : am_K) (r : Int × am_J × am_K), f_UpRiver_stretchArrival_L56 false  n x3 x4 x5 J K = some r → am_runs X T_UpRiver_stretchArrival (56, [(0, am_pv 0), (3, am_iv x3), (4, am_iv x4), (5, am_iv x5)], [], am_SH, (J, K, am_RF false)) (some (am_iv r.1), am_SH, (r.2.1, r.2.2, am_RF false)) := by
  intro n
  induction n with
  | zero =>
    intro x3 x4 x5 J K r h
    cases h
  | succ n ih =>
    intro x3 x4 x5 J K r h
    rw [f_UpRiver_stretchArrival_L56.eq_2] at h
    obtain ⟨g1139, h⟩ := am_if_some h
    by_cases c1140 : x5 < 9
    · rw [if_pos c1140] at h
      refine am_r_f (show am_stepn X T_UpRiver_stretchArrival 3 true (56, [(0, am_pv 0), (3, am_iv x3), (4, am_iv x4), (5, am_iv x5)], [], am_SH, (J, K, am_RF false)) = some (((decide (am_i32 9) && decide (am_i32 x5)) && true), .inl (bif am_cb .ge x5 9 then 130 else 63, [(0, am_pv 0), (3, am_iv x3), (4, am_iv x4), (5, am_iv x5)], [], am_SH, (J, K, am_RF false))) from rfl) (am_g2 (by decide) g1139 rfl) (am_nd_t c1140) ?_
      obtain ⟨q1141, e1142, h⟩ := am_bind_some h
      refine am_r_call (show am_stepn X T_UpRiver_stretchArrival 6 true (63, [(0, am_pv 0), (3, am_iv x3), (4, am_iv x4), (5, am_iv x5)], [], am_SH, (J, K, am_RF false)) = some (true, .inr (.inl (68, [am_pv (am_rv false), am_iv x3, am_iv x5, am_iv x4], 4, 0, 0, 75, [(0, am_pv 0), (3, am_iv x3), (4, am_iv x4), (5, am_iv x5)], [], am_SH, (J, K, am_RF false)))) from rfl) rfl tb_River_carries (s_River_carries (by decide) e1142) ?_
      obtain ⟨g1143, h⟩ := am_if_some h
      by_cases c1144 : q1141 = 0
      · rw [if_pos c1144] at h
        refine am_r_t (show am_stepn X T_UpRiver_stretchArrival 1 true (75, [(0, am_pv 0), (3, am_iv x3), (4, am_iv x4), (5, am_iv x5)], [am_iv q1141], am_SH, (J, K, am_RF false)) = some ((decide (am_i32 q1141) && true), .inl (bif am_cb .eq q1141 0 then 124 else 78, [(0, am_pv 0), (3, am_iv x3), (4, am_iv x4), (5, am_iv x5)], [], am_SH, (J, K, am_RF false))) from rfl) (am_g1 g1143 rfl) (decide_eq_true c1144) ?_
        refine am_r_go (show am_stepn X T_UpRiver_stretchArrival 2 true (124, [(0, am_pv 0), (3, am_iv x3), (4, am_iv x4), (5, am_iv x5)], [], am_SH, (J, K, am_RF false)) = some (true, .inl (56, [(0, am_pv 0), (3, am_iv x3), (4, am_iv x4), (5, am_iv (x5 + 1))], [], am_SH, (J, K, am_RF false))) from rfl) rfl ?_
        exact ih _ _ _ _ _ _ h
      · rw [if_neg c1144] at h
        refine am_r_f (show am_stepn X T_UpRiver_stretchArrival 1 true (75, [(0, am_pv 0), (3, am_iv x3), (4, am_iv x4), (5, am_iv x5)], [am_iv q1141], am_SH, (J, K, am_RF false)) = some ((decide (am_i32 q1141) && true), .inl (bif am_cb .eq q1141 0 then 124 else 78, [(0, am_pv 0), (3, am_iv x3), (4, am_iv x4), (5, am_iv x5)], [], am_SH, (J, K, am_RF false))) from rfl) (am_g1 g1143 rfl) (decide_eq_false c1144) ?_
        obtain ⟨q1145, e1146, h⟩ := am_bind_some h
        refine am_r_call (show am_stepn X T_UpRiver_stretchArrival 9 true (78, [(0, am_pv 0), (3, am_iv x3), (4, am_iv x4), (5, am_iv x5)], [], am_SH, (J, K, am_RF false)) = some (true, .inr (.inl (52, [am_pv 30, am_iv (x3 * 8), am_iv x5, am_iv 0, am_iv x4], 5, 0, 0, 94, [(0, am_pv 0), (3, am_iv x3), (4, am_iv x4), (5, am_iv x5)], [], am_SH, (J, K, am_RF false)))) from rfl) rfl tb_Boat_lieAt (s_Boat_lieAt (by decide) e1146) ?_
        obtain ⟨q1147, e1148, h⟩ := am_bind_some h
        refine am_r_call (show am_stepn X T_UpRiver_stretchArrival 5 true (94, [(0, am_pv 0), (3, am_iv x3), (4, am_iv x4), (5, am_iv x5)], [], am_SH, (q1145, K, am_RF false)) = some (true, .inr (.inl (86, [am_pv 26, am_pv 30], 2, 0, 0, 105, [(0, am_pv 0), (3, am_iv x3), (4, am_iv x4), (5, am_iv x5)], [], am_SH, (q1145, K, am_RF false)))) from rfl) rfl tb_Search_add (s_Search_add (by decide) e1148) ?_
        obtain ⟨q1149, e1150, h⟩ := am_bind_some h
        refine am_r_call (show am_stepn X T_UpRiver_stretchArrival 9 true (105, [(0, am_pv 0), (3, am_iv x3), (4, am_iv x4), (5, am_iv x5)], [], am_SH, (q1145, q1147, am_RF false)) = some (true, .inr (.inl (86, [am_pv 26, am_pv 30], 2, 0, 0, 124, [(0, am_pv 0), (3, am_iv x3), (4, am_iv x4), (5, am_iv x5)], [], am_SH, ((am_up q1145 30 2 1), q1147, am_RF false)))) from rfl) rfl tb_Search_add (s_Search_add (by decide) e1150) ?_
        refine am_r_go (show am_stepn X T_UpRiver_stretchArrival 2 true (124, [(0, am_pv 0), (3, am_iv x3), (4, am_iv x4), (5, am_iv x5)], [], am_SH, ((am_up q1145 30 2 1), q1149, am_RF false)) = some (true, .inl (56, [(0, am_pv 0), (3, am_iv x3), (4, am_iv x4), (5, am_iv (x5 + 1))], [], am_SH, ((am_up q1145 30 2 1), q1149, am_RF false))) from rfl) rfl ?_
        exact ih _ _ _ _ _ _ h
    · rw [if_neg c1140] at h
      refine am_r_t (show am_stepn X T_UpRiver_stretchArrival 3 true (56, [(0, am_pv 0), (3, am_iv x3), (4, am_iv x4), (5, am_iv x5)], [], am_SH, (J, K, am_RF false)) = some (((decide (am_i32 9) && decide (am_i32 x5)) && true), .inl (bif am_cb .ge x5 9 then 130 else 63, [(0, am_pv 0), (3, am_iv x3), (4, am_iv x4), (5, am_iv x5)], [], am_SH, (J, K, am_RF false))) from rfl) (am_g2 (by decide) g1139 rfl) (am_nd_f c1140) ?_
      obtain ⟨q1151, e1152, h⟩ := am_bind_some h
      refine am_r_call (show am_stepn X T_UpRiver_stretchArrival 7 true (130, [(0, am_pv 0), (3, am_iv x3), (4, am_iv x4), (5, am_iv x5)], [], am_SH, (J, K, am_RF false)) = some (true, .inr (.inl (89, [am_pv 26, am_pv (am_rv false), am_iv x4, am_iv 300], 6, 0, 0, 146, [(0, am_pv 0), (4, am_iv x4)], [], am_SH, (J, K, am_RF false)))) from rfl) rfl tb_Search_arrive (s_Search_arrive (by decide) e1152) ?_
      obtain rfl := Option.some.inj h
      exact am_r_ret (show am_stepn X T_UpRiver_stretchArrival 1 true (146, [(0, am_pv 0), (4, am_iv x4)], [am_iv q1151.1], am_SH, (q1151.2.1, q1151.2.2, am_RF false)) = some (true, .inr (.inr (some (am_iv q1151.1), am_SH, (q1151.2.1, q1151.2.2, am_RF false)))) from rfl) rfl
theorem s_UpRiver_stretchArrival_f {X : am_X} {x1 : Int} {J : am_J} {K : am_K} {r : Int × am_J × am_K} (h : f_UpRiver_stretchArrival false x1 J K = some r) : am_runs X T_UpRiver_stretchArrival (0, [(0, am_pv 0), (1, am_iv x1)], [], am_SH, (J, K, am_RF false)) (some (am_iv r.1), am_SH, (r.2.1, r.2.2, am_RF false)) := by
  unfold f_UpRiver_stretchArrival at h
  obtain ⟨g1153, h⟩ := am_if_some h
  obtain ⟨q1154, e1155, h⟩ := am_bind_some h
  refine am_r_call (show am_stepn X T_UpRiver_stretchArrival 20 true (0, [(0, am_pv 0), (1, am_iv x1)], [], am_SH, (J, K, am_RF false)) = some ((am_in x1 12 && (am_in x1 12 && true)), .inr (.inl (83, [am_pv 26, am_pv (am_rv false), am_iv 0], 4, 0, 0, 35, [(0, am_pv 0), (1, am_iv x1), (2, am_pv 19), (3, am_iv (J 20 x1.toNat)), (4, am_iv (J 21 x1.toNat))], [], am_SH, (J, K, am_RF false)))) from rfl) (am_gi g1153 (am_gi g1153 rfl)) tb_Search_begin (s_Search_begin (by decide) e1155) ?_
  obtain ⟨g1156, h⟩ := am_if_some h
  refine am_r_go (show am_stepn X T_UpRiver_stretchArrival 13 true (35, [(0, am_pv 0), (1, am_iv x1), (2, am_pv 19), (3, am_iv (J 20 x1.toNat)), (4, am_iv (J 21 x1.toNat))], [], am_SH, (q1154.1, q1154.2, am_RF false)) = some ((am_in (x1 + 1) 12 && true), .inl (56, [(0, am_pv 0), (1, am_iv x1), (2, am_pv 19), (3, am_iv (J 20 x1.toNat)), (4, am_iv (J 21 x1.toNat)), (5, am_iv 0)], [], am_SH, ((am_up q1154.1 26 5 ((q1154.1 20 ((x1 + 1).toNat)) * 8)), q1154.2, am_RF false))) from rfl) (am_gi g1156 rfl) ?_
  refine am_r_eq (σ' := (56, [(0, am_pv 0), (3, am_iv (J 20 x1.toNat)), (4, am_iv (J 21 x1.toNat)), (5, am_iv 0)], [], am_SH, ((am_up q1154.1 26 5 ((q1154.1 20 ((x1 + 1).toNat)) * 8)), q1154.2, am_RF false))) rfl ?_
  exact s_UpRiver_stretchArrival_L56_f  _ _ _ _ _ _ _ h
theorem s_UpRiver_stretchArrival_L56_t {X : am_X}  : ∀ (n : Nat) (x3 : Int) (x4 : Int) (x5 : Int) (J : am_J) (K : am_K) (r : Int × am_J × am_K), f_UpRiver_stretchArrival_L56 true  n x3 x4 x5 J K = some r → am_runs X T_UpRiver_stretchArrival (56, [(0, am_pv 0), (3, am_iv x3), (4, am_iv x4), (5, am_iv x5)], [], am_SH, (J, K, am_RF true)) (some (am_iv r.1), am_SH, (r.2.1, r.2.2, am_RF true)) := by
  intro n
  induction n with
  | zero =>
    intro x3 x4 x5 J K r h
    cases h
  | succ n ih =>
    intro x3 x4 x5 J K r h
    rw [f_UpRiver_stretchArrival_L56.eq_2] at h
    obtain ⟨g1139, h⟩ := am_if_some h
    by_cases c1140 : x5 < 9
    · rw [if_pos c1140] at h
      refine am_r_f (show am_stepn X T_UpRiver_stretchArrival 3 true (56, [(0, am_pv 0), (3, am_iv x3), (4, am_iv x4), (5, am_iv x5)], [], am_SH, (J, K, am_RF true)) = some (((decide (am_i32 9) && decide (am_i32 x5)) && true), .inl (bif am_cb .ge x5 9 then 130 else 63, [(0, am_pv 0), (3, am_iv x3), (4, am_iv x4), (5, am_iv x5)], [], am_SH, (J, K, am_RF true))) from rfl) (am_g2 (by decide) g1139 rfl) (am_nd_t c1140) ?_
      obtain ⟨q1141, e1142, h⟩ := am_bind_some h
      refine am_r_call (show am_stepn X T_UpRiver_stretchArrival 6 true (63, [(0, am_pv 0), (3, am_iv x3), (4, am_iv x4), (5, am_iv x5)], [], am_SH, (J, K, am_RF true)) = some (true, .inr (.inl (68, [am_pv (am_rv true), am_iv x3, am_iv x5, am_iv x4], 4, 0, 0, 75, [(0, am_pv 0), (3, am_iv x3), (4, am_iv x4), (5, am_iv x5)], [], am_SH, (J, K, am_RF true)))) from rfl) rfl tb_River_carries (s_River_carries (by decide) e1142) ?_
      obtain ⟨g1143, h⟩ := am_if_some h
      by_cases c1144 : q1141 = 0
      · rw [if_pos c1144] at h
        refine am_r_t (show am_stepn X T_UpRiver_stretchArrival 1 true (75, [(0, am_pv 0), (3, am_iv x3), (4, am_iv x4), (5, am_iv x5)], [am_iv q1141], am_SH, (J, K, am_RF true)) = some ((decide (am_i32 q1141) && true), .inl (bif am_cb .eq q1141 0 then 124 else 78, [(0, am_pv 0), (3, am_iv x3), (4, am_iv x4), (5, am_iv x5)], [], am_SH, (J, K, am_RF true))) from rfl) (am_g1 g1143 rfl) (decide_eq_true c1144) ?_
        refine am_r_go (show am_stepn X T_UpRiver_stretchArrival 2 true (124, [(0, am_pv 0), (3, am_iv x3), (4, am_iv x4), (5, am_iv x5)], [], am_SH, (J, K, am_RF true)) = some (true, .inl (56, [(0, am_pv 0), (3, am_iv x3), (4, am_iv x4), (5, am_iv (x5 + 1))], [], am_SH, (J, K, am_RF true))) from rfl) rfl ?_
        exact ih _ _ _ _ _ _ h
      · rw [if_neg c1144] at h
        refine am_r_f (show am_stepn X T_UpRiver_stretchArrival 1 true (75, [(0, am_pv 0), (3, am_iv x3), (4, am_iv x4), (5, am_iv x5)], [am_iv q1141], am_SH, (J, K, am_RF true)) = some ((decide (am_i32 q1141) && true), .inl (bif am_cb .eq q1141 0 then 124 else 78, [(0, am_pv 0), (3, am_iv x3), (4, am_iv x4), (5, am_iv x5)], [], am_SH, (J, K, am_RF true))) from rfl) (am_g1 g1143 rfl) (decide_eq_false c1144) ?_
        obtain ⟨q1145, e1146, h⟩ := am_bind_some h
        refine am_r_call (show am_stepn X T_UpRiver_stretchArrival 9 true (78, [(0, am_pv 0), (3, am_iv x3), (4, am_iv x4), (5, am_iv x5)], [], am_SH, (J, K, am_RF true)) = some (true, .inr (.inl (52, [am_pv 30, am_iv (x3 * 8), am_iv x5, am_iv 0, am_iv x4], 5, 0, 0, 94, [(0, am_pv 0), (3, am_iv x3), (4, am_iv x4), (5, am_iv x5)], [], am_SH, (J, K, am_RF true)))) from rfl) rfl tb_Boat_lieAt (s_Boat_lieAt (by decide) e1146) ?_
        obtain ⟨q1147, e1148, h⟩ := am_bind_some h
        refine am_r_call (show am_stepn X T_UpRiver_stretchArrival 5 true (94, [(0, am_pv 0), (3, am_iv x3), (4, am_iv x4), (5, am_iv x5)], [], am_SH, (q1145, K, am_RF true)) = some (true, .inr (.inl (86, [am_pv 26, am_pv 30], 2, 0, 0, 105, [(0, am_pv 0), (3, am_iv x3), (4, am_iv x4), (5, am_iv x5)], [], am_SH, (q1145, K, am_RF true)))) from rfl) rfl tb_Search_add (s_Search_add (by decide) e1148) ?_
        obtain ⟨q1149, e1150, h⟩ := am_bind_some h
        refine am_r_call (show am_stepn X T_UpRiver_stretchArrival 9 true (105, [(0, am_pv 0), (3, am_iv x3), (4, am_iv x4), (5, am_iv x5)], [], am_SH, (q1145, q1147, am_RF true)) = some (true, .inr (.inl (86, [am_pv 26, am_pv 30], 2, 0, 0, 124, [(0, am_pv 0), (3, am_iv x3), (4, am_iv x4), (5, am_iv x5)], [], am_SH, ((am_up q1145 30 2 1), q1147, am_RF true)))) from rfl) rfl tb_Search_add (s_Search_add (by decide) e1150) ?_
        refine am_r_go (show am_stepn X T_UpRiver_stretchArrival 2 true (124, [(0, am_pv 0), (3, am_iv x3), (4, am_iv x4), (5, am_iv x5)], [], am_SH, ((am_up q1145 30 2 1), q1149, am_RF true)) = some (true, .inl (56, [(0, am_pv 0), (3, am_iv x3), (4, am_iv x4), (5, am_iv (x5 + 1))], [], am_SH, ((am_up q1145 30 2 1), q1149, am_RF true))) from rfl) rfl ?_
        exact ih _ _ _ _ _ _ h
    · rw [if_neg c1140] at h
      refine am_r_t (show am_stepn X T_UpRiver_stretchArrival 3 true (56, [(0, am_pv 0), (3, am_iv x3), (4, am_iv x4), (5, am_iv x5)], [], am_SH, (J, K, am_RF true)) = some (((decide (am_i32 9) && decide (am_i32 x5)) && true), .inl (bif am_cb .ge x5 9 then 130 else 63, [(0, am_pv 0), (3, am_iv x3), (4, am_iv x4), (5, am_iv x5)], [], am_SH, (J, K, am_RF true))) from rfl) (am_g2 (by decide) g1139 rfl) (am_nd_f c1140) ?_
      obtain ⟨q1151, e1152, h⟩ := am_bind_some h
      refine am_r_call (show am_stepn X T_UpRiver_stretchArrival 7 true (130, [(0, am_pv 0), (3, am_iv x3), (4, am_iv x4), (5, am_iv x5)], [], am_SH, (J, K, am_RF true)) = some (true, .inr (.inl (89, [am_pv 26, am_pv (am_rv true), am_iv x4, am_iv 300], 6, 0, 0, 146, [(0, am_pv 0), (4, am_iv x4)], [], am_SH, (J, K, am_RF true)))) from rfl) rfl tb_Search_arrive (s_Search_arrive (by decide) e1152) ?_
      obtain rfl := Option.some.inj h
      exact am_r_ret (show am_stepn X T_UpRiver_stretchArrival 1 true (146, [(0, am_pv 0), (4, am_iv x4)], [am_iv q1151.1], am_SH, (q1151.2.1, q1151.2.2, am_RF true)) = some (true, .inr (.inr (some (am_iv q1151.1), am_SH, (q1151.2.1, q1151.2.2, am_RF true)))) from rfl) rfl
theorem s_UpRiver_stretchArrival_t {X : am_X} {x1 : Int} {J : am_J} {K : am_K} {r : Int × am_J × am_K} (h : f_UpRiver_stretchArrival true x1 J K = some r) : am_runs X T_UpRiver_stretchArrival (0, [(0, am_pv 0), (1, am_iv x1)], [], am_SH, (J, K, am_RF true)) (some (am_iv r.1), am_SH, (r.2.1, r.2.2, am_RF true)) := by
  unfold f_UpRiver_stretchArrival at h
  obtain ⟨g1153, h⟩ := am_if_some h
  obtain ⟨q1154, e1155, h⟩ := am_bind_some h
  refine am_r_call (show am_stepn X T_UpRiver_stretchArrival 20 true (0, [(0, am_pv 0), (1, am_iv x1)], [], am_SH, (J, K, am_RF true)) = some ((am_in x1 12 && (am_in x1 12 && true)), .inr (.inl (83, [am_pv 26, am_pv (am_rv true), am_iv 0], 4, 0, 0, 35, [(0, am_pv 0), (1, am_iv x1), (2, am_pv 19), (3, am_iv (J 20 x1.toNat)), (4, am_iv (J 21 x1.toNat))], [], am_SH, (J, K, am_RF true)))) from rfl) (am_gi g1153 (am_gi g1153 rfl)) tb_Search_begin (s_Search_begin (by decide) e1155) ?_
  obtain ⟨g1156, h⟩ := am_if_some h
  refine am_r_go (show am_stepn X T_UpRiver_stretchArrival 13 true (35, [(0, am_pv 0), (1, am_iv x1), (2, am_pv 19), (3, am_iv (J 20 x1.toNat)), (4, am_iv (J 21 x1.toNat))], [], am_SH, (q1154.1, q1154.2, am_RF true)) = some ((am_in (x1 + 1) 12 && true), .inl (56, [(0, am_pv 0), (1, am_iv x1), (2, am_pv 19), (3, am_iv (J 20 x1.toNat)), (4, am_iv (J 21 x1.toNat)), (5, am_iv 0)], [], am_SH, ((am_up q1154.1 26 5 ((q1154.1 20 ((x1 + 1).toNat)) * 8)), q1154.2, am_RF true))) from rfl) (am_gi g1156 rfl) ?_
  refine am_r_eq (σ' := (56, [(0, am_pv 0), (3, am_iv (J 20 x1.toNat)), (4, am_iv (J 21 x1.toNat)), (5, am_iv 0)], [], am_SH, ((am_up q1154.1 26 5 ((q1154.1 20 ((x1 + 1).toNat)) * 8)), q1154.2, am_RF true))) rfl ?_
  exact s_UpRiver_stretchArrival_L56_t  _ _ _ _ _ _ _ h
theorem s_UpRiver_stretchArrival {X : am_X} {b : Bool} {x1 : Int} {J : am_J} {K : am_K} {r : Int × am_J × am_K} (h : f_UpRiver_stretchArrival b x1 J K = some r) : am_runs X T_UpRiver_stretchArrival (0, [(0, am_pv 0), (1, am_iv x1)], [], am_SH, (J, K, am_RF b)) (some (am_iv r.1), am_SH, (r.2.1, r.2.2, am_RF b)) := by
  cases b
  · exact s_UpRiver_stretchArrival_f h
  · exact s_UpRiver_stretchArrival_t h
theorem s_UpRiver_lost_L22_f {X : am_X}  : ∀ (n : Nat) (x1 : Int) (x2 : Int) (x3 : Int) (x4 : Int) (J : am_J) (K : am_K) (r : Int × am_J × am_K), f_UpRiver_lost_L22 false  n x1 x2 x3 x4 J K = some r → am_runs X T_UpRiver_lost (22, [(0, am_pv 0), (1, am_iv x1), (2, am_iv x2), (3, am_iv x3), (4, am_iv x4)], [], am_SH, (J, K, am_RF false)) (some (am_iv r.1), am_SH, (r.2.1, r.2.2, am_RF false)) := by
  intro n
  induction n with
  | zero =>
    intro x1 x2 x3 x4 J K r h
    cases h
  | succ n ih =>
    intro x1 x2 x3 x4 J K r h
    rw [f_UpRiver_lost_L22.eq_2] at h
    obtain ⟨g1157, h⟩ := am_if_some h
    obtain ⟨g1158, h⟩ := am_if_some h
    by_cases c1159 : (x4 + 1) < (J 19 2)
    · rw [if_pos c1159] at h
      refine am_r_f (show am_stepn X T_UpRiver_lost 8 true (22, [(0, am_pv 0), (1, am_iv x1), (2, am_iv x2), (3, am_iv x3), (4, am_iv x4)], [], am_SH, (J, K, am_RF false)) = some (((decide (am_i32 (J 19 2)) && decide (am_i32 (x4 + 1))) && true), .inl (bif am_cb .ge (x4 + 1) (J 19 2) then 102 else 39, [(0, am_pv 0), (1, am_iv x1), (2, am_iv x2), (3, am_iv x3), (4, am_iv x4)], [], am_SH, (J, K, am_RF false))) from rfl) (am_g2 g1157 g1158 rfl) (am_nd_t c1159) ?_
      obtain ⟨q1160, e1161, h⟩ := am_bind_some h
      refine am_r_call (show am_stepn X T_UpRiver_lost 3 true (39, [(0, am_pv 0), (1, am_iv x1), (2, am_iv x2), (3, am_iv x3), (4, am_iv x4)], [], am_SH, (J, K, am_RF false)) = some (true, .inr (.inl (122, [am_pv 0, am_iv x4], 6, 0, 0, 45, [(0, am_pv 0), (1, am_iv x1), (2, am_iv x2), (3, am_iv x3), (4, am_iv x4)], [], am_SH, (J, K, am_RF false)))) from rfl) rfl tb_UpRiver_stretchArrival (s_UpRiver_stretchArrival e1161) ?_
      obtain ⟨g1162, h⟩ := am_if_some h
      by_cases c1163 : q1160.1 = (-4)
      · rw [if_pos c1163] at h
        refine am_r_f (show am_stepn X T_UpRiver_lost 4 true (45, [(0, am_pv 0), (1, am_iv x1), (2, am_iv x2), (3, am_iv x3), (4, am_iv x4)], [am_iv q1160.1], am_SH, (q1160.2.1, q1160.2.2, am_RF false)) = some (((decide (am_i32 (-4)) && decide (am_i32 q1160.1)) && true), .inl (bif am_cb .ne q1160.1 (-4) then 57 else 54, [(0, am_pv 0), (1, am_iv x1), (2, am_iv x2), (3, am_iv x3), (4, am_iv x4), (5, am_iv q1160.1)], [], am_SH, (q1160.2.1, q1160.2.2, am_RF false))) from rfl) (am_g2 (by decide) g1162 rfl) (am_nd_t c1163) ?_
        refine am_r_go (show am_stepn X T_UpRiver_lost 3 true (54, [(0, am_pv 0), (1, am_iv x1), (2, am_iv x2), (3, am_iv x3), (4, am_iv x4), (5, am_iv q1160.1)], [], am_SH, (q1160.2.1, q1160.2.2, am_RF false)) = some (true, .inl (22, [(0, am_pv 0), (1, am_iv x1), (2, am_iv x2), (3, am_iv x3), (4, am_iv (x4 + 1))], [], am_SH, (q1160.2.1, q1160.2.2, am_RF false))) from rfl) rfl ?_
        exact ih _ _ _ _ _ _ _ h
      · rw [if_neg c1163] at h
        refine am_r_t (show am_stepn X T_UpRiver_lost 4 true (45, [(0, am_pv 0), (1, am_iv x1), (2, am_iv x2), (3, am_iv x3), (4, am_iv x4)], [am_iv q1160.1], am_SH, (q1160.2.1, q1160.2.2, am_RF false)) = some (((decide (am_i32 (-4)) && decide (am_i32 q1160.1)) && true), .inl (bif am_cb .ne q1160.1 (-4) then 57 else 54, [(0, am_pv 0), (1, am_iv x1), (2, am_iv x2), (3, am_iv x3), (4, am_iv x4), (5, am_iv q1160.1)], [], am_SH, (q1160.2.1, q1160.2.2, am_RF false))) from rfl) (am_g2 (by decide) g1162 rfl) (am_nd_f c1163) ?_
        obtain ⟨g1164, h⟩ := am_if_some h
        obtain ⟨g1165, h⟩ := am_if_some h
        by_cases c1166 : x3 = (-1001)
        · rw [if_pos c1166] at h
          refine am_r_t (show am_stepn X T_UpRiver_lost 14 true (57, [(0, am_pv 0), (1, am_iv x1), (2, am_iv x2), (3, am_iv x3), (4, am_iv x4), (5, am_iv q1160.1)], [], am_SH, (q1160.2.1, q1160.2.2, am_RF false)) = some (((decide (am_i32 (-1001)) && decide (am_i32 x3)) && (am_in (x4 + 1) 12 && true)), .inl (bif am_cb .eq x3 (-1001) then 90 else 84, [(0, am_pv 0), (1, am_iv x1), (2, am_iv x2), (3, am_iv x3), (4, am_iv x4), (5, am_iv q1160.1), (6, am_iv ((q1160.2.1 21 ((x4 + 1).toNat)) - q1160.1))], [], am_SH, (q1160.2.1, q1160.2.2, am_RF false))) from rfl) (am_g2 (by decide) g1165 (am_gi g1164 rfl)) (decide_eq_true c1166) ?_
          refine am_r_go (show am_stepn X T_UpRiver_lost 6 true (90, [(0, am_pv 0), (1, am_iv x1), (2, am_iv x2), (3, am_iv x3), (4, am_iv x4), (5, am_iv q1160.1), (6, am_iv ((q1160.2.1 21 ((x4 + 1).toNat)) - q1160.1))], [], am_SH, (q1160.2.1, q1160.2.2, am_RF false)) = some (true, .inl (22, [(0, am_pv 0), (1, am_iv x1), (2, am_iv ((q1160.2.1 21 ((x4 + 1).toNat)) - q1160.1)), (3, am_iv x4), (4, am_iv (x4 + 1))], [], am_SH, (q1160.2.1, q1160.2.2, am_RF false))) from rfl) rfl ?_
          exact ih _ _ _ _ _ _ _ h
        · rw [if_neg c1166] at h
          refine am_r_f (show am_stepn X T_UpRiver_lost 14 true (57, [(0, am_pv 0), (1, am_iv x1), (2, am_iv x2), (3, am_iv x3), (4, am_iv x4), (5, am_iv q1160.1)], [], am_SH, (q1160.2.1, q1160.2.2, am_RF false)) = some (((decide (am_i32 (-1001)) && decide (am_i32 x3)) && (am_in (x4 + 1) 12 && true)), .inl (bif am_cb .eq x3 (-1001) then 90 else 84, [(0, am_pv 0), (1, am_iv x1), (2, am_iv x2), (3, am_iv x3), (4, am_iv x4), (5, am_iv q1160.1), (6, am_iv ((q1160.2.1 21 ((x4 + 1).toNat)) - q1160.1))], [], am_SH, (q1160.2.1, q1160.2.2, am_RF false))) from rfl) (am_g2 (by decide) g1165 (am_gi g1164 rfl)) (decide_eq_false c1166) ?_
          obtain ⟨g1167, h⟩ := am_if_some h
          obtain ⟨g1168, h⟩ := am_if_some h
          by_cases c1169 : x2 < ((q1160.2.1 21 ((x4 + 1).toNat)) - q1160.1)
          · rw [if_pos c1169] at h
            refine am_r_f (show am_stepn X T_UpRiver_lost 3 true (84, [(0, am_pv 0), (1, am_iv x1), (2, am_iv x2), (3, am_iv x3), (4, am_iv x4), (5, am_iv q1160.1), (6, am_iv ((q1160.2.1 21 ((x4 + 1).toNat)) - q1160.1))], [], am_SH, (q1160.2.1, q1160.2.2, am_RF false)) = some (((decide (am_i32 x2) && decide (am_i32 ((q1160.2.1 21 ((x4 + 1).toNat)) - q1160.1))) && true), .inl (bif am_cb .le ((q1160.2.1 21 ((x4 + 1).toNat)) - q1160.1) x2 then 96 else 90, [(0, am_pv 0), (1, am_iv x1), (2, am_iv x2), (3, am_iv x3), (4, am_iv x4), (6, am_iv ((q1160.2.1 21 ((x4 + 1).toNat)) - q1160.1))], [], am_SH, (q1160.2.1, q1160.2.2, am_RF false))) from rfl) (am_g2 g1167 g1168 rfl) (am_nd_t c1169) ?_
            refine am_r_go (show am_stepn X T_UpRiver_lost 6 true (90, [(0, am_pv 0), (1, am_iv x1), (2, am_iv x2), (3, am_iv x3), (4, am_iv x4), (6, am_iv ((q1160.2.1 21 ((x4 + 1).toNat)) - q1160.1))], [], am_SH, (q1160.2.1, q1160.2.2, am_RF false)) = some (true, .inl (22, [(0, am_pv 0), (1, am_iv x1), (2, am_iv ((q1160.2.1 21 ((x4 + 1).toNat)) - q1160.1)), (3, am_iv x4), (4, am_iv (x4 + 1))], [], am_SH, (q1160.2.1, q1160.2.2, am_RF false))) from rfl) rfl ?_
            exact ih _ _ _ _ _ _ _ h
          · rw [if_neg c1169] at h
            refine am_r_t (show am_stepn X T_UpRiver_lost 3 true (84, [(0, am_pv 0), (1, am_iv x1), (2, am_iv x2), (3, am_iv x3), (4, am_iv x4), (5, am_iv q1160.1), (6, am_iv ((q1160.2.1 21 ((x4 + 1).toNat)) - q1160.1))], [], am_SH, (q1160.2.1, q1160.2.2, am_RF false)) = some (((decide (am_i32 x2) && decide (am_i32 ((q1160.2.1 21 ((x4 + 1).toNat)) - q1160.1))) && true), .inl (bif am_cb .le ((q1160.2.1 21 ((x4 + 1).toNat)) - q1160.1) x2 then 96 else 90, [(0, am_pv 0), (1, am_iv x1), (2, am_iv x2), (3, am_iv x3), (4, am_iv x4), (6, am_iv ((q1160.2.1 21 ((x4 + 1).toNat)) - q1160.1))], [], am_SH, (q1160.2.1, q1160.2.2, am_RF false))) from rfl) (am_g2 g1167 g1168 rfl) (am_nd_f c1169) ?_
            refine am_r_go (show am_stepn X T_UpRiver_lost 2 true (96, [(0, am_pv 0), (1, am_iv x1), (2, am_iv x2), (3, am_iv x3), (4, am_iv x4), (6, am_iv ((q1160.2.1 21 ((x4 + 1).toNat)) - q1160.1))], [], am_SH, (q1160.2.1, q1160.2.2, am_RF false)) = some (true, .inl (22, [(0, am_pv 0), (1, am_iv x1), (2, am_iv x2), (3, am_iv x3), (4, am_iv (x4 + 1))], [], am_SH, (q1160.2.1, q1160.2.2, am_RF false))) from rfl) rfl ?_
            exact ih _ _ _ _ _ _ _ h
    · rw [if_neg c1159] at h
      refine am_r_t (show am_stepn X T_UpRiver_lost 8 true (22, [(0, am_pv 0), (1, am_iv x1), (2, am_iv x2), (3, am_iv x3), (4, am_iv x4)], [], am_SH, (J, K, am_RF false)) = some (((decide (am_i32 (J 19 2)) && decide (am_i32 (x4 + 1))) && true), .inl (bif am_cb .ge (x4 + 1) (J 19 2) then 102 else 39, [(0, am_pv 0), (1, am_iv x1), (2, am_iv x2), (3, am_iv x3), (4, am_iv x4)], [], am_SH, (J, K, am_RF false))) from rfl) (am_g2 g1157 g1158 rfl) (am_nd_f c1159) ?_
      obtain ⟨g1170, h⟩ := am_if_some h
      by_cases c1171 : x1 = 0
      · rw [if_pos c1171] at h
        refine am_r_f (show am_stepn X T_UpRiver_lost 2 true (102, [(0, am_pv 0), (1, am_iv x1), (2, am_iv x2), (3, am_iv x3), (4, am_iv x4)], [], am_SH, (J, K, am_RF false)) = some ((decide (am_i32 x1) && true), .inl (bif am_cb .ne x1 0 then 110 else 106, [(1, am_iv x1), (2, am_iv x2), (3, am_iv x3)], [], am_SH, (J, K, am_RF false))) from rfl) (am_g1 g1170 rfl) (am_nd_t c1171) ?_
        obtain rfl := Option.some.inj h
        exact am_r_ret (show am_stepn X T_UpRiver_lost 3 true (106, [(1, am_iv x1), (2, am_iv x2), (3, am_iv x3)], [], am_SH, (J, K, am_RF false)) = some (true, .inr (.inr (some (am_iv x2), am_SH, (J, K, am_RF false)))) from rfl) rfl
      · rw [if_neg c1171] at h
        refine am_r_t (show am_stepn X T_UpRiver_lost 2 true (102, [(0, am_pv 0), (1, am_iv x1), (2, am_iv x2), (3, am_iv x3), (4, am_iv x4)], [], am_SH, (J, K, am_RF false)) = some ((decide (am_i32 x1) && true), .inl (bif am_cb .ne x1 0 then 110 else 106, [(1, am_iv x1), (2, am_iv x2), (3, am_iv x3)], [], am_SH, (J, K, am_RF false))) from rfl) (am_g1 g1170 rfl) (am_nd_f c1171) ?_
        obtain rfl := Option.some.inj h
        exact am_r_ret (show am_stepn X T_UpRiver_lost 2 true (110, [(1, am_iv x1), (2, am_iv x2), (3, am_iv x3)], [], am_SH, (J, K, am_RF false)) = some (true, .inr (.inr (some (am_iv x3), am_SH, (J, K, am_RF false)))) from rfl) rfl
theorem s_UpRiver_lost_f {X : am_X} {x1 : Int} {J : am_J} {K : am_K} {r : Int × am_J × am_K} (h : f_UpRiver_lost false x1 J K = some r) : am_runs X T_UpRiver_lost (0, [(0, am_pv 0), (1, am_iv x1)], [], am_SH, (J, K, am_RF false)) (some (am_iv r.1), am_SH, (r.2.1, r.2.2, am_RF false)) := by
  unfold f_UpRiver_lost at h
  obtain ⟨q1172, e1173, h⟩ := am_bind_some h
  refine am_r_call (show am_stepn X T_UpRiver_lost 2 true (0, [(0, am_pv 0), (1, am_iv x1)], [], am_SH, (J, K, am_RF false)) = some (true, .inr (.inl (67, [am_iv x1], 1, 0, 0, 4, [(0, am_pv 0), (1, am_iv x1)], [], am_SH, (J, K, am_RF false)))) from rfl) rfl tb_UpRiver_isYesOrNo (s_UpRiver_isYesOrNo e1173) ?_
  obtain ⟨g1174, h⟩ := am_if_some h
  by_cases c1175 : q1172 = 0
  · rw [if_pos c1175] at h
    refine am_r_f (show am_stepn X T_UpRiver_lost 1 true (4, [(0, am_pv 0), (1, am_iv x1)], [am_iv q1172], am_SH, (J, K, am_RF false)) = some ((decide (am_i32 q1172) && true), .inl (bif am_cb .ne q1172 0 then 11 else 7, [(0, am_pv 0), (1, am_iv x1)], [], am_SH, (J, K, am_RF false))) from rfl) (am_g1 g1174 rfl) (am_nd_t c1175) ?_
    obtain rfl := Option.some.inj h
    exact am_r_ret (show am_stepn X T_UpRiver_lost 2 true (7, [(0, am_pv 0), (1, am_iv x1)], [], am_SH, (J, K, am_RF false)) = some (true, .inr (.inr (some (am_iv (-1000)), am_SH, (J, K, am_RF false)))) from rfl) rfl
  · rw [if_neg c1175] at h
    refine am_r_t (show am_stepn X T_UpRiver_lost 1 true (4, [(0, am_pv 0), (1, am_iv x1)], [am_iv q1172], am_SH, (J, K, am_RF false)) = some ((decide (am_i32 q1172) && true), .inl (bif am_cb .ne q1172 0 then 11 else 7, [(0, am_pv 0), (1, am_iv x1)], [], am_SH, (J, K, am_RF false))) from rfl) (am_g1 g1174 rfl) (am_nd_f c1175) ?_
    refine am_r_go (show am_stepn X T_UpRiver_lost 6 true (11, [(0, am_pv 0), (1, am_iv x1)], [], am_SH, (J, K, am_RF false)) = some (true, .inl (22, [(0, am_pv 0), (1, am_iv x1), (2, am_iv (-1001)), (3, am_iv (-1001)), (4, am_iv 0)], [], am_SH, (J, K, am_RF false))) from rfl) rfl ?_
    exact s_UpRiver_lost_L22_f  _ _ _ _ _ _ _ _ h
theorem s_UpRiver_lost_L22_t {X : am_X}  : ∀ (n : Nat) (x1 : Int) (x2 : Int) (x3 : Int) (x4 : Int) (J : am_J) (K : am_K) (r : Int × am_J × am_K), f_UpRiver_lost_L22 true  n x1 x2 x3 x4 J K = some r → am_runs X T_UpRiver_lost (22, [(0, am_pv 0), (1, am_iv x1), (2, am_iv x2), (3, am_iv x3), (4, am_iv x4)], [], am_SH, (J, K, am_RF true)) (some (am_iv r.1), am_SH, (r.2.1, r.2.2, am_RF true)) := by
  intro n
  induction n with
  | zero =>
    intro x1 x2 x3 x4 J K r h
    cases h
  | succ n ih =>
    intro x1 x2 x3 x4 J K r h
    rw [f_UpRiver_lost_L22.eq_2] at h
    obtain ⟨g1157, h⟩ := am_if_some h
    obtain ⟨g1158, h⟩ := am_if_some h
    by_cases c1159 : (x4 + 1) < (J 19 2)
    · rw [if_pos c1159] at h
      refine am_r_f (show am_stepn X T_UpRiver_lost 8 true (22, [(0, am_pv 0), (1, am_iv x1), (2, am_iv x2), (3, am_iv x3), (4, am_iv x4)], [], am_SH, (J, K, am_RF true)) = some (((decide (am_i32 (J 19 2)) && decide (am_i32 (x4 + 1))) && true), .inl (bif am_cb .ge (x4 + 1) (J 19 2) then 102 else 39, [(0, am_pv 0), (1, am_iv x1), (2, am_iv x2), (3, am_iv x3), (4, am_iv x4)], [], am_SH, (J, K, am_RF true))) from rfl) (am_g2 g1157 g1158 rfl) (am_nd_t c1159) ?_
      obtain ⟨q1160, e1161, h⟩ := am_bind_some h
      refine am_r_call (show am_stepn X T_UpRiver_lost 3 true (39, [(0, am_pv 0), (1, am_iv x1), (2, am_iv x2), (3, am_iv x3), (4, am_iv x4)], [], am_SH, (J, K, am_RF true)) = some (true, .inr (.inl (122, [am_pv 0, am_iv x4], 6, 0, 0, 45, [(0, am_pv 0), (1, am_iv x1), (2, am_iv x2), (3, am_iv x3), (4, am_iv x4)], [], am_SH, (J, K, am_RF true)))) from rfl) rfl tb_UpRiver_stretchArrival (s_UpRiver_stretchArrival e1161) ?_
      obtain ⟨g1162, h⟩ := am_if_some h
      by_cases c1163 : q1160.1 = (-4)
      · rw [if_pos c1163] at h
        refine am_r_f (show am_stepn X T_UpRiver_lost 4 true (45, [(0, am_pv 0), (1, am_iv x1), (2, am_iv x2), (3, am_iv x3), (4, am_iv x4)], [am_iv q1160.1], am_SH, (q1160.2.1, q1160.2.2, am_RF true)) = some (((decide (am_i32 (-4)) && decide (am_i32 q1160.1)) && true), .inl (bif am_cb .ne q1160.1 (-4) then 57 else 54, [(0, am_pv 0), (1, am_iv x1), (2, am_iv x2), (3, am_iv x3), (4, am_iv x4), (5, am_iv q1160.1)], [], am_SH, (q1160.2.1, q1160.2.2, am_RF true))) from rfl) (am_g2 (by decide) g1162 rfl) (am_nd_t c1163) ?_
        refine am_r_go (show am_stepn X T_UpRiver_lost 3 true (54, [(0, am_pv 0), (1, am_iv x1), (2, am_iv x2), (3, am_iv x3), (4, am_iv x4), (5, am_iv q1160.1)], [], am_SH, (q1160.2.1, q1160.2.2, am_RF true)) = some (true, .inl (22, [(0, am_pv 0), (1, am_iv x1), (2, am_iv x2), (3, am_iv x3), (4, am_iv (x4 + 1))], [], am_SH, (q1160.2.1, q1160.2.2, am_RF true))) from rfl) rfl ?_
        exact ih _ _ _ _ _ _ _ h
      · rw [if_neg c1163] at h
        refine am_r_t (show am_stepn X T_UpRiver_lost 4 true (45, [(0, am_pv 0), (1, am_iv x1), (2, am_iv x2), (3, am_iv x3), (4, am_iv x4)], [am_iv q1160.1], am_SH, (q1160.2.1, q1160.2.2, am_RF true)) = some (((decide (am_i32 (-4)) && decide (am_i32 q1160.1)) && true), .inl (bif am_cb .ne q1160.1 (-4) then 57 else 54, [(0, am_pv 0), (1, am_iv x1), (2, am_iv x2), (3, am_iv x3), (4, am_iv x4), (5, am_iv q1160.1)], [], am_SH, (q1160.2.1, q1160.2.2, am_RF true))) from rfl) (am_g2 (by decide) g1162 rfl) (am_nd_f c1163) ?_
        obtain ⟨g1164, h⟩ := am_if_some h
        obtain ⟨g1165, h⟩ := am_if_some h
        by_cases c1166 : x3 = (-1001)
        · rw [if_pos c1166] at h
          refine am_r_t (show am_stepn X T_UpRiver_lost 14 true (57, [(0, am_pv 0), (1, am_iv x1), (2, am_iv x2), (3, am_iv x3), (4, am_iv x4), (5, am_iv q1160.1)], [], am_SH, (q1160.2.1, q1160.2.2, am_RF true)) = some (((decide (am_i32 (-1001)) && decide (am_i32 x3)) && (am_in (x4 + 1) 12 && true)), .inl (bif am_cb .eq x3 (-1001) then 90 else 84, [(0, am_pv 0), (1, am_iv x1), (2, am_iv x2), (3, am_iv x3), (4, am_iv x4), (5, am_iv q1160.1), (6, am_iv ((q1160.2.1 21 ((x4 + 1).toNat)) - q1160.1))], [], am_SH, (q1160.2.1, q1160.2.2, am_RF true))) from rfl) (am_g2 (by decide) g1165 (am_gi g1164 rfl)) (decide_eq_true c1166) ?_
          refine am_r_go (show am_stepn X T_UpRiver_lost 6 true (90, [(0, am_pv 0), (1, am_iv x1), (2, am_iv x2), (3, am_iv x3), (4, am_iv x4), (5, am_iv q1160.1), (6, am_iv ((q1160.2.1 21 ((x4 + 1).toNat)) - q1160.1))], [], am_SH, (q1160.2.1, q1160.2.2, am_RF true)) = some (true, .inl (22, [(0, am_pv 0), (1, am_iv x1), (2, am_iv ((q1160.2.1 21 ((x4 + 1).toNat)) - q1160.1)), (3, am_iv x4), (4, am_iv (x4 + 1))], [], am_SH, (q1160.2.1, q1160.2.2, am_RF true))) from rfl) rfl ?_
          exact ih _ _ _ _ _ _ _ h
        · rw [if_neg c1166] at h
          refine am_r_f (show am_stepn X T_UpRiver_lost 14 true (57, [(0, am_pv 0), (1, am_iv x1), (2, am_iv x2), (3, am_iv x3), (4, am_iv x4), (5, am_iv q1160.1)], [], am_SH, (q1160.2.1, q1160.2.2, am_RF true)) = some (((decide (am_i32 (-1001)) && decide (am_i32 x3)) && (am_in (x4 + 1) 12 && true)), .inl (bif am_cb .eq x3 (-1001) then 90 else 84, [(0, am_pv 0), (1, am_iv x1), (2, am_iv x2), (3, am_iv x3), (4, am_iv x4), (5, am_iv q1160.1), (6, am_iv ((q1160.2.1 21 ((x4 + 1).toNat)) - q1160.1))], [], am_SH, (q1160.2.1, q1160.2.2, am_RF true))) from rfl) (am_g2 (by decide) g1165 (am_gi g1164 rfl)) (decide_eq_false c1166) ?_
          obtain ⟨g1167, h⟩ := am_if_some h
          obtain ⟨g1168, h⟩ := am_if_some h
          by_cases c1169 : x2 < ((q1160.2.1 21 ((x4 + 1).toNat)) - q1160.1)
          · rw [if_pos c1169] at h
            refine am_r_f (show am_stepn X T_UpRiver_lost 3 true (84, [(0, am_pv 0), (1, am_iv x1), (2, am_iv x2), (3, am_iv x3), (4, am_iv x4), (5, am_iv q1160.1), (6, am_iv ((q1160.2.1 21 ((x4 + 1).toNat)) - q1160.1))], [], am_SH, (q1160.2.1, q1160.2.2, am_RF true)) = some (((decide (am_i32 x2) && decide (am_i32 ((q1160.2.1 21 ((x4 + 1).toNat)) - q1160.1))) && true), .inl (bif am_cb .le ((q1160.2.1 21 ((x4 + 1).toNat)) - q1160.1) x2 then 96 else 90, [(0, am_pv 0), (1, am_iv x1), (2, am_iv x2), (3, am_iv x3), (4, am_iv x4), (6, am_iv ((q1160.2.1 21 ((x4 + 1).toNat)) - q1160.1))], [], am_SH, (q1160.2.1, q1160.2.2, am_RF true))) from rfl) (am_g2 g1167 g1168 rfl) (am_nd_t c1169) ?_
            refine am_r_go (show am_stepn X T_UpRiver_lost 6 true (90, [(0, am_pv 0), (1, am_iv x1), (2, am_iv x2), (3, am_iv x3), (4, am_iv x4), (6, am_iv ((q1160.2.1 21 ((x4 + 1).toNat)) - q1160.1))], [], am_SH, (q1160.2.1, q1160.2.2, am_RF true)) = some (true, .inl (22, [(0, am_pv 0), (1, am_iv x1), (2, am_iv ((q1160.2.1 21 ((x4 + 1).toNat)) - q1160.1)), (3, am_iv x4), (4, am_iv (x4 + 1))], [], am_SH, (q1160.2.1, q1160.2.2, am_RF true))) from rfl) rfl ?_
            exact ih _ _ _ _ _ _ _ h
          · rw [if_neg c1169] at h
            refine am_r_t (show am_stepn X T_UpRiver_lost 3 true (84, [(0, am_pv 0), (1, am_iv x1), (2, am_iv x2), (3, am_iv x3), (4, am_iv x4), (5, am_iv q1160.1), (6, am_iv ((q1160.2.1 21 ((x4 + 1).toNat)) - q1160.1))], [], am_SH, (q1160.2.1, q1160.2.2, am_RF true)) = some (((decide (am_i32 x2) && decide (am_i32 ((q1160.2.1 21 ((x4 + 1).toNat)) - q1160.1))) && true), .inl (bif am_cb .le ((q1160.2.1 21 ((x4 + 1).toNat)) - q1160.1) x2 then 96 else 90, [(0, am_pv 0), (1, am_iv x1), (2, am_iv x2), (3, am_iv x3), (4, am_iv x4), (6, am_iv ((q1160.2.1 21 ((x4 + 1).toNat)) - q1160.1))], [], am_SH, (q1160.2.1, q1160.2.2, am_RF true))) from rfl) (am_g2 g1167 g1168 rfl) (am_nd_f c1169) ?_
            refine am_r_go (show am_stepn X T_UpRiver_lost 2 true (96, [(0, am_pv 0), (1, am_iv x1), (2, am_iv x2), (3, am_iv x3), (4, am_iv x4), (6, am_iv ((q1160.2.1 21 ((x4 + 1).toNat)) - q1160.1))], [], am_SH, (q1160.2.1, q1160.2.2, am_RF true)) = some (true, .inl (22, [(0, am_pv 0), (1, am_iv x1), (2, am_iv x2), (3, am_iv x3), (4, am_iv (x4 + 1))], [], am_SH, (q1160.2.1, q1160.2.2, am_RF true))) from rfl) rfl ?_
            exact ih _ _ _ _ _ _ _ h
    · rw [if_neg c1159] at h
      refine am_r_t (show am_stepn X T_UpRiver_lost 8 true (22, [(0, am_pv 0), (1, am_iv x1), (2, am_iv x2), (3, am_iv x3), (4, am_iv x4)], [], am_SH, (J, K, am_RF true)) = some (((decide (am_i32 (J 19 2)) && decide (am_i32 (x4 + 1))) && true), .inl (bif am_cb .ge (x4 + 1) (J 19 2) then 102 else 39, [(0, am_pv 0), (1, am_iv x1), (2, am_iv x2), (3, am_iv x3), (4, am_iv x4)], [], am_SH, (J, K, am_RF true))) from rfl) (am_g2 g1157 g1158 rfl) (am_nd_f c1159) ?_
      obtain ⟨g1170, h⟩ := am_if_some h
      by_cases c1171 : x1 = 0
      · rw [if_pos c1171] at h
        refine am_r_f (show am_stepn X T_UpRiver_lost 2 true (102, [(0, am_pv 0), (1, am_iv x1), (2, am_iv x2), (3, am_iv x3), (4, am_iv x4)], [], am_SH, (J, K, am_RF true)) = some ((decide (am_i32 x1) && true), .inl (bif am_cb .ne x1 0 then 110 else 106, [(1, am_iv x1), (2, am_iv x2), (3, am_iv x3)], [], am_SH, (J, K, am_RF true))) from rfl) (am_g1 g1170 rfl) (am_nd_t c1171) ?_
        obtain rfl := Option.some.inj h
        exact am_r_ret (show am_stepn X T_UpRiver_lost 3 true (106, [(1, am_iv x1), (2, am_iv x2), (3, am_iv x3)], [], am_SH, (J, K, am_RF true)) = some (true, .inr (.inr (some (am_iv x2), am_SH, (J, K, am_RF true)))) from rfl) rfl
      · rw [if_neg c1171] at h
        refine am_r_t (show am_stepn X T_UpRiver_lost 2 true (102, [(0, am_pv 0), (1, am_iv x1), (2, am_iv x2), (3, am_iv x3), (4, am_iv x4)], [], am_SH, (J, K, am_RF true)) = some ((decide (am_i32 x1) && true), .inl (bif am_cb .ne x1 0 then 110 else 106, [(1, am_iv x1), (2, am_iv x2), (3, am_iv x3)], [], am_SH, (J, K, am_RF true))) from rfl) (am_g1 g1170 rfl) (am_nd_f c1171) ?_
        obtain rfl := Option.some.inj h
        exact am_r_ret (show am_stepn X T_UpRiver_lost 2 true (110, [(1, am_iv x1), (2, am_iv x2), (3, am_iv x3)], [], am_SH, (J, K, am_RF true)) = some (true, .inr (.inr (some (am_iv x3), am_SH, (J, K, am_RF true)))) from rfl) rfl
theorem s_UpRiver_lost_t {X : am_X} {x1 : Int} {J : am_J} {K : am_K} {r : Int × am_J × am_K} (h : f_UpRiver_lost true x1 J K = some r) : am_runs X T_UpRiver_lost (0, [(0, am_pv 0), (1, am_iv x1)], [], am_SH, (J, K, am_RF true)) (some (am_iv r.1), am_SH, (r.2.1, r.2.2, am_RF true)) := by
  unfold f_UpRiver_lost at h
  obtain ⟨q1172, e1173, h⟩ := am_bind_some h
  refine am_r_call (show am_stepn X T_UpRiver_lost 2 true (0, [(0, am_pv 0), (1, am_iv x1)], [], am_SH, (J, K, am_RF true)) = some (true, .inr (.inl (67, [am_iv x1], 1, 0, 0, 4, [(0, am_pv 0), (1, am_iv x1)], [], am_SH, (J, K, am_RF true)))) from rfl) rfl tb_UpRiver_isYesOrNo (s_UpRiver_isYesOrNo e1173) ?_
  obtain ⟨g1174, h⟩ := am_if_some h
  by_cases c1175 : q1172 = 0
  · rw [if_pos c1175] at h
    refine am_r_f (show am_stepn X T_UpRiver_lost 1 true (4, [(0, am_pv 0), (1, am_iv x1)], [am_iv q1172], am_SH, (J, K, am_RF true)) = some ((decide (am_i32 q1172) && true), .inl (bif am_cb .ne q1172 0 then 11 else 7, [(0, am_pv 0), (1, am_iv x1)], [], am_SH, (J, K, am_RF true))) from rfl) (am_g1 g1174 rfl) (am_nd_t c1175) ?_
    obtain rfl := Option.some.inj h
    exact am_r_ret (show am_stepn X T_UpRiver_lost 2 true (7, [(0, am_pv 0), (1, am_iv x1)], [], am_SH, (J, K, am_RF true)) = some (true, .inr (.inr (some (am_iv (-1000)), am_SH, (J, K, am_RF true)))) from rfl) rfl
  · rw [if_neg c1175] at h
    refine am_r_t (show am_stepn X T_UpRiver_lost 1 true (4, [(0, am_pv 0), (1, am_iv x1)], [am_iv q1172], am_SH, (J, K, am_RF true)) = some ((decide (am_i32 q1172) && true), .inl (bif am_cb .ne q1172 0 then 11 else 7, [(0, am_pv 0), (1, am_iv x1)], [], am_SH, (J, K, am_RF true))) from rfl) (am_g1 g1174 rfl) (am_nd_f c1175) ?_
    refine am_r_go (show am_stepn X T_UpRiver_lost 6 true (11, [(0, am_pv 0), (1, am_iv x1)], [], am_SH, (J, K, am_RF true)) = some (true, .inl (22, [(0, am_pv 0), (1, am_iv x1), (2, am_iv (-1001)), (3, am_iv (-1001)), (4, am_iv 0)], [], am_SH, (J, K, am_RF true))) from rfl) rfl ?_
    exact s_UpRiver_lost_L22_t  _ _ _ _ _ _ _ _ h
theorem s_UpRiver_lost {X : am_X} {b : Bool} {x1 : Int} {J : am_J} {K : am_K} {r : Int × am_J × am_K} (h : f_UpRiver_lost b x1 J K = some r) : am_runs X T_UpRiver_lost (0, [(0, am_pv 0), (1, am_iv x1)], [], am_SH, (J, K, am_RF b)) (some (am_iv r.1), am_SH, (r.2.1, r.2.2, am_RF b)) := by
  cases b
  · exact s_UpRiver_lost_f h
  · exact s_UpRiver_lost_t h
theorem s_Swings_add {X : am_X} {b : Bool} {K : am_K} {x1 : Int} {J : am_J} {r : Int × am_J} (h : f_Swings_add  x1 J = some r) : am_runs X T_Swings_add (0, [(0, am_pv 22), (1, am_iv x1)], [], am_SH, (J, K, am_RF b)) (some (am_iv r.1), am_SH, (r.2, K, am_RF b)) := by
  unfold f_Swings_add at h
  obtain ⟨g1176, h⟩ := am_if_some h
  by_cases c1177 : x1 < 0
  · rw [if_pos c1177] at h
    refine am_r_t (show am_stepn X T_Swings_add 2 true (0, [(0, am_pv 22), (1, am_iv x1)], [], am_SH, (J, K, am_RF b)) = some ((decide (am_i32 x1) && true), .inl (bif am_cb .lt x1 0 then 9 else 4, [(0, am_pv 22), (1, am_iv x1)], [], am_SH, (J, K, am_RF b))) from rfl) (am_g1 g1176 rfl) (decide_eq_true c1177) ?_
    obtain rfl := Option.some.inj h
    exact am_r_ret (show am_stepn X T_Swings_add 2 true (9, [(0, am_pv 22), (1, am_iv x1)], [], am_SH, (J, K, am_RF b)) = some (true, .inr (.inr (some (am_iv (-1)), am_SH, (J, K, am_RF b)))) from rfl) rfl
  · rw [if_neg c1177] at h
    refine am_r_f (show am_stepn X T_Swings_add 2 true (0, [(0, am_pv 22), (1, am_iv x1)], [], am_SH, (J, K, am_RF b)) = some ((decide (am_i32 x1) && true), .inl (bif am_cb .lt x1 0 then 9 else 4, [(0, am_pv 22), (1, am_iv x1)], [], am_SH, (J, K, am_RF b))) from rfl) (am_g1 g1176 rfl) (decide_eq_false c1177) ?_
    by_cases c1178 : 2 < x1
    · rw [if_pos c1178] at h
      refine am_r_f (show am_stepn X T_Swings_add 3 true (4, [(0, am_pv 22), (1, am_iv x1)], [], am_SH, (J, K, am_RF b)) = some (((decide (am_i32 2) && decide (am_i32 x1)) && true), .inl (bif am_cb .le x1 2 then 11 else 9, [(0, am_pv 22), (1, am_iv x1)], [], am_SH, (J, K, am_RF b))) from rfl) (am_g2 (by decide) g1176 rfl) (am_nd_t c1178) ?_
      obtain rfl := Option.some.inj h
      exact am_r_ret (show am_stepn X T_Swings_add 2 true (9, [(0, am_pv 22), (1, am_iv x1)], [], am_SH, (J, K, am_RF b)) = some (true, .inr (.inr (some (am_iv (-1)), am_SH, (J, K, am_RF b)))) from rfl) rfl
    · rw [if_neg c1178] at h
      refine am_r_t (show am_stepn X T_Swings_add 3 true (4, [(0, am_pv 22), (1, am_iv x1)], [], am_SH, (J, K, am_RF b)) = some (((decide (am_i32 2) && decide (am_i32 x1)) && true), .inl (bif am_cb .le x1 2 then 11 else 9, [(0, am_pv 22), (1, am_iv x1)], [], am_SH, (J, K, am_RF b))) from rfl) (am_g2 (by decide) g1176 rfl) (am_nd_f c1178) ?_
      obtain ⟨g1179, h⟩ := am_if_some h
      by_cases c1180 : (J 22 1) < 40
      · rw [if_pos c1180] at h
        refine am_r_t (show am_stepn X T_Swings_add 4 true (11, [(0, am_pv 22), (1, am_iv x1)], [], am_SH, (J, K, am_RF b)) = some (((decide (am_i32 40) && decide (am_i32 (J 22 1))) && true), .inl (bif am_cb .lt (J 22 1) 40 then 23 else 20, [(0, am_pv 22), (1, am_iv x1)], [], am_SH, (J, K, am_RF b))) from rfl) (am_g2 (by decide) g1179 rfl) (decide_eq_true c1180) ?_
        obtain ⟨g1181, h⟩ := am_if_some h
        obtain rfl := Option.some.inj h
        exact am_r_ret (show am_stepn X T_Swings_add 15 true (23, [(0, am_pv 22), (1, am_iv x1)], [], am_SH, (J, K, am_RF b)) = some ((am_in (J 22 1) 40 && true), .inr (.inr (some (am_iv ((J 22 1) + 1)), am_SH, ((am_up (am_up J 23 ((J 22 1).toNat) x1) 22 1 ((J 22 1) + 1)), K, am_RF b)))) from rfl) (am_gi g1181 rfl)
      · rw [if_neg c1180] at h
        refine am_r_f (show am_stepn X T_Swings_add 4 true (11, [(0, am_pv 22), (1, am_iv x1)], [], am_SH, (J, K, am_RF b)) = some (((decide (am_i32 40) && decide (am_i32 (J 22 1))) && true), .inl (bif am_cb .lt (J 22 1) 40 then 23 else 20, [(0, am_pv 22), (1, am_iv x1)], [], am_SH, (J, K, am_RF b))) from rfl) (am_g2 (by decide) g1179 rfl) (decide_eq_false c1180) ?_
        obtain rfl := Option.some.inj h
        exact am_r_ret (show am_stepn X T_Swings_add 2 true (20, [(0, am_pv 22), (1, am_iv x1)], [], am_SH, (J, K, am_RF b)) = some (true, .inr (.inr (some (am_iv (-3)), am_SH, (J, K, am_RF b)))) from rfl) rfl
theorem s_UpRiver_swing {X : am_X} {b : Bool} {K : am_K} {x1 : Int} {J : am_J} {r : Int × am_J} (h : f_UpRiver_swing  x1 J = some r) : am_runs X T_UpRiver_swing (0, [(0, am_pv 0), (1, am_iv x1)], [], am_SH, (J, K, am_RF b)) (some (am_iv r.1), am_SH, (r.2, K, am_RF b)) := by
  unfold f_UpRiver_swing at h
  obtain ⟨q1182, e1183, h⟩ := am_bind_some h
  refine am_r_call (show am_stepn X T_UpRiver_swing 5 true (0, [(0, am_pv 0), (1, am_iv x1)], [], am_SH, (J, K, am_RF b)) = some (true, .inr (.inl (124, [am_pv 22, am_iv x1], 2, 0, 0, 11, [(0, am_pv 0), (1, am_iv x1)], [], am_SH, (J, K, am_RF b)))) from rfl) rfl tb_Swings_add (s_Swings_add e1183) ?_
  obtain rfl := Option.some.inj h
  exact am_r_ret (show am_stepn X T_UpRiver_swing 1 true (11, [(0, am_pv 0), (1, am_iv x1)], [am_iv q1182.1], am_SH, (q1182.2, K, am_RF b)) = some (true, .inr (.inr (some (am_iv q1182.1), am_SH, (q1182.2, K, am_RF b)))) from rfl) rfl
theorem s_Swings_meanAhead_L42 {X : am_X} {b : Bool} {J : am_J} {K : am_K}  : ∀ (x2 : Int) (x3 : Int) (r : Int), f_Swings_meanAhead_L42 J   x2 x3 = some r → am_runs X T_Swings_meanAhead (42, [(2, am_iv x2), (3, am_iv x3)], [], am_SH, (J, K, am_RF b)) (some (am_iv r), am_SH, (J, K, am_RF b)) := by
  intro x2 x3 r h
  unfold f_Swings_meanAhead_L42 at h
  obtain ⟨g1184, h⟩ := am_if_some h
  by_cases c1185 : x2 < 1
  · rw [if_pos c1185] at h
    refine am_r_f (show am_stepn X T_Swings_meanAhead 3 true (42, [(2, am_iv x2), (3, am_iv x3)], [], am_SH, (J, K, am_RF b)) = some (((decide (am_i32 1) && decide (am_i32 x2)) && true), .inl (bif am_cb .ge x2 1 then 52 else 47, [(2, am_iv x2), (3, am_iv x3)], [], am_SH, (J, K, am_RF b))) from rfl) (am_g2 (by decide) g1184 rfl) (am_nd_t c1185) ?_
    obtain rfl := Option.some.inj h
    exact am_r_ret (show am_stepn X T_Swings_meanAhead 3 true (47, [(2, am_iv x2), (3, am_iv x3)], [], am_SH, (J, K, am_RF b)) = some (true, .inr (.inr (some (am_iv (-4)), am_SH, (J, K, am_RF b)))) from rfl) rfl
  · rw [if_neg c1185] at h
    refine am_r_t (show am_stepn X T_Swings_meanAhead 3 true (42, [(2, am_iv x2), (3, am_iv x3)], [], am_SH, (J, K, am_RF b)) = some (((decide (am_i32 1) && decide (am_i32 x2)) && true), .inl (bif am_cb .ge x2 1 then 52 else 47, [(2, am_iv x2), (3, am_iv x3)], [], am_SH, (J, K, am_RF b))) from rfl) (am_g2 (by decide) g1184 rfl) (am_nd_f c1185) ?_
    obtain ⟨g1186, h⟩ := am_if_some h
    obtain ⟨g1187, h⟩ := am_if_some h
    obtain rfl := Option.some.inj h
    exact am_r_ret (show am_stepn X T_Swings_meanAhead 10 true (52, [(2, am_iv x2), (3, am_iv x3)], [], am_SH, (J, K, am_RF b)) = some (((decide (0 < (2 * x2 : Int) ∧ am_i32 (2 * x2)) && decide (am_i32 ((2 * x3) + x2))) && true), .inr (.inr (some (am_iv (am_dv ((2 * x3) + x2) (2 * x2))), am_SH, (J, K, am_RF b)))) from rfl) (am_g2 g1186 g1187 rfl)
theorem s_Swings_meanAhead_L11 {X : am_X} {b : Bool} {J : am_J} {K : am_K}  : ∀ (n : Nat) (x1 : Int) (x2 : Int) (x3 : Int) (x4 : Int) (r : Int), f_Swings_meanAhead_L11 J  n x1 x2 x3 x4 = some r → am_runs X T_Swings_meanAhead (11, [(0, am_pv 22), (1, am_iv x1), (2, am_iv x2), (3, am_iv x3), (4, am_iv x4)], [], am_SH, (J, K, am_RF b)) (some (am_iv r), am_SH, (J, K, am_RF b)) := by
  intro n
  induction n with
  | zero =>
    intro x1 x2 x3 x4 r h
    cases h
  | succ n ih =>
    intro x1 x2 x3 x4 r h
    rw [f_Swings_meanAhead_L11.eq_2] at h
    obtain ⟨g1188, h⟩ := am_if_some h
    obtain ⟨g1189, h⟩ := am_if_some h
    by_cases c1190 : x4 < x1
    · rw [if_pos c1190] at h
      refine am_r_f (show am_stepn X T_Swings_meanAhead 3 true (11, [(0, am_pv 22), (1, am_iv x1), (2, am_iv x2), (3, am_iv x3), (4, am_iv x4)], [], am_SH, (J, K, am_RF b)) = some (((decide (am_i32 x1) && decide (am_i32 x4)) && true), .inl (bif am_cb .ge x4 x1 then 42 else 17, [(0, am_pv 22), (1, am_iv x1), (2, am_iv x2), (3, am_iv x3), (4, am_iv x4)], [], am_SH, (J, K, am_RF b))) from rfl) (am_g2 g1188 g1189 rfl) (am_nd_t c1190) ?_
      obtain ⟨g1191, h⟩ := am_if_some h
      by_cases c1192 : x4 < (J 22 1)
      · rw [if_pos c1192] at h
        refine am_r_f (show am_stepn X T_Swings_meanAhead 4 true (17, [(0, am_pv 22), (1, am_iv x1), (2, am_iv x2), (3, am_iv x3), (4, am_iv x4)], [], am_SH, (J, K, am_RF b)) = some (((decide (am_i32 (J 22 1)) && decide (am_i32 x4)) && true), .inl (bif am_cb .ge x4 (J 22 1) then 42 else 26, [(0, am_pv 22), (1, am_iv x1), (2, am_iv x2), (3, am_iv x3), (4, am_iv x4)], [], am_SH, (J, K, am_RF b))) from rfl) (am_g2 g1191 g1189 rfl) (am_nd_t c1192) ?_
        obtain ⟨g1193, h⟩ := am_if_some h
        refine am_r_go (show am_stepn X T_Swings_meanAhead 9 true (26, [(0, am_pv 22), (1, am_iv x1), (2, am_iv x2), (3, am_iv x3), (4, am_iv x4)], [], am_SH, (J, K, am_RF b)) = some ((am_in x4 40 && true), .inl (11, [(0, am_pv 22), (1, am_iv x1), (2, am_iv x2), (3, am_iv (x3 + (J 23 x4.toNat))), (4, am_iv (x4 + 1))], [], am_SH, (J, K, am_RF b))) from rfl) (am_gi g1193 rfl) ?_
        exact ih _ _ _ _ _ h
      · rw [if_neg c1192] at h
        refine am_r_t (show am_stepn X T_Swings_meanAhead 4 true (17, [(0, am_pv 22), (1, am_iv x1), (2, am_iv x2), (3, am_iv x3), (4, am_iv x4)], [], am_SH, (J, K, am_RF b)) = some (((decide (am_i32 (J 22 1)) && decide (am_i32 x4)) && true), .inl (bif am_cb .ge x4 (J 22 1) then 42 else 26, [(0, am_pv 22), (1, am_iv x1), (2, am_iv x2), (3, am_iv x3), (4, am_iv x4)], [], am_SH, (J, K, am_RF b))) from rfl) (am_g2 g1191 g1189 rfl) (am_nd_f c1192) ?_
        refine am_r_eq (σ' := (42, [(2, am_iv x2), (3, am_iv x3)], [], am_SH, (J, K, am_RF b))) rfl ?_
        exact s_Swings_meanAhead_L42  _ _ _ h
    · rw [if_neg c1190] at h
      refine am_r_t (show am_stepn X T_Swings_meanAhead 3 true (11, [(0, am_pv 22), (1, am_iv x1), (2, am_iv x2), (3, am_iv x3), (4, am_iv x4)], [], am_SH, (J, K, am_RF b)) = some (((decide (am_i32 x1) && decide (am_i32 x4)) && true), .inl (bif am_cb .ge x4 x1 then 42 else 17, [(0, am_pv 22), (1, am_iv x1), (2, am_iv x2), (3, am_iv x3), (4, am_iv x4)], [], am_SH, (J, K, am_RF b))) from rfl) (am_g2 g1188 g1189 rfl) (am_nd_f c1190) ?_
      refine am_r_eq (σ' := (42, [(2, am_iv x2), (3, am_iv x3)], [], am_SH, (J, K, am_RF b))) rfl ?_
      exact s_Swings_meanAhead_L42  _ _ _ h
theorem s_Swings_meanAhead {X : am_X} {b : Bool} {J : am_J} {K : am_K} {x1 : Int} {x2 : Int} {r : Int} (h : f_Swings_meanAhead J x1 x2 = some r) : am_runs X T_Swings_meanAhead (0, [(0, am_pv 22), (1, am_iv x1), (2, am_iv x2)], [], am_SH, (J, K, am_RF b)) (some (am_iv r), am_SH, (J, K, am_RF b)) := by
  unfold f_Swings_meanAhead at h
  obtain ⟨q1194, e1195, h⟩ := am_bind_some h
  refine am_r_call (show am_stepn X T_Swings_meanAhead 7 true (0, [(0, am_pv 22), (1, am_iv x1), (2, am_iv x2)], [], am_SH, (J, K, am_RF b)) = some (true, .inr (.inl (48, [am_iv 0, am_iv (x1 - x2)], 2, 0, 0, 9, [(0, am_pv 22), (1, am_iv x1), (2, am_iv x2), (3, am_iv 0)], [], am_SH, (J, K, am_RF b)))) from rfl) rfl tb_JMath_max (s_JMath_max e1195) ?_
  refine am_r_go (show am_stepn X T_Swings_meanAhead 1 true (9, [(0, am_pv 22), (1, am_iv x1), (2, am_iv x2), (3, am_iv 0)], [am_iv q1194], am_SH, (J, K, am_RF b)) = some (true, .inl (11, [(0, am_pv 22), (1, am_iv x1), (2, am_iv x2), (3, am_iv 0), (4, am_iv q1194)], [], am_SH, (J, K, am_RF b))) from rfl) rfl ?_
  exact s_Swings_meanAhead_L11  _ _ _ _ _ _ h
theorem s_Swings_rightBy_L37 {X : am_X} {b : Bool} {J : am_J} {K : am_K} {kb8 : Int → Int → Int → Option Int} (hk8 : ∀ (x1 : Int) (x2 : Int) (x3 : Int) (r : Int), kb8 x1 x2 x3 = some r → am_runs X T_Swings_rightBy (8, [(0, am_pv 22), (1, am_iv x1), (2, am_iv x2), (3, am_iv x3)], [], am_SH, (J, K, am_RF b)) (some (am_iv r), am_SH, (J, K, am_RF b))) : ∀ (x1 : Int) (x3 : Int) (s0 : Int) (s1 : Int) (r : Int), f_Swings_rightBy_L37 J kb8  x1 x3 s0 s1 = some r → am_runs X T_Swings_rightBy (37, [(0, am_pv 22), (1, am_iv x1), (3, am_iv x3)], [am_iv s1, am_iv s0], am_SH, (J, K, am_RF b)) (some (am_iv r), am_SH, (J, K, am_RF b)) := by
  intro x1 x3 s0 s1 r h
  unfold f_Swings_rightBy_L37 at h
  obtain ⟨q1196, e1197, h⟩ := am_bind_some h
  refine am_r_call (show am_stepn X T_Swings_rightBy 1 true (37, [(0, am_pv 22), (1, am_iv x1), (3, am_iv x3)], [am_iv s1, am_iv s0], am_SH, (J, K, am_RF b)) = some (true, .inr (.inl (57, [am_iv s1], 1, 0, 0, 40, [(0, am_pv 22), (1, am_iv x1), (3, am_iv x3)], [am_iv s0], am_SH, (J, K, am_RF b)))) from rfl) rfl tb_UpRiver_asInt (s_UpRiver_asInt e1197) ?_
  refine am_r_go (show am_stepn X T_Swings_rightBy 4 true (40, [(0, am_pv 22), (1, am_iv x1), (3, am_iv x3)], [am_iv q1196, am_iv s0], am_SH, (J, K, am_RF b)) = some (true, .inl (8, [(0, am_pv 22), (1, am_iv x1), (2, am_iv (s0 + q1196)), (3, am_iv (x3 + 1))], [], am_SH, (J, K, am_RF b))) from rfl) rfl ?_
  exact hk8 _ _ _ _ h
theorem s_Swings_rightBy_L8 {X : am_X} {b : Bool} {J : am_J} {K : am_K}  : ∀ (n : Nat) (x1 : Int) (x2 : Int) (x3 : Int) (r : Int), f_Swings_rightBy_L8 J  n x1 x2 x3 = some r → am_runs X T_Swings_rightBy (8, [(0, am_pv 22), (1, am_iv x1), (2, am_iv x2), (3, am_iv x3)], [], am_SH, (J, K, am_RF b)) (some (am_iv r), am_SH, (J, K, am_RF b)) := by
  intro n
  induction n with
  | zero =>
    intro x1 x2 x3 r h
    cases h
  | succ n ih =>
    intro x1 x2 x3 r h
    rw [f_Swings_rightBy_L8.eq_2] at h
    obtain ⟨g1198, h⟩ := am_if_some h
    obtain ⟨g1199, h⟩ := am_if_some h
    by_cases c1200 : x3 < (J 22 1)
    · rw [if_pos c1200] at h
      refine am_r_f (show am_stepn X T_Swings_rightBy 4 true (8, [(0, am_pv 22), (1, am_iv x1), (2, am_iv x2), (3, am_iv x3)], [], am_SH, (J, K, am_RF b)) = some (((decide (am_i32 (J 22 1)) && decide (am_i32 x3)) && true), .inl (bif am_cb .ge x3 (J 22 1) then 48 else 16, [(0, am_pv 22), (1, am_iv x1), (2, am_iv x2), (3, am_iv x3)], [], am_SH, (J, K, am_RF b))) from rfl) (am_g2 g1198 g1199 rfl) (am_nd_t c1200) ?_
      obtain ⟨q1201, e1202, h⟩ := am_bind_some h
      refine am_r_call (show am_stepn X T_Swings_rightBy 5 true (16, [(0, am_pv 22), (1, am_iv x1), (2, am_iv x2), (3, am_iv x3)], [], am_SH, (J, K, am_RF b)) = some (true, .inr (.inl (127, [am_pv 22, am_iv x3, am_iv x1], 5, 0, 0, 23, [(0, am_pv 22), (1, am_iv x1), (2, am_iv x2), (3, am_iv x3)], [am_iv x2], am_SH, (J, K, am_RF b)))) from rfl) rfl tb_Swings_meanAhead (s_Swings_meanAhead e1202) ?_
      obtain ⟨g1203, h⟩ := am_if_some h
      obtain ⟨g1204, h⟩ := am_if_some h
      obtain ⟨g1205, h⟩ := am_if_some h
      by_cases c1206 : q1201 = (J 23 x3.toNat)
      · rw [if_pos c1206] at h
        refine am_r_f (show am_stepn X T_Swings_rightBy 5 true (23, [(0, am_pv 22), (1, am_iv x1), (2, am_iv x2), (3, am_iv x3)], [am_iv q1201, am_iv x2], am_SH, (J, K, am_RF b)) = some (((decide (am_i32 (J 23 x3.toNat)) && decide (am_i32 q1201)) && (am_in x3 40 && true)), .inl (bif am_cb .ne q1201 (J 23 x3.toNat) then 36 else 32, [(0, am_pv 22), (1, am_iv x1), (2, am_iv x2), (3, am_iv x3)], [am_iv x2], am_SH, (J, K, am_RF b))) from rfl) (am_g2 g1204 g1205 (am_gi g1203 rfl)) (am_nd_t c1206) ?_
        refine am_r_go (show am_stepn X T_Swings_rightBy 2 true (32, [(0, am_pv 22), (1, am_iv x1), (2, am_iv x2), (3, am_iv x3)], [am_iv x2], am_SH, (J, K, am_RF b)) = some (true, .inl (37, [(0, am_pv 22), (1, am_iv x1), (3, am_iv x3)], [am_iv 1, am_iv x2], am_SH, (J, K, am_RF b))) from rfl) rfl ?_
        exact s_Swings_rightBy_L37 ih _ _ _ _ _ h
      · rw [if_neg c1206] at h
        refine am_r_t (show am_stepn X T_Swings_rightBy 5 true (23, [(0, am_pv 22), (1, am_iv x1), (2, am_iv x2), (3, am_iv x3)], [am_iv q1201, am_iv x2], am_SH, (J, K, am_RF b)) = some (((decide (am_i32 (J 23 x3.toNat)) && decide (am_i32 q1201)) && (am_in x3 40 && true)), .inl (bif am_cb .ne q1201 (J 23 x3.toNat) then 36 else 32, [(0, am_pv 22), (1, am_iv x1), (2, am_iv x2), (3, am_iv x3)], [am_iv x2], am_SH, (J, K, am_RF b))) from rfl) (am_g2 g1204 g1205 (am_gi g1203 rfl)) (am_nd_f c1206) ?_
        refine am_r_go (show am_stepn X T_Swings_rightBy 1 true (36, [(0, am_pv 22), (1, am_iv x1), (2, am_iv x2), (3, am_iv x3)], [am_iv x2], am_SH, (J, K, am_RF b)) = some (true, .inl (37, [(0, am_pv 22), (1, am_iv x1), (3, am_iv x3)], [am_iv 0, am_iv x2], am_SH, (J, K, am_RF b))) from rfl) rfl ?_
        exact s_Swings_rightBy_L37 ih _ _ _ _ _ h
    · rw [if_neg c1200] at h
      refine am_r_t (show am_stepn X T_Swings_rightBy 4 true (8, [(0, am_pv 22), (1, am_iv x1), (2, am_iv x2), (3, am_iv x3)], [], am_SH, (J, K, am_RF b)) = some (((decide (am_i32 (J 22 1)) && decide (am_i32 x3)) && true), .inl (bif am_cb .ge x3 (J 22 1) then 48 else 16, [(0, am_pv 22), (1, am_iv x1), (2, am_iv x2), (3, am_iv x3)], [], am_SH, (J, K, am_RF b))) from rfl) (am_g2 g1198 g1199 rfl) (am_nd_f c1200) ?_
      obtain rfl := Option.some.inj h
      exact am_r_ret (show am_stepn X T_Swings_rightBy 2 true (48, [(0, am_pv 22), (1, am_iv x1), (2, am_iv x2), (3, am_iv x3)], [], am_SH, (J, K, am_RF b)) = some (true, .inr (.inr (some (am_iv x2), am_SH, (J, K, am_RF b)))) from rfl) rfl
theorem s_Swings_rightBy {X : am_X} {b : Bool} {J : am_J} {K : am_K} {x1 : Int} {r : Int} (h : f_Swings_rightBy J x1 = some r) : am_runs X T_Swings_rightBy (0, [(0, am_pv 22), (1, am_iv x1)], [], am_SH, (J, K, am_RF b)) (some (am_iv r), am_SH, (J, K, am_RF b)) := by
  unfold f_Swings_rightBy at h
  obtain ⟨q1207, e1208, h⟩ := am_bind_some h
  refine am_r_call (show am_stepn X T_Swings_rightBy 5 true (0, [(0, am_pv 22), (1, am_iv x1)], [], am_SH, (J, K, am_RF b)) = some (true, .inr (.inl (48, [am_iv 1, am_iv x1], 2, 0, 0, 7, [(0, am_pv 22), (1, am_iv x1), (2, am_iv 0)], [], am_SH, (J, K, am_RF b)))) from rfl) rfl tb_JMath_max (s_JMath_max e1208) ?_
  refine am_r_go (show am_stepn X T_Swings_rightBy 1 true (7, [(0, am_pv 22), (1, am_iv x1), (2, am_iv 0)], [am_iv q1207], am_SH, (J, K, am_RF b)) = some (true, .inl (8, [(0, am_pv 22), (1, am_iv x1), (2, am_iv 0), (3, am_iv q1207)], [], am_SH, (J, K, am_RF b))) from rfl) rfl ?_
  exact s_Swings_rightBy_L8  _ _ _ _ _ h
theorem s_UpRiver_judged {X : am_X} {b : Bool} {J : am_J} {K : am_K} {x1 : Int} {r : Int} (h : f_UpRiver_judged J x1 = some r) : am_runs X T_UpRiver_judged (0, [(0, am_pv 0), (1, am_iv x1)], [], am_SH, (J, K, am_RF b)) (some (am_iv r), am_SH, (J, K, am_RF b)) := by
  unfold f_UpRiver_judged at h
  obtain ⟨g1209, h⟩ := am_if_some h
  by_cases c1210 : x1 < 1
  · rw [if_pos c1210] at h
    refine am_r_t (show am_stepn X T_UpRiver_judged 3 true (0, [(0, am_pv 0), (1, am_iv x1)], [], am_SH, (J, K, am_RF b)) = some (((decide (am_i32 1) && decide (am_i32 x1)) && true), .inl (bif am_cb .lt x1 1 then 11 else 5, [(0, am_pv 0), (1, am_iv x1)], [], am_SH, (J, K, am_RF b))) from rfl) (am_g2 (by decide) g1209 rfl) (decide_eq_true c1210) ?_
    obtain rfl := Option.some.inj h
    exact am_r_ret (show am_stepn X T_UpRiver_judged 3 true (11, [(0, am_pv 0), (1, am_iv x1)], [], am_SH, (J, K, am_RF b)) = some (true, .inr (.inr (some (am_iv (-1)), am_SH, (J, K, am_RF b)))) from rfl) rfl
  · rw [if_neg c1210] at h
    refine am_r_f (show am_stepn X T_UpRiver_judged 3 true (0, [(0, am_pv 0), (1, am_iv x1)], [], am_SH, (J, K, am_RF b)) = some (((decide (am_i32 1) && decide (am_i32 x1)) && true), .inl (bif am_cb .lt x1 1 then 11 else 5, [(0, am_pv 0), (1, am_iv x1)], [], am_SH, (J, K, am_RF b))) from rfl) (am_g2 (by decide) g1209 rfl) (decide_eq_false c1210) ?_
    by_cases c1211 : 20 < x1
    · rw [if_pos c1211] at h
      refine am_r_f (show am_stepn X T_UpRiver_judged 3 true (5, [(0, am_pv 0), (1, am_iv x1)], [], am_SH, (J, K, am_RF b)) = some (((decide (am_i32 20) && decide (am_i32 x1)) && true), .inl (bif am_cb .le x1 20 then 15 else 11, [(0, am_pv 0), (1, am_iv x1)], [], am_SH, (J, K, am_RF b))) from rfl) (am_g2 (by decide) g1209 rfl) (am_nd_t c1211) ?_
      obtain rfl := Option.some.inj h
      exact am_r_ret (show am_stepn X T_UpRiver_judged 3 true (11, [(0, am_pv 0), (1, am_iv x1)], [], am_SH, (J, K, am_RF b)) = some (true, .inr (.inr (some (am_iv (-1)), am_SH, (J, K, am_RF b)))) from rfl) rfl
    · rw [if_neg c1211] at h
      refine am_r_t (show am_stepn X T_UpRiver_judged 3 true (5, [(0, am_pv 0), (1, am_iv x1)], [], am_SH, (J, K, am_RF b)) = some (((decide (am_i32 20) && decide (am_i32 x1)) && true), .inl (bif am_cb .le x1 20 then 15 else 11, [(0, am_pv 0), (1, am_iv x1)], [], am_SH, (J, K, am_RF b))) from rfl) (am_g2 (by decide) g1209 rfl) (am_nd_f c1211) ?_
      obtain ⟨q1212, e1213, h⟩ := am_bind_some h
      refine am_r_call (show am_stepn X T_UpRiver_judged 5 true (15, [(0, am_pv 0), (1, am_iv x1)], [], am_SH, (J, K, am_RF b)) = some (true, .inr (.inl (126, [am_pv 22, am_iv x1], 4, 0, 0, 26, [(0, am_pv 0), (1, am_iv x1)], [], am_SH, (J, K, am_RF b)))) from rfl) rfl tb_Swings_rightBy (s_Swings_rightBy e1213) ?_
      obtain rfl := Option.some.inj h
      exact am_r_ret (show am_stepn X T_UpRiver_judged 1 true (26, [(0, am_pv 0), (1, am_iv x1)], [am_iv q1212], am_SH, (J, K, am_RF b)) = some (true, .inr (.inr (some (am_iv q1212), am_SH, (J, K, am_RF b)))) from rfl) rfl
theorem s_UpRiver_judge_L109 {X : am_X} {b : Bool} {J : am_J} {K : am_K}  : ∀ (x1 : Int) (x2 : Int) (x3 : Int) (x4 : Int) (r : Int), f_UpRiver_judge_L109 J   x1 x2 x3 x4 = some r → am_runs X T_UpRiver_judge (109, [(1, am_iv x1), (2, am_iv x2), (3, am_iv x3), (4, am_iv x4)], [], am_SH, (J, K, am_RF b)) (some (am_iv r), am_SH, (J, K, am_RF b)) := by
  intro x1 x2 x3 x4 r h
  unfold f_UpRiver_judge_L109 at h
  obtain ⟨g1214, h⟩ := am_if_some h
  by_cases c1215 : x1 = 0
  · rw [if_pos c1215] at h
    refine am_r_f (show am_stepn X T_UpRiver_judge 2 true (109, [(1, am_iv x1), (2, am_iv x2), (3, am_iv x3), (4, am_iv x4)], [], am_SH, (J, K, am_RF b)) = some ((decide (am_i32 x1) && true), .inl (bif am_cb .ne x1 0 then 117 else 113, [(1, am_iv x1), (2, am_iv x2), (3, am_iv x3), (4, am_iv x4)], [], am_SH, (J, K, am_RF b))) from rfl) (am_g1 g1214 rfl) (am_nd_t c1215) ?_
    obtain rfl := Option.some.inj h
    exact am_r_ret (show am_stepn X T_UpRiver_judge 3 true (113, [(1, am_iv x1), (2, am_iv x2), (3, am_iv x3), (4, am_iv x4)], [], am_SH, (J, K, am_RF b)) = some (true, .inr (.inr (some (am_iv x2), am_SH, (J, K, am_RF b)))) from rfl) rfl
  · rw [if_neg c1215] at h
    refine am_r_t (show am_stepn X T_UpRiver_judge 2 true (109, [(1, am_iv x1), (2, am_iv x2), (3, am_iv x3), (4, am_iv x4)], [], am_SH, (J, K, am_RF b)) = some ((decide (am_i32 x1) && true), .inl (bif am_cb .ne x1 0 then 117 else 113, [(1, am_iv x1), (2, am_iv x2), (3, am_iv x3), (4, am_iv x4)], [], am_SH, (J, K, am_RF b))) from rfl) (am_g1 g1214 rfl) (am_nd_f c1215) ?_
    by_cases c1216 : x1 = 1
    · rw [if_pos c1216] at h
      refine am_r_f (show am_stepn X T_UpRiver_judge 3 true (117, [(1, am_iv x1), (2, am_iv x2), (3, am_iv x3), (4, am_iv x4)], [], am_SH, (J, K, am_RF b)) = some (((decide (am_i32 1) && decide (am_i32 x1)) && true), .inl (bif am_cb .ne x1 1 then 126 else 122, [(1, am_iv x1), (3, am_iv x3), (4, am_iv x4)], [], am_SH, (J, K, am_RF b))) from rfl) (am_g2 (by decide) g1214 rfl) (am_nd_t c1216) ?_
      obtain rfl := Option.some.inj h
      exact am_r_ret (show am_stepn X T_UpRiver_judge 3 true (122, [(1, am_iv x1), (3, am_iv x3), (4, am_iv x4)], [], am_SH, (J, K, am_RF b)) = some (true, .inr (.inr (some (am_iv x3), am_SH, (J, K, am_RF b)))) from rfl) rfl
    · rw [if_neg c1216] at h
      refine am_r_t (show am_stepn X T_UpRiver_judge 3 true (117, [(1, am_iv x1), (2, am_iv x2), (3, am_iv x3), (4, am_iv x4)], [], am_SH, (J, K, am_RF b)) = some (((decide (am_i32 1) && decide (am_i32 x1)) && true), .inl (bif am_cb .ne x1 1 then 126 else 122, [(1, am_iv x1), (3, am_iv x3), (4, am_iv x4)], [], am_SH, (J, K, am_RF b))) from rfl) (am_g2 (by decide) g1214 rfl) (am_nd_f c1216) ?_
      obtain rfl := Option.some.inj h
      exact am_r_ret (show am_stepn X T_UpRiver_judge 2 true (126, [(1, am_iv x1), (3, am_iv x3), (4, am_iv x4)], [], am_SH, (J, K, am_RF b)) = some (true, .inr (.inr (some (am_iv x4), am_SH, (J, K, am_RF b)))) from rfl) rfl
theorem s_UpRiver_judge_L24 {X : am_X} {b : Bool} {J : am_J} {K : am_K}  : ∀ (n : Nat) (x1 : Int) (x2 : Int) (x3 : Int) (x4 : Int) (x5 : Int) (r : Int), f_UpRiver_judge_L24 J  n x1 x2 x3 x4 x5 = some r → am_runs X T_UpRiver_judge (24, [(0, am_pv 0), (1, am_iv x1), (2, am_iv x2), (3, am_iv x3), (4, am_iv x4), (5, am_iv x5)], [], am_SH, (J, K, am_RF b)) (some (am_iv r), am_SH, (J, K, am_RF b)) := by
  intro n
  induction n with
  | zero =>
    intro x1 x2 x3 x4 x5 r h
    cases h
  | succ n ih =>
    intro x1 x2 x3 x4 x5 r h
    rw [f_UpRiver_judge_L24.eq_2] at h
    obtain ⟨g1217, h⟩ := am_if_some h
    by_cases c1218 : 20 < x5
    · rw [if_pos c1218] at h
      refine am_r_t (show am_stepn X T_UpRiver_judge 3 true (24, [(0, am_pv 0), (1, am_iv x1), (2, am_iv x2), (3, am_iv x3), (4, am_iv x4), (5, am_iv x5)], [], am_SH, (J, K, am_RF b)) = some (((decide (am_i32 20) && decide (am_i32 x5)) && true), .inl (bif am_cb .gt x5 20 then 109 else 31, [(0, am_pv 0), (1, am_iv x1), (2, am_iv x2), (3, am_iv x3), (4, am_iv x4), (5, am_iv x5)], [], am_SH, (J, K, am_RF b))) from rfl) (am_g2 (by decide) g1217 rfl) (decide_eq_true c1218) ?_
      refine am_r_eq (σ' := (109, [(1, am_iv x1), (2, am_iv x2), (3, am_iv x3), (4, am_iv x4)], [], am_SH, (J, K, am_RF b))) rfl ?_
      exact s_UpRiver_judge_L109  _ _ _ _ _ h
    · rw [if_neg c1218] at h
      refine am_r_f (show am_stepn X T_UpRiver_judge 3 true (24, [(0, am_pv 0), (1, am_iv x1), (2, am_iv x2), (3, am_iv x3), (4, am_iv x4), (5, am_iv x5)], [], am_SH, (J, K, am_RF b)) = some (((decide (am_i32 20) && decide (am_i32 x5)) && true), .inl (bif am_cb .gt x5 20 then 109 else 31, [(0, am_pv 0), (1, am_iv x1), (2, am_iv x2), (3, am_iv x3), (4, am_iv x4), (5, am_iv x5)], [], am_SH, (J, K, am_RF b))) from rfl) (am_g2 (by decide) g1217 rfl) (decide_eq_false c1218) ?_
      obtain ⟨g1219, h⟩ := am_if_some h
      by_cases c1220 : x5 < (J 22 1)
      · rw [if_pos c1220] at h
        refine am_r_f (show am_stepn X T_UpRiver_judge 6 true (31, [(0, am_pv 0), (1, am_iv x1), (2, am_iv x2), (3, am_iv x3), (4, am_iv x4), (5, am_iv x5)], [], am_SH, (J, K, am_RF b)) = some (((decide (am_i32 (J 22 1)) && decide (am_i32 x5)) && true), .inl (bif am_cb .ge x5 (J 22 1) then 109 else 46, [(0, am_pv 0), (1, am_iv x1), (2, am_iv x2), (3, am_iv x3), (4, am_iv x4), (5, am_iv x5)], [], am_SH, (J, K, am_RF b))) from rfl) (am_g2 g1219 g1217 rfl) (am_nd_t c1220) ?_
        obtain ⟨q1221, e1222, h⟩ := am_bind_some h
        refine am_r_call (show am_stepn X T_UpRiver_judge 5 true (46, [(0, am_pv 0), (1, am_iv x1), (2, am_iv x2), (3, am_iv x3), (4, am_iv x4), (5, am_iv x5)], [], am_SH, (J, K, am_RF b)) = some (true, .inr (.inl (126, [am_pv 22, am_iv x5], 4, 0, 0, 58, [(0, am_pv 0), (1, am_iv x1), (2, am_iv x2), (3, am_iv x3), (4, am_iv x4), (5, am_iv x5)], [], am_SH, (J, K, am_RF b)))) from rfl) rfl tb_Swings_rightBy (s_Swings_rightBy e1222) ?_
        obtain ⟨g1223, h⟩ := am_if_some h
        by_cases c1224 : x2 = (-4)
        · rw [if_pos c1224] at h
          refine am_r_t (show am_stepn X T_UpRiver_judge 11 true (58, [(0, am_pv 0), (1, am_iv x1), (2, am_iv x2), (3, am_iv x3), (4, am_iv x4), (5, am_iv x5)], [am_iv q1221], am_SH, (J, K, am_RF b)) = some (((decide (am_i32 (-4)) && decide (am_i32 x2)) && true), .inl (bif am_cb .eq x2 (-4) then 93 else 81, [(0, am_pv 0), (1, am_iv x1), (2, am_iv x2), (3, am_iv x3), (4, am_iv x4), (5, am_iv x5), (6, am_iv q1221), (7, am_iv ((J 22 1) - x5))], [], am_SH, (J, K, am_RF b))) from rfl) (am_g2 (by decide) g1223 rfl) (decide_eq_true c1224) ?_
          refine am_r_go (show am_stepn X T_UpRiver_judge 8 true (93, [(0, am_pv 0), (1, am_iv x1), (2, am_iv x2), (3, am_iv x3), (4, am_iv x4), (5, am_iv x5), (6, am_iv q1221), (7, am_iv ((J 22 1) - x5))], [], am_SH, (J, K, am_RF b)) = some (true, .inl (24, [(0, am_pv 0), (1, am_iv x1), (2, am_iv x5), (3, am_iv q1221), (4, am_iv ((J 22 1) - x5)), (5, am_iv (x5 + 1))], [], am_SH, (J, K, am_RF b))) from rfl) rfl ?_
          exact ih _ _ _ _ _ _ h
        · rw [if_neg c1224] at h
          refine am_r_f (show am_stepn X T_UpRiver_judge 11 true (58, [(0, am_pv 0), (1, am_iv x1), (2, am_iv x2), (3, am_iv x3), (4, am_iv x4), (5, am_iv x5)], [am_iv q1221], am_SH, (J, K, am_RF b)) = some (((decide (am_i32 (-4)) && decide (am_i32 x2)) && true), .inl (bif am_cb .eq x2 (-4) then 93 else 81, [(0, am_pv 0), (1, am_iv x1), (2, am_iv x2), (3, am_iv x3), (4, am_iv x4), (5, am_iv x5), (6, am_iv q1221), (7, am_iv ((J 22 1) - x5))], [], am_SH, (J, K, am_RF b))) from rfl) (am_g2 (by decide) g1223 rfl) (decide_eq_false c1224) ?_
          obtain ⟨g1225, h⟩ := am_if_some h
          obtain ⟨g1226, h⟩ := am_if_some h
          by_cases c1227 : (x3 * ((J 22 1) - x5)) < (q1221 * x4)
          · rw [if_pos c1227] at h
            refine am_r_f (show am_stepn X T_UpRiver_judge 7 true (81, [(0, am_pv 0), (1, am_iv x1), (2, am_iv x2), (3, am_iv x3), (4, am_iv x4), (5, am_iv x5), (6, am_iv q1221), (7, am_iv ((J 22 1) - x5))], [], am_SH, (J, K, am_RF b)) = some (((decide (am_i32 (x3 * ((J 22 1) - x5))) && decide (am_i32 (q1221 * x4))) && true), .inl (bif am_cb .le (q1221 * x4) (x3 * ((J 22 1) - x5)) then 103 else 93, [(0, am_pv 0), (1, am_iv x1), (2, am_iv x2), (3, am_iv x3), (4, am_iv x4), (5, am_iv x5), (6, am_iv q1221), (7, am_iv ((J 22 1) - x5))], [], am_SH, (J, K, am_RF b))) from rfl) (am_g2 g1225 g1226 rfl) (am_nd_t c1227) ?_
            refine am_r_go (show am_stepn X T_UpRiver_judge 8 true (93, [(0, am_pv 0), (1, am_iv x1), (2, am_iv x2), (3, am_iv x3), (4, am_iv x4), (5, am_iv x5), (6, am_iv q1221), (7, am_iv ((J 22 1) - x5))], [], am_SH, (J, K, am_RF b)) = some (true, .inl (24, [(0, am_pv 0), (1, am_iv x1), (2, am_iv x5), (3, am_iv q1221), (4, am_iv ((J 22 1) - x5)), (5, am_iv (x5 + 1))], [], am_SH, (J, K, am_RF b))) from rfl) rfl ?_
            exact ih _ _ _ _ _ _ h
          · rw [if_neg c1227] at h
            refine am_r_t (show am_stepn X T_UpRiver_judge 7 true (81, [(0, am_pv 0), (1, am_iv x1), (2, am_iv x2), (3, am_iv x3), (4, am_iv x4), (5, am_iv x5), (6, am_iv q1221), (7, am_iv ((J 22 1) - x5))], [], am_SH, (J, K, am_RF b)) = some (((decide (am_i32 (x3 * ((J 22 1) - x5))) && decide (am_i32 (q1221 * x4))) && true), .inl (bif am_cb .le (q1221 * x4) (x3 * ((J 22 1) - x5)) then 103 else 93, [(0, am_pv 0), (1, am_iv x1), (2, am_iv x2), (3, am_iv x3), (4, am_iv x4), (5, am_iv x5), (6, am_iv q1221), (7, am_iv ((J 22 1) - x5))], [], am_SH, (J, K, am_RF b))) from rfl) (am_g2 g1225 g1226 rfl) (am_nd_f c1227) ?_
            refine am_r_go (show am_stepn X T_UpRiver_judge 2 true (103, [(0, am_pv 0), (1, am_iv x1), (2, am_iv x2), (3, am_iv x3), (4, am_iv x4), (5, am_iv x5), (6, am_iv q1221), (7, am_iv ((J 22 1) - x5))], [], am_SH, (J, K, am_RF b)) = some (true, .inl (24, [(0, am_pv 0), (1, am_iv x1), (2, am_iv x2), (3, am_iv x3), (4, am_iv x4), (5, am_iv (x5 + 1))], [], am_SH, (J, K, am_RF b))) from rfl) rfl ?_
            exact ih _ _ _ _ _ _ h
      · rw [if_neg c1220] at h
        refine am_r_t (show am_stepn X T_UpRiver_judge 6 true (31, [(0, am_pv 0), (1, am_iv x1), (2, am_iv x2), (3, am_iv x3), (4, am_iv x4), (5, am_iv x5)], [], am_SH, (J, K, am_RF b)) = some (((decide (am_i32 (J 22 1)) && decide (am_i32 x5)) && true), .inl (bif am_cb .ge x5 (J 22 1) then 109 else 46, [(0, am_pv 0), (1, am_iv x1), (2, am_iv x2), (3, am_iv x3), (4, am_iv x4), (5, am_iv x5)], [], am_SH, (J, K, am_RF b))) from rfl) (am_g2 g1219 g1217 rfl) (am_nd_f c1220) ?_
        refine am_r_eq (σ' := (109, [(1, am_iv x1), (2, am_iv x2), (3, am_iv x3), (4, am_iv x4)], [], am_SH, (J, K, am_RF b))) rfl ?_
        exact s_UpRiver_judge_L109  _ _ _ _ _ h
theorem s_UpRiver_judge {X : am_X} {b : Bool} {J : am_J} {K : am_K} {x1 : Int} {r : Int} (h : f_UpRiver_judge J x1 = some r) : am_runs X T_UpRiver_judge (0, [(0, am_pv 0), (1, am_iv x1)], [], am_SH, (J, K, am_RF b)) (some (am_iv r), am_SH, (J, K, am_RF b)) := by
  unfold f_UpRiver_judge at h
  obtain ⟨g1228, h⟩ := am_if_some h
  by_cases c1229 : x1 < 0
  · rw [if_pos c1229] at h
    refine am_r_t (show am_stepn X T_UpRiver_judge 2 true (0, [(0, am_pv 0), (1, am_iv x1)], [], am_SH, (J, K, am_RF b)) = some ((decide (am_i32 x1) && true), .inl (bif am_cb .lt x1 0 then 9 else 4, [(0, am_pv 0), (1, am_iv x1)], [], am_SH, (J, K, am_RF b))) from rfl) (am_g1 g1228 rfl) (decide_eq_true c1229) ?_
    obtain rfl := Option.some.inj h
    exact am_r_ret (show am_stepn X T_UpRiver_judge 2 true (9, [(0, am_pv 0), (1, am_iv x1)], [], am_SH, (J, K, am_RF b)) = some (true, .inr (.inr (some (am_iv (-1)), am_SH, (J, K, am_RF b)))) from rfl) rfl
  · rw [if_neg c1229] at h
    refine am_r_f (show am_stepn X T_UpRiver_judge 2 true (0, [(0, am_pv 0), (1, am_iv x1)], [], am_SH, (J, K, am_RF b)) = some ((decide (am_i32 x1) && true), .inl (bif am_cb .lt x1 0 then 9 else 4, [(0, am_pv 0), (1, am_iv x1)], [], am_SH, (J, K, am_RF b))) from rfl) (am_g1 g1228 rfl) (decide_eq_false c1229) ?_
    by_cases c1230 : 2 < x1
    · rw [if_pos c1230] at h
      refine am_r_f (show am_stepn X T_UpRiver_judge 3 true (4, [(0, am_pv 0), (1, am_iv x1)], [], am_SH, (J, K, am_RF b)) = some (((decide (am_i32 2) && decide (am_i32 x1)) && true), .inl (bif am_cb .le x1 2 then 11 else 9, [(0, am_pv 0), (1, am_iv x1)], [], am_SH, (J, K, am_RF b))) from rfl) (am_g2 (by decide) g1228 rfl) (am_nd_t c1230) ?_
      obtain rfl := Option.some.inj h
      exact am_r_ret (show am_stepn X T_UpRiver_judge 2 true (9, [(0, am_pv 0), (1, am_iv x1)], [], am_SH, (J, K, am_RF b)) = some (true, .inr (.inr (some (am_iv (-1)), am_SH, (J, K, am_RF b)))) from rfl) rfl
    · rw [if_neg c1230] at h
      refine am_r_t (show am_stepn X T_UpRiver_judge 3 true (4, [(0, am_pv 0), (1, am_iv x1)], [], am_SH, (J, K, am_RF b)) = some (((decide (am_i32 2) && decide (am_i32 x1)) && true), .inl (bif am_cb .le x1 2 then 11 else 9, [(0, am_pv 0), (1, am_iv x1)], [], am_SH, (J, K, am_RF b))) from rfl) (am_g2 (by decide) g1228 rfl) (am_nd_f c1230) ?_
      refine am_r_go (show am_stepn X T_UpRiver_judge 8 true (11, [(0, am_pv 0), (1, am_iv x1)], [], am_SH, (J, K, am_RF b)) = some (true, .inl (24, [(0, am_pv 0), (1, am_iv x1), (2, am_iv (-4)), (3, am_iv (-4)), (4, am_iv (-4)), (5, am_iv 1)], [], am_SH, (J, K, am_RF b))) from rfl) rfl ?_
      exact s_UpRiver_judge_L24  _ _ _ _ _ _ _ h
theorem s_UpRiver_barge_L233_f {X : am_X} {K : am_K} {kb73 : Int → Int → Int → Int → am_J → Option (Int × am_J)} (hk73 : ∀ (x1 : Int) (x2 : Int) (x5 : Int) (x6 : Int) (J : am_J) (r : Int × am_J), kb73 x1 x2 x5 x6 J = some r → am_runs X T_UpRiver_barge (73, [(0, am_pv 0), (1, am_iv x1), (2, am_iv x2), (5, am_iv x5), (6, am_iv x6)], [], am_SH, (J, K, am_RF false)) (some (am_iv r.1), am_SH, (r.2, K, am_RF false))) : ∀ (x1 : Int) (x2 : Int) (x5 : Int) (x6 : Int) (x11 : Int) (J : am_J) (r : Int × am_J), f_UpRiver_barge_L233 false kb73  x1 x2 x5 x6 x11 J = some r → am_runs X T_UpRiver_barge (233, [(0, am_pv 0), (1, am_iv x1), (2, am_iv x2), (5, am_iv x5), (6, am_iv x6), (11, am_iv x11)], [], am_SH, (J, K, am_RF false)) (some (am_iv r.1), am_SH, (r.2, K, am_RF false)) := by
  intro x1 x2 x5 x6 x11 J r h
  unfold f_UpRiver_barge_L233 at h
  obtain ⟨g1231, h⟩ := am_if_some h
  by_cases c1232 : x11 = 0
  · rw [if_pos c1232] at h
    refine am_r_t (show am_stepn X T_UpRiver_barge 2 true (233, [(0, am_pv 0), (1, am_iv x1), (2, am_iv x2), (5, am_iv x5), (6, am_iv x6), (11, am_iv x11)], [], am_SH, (J, K, am_RF false)) = some ((decide (am_i32 x11) && true), .inl (bif am_cb .eq x11 0 then 241 else 238, [(0, am_pv 0), (1, am_iv x1), (2, am_iv x2), (5, am_iv x5), (6, am_iv x6), (11, am_iv x11)], [], am_SH, (J, K, am_RF false))) from rfl) (am_g1 g1231 rfl) (decide_eq_true c1232) ?_
    refine am_r_go (show am_stepn X T_UpRiver_barge 2 true (241, [(0, am_pv 0), (1, am_iv x1), (2, am_iv x2), (5, am_iv x5), (6, am_iv x6), (11, am_iv x11)], [], am_SH, (J, K, am_RF false)) = some (true, .inl (73, [(0, am_pv 0), (1, am_iv x1), (2, am_iv x2), (5, am_iv x5), (6, am_iv (x6 + 1))], [], am_SH, (J, K, am_RF false))) from rfl) rfl ?_
    exact hk73 _ _ _ _ _ _ h
  · rw [if_neg c1232] at h
    refine am_r_f (show am_stepn X T_UpRiver_barge 2 true (233, [(0, am_pv 0), (1, am_iv x1), (2, am_iv x2), (5, am_iv x5), (6, am_iv x6), (11, am_iv x11)], [], am_SH, (J, K, am_RF false)) = some ((decide (am_i32 x11) && true), .inl (bif am_cb .eq x11 0 then 241 else 238, [(0, am_pv 0), (1, am_iv x1), (2, am_iv x2), (5, am_iv x5), (6, am_iv x6), (11, am_iv x11)], [], am_SH, (J, K, am_RF false))) from rfl) (am_g1 g1231 rfl) (decide_eq_false c1232) ?_
    obtain rfl := Option.some.inj h
    exact am_r_ret (show am_stepn X T_UpRiver_barge 3 true (238, [(0, am_pv 0), (1, am_iv x1), (2, am_iv x2), (5, am_iv x5), (6, am_iv x6), (11, am_iv x11)], [], am_SH, (J, K, am_RF false)) = some (true, .inr (.inr (some (am_iv (-4)), am_SH, (J, K, am_RF false)))) from rfl) rfl
theorem s_UpRiver_barge_L198_f {X : am_X} {K : am_K} {kb73 : Int → Int → Int → Int → am_J → Option (Int × am_J)} (hk73 : ∀ (x1 : Int) (x2 : Int) (x5 : Int) (x6 : Int) (J : am_J) (r : Int × am_J), kb73 x1 x2 x5 x6 J = some r → am_runs X T_UpRiver_barge (73, [(0, am_pv 0), (1, am_iv x1), (2, am_iv x2), (5, am_iv x5), (6, am_iv x6)], [], am_SH, (J, K, am_RF false)) (some (am_iv r.1), am_SH, (r.2, K, am_RF false))) : ∀ (x1 : Int) (x2 : Int) (x5 : Int) (x6 : Int) (x7 : Int) (x8 : Int) (x9 : Int) (x10 : Int) (x11 : Int) (s0 : Int) (J : am_J) (r : Int × am_J), f_UpRiver_barge_L198 false kb73  x1 x2 x5 x6 x7 x8 x9 x10 x11 s0 J = some r → am_runs X T_UpRiver_barge (198, [(0, am_pv 0), (1, am_iv x1), (2, am_iv x2), (5, am_iv x5), (6, am_iv x6), (7, am_iv x7), (8, am_iv x8), (9, am_iv x9), (10, am_iv x10), (11, am_iv x11)], [am_iv s0], am_SH, (J, K, am_RF false)) (some (am_iv r.1), am_SH, (r.2, K, am_RF false)) := by
  intro x1 x2 x5 x6 x7 x8 x9 x10 x11 s0 J r h
  unfold f_UpRiver_barge_L198 at h
  obtain ⟨g1233, h⟩ := am_if_some h
  obtain ⟨g1234, h⟩ := am_if_some h
  by_cases c1235 : x8 = x1
  · rw [if_pos c1235] at h
    refine am_r_f (show am_stepn X T_UpRiver_barge 4 true (198, [(0, am_pv 0), (1, am_iv x1), (2, am_iv x2), (5, am_iv x5), (6, am_iv x6), (7, am_iv x7), (8, am_iv x8), (9, am_iv x9), (10, am_iv x10), (11, am_iv x11)], [am_iv s0], am_SH, (J, K, am_RF false)) = some (((decide (am_i32 x1) && decide (am_i32 x8)) && true), .inl (bif am_cb .ne x8 x1 then 233 else 206, [(0, am_pv 0), (1, am_iv x1), (2, am_iv x2), (5, am_iv x5), (6, am_iv x6), (7, am_iv x7), (8, am_iv x8), (9, am_iv x9), (10, am_iv x10), (11, am_iv x11), (12, am_iv s0)], [], am_SH, (J, K, am_RF false))) from rfl) (am_g2 g1233 g1234 rfl) (am_nd_t c1235) ?_
    obtain ⟨g1236, h⟩ := am_if_some h
    obtain ⟨g1237, h⟩ := am_if_some h
    by_cases c1238 : x10 < x9
    · rw [if_pos c1238] at h
      refine am_r_t (show am_stepn X T_UpRiver_barge 3 true (206, [(0, am_pv 0), (1, am_iv x1), (2, am_iv x2), (5, am_iv x5), (6, am_iv x6), (7, am_iv x7), (8, am_iv x8), (9, am_iv x9), (10, am_iv x10), (11, am_iv x11), (12, am_iv s0)], [], am_SH, (J, K, am_RF false)) = some (((decide (am_i32 x9) && decide (am_i32 x10)) && true), .inl (bif am_cb .lt x10 x9 then 233 else 213, [(0, am_pv 0), (1, am_iv x1), (2, am_iv x2), (5, am_iv x5), (6, am_iv x6), (7, am_iv x7), (9, am_iv x9), (10, am_iv x10), (11, am_iv x11), (12, am_iv s0)], [], am_SH, (J, K, am_RF false))) from rfl) (am_g2 g1236 g1237 rfl) (decide_eq_true c1238) ?_
      refine am_r_eq (σ' := (233, [(0, am_pv 0), (1, am_iv x1), (2, am_iv x2), (5, am_iv x5), (6, am_iv x6), (11, am_iv x11)], [], am_SH, (J, K, am_RF false))) rfl ?_
      exact s_UpRiver_barge_L233_f hk73 _ _ _ _ _ _ _ h
    · rw [if_neg c1238] at h
      refine am_r_f (show am_stepn X T_UpRiver_barge 3 true (206, [(0, am_pv 0), (1, am_iv x1), (2, am_iv x2), (5, am_iv x5), (6, am_iv x6), (7, am_iv x7), (8, am_iv x8), (9, am_iv x9), (10, am_iv x10), (11, am_iv x11), (12, am_iv s0)], [], am_SH, (J, K, am_RF false)) = some (((decide (am_i32 x9) && decide (am_i32 x10)) && true), .inl (bif am_cb .lt x10 x9 then 233 else 213, [(0, am_pv 0), (1, am_iv x1), (2, am_iv x2), (5, am_iv x5), (6, am_iv x6), (7, am_iv x7), (9, am_iv x9), (10, am_iv x10), (11, am_iv x11), (12, am_iv s0)], [], am_SH, (J, K, am_RF false))) from rfl) (am_g2 g1236 g1237 rfl) (decide_eq_false c1238) ?_
      obtain ⟨g1239, h⟩ := am_if_some h
      by_cases c1240 : s0 < x10
      · rw [if_pos c1240] at h
        refine am_r_t (show am_stepn X T_UpRiver_barge 3 true (213, [(0, am_pv 0), (1, am_iv x1), (2, am_iv x2), (5, am_iv x5), (6, am_iv x6), (7, am_iv x7), (9, am_iv x9), (10, am_iv x10), (11, am_iv x11), (12, am_iv s0)], [], am_SH, (J, K, am_RF false)) = some (((decide (am_i32 s0) && decide (am_i32 x10)) && true), .inl (bif am_cb .gt x10 s0 then 233 else 220, [(0, am_pv 0), (1, am_iv x1), (2, am_iv x2), (5, am_iv x5), (6, am_iv x6), (7, am_iv x7), (10, am_iv x10), (11, am_iv x11), (12, am_iv s0)], [], am_SH, (J, K, am_RF false))) from rfl) (am_g2 g1239 g1237 rfl) (decide_eq_true c1240) ?_
        refine am_r_eq (σ' := (233, [(0, am_pv 0), (1, am_iv x1), (2, am_iv x2), (5, am_iv x5), (6, am_iv x6), (11, am_iv x11)], [], am_SH, (J, K, am_RF false))) rfl ?_
        exact s_UpRiver_barge_L233_f hk73 _ _ _ _ _ _ _ h
      · rw [if_neg c1240] at h
        refine am_r_f (show am_stepn X T_UpRiver_barge 3 true (213, [(0, am_pv 0), (1, am_iv x1), (2, am_iv x2), (5, am_iv x5), (6, am_iv x6), (7, am_iv x7), (9, am_iv x9), (10, am_iv x10), (11, am_iv x11), (12, am_iv s0)], [], am_SH, (J, K, am_RF false)) = some (((decide (am_i32 s0) && decide (am_i32 x10)) && true), .inl (bif am_cb .gt x10 s0 then 233 else 220, [(0, am_pv 0), (1, am_iv x1), (2, am_iv x2), (5, am_iv x5), (6, am_iv x6), (7, am_iv x7), (10, am_iv x10), (11, am_iv x11), (12, am_iv s0)], [], am_SH, (J, K, am_RF false))) from rfl) (am_g2 g1239 g1237 rfl) (decide_eq_false c1240) ?_
        obtain ⟨g1241, h⟩ := am_if_some h
        by_cases c1242 : x5 = 0
        · rw [if_pos c1242] at h
          refine am_r_f (show am_stepn X T_UpRiver_barge 2 true (220, [(0, am_pv 0), (1, am_iv x1), (2, am_iv x2), (5, am_iv x5), (6, am_iv x6), (7, am_iv x7), (10, am_iv x10), (11, am_iv x11), (12, am_iv s0)], [], am_SH, (J, K, am_RF false)) = some ((decide (am_i32 x5) && true), .inl (bif am_cb .ne x5 0 then 230 else 225, [(5, am_iv x5), (7, am_iv x7), (10, am_iv x10)], [], am_SH, (J, K, am_RF false))) from rfl) (am_g1 g1241 rfl) (am_nd_t c1242) ?_
          obtain rfl := Option.some.inj h
          exact am_r_ret (show am_stepn X T_UpRiver_barge 3 true (225, [(5, am_iv x5), (7, am_iv x7), (10, am_iv x10)], [], am_SH, (J, K, am_RF false)) = some (true, .inr (.inr (some (am_iv x10), am_SH, (J, K, am_RF false)))) from rfl) rfl
        · rw [if_neg c1242] at h
          refine am_r_t (show am_stepn X T_UpRiver_barge 2 true (220, [(0, am_pv 0), (1, am_iv x1), (2, am_iv x2), (5, am_iv x5), (6, am_iv x6), (7, am_iv x7), (10, am_iv x10), (11, am_iv x11), (12, am_iv s0)], [], am_SH, (J, K, am_RF false)) = some ((decide (am_i32 x5) && true), .inl (bif am_cb .ne x5 0 then 230 else 225, [(5, am_iv x5), (7, am_iv x7), (10, am_iv x10)], [], am_SH, (J, K, am_RF false))) from rfl) (am_g1 g1241 rfl) (am_nd_f c1242) ?_
          obtain rfl := Option.some.inj h
          exact am_r_ret (show am_stepn X T_UpRiver_barge 2 true (230, [(5, am_iv x5), (7, am_iv x7), (10, am_iv x10)], [], am_SH, (J, K, am_RF false)) = some (true, .inr (.inr (some (am_iv x7), am_SH, (J, K, am_RF false)))) from rfl) rfl
  · rw [if_neg c1235] at h
    refine am_r_t (show am_stepn X T_UpRiver_barge 4 true (198, [(0, am_pv 0), (1, am_iv x1), (2, am_iv x2), (5, am_iv x5), (6, am_iv x6), (7, am_iv x7), (8, am_iv x8), (9, am_iv x9), (10, am_iv x10), (11, am_iv x11)], [am_iv s0], am_SH, (J, K, am_RF false)) = some (((decide (am_i32 x1) && decide (am_i32 x8)) && true), .inl (bif am_cb .ne x8 x1 then 233 else 206, [(0, am_pv 0), (1, am_iv x1), (2, am_iv x2), (5, am_iv x5), (6, am_iv x6), (7, am_iv x7), (8, am_iv x8), (9, am_iv x9), (10, am_iv x10), (11, am_iv x11), (12, am_iv s0)], [], am_SH, (J, K, am_RF false))) from rfl) (am_g2 g1233 g1234 rfl) (am_nd_f c1235) ?_
    refine am_r_eq (σ' := (233, [(0, am_pv 0), (1, am_iv x1), (2, am_iv x2), (5, am_iv x5), (6, am_iv x6), (11, am_iv x11)], [], am_SH, (J, K, am_RF false))) rfl ?_
    exact s_UpRiver_barge_L233_f hk73 _ _ _ _ _ _ _ h
theorem s_UpRiver_barge_L174_f {X : am_X} {K : am_K} {kb73 : Int → Int → Int → Int → am_J → Option (Int × am_J)} (hk73 : ∀ (x1 : Int) (x2 : Int) (x5 : Int) (x6 : Int) (J : am_J) (r : Int × am_J), kb73 x1 x2 x5 x6 J = some r → am_runs X T_UpRiver_barge (73, [(0, am_pv 0), (1, am_iv x1), (2, am_iv x2), (5, am_iv x5), (6, am_iv x6)], [], am_SH, (J, K, am_RF false)) (some (am_iv r.1), am_SH, (r.2, K, am_RF false))) : ∀ (x1 : Int) (x2 : Int) (x5 : Int) (x6 : Int) (x7 : Int) (x8 : Int) (x9 : Int) (x10 : Int) (s0 : Int) (J : am_J) (r : Int × am_J), f_UpRiver_barge_L174 false kb73  x1 x2 x5 x6 x7 x8 x9 x10 s0 J = some r → am_runs X T_UpRiver_barge (174, [(0, am_pv 0), (1, am_iv x1), (2, am_iv x2), (5, am_iv x5), (6, am_iv x6), (7, am_iv x7), (8, am_iv x8), (9, am_iv x9), (10, am_iv x10)], [am_iv s0], am_SH, (J, K, am_RF false)) (some (am_iv r.1), am_SH, (r.2, K, am_RF false)) := by
  intro x1 x2 x5 x6 x7 x8 x9 x10 s0 J r h
  unfold f_UpRiver_barge_L174 at h
  obtain ⟨g1243, h⟩ := am_if_some h
  by_cases c1244 : s0 = 0
  · rw [if_pos c1244] at h
    refine am_r_t (show am_stepn X T_UpRiver_barge 3 true (174, [(0, am_pv 0), (1, am_iv x1), (2, am_iv x2), (5, am_iv x5), (6, am_iv x6), (7, am_iv x7), (8, am_iv x8), (9, am_iv x9), (10, am_iv x10)], [am_iv s0], am_SH, (J, K, am_RF false)) = some ((decide (am_i32 s0) && true), .inl (bif am_cb .eq s0 0 then 186 else 181, [(0, am_pv 0), (1, am_iv x1), (2, am_iv x2), (5, am_iv x5), (6, am_iv x6), (7, am_iv x7), (8, am_iv x8), (9, am_iv x9), (10, am_iv x10), (11, am_iv s0)], [], am_SH, (J, K, am_RF false))) from rfl) (am_g1 g1243 rfl) (decide_eq_true c1244) ?_
    refine am_r_go (show am_stepn X T_UpRiver_barge 6 true (186, [(0, am_pv 0), (1, am_iv x1), (2, am_iv x2), (5, am_iv x5), (6, am_iv x6), (7, am_iv x7), (8, am_iv x8), (9, am_iv x9), (10, am_iv x10), (11, am_iv s0)], [], am_SH, (J, K, am_RF false)) = some (true, .inl (198, [(0, am_pv 0), (1, am_iv x1), (2, am_iv x2), (5, am_iv x5), (6, am_iv x6), (7, am_iv x7), (8, am_iv x8), (9, am_iv x9), (10, am_iv x10), (11, am_iv s0)], [am_iv ((J 29 3) - 1)], am_SH, (J, K, am_RF false))) from rfl) rfl ?_
    exact s_UpRiver_barge_L198_f hk73 _ _ _ _ _ _ _ _ _ _ _ _ h
  · rw [if_neg c1244] at h
    refine am_r_f (show am_stepn X T_UpRiver_barge 3 true (174, [(0, am_pv 0), (1, am_iv x1), (2, am_iv x2), (5, am_iv x5), (6, am_iv x6), (7, am_iv x7), (8, am_iv x8), (9, am_iv x9), (10, am_iv x10)], [am_iv s0], am_SH, (J, K, am_RF false)) = some ((decide (am_i32 s0) && true), .inl (bif am_cb .eq s0 0 then 186 else 181, [(0, am_pv 0), (1, am_iv x1), (2, am_iv x2), (5, am_iv x5), (6, am_iv x6), (7, am_iv x7), (8, am_iv x8), (9, am_iv x9), (10, am_iv x10), (11, am_iv s0)], [], am_SH, (J, K, am_RF false))) from rfl) (am_g1 g1243 rfl) (decide_eq_false c1244) ?_
    refine am_r_go (show am_stepn X T_UpRiver_barge 2 true (181, [(0, am_pv 0), (1, am_iv x1), (2, am_iv x2), (5, am_iv x5), (6, am_iv x6), (7, am_iv x7), (8, am_iv x8), (9, am_iv x9), (10, am_iv x10), (11, am_iv s0)], [], am_SH, (J, K, am_RF false)) = some (true, .inl (198, [(0, am_pv 0), (1, am_iv x1), (2, am_iv x2), (5, am_iv x5), (6, am_iv x6), (7, am_iv x7), (8, am_iv x8), (9, am_iv x9), (10, am_iv x10), (11, am_iv s0)], [am_iv x9], am_SH, (J, K, am_RF false))) from rfl) rfl ?_
    exact s_UpRiver_barge_L198_f hk73 _ _ _ _ _ _ _ _ _ _ _ _ h
theorem s_UpRiver_barge_L73_f {X : am_X} {K : am_K}  : ∀ (n : Nat) (x1 : Int) (x2 : Int) (x5 : Int) (x6 : Int) (J : am_J) (r : Int × am_J), f_UpRiver_barge_L73 false  n x1 x2 x5 x6 J = some r → am_runs X T_UpRiver_barge (73, [(0, am_pv 0), (1, am_iv x1), (2, am_iv x2), (5, am_iv x5), (6, am_iv x6)], [], am_SH, (J, K, am_RF false)) (some (am_iv r.1), am_SH, (r.2, K, am_RF false)) := by
  intro n
  induction n with
  | zero =>
    intro x1 x2 x5 x6 J r h
    cases h
  | succ n ih =>
    intro x1 x2 x5 x6 J r h
    rw [f_UpRiver_barge_L73.eq_2] at h
    obtain ⟨g1245, h⟩ := am_if_some h
    by_cases c1246 : 300 < x6
    · rw [if_pos c1246] at h
      refine am_r_t (show am_stepn X T_UpRiver_barge 3 true (73, [(0, am_pv 0), (1, am_iv x1), (2, am_iv x2), (5, am_iv x5), (6, am_iv x6)], [], am_SH, (J, K, am_RF false)) = some (((decide (am_i32 300) && decide (am_i32 x6)) && true), .inl (bif am_cb .gt x6 300 then 247 else 81, [(0, am_pv 0), (1, am_iv x1), (2, am_iv x2), (5, am_iv x5), (6, am_iv x6)], [], am_SH, (J, K, am_RF false))) from rfl) (am_g2 (by decide) g1245 rfl) (decide_eq_true c1246) ?_
      obtain rfl := Option.some.inj h
      exact am_r_ret (show am_stepn X T_UpRiver_barge 2 true (247, [(0, am_pv 0), (1, am_iv x1), (2, am_iv x2), (5, am_iv x5), (6, am_iv x6)], [], am_SH, (J, K, am_RF false)) = some (true, .inr (.inr (some (am_iv (-4)), am_SH, (J, K, am_RF false)))) from rfl) rfl
    · rw [if_neg c1246] at h
      refine am_r_f (show am_stepn X T_UpRiver_barge 3 true (73, [(0, am_pv 0), (1, am_iv x1), (2, am_iv x2), (5, am_iv x5), (6, am_iv x6)], [], am_SH, (J, K, am_RF false)) = some (((decide (am_i32 300) && decide (am_i32 x6)) && true), .inl (bif am_cb .gt x6 300 then 247 else 81, [(0, am_pv 0), (1, am_iv x1), (2, am_iv x2), (5, am_iv x5), (6, am_iv x6)], [], am_SH, (J, K, am_RF false))) from rfl) (am_g2 (by decide) g1245 rfl) (decide_eq_false c1246) ?_
      obtain ⟨q1247, e1248, h⟩ := am_bind_some h
      refine am_r_call (show am_stepn X T_UpRiver_barge 6 true (81, [(0, am_pv 0), (1, am_iv x1), (2, am_iv x2), (5, am_iv x5), (6, am_iv x6)], [], am_SH, (J, K, am_RF false)) = some (true, .inr (.inl (71, [am_pv 29, am_pv (am_rv false)], 2, 0, 0, 95, [(0, am_pv 0), (1, am_iv x1), (2, am_iv x2), (5, am_iv x5), (6, am_iv x6)], [], am_SH, (J, K, am_RF false)))) from rfl) rfl tb_Boat_isUp (s_Boat_isUp (by decide) e1248) ?_
      obtain ⟨g1249, h⟩ := am_if_some h
      by_cases c1250 : q1247 = 0
      · rw [if_pos c1250] at h
        refine am_r_f (show am_stepn X T_UpRiver_barge 1 true (95, [(0, am_pv 0), (1, am_iv x1), (2, am_iv x2), (5, am_iv x5), (6, am_iv x6)], [am_iv q1247], am_SH, (J, K, am_RF false)) = some ((decide (am_i32 q1247) && true), .inl (bif am_cb .ne q1247 0 then 247 else 98, [(0, am_pv 0), (1, am_iv x1), (2, am_iv x2), (5, am_iv x5), (6, am_iv x6)], [], am_SH, (J, K, am_RF false))) from rfl) (am_g1 g1249 rfl) (am_nd_t c1250) ?_
        obtain ⟨g1251, h⟩ := am_if_some h
        obtain ⟨q1252, e1253, h⟩ := am_bind_some h
        refine am_r_call (show am_stepn X T_UpRiver_barge 34 true (98, [(0, am_pv 0), (1, am_iv x1), (2, am_iv x2), (5, am_iv x5), (6, am_iv x6)], [], am_SH, (J, K, am_RF false)) = some ((am_in 0 7 && ((decide (0 < (8 : Int) ∧ am_i32 8) && decide (am_i32 (J 29 0))) && true)), .inr (.inl (108, [am_pv 28, am_pv (am_rv false)], 4, 0, 0, 166, [(0, am_pv 0), (1, am_iv x1), (2, am_iv x2), (5, am_iv x5), (6, am_iv x6), (7, am_iv (am_dv (J 29 0) 8)), (8, am_iv (J 29 1)), (9, am_iv (J 29 3)), (10, am_iv (((x2 + (J (am_rv false + 1) 0)) - 1) - (am_dv (J 29 0) 8)))], [], am_SH, (J, K, am_RF false)))) from rfl) (am_gi (by decide) (am_g2 (by decide) g1251 rfl)) tb_Skipper_act (s_Skipper_act (by decide) e1253) ?_
        obtain ⟨g1254, h⟩ := am_if_some h
        by_cases c1255 : q1252.1 = 0
        · rw [if_pos c1255] at h
          refine am_r_f (show am_stepn X T_UpRiver_barge 1 true (166, [(0, am_pv 0), (1, am_iv x1), (2, am_iv x2), (5, am_iv x5), (6, am_iv x6), (7, am_iv (am_dv (J 29 0) 8)), (8, am_iv (J 29 1)), (9, am_iv (J 29 3)), (10, am_iv (((x2 + (J (am_rv false + 1) 0)) - 1) - (am_dv (J 29 0) 8)))], [am_iv q1252.1], am_SH, (q1252.2, K, am_RF false)) = some ((decide (am_i32 q1252.1) && true), .inl (bif am_cb .ne q1252.1 0 then 173 else 169, [(0, am_pv 0), (1, am_iv x1), (2, am_iv x2), (5, am_iv x5), (6, am_iv x6), (7, am_iv (am_dv (J 29 0) 8)), (8, am_iv (J 29 1)), (9, am_iv (J 29 3)), (10, am_iv (((x2 + (J (am_rv false + 1) 0)) - 1) - (am_dv (J 29 0) 8)))], [], am_SH, (q1252.2, K, am_RF false))) from rfl) (am_g1 g1254 rfl) (am_nd_t c1255) ?_
          refine am_r_go (show am_stepn X T_UpRiver_barge 2 true (169, [(0, am_pv 0), (1, am_iv x1), (2, am_iv x2), (5, am_iv x5), (6, am_iv x6), (7, am_iv (am_dv (J 29 0) 8)), (8, am_iv (J 29 1)), (9, am_iv (J 29 3)), (10, am_iv (((x2 + (J (am_rv false + 1) 0)) - 1) - (am_dv (J 29 0) 8)))], [], am_SH, (q1252.2, K, am_RF false)) = some (true, .inl (174, [(0, am_pv 0), (1, am_iv x1), (2, am_iv x2), (5, am_iv x5), (6, am_iv x6), (7, am_iv (am_dv (J 29 0) 8)), (8, am_iv (J 29 1)), (9, am_iv (J 29 3)), (10, am_iv (((x2 + (J (am_rv false + 1) 0)) - 1) - (am_dv (J 29 0) 8)))], [am_iv 1], am_SH, (q1252.2, K, am_RF false))) from rfl) rfl ?_
          exact s_UpRiver_barge_L174_f ih _ _ _ _ _ _ _ _ _ _ _ h
        · rw [if_neg c1255] at h
          refine am_r_t (show am_stepn X T_UpRiver_barge 1 true (166, [(0, am_pv 0), (1, am_iv x1), (2, am_iv x2), (5, am_iv x5), (6, am_iv x6), (7, am_iv (am_dv (J 29 0) 8)), (8, am_iv (J 29 1)), (9, am_iv (J 29 3)), (10, am_iv (((x2 + (J (am_rv false + 1) 0)) - 1) - (am_dv (J 29 0) 8)))], [am_iv q1252.1], am_SH, (q1252.2, K, am_RF false)) = some ((decide (am_i32 q1252.1) && true), .inl (bif am_cb .ne q1252.1 0 then 173 else 169, [(0, am_pv 0), (1, am_iv x1), (2, am_iv x2), (5, am_iv x5), (6, am_iv x6), (7, am_iv (am_dv (J 29 0) 8)), (8, am_iv (J 29 1)), (9, am_iv (J 29 3)), (10, am_iv (((x2 + (J (am_rv false + 1) 0)) - 1) - (am_dv (J 29 0) 8)))], [], am_SH, (q1252.2, K, am_RF false))) from rfl) (am_g1 g1254 rfl) (am_nd_f c1255) ?_
          refine am_r_go (show am_stepn X T_UpRiver_barge 1 true (173, [(0, am_pv 0), (1, am_iv x1), (2, am_iv x2), (5, am_iv x5), (6, am_iv x6), (7, am_iv (am_dv (J 29 0) 8)), (8, am_iv (J 29 1)), (9, am_iv (J 29 3)), (10, am_iv (((x2 + (J (am_rv false + 1) 0)) - 1) - (am_dv (J 29 0) 8)))], [], am_SH, (q1252.2, K, am_RF false)) = some (true, .inl (174, [(0, am_pv 0), (1, am_iv x1), (2, am_iv x2), (5, am_iv x5), (6, am_iv x6), (7, am_iv (am_dv (J 29 0) 8)), (8, am_iv (J 29 1)), (9, am_iv (J 29 3)), (10, am_iv (((x2 + (J (am_rv false + 1) 0)) - 1) - (am_dv (J 29 0) 8)))], [am_iv 0], am_SH, (q1252.2, K, am_RF false))) from rfl) rfl ?_
          exact s_UpRiver_barge_L174_f ih _ _ _ _ _ _ _ _ _ _ _ h
      · rw [if_neg c1250] at h
        refine am_r_t (show am_stepn X T_UpRiver_barge 1 true (95, [(0, am_pv 0), (1, am_iv x1), (2, am_iv x2), (5, am_iv x5), (6, am_iv x6)], [am_iv q1247], am_SH, (J, K, am_RF false)) = some ((decide (am_i32 q1247) && true), .inl (bif am_cb .ne q1247 0 then 247 else 98, [(0, am_pv 0), (1, am_iv x1), (2, am_iv x2), (5, am_iv x5), (6, am_iv x6)], [], am_SH, (J, K, am_RF false))) from rfl) (am_g1 g1249 rfl) (am_nd_f c1250) ?_
        obtain rfl := Option.some.inj h
        exact am_r_ret (show am_stepn X T_UpRiver_barge 2 true (247, [(0, am_pv 0), (1, am_iv x1), (2, am_iv x2), (5, am_iv x5), (6, am_iv x6)], [], am_SH, (J, K, am_RF false)) = some (true, .inr (.inr (some (am_iv (-4)), am_SH, (J, K, am_RF false)))) from rfl) rfl
theorem s_UpRiver_barge_f {X : am_X} {K : am_K} {x1 : Int} {x2 : Int} {x3 : Int} {x4 : Int} {x5 : Int} {J : am_J} {r : Int × am_J} (h : f_UpRiver_barge false x1 x2 x3 x4 x5 J = some r) : am_runs X T_UpRiver_barge (0, [(0, am_pv 0), (1, am_iv x1), (2, am_iv x2), (3, am_iv x3), (4, am_iv x4), (5, am_iv x5)], [], am_SH, (J, K, am_RF false)) (some (am_iv r.1), am_SH, (r.2, K, am_RF false)) := by
  unfold f_UpRiver_barge at h
  obtain ⟨q1256, e1257, h⟩ := am_bind_some h
  refine am_r_call (show am_stepn X T_UpRiver_barge 2 true (0, [(0, am_pv 0), (1, am_iv x1), (2, am_iv x2), (3, am_iv x3), (4, am_iv x4), (5, am_iv x5)], [], am_SH, (J, K, am_RF false)) = some (true, .inr (.inl (66, [am_iv x1], 1, 0, 0, 4, [(0, am_pv 0), (1, am_iv x1), (2, am_iv x2), (3, am_iv x3), (4, am_iv x4), (5, am_iv x5)], [], am_SH, (J, K, am_RF false)))) from rfl) rfl tb_UpRiver_isLane (s_UpRiver_isLane e1257) ?_
  obtain ⟨g1258, h⟩ := am_if_some h
  by_cases c1259 : q1256 = 0
  · rw [if_pos c1259] at h
    refine am_r_t (show am_stepn X T_UpRiver_barge 1 true (4, [(0, am_pv 0), (1, am_iv x1), (2, am_iv x2), (3, am_iv x3), (4, am_iv x4), (5, am_iv x5)], [am_iv q1256], am_SH, (J, K, am_RF false)) = some ((decide (am_i32 q1256) && true), .inl (bif am_cb .eq q1256 0 then 31 else 7, [(0, am_pv 0), (1, am_iv x1), (2, am_iv x2), (3, am_iv x3), (4, am_iv x4), (5, am_iv x5)], [], am_SH, (J, K, am_RF false))) from rfl) (am_g1 g1258 rfl) (decide_eq_true c1259) ?_
    obtain rfl := Option.some.inj h
    exact am_r_ret (show am_stepn X T_UpRiver_barge 2 true (31, [(0, am_pv 0), (1, am_iv x1), (2, am_iv x2), (3, am_iv x3), (4, am_iv x4), (5, am_iv x5)], [], am_SH, (J, K, am_RF false)) = some (true, .inr (.inr (some (am_iv (-1)), am_SH, (J, K, am_RF false)))) from rfl) rfl
  · rw [if_neg c1259] at h
    refine am_r_f (show am_stepn X T_UpRiver_barge 1 true (4, [(0, am_pv 0), (1, am_iv x1), (2, am_iv x2), (3, am_iv x3), (4, am_iv x4), (5, am_iv x5)], [am_iv q1256], am_SH, (J, K, am_RF false)) = some ((decide (am_i32 q1256) && true), .inl (bif am_cb .eq q1256 0 then 31 else 7, [(0, am_pv 0), (1, am_iv x1), (2, am_iv x2), (3, am_iv x3), (4, am_iv x4), (5, am_iv x5)], [], am_SH, (J, K, am_RF false))) from rfl) (am_g1 g1258 rfl) (decide_eq_false c1259) ?_
    obtain ⟨q1260, e1261, h⟩ := am_bind_some h
    refine am_r_call (show am_stepn X T_UpRiver_barge 2 true (7, [(0, am_pv 0), (1, am_iv x1), (2, am_iv x2), (3, am_iv x3), (4, am_iv x4), (5, am_iv x5)], [], am_SH, (J, K, am_RF false)) = some (true, .inr (.inl (60, [am_iv x2], 1, 0, 0, 11, [(0, am_pv 0), (1, am_iv x1), (2, am_iv x2), (3, am_iv x3), (4, am_iv x4), (5, am_iv x5)], [], am_SH, (J, K, am_RF false)))) from rfl) rfl tb_UpRiver_isMinute (s_UpRiver_isMinute e1261) ?_
    obtain ⟨g1262, h⟩ := am_if_some h
    by_cases c1263 : q1260 = 0
    · rw [if_pos c1263] at h
      refine am_r_t (show am_stepn X T_UpRiver_barge 1 true (11, [(0, am_pv 0), (1, am_iv x1), (2, am_iv x2), (3, am_iv x3), (4, am_iv x4), (5, am_iv x5)], [am_iv q1260], am_SH, (J, K, am_RF false)) = some ((decide (am_i32 q1260) && true), .inl (bif am_cb .eq q1260 0 then 31 else 14, [(0, am_pv 0), (1, am_iv x1), (2, am_iv x2), (3, am_iv x3), (4, am_iv x4), (5, am_iv x5)], [], am_SH, (J, K, am_RF false))) from rfl) (am_g1 g1262 rfl) (decide_eq_true c1263) ?_
      obtain rfl := Option.some.inj h
      exact am_r_ret (show am_stepn X T_UpRiver_barge 2 true (31, [(0, am_pv 0), (1, am_iv x1), (2, am_iv x2), (3, am_iv x3), (4, am_iv x4), (5, am_iv x5)], [], am_SH, (J, K, am_RF false)) = some (true, .inr (.inr (some (am_iv (-1)), am_SH, (J, K, am_RF false)))) from rfl) rfl
    · rw [if_neg c1263] at h
      refine am_r_f (show am_stepn X T_UpRiver_barge 1 true (11, [(0, am_pv 0), (1, am_iv x1), (2, am_iv x2), (3, am_iv x3), (4, am_iv x4), (5, am_iv x5)], [am_iv q1260], am_SH, (J, K, am_RF false)) = some ((decide (am_i32 q1260) && true), .inl (bif am_cb .eq q1260 0 then 31 else 14, [(0, am_pv 0), (1, am_iv x1), (2, am_iv x2), (3, am_iv x3), (4, am_iv x4), (5, am_iv x5)], [], am_SH, (J, K, am_RF false))) from rfl) (am_g1 g1262 rfl) (decide_eq_false c1263) ?_
      obtain ⟨q1264, e1265, h⟩ := am_bind_some h
      refine am_r_call (show am_stepn X T_UpRiver_barge 3 true (14, [(0, am_pv 0), (1, am_iv x1), (2, am_iv x2), (3, am_iv x3), (4, am_iv x4), (5, am_iv x5)], [], am_SH, (J, K, am_RF false)) = some (true, .inr (.inl (105, [am_iv x3, am_iv x4], 2, 0, 0, 20, [(0, am_pv 0), (1, am_iv x1), (2, am_iv x2), (3, am_iv x3), (4, am_iv x4), (5, am_iv x5)], [], am_SH, (J, K, am_RF false)))) from rfl) rfl tb_UpRiver_isSkipper (s_UpRiver_isSkipper e1265) ?_
      obtain ⟨g1266, h⟩ := am_if_some h
      by_cases c1267 : q1264 = 0
      · rw [if_pos c1267] at h
        refine am_r_t (show am_stepn X T_UpRiver_barge 1 true (20, [(0, am_pv 0), (1, am_iv x1), (2, am_iv x2), (3, am_iv x3), (4, am_iv x4), (5, am_iv x5)], [am_iv q1264], am_SH, (J, K, am_RF false)) = some ((decide (am_i32 q1264) && true), .inl (bif am_cb .eq q1264 0 then 31 else 23, [(0, am_pv 0), (1, am_iv x1), (2, am_iv x2), (3, am_iv x3), (4, am_iv x4), (5, am_iv x5)], [], am_SH, (J, K, am_RF false))) from rfl) (am_g1 g1266 rfl) (decide_eq_true c1267) ?_
        obtain rfl := Option.some.inj h
        exact am_r_ret (show am_stepn X T_UpRiver_barge 2 true (31, [(0, am_pv 0), (1, am_iv x1), (2, am_iv x2), (3, am_iv x3), (4, am_iv x4), (5, am_iv x5)], [], am_SH, (J, K, am_RF false)) = some (true, .inr (.inr (some (am_iv (-1)), am_SH, (J, K, am_RF false)))) from rfl) rfl
      · rw [if_neg c1267] at h
        refine am_r_f (show am_stepn X T_UpRiver_barge 1 true (20, [(0, am_pv 0), (1, am_iv x1), (2, am_iv x2), (3, am_iv x3), (4, am_iv x4), (5, am_iv x5)], [am_iv q1264], am_SH, (J, K, am_RF false)) = some ((decide (am_i32 q1264) && true), .inl (bif am_cb .eq q1264 0 then 31 else 23, [(0, am_pv 0), (1, am_iv x1), (2, am_iv x2), (3, am_iv x3), (4, am_iv x4), (5, am_iv x5)], [], am_SH, (J, K, am_RF false))) from rfl) (am_g1 g1266 rfl) (decide_eq_false c1267) ?_
        obtain ⟨q1268, e1269, h⟩ := am_bind_some h
        refine am_r_call (show am_stepn X T_UpRiver_barge 2 true (23, [(0, am_pv 0), (1, am_iv x1), (2, am_iv x2), (3, am_iv x3), (4, am_iv x4), (5, am_iv x5)], [], am_SH, (J, K, am_RF false)) = some (true, .inr (.inl (67, [am_iv x5], 1, 0, 0, 28, [(0, am_pv 0), (1, am_iv x1), (2, am_iv x2), (3, am_iv x3), (4, am_iv x4), (5, am_iv x5)], [], am_SH, (J, K, am_RF false)))) from rfl) rfl tb_UpRiver_isYesOrNo (s_UpRiver_isYesOrNo e1269) ?_
        obtain ⟨g1270, h⟩ := am_if_some h
        by_cases c1271 : q1268 = 0
        · rw [if_pos c1271] at h
          refine am_r_f (show am_stepn X T_UpRiver_barge 1 true (28, [(0, am_pv 0), (1, am_iv x1), (2, am_iv x2), (3, am_iv x3), (4, am_iv x4), (5, am_iv x5)], [am_iv q1268], am_SH, (J, K, am_RF false)) = some ((decide (am_i32 q1268) && true), .inl (bif am_cb .ne q1268 0 then 33 else 31, [(0, am_pv 0), (1, am_iv x1), (2, am_iv x2), (3, am_iv x3), (4, am_iv x4), (5, am_iv x5)], [], am_SH, (J, K, am_RF false))) from rfl) (am_g1 g1270 rfl) (am_nd_t c1271) ?_
          obtain rfl := Option.some.inj h
          exact am_r_ret (show am_stepn X T_UpRiver_barge 2 true (31, [(0, am_pv 0), (1, am_iv x1), (2, am_iv x2), (3, am_iv x3), (4, am_iv x4), (5, am_iv x5)], [], am_SH, (J, K, am_RF false)) = some (true, .inr (.inr (some (am_iv (-1)), am_SH, (J, K, am_RF false)))) from rfl) rfl
        · rw [if_neg c1271] at h
          refine am_r_t (show am_stepn X T_UpRiver_barge 1 true (28, [(0, am_pv 0), (1, am_iv x1), (2, am_iv x2), (3, am_iv x3), (4, am_iv x4), (5, am_iv x5)], [am_iv q1268], am_SH, (J, K, am_RF false)) = some ((decide (am_i32 q1268) && true), .inl (bif am_cb .ne q1268 0 then 33 else 31, [(0, am_pv 0), (1, am_iv x1), (2, am_iv x2), (3, am_iv x3), (4, am_iv x4), (5, am_iv x5)], [], am_SH, (J, K, am_RF false))) from rfl) (am_g1 g1270 rfl) (am_nd_f c1271) ?_
          obtain ⟨q1272, e1273, h⟩ := am_bind_some h
          refine am_r_call (show am_stepn X T_UpRiver_barge 6 true (33, [(0, am_pv 0), (1, am_iv x1), (2, am_iv x2), (3, am_iv x3), (4, am_iv x4), (5, am_iv x5)], [], am_SH, (J, K, am_RF false)) = some (true, .inr (.inl (71, [am_pv 18, am_pv (am_rv false)], 2, 0, 0, 47, [(0, am_pv 0), (1, am_iv x1), (2, am_iv x2), (3, am_iv x3), (4, am_iv x4), (5, am_iv x5)], [], am_SH, (J, K, am_RF false)))) from rfl) rfl tb_Boat_isUp (s_Boat_isUp (by decide) e1273) ?_
          obtain ⟨g1274, h⟩ := am_if_some h
          by_cases c1275 : q1272 = 0
          · rw [if_pos c1275] at h
            refine am_r_t (show am_stepn X T_UpRiver_barge 1 true (47, [(0, am_pv 0), (1, am_iv x1), (2, am_iv x2), (3, am_iv x3), (4, am_iv x4), (5, am_iv x5)], [am_iv q1272], am_SH, (J, K, am_RF false)) = some ((decide (am_i32 q1272) && true), .inl (bif am_cb .eq q1272 0 then 53 else 50, [(0, am_pv 0), (1, am_iv x1), (2, am_iv x2), (3, am_iv x3), (4, am_iv x4), (5, am_iv x5)], [], am_SH, (J, K, am_RF false))) from rfl) (am_g1 g1274 rfl) (decide_eq_true c1275) ?_
            obtain ⟨q1276, e1277, h⟩ := am_bind_some h
            refine am_r_call (show am_stepn X T_UpRiver_barge 8 true (53, [(0, am_pv 0), (1, am_iv x1), (2, am_iv x2), (3, am_iv x3), (4, am_iv x4), (5, am_iv x5)], [], am_SH, (J, K, am_RF false)) = some (true, .inr (.inl (107, [am_pv 28, am_pv 18, am_iv x3, am_iv x4], 4, 0, 0, 70, [(0, am_pv 0), (1, am_iv x1), (2, am_iv x2), (3, am_iv x3), (4, am_iv x4), (5, am_iv x5)], [], am_SH, (J, K, am_RF false)))) from rfl) rfl tb_Skipper_begin (s_Skipper_begin e1277) ?_
            refine am_r_go (show am_stepn X T_UpRiver_barge 2 true (70, [(0, am_pv 0), (1, am_iv x1), (2, am_iv x2), (3, am_iv x3), (4, am_iv x4), (5, am_iv x5)], [], am_SH, (q1276, K, am_RF false)) = some (true, .inl (73, [(0, am_pv 0), (1, am_iv x1), (2, am_iv x2), (3, am_iv x3), (4, am_iv x4), (5, am_iv x5), (6, am_iv 0)], [], am_SH, (q1276, K, am_RF false))) from rfl) rfl ?_
            refine am_r_eq (σ' := (73, [(0, am_pv 0), (1, am_iv x1), (2, am_iv x2), (5, am_iv x5), (6, am_iv 0)], [], am_SH, (q1276, K, am_RF false))) rfl ?_
            exact s_UpRiver_barge_L73_f  _ _ _ _ _ _ _ h
          · rw [if_neg c1275] at h
            refine am_r_f (show am_stepn X T_UpRiver_barge 1 true (47, [(0, am_pv 0), (1, am_iv x1), (2, am_iv x2), (3, am_iv x3), (4, am_iv x4), (5, am_iv x5)], [am_iv q1272], am_SH, (J, K, am_RF false)) = some ((decide (am_i32 q1272) && true), .inl (bif am_cb .eq q1272 0 then 53 else 50, [(0, am_pv 0), (1, am_iv x1), (2, am_iv x2), (3, am_iv x3), (4, am_iv x4), (5, am_iv x5)], [], am_SH, (J, K, am_RF false))) from rfl) (am_g1 g1274 rfl) (decide_eq_false c1275) ?_
            obtain rfl := Option.some.inj h
            exact am_r_ret (show am_stepn X T_UpRiver_barge 2 true (50, [(0, am_pv 0), (1, am_iv x1), (2, am_iv x2), (3, am_iv x3), (4, am_iv x4), (5, am_iv x5)], [], am_SH, (J, K, am_RF false)) = some (true, .inr (.inr (some (am_iv (-2)), am_SH, (J, K, am_RF false)))) from rfl) rfl
theorem s_UpRiver_barge_L233_t {X : am_X} {K : am_K} {kb73 : Int → Int → Int → Int → am_J → Option (Int × am_J)} (hk73 : ∀ (x1 : Int) (x2 : Int) (x5 : Int) (x6 : Int) (J : am_J) (r : Int × am_J), kb73 x1 x2 x5 x6 J = some r → am_runs X T_UpRiver_barge (73, [(0, am_pv 0), (1, am_iv x1), (2, am_iv x2), (5, am_iv x5), (6, am_iv x6)], [], am_SH, (J, K, am_RF true)) (some (am_iv r.1), am_SH, (r.2, K, am_RF true))) : ∀ (x1 : Int) (x2 : Int) (x5 : Int) (x6 : Int) (x11 : Int) (J : am_J) (r : Int × am_J), f_UpRiver_barge_L233 true kb73  x1 x2 x5 x6 x11 J = some r → am_runs X T_UpRiver_barge (233, [(0, am_pv 0), (1, am_iv x1), (2, am_iv x2), (5, am_iv x5), (6, am_iv x6), (11, am_iv x11)], [], am_SH, (J, K, am_RF true)) (some (am_iv r.1), am_SH, (r.2, K, am_RF true)) := by
  intro x1 x2 x5 x6 x11 J r h
  unfold f_UpRiver_barge_L233 at h
  obtain ⟨g1231, h⟩ := am_if_some h
  by_cases c1232 : x11 = 0
  · rw [if_pos c1232] at h
    refine am_r_t (show am_stepn X T_UpRiver_barge 2 true (233, [(0, am_pv 0), (1, am_iv x1), (2, am_iv x2), (5, am_iv x5), (6, am_iv x6), (11, am_iv x11)], [], am_SH, (J, K, am_RF true)) = some ((decide (am_i32 x11) && true), .inl (bif am_cb .eq x11 0 then 241 else 238, [(0, am_pv 0), (1, am_iv x1), (2, am_iv x2), (5, am_iv x5), (6, am_iv x6), (11, am_iv x11)], [], am_SH, (J, K, am_RF true))) from rfl) (am_g1 g1231 rfl) (decide_eq_true c1232) ?_
    refine am_r_go (show am_stepn X T_UpRiver_barge 2 true (241, [(0, am_pv 0), (1, am_iv x1), (2, am_iv x2), (5, am_iv x5), (6, am_iv x6), (11, am_iv x11)], [], am_SH, (J, K, am_RF true)) = some (true, .inl (73, [(0, am_pv 0), (1, am_iv x1), (2, am_iv x2), (5, am_iv x5), (6, am_iv (x6 + 1))], [], am_SH, (J, K, am_RF true))) from rfl) rfl ?_
    exact hk73 _ _ _ _ _ _ h
  · rw [if_neg c1232] at h
    refine am_r_f (show am_stepn X T_UpRiver_barge 2 true (233, [(0, am_pv 0), (1, am_iv x1), (2, am_iv x2), (5, am_iv x5), (6, am_iv x6), (11, am_iv x11)], [], am_SH, (J, K, am_RF true)) = some ((decide (am_i32 x11) && true), .inl (bif am_cb .eq x11 0 then 241 else 238, [(0, am_pv 0), (1, am_iv x1), (2, am_iv x2), (5, am_iv x5), (6, am_iv x6), (11, am_iv x11)], [], am_SH, (J, K, am_RF true))) from rfl) (am_g1 g1231 rfl) (decide_eq_false c1232) ?_
    obtain rfl := Option.some.inj h
    exact am_r_ret (show am_stepn X T_UpRiver_barge 3 true (238, [(0, am_pv 0), (1, am_iv x1), (2, am_iv x2), (5, am_iv x5), (6, am_iv x6), (11, am_iv x11)], [], am_SH, (J, K, am_RF true)) = some (true, .inr (.inr (some (am_iv (-4)), am_SH, (J, K, am_RF true)))) from rfl) rfl
theorem s_UpRiver_barge_L198_t {X : am_X} {K : am_K} {kb73 : Int → Int → Int → Int → am_J → Option (Int × am_J)} (hk73 : ∀ (x1 : Int) (x2 : Int) (x5 : Int) (x6 : Int) (J : am_J) (r : Int × am_J), kb73 x1 x2 x5 x6 J = some r → am_runs X T_UpRiver_barge (73, [(0, am_pv 0), (1, am_iv x1), (2, am_iv x2), (5, am_iv x5), (6, am_iv x6)], [], am_SH, (J, K, am_RF true)) (some (am_iv r.1), am_SH, (r.2, K, am_RF true))) : ∀ (x1 : Int) (x2 : Int) (x5 : Int) (x6 : Int) (x7 : Int) (x8 : Int) (x9 : Int) (x10 : Int) (x11 : Int) (s0 : Int) (J : am_J) (r : Int × am_J), f_UpRiver_barge_L198 true kb73  x1 x2 x5 x6 x7 x8 x9 x10 x11 s0 J = some r → am_runs X T_UpRiver_barge (198, [(0, am_pv 0), (1, am_iv x1), (2, am_iv x2), (5, am_iv x5), (6, am_iv x6), (7, am_iv x7), (8, am_iv x8), (9, am_iv x9), (10, am_iv x10), (11, am_iv x11)], [am_iv s0], am_SH, (J, K, am_RF true)) (some (am_iv r.1), am_SH, (r.2, K, am_RF true)) := by
  intro x1 x2 x5 x6 x7 x8 x9 x10 x11 s0 J r h
  unfold f_UpRiver_barge_L198 at h
  obtain ⟨g1233, h⟩ := am_if_some h
  obtain ⟨g1234, h⟩ := am_if_some h
  by_cases c1235 : x8 = x1
  · rw [if_pos c1235] at h
    refine am_r_f (show am_stepn X T_UpRiver_barge 4 true (198, [(0, am_pv 0), (1, am_iv x1), (2, am_iv x2), (5, am_iv x5), (6, am_iv x6), (7, am_iv x7), (8, am_iv x8), (9, am_iv x9), (10, am_iv x10), (11, am_iv x11)], [am_iv s0], am_SH, (J, K, am_RF true)) = some (((decide (am_i32 x1) && decide (am_i32 x8)) && true), .inl (bif am_cb .ne x8 x1 then 233 else 206, [(0, am_pv 0), (1, am_iv x1), (2, am_iv x2), (5, am_iv x5), (6, am_iv x6), (7, am_iv x7), (8, am_iv x8), (9, am_iv x9), (10, am_iv x10), (11, am_iv x11), (12, am_iv s0)], [], am_SH, (J, K, am_RF true))) from rfl) (am_g2 g1233 g1234 rfl) (am_nd_t c1235) ?_
    obtain ⟨g1236, h⟩ := am_if_some h
    obtain ⟨g1237, h⟩ := am_if_some h
    by_cases c1238 : x10 < x9
    · rw [if_pos c1238] at h
      refine am_r_t (show am_stepn X T_UpRiver_barge 3 true (206, [(0, am_pv 0), (1, am_iv x1), (2, am_iv x2), (5, am_iv x5), (6, am_iv x6), (7, am_iv x7), (8, am_iv x8), (9, am_iv x9), (10, am_iv x10), (11, am_iv x11), (12, am_iv s0)], [], am_SH, (J, K, am_RF true)) = some (((decide (am_i32 x9) && decide (am_i32 x10)) && true), .inl (bif am_cb .lt x10 x9 then 233 else 213, [(0, am_pv 0), (1, am_iv x1), (2, am_iv x2), (5, am_iv x5), (6, am_iv x6), (7, am_iv x7), (9, am_iv x9), (10, am_iv x10), (11, am_iv x11), (12, am_iv s0)], [], am_SH, (J, K, am_RF true))) from rfl) (am_g2 g1236 g1237 rfl) (decide_eq_true c1238) ?_
      refine am_r_eq (σ' := (233, [(0, am_pv 0), (1, am_iv x1), (2, am_iv x2), (5, am_iv x5), (6, am_iv x6), (11, am_iv x11)], [], am_SH, (J, K, am_RF true))) rfl ?_
      exact s_UpRiver_barge_L233_t hk73 _ _ _ _ _ _ _ h
    · rw [if_neg c1238] at h
      refine am_r_f (show am_stepn X T_UpRiver_barge 3 true (206, [(0, am_pv 0), (1, am_iv x1), (2, am_iv x2), (5, am_iv x5), (6, am_iv x6), (7, am_iv x7), (8, am_iv x8), (9, am_iv x9), (10, am_iv x10), (11, am_iv x11), (12, am_iv s0)], [], am_SH, (J, K, am_RF true)) = some (((decide (am_i32 x9) && decide (am_i32 x10)) && true), .inl (bif am_cb .lt x10 x9 then 233 else 213, [(0, am_pv 0), (1, am_iv x1), (2, am_iv x2), (5, am_iv x5), (6, am_iv x6), (7, am_iv x7), (9, am_iv x9), (10, am_iv x10), (11, am_iv x11), (12, am_iv s0)], [], am_SH, (J, K, am_RF true))) from rfl) (am_g2 g1236 g1237 rfl) (decide_eq_false c1238) ?_
      obtain ⟨g1239, h⟩ := am_if_some h
      by_cases c1240 : s0 < x10
      · rw [if_pos c1240] at h
        refine am_r_t (show am_stepn X T_UpRiver_barge 3 true (213, [(0, am_pv 0), (1, am_iv x1), (2, am_iv x2), (5, am_iv x5), (6, am_iv x6), (7, am_iv x7), (9, am_iv x9), (10, am_iv x10), (11, am_iv x11), (12, am_iv s0)], [], am_SH, (J, K, am_RF true)) = some (((decide (am_i32 s0) && decide (am_i32 x10)) && true), .inl (bif am_cb .gt x10 s0 then 233 else 220, [(0, am_pv 0), (1, am_iv x1), (2, am_iv x2), (5, am_iv x5), (6, am_iv x6), (7, am_iv x7), (10, am_iv x10), (11, am_iv x11), (12, am_iv s0)], [], am_SH, (J, K, am_RF true))) from rfl) (am_g2 g1239 g1237 rfl) (decide_eq_true c1240) ?_
        refine am_r_eq (σ' := (233, [(0, am_pv 0), (1, am_iv x1), (2, am_iv x2), (5, am_iv x5), (6, am_iv x6), (11, am_iv x11)], [], am_SH, (J, K, am_RF true))) rfl ?_
        exact s_UpRiver_barge_L233_t hk73 _ _ _ _ _ _ _ h
      · rw [if_neg c1240] at h
        refine am_r_f (show am_stepn X T_UpRiver_barge 3 true (213, [(0, am_pv 0), (1, am_iv x1), (2, am_iv x2), (5, am_iv x5), (6, am_iv x6), (7, am_iv x7), (9, am_iv x9), (10, am_iv x10), (11, am_iv x11), (12, am_iv s0)], [], am_SH, (J, K, am_RF true)) = some (((decide (am_i32 s0) && decide (am_i32 x10)) && true), .inl (bif am_cb .gt x10 s0 then 233 else 220, [(0, am_pv 0), (1, am_iv x1), (2, am_iv x2), (5, am_iv x5), (6, am_iv x6), (7, am_iv x7), (10, am_iv x10), (11, am_iv x11), (12, am_iv s0)], [], am_SH, (J, K, am_RF true))) from rfl) (am_g2 g1239 g1237 rfl) (decide_eq_false c1240) ?_
        obtain ⟨g1241, h⟩ := am_if_some h
        by_cases c1242 : x5 = 0
        · rw [if_pos c1242] at h
          refine am_r_f (show am_stepn X T_UpRiver_barge 2 true (220, [(0, am_pv 0), (1, am_iv x1), (2, am_iv x2), (5, am_iv x5), (6, am_iv x6), (7, am_iv x7), (10, am_iv x10), (11, am_iv x11), (12, am_iv s0)], [], am_SH, (J, K, am_RF true)) = some ((decide (am_i32 x5) && true), .inl (bif am_cb .ne x5 0 then 230 else 225, [(5, am_iv x5), (7, am_iv x7), (10, am_iv x10)], [], am_SH, (J, K, am_RF true))) from rfl) (am_g1 g1241 rfl) (am_nd_t c1242) ?_
          obtain rfl := Option.some.inj h
          exact am_r_ret (show am_stepn X T_UpRiver_barge 3 true (225, [(5, am_iv x5), (7, am_iv x7), (10, am_iv x10)], [], am_SH, (J, K, am_RF true)) = some (true, .inr (.inr (some (am_iv x10), am_SH, (J, K, am_RF true)))) from rfl) rfl
        · rw [if_neg c1242] at h
          refine am_r_t (show am_stepn X T_UpRiver_barge 2 true (220, [(0, am_pv 0), (1, am_iv x1), (2, am_iv x2), (5, am_iv x5), (6, am_iv x6), (7, am_iv x7), (10, am_iv x10), (11, am_iv x11), (12, am_iv s0)], [], am_SH, (J, K, am_RF true)) = some ((decide (am_i32 x5) && true), .inl (bif am_cb .ne x5 0 then 230 else 225, [(5, am_iv x5), (7, am_iv x7), (10, am_iv x10)], [], am_SH, (J, K, am_RF true))) from rfl) (am_g1 g1241 rfl) (am_nd_f c1242) ?_
          obtain rfl := Option.some.inj h
          exact am_r_ret (show am_stepn X T_UpRiver_barge 2 true (230, [(5, am_iv x5), (7, am_iv x7), (10, am_iv x10)], [], am_SH, (J, K, am_RF true)) = some (true, .inr (.inr (some (am_iv x7), am_SH, (J, K, am_RF true)))) from rfl) rfl
  · rw [if_neg c1235] at h
    refine am_r_t (show am_stepn X T_UpRiver_barge 4 true (198, [(0, am_pv 0), (1, am_iv x1), (2, am_iv x2), (5, am_iv x5), (6, am_iv x6), (7, am_iv x7), (8, am_iv x8), (9, am_iv x9), (10, am_iv x10), (11, am_iv x11)], [am_iv s0], am_SH, (J, K, am_RF true)) = some (((decide (am_i32 x1) && decide (am_i32 x8)) && true), .inl (bif am_cb .ne x8 x1 then 233 else 206, [(0, am_pv 0), (1, am_iv x1), (2, am_iv x2), (5, am_iv x5), (6, am_iv x6), (7, am_iv x7), (8, am_iv x8), (9, am_iv x9), (10, am_iv x10), (11, am_iv x11), (12, am_iv s0)], [], am_SH, (J, K, am_RF true))) from rfl) (am_g2 g1233 g1234 rfl) (am_nd_f c1235) ?_
    refine am_r_eq (σ' := (233, [(0, am_pv 0), (1, am_iv x1), (2, am_iv x2), (5, am_iv x5), (6, am_iv x6), (11, am_iv x11)], [], am_SH, (J, K, am_RF true))) rfl ?_
    exact s_UpRiver_barge_L233_t hk73 _ _ _ _ _ _ _ h
theorem s_UpRiver_barge_L174_t {X : am_X} {K : am_K} {kb73 : Int → Int → Int → Int → am_J → Option (Int × am_J)} (hk73 : ∀ (x1 : Int) (x2 : Int) (x5 : Int) (x6 : Int) (J : am_J) (r : Int × am_J), kb73 x1 x2 x5 x6 J = some r → am_runs X T_UpRiver_barge (73, [(0, am_pv 0), (1, am_iv x1), (2, am_iv x2), (5, am_iv x5), (6, am_iv x6)], [], am_SH, (J, K, am_RF true)) (some (am_iv r.1), am_SH, (r.2, K, am_RF true))) : ∀ (x1 : Int) (x2 : Int) (x5 : Int) (x6 : Int) (x7 : Int) (x8 : Int) (x9 : Int) (x10 : Int) (s0 : Int) (J : am_J) (r : Int × am_J), f_UpRiver_barge_L174 true kb73  x1 x2 x5 x6 x7 x8 x9 x10 s0 J = some r → am_runs X T_UpRiver_barge (174, [(0, am_pv 0), (1, am_iv x1), (2, am_iv x2), (5, am_iv x5), (6, am_iv x6), (7, am_iv x7), (8, am_iv x8), (9, am_iv x9), (10, am_iv x10)], [am_iv s0], am_SH, (J, K, am_RF true)) (some (am_iv r.1), am_SH, (r.2, K, am_RF true)) := by
  intro x1 x2 x5 x6 x7 x8 x9 x10 s0 J r h
  unfold f_UpRiver_barge_L174 at h
  obtain ⟨g1243, h⟩ := am_if_some h
  by_cases c1244 : s0 = 0
  · rw [if_pos c1244] at h
    refine am_r_t (show am_stepn X T_UpRiver_barge 3 true (174, [(0, am_pv 0), (1, am_iv x1), (2, am_iv x2), (5, am_iv x5), (6, am_iv x6), (7, am_iv x7), (8, am_iv x8), (9, am_iv x9), (10, am_iv x10)], [am_iv s0], am_SH, (J, K, am_RF true)) = some ((decide (am_i32 s0) && true), .inl (bif am_cb .eq s0 0 then 186 else 181, [(0, am_pv 0), (1, am_iv x1), (2, am_iv x2), (5, am_iv x5), (6, am_iv x6), (7, am_iv x7), (8, am_iv x8), (9, am_iv x9), (10, am_iv x10), (11, am_iv s0)], [], am_SH, (J, K, am_RF true))) from rfl) (am_g1 g1243 rfl) (decide_eq_true c1244) ?_
    refine am_r_go (show am_stepn X T_UpRiver_barge 6 true (186, [(0, am_pv 0), (1, am_iv x1), (2, am_iv x2), (5, am_iv x5), (6, am_iv x6), (7, am_iv x7), (8, am_iv x8), (9, am_iv x9), (10, am_iv x10), (11, am_iv s0)], [], am_SH, (J, K, am_RF true)) = some (true, .inl (198, [(0, am_pv 0), (1, am_iv x1), (2, am_iv x2), (5, am_iv x5), (6, am_iv x6), (7, am_iv x7), (8, am_iv x8), (9, am_iv x9), (10, am_iv x10), (11, am_iv s0)], [am_iv ((J 29 3) - 1)], am_SH, (J, K, am_RF true))) from rfl) rfl ?_
    exact s_UpRiver_barge_L198_t hk73 _ _ _ _ _ _ _ _ _ _ _ _ h
  · rw [if_neg c1244] at h
    refine am_r_f (show am_stepn X T_UpRiver_barge 3 true (174, [(0, am_pv 0), (1, am_iv x1), (2, am_iv x2), (5, am_iv x5), (6, am_iv x6), (7, am_iv x7), (8, am_iv x8), (9, am_iv x9), (10, am_iv x10)], [am_iv s0], am_SH, (J, K, am_RF true)) = some ((decide (am_i32 s0) && true), .inl (bif am_cb .eq s0 0 then 186 else 181, [(0, am_pv 0), (1, am_iv x1), (2, am_iv x2), (5, am_iv x5), (6, am_iv x6), (7, am_iv x7), (8, am_iv x8), (9, am_iv x9), (10, am_iv x10), (11, am_iv s0)], [], am_SH, (J, K, am_RF true))) from rfl) (am_g1 g1243 rfl) (decide_eq_false c1244) ?_
    refine am_r_go (show am_stepn X T_UpRiver_barge 2 true (181, [(0, am_pv 0), (1, am_iv x1), (2, am_iv x2), (5, am_iv x5), (6, am_iv x6), (7, am_iv x7), (8, am_iv x8), (9, am_iv x9), (10, am_iv x10), (11, am_iv s0)], [], am_SH, (J, K, am_RF true)) = some (true, .inl (198, [(0, am_pv 0), (1, am_iv x1), (2, am_iv x2), (5, am_iv x5), (6, am_iv x6), (7, am_iv x7), (8, am_iv x8), (9, am_iv x9), (10, am_iv x10), (11, am_iv s0)], [am_iv x9], am_SH, (J, K, am_RF true))) from rfl) rfl ?_
    exact s_UpRiver_barge_L198_t hk73 _ _ _ _ _ _ _ _ _ _ _ _ h
theorem s_UpRiver_barge_L73_t {X : am_X} {K : am_K}  : ∀ (n : Nat) (x1 : Int) (x2 : Int) (x5 : Int) (x6 : Int) (J : am_J) (r : Int × am_J), f_UpRiver_barge_L73 true  n x1 x2 x5 x6 J = some r → am_runs X T_UpRiver_barge (73, [(0, am_pv 0), (1, am_iv x1), (2, am_iv x2), (5, am_iv x5), (6, am_iv x6)], [], am_SH, (J, K, am_RF true)) (some (am_iv r.1), am_SH, (r.2, K, am_RF true)) := by
  intro n
  induction n with
  | zero =>
    intro x1 x2 x5 x6 J r h
    cases h
  | succ n ih =>
    intro x1 x2 x5 x6 J r h
    rw [f_UpRiver_barge_L73.eq_2] at h
    obtain ⟨g1245, h⟩ := am_if_some h
    by_cases c1246 : 300 < x6
    · rw [if_pos c1246] at h
      refine am_r_t (show am_stepn X T_UpRiver_barge 3 true (73, [(0, am_pv 0), (1, am_iv x1), (2, am_iv x2), (5, am_iv x5), (6, am_iv x6)], [], am_SH, (J, K, am_RF true)) = some (((decide (am_i32 300) && decide (am_i32 x6)) && true), .inl (bif am_cb .gt x6 300 then 247 else 81, [(0, am_pv 0), (1, am_iv x1), (2, am_iv x2), (5, am_iv x5), (6, am_iv x6)], [], am_SH, (J, K, am_RF true))) from rfl) (am_g2 (by decide) g1245 rfl) (decide_eq_true c1246) ?_
      obtain rfl := Option.some.inj h
      exact am_r_ret (show am_stepn X T_UpRiver_barge 2 true (247, [(0, am_pv 0), (1, am_iv x1), (2, am_iv x2), (5, am_iv x5), (6, am_iv x6)], [], am_SH, (J, K, am_RF true)) = some (true, .inr (.inr (some (am_iv (-4)), am_SH, (J, K, am_RF true)))) from rfl) rfl
    · rw [if_neg c1246] at h
      refine am_r_f (show am_stepn X T_UpRiver_barge 3 true (73, [(0, am_pv 0), (1, am_iv x1), (2, am_iv x2), (5, am_iv x5), (6, am_iv x6)], [], am_SH, (J, K, am_RF true)) = some (((decide (am_i32 300) && decide (am_i32 x6)) && true), .inl (bif am_cb .gt x6 300 then 247 else 81, [(0, am_pv 0), (1, am_iv x1), (2, am_iv x2), (5, am_iv x5), (6, am_iv x6)], [], am_SH, (J, K, am_RF true))) from rfl) (am_g2 (by decide) g1245 rfl) (decide_eq_false c1246) ?_
      obtain ⟨q1247, e1248, h⟩ := am_bind_some h
      refine am_r_call (show am_stepn X T_UpRiver_barge 6 true (81, [(0, am_pv 0), (1, am_iv x1), (2, am_iv x2), (5, am_iv x5), (6, am_iv x6)], [], am_SH, (J, K, am_RF true)) = some (true, .inr (.inl (71, [am_pv 29, am_pv (am_rv true)], 2, 0, 0, 95, [(0, am_pv 0), (1, am_iv x1), (2, am_iv x2), (5, am_iv x5), (6, am_iv x6)], [], am_SH, (J, K, am_RF true)))) from rfl) rfl tb_Boat_isUp (s_Boat_isUp (by decide) e1248) ?_
      obtain ⟨g1249, h⟩ := am_if_some h
      by_cases c1250 : q1247 = 0
      · rw [if_pos c1250] at h
        refine am_r_f (show am_stepn X T_UpRiver_barge 1 true (95, [(0, am_pv 0), (1, am_iv x1), (2, am_iv x2), (5, am_iv x5), (6, am_iv x6)], [am_iv q1247], am_SH, (J, K, am_RF true)) = some ((decide (am_i32 q1247) && true), .inl (bif am_cb .ne q1247 0 then 247 else 98, [(0, am_pv 0), (1, am_iv x1), (2, am_iv x2), (5, am_iv x5), (6, am_iv x6)], [], am_SH, (J, K, am_RF true))) from rfl) (am_g1 g1249 rfl) (am_nd_t c1250) ?_
        obtain ⟨g1251, h⟩ := am_if_some h
        obtain ⟨q1252, e1253, h⟩ := am_bind_some h
        refine am_r_call (show am_stepn X T_UpRiver_barge 34 true (98, [(0, am_pv 0), (1, am_iv x1), (2, am_iv x2), (5, am_iv x5), (6, am_iv x6)], [], am_SH, (J, K, am_RF true)) = some ((am_in 0 7 && ((decide (0 < (8 : Int) ∧ am_i32 8) && decide (am_i32 (J 29 0))) && true)), .inr (.inl (108, [am_pv 28, am_pv (am_rv true)], 4, 0, 0, 166, [(0, am_pv 0), (1, am_iv x1), (2, am_iv x2), (5, am_iv x5), (6, am_iv x6), (7, am_iv (am_dv (J 29 0) 8)), (8, am_iv (J 29 1)), (9, am_iv (J 29 3)), (10, am_iv (((x2 + (J (am_rv true + 1) 0)) - 1) - (am_dv (J 29 0) 8)))], [], am_SH, (J, K, am_RF true)))) from rfl) (am_gi (by decide) (am_g2 (by decide) g1251 rfl)) tb_Skipper_act (s_Skipper_act (by decide) e1253) ?_
        obtain ⟨g1254, h⟩ := am_if_some h
        by_cases c1255 : q1252.1 = 0
        · rw [if_pos c1255] at h
          refine am_r_f (show am_stepn X T_UpRiver_barge 1 true (166, [(0, am_pv 0), (1, am_iv x1), (2, am_iv x2), (5, am_iv x5), (6, am_iv x6), (7, am_iv (am_dv (J 29 0) 8)), (8, am_iv (J 29 1)), (9, am_iv (J 29 3)), (10, am_iv (((x2 + (J (am_rv true + 1) 0)) - 1) - (am_dv (J 29 0) 8)))], [am_iv q1252.1], am_SH, (q1252.2, K, am_RF true)) = some ((decide (am_i32 q1252.1) && true), .inl (bif am_cb .ne q1252.1 0 then 173 else 169, [(0, am_pv 0), (1, am_iv x1), (2, am_iv x2), (5, am_iv x5), (6, am_iv x6), (7, am_iv (am_dv (J 29 0) 8)), (8, am_iv (J 29 1)), (9, am_iv (J 29 3)), (10, am_iv (((x2 + (J (am_rv true + 1) 0)) - 1) - (am_dv (J 29 0) 8)))], [], am_SH, (q1252.2, K, am_RF true))) from rfl) (am_g1 g1254 rfl) (am_nd_t c1255) ?_
          refine am_r_go (show am_stepn X T_UpRiver_barge 2 true (169, [(0, am_pv 0), (1, am_iv x1), (2, am_iv x2), (5, am_iv x5), (6, am_iv x6), (7, am_iv (am_dv (J 29 0) 8)), (8, am_iv (J 29 1)), (9, am_iv (J 29 3)), (10, am_iv (((x2 + (J (am_rv true + 1) 0)) - 1) - (am_dv (J 29 0) 8)))], [], am_SH, (q1252.2, K, am_RF true)) = some (true, .inl (174, [(0, am_pv 0), (1, am_iv x1), (2, am_iv x2), (5, am_iv x5), (6, am_iv x6), (7, am_iv (am_dv (J 29 0) 8)), (8, am_iv (J 29 1)), (9, am_iv (J 29 3)), (10, am_iv (((x2 + (J (am_rv true + 1) 0)) - 1) - (am_dv (J 29 0) 8)))], [am_iv 1], am_SH, (q1252.2, K, am_RF true))) from rfl) rfl ?_
          exact s_UpRiver_barge_L174_t ih _ _ _ _ _ _ _ _ _ _ _ h
        · rw [if_neg c1255] at h
          refine am_r_t (show am_stepn X T_UpRiver_barge 1 true (166, [(0, am_pv 0), (1, am_iv x1), (2, am_iv x2), (5, am_iv x5), (6, am_iv x6), (7, am_iv (am_dv (J 29 0) 8)), (8, am_iv (J 29 1)), (9, am_iv (J 29 3)), (10, am_iv (((x2 + (J (am_rv true + 1) 0)) - 1) - (am_dv (J 29 0) 8)))], [am_iv q1252.1], am_SH, (q1252.2, K, am_RF true)) = some ((decide (am_i32 q1252.1) && true), .inl (bif am_cb .ne q1252.1 0 then 173 else 169, [(0, am_pv 0), (1, am_iv x1), (2, am_iv x2), (5, am_iv x5), (6, am_iv x6), (7, am_iv (am_dv (J 29 0) 8)), (8, am_iv (J 29 1)), (9, am_iv (J 29 3)), (10, am_iv (((x2 + (J (am_rv true + 1) 0)) - 1) - (am_dv (J 29 0) 8)))], [], am_SH, (q1252.2, K, am_RF true))) from rfl) (am_g1 g1254 rfl) (am_nd_f c1255) ?_
          refine am_r_go (show am_stepn X T_UpRiver_barge 1 true (173, [(0, am_pv 0), (1, am_iv x1), (2, am_iv x2), (5, am_iv x5), (6, am_iv x6), (7, am_iv (am_dv (J 29 0) 8)), (8, am_iv (J 29 1)), (9, am_iv (J 29 3)), (10, am_iv (((x2 + (J (am_rv true + 1) 0)) - 1) - (am_dv (J 29 0) 8)))], [], am_SH, (q1252.2, K, am_RF true)) = some (true, .inl (174, [(0, am_pv 0), (1, am_iv x1), (2, am_iv x2), (5, am_iv x5), (6, am_iv x6), (7, am_iv (am_dv (J 29 0) 8)), (8, am_iv (J 29 1)), (9, am_iv (J 29 3)), (10, am_iv (((x2 + (J (am_rv true + 1) 0)) - 1) - (am_dv (J 29 0) 8)))], [am_iv 0], am_SH, (q1252.2, K, am_RF true))) from rfl) rfl ?_
          exact s_UpRiver_barge_L174_t ih _ _ _ _ _ _ _ _ _ _ _ h
      · rw [if_neg c1250] at h
        refine am_r_t (show am_stepn X T_UpRiver_barge 1 true (95, [(0, am_pv 0), (1, am_iv x1), (2, am_iv x2), (5, am_iv x5), (6, am_iv x6)], [am_iv q1247], am_SH, (J, K, am_RF true)) = some ((decide (am_i32 q1247) && true), .inl (bif am_cb .ne q1247 0 then 247 else 98, [(0, am_pv 0), (1, am_iv x1), (2, am_iv x2), (5, am_iv x5), (6, am_iv x6)], [], am_SH, (J, K, am_RF true))) from rfl) (am_g1 g1249 rfl) (am_nd_f c1250) ?_
        obtain rfl := Option.some.inj h
        exact am_r_ret (show am_stepn X T_UpRiver_barge 2 true (247, [(0, am_pv 0), (1, am_iv x1), (2, am_iv x2), (5, am_iv x5), (6, am_iv x6)], [], am_SH, (J, K, am_RF true)) = some (true, .inr (.inr (some (am_iv (-4)), am_SH, (J, K, am_RF true)))) from rfl) rfl
theorem s_UpRiver_barge_t {X : am_X} {K : am_K} {x1 : Int} {x2 : Int} {x3 : Int} {x4 : Int} {x5 : Int} {J : am_J} {r : Int × am_J} (h : f_UpRiver_barge true x1 x2 x3 x4 x5 J = some r) : am_runs X T_UpRiver_barge (0, [(0, am_pv 0), (1, am_iv x1), (2, am_iv x2), (3, am_iv x3), (4, am_iv x4), (5, am_iv x5)], [], am_SH, (J, K, am_RF true)) (some (am_iv r.1), am_SH, (r.2, K, am_RF true)) := by
  unfold f_UpRiver_barge at h
  obtain ⟨q1256, e1257, h⟩ := am_bind_some h
  refine am_r_call (show am_stepn X T_UpRiver_barge 2 true (0, [(0, am_pv 0), (1, am_iv x1), (2, am_iv x2), (3, am_iv x3), (4, am_iv x4), (5, am_iv x5)], [], am_SH, (J, K, am_RF true)) = some (true, .inr (.inl (66, [am_iv x1], 1, 0, 0, 4, [(0, am_pv 0), (1, am_iv x1), (2, am_iv x2), (3, am_iv x3), (4, am_iv x4), (5, am_iv x5)], [], am_SH, (J, K, am_RF true)))) from rfl) rfl tb_UpRiver_isLane (s_UpRiver_isLane e1257) ?_
  obtain ⟨g1258, h⟩ := am_if_some h
  by_cases c1259 : q1256 = 0
  · rw [if_pos c1259] at h
    refine am_r_t (show am_stepn X T_UpRiver_barge 1 true (4, [(0, am_pv 0), (1, am_iv x1), (2, am_iv x2), (3, am_iv x3), (4, am_iv x4), (5, am_iv x5)], [am_iv q1256], am_SH, (J, K, am_RF true)) = some ((decide (am_i32 q1256) && true), .inl (bif am_cb .eq q1256 0 then 31 else 7, [(0, am_pv 0), (1, am_iv x1), (2, am_iv x2), (3, am_iv x3), (4, am_iv x4), (5, am_iv x5)], [], am_SH, (J, K, am_RF true))) from rfl) (am_g1 g1258 rfl) (decide_eq_true c1259) ?_
    obtain rfl := Option.some.inj h
    exact am_r_ret (show am_stepn X T_UpRiver_barge 2 true (31, [(0, am_pv 0), (1, am_iv x1), (2, am_iv x2), (3, am_iv x3), (4, am_iv x4), (5, am_iv x5)], [], am_SH, (J, K, am_RF true)) = some (true, .inr (.inr (some (am_iv (-1)), am_SH, (J, K, am_RF true)))) from rfl) rfl
  · rw [if_neg c1259] at h
    refine am_r_f (show am_stepn X T_UpRiver_barge 1 true (4, [(0, am_pv 0), (1, am_iv x1), (2, am_iv x2), (3, am_iv x3), (4, am_iv x4), (5, am_iv x5)], [am_iv q1256], am_SH, (J, K, am_RF true)) = some ((decide (am_i32 q1256) && true), .inl (bif am_cb .eq q1256 0 then 31 else 7, [(0, am_pv 0), (1, am_iv x1), (2, am_iv x2), (3, am_iv x3), (4, am_iv x4), (5, am_iv x5)], [], am_SH, (J, K, am_RF true))) from rfl) (am_g1 g1258 rfl) (decide_eq_false c1259) ?_
    obtain ⟨q1260, e1261, h⟩ := am_bind_some h
    refine am_r_call (show am_stepn X T_UpRiver_barge 2 true (7, [(0, am_pv 0), (1, am_iv x1), (2, am_iv x2), (3, am_iv x3), (4, am_iv x4), (5, am_iv x5)], [], am_SH, (J, K, am_RF true)) = some (true, .inr (.inl (60, [am_iv x2], 1, 0, 0, 11, [(0, am_pv 0), (1, am_iv x1), (2, am_iv x2), (3, am_iv x3), (4, am_iv x4), (5, am_iv x5)], [], am_SH, (J, K, am_RF true)))) from rfl) rfl tb_UpRiver_isMinute (s_UpRiver_isMinute e1261) ?_
    obtain ⟨g1262, h⟩ := am_if_some h
    by_cases c1263 : q1260 = 0
    · rw [if_pos c1263] at h
      refine am_r_t (show am_stepn X T_UpRiver_barge 1 true (11, [(0, am_pv 0), (1, am_iv x1), (2, am_iv x2), (3, am_iv x3), (4, am_iv x4), (5, am_iv x5)], [am_iv q1260], am_SH, (J, K, am_RF true)) = some ((decide (am_i32 q1260) && true), .inl (bif am_cb .eq q1260 0 then 31 else 14, [(0, am_pv 0), (1, am_iv x1), (2, am_iv x2), (3, am_iv x3), (4, am_iv x4), (5, am_iv x5)], [], am_SH, (J, K, am_RF true))) from rfl) (am_g1 g1262 rfl) (decide_eq_true c1263) ?_
      obtain rfl := Option.some.inj h
      exact am_r_ret (show am_stepn X T_UpRiver_barge 2 true (31, [(0, am_pv 0), (1, am_iv x1), (2, am_iv x2), (3, am_iv x3), (4, am_iv x4), (5, am_iv x5)], [], am_SH, (J, K, am_RF true)) = some (true, .inr (.inr (some (am_iv (-1)), am_SH, (J, K, am_RF true)))) from rfl) rfl
    · rw [if_neg c1263] at h
      refine am_r_f (show am_stepn X T_UpRiver_barge 1 true (11, [(0, am_pv 0), (1, am_iv x1), (2, am_iv x2), (3, am_iv x3), (4, am_iv x4), (5, am_iv x5)], [am_iv q1260], am_SH, (J, K, am_RF true)) = some ((decide (am_i32 q1260) && true), .inl (bif am_cb .eq q1260 0 then 31 else 14, [(0, am_pv 0), (1, am_iv x1), (2, am_iv x2), (3, am_iv x3), (4, am_iv x4), (5, am_iv x5)], [], am_SH, (J, K, am_RF true))) from rfl) (am_g1 g1262 rfl) (decide_eq_false c1263) ?_
      obtain ⟨q1264, e1265, h⟩ := am_bind_some h
      refine am_r_call (show am_stepn X T_UpRiver_barge 3 true (14, [(0, am_pv 0), (1, am_iv x1), (2, am_iv x2), (3, am_iv x3), (4, am_iv x4), (5, am_iv x5)], [], am_SH, (J, K, am_RF true)) = some (true, .inr (.inl (105, [am_iv x3, am_iv x4], 2, 0, 0, 20, [(0, am_pv 0), (1, am_iv x1), (2, am_iv x2), (3, am_iv x3), (4, am_iv x4), (5, am_iv x5)], [], am_SH, (J, K, am_RF true)))) from rfl) rfl tb_UpRiver_isSkipper (s_UpRiver_isSkipper e1265) ?_
      obtain ⟨g1266, h⟩ := am_if_some h
      by_cases c1267 : q1264 = 0
      · rw [if_pos c1267] at h
        refine am_r_t (show am_stepn X T_UpRiver_barge 1 true (20, [(0, am_pv 0), (1, am_iv x1), (2, am_iv x2), (3, am_iv x3), (4, am_iv x4), (5, am_iv x5)], [am_iv q1264], am_SH, (J, K, am_RF true)) = some ((decide (am_i32 q1264) && true), .inl (bif am_cb .eq q1264 0 then 31 else 23, [(0, am_pv 0), (1, am_iv x1), (2, am_iv x2), (3, am_iv x3), (4, am_iv x4), (5, am_iv x5)], [], am_SH, (J, K, am_RF true))) from rfl) (am_g1 g1266 rfl) (decide_eq_true c1267) ?_
        obtain rfl := Option.some.inj h
        exact am_r_ret (show am_stepn X T_UpRiver_barge 2 true (31, [(0, am_pv 0), (1, am_iv x1), (2, am_iv x2), (3, am_iv x3), (4, am_iv x4), (5, am_iv x5)], [], am_SH, (J, K, am_RF true)) = some (true, .inr (.inr (some (am_iv (-1)), am_SH, (J, K, am_RF true)))) from rfl) rfl
      · rw [if_neg c1267] at h
        refine am_r_f (show am_stepn X T_UpRiver_barge 1 true (20, [(0, am_pv 0), (1, am_iv x1), (2, am_iv x2), (3, am_iv x3), (4, am_iv x4), (5, am_iv x5)], [am_iv q1264], am_SH, (J, K, am_RF true)) = some ((decide (am_i32 q1264) && true), .inl (bif am_cb .eq q1264 0 then 31 else 23, [(0, am_pv 0), (1, am_iv x1), (2, am_iv x2), (3, am_iv x3), (4, am_iv x4), (5, am_iv x5)], [], am_SH, (J, K, am_RF true))) from rfl) (am_g1 g1266 rfl) (decide_eq_false c1267) ?_
        obtain ⟨q1268, e1269, h⟩ := am_bind_some h
        refine am_r_call (show am_stepn X T_UpRiver_barge 2 true (23, [(0, am_pv 0), (1, am_iv x1), (2, am_iv x2), (3, am_iv x3), (4, am_iv x4), (5, am_iv x5)], [], am_SH, (J, K, am_RF true)) = some (true, .inr (.inl (67, [am_iv x5], 1, 0, 0, 28, [(0, am_pv 0), (1, am_iv x1), (2, am_iv x2), (3, am_iv x3), (4, am_iv x4), (5, am_iv x5)], [], am_SH, (J, K, am_RF true)))) from rfl) rfl tb_UpRiver_isYesOrNo (s_UpRiver_isYesOrNo e1269) ?_
        obtain ⟨g1270, h⟩ := am_if_some h
        by_cases c1271 : q1268 = 0
        · rw [if_pos c1271] at h
          refine am_r_f (show am_stepn X T_UpRiver_barge 1 true (28, [(0, am_pv 0), (1, am_iv x1), (2, am_iv x2), (3, am_iv x3), (4, am_iv x4), (5, am_iv x5)], [am_iv q1268], am_SH, (J, K, am_RF true)) = some ((decide (am_i32 q1268) && true), .inl (bif am_cb .ne q1268 0 then 33 else 31, [(0, am_pv 0), (1, am_iv x1), (2, am_iv x2), (3, am_iv x3), (4, am_iv x4), (5, am_iv x5)], [], am_SH, (J, K, am_RF true))) from rfl) (am_g1 g1270 rfl) (am_nd_t c1271) ?_
          obtain rfl := Option.some.inj h
          exact am_r_ret (show am_stepn X T_UpRiver_barge 2 true (31, [(0, am_pv 0), (1, am_iv x1), (2, am_iv x2), (3, am_iv x3), (4, am_iv x4), (5, am_iv x5)], [], am_SH, (J, K, am_RF true)) = some (true, .inr (.inr (some (am_iv (-1)), am_SH, (J, K, am_RF true)))) from rfl) rfl
        · rw [if_neg c1271] at h
          refine am_r_t (show am_stepn X T_UpRiver_barge 1 true (28, [(0, am_pv 0), (1, am_iv x1), (2, am_iv x2), (3, am_iv x3), (4, am_iv x4), (5, am_iv x5)], [am_iv q1268], am_SH, (J, K, am_RF true)) = some ((decide (am_i32 q1268) && true), .inl (bif am_cb .ne q1268 0 then 33 else 31, [(0, am_pv 0), (1, am_iv x1), (2, am_iv x2), (3, am_iv x3), (4, am_iv x4), (5, am_iv x5)], [], am_SH, (J, K, am_RF true))) from rfl) (am_g1 g1270 rfl) (am_nd_f c1271) ?_
          obtain ⟨q1272, e1273, h⟩ := am_bind_some h
          refine am_r_call (show am_stepn X T_UpRiver_barge 6 true (33, [(0, am_pv 0), (1, am_iv x1), (2, am_iv x2), (3, am_iv x3), (4, am_iv x4), (5, am_iv x5)], [], am_SH, (J, K, am_RF true)) = some (true, .inr (.inl (71, [am_pv 18, am_pv (am_rv true)], 2, 0, 0, 47, [(0, am_pv 0), (1, am_iv x1), (2, am_iv x2), (3, am_iv x3), (4, am_iv x4), (5, am_iv x5)], [], am_SH, (J, K, am_RF true)))) from rfl) rfl tb_Boat_isUp (s_Boat_isUp (by decide) e1273) ?_
          obtain ⟨g1274, h⟩ := am_if_some h
          by_cases c1275 : q1272 = 0
          · rw [if_pos c1275] at h
            refine am_r_t (show am_stepn X T_UpRiver_barge 1 true (47, [(0, am_pv 0), (1, am_iv x1), (2, am_iv x2), (3, am_iv x3), (4, am_iv x4), (5, am_iv x5)], [am_iv q1272], am_SH, (J, K, am_RF true)) = some ((decide (am_i32 q1272) && true), .inl (bif am_cb .eq q1272 0 then 53 else 50, [(0, am_pv 0), (1, am_iv x1), (2, am_iv x2), (3, am_iv x3), (4, am_iv x4), (5, am_iv x5)], [], am_SH, (J, K, am_RF true))) from rfl) (am_g1 g1274 rfl) (decide_eq_true c1275) ?_
            obtain ⟨q1276, e1277, h⟩ := am_bind_some h
            refine am_r_call (show am_stepn X T_UpRiver_barge 8 true (53, [(0, am_pv 0), (1, am_iv x1), (2, am_iv x2), (3, am_iv x3), (4, am_iv x4), (5, am_iv x5)], [], am_SH, (J, K, am_RF true)) = some (true, .inr (.inl (107, [am_pv 28, am_pv 18, am_iv x3, am_iv x4], 4, 0, 0, 70, [(0, am_pv 0), (1, am_iv x1), (2, am_iv x2), (3, am_iv x3), (4, am_iv x4), (5, am_iv x5)], [], am_SH, (J, K, am_RF true)))) from rfl) rfl tb_Skipper_begin (s_Skipper_begin e1277) ?_
            refine am_r_go (show am_stepn X T_UpRiver_barge 2 true (70, [(0, am_pv 0), (1, am_iv x1), (2, am_iv x2), (3, am_iv x3), (4, am_iv x4), (5, am_iv x5)], [], am_SH, (q1276, K, am_RF true)) = some (true, .inl (73, [(0, am_pv 0), (1, am_iv x1), (2, am_iv x2), (3, am_iv x3), (4, am_iv x4), (5, am_iv x5), (6, am_iv 0)], [], am_SH, (q1276, K, am_RF true))) from rfl) rfl ?_
            refine am_r_eq (σ' := (73, [(0, am_pv 0), (1, am_iv x1), (2, am_iv x2), (5, am_iv x5), (6, am_iv 0)], [], am_SH, (q1276, K, am_RF true))) rfl ?_
            exact s_UpRiver_barge_L73_t  _ _ _ _ _ _ _ h
          · rw [if_neg c1275] at h
            refine am_r_f (show am_stepn X T_UpRiver_barge 1 true (47, [(0, am_pv 0), (1, am_iv x1), (2, am_iv x2), (3, am_iv x3), (4, am_iv x4), (5, am_iv x5)], [am_iv q1272], am_SH, (J, K, am_RF true)) = some ((decide (am_i32 q1272) && true), .inl (bif am_cb .eq q1272 0 then 53 else 50, [(0, am_pv 0), (1, am_iv x1), (2, am_iv x2), (3, am_iv x3), (4, am_iv x4), (5, am_iv x5)], [], am_SH, (J, K, am_RF true))) from rfl) (am_g1 g1274 rfl) (decide_eq_false c1275) ?_
            obtain rfl := Option.some.inj h
            exact am_r_ret (show am_stepn X T_UpRiver_barge 2 true (50, [(0, am_pv 0), (1, am_iv x1), (2, am_iv x2), (3, am_iv x3), (4, am_iv x4), (5, am_iv x5)], [], am_SH, (J, K, am_RF true)) = some (true, .inr (.inr (some (am_iv (-2)), am_SH, (J, K, am_RF true)))) from rfl) rfl
theorem s_UpRiver_barge {X : am_X} {b : Bool} {K : am_K} {x1 : Int} {x2 : Int} {x3 : Int} {x4 : Int} {x5 : Int} {J : am_J} {r : Int × am_J} (h : f_UpRiver_barge b x1 x2 x3 x4 x5 J = some r) : am_runs X T_UpRiver_barge (0, [(0, am_pv 0), (1, am_iv x1), (2, am_iv x2), (3, am_iv x3), (4, am_iv x4), (5, am_iv x5)], [], am_SH, (J, K, am_RF b)) (some (am_iv r.1), am_SH, (r.2, K, am_RF b)) := by
  cases b
  · exact s_UpRiver_barge_f h
  · exact s_UpRiver_barge_t h
