theorem s_UpRiver_isMinute {X : am_X} {b : Bool} {J : am_J} {K : am_K} {x0 : Int} {r : Int} (h : f_UpRiver_isMinute  x0 = some r) : am_runs X T_UpRiver_isMinute (0, [(0, am_iv x0)], [], am_SH, (J, K, am_RF b)) (some (am_iv r), am_SH, (J, K, am_RF b)) := by
  unfold f_UpRiver_isMinute at h
  obtain ⟨g433, h⟩ := am_if_some h
  by_cases c434 : x0 < 0
  · rw [if_pos c434] at h
    refine am_r_t (show am_stepn X T_UpRiver_isMinute 2 true (0, [(0, am_iv x0)], [], am_SH, (J, K, am_RF b)) = some ((decide (am_i32 x0) && true), .inl (bif am_cb .lt x0 0 then 15 else 4, [(0, am_iv x0)], [], am_SH, (J, K, am_RF b))) from rfl) (am_g1 g433 rfl) (decide_eq_true c434) ?_
    obtain rfl := Option.some.inj h
    exact am_r_ret (show am_stepn X T_UpRiver_isMinute 2 true (15, [(0, am_iv x0)], [], am_SH, (J, K, am_RF b)) = some ((decide ((0 : Int) = 0 ∨ (0 : Int) = 1) && true), .inr (.inr (some (am_iv 0), am_SH, (J, K, am_RF b)))) from rfl) (am_g1 (by decide) rfl)
  · rw [if_neg c434] at h
    refine am_r_f (show am_stepn X T_UpRiver_isMinute 2 true (0, [(0, am_iv x0)], [], am_SH, (J, K, am_RF b)) = some ((decide (am_i32 x0) && true), .inl (bif am_cb .lt x0 0 then 15 else 4, [(0, am_iv x0)], [], am_SH, (J, K, am_RF b))) from rfl) (am_g1 g433 rfl) (decide_eq_false c434) ?_
    by_cases c435 : 300 < x0
    · rw [if_pos c435] at h
      refine am_r_t (show am_stepn X T_UpRiver_isMinute 3 true (4, [(0, am_iv x0)], [], am_SH, (J, K, am_RF b)) = some (((decide (am_i32 300) && decide (am_i32 x0)) && true), .inl (bif am_cb .gt x0 300 then 15 else 11, [(0, am_iv x0)], [], am_SH, (J, K, am_RF b))) from rfl) (am_g2 (by decide) g433 rfl) (decide_eq_true c435) ?_
      obtain rfl := Option.some.inj h
      exact am_r_ret (show am_stepn X T_UpRiver_isMinute 2 true (15, [(0, am_iv x0)], [], am_SH, (J, K, am_RF b)) = some ((decide ((0 : Int) = 0 ∨ (0 : Int) = 1) && true), .inr (.inr (some (am_iv 0), am_SH, (J, K, am_RF b)))) from rfl) (am_g1 (by decide) rfl)
    · rw [if_neg c435] at h
      refine am_r_f (show am_stepn X T_UpRiver_isMinute 3 true (4, [(0, am_iv x0)], [], am_SH, (J, K, am_RF b)) = some (((decide (am_i32 300) && decide (am_i32 x0)) && true), .inl (bif am_cb .gt x0 300 then 15 else 11, [(0, am_iv x0)], [], am_SH, (J, K, am_RF b))) from rfl) (am_g2 (by decide) g433 rfl) (decide_eq_false c435) ?_
      obtain rfl := Option.some.inj h
      exact am_r_ret (show am_stepn X T_UpRiver_isMinute 3 true (11, [(0, am_iv x0)], [], am_SH, (J, K, am_RF b)) = some ((decide ((1 : Int) = 0 ∨ (1 : Int) = 1) && true), .inr (.inr (some (am_iv 1), am_SH, (J, K, am_RF b)))) from rfl) (am_g1 (by decide) rfl)
theorem s_JMath_floorDiv {X : am_X} {b : Bool} {J : am_J} {K : am_K} {x0 : Int} {x1 : Int} {r : Int} (h : f_JMath_floorDiv  x0 x1 = some r) : am_runs X T_JMath_floorDiv (0, [(0, am_iv x0), (1, am_iv x1)], [], am_SH, (J, K, am_RF b)) (some (am_iv r), am_SH, (J, K, am_RF b)) := by
  unfold f_JMath_floorDiv at h
  obtain ⟨g436, h⟩ := am_if_some h
  obtain ⟨g437, h⟩ := am_if_some h
  obtain ⟨g438, h⟩ := am_if_some h
  by_cases c439 : (am_xor x0 x1) < 0
  · rw [if_pos c439] at h
    refine am_r_f (show am_stepn X T_JMath_floorDiv 8 true (0, [(0, am_iv x0), (1, am_iv x1)], [], am_SH, (J, K, am_RF b)) = some ((decide (am_i32 (am_xor x0 x1)) && ((decide (0 < (x1 : Int) ∧ am_i32 x1) && decide (am_i32 x0)) && true)), .inl (bif am_cb .ge (am_xor x0 x1) 0 then 21 else 10, [(0, am_iv x0), (1, am_iv x1), (2, am_iv (am_dv x0 x1))], [], am_SH, (J, K, am_RF b))) from rfl) (am_g1 g438 (am_g2 g436 g437 rfl)) (am_nd_t c439) ?_
    obtain ⟨g440, h⟩ := am_if_some h
    by_cases c441 : ((am_dv x0 x1) * x1) = x0
    · rw [if_pos c441] at h
      refine am_r_t (show am_stepn X T_JMath_floorDiv 5 true (10, [(0, am_iv x0), (1, am_iv x1), (2, am_iv (am_dv x0 x1))], [], am_SH, (J, K, am_RF b)) = some (((decide (am_i32 x0) && decide (am_i32 ((am_dv x0 x1) * x1))) && true), .inl (bif am_cb .eq ((am_dv x0 x1) * x1) x0 then 21 else 17, [(0, am_iv x0), (1, am_iv x1), (2, am_iv (am_dv x0 x1))], [], am_SH, (J, K, am_RF b))) from rfl) (am_g2 g437 g440 rfl) (decide_eq_true c441) ?_
      obtain rfl := Option.some.inj h
      exact am_r_ret (show am_stepn X T_JMath_floorDiv 2 true (21, [(0, am_iv x0), (1, am_iv x1), (2, am_iv (am_dv x0 x1))], [], am_SH, (J, K, am_RF b)) = some (true, .inr (.inr (some (am_iv (am_dv x0 x1)), am_SH, (J, K, am_RF b)))) from rfl) rfl
    · rw [if_neg c441] at h
      refine am_r_f (show am_stepn X T_JMath_floorDiv 5 true (10, [(0, am_iv x0), (1, am_iv x1), (2, am_iv (am_dv x0 x1))], [], am_SH, (J, K, am_RF b)) = some (((decide (am_i32 x0) && decide (am_i32 ((am_dv x0 x1) * x1))) && true), .inl (bif am_cb .eq ((am_dv x0 x1) * x1) x0 then 21 else 17, [(0, am_iv x0), (1, am_iv x1), (2, am_iv (am_dv x0 x1))], [], am_SH, (J, K, am_RF b))) from rfl) (am_g2 g437 g440 rfl) (decide_eq_false c441) ?_
      obtain rfl := Option.some.inj h
      exact am_r_ret (show am_stepn X T_JMath_floorDiv 4 true (17, [(0, am_iv x0), (1, am_iv x1), (2, am_iv (am_dv x0 x1))], [], am_SH, (J, K, am_RF b)) = some (true, .inr (.inr (some (am_iv ((am_dv x0 x1) - 1)), am_SH, (J, K, am_RF b)))) from rfl) rfl
  · rw [if_neg c439] at h
    refine am_r_t (show am_stepn X T_JMath_floorDiv 8 true (0, [(0, am_iv x0), (1, am_iv x1)], [], am_SH, (J, K, am_RF b)) = some ((decide (am_i32 (am_xor x0 x1)) && ((decide (0 < (x1 : Int) ∧ am_i32 x1) && decide (am_i32 x0)) && true)), .inl (bif am_cb .ge (am_xor x0 x1) 0 then 21 else 10, [(0, am_iv x0), (1, am_iv x1), (2, am_iv (am_dv x0 x1))], [], am_SH, (J, K, am_RF b))) from rfl) (am_g1 g438 (am_g2 g436 g437 rfl)) (am_nd_f c439) ?_
    obtain rfl := Option.some.inj h
    exact am_r_ret (show am_stepn X T_JMath_floorDiv 2 true (21, [(0, am_iv x0), (1, am_iv x1), (2, am_iv (am_dv x0 x1))], [], am_SH, (J, K, am_RF b)) = some (true, .inr (.inr (some (am_iv (am_dv x0 x1)), am_SH, (J, K, am_RF b)))) from rfl) rfl
theorem s_JMath_floorMod {X : am_X} {b : Bool} {J : am_J} {K : am_K} {x0 : Int} {x1 : Int} {r : Int} (h : f_JMath_floorMod  x0 x1 = some r) : am_runs X T_JMath_floorMod (0, [(0, am_iv x0), (1, am_iv x1)], [], am_SH, (J, K, am_RF b)) (some (am_iv r), am_SH, (J, K, am_RF b)) := by
  unfold f_JMath_floorMod at h
  obtain ⟨g442, h⟩ := am_if_some h
  obtain ⟨g443, h⟩ := am_if_some h
  obtain ⟨g444, h⟩ := am_if_some h
  by_cases c445 : (am_xor x0 x1) < 0
  · rw [if_pos c445] at h
    refine am_r_f (show am_stepn X T_JMath_floorMod 8 true (0, [(0, am_iv x0), (1, am_iv x1)], [], am_SH, (J, K, am_RF b)) = some ((decide (am_i32 (am_xor x0 x1)) && ((decide (0 < (x1 : Int) ∧ am_i32 x1) && decide (am_i32 x0)) && true)), .inl (bif am_cb .ge (am_xor x0 x1) 0 then 18 else 10, [(0, am_iv x0), (1, am_iv x1), (2, am_iv (am_rm x0 x1))], [], am_SH, (J, K, am_RF b))) from rfl) (am_g1 g444 (am_g2 g442 g443 rfl)) (am_nd_t c445) ?_
    obtain ⟨g446, h⟩ := am_if_some h
    by_cases c447 : (am_rm x0 x1) = 0
    · rw [if_pos c447] at h
      refine am_r_t (show am_stepn X T_JMath_floorMod 2 true (10, [(0, am_iv x0), (1, am_iv x1), (2, am_iv (am_rm x0 x1))], [], am_SH, (J, K, am_RF b)) = some ((decide (am_i32 (am_rm x0 x1)) && true), .inl (bif am_cb .eq (am_rm x0 x1) 0 then 18 else 14, [(1, am_iv x1), (2, am_iv (am_rm x0 x1))], [], am_SH, (J, K, am_RF b))) from rfl) (am_g1 g446 rfl) (decide_eq_true c447) ?_
      obtain rfl := Option.some.inj h
      exact am_r_ret (show am_stepn X T_JMath_floorMod 2 true (18, [(1, am_iv x1), (2, am_iv (am_rm x0 x1))], [], am_SH, (J, K, am_RF b)) = some (true, .inr (.inr (some (am_iv (am_rm x0 x1)), am_SH, (J, K, am_RF b)))) from rfl) rfl
    · rw [if_neg c447] at h
      refine am_r_f (show am_stepn X T_JMath_floorMod 2 true (10, [(0, am_iv x0), (1, am_iv x1), (2, am_iv (am_rm x0 x1))], [], am_SH, (J, K, am_RF b)) = some ((decide (am_i32 (am_rm x0 x1)) && true), .inl (bif am_cb .eq (am_rm x0 x1) 0 then 18 else 14, [(1, am_iv x1), (2, am_iv (am_rm x0 x1))], [], am_SH, (J, K, am_RF b))) from rfl) (am_g1 g446 rfl) (decide_eq_false c447) ?_
      obtain rfl := Option.some.inj h
      exact am_r_ret (show am_stepn X T_JMath_floorMod 4 true (14, [(1, am_iv x1), (2, am_iv (am_rm x0 x1))], [], am_SH, (J, K, am_RF b)) = some (true, .inr (.inr (some (am_iv ((am_rm x0 x1) + x1)), am_SH, (J, K, am_RF b)))) from rfl) rfl
  · rw [if_neg c445] at h
    refine am_r_t (show am_stepn X T_JMath_floorMod 8 true (0, [(0, am_iv x0), (1, am_iv x1)], [], am_SH, (J, K, am_RF b)) = some ((decide (am_i32 (am_xor x0 x1)) && ((decide (0 < (x1 : Int) ∧ am_i32 x1) && decide (am_i32 x0)) && true)), .inl (bif am_cb .ge (am_xor x0 x1) 0 then 18 else 10, [(0, am_iv x0), (1, am_iv x1), (2, am_iv (am_rm x0 x1))], [], am_SH, (J, K, am_RF b))) from rfl) (am_g1 g444 (am_g2 g442 g443 rfl)) (am_nd_f c445) ?_
    obtain rfl := Option.some.inj h
    exact am_r_ret (show am_stepn X T_JMath_floorMod 2 true (18, [(0, am_iv x0), (1, am_iv x1), (2, am_iv (am_rm x0 x1))], [], am_SH, (J, K, am_RF b)) = some (true, .inr (.inr (some (am_iv (am_rm x0 x1)), am_SH, (J, K, am_RF b)))) from rfl) rfl
theorem s_River_phaseIn_32_ {X : am_X} {b : Bool} {J : am_J} {K : am_K} {x1 : Int} {r : Int} (h : f_River_phaseIn 32 J x1 = some r) : am_runs X T_River_phaseIn (0, [(0, am_pv 32), (1, am_iv x1)], [], am_SH, (J, K, am_RF b)) (some (am_iv r), am_SH, (J, K, am_RF b)) := by
  unfold f_River_phaseIn at h
  obtain ⟨g448, h⟩ := am_if_some h
  by_cases c449 : (J (32 + 1) 1) < 1
  · rw [if_pos c449] at h
    refine am_r_f (show am_stepn X T_River_phaseIn 8 true (0, [(0, am_pv 32), (1, am_iv x1)], [], am_SH, (J, K, am_RF b)) = some (((decide (am_i32 1) && decide (am_i32 (J (32 + 1) 1))) && (am_in 1 7 && true)), .inl (bif am_cb .ge (J (32 + 1) 1) 1 then 16 else 12, [(0, am_pv 32), (1, am_iv x1), (2, am_iv (J (32 + 1) 1))], [], am_SH, (J, K, am_RF b))) from rfl) (am_g2 (by decide) g448 (am_gi (by decide) rfl)) (am_nd_t c449) ?_
    obtain rfl := Option.some.inj h
    exact am_r_ret (show am_stepn X T_River_phaseIn 3 true (12, [(0, am_pv 32), (1, am_iv x1), (2, am_iv (J (32 + 1) 1))], [], am_SH, (J, K, am_RF b)) = some (true, .inr (.inr (some (am_iv 0), am_SH, (J, K, am_RF b)))) from rfl) rfl
  · rw [if_neg c449] at h
    refine am_r_t (show am_stepn X T_River_phaseIn 8 true (0, [(0, am_pv 32), (1, am_iv x1)], [], am_SH, (J, K, am_RF b)) = some (((decide (am_i32 1) && decide (am_i32 (J (32 + 1) 1))) && (am_in 1 7 && true)), .inl (bif am_cb .ge (J (32 + 1) 1) 1 then 16 else 12, [(0, am_pv 32), (1, am_iv x1), (2, am_iv (J (32 + 1) 1))], [], am_SH, (J, K, am_RF b))) from rfl) (am_g2 (by decide) g448 (am_gi (by decide) rfl)) (am_nd_f c449) ?_
    obtain ⟨q450, e451, h⟩ := am_bind_some h
    refine am_r_call (show am_stepn X T_River_phaseIn 3 true (16, [(0, am_pv 32), (1, am_iv x1), (2, am_iv (J (32 + 1) 1))], [], am_SH, (J, K, am_RF b)) = some (true, .inr (.inl (63, [am_iv x1, am_iv (J (32 + 1) 1)], 3, 0, 0, 21, [(1, am_iv x1), (2, am_iv (J (32 + 1) 1))], [], am_SH, (J, K, am_RF b)))) from rfl) rfl tb_JMath_floorDiv (s_JMath_floorDiv e451) ?_
    obtain ⟨q452, e453, h⟩ := am_bind_some h
    refine am_r_call (show am_stepn X T_River_phaseIn 2 true (21, [(1, am_iv x1), (2, am_iv (J (32 + 1) 1))], [am_iv q450], am_SH, (J, K, am_RF b)) = some (true, .inr (.inl (64, [am_iv q450, am_iv 12], 3, 0, 0, 26, [(1, am_iv x1), (2, am_iv (J (32 + 1) 1))], [], am_SH, (J, K, am_RF b)))) from rfl) rfl tb_JMath_floorMod (s_JMath_floorMod e453) ?_
    obtain rfl := Option.some.inj h
    exact am_r_ret (show am_stepn X T_River_phaseIn 1 true (26, [(1, am_iv x1), (2, am_iv (J (32 + 1) 1))], [am_iv q452], am_SH, (J, K, am_RF b)) = some (true, .inr (.inr (some (am_iv q452), am_SH, (J, K, am_RF b)))) from rfl) rfl
theorem s_River_phaseIn_6_ {X : am_X} {b : Bool} {J : am_J} {K : am_K} {x1 : Int} {r : Int} (h : f_River_phaseIn 6 J x1 = some r) : am_runs X T_River_phaseIn (0, [(0, am_pv 6), (1, am_iv x1)], [], am_SH, (J, K, am_RF b)) (some (am_iv r), am_SH, (J, K, am_RF b)) := by
  unfold f_River_phaseIn at h
  obtain ⟨g448, h⟩ := am_if_some h
  by_cases c449 : (J (6 + 1) 1) < 1
  · rw [if_pos c449] at h
    refine am_r_f (show am_stepn X T_River_phaseIn 8 true (0, [(0, am_pv 6), (1, am_iv x1)], [], am_SH, (J, K, am_RF b)) = some (((decide (am_i32 1) && decide (am_i32 (J (6 + 1) 1))) && (am_in 1 7 && true)), .inl (bif am_cb .ge (J (6 + 1) 1) 1 then 16 else 12, [(0, am_pv 6), (1, am_iv x1), (2, am_iv (J (6 + 1) 1))], [], am_SH, (J, K, am_RF b))) from rfl) (am_g2 (by decide) g448 (am_gi (by decide) rfl)) (am_nd_t c449) ?_
    obtain rfl := Option.some.inj h
    exact am_r_ret (show am_stepn X T_River_phaseIn 3 true (12, [(0, am_pv 6), (1, am_iv x1), (2, am_iv (J (6 + 1) 1))], [], am_SH, (J, K, am_RF b)) = some (true, .inr (.inr (some (am_iv 0), am_SH, (J, K, am_RF b)))) from rfl) rfl
  · rw [if_neg c449] at h
    refine am_r_t (show am_stepn X T_River_phaseIn 8 true (0, [(0, am_pv 6), (1, am_iv x1)], [], am_SH, (J, K, am_RF b)) = some (((decide (am_i32 1) && decide (am_i32 (J (6 + 1) 1))) && (am_in 1 7 && true)), .inl (bif am_cb .ge (J (6 + 1) 1) 1 then 16 else 12, [(0, am_pv 6), (1, am_iv x1), (2, am_iv (J (6 + 1) 1))], [], am_SH, (J, K, am_RF b))) from rfl) (am_g2 (by decide) g448 (am_gi (by decide) rfl)) (am_nd_f c449) ?_
    obtain ⟨q450, e451, h⟩ := am_bind_some h
    refine am_r_call (show am_stepn X T_River_phaseIn 3 true (16, [(0, am_pv 6), (1, am_iv x1), (2, am_iv (J (6 + 1) 1))], [], am_SH, (J, K, am_RF b)) = some (true, .inr (.inl (63, [am_iv x1, am_iv (J (6 + 1) 1)], 3, 0, 0, 21, [(1, am_iv x1), (2, am_iv (J (6 + 1) 1))], [], am_SH, (J, K, am_RF b)))) from rfl) rfl tb_JMath_floorDiv (s_JMath_floorDiv e451) ?_
    obtain ⟨q452, e453, h⟩ := am_bind_some h
    refine am_r_call (show am_stepn X T_River_phaseIn 2 true (21, [(1, am_iv x1), (2, am_iv (J (6 + 1) 1))], [am_iv q450], am_SH, (J, K, am_RF b)) = some (true, .inr (.inl (64, [am_iv q450, am_iv 12], 3, 0, 0, 26, [(1, am_iv x1), (2, am_iv (J (6 + 1) 1))], [], am_SH, (J, K, am_RF b)))) from rfl) rfl tb_JMath_floorMod (s_JMath_floorMod e453) ?_
    obtain rfl := Option.some.inj h
    exact am_r_ret (show am_stepn X T_River_phaseIn 1 true (26, [(1, am_iv x1), (2, am_iv (J (6 + 1) 1))], [am_iv q452], am_SH, (J, K, am_RF b)) = some (true, .inr (.inr (some (am_iv q452), am_SH, (J, K, am_RF b)))) from rfl) rfl
theorem s_River_phaseIn {X : am_X} {b : Bool} {o1 : Nat} (ho : o1 = 32 ∨ o1 = 6) {J : am_J} {K : am_K} {x1 : Int} {r : Int} (h : f_River_phaseIn o1 J x1 = some r) : am_runs X T_River_phaseIn (0, [(0, am_pv o1), (1, am_iv x1)], [], am_SH, (J, K, am_RF b)) (some (am_iv r), am_SH, (J, K, am_RF b)) := by
  rcases ho with rfl | rfl
  · skip
    exact s_River_phaseIn_32_ h
  · skip
    exact s_River_phaseIn_6_ h
theorem s_River_flowAt_L53_32_ {X : am_X} {b : Bool} {J : am_J} {K : am_K}  : ∀ (x1 : Int) (x2 : Int) (x4 : Int) (r : Int), f_River_flowAt_L53 32 J   x1 x2 x4 = some r → am_runs X T_River_flowAt (53, [(0, am_pv 32), (1, am_iv x1), (2, am_iv x2), (4, am_iv x4)], [], am_SH, (J, K, am_RF b)) (some (am_iv r), am_SH, (J, K, am_RF b)) := by
  intro x1 x2 x4 r h
  unfold f_River_flowAt_L53 at h
  obtain ⟨g454, h⟩ := am_if_some h
  obtain ⟨g455, h⟩ := am_if_some h
  by_cases c456 : (J (32 + 9) (((x1 * 9) + x2).toNat)) = 0
  · rw [if_pos c456] at h
    refine am_r_t (show am_stepn X T_River_flowAt 9 true (53, [(0, am_pv 32), (1, am_iv x1), (2, am_iv x2), (4, am_iv x4)], [], am_SH, (J, K, am_RF b)) = some ((decide (am_i32 (J (32 + 9) (((x1 * 9) + x2).toNat))) && (am_in ((x1 * 9) + x2) 72 && true)), .inl (bif am_cb .eq (J (32 + 9) (((x1 * 9) + x2).toNat)) 0 then 73 else 67, [(0, am_pv 32), (1, am_iv x1), (2, am_iv x2), (4, am_iv x4)], [], am_SH, (J, K, am_RF b))) from rfl) (am_g1 g455 (am_gi g454 rfl)) (decide_eq_true c456) ?_
    obtain rfl := Option.some.inj h
    exact am_r_ret (show am_stepn X T_River_flowAt 2 true (73, [(0, am_pv 32), (1, am_iv x1), (2, am_iv x2), (4, am_iv x4)], [], am_SH, (J, K, am_RF b)) = some (true, .inr (.inr (some (am_iv x4), am_SH, (J, K, am_RF b)))) from rfl) rfl
  · rw [if_neg c456] at h
    refine am_r_f (show am_stepn X T_River_flowAt 9 true (53, [(0, am_pv 32), (1, am_iv x1), (2, am_iv x2), (4, am_iv x4)], [], am_SH, (J, K, am_RF b)) = some ((decide (am_i32 (J (32 + 9) (((x1 * 9) + x2).toNat))) && (am_in ((x1 * 9) + x2) 72 && true)), .inl (bif am_cb .eq (J (32 + 9) (((x1 * 9) + x2).toNat)) 0 then 73 else 67, [(0, am_pv 32), (1, am_iv x1), (2, am_iv x2), (4, am_iv x4)], [], am_SH, (J, K, am_RF b))) from rfl) (am_g1 g455 (am_gi g454 rfl)) (decide_eq_false c456) ?_
    obtain rfl := Option.some.inj h
    exact am_r_ret (show am_stepn X T_River_flowAt 4 true (67, [(0, am_pv 32), (1, am_iv x1), (2, am_iv x2), (4, am_iv x4)], [], am_SH, (J, K, am_RF b)) = some (true, .inr (.inr (some (am_iv (-x4)), am_SH, (J, K, am_RF b)))) from rfl) rfl
theorem s_River_flowAt_32_ {X : am_X} {b : Bool} {J : am_J} {K : am_K} {x1 : Int} {x2 : Int} {x3 : Int} {r : Int} (h : f_River_flowAt 32 J x1 x2 x3 = some r) : am_runs X T_River_flowAt (0, [(0, am_pv 32), (1, am_iv x1), (2, am_iv x2), (3, am_iv x3)], [], am_SH, (J, K, am_RF b)) (some (am_iv r), am_SH, (J, K, am_RF b)) := by
  unfold f_River_flowAt at h
  obtain ⟨q457, e458, h⟩ := am_bind_some h
  refine am_r_call (show am_stepn X T_River_flowAt 4 true (0, [(0, am_pv 32), (1, am_iv x1), (2, am_iv x2), (3, am_iv x3)], [], am_SH, (J, K, am_RF b)) = some (true, .inr (.inl (7, [am_pv 32, am_iv x1, am_iv x2], 3, 0, 0, 6, [(0, am_pv 32), (1, am_iv x1), (2, am_iv x2), (3, am_iv x3)], [], am_SH, (J, K, am_RF b)))) from rfl) rfl tb_River_isOpen (s_River_isOpen (by decide) e458) ?_
  obtain ⟨g459, h⟩ := am_if_some h
  by_cases c460 : q457 = 0
  · rw [if_pos c460] at h
    refine am_r_f (show am_stepn X T_River_flowAt 1 true (6, [(0, am_pv 32), (1, am_iv x1), (2, am_iv x2), (3, am_iv x3)], [am_iv q457], am_SH, (J, K, am_RF b)) = some ((decide (am_i32 q457) && true), .inl (bif am_cb .ne q457 0 then 11 else 9, [(0, am_pv 32), (1, am_iv x1), (2, am_iv x2), (3, am_iv x3)], [], am_SH, (J, K, am_RF b))) from rfl) (am_g1 g459 rfl) (am_nd_t c460) ?_
    obtain rfl := Option.some.inj h
    exact am_r_ret (show am_stepn X T_River_flowAt 2 true (9, [(0, am_pv 32), (1, am_iv x1), (2, am_iv x2), (3, am_iv x3)], [], am_SH, (J, K, am_RF b)) = some (true, .inr (.inr (some (am_iv 0), am_SH, (J, K, am_RF b)))) from rfl) rfl
  · rw [if_neg c460] at h
    refine am_r_t (show am_stepn X T_River_flowAt 1 true (6, [(0, am_pv 32), (1, am_iv x1), (2, am_iv x2), (3, am_iv x3)], [am_iv q457], am_SH, (J, K, am_RF b)) = some ((decide (am_i32 q457) && true), .inl (bif am_cb .ne q457 0 then 11 else 9, [(0, am_pv 32), (1, am_iv x1), (2, am_iv x2), (3, am_iv x3)], [], am_SH, (J, K, am_RF b))) from rfl) (am_g1 g459 rfl) (am_nd_f c460) ?_
    obtain ⟨q461, e462, h⟩ := am_bind_some h
    refine am_r_call (show am_stepn X T_River_flowAt 5 true (11, [(0, am_pv 32), (1, am_iv x1), (2, am_iv x2), (3, am_iv x3)], [], am_SH, (J, K, am_RF b)) = some (true, .inr (.inl (62, [am_pv 32, am_iv x3], 3, 0, 0, 20, [(0, am_pv 32), (1, am_iv x1), (2, am_iv x2), (3, am_iv x3)], [am_pv (32 + 2)], am_SH, (J, K, am_RF b)))) from rfl) rfl tb_River_phaseIn (s_River_phaseIn (by decide) e462) ?_
    obtain ⟨g463, h⟩ := am_if_some h
    obtain ⟨g464, h⟩ := am_if_some h
    obtain ⟨g465, h⟩ := am_if_some h
    by_cases c466 : 1 < (x2 - (J (32 + 4) x1.toNat))
    · rw [if_pos c466] at h
      refine am_r_f (show am_stepn X T_River_flowAt 10 true (20, [(0, am_pv 32), (1, am_iv x1), (2, am_iv x2), (3, am_iv x3)], [am_iv q461, am_pv (32 + 2)], am_SH, (J, K, am_RF b)) = some (((decide (am_i32 1) && decide (am_i32 (x2 - (J (32 + 4) x1.toNat)))) && (am_in x1 8 && (am_in q461 12 && true))), .inl (bif am_cb .le (x2 - (J (32 + 4) x1.toNat)) 1 then 47 else 35, [(0, am_pv 32), (1, am_iv x1), (2, am_iv x2), (3, am_iv x3), (4, am_iv (J (32 + 2) q461.toNat))], [], am_SH, (J, K, am_RF b))) from rfl) (am_g2 (by decide) g465 (am_gi g464 (am_gi g463 rfl))) (am_nd_t c466) ?_
      obtain ⟨g467, h⟩ := am_if_some h
      by_cases c468 : 1 < ((J (32 + 5) x1.toNat) - x2)
      · rw [if_pos c468] at h
        refine am_r_t (show am_stepn X T_River_flowAt 8 true (35, [(0, am_pv 32), (1, am_iv x1), (2, am_iv x2), (3, am_iv x3), (4, am_iv (J (32 + 2) q461.toNat))], [], am_SH, (J, K, am_RF b)) = some (((decide (am_i32 1) && decide (am_i32 ((J (32 + 5) x1.toNat) - x2))) && (am_in x1 8 && true)), .inl (bif am_cb .gt ((J (32 + 5) x1.toNat) - x2) 1 then 53 else 47, [(0, am_pv 32), (1, am_iv x1), (2, am_iv x2), (4, am_iv (J (32 + 2) q461.toNat))], [], am_SH, (J, K, am_RF b))) from rfl) (am_g2 (by decide) g467 (am_gi g464 rfl)) (decide_eq_true c468) ?_
        exact s_River_flowAt_L53_32_  _ _ _ _ h
      · rw [if_neg c468] at h
        refine am_r_f (show am_stepn X T_River_flowAt 8 true (35, [(0, am_pv 32), (1, am_iv x1), (2, am_iv x2), (3, am_iv x3), (4, am_iv (J (32 + 2) q461.toNat))], [], am_SH, (J, K, am_RF b)) = some (((decide (am_i32 1) && decide (am_i32 ((J (32 + 5) x1.toNat) - x2))) && (am_in x1 8 && true)), .inl (bif am_cb .gt ((J (32 + 5) x1.toNat) - x2) 1 then 53 else 47, [(0, am_pv 32), (1, am_iv x1), (2, am_iv x2), (4, am_iv (J (32 + 2) q461.toNat))], [], am_SH, (J, K, am_RF b))) from rfl) (am_g2 (by decide) g467 (am_gi g464 rfl)) (decide_eq_false c468) ?_
        obtain ⟨g469, h⟩ := am_if_some h
        refine am_r_go (show am_stepn X T_River_flowAt 4 true (47, [(0, am_pv 32), (1, am_iv x1), (2, am_iv x2), (4, am_iv (J (32 + 2) q461.toNat))], [], am_SH, (J, K, am_RF b)) = some (((decide (0 < (2 : Int) ∧ am_i32 2) && decide (am_i32 (J (32 + 2) q461.toNat))) && true), .inl (53, [(0, am_pv 32), (1, am_iv x1), (2, am_iv x2), (4, am_iv (am_dv (J (32 + 2) q461.toNat) 2))], [], am_SH, (J, K, am_RF b))) from rfl) (am_g2 (by decide) g469 rfl) ?_
        exact s_River_flowAt_L53_32_  _ _ _ _ h
    · rw [if_neg c466] at h
      refine am_r_t (show am_stepn X T_River_flowAt 10 true (20, [(0, am_pv 32), (1, am_iv x1), (2, am_iv x2), (3, am_iv x3)], [am_iv q461, am_pv (32 + 2)], am_SH, (J, K, am_RF b)) = some (((decide (am_i32 1) && decide (am_i32 (x2 - (J (32 + 4) x1.toNat)))) && (am_in x1 8 && (am_in q461 12 && true))), .inl (bif am_cb .le (x2 - (J (32 + 4) x1.toNat)) 1 then 47 else 35, [(0, am_pv 32), (1, am_iv x1), (2, am_iv x2), (3, am_iv x3), (4, am_iv (J (32 + 2) q461.toNat))], [], am_SH, (J, K, am_RF b))) from rfl) (am_g2 (by decide) g465 (am_gi g464 (am_gi g463 rfl))) (am_nd_f c466) ?_
      obtain ⟨g470, h⟩ := am_if_some h
      refine am_r_go (show am_stepn X T_River_flowAt 4 true (47, [(0, am_pv 32), (1, am_iv x1), (2, am_iv x2), (3, am_iv x3), (4, am_iv (J (32 + 2) q461.toNat))], [], am_SH, (J, K, am_RF b)) = some (((decide (0 < (2 : Int) ∧ am_i32 2) && decide (am_i32 (J (32 + 2) q461.toNat))) && true), .inl (53, [(0, am_pv 32), (1, am_iv x1), (2, am_iv x2), (4, am_iv (am_dv (J (32 + 2) q461.toNat) 2))], [], am_SH, (J, K, am_RF b))) from rfl) (am_g2 (by decide) g470 rfl) ?_
      exact s_River_flowAt_L53_32_  _ _ _ _ h
theorem s_River_flowAt_L53_6_ {X : am_X} {b : Bool} {J : am_J} {K : am_K}  : ∀ (x1 : Int) (x2 : Int) (x4 : Int) (r : Int), f_River_flowAt_L53 6 J   x1 x2 x4 = some r → am_runs X T_River_flowAt (53, [(0, am_pv 6), (1, am_iv x1), (2, am_iv x2), (4, am_iv x4)], [], am_SH, (J, K, am_RF b)) (some (am_iv r), am_SH, (J, K, am_RF b)) := by
  intro x1 x2 x4 r h
  unfold f_River_flowAt_L53 at h
  obtain ⟨g454, h⟩ := am_if_some h
  obtain ⟨g455, h⟩ := am_if_some h
  by_cases c456 : (J (6 + 9) (((x1 * 9) + x2).toNat)) = 0
  · rw [if_pos c456] at h
    refine am_r_t (show am_stepn X T_River_flowAt 9 true (53, [(0, am_pv 6), (1, am_iv x1), (2, am_iv x2), (4, am_iv x4)], [], am_SH, (J, K, am_RF b)) = some ((decide (am_i32 (J (6 + 9) (((x1 * 9) + x2).toNat))) && (am_in ((x1 * 9) + x2) 72 && true)), .inl (bif am_cb .eq (J (6 + 9) (((x1 * 9) + x2).toNat)) 0 then 73 else 67, [(0, am_pv 6), (1, am_iv x1), (2, am_iv x2), (4, am_iv x4)], [], am_SH, (J, K, am_RF b))) from rfl) (am_g1 g455 (am_gi g454 rfl)) (decide_eq_true c456) ?_
    obtain rfl := Option.some.inj h
    exact am_r_ret (show am_stepn X T_River_flowAt 2 true (73, [(0, am_pv 6), (1, am_iv x1), (2, am_iv x2), (4, am_iv x4)], [], am_SH, (J, K, am_RF b)) = some (true, .inr (.inr (some (am_iv x4), am_SH, (J, K, am_RF b)))) from rfl) rfl
  · rw [if_neg c456] at h
    refine am_r_f (show am_stepn X T_River_flowAt 9 true (53, [(0, am_pv 6), (1, am_iv x1), (2, am_iv x2), (4, am_iv x4)], [], am_SH, (J, K, am_RF b)) = some ((decide (am_i32 (J (6 + 9) (((x1 * 9) + x2).toNat))) && (am_in ((x1 * 9) + x2) 72 && true)), .inl (bif am_cb .eq (J (6 + 9) (((x1 * 9) + x2).toNat)) 0 then 73 else 67, [(0, am_pv 6), (1, am_iv x1), (2, am_iv x2), (4, am_iv x4)], [], am_SH, (J, K, am_RF b))) from rfl) (am_g1 g455 (am_gi g454 rfl)) (decide_eq_false c456) ?_
    obtain rfl := Option.some.inj h
    exact am_r_ret (show am_stepn X T_River_flowAt 4 true (67, [(0, am_pv 6), (1, am_iv x1), (2, am_iv x2), (4, am_iv x4)], [], am_SH, (J, K, am_RF b)) = some (true, .inr (.inr (some (am_iv (-x4)), am_SH, (J, K, am_RF b)))) from rfl) rfl
theorem s_River_flowAt_6_ {X : am_X} {b : Bool} {J : am_J} {K : am_K} {x1 : Int} {x2 : Int} {x3 : Int} {r : Int} (h : f_River_flowAt 6 J x1 x2 x3 = some r) : am_runs X T_River_flowAt (0, [(0, am_pv 6), (1, am_iv x1), (2, am_iv x2), (3, am_iv x3)], [], am_SH, (J, K, am_RF b)) (some (am_iv r), am_SH, (J, K, am_RF b)) := by
  unfold f_River_flowAt at h
  obtain ⟨q457, e458, h⟩ := am_bind_some h
  refine am_r_call (show am_stepn X T_River_flowAt 4 true (0, [(0, am_pv 6), (1, am_iv x1), (2, am_iv x2), (3, am_iv x3)], [], am_SH, (J, K, am_RF b)) = some (true, .inr (.inl (7, [am_pv 6, am_iv x1, am_iv x2], 3, 0, 0, 6, [(0, am_pv 6), (1, am_iv x1), (2, am_iv x2), (3, am_iv x3)], [], am_SH, (J, K, am_RF b)))) from rfl) rfl tb_River_isOpen (s_River_isOpen (by decide) e458) ?_
  obtain ⟨g459, h⟩ := am_if_some h
  by_cases c460 : q457 = 0
  · rw [if_pos c460] at h
    refine am_r_f (show am_stepn X T_River_flowAt 1 true (6, [(0, am_pv 6), (1, am_iv x1), (2, am_iv x2), (3, am_iv x3)], [am_iv q457], am_SH, (J, K, am_RF b)) = some ((decide (am_i32 q457) && true), .inl (bif am_cb .ne q457 0 then 11 else 9, [(0, am_pv 6), (1, am_iv x1), (2, am_iv x2), (3, am_iv x3)], [], am_SH, (J, K, am_RF b))) from rfl) (am_g1 g459 rfl) (am_nd_t c460) ?_
    obtain rfl := Option.some.inj h
    exact am_r_ret (show am_stepn X T_River_flowAt 2 true (9, [(0, am_pv 6), (1, am_iv x1), (2, am_iv x2), (3, am_iv x3)], [], am_SH, (J, K, am_RF b)) = some (true, .inr (.inr (some (am_iv 0), am_SH, (J, K, am_RF b)))) from rfl) rfl
  · rw [if_neg c460] at h
    refine am_r_t (show am_stepn X T_River_flowAt 1 true (6, [(0, am_pv 6), (1, am_iv x1), (2, am_iv x2), (3, am_iv x3)], [am_iv q457], am_SH, (J, K, am_RF b)) = some ((decide (am_i32 q457) && true), .inl (bif am_cb .ne q457 0 then 11 else 9, [(0, am_pv 6), (1, am_iv x1), (2, am_iv x2), (3, am_iv x3)], [], am_SH, (J, K, am_RF b))) from rfl) (am_g1 g459 rfl) (am_nd_f c460) ?_
    obtain ⟨q461, e462, h⟩ := am_bind_some h
    refine am_r_call (show am_stepn X T_River_flowAt 5 true (11, [(0, am_pv 6), (1, am_iv x1), (2, am_iv x2), (3, am_iv x3)], [], am_SH, (J, K, am_RF b)) = some (true, .inr (.inl (62, [am_pv 6, am_iv x3], 3, 0, 0, 20, [(0, am_pv 6), (1, am_iv x1), (2, am_iv x2), (3, am_iv x3)], [am_pv (6 + 2)], am_SH, (J, K, am_RF b)))) from rfl) rfl tb_River_phaseIn (s_River_phaseIn (by decide) e462) ?_
    obtain ⟨g463, h⟩ := am_if_some h
    obtain ⟨g464, h⟩ := am_if_some h
    obtain ⟨g465, h⟩ := am_if_some h
    by_cases c466 : 1 < (x2 - (J (6 + 4) x1.toNat))
    · rw [if_pos c466] at h
      refine am_r_f (show am_stepn X T_River_flowAt 10 true (20, [(0, am_pv 6), (1, am_iv x1), (2, am_iv x2), (3, am_iv x3)], [am_iv q461, am_pv (6 + 2)], am_SH, (J, K, am_RF b)) = some (((decide (am_i32 1) && decide (am_i32 (x2 - (J (6 + 4) x1.toNat)))) && (am_in x1 8 && (am_in q461 12 && true))), .inl (bif am_cb .le (x2 - (J (6 + 4) x1.toNat)) 1 then 47 else 35, [(0, am_pv 6), (1, am_iv x1), (2, am_iv x2), (3, am_iv x3), (4, am_iv (J (6 + 2) q461.toNat))], [], am_SH, (J, K, am_RF b))) from rfl) (am_g2 (by decide) g465 (am_gi g464 (am_gi g463 rfl))) (am_nd_t c466) ?_
      obtain ⟨g467, h⟩ := am_if_some h
      by_cases c468 : 1 < ((J (6 + 5) x1.toNat) - x2)
      · rw [if_pos c468] at h
        refine am_r_t (show am_stepn X T_River_flowAt 8 true (35, [(0, am_pv 6), (1, am_iv x1), (2, am_iv x2), (3, am_iv x3), (4, am_iv (J (6 + 2) q461.toNat))], [], am_SH, (J, K, am_RF b)) = some (((decide (am_i32 1) && decide (am_i32 ((J (6 + 5) x1.toNat) - x2))) && (am_in x1 8 && true)), .inl (bif am_cb .gt ((J (6 + 5) x1.toNat) - x2) 1 then 53 else 47, [(0, am_pv 6), (1, am_iv x1), (2, am_iv x2), (4, am_iv (J (6 + 2) q461.toNat))], [], am_SH, (J, K, am_RF b))) from rfl) (am_g2 (by decide) g467 (am_gi g464 rfl)) (decide_eq_true c468) ?_
        exact s_River_flowAt_L53_6_  _ _ _ _ h
      · rw [if_neg c468] at h
        refine am_r_f (show am_stepn X T_River_flowAt 8 true (35, [(0, am_pv 6), (1, am_iv x1), (2, am_iv x2), (3, am_iv x3), (4, am_iv (J (6 + 2) q461.toNat))], [], am_SH, (J, K, am_RF b)) = some (((decide (am_i32 1) && decide (am_i32 ((J (6 + 5) x1.toNat) - x2))) && (am_in x1 8 && true)), .inl (bif am_cb .gt ((J (6 + 5) x1.toNat) - x2) 1 then 53 else 47, [(0, am_pv 6), (1, am_iv x1), (2, am_iv x2), (4, am_iv (J (6 + 2) q461.toNat))], [], am_SH, (J, K, am_RF b))) from rfl) (am_g2 (by decide) g467 (am_gi g464 rfl)) (decide_eq_false c468) ?_
        obtain ⟨g469, h⟩ := am_if_some h
        refine am_r_go (show am_stepn X T_River_flowAt 4 true (47, [(0, am_pv 6), (1, am_iv x1), (2, am_iv x2), (4, am_iv (J (6 + 2) q461.toNat))], [], am_SH, (J, K, am_RF b)) = some (((decide (0 < (2 : Int) ∧ am_i32 2) && decide (am_i32 (J (6 + 2) q461.toNat))) && true), .inl (53, [(0, am_pv 6), (1, am_iv x1), (2, am_iv x2), (4, am_iv (am_dv (J (6 + 2) q461.toNat) 2))], [], am_SH, (J, K, am_RF b))) from rfl) (am_g2 (by decide) g469 rfl) ?_
        exact s_River_flowAt_L53_6_  _ _ _ _ h
    · rw [if_neg c466] at h
      refine am_r_t (show am_stepn X T_River_flowAt 10 true (20, [(0, am_pv 6), (1, am_iv x1), (2, am_iv x2), (3, am_iv x3)], [am_iv q461, am_pv (6 + 2)], am_SH, (J, K, am_RF b)) = some (((decide (am_i32 1) && decide (am_i32 (x2 - (J (6 + 4) x1.toNat)))) && (am_in x1 8 && (am_in q461 12 && true))), .inl (bif am_cb .le (x2 - (J (6 + 4) x1.toNat)) 1 then 47 else 35, [(0, am_pv 6), (1, am_iv x1), (2, am_iv x2), (3, am_iv x3), (4, am_iv (J (6 + 2) q461.toNat))], [], am_SH, (J, K, am_RF b))) from rfl) (am_g2 (by decide) g465 (am_gi g464 (am_gi g463 rfl))) (am_nd_f c466) ?_
      obtain ⟨g470, h⟩ := am_if_some h
      refine am_r_go (show am_stepn X T_River_flowAt 4 true (47, [(0, am_pv 6), (1, am_iv x1), (2, am_iv x2), (3, am_iv x3), (4, am_iv (J (6 + 2) q461.toNat))], [], am_SH, (J, K, am_RF b)) = some (((decide (0 < (2 : Int) ∧ am_i32 2) && decide (am_i32 (J (6 + 2) q461.toNat))) && true), .inl (53, [(0, am_pv 6), (1, am_iv x1), (2, am_iv x2), (4, am_iv (am_dv (J (6 + 2) q461.toNat) 2))], [], am_SH, (J, K, am_RF b))) from rfl) (am_g2 (by decide) g470 rfl) ?_
      exact s_River_flowAt_L53_6_  _ _ _ _ h
theorem s_River_flowAt {X : am_X} {b : Bool} {o1 : Nat} (ho : o1 = 32 ∨ o1 = 6) {J : am_J} {K : am_K} {x1 : Int} {x2 : Int} {x3 : Int} {r : Int} (h : f_River_flowAt o1 J x1 x2 x3 = some r) : am_runs X T_River_flowAt (0, [(0, am_pv o1), (1, am_iv x1), (2, am_iv x2), (3, am_iv x3)], [], am_SH, (J, K, am_RF b)) (some (am_iv r), am_SH, (J, K, am_RF b)) := by
  rcases ho with rfl | rfl
  · skip
    exact s_River_flowAt_32_ h
  · skip
    exact s_River_flowAt_6_ h
theorem s_UpRiver_flow_f {X : am_X} {J : am_J} {K : am_K} {x1 : Int} {x2 : Int} {x3 : Int} {r : Int} (h : f_UpRiver_flow false J x1 x2 x3 = some r) : am_runs X T_UpRiver_flow (0, [(0, am_pv 0), (1, am_iv x1), (2, am_iv x2), (3, am_iv x3)], [], am_SH, (J, K, am_RF false)) (some (am_iv r), am_SH, (J, K, am_RF false)) := by
  unfold f_UpRiver_flow at h
  obtain ⟨q471, e472, h⟩ := am_bind_some h
  refine am_r_call (show am_stepn X T_UpRiver_flow 5 true (0, [(0, am_pv 0), (1, am_iv x1), (2, am_iv x2), (3, am_iv x3)], [], am_SH, (J, K, am_RF false)) = some (true, .inr (.inl (7, [am_pv (am_rv false), am_iv x1, am_iv x2], 3, 0, 0, 9, [(0, am_pv 0), (1, am_iv x1), (2, am_iv x2), (3, am_iv x3)], [], am_SH, (J, K, am_RF false)))) from rfl) rfl tb_River_isOpen (s_River_isOpen (by decide) e472) ?_
  obtain ⟨g473, h⟩ := am_if_some h
  by_cases c474 : q471 = 0
  · rw [if_pos c474] at h
    refine am_r_t (show am_stepn X T_UpRiver_flow 1 true (9, [(0, am_pv 0), (1, am_iv x1), (2, am_iv x2), (3, am_iv x3)], [am_iv q471], am_SH, (J, K, am_RF false)) = some ((decide (am_i32 q471) && true), .inl (bif am_cb .eq q471 0 then 19 else 12, [(0, am_pv 0), (1, am_iv x1), (2, am_iv x2), (3, am_iv x3)], [], am_SH, (J, K, am_RF false))) from rfl) (am_g1 g473 rfl) (decide_eq_true c474) ?_
    obtain rfl := Option.some.inj h
    exact am_r_ret (show am_stepn X T_UpRiver_flow 2 true (19, [(0, am_pv 0), (1, am_iv x1), (2, am_iv x2), (3, am_iv x3)], [], am_SH, (J, K, am_RF false)) = some (true, .inr (.inr (some (am_iv (-1000)), am_SH, (J, K, am_RF false)))) from rfl) rfl
  · rw [if_neg c474] at h
    refine am_r_f (show am_stepn X T_UpRiver_flow 1 true (9, [(0, am_pv 0), (1, am_iv x1), (2, am_iv x2), (3, am_iv x3)], [am_iv q471], am_SH, (J, K, am_RF false)) = some ((decide (am_i32 q471) && true), .inl (bif am_cb .eq q471 0 then 19 else 12, [(0, am_pv 0), (1, am_iv x1), (2, am_iv x2), (3, am_iv x3)], [], am_SH, (J, K, am_RF false))) from rfl) (am_g1 g473 rfl) (decide_eq_false c474) ?_
    obtain ⟨q475, e476, h⟩ := am_bind_some h
    refine am_r_call (show am_stepn X T_UpRiver_flow 2 true (12, [(0, am_pv 0), (1, am_iv x1), (2, am_iv x2), (3, am_iv x3)], [], am_SH, (J, K, am_RF false)) = some (true, .inr (.inl (60, [am_iv x3], 1, 0, 0, 16, [(0, am_pv 0), (1, am_iv x1), (2, am_iv x2), (3, am_iv x3)], [], am_SH, (J, K, am_RF false)))) from rfl) rfl tb_UpRiver_isMinute (s_UpRiver_isMinute e476) ?_
    obtain ⟨g477, h⟩ := am_if_some h
    by_cases c478 : q475 = 0
    · rw [if_pos c478] at h
      refine am_r_f (show am_stepn X T_UpRiver_flow 1 true (16, [(0, am_pv 0), (1, am_iv x1), (2, am_iv x2), (3, am_iv x3)], [am_iv q475], am_SH, (J, K, am_RF false)) = some ((decide (am_i32 q475) && true), .inl (bif am_cb .ne q475 0 then 23 else 19, [(0, am_pv 0), (1, am_iv x1), (2, am_iv x2), (3, am_iv x3)], [], am_SH, (J, K, am_RF false))) from rfl) (am_g1 g477 rfl) (am_nd_t c478) ?_
      obtain rfl := Option.some.inj h
      exact am_r_ret (show am_stepn X T_UpRiver_flow 2 true (19, [(0, am_pv 0), (1, am_iv x1), (2, am_iv x2), (3, am_iv x3)], [], am_SH, (J, K, am_RF false)) = some (true, .inr (.inr (some (am_iv (-1000)), am_SH, (J, K, am_RF false)))) from rfl) rfl
    · rw [if_neg c478] at h
      refine am_r_t (show am_stepn X T_UpRiver_flow 1 true (16, [(0, am_pv 0), (1, am_iv x1), (2, am_iv x2), (3, am_iv x3)], [am_iv q475], am_SH, (J, K, am_RF false)) = some ((decide (am_i32 q475) && true), .inl (bif am_cb .ne q475 0 then 23 else 19, [(0, am_pv 0), (1, am_iv x1), (2, am_iv x2), (3, am_iv x3)], [], am_SH, (J, K, am_RF false))) from rfl) (am_g1 g477 rfl) (am_nd_f c478) ?_
      obtain ⟨q479, e480, h⟩ := am_bind_some h
      refine am_r_call (show am_stepn X T_UpRiver_flow 6 true (23, [(0, am_pv 0), (1, am_iv x1), (2, am_iv x2), (3, am_iv x3)], [], am_SH, (J, K, am_RF false)) = some (true, .inr (.inl (61, [am_pv (am_rv false), am_iv x1, am_iv x2, am_iv x3], 5, 0, 0, 33, [(0, am_pv 0), (1, am_iv x1), (2, am_iv x2), (3, am_iv x3)], [], am_SH, (J, K, am_RF false)))) from rfl) rfl tb_River_flowAt (s_River_flowAt (by decide) e480) ?_
      obtain rfl := Option.some.inj h
      exact am_r_ret (show am_stepn X T_UpRiver_flow 1 true (33, [(0, am_pv 0), (1, am_iv x1), (2, am_iv x2), (3, am_iv x3)], [am_iv q479], am_SH, (J, K, am_RF false)) = some (true, .inr (.inr (some (am_iv q479), am_SH, (J, K, am_RF false)))) from rfl) rfl
theorem s_UpRiver_flow_t {X : am_X} {J : am_J} {K : am_K} {x1 : Int} {x2 : Int} {x3 : Int} {r : Int} (h : f_UpRiver_flow true J x1 x2 x3 = some r) : am_runs X T_UpRiver_flow (0, [(0, am_pv 0), (1, am_iv x1), (2, am_iv x2), (3, am_iv x3)], [], am_SH, (J, K, am_RF true)) (some (am_iv r), am_SH, (J, K, am_RF true)) := by
  unfold f_UpRiver_flow at h
  obtain ⟨q471, e472, h⟩ := am_bind_some h
  refine am_r_call (show am_stepn X T_UpRiver_flow 5 true (0, [(0, am_pv 0), (1, am_iv x1), (2, am_iv x2), (3, am_iv x3)], [], am_SH, (J, K, am_RF true)) = some (true, .inr (.inl (7, [am_pv (am_rv true), am_iv x1, am_iv x2], 3, 0, 0, 9, [(0, am_pv 0), (1, am_iv x1), (2, am_iv x2), (3, am_iv x3)], [], am_SH, (J, K, am_RF true)))) from rfl) rfl tb_River_isOpen (s_River_isOpen (by decide) e472) ?_
  obtain ⟨g473, h⟩ := am_if_some h
  by_cases c474 : q471 = 0
  · rw [if_pos c474] at h
    refine am_r_t (show am_stepn X T_UpRiver_flow 1 true (9, [(0, am_pv 0), (1, am_iv x1), (2, am_iv x2), (3, am_iv x3)], [am_iv q471], am_SH, (J, K, am_RF true)) = some ((decide (am_i32 q471) && true), .inl (bif am_cb .eq q471 0 then 19 else 12, [(0, am_pv 0), (1, am_iv x1), (2, am_iv x2), (3, am_iv x3)], [], am_SH, (J, K, am_RF true))) from rfl) (am_g1 g473 rfl) (decide_eq_true c474) ?_
    obtain rfl := Option.some.inj h
    exact am_r_ret (show am_stepn X T_UpRiver_flow 2 true (19, [(0, am_pv 0), (1, am_iv x1), (2, am_iv x2), (3, am_iv x3)], [], am_SH, (J, K, am_RF true)) = some (true, .inr (.inr (some (am_iv (-1000)), am_SH, (J, K, am_RF true)))) from rfl) rfl
  · rw [if_neg c474] at h
    refine am_r_f (show am_stepn X T_UpRiver_flow 1 true (9, [(0, am_pv 0), (1, am_iv x1), (2, am_iv x2), (3, am_iv x3)], [am_iv q471], am_SH, (J, K, am_RF true)) = some ((decide (am_i32 q471) && true), .inl (bif am_cb .eq q471 0 then 19 else 12, [(0, am_pv 0), (1, am_iv x1), (2, am_iv x2), (3, am_iv x3)], [], am_SH, (J, K, am_RF true))) from rfl) (am_g1 g473 rfl) (decide_eq_false c474) ?_
    obtain ⟨q475, e476, h⟩ := am_bind_some h
    refine am_r_call (show am_stepn X T_UpRiver_flow 2 true (12, [(0, am_pv 0), (1, am_iv x1), (2, am_iv x2), (3, am_iv x3)], [], am_SH, (J, K, am_RF true)) = some (true, .inr (.inl (60, [am_iv x3], 1, 0, 0, 16, [(0, am_pv 0), (1, am_iv x1), (2, am_iv x2), (3, am_iv x3)], [], am_SH, (J, K, am_RF true)))) from rfl) rfl tb_UpRiver_isMinute (s_UpRiver_isMinute e476) ?_
    obtain ⟨g477, h⟩ := am_if_some h
    by_cases c478 : q475 = 0
    · rw [if_pos c478] at h
      refine am_r_f (show am_stepn X T_UpRiver_flow 1 true (16, [(0, am_pv 0), (1, am_iv x1), (2, am_iv x2), (3, am_iv x3)], [am_iv q475], am_SH, (J, K, am_RF true)) = some ((decide (am_i32 q475) && true), .inl (bif am_cb .ne q475 0 then 23 else 19, [(0, am_pv 0), (1, am_iv x1), (2, am_iv x2), (3, am_iv x3)], [], am_SH, (J, K, am_RF true))) from rfl) (am_g1 g477 rfl) (am_nd_t c478) ?_
      obtain rfl := Option.some.inj h
      exact am_r_ret (show am_stepn X T_UpRiver_flow 2 true (19, [(0, am_pv 0), (1, am_iv x1), (2, am_iv x2), (3, am_iv x3)], [], am_SH, (J, K, am_RF true)) = some (true, .inr (.inr (some (am_iv (-1000)), am_SH, (J, K, am_RF true)))) from rfl) rfl
    · rw [if_neg c478] at h
      refine am_r_t (show am_stepn X T_UpRiver_flow 1 true (16, [(0, am_pv 0), (1, am_iv x1), (2, am_iv x2), (3, am_iv x3)], [am_iv q475], am_SH, (J, K, am_RF true)) = some ((decide (am_i32 q475) && true), .inl (bif am_cb .ne q475 0 then 23 else 19, [(0, am_pv 0), (1, am_iv x1), (2, am_iv x2), (3, am_iv x3)], [], am_SH, (J, K, am_RF true))) from rfl) (am_g1 g477 rfl) (am_nd_f c478) ?_
      obtain ⟨q479, e480, h⟩ := am_bind_some h
      refine am_r_call (show am_stepn X T_UpRiver_flow 6 true (23, [(0, am_pv 0), (1, am_iv x1), (2, am_iv x2), (3, am_iv x3)], [], am_SH, (J, K, am_RF true)) = some (true, .inr (.inl (61, [am_pv (am_rv true), am_iv x1, am_iv x2, am_iv x3], 5, 0, 0, 33, [(0, am_pv 0), (1, am_iv x1), (2, am_iv x2), (3, am_iv x3)], [], am_SH, (J, K, am_RF true)))) from rfl) rfl tb_River_flowAt (s_River_flowAt (by decide) e480) ?_
      obtain rfl := Option.some.inj h
      exact am_r_ret (show am_stepn X T_UpRiver_flow 1 true (33, [(0, am_pv 0), (1, am_iv x1), (2, am_iv x2), (3, am_iv x3)], [am_iv q479], am_SH, (J, K, am_RF true)) = some (true, .inr (.inr (some (am_iv q479), am_SH, (J, K, am_RF true)))) from rfl) rfl
theorem s_UpRiver_flow {X : am_X} {b : Bool} {J : am_J} {K : am_K} {x1 : Int} {x2 : Int} {x3 : Int} {r : Int} (h : f_UpRiver_flow b J x1 x2 x3 = some r) : am_runs X T_UpRiver_flow (0, [(0, am_pv 0), (1, am_iv x1), (2, am_iv x2), (3, am_iv x3)], [], am_SH, (J, K, am_RF b)) (some (am_iv r), am_SH, (J, K, am_RF b)) := by
  cases b
  · exact s_UpRiver_flow_f h
  · exact s_UpRiver_flow_t h
theorem s_UpRiver_isLane {X : am_X} {b : Bool} {J : am_J} {K : am_K} {x0 : Int} {r : Int} (h : f_UpRiver_isLane  x0 = some r) : am_runs X T_UpRiver_isLane (0, [(0, am_iv x0)], [], am_SH, (J, K, am_RF b)) (some (am_iv r), am_SH, (J, K, am_RF b)) := by
  unfold f_UpRiver_isLane at h
  obtain ⟨g481, h⟩ := am_if_some h
  by_cases c482 : x0 < 0
  · rw [if_pos c482] at h
    refine am_r_t (show am_stepn X T_UpRiver_isLane 2 true (0, [(0, am_iv x0)], [], am_SH, (J, K, am_RF b)) = some ((decide (am_i32 x0) && true), .inl (bif am_cb .lt x0 0 then 14 else 4, [(0, am_iv x0)], [], am_SH, (J, K, am_RF b))) from rfl) (am_g1 g481 rfl) (decide_eq_true c482) ?_
    obtain rfl := Option.some.inj h
    exact am_r_ret (show am_stepn X T_UpRiver_isLane 2 true (14, [(0, am_iv x0)], [], am_SH, (J, K, am_RF b)) = some ((decide ((0 : Int) = 0 ∨ (0 : Int) = 1) && true), .inr (.inr (some (am_iv 0), am_SH, (J, K, am_RF b)))) from rfl) (am_g1 (by decide) rfl)
  · rw [if_neg c482] at h
    refine am_r_f (show am_stepn X T_UpRiver_isLane 2 true (0, [(0, am_iv x0)], [], am_SH, (J, K, am_RF b)) = some ((decide (am_i32 x0) && true), .inl (bif am_cb .lt x0 0 then 14 else 4, [(0, am_iv x0)], [], am_SH, (J, K, am_RF b))) from rfl) (am_g1 g481 rfl) (decide_eq_false c482) ?_
    by_cases c483 : x0 < 9
    · rw [if_pos c483] at h
      refine am_r_f (show am_stepn X T_UpRiver_isLane 3 true (4, [(0, am_iv x0)], [], am_SH, (J, K, am_RF b)) = some (((decide (am_i32 9) && decide (am_i32 x0)) && true), .inl (bif am_cb .ge x0 9 then 14 else 10, [(0, am_iv x0)], [], am_SH, (J, K, am_RF b))) from rfl) (am_g2 (by decide) g481 rfl) (am_nd_t c483) ?_
      obtain rfl := Option.some.inj h
      exact am_r_ret (show am_stepn X T_UpRiver_isLane 3 true (10, [(0, am_iv x0)], [], am_SH, (J, K, am_RF b)) = some ((decide ((1 : Int) = 0 ∨ (1 : Int) = 1) && true), .inr (.inr (some (am_iv 1), am_SH, (J, K, am_RF b)))) from rfl) (am_g1 (by decide) rfl)
    · rw [if_neg c483] at h
      refine am_r_t (show am_stepn X T_UpRiver_isLane 3 true (4, [(0, am_iv x0)], [], am_SH, (J, K, am_RF b)) = some (((decide (am_i32 9) && decide (am_i32 x0)) && true), .inl (bif am_cb .ge x0 9 then 14 else 10, [(0, am_iv x0)], [], am_SH, (J, K, am_RF b))) from rfl) (am_g2 (by decide) g481 rfl) (am_nd_f c483) ?_
      obtain rfl := Option.some.inj h
      exact am_r_ret (show am_stepn X T_UpRiver_isLane 2 true (14, [(0, am_iv x0)], [], am_SH, (J, K, am_RF b)) = some ((decide ((0 : Int) = 0 ∨ (0 : Int) = 1) && true), .inr (.inr (some (am_iv 0), am_SH, (J, K, am_RF b)))) from rfl) (am_g1 (by decide) rfl)
theorem s_UpRiver_isYesOrNo {X : am_X} {b : Bool} {J : am_J} {K : am_K} {x0 : Int} {r : Int} (h : f_UpRiver_isYesOrNo  x0 = some r) : am_runs X T_UpRiver_isYesOrNo (0, [(0, am_iv x0)], [], am_SH, (J, K, am_RF b)) (some (am_iv r), am_SH, (J, K, am_RF b)) := by
  unfold f_UpRiver_isYesOrNo at h
  obtain ⟨g484, h⟩ := am_if_some h
  by_cases c485 : x0 = 0
  · rw [if_pos c485] at h
    refine am_r_t (show am_stepn X T_UpRiver_isYesOrNo 2 true (0, [(0, am_iv x0)], [], am_SH, (J, K, am_RF b)) = some ((decide (am_i32 x0) && true), .inl (bif am_cb .eq x0 0 then 9 else 4, [(0, am_iv x0)], [], am_SH, (J, K, am_RF b))) from rfl) (am_g1 g484 rfl) (decide_eq_true c485) ?_
    obtain rfl := Option.some.inj h
    exact am_r_ret (show am_stepn X T_UpRiver_isYesOrNo 3 true (9, [(0, am_iv x0)], [], am_SH, (J, K, am_RF b)) = some ((decide ((1 : Int) = 0 ∨ (1 : Int) = 1) && true), .inr (.inr (some (am_iv 1), am_SH, (J, K, am_RF b)))) from rfl) (am_g1 (by decide) rfl)
  · rw [if_neg c485] at h
    refine am_r_f (show am_stepn X T_UpRiver_isYesOrNo 2 true (0, [(0, am_iv x0)], [], am_SH, (J, K, am_RF b)) = some ((decide (am_i32 x0) && true), .inl (bif am_cb .eq x0 0 then 9 else 4, [(0, am_iv x0)], [], am_SH, (J, K, am_RF b))) from rfl) (am_g1 g484 rfl) (decide_eq_false c485) ?_
    by_cases c486 : x0 = 1
    · rw [if_pos c486] at h
      refine am_r_f (show am_stepn X T_UpRiver_isYesOrNo 3 true (4, [(0, am_iv x0)], [], am_SH, (J, K, am_RF b)) = some (((decide (am_i32 1) && decide (am_i32 x0)) && true), .inl (bif am_cb .ne x0 1 then 13 else 9, [(0, am_iv x0)], [], am_SH, (J, K, am_RF b))) from rfl) (am_g2 (by decide) g484 rfl) (am_nd_t c486) ?_
      obtain rfl := Option.some.inj h
      exact am_r_ret (show am_stepn X T_UpRiver_isYesOrNo 3 true (9, [(0, am_iv x0)], [], am_SH, (J, K, am_RF b)) = some ((decide ((1 : Int) = 0 ∨ (1 : Int) = 1) && true), .inr (.inr (some (am_iv 1), am_SH, (J, K, am_RF b)))) from rfl) (am_g1 (by decide) rfl)
    · rw [if_neg c486] at h
      refine am_r_t (show am_stepn X T_UpRiver_isYesOrNo 3 true (4, [(0, am_iv x0)], [], am_SH, (J, K, am_RF b)) = some (((decide (am_i32 1) && decide (am_i32 x0)) && true), .inl (bif am_cb .ne x0 1 then 13 else 9, [(0, am_iv x0)], [], am_SH, (J, K, am_RF b))) from rfl) (am_g2 (by decide) g484 rfl) (am_nd_f c486) ?_
      obtain rfl := Option.some.inj h
      exact am_r_ret (show am_stepn X T_UpRiver_isYesOrNo 2 true (13, [(0, am_iv x0)], [], am_SH, (J, K, am_RF b)) = some ((decide ((0 : Int) = 0 ∨ (0 : Int) = 1) && true), .inr (.inr (some (am_iv 0), am_SH, (J, K, am_RF b)))) from rfl) (am_g1 (by decide) rfl)
theorem s_River_waterAt_32_ {X : am_X} {b : Bool} {J : am_J} {K : am_K} {x1 : Int} {x2 : Int} {x3 : Int} {r : Int} (h : f_River_waterAt 32 J x1 x2 x3 = some r) : am_runs X T_River_waterAt (0, [(0, am_pv 32), (1, am_iv x1), (2, am_iv x2), (3, am_iv x3)], [], am_SH, (J, K, am_RF b)) (some (am_iv r), am_SH, (J, K, am_RF b)) := by
  unfold f_River_waterAt at h
  obtain ⟨q487, e488, h⟩ := am_bind_some h
  refine am_r_call (show am_stepn X T_River_waterAt 4 true (0, [(0, am_pv 32), (1, am_iv x1), (2, am_iv x2), (3, am_iv x3)], [], am_SH, (J, K, am_RF b)) = some (true, .inr (.inl (7, [am_pv 32, am_iv x1, am_iv x2], 3, 0, 0, 6, [(0, am_pv 32), (1, am_iv x1), (2, am_iv x2), (3, am_iv x3)], [], am_SH, (J, K, am_RF b)))) from rfl) rfl tb_River_isOpen (s_River_isOpen (by decide) e488) ?_
  obtain ⟨g489, h⟩ := am_if_some h
  by_cases c490 : q487 = 0
  · rw [if_pos c490] at h
    refine am_r_t (show am_stepn X T_River_waterAt 1 true (6, [(0, am_pv 32), (1, am_iv x1), (2, am_iv x2), (3, am_iv x3)], [am_iv q487], am_SH, (J, K, am_RF b)) = some ((decide (am_i32 q487) && true), .inl (bif am_cb .eq q487 0 then 34 else 9, [(0, am_pv 32), (1, am_iv x1), (2, am_iv x2), (3, am_iv x3)], [], am_SH, (J, K, am_RF b))) from rfl) (am_g1 g489 rfl) (decide_eq_true c490) ?_
    obtain rfl := Option.some.inj h
    exact am_r_ret (show am_stepn X T_River_waterAt 2 true (34, [(0, am_pv 32), (1, am_iv x1), (2, am_iv x2), (3, am_iv x3)], [], am_SH, (J, K, am_RF b)) = some (true, .inr (.inr (some (am_iv (-1)), am_SH, (J, K, am_RF b)))) from rfl) rfl
  · rw [if_neg c490] at h
    refine am_r_f (show am_stepn X T_River_waterAt 1 true (6, [(0, am_pv 32), (1, am_iv x1), (2, am_iv x2), (3, am_iv x3)], [am_iv q487], am_SH, (J, K, am_RF b)) = some ((decide (am_i32 q487) && true), .inl (bif am_cb .eq q487 0 then 34 else 9, [(0, am_pv 32), (1, am_iv x1), (2, am_iv x2), (3, am_iv x3)], [], am_SH, (J, K, am_RF b))) from rfl) (am_g1 g489 rfl) (decide_eq_false c490) ?_
    obtain ⟨g491, h⟩ := am_if_some h
    obtain ⟨q492, e493, h⟩ := am_bind_some h
    refine am_r_call (show am_stepn X T_River_waterAt 13 true (9, [(0, am_pv 32), (1, am_iv x1), (2, am_iv x2), (3, am_iv x3)], [], am_SH, (J, K, am_RF b)) = some ((am_in ((x1 * 9) + x2) 72 && true), .inr (.inl (62, [am_pv 32, am_iv x3], 3, 0, 0, 29, [(0, am_pv 32), (1, am_iv x1), (2, am_iv x2), (3, am_iv x3)], [am_pv (32 + 3), am_iv (J (32 + 8) (((x1 * 9) + x2).toNat))], am_SH, (J, K, am_RF b)))) from rfl) (am_gi g491 rfl) tb_River_phaseIn (s_River_phaseIn (by decide) e493) ?_
    obtain ⟨g494, h⟩ := am_if_some h
    obtain rfl := Option.some.inj h
    exact am_r_ret (show am_stepn X T_River_waterAt 4 true (29, [(0, am_pv 32), (1, am_iv x1), (2, am_iv x2), (3, am_iv x3)], [am_iv q492, am_pv (32 + 3), am_iv (J (32 + 8) (((x1 * 9) + x2).toNat))], am_SH, (J, K, am_RF b)) = some ((am_in q492 12 && true), .inr (.inr (some (am_iv ((J (32 + 8) (((x1 * 9) + x2).toNat)) + (J (32 + 3) q492.toNat))), am_SH, (J, K, am_RF b)))) from rfl) (am_gi g494 rfl)
theorem s_River_waterAt_6_ {X : am_X} {b : Bool} {J : am_J} {K : am_K} {x1 : Int} {x2 : Int} {x3 : Int} {r : Int} (h : f_River_waterAt 6 J x1 x2 x3 = some r) : am_runs X T_River_waterAt (0, [(0, am_pv 6), (1, am_iv x1), (2, am_iv x2), (3, am_iv x3)], [], am_SH, (J, K, am_RF b)) (some (am_iv r), am_SH, (J, K, am_RF b)) := by
  unfold f_River_waterAt at h
  obtain ⟨q487, e488, h⟩ := am_bind_some h
  refine am_r_call (show am_stepn X T_River_waterAt 4 true (0, [(0, am_pv 6), (1, am_iv x1), (2, am_iv x2), (3, am_iv x3)], [], am_SH, (J, K, am_RF b)) = some (true, .inr (.inl (7, [am_pv 6, am_iv x1, am_iv x2], 3, 0, 0, 6, [(0, am_pv 6), (1, am_iv x1), (2, am_iv x2), (3, am_iv x3)], [], am_SH, (J, K, am_RF b)))) from rfl) rfl tb_River_isOpen (s_River_isOpen (by decide) e488) ?_
  obtain ⟨g489, h⟩ := am_if_some h
  by_cases c490 : q487 = 0
  · rw [if_pos c490] at h
    refine am_r_t (show am_stepn X T_River_waterAt 1 true (6, [(0, am_pv 6), (1, am_iv x1), (2, am_iv x2), (3, am_iv x3)], [am_iv q487], am_SH, (J, K, am_RF b)) = some ((decide (am_i32 q487) && true), .inl (bif am_cb .eq q487 0 then 34 else 9, [(0, am_pv 6), (1, am_iv x1), (2, am_iv x2), (3, am_iv x3)], [], am_SH, (J, K, am_RF b))) from rfl) (am_g1 g489 rfl) (decide_eq_true c490) ?_
    obtain rfl := Option.some.inj h
    exact am_r_ret (show am_stepn X T_River_waterAt 2 true (34, [(0, am_pv 6), (1, am_iv x1), (2, am_iv x2), (3, am_iv x3)], [], am_SH, (J, K, am_RF b)) = some (true, .inr (.inr (some (am_iv (-1)), am_SH, (J, K, am_RF b)))) from rfl) rfl
  · rw [if_neg c490] at h
    refine am_r_f (show am_stepn X T_River_waterAt 1 true (6, [(0, am_pv 6), (1, am_iv x1), (2, am_iv x2), (3, am_iv x3)], [am_iv q487], am_SH, (J, K, am_RF b)) = some ((decide (am_i32 q487) && true), .inl (bif am_cb .eq q487 0 then 34 else 9, [(0, am_pv 6), (1, am_iv x1), (2, am_iv x2), (3, am_iv x3)], [], am_SH, (J, K, am_RF b))) from rfl) (am_g1 g489 rfl) (decide_eq_false c490) ?_
    obtain ⟨g491, h⟩ := am_if_some h
    obtain ⟨q492, e493, h⟩ := am_bind_some h
    refine am_r_call (show am_stepn X T_River_waterAt 13 true (9, [(0, am_pv 6), (1, am_iv x1), (2, am_iv x2), (3, am_iv x3)], [], am_SH, (J, K, am_RF b)) = some ((am_in ((x1 * 9) + x2) 72 && true), .inr (.inl (62, [am_pv 6, am_iv x3], 3, 0, 0, 29, [(0, am_pv 6), (1, am_iv x1), (2, am_iv x2), (3, am_iv x3)], [am_pv (6 + 3), am_iv (J (6 + 8) (((x1 * 9) + x2).toNat))], am_SH, (J, K, am_RF b)))) from rfl) (am_gi g491 rfl) tb_River_phaseIn (s_River_phaseIn (by decide) e493) ?_
    obtain ⟨g494, h⟩ := am_if_some h
    obtain rfl := Option.some.inj h
    exact am_r_ret (show am_stepn X T_River_waterAt 4 true (29, [(0, am_pv 6), (1, am_iv x1), (2, am_iv x2), (3, am_iv x3)], [am_iv q492, am_pv (6 + 3), am_iv (J (6 + 8) (((x1 * 9) + x2).toNat))], am_SH, (J, K, am_RF b)) = some ((am_in q492 12 && true), .inr (.inr (some (am_iv ((J (6 + 8) (((x1 * 9) + x2).toNat)) + (J (6 + 3) q492.toNat))), am_SH, (J, K, am_RF b)))) from rfl) (am_gi g494 rfl)
theorem s_River_waterAt {X : am_X} {b : Bool} {o1 : Nat} (ho : o1 = 32 ∨ o1 = 6) {J : am_J} {K : am_K} {x1 : Int} {x2 : Int} {x3 : Int} {r : Int} (h : f_River_waterAt o1 J x1 x2 x3 = some r) : am_runs X T_River_waterAt (0, [(0, am_pv o1), (1, am_iv x1), (2, am_iv x2), (3, am_iv x3)], [], am_SH, (J, K, am_RF b)) (some (am_iv r), am_SH, (J, K, am_RF b)) := by
  rcases ho with rfl | rfl
  · skip
    exact s_River_waterAt_32_ h
  · skip
    exact s_River_waterAt_6_ h
theorem s_River_carries_32_ {X : am_X} {b : Bool} {J : am_J} {K : am_K} {x1 : Int} {x2 : Int} {x3 : Int} {r : Int} (h : f_River_carries 32 J x1 x2 x3 = some r) : am_runs X T_River_carries (0, [(0, am_pv 32), (1, am_iv x1), (2, am_iv x2), (3, am_iv x3)], [], am_SH, (J, K, am_RF b)) (some (am_iv r), am_SH, (J, K, am_RF b)) := by
  unfold f_River_carries at h
  obtain ⟨q495, e496, h⟩ := am_bind_some h
  refine am_r_call (show am_stepn X T_River_carries 5 true (0, [(0, am_pv 32), (1, am_iv x1), (2, am_iv x2), (3, am_iv x3)], [], am_SH, (J, K, am_RF b)) = some (true, .inr (.inl (69, [am_pv 32, am_iv x1, am_iv x2, am_iv x3], 4, 0, 0, 7, [(0, am_pv 32), (1, am_iv x1), (2, am_iv x2), (3, am_iv x3)], [], am_SH, (J, K, am_RF b)))) from rfl) rfl tb_River_waterAt (s_River_waterAt (by decide) e496) ?_
  obtain ⟨g497, h⟩ := am_if_some h
  obtain ⟨g498, h⟩ := am_if_some h
  by_cases c499 : q495 < (J (32 + 1) 2)
  · rw [if_pos c499] at h
    refine am_r_t (show am_stepn X T_River_carries 5 true (7, [(0, am_pv 32), (1, am_iv x1), (2, am_iv x2), (3, am_iv x3)], [am_iv q495], am_SH, (J, K, am_RF b)) = some (((decide (am_i32 (J (32 + 1) 2)) && decide (am_i32 q495)) && (am_in 2 7 && true)), .inl (bif am_cb .lt q495 (J (32 + 1) 2) then 20 else 16, [(0, am_pv 32), (1, am_iv x1), (2, am_iv x2), (3, am_iv x3)], [], am_SH, (J, K, am_RF b))) from rfl) (am_g2 g497 g498 (am_gi (by decide) rfl)) (decide_eq_true c499) ?_
    obtain rfl := Option.some.inj h
    exact am_r_ret (show am_stepn X T_River_carries 2 true (20, [(0, am_pv 32), (1, am_iv x1), (2, am_iv x2), (3, am_iv x3)], [], am_SH, (J, K, am_RF b)) = some ((decide ((0 : Int) = 0 ∨ (0 : Int) = 1) && true), .inr (.inr (some (am_iv 0), am_SH, (J, K, am_RF b)))) from rfl) (am_g1 (by decide) rfl)
  · rw [if_neg c499] at h
    refine am_r_f (show am_stepn X T_River_carries 5 true (7, [(0, am_pv 32), (1, am_iv x1), (2, am_iv x2), (3, am_iv x3)], [am_iv q495], am_SH, (J, K, am_RF b)) = some (((decide (am_i32 (J (32 + 1) 2)) && decide (am_i32 q495)) && (am_in 2 7 && true)), .inl (bif am_cb .lt q495 (J (32 + 1) 2) then 20 else 16, [(0, am_pv 32), (1, am_iv x1), (2, am_iv x2), (3, am_iv x3)], [], am_SH, (J, K, am_RF b))) from rfl) (am_g2 g497 g498 (am_gi (by decide) rfl)) (decide_eq_false c499) ?_
    obtain rfl := Option.some.inj h
    exact am_r_ret (show am_stepn X T_River_carries 3 true (16, [(0, am_pv 32), (1, am_iv x1), (2, am_iv x2), (3, am_iv x3)], [], am_SH, (J, K, am_RF b)) = some ((decide ((1 : Int) = 0 ∨ (1 : Int) = 1) && true), .inr (.inr (some (am_iv 1), am_SH, (J, K, am_RF b)))) from rfl) (am_g1 (by decide) rfl)
theorem s_River_carries_6_ {X : am_X} {b : Bool} {J : am_J} {K : am_K} {x1 : Int} {x2 : Int} {x3 : Int} {r : Int} (h : f_River_carries 6 J x1 x2 x3 = some r) : am_runs X T_River_carries (0, [(0, am_pv 6), (1, am_iv x1), (2, am_iv x2), (3, am_iv x3)], [], am_SH, (J, K, am_RF b)) (some (am_iv r), am_SH, (J, K, am_RF b)) := by
  unfold f_River_carries at h
  obtain ⟨q495, e496, h⟩ := am_bind_some h
  refine am_r_call (show am_stepn X T_River_carries 5 true (0, [(0, am_pv 6), (1, am_iv x1), (2, am_iv x2), (3, am_iv x3)], [], am_SH, (J, K, am_RF b)) = some (true, .inr (.inl (69, [am_pv 6, am_iv x1, am_iv x2, am_iv x3], 4, 0, 0, 7, [(0, am_pv 6), (1, am_iv x1), (2, am_iv x2), (3, am_iv x3)], [], am_SH, (J, K, am_RF b)))) from rfl) rfl tb_River_waterAt (s_River_waterAt (by decide) e496) ?_
  obtain ⟨g497, h⟩ := am_if_some h
  obtain ⟨g498, h⟩ := am_if_some h
  by_cases c499 : q495 < (J (6 + 1) 2)
  · rw [if_pos c499] at h
    refine am_r_t (show am_stepn X T_River_carries 5 true (7, [(0, am_pv 6), (1, am_iv x1), (2, am_iv x2), (3, am_iv x3)], [am_iv q495], am_SH, (J, K, am_RF b)) = some (((decide (am_i32 (J (6 + 1) 2)) && decide (am_i32 q495)) && (am_in 2 7 && true)), .inl (bif am_cb .lt q495 (J (6 + 1) 2) then 20 else 16, [(0, am_pv 6), (1, am_iv x1), (2, am_iv x2), (3, am_iv x3)], [], am_SH, (J, K, am_RF b))) from rfl) (am_g2 g497 g498 (am_gi (by decide) rfl)) (decide_eq_true c499) ?_
    obtain rfl := Option.some.inj h
    exact am_r_ret (show am_stepn X T_River_carries 2 true (20, [(0, am_pv 6), (1, am_iv x1), (2, am_iv x2), (3, am_iv x3)], [], am_SH, (J, K, am_RF b)) = some ((decide ((0 : Int) = 0 ∨ (0 : Int) = 1) && true), .inr (.inr (some (am_iv 0), am_SH, (J, K, am_RF b)))) from rfl) (am_g1 (by decide) rfl)
  · rw [if_neg c499] at h
    refine am_r_f (show am_stepn X T_River_carries 5 true (7, [(0, am_pv 6), (1, am_iv x1), (2, am_iv x2), (3, am_iv x3)], [am_iv q495], am_SH, (J, K, am_RF b)) = some (((decide (am_i32 (J (6 + 1) 2)) && decide (am_i32 q495)) && (am_in 2 7 && true)), .inl (bif am_cb .lt q495 (J (6 + 1) 2) then 20 else 16, [(0, am_pv 6), (1, am_iv x1), (2, am_iv x2), (3, am_iv x3)], [], am_SH, (J, K, am_RF b))) from rfl) (am_g2 g497 g498 (am_gi (by decide) rfl)) (decide_eq_false c499) ?_
    obtain rfl := Option.some.inj h
    exact am_r_ret (show am_stepn X T_River_carries 3 true (16, [(0, am_pv 6), (1, am_iv x1), (2, am_iv x2), (3, am_iv x3)], [], am_SH, (J, K, am_RF b)) = some ((decide ((1 : Int) = 0 ∨ (1 : Int) = 1) && true), .inr (.inr (some (am_iv 1), am_SH, (J, K, am_RF b)))) from rfl) (am_g1 (by decide) rfl)
theorem s_River_carries {X : am_X} {b : Bool} {o1 : Nat} (ho : o1 = 32 ∨ o1 = 6) {J : am_J} {K : am_K} {x1 : Int} {x2 : Int} {x3 : Int} {r : Int} (h : f_River_carries o1 J x1 x2 x3 = some r) : am_runs X T_River_carries (0, [(0, am_pv o1), (1, am_iv x1), (2, am_iv x2), (3, am_iv x3)], [], am_SH, (J, K, am_RF b)) (some (am_iv r), am_SH, (J, K, am_RF b)) := by
  rcases ho with rfl | rfl
  · skip
    exact s_River_carries_32_ h
  · skip
    exact s_River_carries_6_ h
theorem s_UpRiver_afloat_L50_f {X : am_X} {J : am_J} {K : am_K}  : ∀ (n : Nat) (x1 : Int) (x2 : Int) (x5 : Int) (x6 : Int) (r : Int), f_UpRiver_afloat_L50 false J  n x1 x2 x5 x6 = some r → am_runs X T_UpRiver_afloat (50, [(0, am_pv 0), (1, am_iv x1), (2, am_iv x2), (5, am_iv x5), (6, am_iv x6)], [], am_SH, (J, K, am_RF false)) (some (am_iv r), am_SH, (J, K, am_RF false)) := by
  intro n
  induction n with
  | zero =>
    intro x1 x2 x5 x6 r h
    cases h
  | succ n ih =>
    intro x1 x2 x5 x6 r h
    rw [f_UpRiver_afloat_L50.eq_2] at h
    obtain ⟨g500, h⟩ := am_if_some h
    by_cases c501 : 300 < x6
    · rw [if_pos c501] at h
      refine am_r_t (show am_stepn X T_UpRiver_afloat 3 true (50, [(0, am_pv 0), (1, am_iv x1), (2, am_iv x2), (5, am_iv x5), (6, am_iv x6)], [], am_SH, (J, K, am_RF false)) = some (((decide (am_i32 300) && decide (am_i32 x6)) && true), .inl (bif am_cb .gt x6 300 then 83 else 58, [(0, am_pv 0), (1, am_iv x1), (2, am_iv x2), (5, am_iv x5), (6, am_iv x6)], [], am_SH, (J, K, am_RF false))) from rfl) (am_g2 (by decide) g500 rfl) (decide_eq_true c501) ?_
      obtain rfl := Option.some.inj h
      exact am_r_ret (show am_stepn X T_UpRiver_afloat 2 true (83, [(0, am_pv 0), (1, am_iv x1), (2, am_iv x2), (5, am_iv x5), (6, am_iv x6)], [], am_SH, (J, K, am_RF false)) = some (true, .inr (.inr (some (am_iv (-4)), am_SH, (J, K, am_RF false)))) from rfl) rfl
    · rw [if_neg c501] at h
      refine am_r_f (show am_stepn X T_UpRiver_afloat 3 true (50, [(0, am_pv 0), (1, am_iv x1), (2, am_iv x2), (5, am_iv x5), (6, am_iv x6)], [], am_SH, (J, K, am_RF false)) = some (((decide (am_i32 300) && decide (am_i32 x6)) && true), .inl (bif am_cb .gt x6 300 then 83 else 58, [(0, am_pv 0), (1, am_iv x1), (2, am_iv x2), (5, am_iv x5), (6, am_iv x6)], [], am_SH, (J, K, am_RF false))) from rfl) (am_g2 (by decide) g500 rfl) (decide_eq_false c501) ?_
      obtain ⟨q502, e503, h⟩ := am_bind_some h
      refine am_r_call (show am_stepn X T_UpRiver_afloat 6 true (58, [(0, am_pv 0), (1, am_iv x1), (2, am_iv x2), (5, am_iv x5), (6, am_iv x6)], [], am_SH, (J, K, am_RF false)) = some (true, .inr (.inl (68, [am_pv (am_rv false), am_iv x1, am_iv x2, am_iv x6], 4, 0, 0, 69, [(0, am_pv 0), (1, am_iv x1), (2, am_iv x2), (5, am_iv x5), (6, am_iv x6)], [], am_SH, (J, K, am_RF false)))) from rfl) rfl tb_River_carries (s_River_carries (by decide) e503) ?_
      obtain ⟨g504, h⟩ := am_if_some h
      obtain ⟨g505, h⟩ := am_if_some h
      by_cases c506 : q502 = x5
      · rw [if_pos c506] at h
        refine am_r_f (show am_stepn X T_UpRiver_afloat 2 true (69, [(0, am_pv 0), (1, am_iv x1), (2, am_iv x2), (5, am_iv x5), (6, am_iv x6)], [am_iv q502], am_SH, (J, K, am_RF false)) = some (((decide (am_i32 x5) && decide (am_i32 q502)) && true), .inl (bif am_cb .ne q502 x5 then 77 else 74, [(0, am_pv 0), (1, am_iv x1), (2, am_iv x2), (5, am_iv x5), (6, am_iv x6)], [], am_SH, (J, K, am_RF false))) from rfl) (am_g2 g504 g505 rfl) (am_nd_t c506) ?_
        obtain rfl := Option.some.inj h
        exact am_r_ret (show am_stepn X T_UpRiver_afloat 2 true (74, [(0, am_pv 0), (1, am_iv x1), (2, am_iv x2), (5, am_iv x5), (6, am_iv x6)], [], am_SH, (J, K, am_RF false)) = some (true, .inr (.inr (some (am_iv x6), am_SH, (J, K, am_RF false)))) from rfl) rfl
      · rw [if_neg c506] at h
        refine am_r_t (show am_stepn X T_UpRiver_afloat 2 true (69, [(0, am_pv 0), (1, am_iv x1), (2, am_iv x2), (5, am_iv x5), (6, am_iv x6)], [am_iv q502], am_SH, (J, K, am_RF false)) = some (((decide (am_i32 x5) && decide (am_i32 q502)) && true), .inl (bif am_cb .ne q502 x5 then 77 else 74, [(0, am_pv 0), (1, am_iv x1), (2, am_iv x2), (5, am_iv x5), (6, am_iv x6)], [], am_SH, (J, K, am_RF false))) from rfl) (am_g2 g504 g505 rfl) (am_nd_f c506) ?_
        refine am_r_go (show am_stepn X T_UpRiver_afloat 2 true (77, [(0, am_pv 0), (1, am_iv x1), (2, am_iv x2), (5, am_iv x5), (6, am_iv x6)], [], am_SH, (J, K, am_RF false)) = some (true, .inl (50, [(0, am_pv 0), (1, am_iv x1), (2, am_iv x2), (5, am_iv x5), (6, am_iv (x6 + 1))], [], am_SH, (J, K, am_RF false))) from rfl) rfl ?_
        exact ih _ _ _ _ _ h
theorem s_UpRiver_afloat_f {X : am_X} {J : am_J} {K : am_K} {x1 : Int} {x2 : Int} {x3 : Int} {x4 : Int} {r : Int} (h : f_UpRiver_afloat false J x1 x2 x3 x4 = some r) : am_runs X T_UpRiver_afloat (0, [(0, am_pv 0), (1, am_iv x1), (2, am_iv x2), (3, am_iv x3), (4, am_iv x4)], [], am_SH, (J, K, am_RF false)) (some (am_iv r), am_SH, (J, K, am_RF false)) := by
  unfold f_UpRiver_afloat at h
  obtain ⟨q507, e508, h⟩ := am_bind_some h
  refine am_r_call (show am_stepn X T_UpRiver_afloat 4 true (0, [(0, am_pv 0), (1, am_iv x1), (2, am_iv x2), (3, am_iv x3), (4, am_iv x4)], [], am_SH, (J, K, am_RF false)) = some (true, .inr (.inl (56, [am_pv (am_rv false), am_iv x1], 2, 0, 0, 8, [(0, am_pv 0), (1, am_iv x1), (2, am_iv x2), (3, am_iv x3), (4, am_iv x4)], [], am_SH, (J, K, am_RF false)))) from rfl) rfl tb_River_hasReach (s_River_hasReach (by decide) e508) ?_
  obtain ⟨g509, h⟩ := am_if_some h
  by_cases c510 : q507 = 0
  · rw [if_pos c510] at h
    refine am_r_t (show am_stepn X T_UpRiver_afloat 1 true (8, [(0, am_pv 0), (1, am_iv x1), (2, am_iv x2), (3, am_iv x3), (4, am_iv x4)], [am_iv q507], am_SH, (J, K, am_RF false)) = some ((decide (am_i32 q507) && true), .inl (bif am_cb .eq q507 0 then 33 else 11, [(0, am_pv 0), (1, am_iv x1), (2, am_iv x2), (3, am_iv x3), (4, am_iv x4)], [], am_SH, (J, K, am_RF false))) from rfl) (am_g1 g509 rfl) (decide_eq_true c510) ?_
    obtain rfl := Option.some.inj h
    exact am_r_ret (show am_stepn X T_UpRiver_afloat 2 true (33, [(0, am_pv 0), (1, am_iv x1), (2, am_iv x2), (3, am_iv x3), (4, am_iv x4)], [], am_SH, (J, K, am_RF false)) = some (true, .inr (.inr (some (am_iv (-1)), am_SH, (J, K, am_RF false)))) from rfl) rfl
  · rw [if_neg c510] at h
    refine am_r_f (show am_stepn X T_UpRiver_afloat 1 true (8, [(0, am_pv 0), (1, am_iv x1), (2, am_iv x2), (3, am_iv x3), (4, am_iv x4)], [am_iv q507], am_SH, (J, K, am_RF false)) = some ((decide (am_i32 q507) && true), .inl (bif am_cb .eq q507 0 then 33 else 11, [(0, am_pv 0), (1, am_iv x1), (2, am_iv x2), (3, am_iv x3), (4, am_iv x4)], [], am_SH, (J, K, am_RF false))) from rfl) (am_g1 g509 rfl) (decide_eq_false c510) ?_
    obtain ⟨q511, e512, h⟩ := am_bind_some h
    refine am_r_call (show am_stepn X T_UpRiver_afloat 2 true (11, [(0, am_pv 0), (1, am_iv x1), (2, am_iv x2), (3, am_iv x3), (4, am_iv x4)], [], am_SH, (J, K, am_RF false)) = some (true, .inr (.inl (66, [am_iv x2], 1, 0, 0, 15, [(0, am_pv 0), (1, am_iv x1), (2, am_iv x2), (3, am_iv x3), (4, am_iv x4)], [], am_SH, (J, K, am_RF false)))) from rfl) rfl tb_UpRiver_isLane (s_UpRiver_isLane e512) ?_
    obtain ⟨g513, h⟩ := am_if_some h
    by_cases c514 : q511 = 0
    · rw [if_pos c514] at h
      refine am_r_t (show am_stepn X T_UpRiver_afloat 1 true (15, [(0, am_pv 0), (1, am_iv x1), (2, am_iv x2), (3, am_iv x3), (4, am_iv x4)], [am_iv q511], am_SH, (J, K, am_RF false)) = some ((decide (am_i32 q511) && true), .inl (bif am_cb .eq q511 0 then 33 else 18, [(0, am_pv 0), (1, am_iv x1), (2, am_iv x2), (3, am_iv x3), (4, am_iv x4)], [], am_SH, (J, K, am_RF false))) from rfl) (am_g1 g513 rfl) (decide_eq_true c514) ?_
      obtain rfl := Option.some.inj h
      exact am_r_ret (show am_stepn X T_UpRiver_afloat 2 true (33, [(0, am_pv 0), (1, am_iv x1), (2, am_iv x2), (3, am_iv x3), (4, am_iv x4)], [], am_SH, (J, K, am_RF false)) = some (true, .inr (.inr (some (am_iv (-1)), am_SH, (J, K, am_RF false)))) from rfl) rfl
    · rw [if_neg c514] at h
      refine am_r_f (show am_stepn X T_UpRiver_afloat 1 true (15, [(0, am_pv 0), (1, am_iv x1), (2, am_iv x2), (3, am_iv x3), (4, am_iv x4)], [am_iv q511], am_SH, (J, K, am_RF false)) = some ((decide (am_i32 q511) && true), .inl (bif am_cb .eq q511 0 then 33 else 18, [(0, am_pv 0), (1, am_iv x1), (2, am_iv x2), (3, am_iv x3), (4, am_iv x4)], [], am_SH, (J, K, am_RF false))) from rfl) (am_g1 g513 rfl) (decide_eq_false c514) ?_
      obtain ⟨q515, e516, h⟩ := am_bind_some h
      refine am_r_call (show am_stepn X T_UpRiver_afloat 2 true (18, [(0, am_pv 0), (1, am_iv x1), (2, am_iv x2), (3, am_iv x3), (4, am_iv x4)], [], am_SH, (J, K, am_RF false)) = some (true, .inr (.inl (60, [am_iv x3], 1, 0, 0, 22, [(0, am_pv 0), (1, am_iv x1), (2, am_iv x2), (3, am_iv x3), (4, am_iv x4)], [], am_SH, (J, K, am_RF false)))) from rfl) rfl tb_UpRiver_isMinute (s_UpRiver_isMinute e516) ?_
      obtain ⟨g517, h⟩ := am_if_some h
      by_cases c518 : q515 = 0
      · rw [if_pos c518] at h
        refine am_r_t (show am_stepn X T_UpRiver_afloat 1 true (22, [(0, am_pv 0), (1, am_iv x1), (2, am_iv x2), (3, am_iv x3), (4, am_iv x4)], [am_iv q515], am_SH, (J, K, am_RF false)) = some ((decide (am_i32 q515) && true), .inl (bif am_cb .eq q515 0 then 33 else 25, [(0, am_pv 0), (1, am_iv x1), (2, am_iv x2), (3, am_iv x3), (4, am_iv x4)], [], am_SH, (J, K, am_RF false))) from rfl) (am_g1 g517 rfl) (decide_eq_true c518) ?_
        obtain rfl := Option.some.inj h
        exact am_r_ret (show am_stepn X T_UpRiver_afloat 2 true (33, [(0, am_pv 0), (1, am_iv x1), (2, am_iv x2), (3, am_iv x3), (4, am_iv x4)], [], am_SH, (J, K, am_RF false)) = some (true, .inr (.inr (some (am_iv (-1)), am_SH, (J, K, am_RF false)))) from rfl) rfl
      · rw [if_neg c518] at h
        refine am_r_f (show am_stepn X T_UpRiver_afloat 1 true (22, [(0, am_pv 0), (1, am_iv x1), (2, am_iv x2), (3, am_iv x3), (4, am_iv x4)], [am_iv q515], am_SH, (J, K, am_RF false)) = some ((decide (am_i32 q515) && true), .inl (bif am_cb .eq q515 0 then 33 else 25, [(0, am_pv 0), (1, am_iv x1), (2, am_iv x2), (3, am_iv x3), (4, am_iv x4)], [], am_SH, (J, K, am_RF false))) from rfl) (am_g1 g517 rfl) (decide_eq_false c518) ?_
        obtain ⟨q519, e520, h⟩ := am_bind_some h
        refine am_r_call (show am_stepn X T_UpRiver_afloat 2 true (25, [(0, am_pv 0), (1, am_iv x1), (2, am_iv x2), (3, am_iv x3), (4, am_iv x4)], [], am_SH, (J, K, am_RF false)) = some (true, .inr (.inl (67, [am_iv x4], 1, 0, 0, 30, [(0, am_pv 0), (1, am_iv x1), (2, am_iv x2), (3, am_iv x3), (4, am_iv x4)], [], am_SH, (J, K, am_RF false)))) from rfl) rfl tb_UpRiver_isYesOrNo (s_UpRiver_isYesOrNo e520) ?_
        obtain ⟨g521, h⟩ := am_if_some h
        by_cases c522 : q519 = 0
        · rw [if_pos c522] at h
          refine am_r_f (show am_stepn X T_UpRiver_afloat 1 true (30, [(0, am_pv 0), (1, am_iv x1), (2, am_iv x2), (3, am_iv x3), (4, am_iv x4)], [am_iv q519], am_SH, (J, K, am_RF false)) = some ((decide (am_i32 q519) && true), .inl (bif am_cb .ne q519 0 then 35 else 33, [(0, am_pv 0), (1, am_iv x1), (2, am_iv x2), (3, am_iv x3), (4, am_iv x4)], [], am_SH, (J, K, am_RF false))) from rfl) (am_g1 g521 rfl) (am_nd_t c522) ?_
          obtain rfl := Option.some.inj h
          exact am_r_ret (show am_stepn X T_UpRiver_afloat 2 true (33, [(0, am_pv 0), (1, am_iv x1), (2, am_iv x2), (3, am_iv x3), (4, am_iv x4)], [], am_SH, (J, K, am_RF false)) = some (true, .inr (.inr (some (am_iv (-1)), am_SH, (J, K, am_RF false)))) from rfl) rfl
        · rw [if_neg c522] at h
          refine am_r_t (show am_stepn X T_UpRiver_afloat 1 true (30, [(0, am_pv 0), (1, am_iv x1), (2, am_iv x2), (3, am_iv x3), (4, am_iv x4)], [am_iv q519], am_SH, (J, K, am_RF false)) = some ((decide (am_i32 q519) && true), .inl (bif am_cb .ne q519 0 then 35 else 33, [(0, am_pv 0), (1, am_iv x1), (2, am_iv x2), (3, am_iv x3), (4, am_iv x4)], [], am_SH, (J, K, am_RF false))) from rfl) (am_g1 g521 rfl) (am_nd_f c522) ?_
          obtain ⟨g523, h⟩ := am_if_some h
          by_cases c524 : x4 = 0
          · rw [if_pos c524] at h
            refine am_r_f (show am_stepn X T_UpRiver_afloat 2 true (35, [(0, am_pv 0), (1, am_iv x1), (2, am_iv x2), (3, am_iv x3), (4, am_iv x4)], [], am_SH, (J, K, am_RF false)) = some ((decide (am_i32 x4) && true), .inl (bif am_cb .ne x4 0 then 44 else 40, [(0, am_pv 0), (1, am_iv x1), (2, am_iv x2), (3, am_iv x3), (4, am_iv x4)], [], am_SH, (J, K, am_RF false))) from rfl) (am_g1 g523 rfl) (am_nd_t c524) ?_
            refine am_r_go (show am_stepn X T_UpRiver_afloat 5 true (40, [(0, am_pv 0), (1, am_iv x1), (2, am_iv x2), (3, am_iv x3), (4, am_iv x4)], [], am_SH, (J, K, am_RF false)) = some (true, .inl (50, [(0, am_pv 0), (1, am_iv x1), (2, am_iv x2), (3, am_iv x3), (5, am_iv 1), (6, am_iv x3)], [], am_SH, (J, K, am_RF false))) from rfl) rfl ?_
            refine am_r_eq (σ' := (50, [(0, am_pv 0), (1, am_iv x1), (2, am_iv x2), (5, am_iv 1), (6, am_iv x3)], [], am_SH, (J, K, am_RF false))) rfl ?_
            exact s_UpRiver_afloat_L50_f  _ _ _ _ _ _ h
          · rw [if_neg c524] at h
            refine am_r_t (show am_stepn X T_UpRiver_afloat 2 true (35, [(0, am_pv 0), (1, am_iv x1), (2, am_iv x2), (3, am_iv x3), (4, am_iv x4)], [], am_SH, (J, K, am_RF false)) = some ((decide (am_i32 x4) && true), .inl (bif am_cb .ne x4 0 then 44 else 40, [(0, am_pv 0), (1, am_iv x1), (2, am_iv x2), (3, am_iv x3), (4, am_iv x4)], [], am_SH, (J, K, am_RF false))) from rfl) (am_g1 g523 rfl) (am_nd_f c524) ?_
            refine am_r_go (show am_stepn X T_UpRiver_afloat 4 true (44, [(0, am_pv 0), (1, am_iv x1), (2, am_iv x2), (3, am_iv x3), (4, am_iv x4)], [], am_SH, (J, K, am_RF false)) = some (true, .inl (50, [(0, am_pv 0), (1, am_iv x1), (2, am_iv x2), (3, am_iv x3), (5, am_iv 0), (6, am_iv x3)], [], am_SH, (J, K, am_RF false))) from rfl) rfl ?_
            refine am_r_eq (σ' := (50, [(0, am_pv 0), (1, am_iv x1), (2, am_iv x2), (5, am_iv 0), (6, am_iv x3)], [], am_SH, (J, K, am_RF false))) rfl ?_
            exact s_UpRiver_afloat_L50_f  _ _ _ _ _ _ h
theorem s_UpRiver_afloat_L50_t {X : am_X} {J : am_J} {K : am_K}  : ∀ (n : Nat) (x1 : Int) (x2 : Int) (x5 : Int) (x6 : Int) (r : Int), f_UpRiver_afloat_L50 true J  n x1 x2 x5 x6 = some r → am_runs X T_UpRiver_afloat (50, [(0, am_pv 0), (1, am_iv x1), (2, am_iv x2), (5, am_iv x5), (6, am_iv x6)], [], am_SH, (J, K, am_RF true)) (some (am_iv r), am_SH, (J, K, am_RF true)) := by
  intro n
  induction n with
  | zero =>
    intro x1 x2 x5 x6 r h
    cases h
  | succ n ih =>
    intro x1 x2 x5 x6 r h
    rw [f_UpRiver_afloat_L50.eq_2] at h
    obtain ⟨g500, h⟩ := am_if_some h
    by_cases c501 : 300 < x6
    · rw [if_pos c501] at h
      refine am_r_t (show am_stepn X T_UpRiver_afloat 3 true (50, [(0, am_pv 0), (1, am_iv x1), (2, am_iv x2), (5, am_iv x5), (6, am_iv x6)], [], am_SH, (J, K, am_RF true)) = some (((decide (am_i32 300) && decide (am_i32 x6)) && true), .inl (bif am_cb .gt x6 300 then 83 else 58, [(0, am_pv 0), (1, am_iv x1), (2, am_iv x2), (5, am_iv x5), (6, am_iv x6)], [], am_SH, (J, K, am_RF true))) from rfl) (am_g2 (by decide) g500 rfl) (decide_eq_true c501) ?_
      obtain rfl := Option.some.inj h
      exact am_r_ret (show am_stepn X T_UpRiver_afloat 2 true (83, [(0, am_pv 0), (1, am_iv x1), (2, am_iv x2), (5, am_iv x5), (6, am_iv x6)], [], am_SH, (J, K, am_RF true)) = some (true, .inr (.inr (some (am_iv (-4)), am_SH, (J, K, am_RF true)))) from rfl) rfl
    · rw [if_neg c501] at h
      refine am_r_f (show am_stepn X T_UpRiver_afloat 3 true (50, [(0, am_pv 0), (1, am_iv x1), (2, am_iv x2), (5, am_iv x5), (6, am_iv x6)], [], am_SH, (J, K, am_RF true)) = some (((decide (am_i32 300) && decide (am_i32 x6)) && true), .inl (bif am_cb .gt x6 300 then 83 else 58, [(0, am_pv 0), (1, am_iv x1), (2, am_iv x2), (5, am_iv x5), (6, am_iv x6)], [], am_SH, (J, K, am_RF true))) from rfl) (am_g2 (by decide) g500 rfl) (decide_eq_false c501) ?_
      obtain ⟨q502, e503, h⟩ := am_bind_some h
      refine am_r_call (show am_stepn X T_UpRiver_afloat 6 true (58, [(0, am_pv 0), (1, am_iv x1), (2, am_iv x2), (5, am_iv x5), (6, am_iv x6)], [], am_SH, (J, K, am_RF true)) = some (true, .inr (.inl (68, [am_pv (am_rv true), am_iv x1, am_iv x2, am_iv x6], 4, 0, 0, 69, [(0, am_pv 0), (1, am_iv x1), (2, am_iv x2), (5, am_iv x5), (6, am_iv x6)], [], am_SH, (J, K, am_RF true)))) from rfl) rfl tb_River_carries (s_River_carries (by decide) e503) ?_
      obtain ⟨g504, h⟩ := am_if_some h
      obtain ⟨g505, h⟩ := am_if_some h
      by_cases c506 : q502 = x5
      · rw [if_pos c506] at h
        refine am_r_f (show am_stepn X T_UpRiver_afloat 2 true (69, [(0, am_pv 0), (1, am_iv x1), (2, am_iv x2), (5, am_iv x5), (6, am_iv x6)], [am_iv q502], am_SH, (J, K, am_RF true)) = some (((decide (am_i32 x5) && decide (am_i32 q502)) && true), .inl (bif am_cb .ne q502 x5 then 77 else 74, [(0, am_pv 0), (1, am_iv x1), (2, am_iv x2), (5, am_iv x5), (6, am_iv x6)], [], am_SH, (J, K, am_RF true))) from rfl) (am_g2 g504 g505 rfl) (am_nd_t c506) ?_
        obtain rfl := Option.some.inj h
        exact am_r_ret (show am_stepn X T_UpRiver_afloat 2 true (74, [(0, am_pv 0), (1, am_iv x1), (2, am_iv x2), (5, am_iv x5), (6, am_iv x6)], [], am_SH, (J, K, am_RF true)) = some (true, .inr (.inr (some (am_iv x6), am_SH, (J, K, am_RF true)))) from rfl) rfl
      · rw [if_neg c506] at h
        refine am_r_t (show am_stepn X T_UpRiver_afloat 2 true (69, [(0, am_pv 0), (1, am_iv x1), (2, am_iv x2), (5, am_iv x5), (6, am_iv x6)], [am_iv q502], am_SH, (J, K, am_RF true)) = some (((decide (am_i32 x5) && decide (am_i32 q502)) && true), .inl (bif am_cb .ne q502 x5 then 77 else 74, [(0, am_pv 0), (1, am_iv x1), (2, am_iv x2), (5, am_iv x5), (6, am_iv x6)], [], am_SH, (J, K, am_RF true))) from rfl) (am_g2 g504 g505 rfl) (am_nd_f c506) ?_
        refine am_r_go (show am_stepn X T_UpRiver_afloat 2 true (77, [(0, am_pv 0), (1, am_iv x1), (2, am_iv x2), (5, am_iv x5), (6, am_iv x6)], [], am_SH, (J, K, am_RF true)) = some (true, .inl (50, [(0, am_pv 0), (1, am_iv x1), (2, am_iv x2), (5, am_iv x5), (6, am_iv (x6 + 1))], [], am_SH, (J, K, am_RF true))) from rfl) rfl ?_
        exact ih _ _ _ _ _ h
theorem s_UpRiver_afloat_t {X : am_X} {J : am_J} {K : am_K} {x1 : Int} {x2 : Int} {x3 : Int} {x4 : Int} {r : Int} (h : f_UpRiver_afloat true J x1 x2 x3 x4 = some r) : am_runs X T_UpRiver_afloat (0, [(0, am_pv 0), (1, am_iv x1), (2, am_iv x2), (3, am_iv x3), (4, am_iv x4)], [], am_SH, (J, K, am_RF true)) (some (am_iv r), am_SH, (J, K, am_RF true)) := by
  unfold f_UpRiver_afloat at h
  obtain ⟨q507, e508, h⟩ := am_bind_some h
  refine am_r_call (show am_stepn X T_UpRiver_afloat 4 true (0, [(0, am_pv 0), (1, am_iv x1), (2, am_iv x2), (3, am_iv x3), (4, am_iv x4)], [], am_SH, (J, K, am_RF true)) = some (true, .inr (.inl (56, [am_pv (am_rv true), am_iv x1], 2, 0, 0, 8, [(0, am_pv 0), (1, am_iv x1), (2, am_iv x2), (3, am_iv x3), (4, am_iv x4)], [], am_SH, (J, K, am_RF true)))) from rfl) rfl tb_River_hasReach (s_River_hasReach (by decide) e508) ?_
  obtain ⟨g509, h⟩ := am_if_some h
  by_cases c510 : q507 = 0
  · rw [if_pos c510] at h
    refine am_r_t (show am_stepn X T_UpRiver_afloat 1 true (8, [(0, am_pv 0), (1, am_iv x1), (2, am_iv x2), (3, am_iv x3), (4, am_iv x4)], [am_iv q507], am_SH, (J, K, am_RF true)) = some ((decide (am_i32 q507) && true), .inl (bif am_cb .eq q507 0 then 33 else 11, [(0, am_pv 0), (1, am_iv x1), (2, am_iv x2), (3, am_iv x3), (4, am_iv x4)], [], am_SH, (J, K, am_RF true))) from rfl) (am_g1 g509 rfl) (decide_eq_true c510) ?_
    obtain rfl := Option.some.inj h
    exact am_r_ret (show am_stepn X T_UpRiver_afloat 2 true (33, [(0, am_pv 0), (1, am_iv x1), (2, am_iv x2), (3, am_iv x3), (4, am_iv x4)], [], am_SH, (J, K, am_RF true)) = some (true, .inr (.inr (some (am_iv (-1)), am_SH, (J, K, am_RF true)))) from rfl) rfl
  · rw [if_neg c510] at h
    refine am_r_f (show am_stepn X T_UpRiver_afloat 1 true (8, [(0, am_pv 0), (1, am_iv x1), (2, am_iv x2), (3, am_iv x3), (4, am_iv x4)], [am_iv q507], am_SH, (J, K, am_RF true)) = some ((decide (am_i32 q507) && true), .inl (bif am_cb .eq q507 0 then 33 else 11, [(0, am_pv 0), (1, am_iv x1), (2, am_iv x2), (3, am_iv x3), (4, am_iv x4)], [], am_SH, (J, K, am_RF true))) from rfl) (am_g1 g509 rfl) (decide_eq_false c510) ?_
    obtain ⟨q511, e512, h⟩ := am_bind_some h
    refine am_r_call (show am_stepn X T_UpRiver_afloat 2 true (11, [(0, am_pv 0), (1, am_iv x1), (2, am_iv x2), (3, am_iv x3), (4, am_iv x4)], [], am_SH, (J, K, am_RF true)) = some (true, .inr (.inl (66, [am_iv x2], 1, 0, 0, 15, [(0, am_pv 0), (1, am_iv x1), (2, am_iv x2), (3, am_iv x3), (4, am_iv x4)], [], am_SH, (J, K, am_RF true)))) from rfl) rfl tb_UpRiver_isLane (s_UpRiver_isLane e512) ?_
    obtain ⟨g513, h⟩ := am_if_some h
    by_cases c514 : q511 = 0
    · rw [if_pos c514] at h
      refine am_r_t (show am_stepn X T_UpRiver_afloat 1 true (15, [(0, am_pv 0), (1, am_iv x1), (2, am_iv x2), (3, am_iv x3), (4, am_iv x4)], [am_iv q511], am_SH, (J, K, am_RF true)) = some ((decide (am_i32 q511) && true), .inl (bif am_cb .eq q511 0 then 33 else 18, [(0, am_pv 0), (1, am_iv x1), (2, am_iv x2), (3, am_iv x3), (4, am_iv x4)], [], am_SH, (J, K, am_RF true))) from rfl) (am_g1 g513 rfl) (decide_eq_true c514) ?_
      obtain rfl := Option.some.inj h
      exact am_r_ret (show am_stepn X T_UpRiver_afloat 2 true (33, [(0, am_pv 0), (1, am_iv x1), (2, am_iv x2), (3, am_iv x3), (4, am_iv x4)], [], am_SH, (J, K, am_RF true)) = some (true, .inr (.inr (some (am_iv (-1)), am_SH, (J, K, am_RF true)))) from rfl) rfl
    · rw [if_neg c514] at h
      refine am_r_f (show am_stepn X T_UpRiver_afloat 1 true (15, [(0, am_pv 0), (1, am_iv x1), (2, am_iv x2), (3, am_iv x3), (4, am_iv x4)], [am_iv q511], am_SH, (J, K, am_RF true)) = some ((decide (am_i32 q511) && true), .inl (bif am_cb .eq q511 0 then 33 else 18, [(0, am_pv 0), (1, am_iv x1), (2, am_iv x2), (3, am_iv x3), (4, am_iv x4)], [], am_SH, (J, K, am_RF true))) from rfl) (am_g1 g513 rfl) (decide_eq_false c514) ?_
      obtain ⟨q515, e516, h⟩ := am_bind_some h
      refine am_r_call (show am_stepn X T_UpRiver_afloat 2 true (18, [(0, am_pv 0), (1, am_iv x1), (2, am_iv x2), (3, am_iv x3), (4, am_iv x4)], [], am_SH, (J, K, am_RF true)) = some (true, .inr (.inl (60, [am_iv x3], 1, 0, 0, 22, [(0, am_pv 0), (1, am_iv x1), (2, am_iv x2), (3, am_iv x3), (4, am_iv x4)], [], am_SH, (J, K, am_RF true)))) from rfl) rfl tb_UpRiver_isMinute (s_UpRiver_isMinute e516) ?_
      obtain ⟨g517, h⟩ := am_if_some h
      by_cases c518 : q515 = 0
      · rw [if_pos c518] at h
        refine am_r_t (show am_stepn X T_UpRiver_afloat 1 true (22, [(0, am_pv 0), (1, am_iv x1), (2, am_iv x2), (3, am_iv x3), (4, am_iv x4)], [am_iv q515], am_SH, (J, K, am_RF true)) = some ((decide (am_i32 q515) && true), .inl (bif am_cb .eq q515 0 then 33 else 25, [(0, am_pv 0), (1, am_iv x1), (2, am_iv x2), (3, am_iv x3), (4, am_iv x4)], [], am_SH, (J, K, am_RF true))) from rfl) (am_g1 g517 rfl) (decide_eq_true c518) ?_
        obtain rfl := Option.some.inj h
        exact am_r_ret (show am_stepn X T_UpRiver_afloat 2 true (33, [(0, am_pv 0), (1, am_iv x1), (2, am_iv x2), (3, am_iv x3), (4, am_iv x4)], [], am_SH, (J, K, am_RF true)) = some (true, .inr (.inr (some (am_iv (-1)), am_SH, (J, K, am_RF true)))) from rfl) rfl
      · rw [if_neg c518] at h
        refine am_r_f (show am_stepn X T_UpRiver_afloat 1 true (22, [(0, am_pv 0), (1, am_iv x1), (2, am_iv x2), (3, am_iv x3), (4, am_iv x4)], [am_iv q515], am_SH, (J, K, am_RF true)) = some ((decide (am_i32 q515) && true), .inl (bif am_cb .eq q515 0 then 33 else 25, [(0, am_pv 0), (1, am_iv x1), (2, am_iv x2), (3, am_iv x3), (4, am_iv x4)], [], am_SH, (J, K, am_RF true))) from rfl) (am_g1 g517 rfl) (decide_eq_false c518) ?_
        obtain ⟨q519, e520, h⟩ := am_bind_some h
        refine am_r_call (show am_stepn X T_UpRiver_afloat 2 true (25, [(0, am_pv 0), (1, am_iv x1), (2, am_iv x2), (3, am_iv x3), (4, am_iv x4)], [], am_SH, (J, K, am_RF true)) = some (true, .inr (.inl (67, [am_iv x4], 1, 0, 0, 30, [(0, am_pv 0), (1, am_iv x1), (2, am_iv x2), (3, am_iv x3), (4, am_iv x4)], [], am_SH, (J, K, am_RF true)))) from rfl) rfl tb_UpRiver_isYesOrNo (s_UpRiver_isYesOrNo e520) ?_
        obtain ⟨g521, h⟩ := am_if_some h
        by_cases c522 : q519 = 0
        · rw [if_pos c522] at h
          refine am_r_f (show am_stepn X T_UpRiver_afloat 1 true (30, [(0, am_pv 0), (1, am_iv x1), (2, am_iv x2), (3, am_iv x3), (4, am_iv x4)], [am_iv q519], am_SH, (J, K, am_RF true)) = some ((decide (am_i32 q519) && true), .inl (bif am_cb .ne q519 0 then 35 else 33, [(0, am_pv 0), (1, am_iv x1), (2, am_iv x2), (3, am_iv x3), (4, am_iv x4)], [], am_SH, (J, K, am_RF true))) from rfl) (am_g1 g521 rfl) (am_nd_t c522) ?_
          obtain rfl := Option.some.inj h
          exact am_r_ret (show am_stepn X T_UpRiver_afloat 2 true (33, [(0, am_pv 0), (1, am_iv x1), (2, am_iv x2), (3, am_iv x3), (4, am_iv x4)], [], am_SH, (J, K, am_RF true)) = some (true, .inr (.inr (some (am_iv (-1)), am_SH, (J, K, am_RF true)))) from rfl) rfl
        · rw [if_neg c522] at h
          refine am_r_t (show am_stepn X T_UpRiver_afloat 1 true (30, [(0, am_pv 0), (1, am_iv x1), (2, am_iv x2), (3, am_iv x3), (4, am_iv x4)], [am_iv q519], am_SH, (J, K, am_RF true)) = some ((decide (am_i32 q519) && true), .inl (bif am_cb .ne q519 0 then 35 else 33, [(0, am_pv 0), (1, am_iv x1), (2, am_iv x2), (3, am_iv x3), (4, am_iv x4)], [], am_SH, (J, K, am_RF true))) from rfl) (am_g1 g521 rfl) (am_nd_f c522) ?_
          obtain ⟨g523, h⟩ := am_if_some h
          by_cases c524 : x4 = 0
          · rw [if_pos c524] at h
            refine am_r_f (show am_stepn X T_UpRiver_afloat 2 true (35, [(0, am_pv 0), (1, am_iv x1), (2, am_iv x2), (3, am_iv x3), (4, am_iv x4)], [], am_SH, (J, K, am_RF true)) = some ((decide (am_i32 x4) && true), .inl (bif am_cb .ne x4 0 then 44 else 40, [(0, am_pv 0), (1, am_iv x1), (2, am_iv x2), (3, am_iv x3), (4, am_iv x4)], [], am_SH, (J, K, am_RF true))) from rfl) (am_g1 g523 rfl) (am_nd_t c524) ?_
            refine am_r_go (show am_stepn X T_UpRiver_afloat 5 true (40, [(0, am_pv 0), (1, am_iv x1), (2, am_iv x2), (3, am_iv x3), (4, am_iv x4)], [], am_SH, (J, K, am_RF true)) = some (true, .inl (50, [(0, am_pv 0), (1, am_iv x1), (2, am_iv x2), (3, am_iv x3), (5, am_iv 1), (6, am_iv x3)], [], am_SH, (J, K, am_RF true))) from rfl) rfl ?_
            refine am_r_eq (σ' := (50, [(0, am_pv 0), (1, am_iv x1), (2, am_iv x2), (5, am_iv 1), (6, am_iv x3)], [], am_SH, (J, K, am_RF true))) rfl ?_
            exact s_UpRiver_afloat_L50_t  _ _ _ _ _ _ h
          · rw [if_neg c524] at h
            refine am_r_t (show am_stepn X T_UpRiver_afloat 2 true (35, [(0, am_pv 0), (1, am_iv x1), (2, am_iv x2), (3, am_iv x3), (4, am_iv x4)], [], am_SH, (J, K, am_RF true)) = some ((decide (am_i32 x4) && true), .inl (bif am_cb .ne x4 0 then 44 else 40, [(0, am_pv 0), (1, am_iv x1), (2, am_iv x2), (3, am_iv x3), (4, am_iv x4)], [], am_SH, (J, K, am_RF true))) from rfl) (am_g1 g523 rfl) (am_nd_f c524) ?_
            refine am_r_go (show am_stepn X T_UpRiver_afloat 4 true (44, [(0, am_pv 0), (1, am_iv x1), (2, am_iv x2), (3, am_iv x3), (4, am_iv x4)], [], am_SH, (J, K, am_RF true)) = some (true, .inl (50, [(0, am_pv 0), (1, am_iv x1), (2, am_iv x2), (3, am_iv x3), (5, am_iv 0), (6, am_iv x3)], [], am_SH, (J, K, am_RF true))) from rfl) rfl ?_
            refine am_r_eq (σ' := (50, [(0, am_pv 0), (1, am_iv x1), (2, am_iv x2), (5, am_iv 0), (6, am_iv x3)], [], am_SH, (J, K, am_RF true))) rfl ?_
            exact s_UpRiver_afloat_L50_t  _ _ _ _ _ _ h
theorem s_UpRiver_afloat {X : am_X} {b : Bool} {J : am_J} {K : am_K} {x1 : Int} {x2 : Int} {x3 : Int} {x4 : Int} {r : Int} (h : f_UpRiver_afloat b J x1 x2 x3 x4 = some r) : am_runs X T_UpRiver_afloat (0, [(0, am_pv 0), (1, am_iv x1), (2, am_iv x2), (3, am_iv x3), (4, am_iv x4)], [], am_SH, (J, K, am_RF b)) (some (am_iv r), am_SH, (J, K, am_RF b)) := by
  cases b
  · exact s_UpRiver_afloat_f h
  · exact s_UpRiver_afloat_t h
theorem s_River_top_32_ {X : am_X} {b : Bool} {J : am_J} {K : am_K}  {r : Int} (h : f_River_top 32 J  = some r) : am_runs X T_River_top (0, [(0, am_pv 32)], [], am_SH, (J, K, am_RF b)) (some (am_iv r), am_SH, (J, K, am_RF b)) := by
  unfold f_River_top at h
  obtain rfl := Option.some.inj h
  exact am_r_ret (show am_stepn X T_River_top 7 true (0, [(0, am_pv 32)], [], am_SH, (J, K, am_RF b)) = some ((am_in 0 7 && true), .inr (.inr (some (am_iv ((J (32 + 1) 0) * 8)), am_SH, (J, K, am_RF b)))) from rfl) (am_gi (by decide) rfl)
theorem s_River_top_6_ {X : am_X} {b : Bool} {J : am_J} {K : am_K}  {r : Int} (h : f_River_top 6 J  = some r) : am_runs X T_River_top (0, [(0, am_pv 6)], [], am_SH, (J, K, am_RF b)) (some (am_iv r), am_SH, (J, K, am_RF b)) := by
  unfold f_River_top at h
  obtain rfl := Option.some.inj h
  exact am_r_ret (show am_stepn X T_River_top 7 true (0, [(0, am_pv 6)], [], am_SH, (J, K, am_RF b)) = some ((am_in 0 7 && true), .inr (.inr (some (am_iv ((J (6 + 1) 0) * 8)), am_SH, (J, K, am_RF b)))) from rfl) (am_gi (by decide) rfl)
theorem s_River_top {X : am_X} {b : Bool} {o1 : Nat} (ho : o1 = 32 ∨ o1 = 6) {J : am_J} {K : am_K}  {r : Int} (h : f_River_top o1 J  = some r) : am_runs X T_River_top (0, [(0, am_pv o1)], [], am_SH, (J, K, am_RF b)) (some (am_iv r), am_SH, (J, K, am_RF b)) := by
  rcases ho with rfl | rfl
  · skip
    exact s_River_top_32_ h
  · skip
    exact s_River_top_6_ h
theorem s_Boat_isUp_18_32_ {X : am_X} {b : Bool} {J : am_J} {K : am_K}  {r : Int} (h : f_Boat_isUp 18 32 J  = some r) : am_runs X T_Boat_isUp (0, [(0, am_pv 18), (1, am_pv 32)], [], am_SH, (J, K, am_RF b)) (some (am_iv r), am_SH, (J, K, am_RF b)) := by
  unfold f_Boat_isUp at h
  obtain ⟨q525, e526, h⟩ := am_bind_some h
  refine am_r_call (show am_stepn X T_Boat_isUp 4 true (0, [(0, am_pv 18), (1, am_pv 32)], [], am_SH, (J, K, am_RF b)) = some (true, .inr (.inl (72, [am_pv 32], 1, 0, 0, 8, [(0, am_pv 18), (1, am_pv 32)], [am_iv (J 18 0)], am_SH, (J, K, am_RF b)))) from rfl) rfl tb_River_top (s_River_top (by decide) e526) ?_
  obtain ⟨g527, h⟩ := am_if_some h
  obtain ⟨g528, h⟩ := am_if_some h
  by_cases c529 : (J 18 0) < q525
  · rw [if_pos c529] at h
    refine am_r_t (show am_stepn X T_Boat_isUp 1 true (8, [(0, am_pv 18), (1, am_pv 32)], [am_iv q525, am_iv (J 18 0)], am_SH, (J, K, am_RF b)) = some (((decide (am_i32 q525) && decide (am_i32 (J 18 0))) && true), .inl (bif am_cb .lt (J 18 0) q525 then 15 else 11, [(0, am_pv 18), (1, am_pv 32)], [], am_SH, (J, K, am_RF b))) from rfl) (am_g2 g527 g528 rfl) (decide_eq_true c529) ?_
    obtain rfl := Option.some.inj h
    exact am_r_ret (show am_stepn X T_Boat_isUp 2 true (15, [(0, am_pv 18), (1, am_pv 32)], [], am_SH, (J, K, am_RF b)) = some ((decide ((0 : Int) = 0 ∨ (0 : Int) = 1) && true), .inr (.inr (some (am_iv 0), am_SH, (J, K, am_RF b)))) from rfl) (am_g1 (by decide) rfl)
  · rw [if_neg c529] at h
    refine am_r_f (show am_stepn X T_Boat_isUp 1 true (8, [(0, am_pv 18), (1, am_pv 32)], [am_iv q525, am_iv (J 18 0)], am_SH, (J, K, am_RF b)) = some (((decide (am_i32 q525) && decide (am_i32 (J 18 0))) && true), .inl (bif am_cb .lt (J 18 0) q525 then 15 else 11, [(0, am_pv 18), (1, am_pv 32)], [], am_SH, (J, K, am_RF b))) from rfl) (am_g2 g527 g528 rfl) (decide_eq_false c529) ?_
    obtain rfl := Option.some.inj h
    exact am_r_ret (show am_stepn X T_Boat_isUp 3 true (11, [(0, am_pv 18), (1, am_pv 32)], [], am_SH, (J, K, am_RF b)) = some ((decide ((1 : Int) = 0 ∨ (1 : Int) = 1) && true), .inr (.inr (some (am_iv 1), am_SH, (J, K, am_RF b)))) from rfl) (am_g1 (by decide) rfl)
theorem s_Boat_isUp_18_6_ {X : am_X} {b : Bool} {J : am_J} {K : am_K}  {r : Int} (h : f_Boat_isUp 18 6 J  = some r) : am_runs X T_Boat_isUp (0, [(0, am_pv 18), (1, am_pv 6)], [], am_SH, (J, K, am_RF b)) (some (am_iv r), am_SH, (J, K, am_RF b)) := by
  unfold f_Boat_isUp at h
  obtain ⟨q525, e526, h⟩ := am_bind_some h
  refine am_r_call (show am_stepn X T_Boat_isUp 4 true (0, [(0, am_pv 18), (1, am_pv 6)], [], am_SH, (J, K, am_RF b)) = some (true, .inr (.inl (72, [am_pv 6], 1, 0, 0, 8, [(0, am_pv 18), (1, am_pv 6)], [am_iv (J 18 0)], am_SH, (J, K, am_RF b)))) from rfl) rfl tb_River_top (s_River_top (by decide) e526) ?_
  obtain ⟨g527, h⟩ := am_if_some h
  obtain ⟨g528, h⟩ := am_if_some h
  by_cases c529 : (J 18 0) < q525
  · rw [if_pos c529] at h
    refine am_r_t (show am_stepn X T_Boat_isUp 1 true (8, [(0, am_pv 18), (1, am_pv 6)], [am_iv q525, am_iv (J 18 0)], am_SH, (J, K, am_RF b)) = some (((decide (am_i32 q525) && decide (am_i32 (J 18 0))) && true), .inl (bif am_cb .lt (J 18 0) q525 then 15 else 11, [(0, am_pv 18), (1, am_pv 6)], [], am_SH, (J, K, am_RF b))) from rfl) (am_g2 g527 g528 rfl) (decide_eq_true c529) ?_
    obtain rfl := Option.some.inj h
    exact am_r_ret (show am_stepn X T_Boat_isUp 2 true (15, [(0, am_pv 18), (1, am_pv 6)], [], am_SH, (J, K, am_RF b)) = some ((decide ((0 : Int) = 0 ∨ (0 : Int) = 1) && true), .inr (.inr (some (am_iv 0), am_SH, (J, K, am_RF b)))) from rfl) (am_g1 (by decide) rfl)
  · rw [if_neg c529] at h
    refine am_r_f (show am_stepn X T_Boat_isUp 1 true (8, [(0, am_pv 18), (1, am_pv 6)], [am_iv q525, am_iv (J 18 0)], am_SH, (J, K, am_RF b)) = some (((decide (am_i32 q525) && decide (am_i32 (J 18 0))) && true), .inl (bif am_cb .lt (J 18 0) q525 then 15 else 11, [(0, am_pv 18), (1, am_pv 6)], [], am_SH, (J, K, am_RF b))) from rfl) (am_g2 g527 g528 rfl) (decide_eq_false c529) ?_
    obtain rfl := Option.some.inj h
    exact am_r_ret (show am_stepn X T_Boat_isUp 3 true (11, [(0, am_pv 18), (1, am_pv 6)], [], am_SH, (J, K, am_RF b)) = some ((decide ((1 : Int) = 0 ∨ (1 : Int) = 1) && true), .inr (.inr (some (am_iv 1), am_SH, (J, K, am_RF b)))) from rfl) (am_g1 (by decide) rfl)
theorem s_Boat_isUp_29_32_ {X : am_X} {b : Bool} {J : am_J} {K : am_K}  {r : Int} (h : f_Boat_isUp 29 32 J  = some r) : am_runs X T_Boat_isUp (0, [(0, am_pv 29), (1, am_pv 32)], [], am_SH, (J, K, am_RF b)) (some (am_iv r), am_SH, (J, K, am_RF b)) := by
  unfold f_Boat_isUp at h
  obtain ⟨q525, e526, h⟩ := am_bind_some h
  refine am_r_call (show am_stepn X T_Boat_isUp 4 true (0, [(0, am_pv 29), (1, am_pv 32)], [], am_SH, (J, K, am_RF b)) = some (true, .inr (.inl (72, [am_pv 32], 1, 0, 0, 8, [(0, am_pv 29), (1, am_pv 32)], [am_iv (J 29 0)], am_SH, (J, K, am_RF b)))) from rfl) rfl tb_River_top (s_River_top (by decide) e526) ?_
  obtain ⟨g527, h⟩ := am_if_some h
  obtain ⟨g528, h⟩ := am_if_some h
  by_cases c529 : (J 29 0) < q525
  · rw [if_pos c529] at h
    refine am_r_t (show am_stepn X T_Boat_isUp 1 true (8, [(0, am_pv 29), (1, am_pv 32)], [am_iv q525, am_iv (J 29 0)], am_SH, (J, K, am_RF b)) = some (((decide (am_i32 q525) && decide (am_i32 (J 29 0))) && true), .inl (bif am_cb .lt (J 29 0) q525 then 15 else 11, [(0, am_pv 29), (1, am_pv 32)], [], am_SH, (J, K, am_RF b))) from rfl) (am_g2 g527 g528 rfl) (decide_eq_true c529) ?_
    obtain rfl := Option.some.inj h
    exact am_r_ret (show am_stepn X T_Boat_isUp 2 true (15, [(0, am_pv 29), (1, am_pv 32)], [], am_SH, (J, K, am_RF b)) = some ((decide ((0 : Int) = 0 ∨ (0 : Int) = 1) && true), .inr (.inr (some (am_iv 0), am_SH, (J, K, am_RF b)))) from rfl) (am_g1 (by decide) rfl)
  · rw [if_neg c529] at h
    refine am_r_f (show am_stepn X T_Boat_isUp 1 true (8, [(0, am_pv 29), (1, am_pv 32)], [am_iv q525, am_iv (J 29 0)], am_SH, (J, K, am_RF b)) = some (((decide (am_i32 q525) && decide (am_i32 (J 29 0))) && true), .inl (bif am_cb .lt (J 29 0) q525 then 15 else 11, [(0, am_pv 29), (1, am_pv 32)], [], am_SH, (J, K, am_RF b))) from rfl) (am_g2 g527 g528 rfl) (decide_eq_false c529) ?_
    obtain rfl := Option.some.inj h
    exact am_r_ret (show am_stepn X T_Boat_isUp 3 true (11, [(0, am_pv 29), (1, am_pv 32)], [], am_SH, (J, K, am_RF b)) = some ((decide ((1 : Int) = 0 ∨ (1 : Int) = 1) && true), .inr (.inr (some (am_iv 1), am_SH, (J, K, am_RF b)))) from rfl) (am_g1 (by decide) rfl)
theorem s_Boat_isUp_29_6_ {X : am_X} {b : Bool} {J : am_J} {K : am_K}  {r : Int} (h : f_Boat_isUp 29 6 J  = some r) : am_runs X T_Boat_isUp (0, [(0, am_pv 29), (1, am_pv 6)], [], am_SH, (J, K, am_RF b)) (some (am_iv r), am_SH, (J, K, am_RF b)) := by
  unfold f_Boat_isUp at h
  obtain ⟨q525, e526, h⟩ := am_bind_some h
  refine am_r_call (show am_stepn X T_Boat_isUp 4 true (0, [(0, am_pv 29), (1, am_pv 6)], [], am_SH, (J, K, am_RF b)) = some (true, .inr (.inl (72, [am_pv 6], 1, 0, 0, 8, [(0, am_pv 29), (1, am_pv 6)], [am_iv (J 29 0)], am_SH, (J, K, am_RF b)))) from rfl) rfl tb_River_top (s_River_top (by decide) e526) ?_
  obtain ⟨g527, h⟩ := am_if_some h
  obtain ⟨g528, h⟩ := am_if_some h
  by_cases c529 : (J 29 0) < q525
  · rw [if_pos c529] at h
    refine am_r_t (show am_stepn X T_Boat_isUp 1 true (8, [(0, am_pv 29), (1, am_pv 6)], [am_iv q525, am_iv (J 29 0)], am_SH, (J, K, am_RF b)) = some (((decide (am_i32 q525) && decide (am_i32 (J 29 0))) && true), .inl (bif am_cb .lt (J 29 0) q525 then 15 else 11, [(0, am_pv 29), (1, am_pv 6)], [], am_SH, (J, K, am_RF b))) from rfl) (am_g2 g527 g528 rfl) (decide_eq_true c529) ?_
    obtain rfl := Option.some.inj h
    exact am_r_ret (show am_stepn X T_Boat_isUp 2 true (15, [(0, am_pv 29), (1, am_pv 6)], [], am_SH, (J, K, am_RF b)) = some ((decide ((0 : Int) = 0 ∨ (0 : Int) = 1) && true), .inr (.inr (some (am_iv 0), am_SH, (J, K, am_RF b)))) from rfl) (am_g1 (by decide) rfl)
  · rw [if_neg c529] at h
    refine am_r_f (show am_stepn X T_Boat_isUp 1 true (8, [(0, am_pv 29), (1, am_pv 6)], [am_iv q525, am_iv (J 29 0)], am_SH, (J, K, am_RF b)) = some (((decide (am_i32 q525) && decide (am_i32 (J 29 0))) && true), .inl (bif am_cb .lt (J 29 0) q525 then 15 else 11, [(0, am_pv 29), (1, am_pv 6)], [], am_SH, (J, K, am_RF b))) from rfl) (am_g2 g527 g528 rfl) (decide_eq_false c529) ?_
    obtain rfl := Option.some.inj h
    exact am_r_ret (show am_stepn X T_Boat_isUp 3 true (11, [(0, am_pv 29), (1, am_pv 6)], [], am_SH, (J, K, am_RF b)) = some ((decide ((1 : Int) = 0 ∨ (1 : Int) = 1) && true), .inr (.inr (some (am_iv 1), am_SH, (J, K, am_RF b)))) from rfl) (am_g1 (by decide) rfl)
theorem s_Boat_isUp_30_32_ {X : am_X} {b : Bool} {J : am_J} {K : am_K}  {r : Int} (h : f_Boat_isUp 30 32 J  = some r) : am_runs X T_Boat_isUp (0, [(0, am_pv 30), (1, am_pv 32)], [], am_SH, (J, K, am_RF b)) (some (am_iv r), am_SH, (J, K, am_RF b)) := by
  unfold f_Boat_isUp at h
  obtain ⟨q525, e526, h⟩ := am_bind_some h
  refine am_r_call (show am_stepn X T_Boat_isUp 4 true (0, [(0, am_pv 30), (1, am_pv 32)], [], am_SH, (J, K, am_RF b)) = some (true, .inr (.inl (72, [am_pv 32], 1, 0, 0, 8, [(0, am_pv 30), (1, am_pv 32)], [am_iv (J 30 0)], am_SH, (J, K, am_RF b)))) from rfl) rfl tb_River_top (s_River_top (by decide) e526) ?_
  obtain ⟨g527, h⟩ := am_if_some h
  obtain ⟨g528, h⟩ := am_if_some h
  by_cases c529 : (J 30 0) < q525
  · rw [if_pos c529] at h
    refine am_r_t (show am_stepn X T_Boat_isUp 1 true (8, [(0, am_pv 30), (1, am_pv 32)], [am_iv q525, am_iv (J 30 0)], am_SH, (J, K, am_RF b)) = some (((decide (am_i32 q525) && decide (am_i32 (J 30 0))) && true), .inl (bif am_cb .lt (J 30 0) q525 then 15 else 11, [(0, am_pv 30), (1, am_pv 32)], [], am_SH, (J, K, am_RF b))) from rfl) (am_g2 g527 g528 rfl) (decide_eq_true c529) ?_
    obtain rfl := Option.some.inj h
    exact am_r_ret (show am_stepn X T_Boat_isUp 2 true (15, [(0, am_pv 30), (1, am_pv 32)], [], am_SH, (J, K, am_RF b)) = some ((decide ((0 : Int) = 0 ∨ (0 : Int) = 1) && true), .inr (.inr (some (am_iv 0), am_SH, (J, K, am_RF b)))) from rfl) (am_g1 (by decide) rfl)
  · rw [if_neg c529] at h
    refine am_r_f (show am_stepn X T_Boat_isUp 1 true (8, [(0, am_pv 30), (1, am_pv 32)], [am_iv q525, am_iv (J 30 0)], am_SH, (J, K, am_RF b)) = some (((decide (am_i32 q525) && decide (am_i32 (J 30 0))) && true), .inl (bif am_cb .lt (J 30 0) q525 then 15 else 11, [(0, am_pv 30), (1, am_pv 32)], [], am_SH, (J, K, am_RF b))) from rfl) (am_g2 g527 g528 rfl) (decide_eq_false c529) ?_
    obtain rfl := Option.some.inj h
    exact am_r_ret (show am_stepn X T_Boat_isUp 3 true (11, [(0, am_pv 30), (1, am_pv 32)], [], am_SH, (J, K, am_RF b)) = some ((decide ((1 : Int) = 0 ∨ (1 : Int) = 1) && true), .inr (.inr (some (am_iv 1), am_SH, (J, K, am_RF b)))) from rfl) (am_g1 (by decide) rfl)
theorem s_Boat_isUp_30_6_ {X : am_X} {b : Bool} {J : am_J} {K : am_K}  {r : Int} (h : f_Boat_isUp 30 6 J  = some r) : am_runs X T_Boat_isUp (0, [(0, am_pv 30), (1, am_pv 6)], [], am_SH, (J, K, am_RF b)) (some (am_iv r), am_SH, (J, K, am_RF b)) := by
  unfold f_Boat_isUp at h
  obtain ⟨q525, e526, h⟩ := am_bind_some h
  refine am_r_call (show am_stepn X T_Boat_isUp 4 true (0, [(0, am_pv 30), (1, am_pv 6)], [], am_SH, (J, K, am_RF b)) = some (true, .inr (.inl (72, [am_pv 6], 1, 0, 0, 8, [(0, am_pv 30), (1, am_pv 6)], [am_iv (J 30 0)], am_SH, (J, K, am_RF b)))) from rfl) rfl tb_River_top (s_River_top (by decide) e526) ?_
  obtain ⟨g527, h⟩ := am_if_some h
  obtain ⟨g528, h⟩ := am_if_some h
  by_cases c529 : (J 30 0) < q525
  · rw [if_pos c529] at h
    refine am_r_t (show am_stepn X T_Boat_isUp 1 true (8, [(0, am_pv 30), (1, am_pv 6)], [am_iv q525, am_iv (J 30 0)], am_SH, (J, K, am_RF b)) = some (((decide (am_i32 q525) && decide (am_i32 (J 30 0))) && true), .inl (bif am_cb .lt (J 30 0) q525 then 15 else 11, [(0, am_pv 30), (1, am_pv 6)], [], am_SH, (J, K, am_RF b))) from rfl) (am_g2 g527 g528 rfl) (decide_eq_true c529) ?_
    obtain rfl := Option.some.inj h
    exact am_r_ret (show am_stepn X T_Boat_isUp 2 true (15, [(0, am_pv 30), (1, am_pv 6)], [], am_SH, (J, K, am_RF b)) = some ((decide ((0 : Int) = 0 ∨ (0 : Int) = 1) && true), .inr (.inr (some (am_iv 0), am_SH, (J, K, am_RF b)))) from rfl) (am_g1 (by decide) rfl)
  · rw [if_neg c529] at h
    refine am_r_f (show am_stepn X T_Boat_isUp 1 true (8, [(0, am_pv 30), (1, am_pv 6)], [am_iv q525, am_iv (J 30 0)], am_SH, (J, K, am_RF b)) = some (((decide (am_i32 q525) && decide (am_i32 (J 30 0))) && true), .inl (bif am_cb .lt (J 30 0) q525 then 15 else 11, [(0, am_pv 30), (1, am_pv 6)], [], am_SH, (J, K, am_RF b))) from rfl) (am_g2 g527 g528 rfl) (decide_eq_false c529) ?_
    obtain rfl := Option.some.inj h
    exact am_r_ret (show am_stepn X T_Boat_isUp 3 true (11, [(0, am_pv 30), (1, am_pv 6)], [], am_SH, (J, K, am_RF b)) = some ((decide ((1 : Int) = 0 ∨ (1 : Int) = 1) && true), .inr (.inr (some (am_iv 1), am_SH, (J, K, am_RF b)))) from rfl) (am_g1 (by decide) rfl)
theorem s_Boat_isUp {X : am_X} {b : Bool} {o1 : Nat} {o2 : Nat} (ho : (o1 = 18 ∧ o2 = 32) ∨ (o1 = 18 ∧ o2 = 6) ∨ (o1 = 29 ∧ o2 = 32) ∨ (o1 = 29 ∧ o2 = 6) ∨ (o1 = 30 ∧ o2 = 32) ∨ (o1 = 30 ∧ o2 = 6)) {J : am_J} {K : am_K}  {r : Int} (h : f_Boat_isUp o1 o2 J  = some r) : am_runs X T_Boat_isUp (0, [(0, am_pv o1), (1, am_pv o2)], [], am_SH, (J, K, am_RF b)) (some (am_iv r), am_SH, (J, K, am_RF b)) := by
  rcases ho with ⟨rfl, rfl⟩ | ⟨rfl, rfl⟩ | ⟨rfl, rfl⟩ | ⟨rfl, rfl⟩ | ⟨rfl, rfl⟩ | ⟨rfl, rfl⟩
  · skip
    exact s_Boat_isUp_18_32_ h
  · skip
    exact s_Boat_isUp_18_6_ h
  · skip
    exact s_Boat_isUp_29_32_ h
  · skip
    exact s_Boat_isUp_29_6_ h
  · skip
    exact s_Boat_isUp_30_32_ h
  · skip
    exact s_Boat_isUp_30_6_ h
theorem s_Boat_isAfloat_18_32_ {X : am_X} {b : Bool} {J : am_J} {K : am_K}  {r : Int} (h : f_Boat_isAfloat 18 32 J  = some r) : am_runs X T_Boat_isAfloat (0, [(0, am_pv 18), (1, am_pv 32)], [], am_SH, (J, K, am_RF b)) (some (am_iv r), am_SH, (J, K, am_RF b)) := by
  unfold f_Boat_isAfloat at h
  obtain ⟨g530, h⟩ := am_if_some h
  obtain ⟨q531, e532, h⟩ := am_bind_some h
  refine am_r_call (show am_stepn X T_Boat_isAfloat 10 true (0, [(0, am_pv 18), (1, am_pv 32)], [], am_SH, (J, K, am_RF b)) = some (((decide (0 < (8 : Int) ∧ am_i32 8) && decide (am_i32 (J 18 0))) && true), .inr (.inl (68, [am_pv 32, am_iv (am_dv (J 18 0) 8), am_iv (J 18 1), am_iv (J 18 3)], 4, 0, 0, 19, [(0, am_pv 18), (1, am_pv 32)], [], am_SH, (J, K, am_RF b)))) from rfl) (am_g2 (by decide) g530 rfl) tb_River_carries (s_River_carries (by decide) e532) ?_
  obtain ⟨g533, h⟩ := am_if_some h
  obtain rfl := Option.some.inj h
  exact am_r_ret (show am_stepn X T_Boat_isAfloat 1 true (19, [(0, am_pv 18), (1, am_pv 32)], [am_iv q531], am_SH, (J, K, am_RF b)) = some ((decide ((q531 : Int) = 0 ∨ (q531 : Int) = 1) && true), .inr (.inr (some (am_iv q531), am_SH, (J, K, am_RF b)))) from rfl) (am_g1 g533 rfl)
theorem s_Boat_isAfloat_18_6_ {X : am_X} {b : Bool} {J : am_J} {K : am_K}  {r : Int} (h : f_Boat_isAfloat 18 6 J  = some r) : am_runs X T_Boat_isAfloat (0, [(0, am_pv 18), (1, am_pv 6)], [], am_SH, (J, K, am_RF b)) (some (am_iv r), am_SH, (J, K, am_RF b)) := by
  unfold f_Boat_isAfloat at h
  obtain ⟨g530, h⟩ := am_if_some h
  obtain ⟨q531, e532, h⟩ := am_bind_some h
  refine am_r_call (show am_stepn X T_Boat_isAfloat 10 true (0, [(0, am_pv 18), (1, am_pv 6)], [], am_SH, (J, K, am_RF b)) = some (((decide (0 < (8 : Int) ∧ am_i32 8) && decide (am_i32 (J 18 0))) && true), .inr (.inl (68, [am_pv 6, am_iv (am_dv (J 18 0) 8), am_iv (J 18 1), am_iv (J 18 3)], 4, 0, 0, 19, [(0, am_pv 18), (1, am_pv 6)], [], am_SH, (J, K, am_RF b)))) from rfl) (am_g2 (by decide) g530 rfl) tb_River_carries (s_River_carries (by decide) e532) ?_
  obtain ⟨g533, h⟩ := am_if_some h
  obtain rfl := Option.some.inj h
  exact am_r_ret (show am_stepn X T_Boat_isAfloat 1 true (19, [(0, am_pv 18), (1, am_pv 6)], [am_iv q531], am_SH, (J, K, am_RF b)) = some ((decide ((q531 : Int) = 0 ∨ (q531 : Int) = 1) && true), .inr (.inr (some (am_iv q531), am_SH, (J, K, am_RF b)))) from rfl) (am_g1 g533 rfl)
theorem s_Boat_isAfloat_29_32_ {X : am_X} {b : Bool} {J : am_J} {K : am_K}  {r : Int} (h : f_Boat_isAfloat 29 32 J  = some r) : am_runs X T_Boat_isAfloat (0, [(0, am_pv 29), (1, am_pv 32)], [], am_SH, (J, K, am_RF b)) (some (am_iv r), am_SH, (J, K, am_RF b)) := by
  unfold f_Boat_isAfloat at h
  obtain ⟨g530, h⟩ := am_if_some h
  obtain ⟨q531, e532, h⟩ := am_bind_some h
  refine am_r_call (show am_stepn X T_Boat_isAfloat 10 true (0, [(0, am_pv 29), (1, am_pv 32)], [], am_SH, (J, K, am_RF b)) = some (((decide (0 < (8 : Int) ∧ am_i32 8) && decide (am_i32 (J 29 0))) && true), .inr (.inl (68, [am_pv 32, am_iv (am_dv (J 29 0) 8), am_iv (J 29 1), am_iv (J 29 3)], 4, 0, 0, 19, [(0, am_pv 29), (1, am_pv 32)], [], am_SH, (J, K, am_RF b)))) from rfl) (am_g2 (by decide) g530 rfl) tb_River_carries (s_River_carries (by decide) e532) ?_
  obtain ⟨g533, h⟩ := am_if_some h
  obtain rfl := Option.some.inj h
  exact am_r_ret (show am_stepn X T_Boat_isAfloat 1 true (19, [(0, am_pv 29), (1, am_pv 32)], [am_iv q531], am_SH, (J, K, am_RF b)) = some ((decide ((q531 : Int) = 0 ∨ (q531 : Int) = 1) && true), .inr (.inr (some (am_iv q531), am_SH, (J, K, am_RF b)))) from rfl) (am_g1 g533 rfl)
theorem s_Boat_isAfloat_29_6_ {X : am_X} {b : Bool} {J : am_J} {K : am_K}  {r : Int} (h : f_Boat_isAfloat 29 6 J  = some r) : am_runs X T_Boat_isAfloat (0, [(0, am_pv 29), (1, am_pv 6)], [], am_SH, (J, K, am_RF b)) (some (am_iv r), am_SH, (J, K, am_RF b)) := by
  unfold f_Boat_isAfloat at h
  obtain ⟨g530, h⟩ := am_if_some h
  obtain ⟨q531, e532, h⟩ := am_bind_some h
  refine am_r_call (show am_stepn X T_Boat_isAfloat 10 true (0, [(0, am_pv 29), (1, am_pv 6)], [], am_SH, (J, K, am_RF b)) = some (((decide (0 < (8 : Int) ∧ am_i32 8) && decide (am_i32 (J 29 0))) && true), .inr (.inl (68, [am_pv 6, am_iv (am_dv (J 29 0) 8), am_iv (J 29 1), am_iv (J 29 3)], 4, 0, 0, 19, [(0, am_pv 29), (1, am_pv 6)], [], am_SH, (J, K, am_RF b)))) from rfl) (am_g2 (by decide) g530 rfl) tb_River_carries (s_River_carries (by decide) e532) ?_
  obtain ⟨g533, h⟩ := am_if_some h
  obtain rfl := Option.some.inj h
  exact am_r_ret (show am_stepn X T_Boat_isAfloat 1 true (19, [(0, am_pv 29), (1, am_pv 6)], [am_iv q531], am_SH, (J, K, am_RF b)) = some ((decide ((q531 : Int) = 0 ∨ (q531 : Int) = 1) && true), .inr (.inr (some (am_iv q531), am_SH, (J, K, am_RF b)))) from rfl) (am_g1 g533 rfl)
theorem s_Boat_isAfloat_30_32_ {X : am_X} {b : Bool} {J : am_J} {K : am_K}  {r : Int} (h : f_Boat_isAfloat 30 32 J  = some r) : am_runs X T_Boat_isAfloat (0, [(0, am_pv 30), (1, am_pv 32)], [], am_SH, (J, K, am_RF b)) (some (am_iv r), am_SH, (J, K, am_RF b)) := by
  unfold f_Boat_isAfloat at h
  obtain ⟨g530, h⟩ := am_if_some h
  obtain ⟨q531, e532, h⟩ := am_bind_some h
  refine am_r_call (show am_stepn X T_Boat_isAfloat 10 true (0, [(0, am_pv 30), (1, am_pv 32)], [], am_SH, (J, K, am_RF b)) = some (((decide (0 < (8 : Int) ∧ am_i32 8) && decide (am_i32 (J 30 0))) && true), .inr (.inl (68, [am_pv 32, am_iv (am_dv (J 30 0) 8), am_iv (J 30 1), am_iv (J 30 3)], 4, 0, 0, 19, [(0, am_pv 30), (1, am_pv 32)], [], am_SH, (J, K, am_RF b)))) from rfl) (am_g2 (by decide) g530 rfl) tb_River_carries (s_River_carries (by decide) e532) ?_
  obtain ⟨g533, h⟩ := am_if_some h
  obtain rfl := Option.some.inj h
  exact am_r_ret (show am_stepn X T_Boat_isAfloat 1 true (19, [(0, am_pv 30), (1, am_pv 32)], [am_iv q531], am_SH, (J, K, am_RF b)) = some ((decide ((q531 : Int) = 0 ∨ (q531 : Int) = 1) && true), .inr (.inr (some (am_iv q531), am_SH, (J, K, am_RF b)))) from rfl) (am_g1 g533 rfl)
theorem s_Boat_isAfloat_30_6_ {X : am_X} {b : Bool} {J : am_J} {K : am_K}  {r : Int} (h : f_Boat_isAfloat 30 6 J  = some r) : am_runs X T_Boat_isAfloat (0, [(0, am_pv 30), (1, am_pv 6)], [], am_SH, (J, K, am_RF b)) (some (am_iv r), am_SH, (J, K, am_RF b)) := by
  unfold f_Boat_isAfloat at h
  obtain ⟨g530, h⟩ := am_if_some h
  obtain ⟨q531, e532, h⟩ := am_bind_some h
  refine am_r_call (show am_stepn X T_Boat_isAfloat 10 true (0, [(0, am_pv 30), (1, am_pv 6)], [], am_SH, (J, K, am_RF b)) = some (((decide (0 < (8 : Int) ∧ am_i32 8) && decide (am_i32 (J 30 0))) && true), .inr (.inl (68, [am_pv 6, am_iv (am_dv (J 30 0) 8), am_iv (J 30 1), am_iv (J 30 3)], 4, 0, 0, 19, [(0, am_pv 30), (1, am_pv 6)], [], am_SH, (J, K, am_RF b)))) from rfl) (am_g2 (by decide) g530 rfl) tb_River_carries (s_River_carries (by decide) e532) ?_
  obtain ⟨g533, h⟩ := am_if_some h
  obtain rfl := Option.some.inj h
  exact am_r_ret (show am_stepn X T_Boat_isAfloat 1 true (19, [(0, am_pv 30), (1, am_pv 6)], [am_iv q531], am_SH, (J, K, am_RF b)) = some ((decide ((q531 : Int) = 0 ∨ (q531 : Int) = 1) && true), .inr (.inr (some (am_iv q531), am_SH, (J, K, am_RF b)))) from rfl) (am_g1 g533 rfl)
theorem s_Boat_isAfloat {X : am_X} {b : Bool} {o1 : Nat} {o2 : Nat} (ho : (o1 = 18 ∧ o2 = 32) ∨ (o1 = 18 ∧ o2 = 6) ∨ (o1 = 29 ∧ o2 = 32) ∨ (o1 = 29 ∧ o2 = 6) ∨ (o1 = 30 ∧ o2 = 32) ∨ (o1 = 30 ∧ o2 = 6)) {J : am_J} {K : am_K}  {r : Int} (h : f_Boat_isAfloat o1 o2 J  = some r) : am_runs X T_Boat_isAfloat (0, [(0, am_pv o1), (1, am_pv o2)], [], am_SH, (J, K, am_RF b)) (some (am_iv r), am_SH, (J, K, am_RF b)) := by
  rcases ho with ⟨rfl, rfl⟩ | ⟨rfl, rfl⟩ | ⟨rfl, rfl⟩ | ⟨rfl, rfl⟩ | ⟨rfl, rfl⟩ | ⟨rfl, rfl⟩
  · skip
    exact s_Boat_isAfloat_18_32_ h
  · skip
    exact s_Boat_isAfloat_18_6_ h
  · skip
    exact s_Boat_isAfloat_29_32_ h
  · skip
    exact s_Boat_isAfloat_29_6_ h
  · skip
    exact s_Boat_isAfloat_30_32_ h
  · skip
    exact s_Boat_isAfloat_30_6_ h
theorem s_Boat_laneAhead_18_ {X : am_X} {b : Bool} {J : am_J} {K : am_K}  {r : Int} (h : f_Boat_laneAhead 18 J  = some r) : am_runs X T_Boat_laneAhead (0, [(0, am_pv 18)], [], am_SH, (J, K, am_RF b)) (some (am_iv r), am_SH, (J, K, am_RF b)) := by
  unfold f_Boat_laneAhead at h
  obtain ⟨g534, h⟩ := am_if_some h
  by_cases c535 : (J 18 2) = 0
  · rw [if_pos c535] at h
    refine am_r_f (show am_stepn X T_Boat_laneAhead 3 true (0, [(0, am_pv 18)], [], am_SH, (J, K, am_RF b)) = some ((decide (am_i32 (J 18 2)) && true), .inl (bif am_cb .ne (J 18 2) 0 then 16 else 7, [(0, am_pv 18)], [], am_SH, (J, K, am_RF b))) from rfl) (am_g1 g534 rfl) (am_nd_t c535) ?_
    obtain rfl := Option.some.inj h
    exact am_r_ret (show am_stepn X T_Boat_laneAhead 6 true (7, [(0, am_pv 18)], [], am_SH, (J, K, am_RF b)) = some (true, .inr (.inr (some (am_iv ((J 18 1) + 1)), am_SH, (J, K, am_RF b)))) from rfl) rfl
  · rw [if_neg c535] at h
    refine am_r_t (show am_stepn X T_Boat_laneAhead 3 true (0, [(0, am_pv 18)], [], am_SH, (J, K, am_RF b)) = some ((decide (am_i32 (J 18 2)) && true), .inl (bif am_cb .ne (J 18 2) 0 then 16 else 7, [(0, am_pv 18)], [], am_SH, (J, K, am_RF b))) from rfl) (am_g1 g534 rfl) (am_nd_f c535) ?_
    obtain rfl := Option.some.inj h
    exact am_r_ret (show am_stepn X T_Boat_laneAhead 5 true (16, [(0, am_pv 18)], [], am_SH, (J, K, am_RF b)) = some (true, .inr (.inr (some (am_iv ((J 18 1) - 1)), am_SH, (J, K, am_RF b)))) from rfl) rfl
theorem s_Boat_laneAhead_29_ {X : am_X} {b : Bool} {J : am_J} {K : am_K}  {r : Int} (h : f_Boat_laneAhead 29 J  = some r) : am_runs X T_Boat_laneAhead (0, [(0, am_pv 29)], [], am_SH, (J, K, am_RF b)) (some (am_iv r), am_SH, (J, K, am_RF b)) := by
  unfold f_Boat_laneAhead at h
  obtain ⟨g534, h⟩ := am_if_some h
  by_cases c535 : (J 29 2) = 0
  · rw [if_pos c535] at h
    refine am_r_f (show am_stepn X T_Boat_laneAhead 3 true (0, [(0, am_pv 29)], [], am_SH, (J, K, am_RF b)) = some ((decide (am_i32 (J 29 2)) && true), .inl (bif am_cb .ne (J 29 2) 0 then 16 else 7, [(0, am_pv 29)], [], am_SH, (J, K, am_RF b))) from rfl) (am_g1 g534 rfl) (am_nd_t c535) ?_
    obtain rfl := Option.some.inj h
    exact am_r_ret (show am_stepn X T_Boat_laneAhead 6 true (7, [(0, am_pv 29)], [], am_SH, (J, K, am_RF b)) = some (true, .inr (.inr (some (am_iv ((J 29 1) + 1)), am_SH, (J, K, am_RF b)))) from rfl) rfl
  · rw [if_neg c535] at h
    refine am_r_t (show am_stepn X T_Boat_laneAhead 3 true (0, [(0, am_pv 29)], [], am_SH, (J, K, am_RF b)) = some ((decide (am_i32 (J 29 2)) && true), .inl (bif am_cb .ne (J 29 2) 0 then 16 else 7, [(0, am_pv 29)], [], am_SH, (J, K, am_RF b))) from rfl) (am_g1 g534 rfl) (am_nd_f c535) ?_
    obtain rfl := Option.some.inj h
    exact am_r_ret (show am_stepn X T_Boat_laneAhead 5 true (16, [(0, am_pv 29)], [], am_SH, (J, K, am_RF b)) = some (true, .inr (.inr (some (am_iv ((J 29 1) - 1)), am_SH, (J, K, am_RF b)))) from rfl) rfl
theorem s_Boat_laneAhead_30_ {X : am_X} {b : Bool} {J : am_J} {K : am_K}  {r : Int} (h : f_Boat_laneAhead 30 J  = some r) : am_runs X T_Boat_laneAhead (0, [(0, am_pv 30)], [], am_SH, (J, K, am_RF b)) (some (am_iv r), am_SH, (J, K, am_RF b)) := by
  unfold f_Boat_laneAhead at h
  obtain ⟨g534, h⟩ := am_if_some h
  by_cases c535 : (J 30 2) = 0
  · rw [if_pos c535] at h
    refine am_r_f (show am_stepn X T_Boat_laneAhead 3 true (0, [(0, am_pv 30)], [], am_SH, (J, K, am_RF b)) = some ((decide (am_i32 (J 30 2)) && true), .inl (bif am_cb .ne (J 30 2) 0 then 16 else 7, [(0, am_pv 30)], [], am_SH, (J, K, am_RF b))) from rfl) (am_g1 g534 rfl) (am_nd_t c535) ?_
    obtain rfl := Option.some.inj h
    exact am_r_ret (show am_stepn X T_Boat_laneAhead 6 true (7, [(0, am_pv 30)], [], am_SH, (J, K, am_RF b)) = some (true, .inr (.inr (some (am_iv ((J 30 1) + 1)), am_SH, (J, K, am_RF b)))) from rfl) rfl
  · rw [if_neg c535] at h
    refine am_r_t (show am_stepn X T_Boat_laneAhead 3 true (0, [(0, am_pv 30)], [], am_SH, (J, K, am_RF b)) = some ((decide (am_i32 (J 30 2)) && true), .inl (bif am_cb .ne (J 30 2) 0 then 16 else 7, [(0, am_pv 30)], [], am_SH, (J, K, am_RF b))) from rfl) (am_g1 g534 rfl) (am_nd_f c535) ?_
    obtain rfl := Option.some.inj h
    exact am_r_ret (show am_stepn X T_Boat_laneAhead 5 true (16, [(0, am_pv 30)], [], am_SH, (J, K, am_RF b)) = some (true, .inr (.inr (some (am_iv ((J 30 1) - 1)), am_SH, (J, K, am_RF b)))) from rfl) rfl
theorem s_Boat_laneAhead {X : am_X} {b : Bool} {o1 : Nat} (ho : o1 = 18 ∨ o1 = 29 ∨ o1 = 30) {J : am_J} {K : am_K}  {r : Int} (h : f_Boat_laneAhead o1 J  = some r) : am_runs X T_Boat_laneAhead (0, [(0, am_pv o1)], [], am_SH, (J, K, am_RF b)) (some (am_iv r), am_SH, (J, K, am_RF b)) := by
  rcases ho with rfl | rfl | rfl
  · skip
    exact s_Boat_laneAhead_18_ h
  · skip
    exact s_Boat_laneAhead_29_ h
  · skip
    exact s_Boat_laneAhead_30_ h
theorem s_Boat_trySail_L111_18_32_ {X : am_X} {b : Bool} {K : am_K}  : ∀ (x3 : Int) (x4 : Int) (J : am_J) (r : Int × am_J), f_Boat_trySail_L111 18 32   x3 x4 J = some r → am_runs X T_Boat_trySail (111, [(0, am_pv 18), (3, am_iv x3), (4, am_iv x4)], [], am_SH, (J, K, am_RF b)) (some (am_iv r.1), am_SH, (r.2, K, am_RF b)) := by
  intro x3 x4 J r h
  unfold f_Boat_trySail_L111 at h
  obtain rfl := Option.some.inj h
  exact am_r_ret (show am_stepn X T_Boat_trySail 20 true (111, [(0, am_pv 18), (3, am_iv x3), (4, am_iv x4)], [], am_SH, (J, K, am_RF b)) = some ((decide ((1 : Int) = 0 ∨ (1 : Int) = 1) && true), .inr (.inr (some (am_iv 1), am_SH, ((am_up (am_up (am_up (am_up J 18 0 x3) 18 1 x4) 18 3 ((J 18 3) + 1)) 18 5 ((J 18 5) + 1)), K, am_RF b)))) from rfl) (am_g1 (by decide) rfl)
theorem s_Boat_trySail_L80_18_32_ {X : am_X} {b : Bool} {K : am_K}  : ∀ (x3 : Int) (s0 : Int) (J : am_J) (r : Int × am_J), f_Boat_trySail_L80 18 32   x3 s0 J = some r → am_runs X T_Boat_trySail (80, [(0, am_pv 18), (1, am_pv 32), (3, am_iv x3)], [am_iv s0], am_SH, (J, K, am_RF b)) (some (am_iv r.1), am_SH, (r.2, K, am_RF b)) := by
  intro x3 s0 J r h
  unfold f_Boat_trySail_L80 at h
  obtain ⟨q536, e537, h⟩ := am_bind_some h
  refine am_r_call (show am_stepn X T_Boat_trySail 4 true (80, [(0, am_pv 18), (1, am_pv 32), (3, am_iv x3)], [am_iv s0], am_SH, (J, K, am_RF b)) = some (true, .inr (.inl (72, [am_pv 32], 1, 0, 0, 87, [(0, am_pv 18), (1, am_pv 32), (3, am_iv x3), (4, am_iv s0)], [am_iv x3], am_SH, (J, K, am_RF b)))) from rfl) rfl tb_River_top (s_River_top (by decide) e537) ?_
  obtain ⟨g538, h⟩ := am_if_some h
  obtain ⟨g539, h⟩ := am_if_some h
  by_cases c540 : x3 < q536
  · rw [if_pos c540] at h
    refine am_r_f (show am_stepn X T_Boat_trySail 1 true (87, [(0, am_pv 18), (1, am_pv 32), (3, am_iv x3), (4, am_iv s0)], [am_iv q536, am_iv x3], am_SH, (J, K, am_RF b)) = some (((decide (am_i32 q536) && decide (am_i32 x3)) && true), .inl (bif am_cb .ge x3 q536 then 111 else 90, [(0, am_pv 18), (1, am_pv 32), (3, am_iv x3), (4, am_iv s0)], [], am_SH, (J, K, am_RF b))) from rfl) (am_g2 g538 g539 rfl) (am_nd_t c540) ?_
    obtain ⟨q541, e542, h⟩ := am_bind_some h
    refine am_r_call (show am_stepn X T_Boat_trySail 10 true (90, [(0, am_pv 18), (1, am_pv 32), (3, am_iv x3), (4, am_iv s0)], [], am_SH, (J, K, am_RF b)) = some (((decide (0 < (8 : Int) ∧ am_i32 8) && decide (am_i32 x3)) && true), .inr (.inl (68, [am_pv 32, am_iv (am_dv x3 8), am_iv s0, am_iv ((J 18 3) + 1)], 4, 0, 0, 106, [(0, am_pv 18), (1, am_pv 32), (3, am_iv x3), (4, am_iv s0)], [], am_SH, (J, K, am_RF b)))) from rfl) (am_g2 (by decide) g539 rfl) tb_River_carries (s_River_carries (by decide) e542) ?_
    obtain ⟨g543, h⟩ := am_if_some h
    by_cases c544 : q541 = 0
    · rw [if_pos c544] at h
      refine am_r_f (show am_stepn X T_Boat_trySail 1 true (106, [(0, am_pv 18), (1, am_pv 32), (3, am_iv x3), (4, am_iv s0)], [am_iv q541], am_SH, (J, K, am_RF b)) = some ((decide (am_i32 q541) && true), .inl (bif am_cb .ne q541 0 then 111 else 109, [(0, am_pv 18), (1, am_pv 32), (3, am_iv x3), (4, am_iv s0)], [], am_SH, (J, K, am_RF b))) from rfl) (am_g1 g543 rfl) (am_nd_t c544) ?_
      obtain rfl := Option.some.inj h
      exact am_r_ret (show am_stepn X T_Boat_trySail 2 true (109, [(0, am_pv 18), (1, am_pv 32), (3, am_iv x3), (4, am_iv s0)], [], am_SH, (J, K, am_RF b)) = some ((decide ((0 : Int) = 0 ∨ (0 : Int) = 1) && true), .inr (.inr (some (am_iv 0), am_SH, (J, K, am_RF b)))) from rfl) (am_g1 (by decide) rfl)
    · rw [if_neg c544] at h
      refine am_r_t (show am_stepn X T_Boat_trySail 1 true (106, [(0, am_pv 18), (1, am_pv 32), (3, am_iv x3), (4, am_iv s0)], [am_iv q541], am_SH, (J, K, am_RF b)) = some ((decide (am_i32 q541) && true), .inl (bif am_cb .ne q541 0 then 111 else 109, [(0, am_pv 18), (1, am_pv 32), (3, am_iv x3), (4, am_iv s0)], [], am_SH, (J, K, am_RF b))) from rfl) (am_g1 g543 rfl) (am_nd_f c544) ?_
      refine am_r_eq (σ' := (111, [(0, am_pv 18), (3, am_iv x3), (4, am_iv s0)], [], am_SH, (J, K, am_RF b))) rfl ?_
      exact s_Boat_trySail_L111_18_32_  _ _ _ _ h
  · rw [if_neg c540] at h
    refine am_r_t (show am_stepn X T_Boat_trySail 1 true (87, [(0, am_pv 18), (1, am_pv 32), (3, am_iv x3), (4, am_iv s0)], [am_iv q536, am_iv x3], am_SH, (J, K, am_RF b)) = some (((decide (am_i32 q536) && decide (am_i32 x3)) && true), .inl (bif am_cb .ge x3 q536 then 111 else 90, [(0, am_pv 18), (1, am_pv 32), (3, am_iv x3), (4, am_iv s0)], [], am_SH, (J, K, am_RF b))) from rfl) (am_g2 g538 g539 rfl) (am_nd_f c540) ?_
    refine am_r_eq (σ' := (111, [(0, am_pv 18), (3, am_iv x3), (4, am_iv s0)], [], am_SH, (J, K, am_RF b))) rfl ?_
    exact s_Boat_trySail_L111_18_32_  _ _ _ _ h
theorem s_Boat_trySail_18_32_ {X : am_X} {b : Bool} {K : am_K} {J : am_J} {r : Int × am_J} (h : f_Boat_trySail 18 32 J = some r) : am_runs X T_Boat_trySail (0, [(0, am_pv 18), (1, am_pv 32)], [], am_SH, (J, K, am_RF b)) (some (am_iv r.1), am_SH, (r.2, K, am_RF b)) := by
  unfold f_Boat_trySail at h
  obtain ⟨g545, h⟩ := am_if_some h
  by_cases c546 : (J 18 3) < 300
  · rw [if_pos c546] at h
    refine am_r_f (show am_stepn X T_Boat_trySail 4 true (0, [(0, am_pv 18), (1, am_pv 32)], [], am_SH, (J, K, am_RF b)) = some (((decide (am_i32 300) && decide (am_i32 (J 18 3))) && true), .inl (bif am_cb .ge (J 18 3) 300 then 18 else 10, [(0, am_pv 18), (1, am_pv 32)], [], am_SH, (J, K, am_RF b))) from rfl) (am_g2 (by decide) g545 rfl) (am_nd_t c546) ?_
    obtain ⟨q547, e548, h⟩ := am_bind_some h
    refine am_r_call (show am_stepn X T_Boat_trySail 3 true (10, [(0, am_pv 18), (1, am_pv 32)], [], am_SH, (J, K, am_RF b)) = some (true, .inr (.inl (74, [am_pv 18, am_pv 32], 2, 0, 0, 15, [(0, am_pv 18), (1, am_pv 32)], [], am_SH, (J, K, am_RF b)))) from rfl) rfl tb_Boat_isAfloat (s_Boat_isAfloat (by decide) e548) ?_
    obtain ⟨g549, h⟩ := am_if_some h
    by_cases c550 : q547 = 0
    · rw [if_pos c550] at h
      refine am_r_f (show am_stepn X T_Boat_trySail 1 true (15, [(0, am_pv 18), (1, am_pv 32)], [am_iv q547], am_SH, (J, K, am_RF b)) = some ((decide (am_i32 q547) && true), .inl (bif am_cb .ne q547 0 then 20 else 18, [(0, am_pv 18), (1, am_pv 32)], [], am_SH, (J, K, am_RF b))) from rfl) (am_g1 g549 rfl) (am_nd_t c550) ?_
      obtain rfl := Option.some.inj h
      exact am_r_ret (show am_stepn X T_Boat_trySail 2 true (18, [(0, am_pv 18), (1, am_pv 32)], [], am_SH, (J, K, am_RF b)) = some ((decide ((0 : Int) = 0 ∨ (0 : Int) = 1) && true), .inr (.inr (some (am_iv 0), am_SH, (J, K, am_RF b)))) from rfl) (am_g1 (by decide) rfl)
    · rw [if_neg c550] at h
      refine am_r_t (show am_stepn X T_Boat_trySail 1 true (15, [(0, am_pv 18), (1, am_pv 32)], [am_iv q547], am_SH, (J, K, am_RF b)) = some ((decide (am_i32 q547) && true), .inl (bif am_cb .ne q547 0 then 20 else 18, [(0, am_pv 18), (1, am_pv 32)], [], am_SH, (J, K, am_RF b))) from rfl) (am_g1 g549 rfl) (am_nd_f c550) ?_
      obtain ⟨g551, h⟩ := am_if_some h
      obtain ⟨q552, e553, h⟩ := am_bind_some h
      refine am_r_call (show am_stepn X T_Boat_trySail 13 true (20, [(0, am_pv 18), (1, am_pv 32)], [], am_SH, (J, K, am_RF b)) = some (((decide (0 < (8 : Int) ∧ am_i32 8) && decide (am_i32 (J 18 0))) && true), .inr (.inl (58, [am_pv 32, am_iv (am_dv (J 18 0) 8), am_iv (J 18 2)], 4, 0, 0, 42, [(0, am_pv 18), (1, am_pv 32), (2, am_iv (am_dv (J 18 0) 8))], [am_iv (J 18 0), am_iv 0], am_SH, (J, K, am_RF b)))) from rfl) (am_g2 (by decide) g551 rfl) tb_River_wayOn (s_River_wayOn (by decide) e553) ?_
      obtain ⟨q554, e555, h⟩ := am_bind_some h
      refine am_r_call (show am_stepn X T_Boat_trySail 8 true (42, [(0, am_pv 18), (1, am_pv 32), (2, am_iv (am_dv (J 18 0) 8))], [am_iv q552, am_iv (J 18 0), am_iv 0], am_SH, (J, K, am_RF b)) = some (true, .inr (.inl (61, [am_pv 32, am_iv (am_dv (J 18 0) 8), am_iv (J 18 1), am_iv (J 18 3)], 5, 0, 0, 56, [(0, am_pv 18), (1, am_pv 32), (2, am_iv (am_dv (J 18 0) 8))], [am_iv ((J 18 0) + q552), am_iv 0], am_SH, (J, K, am_RF b)))) from rfl) rfl tb_River_flowAt (s_River_flowAt (by decide) e555) ?_
      obtain ⟨q556, e557, h⟩ := am_bind_some h
      refine am_r_call (show am_stepn X T_Boat_trySail 2 true (56, [(0, am_pv 18), (1, am_pv 32), (2, am_iv (am_dv (J 18 0) 8))], [am_iv q554, am_iv ((J 18 0) + q552), am_iv 0], am_SH, (J, K, am_RF b)) = some (true, .inr (.inl (48, [am_iv 0, am_iv (((J 18 0) + q552) + q554)], 2, 0, 0, 60, [(0, am_pv 18), (1, am_pv 32), (2, am_iv (am_dv (J 18 0) 8))], [], am_SH, (J, K, am_RF b)))) from rfl) rfl tb_JMath_max (s_JMath_max e557) ?_
      obtain ⟨q558, e559, h⟩ := am_bind_some h
      refine am_r_call (show am_stepn X T_Boat_trySail 4 true (60, [(0, am_pv 18), (1, am_pv 32), (2, am_iv (am_dv (J 18 0) 8))], [am_iv q556], am_SH, (J, K, am_RF b)) = some (true, .inr (.inl (72, [am_pv 32], 1, 0, 0, 66, [(0, am_pv 18), (1, am_pv 32), (2, am_iv (am_dv (J 18 0) 8)), (3, am_iv q556)], [am_iv q556], am_SH, (J, K, am_RF b)))) from rfl) rfl tb_River_top (s_River_top (by decide) e559) ?_
      obtain ⟨g560, h⟩ := am_if_some h
      obtain ⟨g561, h⟩ := am_if_some h
      by_cases c562 : q556 < q558
      · rw [if_pos c562] at h
        refine am_r_t (show am_stepn X T_Boat_trySail 1 true (66, [(0, am_pv 18), (1, am_pv 32), (2, am_iv (am_dv (J 18 0) 8)), (3, am_iv q556)], [am_iv q558, am_iv q556], am_SH, (J, K, am_RF b)) = some (((decide (am_i32 q558) && decide (am_i32 q556)) && true), .inl (bif am_cb .lt q556 q558 then 76 else 69, [(0, am_pv 18), (1, am_pv 32), (2, am_iv (am_dv (J 18 0) 8)), (3, am_iv q556)], [], am_SH, (J, K, am_RF b))) from rfl) (am_g2 g560 g561 rfl) (decide_eq_true c562) ?_
        obtain ⟨q563, e564, h⟩ := am_bind_some h
        refine am_r_call (show am_stepn X T_Boat_trySail 2 true (76, [(0, am_pv 18), (1, am_pv 32), (2, am_iv (am_dv (J 18 0) 8)), (3, am_iv q556)], [], am_SH, (J, K, am_RF b)) = some (true, .inr (.inl (75, [am_pv 18], 1, 0, 0, 80, [(0, am_pv 18), (1, am_pv 32), (3, am_iv q556)], [], am_SH, (J, K, am_RF b)))) from rfl) rfl tb_Boat_laneAhead (s_Boat_laneAhead (by decide) e564) ?_
        exact s_Boat_trySail_L80_18_32_  _ _ _ _ h
      · rw [if_neg c562] at h
        refine am_r_f (show am_stepn X T_Boat_trySail 1 true (66, [(0, am_pv 18), (1, am_pv 32), (2, am_iv (am_dv (J 18 0) 8)), (3, am_iv q556)], [am_iv q558, am_iv q556], am_SH, (J, K, am_RF b)) = some (((decide (am_i32 q558) && decide (am_i32 q556)) && true), .inl (bif am_cb .lt q556 q558 then 76 else 69, [(0, am_pv 18), (1, am_pv 32), (2, am_iv (am_dv (J 18 0) 8)), (3, am_iv q556)], [], am_SH, (J, K, am_RF b))) from rfl) (am_g2 g560 g561 rfl) (decide_eq_false c562) ?_
        refine am_r_go (show am_stepn X T_Boat_trySail 3 true (69, [(0, am_pv 18), (1, am_pv 32), (2, am_iv (am_dv (J 18 0) 8)), (3, am_iv q556)], [], am_SH, (J, K, am_RF b)) = some (true, .inl (80, [(0, am_pv 18), (1, am_pv 32), (3, am_iv q556)], [am_iv (J 18 1)], am_SH, (J, K, am_RF b))) from rfl) rfl ?_
        exact s_Boat_trySail_L80_18_32_  _ _ _ _ h
  · rw [if_neg c546] at h
    refine am_r_t (show am_stepn X T_Boat_trySail 4 true (0, [(0, am_pv 18), (1, am_pv 32)], [], am_SH, (J, K, am_RF b)) = some (((decide (am_i32 300) && decide (am_i32 (J 18 3))) && true), .inl (bif am_cb .ge (J 18 3) 300 then 18 else 10, [(0, am_pv 18), (1, am_pv 32)], [], am_SH, (J, K, am_RF b))) from rfl) (am_g2 (by decide) g545 rfl) (am_nd_f c546) ?_
    obtain rfl := Option.some.inj h
    exact am_r_ret (show am_stepn X T_Boat_trySail 2 true (18, [(0, am_pv 18), (1, am_pv 32)], [], am_SH, (J, K, am_RF b)) = some ((decide ((0 : Int) = 0 ∨ (0 : Int) = 1) && true), .inr (.inr (some (am_iv 0), am_SH, (J, K, am_RF b)))) from rfl) (am_g1 (by decide) rfl)
theorem s_Boat_trySail_L111_18_6_ {X : am_X} {b : Bool} {K : am_K}  : ∀ (x3 : Int) (x4 : Int) (J : am_J) (r : Int × am_J), f_Boat_trySail_L111 18 6   x3 x4 J = some r → am_runs X T_Boat_trySail (111, [(0, am_pv 18), (3, am_iv x3), (4, am_iv x4)], [], am_SH, (J, K, am_RF b)) (some (am_iv r.1), am_SH, (r.2, K, am_RF b)) := by
  intro x3 x4 J r h
  unfold f_Boat_trySail_L111 at h
  obtain rfl := Option.some.inj h
  exact am_r_ret (show am_stepn X T_Boat_trySail 20 true (111, [(0, am_pv 18), (3, am_iv x3), (4, am_iv x4)], [], am_SH, (J, K, am_RF b)) = some ((decide ((1 : Int) = 0 ∨ (1 : Int) = 1) && true), .inr (.inr (some (am_iv 1), am_SH, ((am_up (am_up (am_up (am_up J 18 0 x3) 18 1 x4) 18 3 ((J 18 3) + 1)) 18 5 ((J 18 5) + 1)), K, am_RF b)))) from rfl) (am_g1 (by decide) rfl)
theorem s_Boat_trySail_L80_18_6_ {X : am_X} {b : Bool} {K : am_K}  : ∀ (x3 : Int) (s0 : Int) (J : am_J) (r : Int × am_J), f_Boat_trySail_L80 18 6   x3 s0 J = some r → am_runs X T_Boat_trySail (80, [(0, am_pv 18), (1, am_pv 6), (3, am_iv x3)], [am_iv s0], am_SH, (J, K, am_RF b)) (some (am_iv r.1), am_SH, (r.2, K, am_RF b)) := by
  intro x3 s0 J r h
  unfold f_Boat_trySail_L80 at h
  obtain ⟨q536, e537, h⟩ := am_bind_some h
  refine am_r_call (show am_stepn X T_Boat_trySail 4 true (80, [(0, am_pv 18), (1, am_pv 6), (3, am_iv x3)], [am_iv s0], am_SH, (J, K, am_RF b)) = some (true, .inr (.inl (72, [am_pv 6], 1, 0, 0, 87, [(0, am_pv 18), (1, am_pv 6), (3, am_iv x3), (4, am_iv s0)], [am_iv x3], am_SH, (J, K, am_RF b)))) from rfl) rfl tb_River_top (s_River_top (by decide) e537) ?_
  obtain ⟨g538, h⟩ := am_if_some h
  obtain ⟨g539, h⟩ := am_if_some h
  by_cases c540 : x3 < q536
  · rw [if_pos c540] at h
    refine am_r_f (show am_stepn X T_Boat_trySail 1 true (87, [(0, am_pv 18), (1, am_pv 6), (3, am_iv x3), (4, am_iv s0)], [am_iv q536, am_iv x3], am_SH, (J, K, am_RF b)) = some (((decide (am_i32 q536) && decide (am_i32 x3)) && true), .inl (bif am_cb .ge x3 q536 then 111 else 90, [(0, am_pv 18), (1, am_pv 6), (3, am_iv x3), (4, am_iv s0)], [], am_SH, (J, K, am_RF b))) from rfl) (am_g2 g538 g539 rfl) (am_nd_t c540) ?_
    obtain ⟨q541, e542, h⟩ := am_bind_some h
    refine am_r_call (show am_stepn X T_Boat_trySail 10 true (90, [(0, am_pv 18), (1, am_pv 6), (3, am_iv x3), (4, am_iv s0)], [], am_SH, (J, K, am_RF b)) = some (((decide (0 < (8 : Int) ∧ am_i32 8) && decide (am_i32 x3)) && true), .inr (.inl (68, [am_pv 6, am_iv (am_dv x3 8), am_iv s0, am_iv ((J 18 3) + 1)], 4, 0, 0, 106, [(0, am_pv 18), (1, am_pv 6), (3, am_iv x3), (4, am_iv s0)], [], am_SH, (J, K, am_RF b)))) from rfl) (am_g2 (by decide) g539 rfl) tb_River_carries (s_River_carries (by decide) e542) ?_
    obtain ⟨g543, h⟩ := am_if_some h
    by_cases c544 : q541 = 0
    · rw [if_pos c544] at h
      refine am_r_f (show am_stepn X T_Boat_trySail 1 true (106, [(0, am_pv 18), (1, am_pv 6), (3, am_iv x3), (4, am_iv s0)], [am_iv q541], am_SH, (J, K, am_RF b)) = some ((decide (am_i32 q541) && true), .inl (bif am_cb .ne q541 0 then 111 else 109, [(0, am_pv 18), (1, am_pv 6), (3, am_iv x3), (4, am_iv s0)], [], am_SH, (J, K, am_RF b))) from rfl) (am_g1 g543 rfl) (am_nd_t c544) ?_
      obtain rfl := Option.some.inj h
      exact am_r_ret (show am_stepn X T_Boat_trySail 2 true (109, [(0, am_pv 18), (1, am_pv 6), (3, am_iv x3), (4, am_iv s0)], [], am_SH, (J, K, am_RF b)) = some ((decide ((0 : Int) = 0 ∨ (0 : Int) = 1) && true), .inr (.inr (some (am_iv 0), am_SH, (J, K, am_RF b)))) from rfl) (am_g1 (by decide) rfl)
    · rw [if_neg c544] at h
      refine am_r_t (show am_stepn X T_Boat_trySail 1 true (106, [(0, am_pv 18), (1, am_pv 6), (3, am_iv x3), (4, am_iv s0)], [am_iv q541], am_SH, (J, K, am_RF b)) = some ((decide (am_i32 q541) && true), .inl (bif am_cb .ne q541 0 then 111 else 109, [(0, am_pv 18), (1, am_pv 6), (3, am_iv x3), (4, am_iv s0)], [], am_SH, (J, K, am_RF b))) from rfl) (am_g1 g543 rfl) (am_nd_f c544) ?_
      refine am_r_eq (σ' := (111, [(0, am_pv 18), (3, am_iv x3), (4, am_iv s0)], [], am_SH, (J, K, am_RF b))) rfl ?_
      exact s_Boat_trySail_L111_18_6_  _ _ _ _ h
  · rw [if_neg c540] at h
    refine am_r_t (show am_stepn X T_Boat_trySail 1 true (87, [(0, am_pv 18), (1, am_pv 6), (3, am_iv x3), (4, am_iv s0)], [am_iv q536, am_iv x3], am_SH, (J, K, am_RF b)) = some (((decide (am_i32 q536) && decide (am_i32 x3)) && true), .inl (bif am_cb .ge x3 q536 then 111 else 90, [(0, am_pv 18), (1, am_pv 6), (3, am_iv x3), (4, am_iv s0)], [], am_SH, (J, K, am_RF b))) from rfl) (am_g2 g538 g539 rfl) (am_nd_f c540) ?_
    refine am_r_eq (σ' := (111, [(0, am_pv 18), (3, am_iv x3), (4, am_iv s0)], [], am_SH, (J, K, am_RF b))) rfl ?_
    exact s_Boat_trySail_L111_18_6_  _ _ _ _ h
theorem s_Boat_trySail_18_6_ {X : am_X} {b : Bool} {K : am_K} {J : am_J} {r : Int × am_J} (h : f_Boat_trySail 18 6 J = some r) : am_runs X T_Boat_trySail (0, [(0, am_pv 18), (1, am_pv 6)], [], am_SH, (J, K, am_RF b)) (some (am_iv r.1), am_SH, (r.2, K, am_RF b)) := by
  unfold f_Boat_trySail at h
  obtain ⟨g545, h⟩ := am_if_some h
  by_cases c546 : (J 18 3) < 300
  · rw [if_pos c546] at h
    refine am_r_f (show am_stepn X T_Boat_trySail 4 true (0, [(0, am_pv 18), (1, am_pv 6)], [], am_SH, (J, K, am_RF b)) = some (((decide (am_i32 300) && decide (am_i32 (J 18 3))) && true), .inl (bif am_cb .ge (J 18 3) 300 then 18 else 10, [(0, am_pv 18), (1, am_pv 6)], [], am_SH, (J, K, am_RF b))) from rfl) (am_g2 (by decide) g545 rfl) (am_nd_t c546) ?_
    obtain ⟨q547, e548, h⟩ := am_bind_some h
    refine am_r_call (show am_stepn X T_Boat_trySail 3 true (10, [(0, am_pv 18), (1, am_pv 6)], [], am_SH, (J, K, am_RF b)) = some (true, .inr (.inl (74, [am_pv 18, am_pv 6], 2, 0, 0, 15, [(0, am_pv 18), (1, am_pv 6)], [], am_SH, (J, K, am_RF b)))) from rfl) rfl tb_Boat_isAfloat (s_Boat_isAfloat (by decide) e548) ?_
    obtain ⟨g549, h⟩ := am_if_some h
    by_cases c550 : q547 = 0
    · rw [if_pos c550] at h
      refine am_r_f (show am_stepn X T_Boat_trySail 1 true (15, [(0, am_pv 18), (1, am_pv 6)], [am_iv q547], am_SH, (J, K, am_RF b)) = some ((decide (am_i32 q547) && true), .inl (bif am_cb .ne q547 0 then 20 else 18, [(0, am_pv 18), (1, am_pv 6)], [], am_SH, (J, K, am_RF b))) from rfl) (am_g1 g549 rfl) (am_nd_t c550) ?_
      obtain rfl := Option.some.inj h
      exact am_r_ret (show am_stepn X T_Boat_trySail 2 true (18, [(0, am_pv 18), (1, am_pv 6)], [], am_SH, (J, K, am_RF b)) = some ((decide ((0 : Int) = 0 ∨ (0 : Int) = 1) && true), .inr (.inr (some (am_iv 0), am_SH, (J, K, am_RF b)))) from rfl) (am_g1 (by decide) rfl)
    · rw [if_neg c550] at h
      refine am_r_t (show am_stepn X T_Boat_trySail 1 true (15, [(0, am_pv 18), (1, am_pv 6)], [am_iv q547], am_SH, (J, K, am_RF b)) = some ((decide (am_i32 q547) && true), .inl (bif am_cb .ne q547 0 then 20 else 18, [(0, am_pv 18), (1, am_pv 6)], [], am_SH, (J, K, am_RF b))) from rfl) (am_g1 g549 rfl) (am_nd_f c550) ?_
      obtain ⟨g551, h⟩ := am_if_some h
      obtain ⟨q552, e553, h⟩ := am_bind_some h
      refine am_r_call (show am_stepn X T_Boat_trySail 13 true (20, [(0, am_pv 18), (1, am_pv 6)], [], am_SH, (J, K, am_RF b)) = some (((decide (0 < (8 : Int) ∧ am_i32 8) && decide (am_i32 (J 18 0))) && true), .inr (.inl (58, [am_pv 6, am_iv (am_dv (J 18 0) 8), am_iv (J 18 2)], 4, 0, 0, 42, [(0, am_pv 18), (1, am_pv 6), (2, am_iv (am_dv (J 18 0) 8))], [am_iv (J 18 0), am_iv 0], am_SH, (J, K, am_RF b)))) from rfl) (am_g2 (by decide) g551 rfl) tb_River_wayOn (s_River_wayOn (by decide) e553) ?_
      obtain ⟨q554, e555, h⟩ := am_bind_some h
      refine am_r_call (show am_stepn X T_Boat_trySail 8 true (42, [(0, am_pv 18), (1, am_pv 6), (2, am_iv (am_dv (J 18 0) 8))], [am_iv q552, am_iv (J 18 0), am_iv 0], am_SH, (J, K, am_RF b)) = some (true, .inr (.inl (61, [am_pv 6, am_iv (am_dv (J 18 0) 8), am_iv (J 18 1), am_iv (J 18 3)], 5, 0, 0, 56, [(0, am_pv 18), (1, am_pv 6), (2, am_iv (am_dv (J 18 0) 8))], [am_iv ((J 18 0) + q552), am_iv 0], am_SH, (J, K, am_RF b)))) from rfl) rfl tb_River_flowAt (s_River_flowAt (by decide) e555) ?_
      obtain ⟨q556, e557, h⟩ := am_bind_some h
      refine am_r_call (show am_stepn X T_Boat_trySail 2 true (56, [(0, am_pv 18), (1, am_pv 6), (2, am_iv (am_dv (J 18 0) 8))], [am_iv q554, am_iv ((J 18 0) + q552), am_iv 0], am_SH, (J, K, am_RF b)) = some (true, .inr (.inl (48, [am_iv 0, am_iv (((J 18 0) + q552) + q554)], 2, 0, 0, 60, [(0, am_pv 18), (1, am_pv 6), (2, am_iv (am_dv (J 18 0) 8))], [], am_SH, (J, K, am_RF b)))) from rfl) rfl tb_JMath_max (s_JMath_max e557) ?_
      obtain ⟨q558, e559, h⟩ := am_bind_some h
      refine am_r_call (show am_stepn X T_Boat_trySail 4 true (60, [(0, am_pv 18), (1, am_pv 6), (2, am_iv (am_dv (J 18 0) 8))], [am_iv q556], am_SH, (J, K, am_RF b)) = some (true, .inr (.inl (72, [am_pv 6], 1, 0, 0, 66, [(0, am_pv 18), (1, am_pv 6), (2, am_iv (am_dv (J 18 0) 8)), (3, am_iv q556)], [am_iv q556], am_SH, (J, K, am_RF b)))) from rfl) rfl tb_River_top (s_River_top (by decide) e559) ?_
      obtain ⟨g560, h⟩ := am_if_some h
      obtain ⟨g561, h⟩ := am_if_some h
      by_cases c562 : q556 < q558
      · rw [if_pos c562] at h
        refine am_r_t (show am_stepn X T_Boat_trySail 1 true (66, [(0, am_pv 18), (1, am_pv 6), (2, am_iv (am_dv (J 18 0) 8)), (3, am_iv q556)], [am_iv q558, am_iv q556], am_SH, (J, K, am_RF b)) = some (((decide (am_i32 q558) && decide (am_i32 q556)) && true), .inl (bif am_cb .lt q556 q558 then 76 else 69, [(0, am_pv 18), (1, am_pv 6), (2, am_iv (am_dv (J 18 0) 8)), (3, am_iv q556)], [], am_SH, (J, K, am_RF b))) from rfl) (am_g2 g560 g561 rfl) (decide_eq_true c562) ?_
        obtain ⟨q563, e564, h⟩ := am_bind_some h
        refine am_r_call (show am_stepn X T_Boat_trySail 2 true (76, [(0, am_pv 18), (1, am_pv 6), (2, am_iv (am_dv (J 18 0) 8)), (3, am_iv q556)], [], am_SH, (J, K, am_RF b)) = some (true, .inr (.inl (75, [am_pv 18], 1, 0, 0, 80, [(0, am_pv 18), (1, am_pv 6), (3, am_iv q556)], [], am_SH, (J, K, am_RF b)))) from rfl) rfl tb_Boat_laneAhead (s_Boat_laneAhead (by decide) e564) ?_
        exact s_Boat_trySail_L80_18_6_  _ _ _ _ h
      · rw [if_neg c562] at h
        refine am_r_f (show am_stepn X T_Boat_trySail 1 true (66, [(0, am_pv 18), (1, am_pv 6), (2, am_iv (am_dv (J 18 0) 8)), (3, am_iv q556)], [am_iv q558, am_iv q556], am_SH, (J, K, am_RF b)) = some (((decide (am_i32 q558) && decide (am_i32 q556)) && true), .inl (bif am_cb .lt q556 q558 then 76 else 69, [(0, am_pv 18), (1, am_pv 6), (2, am_iv (am_dv (J 18 0) 8)), (3, am_iv q556)], [], am_SH, (J, K, am_RF b))) from rfl) (am_g2 g560 g561 rfl) (decide_eq_false c562) ?_
        refine am_r_go (show am_stepn X T_Boat_trySail 3 true (69, [(0, am_pv 18), (1, am_pv 6), (2, am_iv (am_dv (J 18 0) 8)), (3, am_iv q556)], [], am_SH, (J, K, am_RF b)) = some (true, .inl (80, [(0, am_pv 18), (1, am_pv 6), (3, am_iv q556)], [am_iv (J 18 1)], am_SH, (J, K, am_RF b))) from rfl) rfl ?_
        exact s_Boat_trySail_L80_18_6_  _ _ _ _ h
  · rw [if_neg c546] at h
    refine am_r_t (show am_stepn X T_Boat_trySail 4 true (0, [(0, am_pv 18), (1, am_pv 6)], [], am_SH, (J, K, am_RF b)) = some (((decide (am_i32 300) && decide (am_i32 (J 18 3))) && true), .inl (bif am_cb .ge (J 18 3) 300 then 18 else 10, [(0, am_pv 18), (1, am_pv 6)], [], am_SH, (J, K, am_RF b))) from rfl) (am_g2 (by decide) g545 rfl) (am_nd_f c546) ?_
    obtain rfl := Option.some.inj h
    exact am_r_ret (show am_stepn X T_Boat_trySail 2 true (18, [(0, am_pv 18), (1, am_pv 6)], [], am_SH, (J, K, am_RF b)) = some ((decide ((0 : Int) = 0 ∨ (0 : Int) = 1) && true), .inr (.inr (some (am_iv 0), am_SH, (J, K, am_RF b)))) from rfl) (am_g1 (by decide) rfl)
theorem s_Boat_trySail_L111_29_32_ {X : am_X} {b : Bool} {K : am_K}  : ∀ (x3 : Int) (x4 : Int) (J : am_J) (r : Int × am_J), f_Boat_trySail_L111 29 32   x3 x4 J = some r → am_runs X T_Boat_trySail (111, [(0, am_pv 29), (3, am_iv x3), (4, am_iv x4)], [], am_SH, (J, K, am_RF b)) (some (am_iv r.1), am_SH, (r.2, K, am_RF b)) := by
  intro x3 x4 J r h
  unfold f_Boat_trySail_L111 at h
  obtain rfl := Option.some.inj h
  exact am_r_ret (show am_stepn X T_Boat_trySail 20 true (111, [(0, am_pv 29), (3, am_iv x3), (4, am_iv x4)], [], am_SH, (J, K, am_RF b)) = some ((decide ((1 : Int) = 0 ∨ (1 : Int) = 1) && true), .inr (.inr (some (am_iv 1), am_SH, ((am_up (am_up (am_up (am_up J 29 0 x3) 29 1 x4) 29 3 ((J 29 3) + 1)) 29 5 ((J 29 5) + 1)), K, am_RF b)))) from rfl) (am_g1 (by decide) rfl)
theorem s_Boat_trySail_L80_29_32_ {X : am_X} {b : Bool} {K : am_K}  : ∀ (x3 : Int) (s0 : Int) (J : am_J) (r : Int × am_J), f_Boat_trySail_L80 29 32   x3 s0 J = some r → am_runs X T_Boat_trySail (80, [(0, am_pv 29), (1, am_pv 32), (3, am_iv x3)], [am_iv s0], am_SH, (J, K, am_RF b)) (some (am_iv r.1), am_SH, (r.2, K, am_RF b)) := by
  intro x3 s0 J r h
  unfold f_Boat_trySail_L80 at h
  obtain ⟨q536, e537, h⟩ := am_bind_some h
  refine am_r_call (show am_stepn X T_Boat_trySail 4 true (80, [(0, am_pv 29), (1, am_pv 32), (3, am_iv x3)], [am_iv s0], am_SH, (J, K, am_RF b)) = some (true, .inr (.inl (72, [am_pv 32], 1, 0, 0, 87, [(0, am_pv 29), (1, am_pv 32), (3, am_iv x3), (4, am_iv s0)], [am_iv x3], am_SH, (J, K, am_RF b)))) from rfl) rfl tb_River_top (s_River_top (by decide) e537) ?_
  obtain ⟨g538, h⟩ := am_if_some h
  obtain ⟨g539, h⟩ := am_if_some h
  by_cases c540 : x3 < q536
  · rw [if_pos c540] at h
    refine am_r_f (show am_stepn X T_Boat_trySail 1 true (87, [(0, am_pv 29), (1, am_pv 32), (3, am_iv x3), (4, am_iv s0)], [am_iv q536, am_iv x3], am_SH, (J, K, am_RF b)) = some (((decide (am_i32 q536) && decide (am_i32 x3)) && true), .inl (bif am_cb .ge x3 q536 then 111 else 90, [(0, am_pv 29), (1, am_pv 32), (3, am_iv x3), (4, am_iv s0)], [], am_SH, (J, K, am_RF b))) from rfl) (am_g2 g538 g539 rfl) (am_nd_t c540) ?_
    obtain ⟨q541, e542, h⟩ := am_bind_some h
    refine am_r_call (show am_stepn X T_Boat_trySail 10 true (90, [(0, am_pv 29), (1, am_pv 32), (3, am_iv x3), (4, am_iv s0)], [], am_SH, (J, K, am_RF b)) = some (((decide (0 < (8 : Int) ∧ am_i32 8) && decide (am_i32 x3)) && true), .inr (.inl (68, [am_pv 32, am_iv (am_dv x3 8), am_iv s0, am_iv ((J 29 3) + 1)], 4, 0, 0, 106, [(0, am_pv 29), (1, am_pv 32), (3, am_iv x3), (4, am_iv s0)], [], am_SH, (J, K, am_RF b)))) from rfl) (am_g2 (by decide) g539 rfl) tb_River_carries (s_River_carries (by decide) e542) ?_
    obtain ⟨g543, h⟩ := am_if_some h
    by_cases c544 : q541 = 0
    · rw [if_pos c544] at h
      refine am_r_f (show am_stepn X T_Boat_trySail 1 true (106, [(0, am_pv 29), (1, am_pv 32), (3, am_iv x3), (4, am_iv s0)], [am_iv q541], am_SH, (J, K, am_RF b)) = some ((decide (am_i32 q541) && true), .inl (bif am_cb .ne q541 0 then 111 else 109, [(0, am_pv 29), (1, am_pv 32), (3, am_iv x3), (4, am_iv s0)], [], am_SH, (J, K, am_RF b))) from rfl) (am_g1 g543 rfl) (am_nd_t c544) ?_
      obtain rfl := Option.some.inj h
      exact am_r_ret (show am_stepn X T_Boat_trySail 2 true (109, [(0, am_pv 29), (1, am_pv 32), (3, am_iv x3), (4, am_iv s0)], [], am_SH, (J, K, am_RF b)) = some ((decide ((0 : Int) = 0 ∨ (0 : Int) = 1) && true), .inr (.inr (some (am_iv 0), am_SH, (J, K, am_RF b)))) from rfl) (am_g1 (by decide) rfl)
    · rw [if_neg c544] at h
      refine am_r_t (show am_stepn X T_Boat_trySail 1 true (106, [(0, am_pv 29), (1, am_pv 32), (3, am_iv x3), (4, am_iv s0)], [am_iv q541], am_SH, (J, K, am_RF b)) = some ((decide (am_i32 q541) && true), .inl (bif am_cb .ne q541 0 then 111 else 109, [(0, am_pv 29), (1, am_pv 32), (3, am_iv x3), (4, am_iv s0)], [], am_SH, (J, K, am_RF b))) from rfl) (am_g1 g543 rfl) (am_nd_f c544) ?_
      refine am_r_eq (σ' := (111, [(0, am_pv 29), (3, am_iv x3), (4, am_iv s0)], [], am_SH, (J, K, am_RF b))) rfl ?_
      exact s_Boat_trySail_L111_29_32_  _ _ _ _ h
  · rw [if_neg c540] at h
    refine am_r_t (show am_stepn X T_Boat_trySail 1 true (87, [(0, am_pv 29), (1, am_pv 32), (3, am_iv x3), (4, am_iv s0)], [am_iv q536, am_iv x3], am_SH, (J, K, am_RF b)) = some (((decide (am_i32 q536) && decide (am_i32 x3)) && true), .inl (bif am_cb .ge x3 q536 then 111 else 90, [(0, am_pv 29), (1, am_pv 32), (3, am_iv x3), (4, am_iv s0)], [], am_SH, (J, K, am_RF b))) from rfl) (am_g2 g538 g539 rfl) (am_nd_f c540) ?_
    refine am_r_eq (σ' := (111, [(0, am_pv 29), (3, am_iv x3), (4, am_iv s0)], [], am_SH, (J, K, am_RF b))) rfl ?_
    exact s_Boat_trySail_L111_29_32_  _ _ _ _ h
theorem s_Boat_trySail_29_32_ {X : am_X} {b : Bool} {K : am_K} {J : am_J} {r : Int × am_J} (h : f_Boat_trySail 29 32 J = some r) : am_runs X T_Boat_trySail (0, [(0, am_pv 29), (1, am_pv 32)], [], am_SH, (J, K, am_RF b)) (some (am_iv r.1), am_SH, (r.2, K, am_RF b)) := by
  unfold f_Boat_trySail at h
  obtain ⟨g545, h⟩ := am_if_some h
  by_cases c546 : (J 29 3) < 300
  · rw [if_pos c546] at h
    refine am_r_f (show am_stepn X T_Boat_trySail 4 true (0, [(0, am_pv 29), (1, am_pv 32)], [], am_SH, (J, K, am_RF b)) = some (((decide (am_i32 300) && decide (am_i32 (J 29 3))) && true), .inl (bif am_cb .ge (J 29 3) 300 then 18 else 10, [(0, am_pv 29), (1, am_pv 32)], [], am_SH, (J, K, am_RF b))) from rfl) (am_g2 (by decide) g545 rfl) (am_nd_t c546) ?_
    obtain ⟨q547, e548, h⟩ := am_bind_some h
    refine am_r_call (show am_stepn X T_Boat_trySail 3 true (10, [(0, am_pv 29), (1, am_pv 32)], [], am_SH, (J, K, am_RF b)) = some (true, .inr (.inl (74, [am_pv 29, am_pv 32], 2, 0, 0, 15, [(0, am_pv 29), (1, am_pv 32)], [], am_SH, (J, K, am_RF b)))) from rfl) rfl tb_Boat_isAfloat (s_Boat_isAfloat (by decide) e548) ?_
    obtain ⟨g549, h⟩ := am_if_some h
    by_cases c550 : q547 = 0
    · rw [if_pos c550] at h
      refine am_r_f (show am_stepn X T_Boat_trySail 1 true (15, [(0, am_pv 29), (1, am_pv 32)], [am_iv q547], am_SH, (J, K, am_RF b)) = some ((decide (am_i32 q547) && true), .inl (bif am_cb .ne q547 0 then 20 else 18, [(0, am_pv 29), (1, am_pv 32)], [], am_SH, (J, K, am_RF b))) from rfl) (am_g1 g549 rfl) (am_nd_t c550) ?_
      obtain rfl := Option.some.inj h
      exact am_r_ret (show am_stepn X T_Boat_trySail 2 true (18, [(0, am_pv 29), (1, am_pv 32)], [], am_SH, (J, K, am_RF b)) = some ((decide ((0 : Int) = 0 ∨ (0 : Int) = 1) && true), .inr (.inr (some (am_iv 0), am_SH, (J, K, am_RF b)))) from rfl) (am_g1 (by decide) rfl)
    · rw [if_neg c550] at h
      refine am_r_t (show am_stepn X T_Boat_trySail 1 true (15, [(0, am_pv 29), (1, am_pv 32)], [am_iv q547], am_SH, (J, K, am_RF b)) = some ((decide (am_i32 q547) && true), .inl (bif am_cb .ne q547 0 then 20 else 18, [(0, am_pv 29), (1, am_pv 32)], [], am_SH, (J, K, am_RF b))) from rfl) (am_g1 g549 rfl) (am_nd_f c550) ?_
      obtain ⟨g551, h⟩ := am_if_some h
      obtain ⟨q552, e553, h⟩ := am_bind_some h
      refine am_r_call (show am_stepn X T_Boat_trySail 13 true (20, [(0, am_pv 29), (1, am_pv 32)], [], am_SH, (J, K, am_RF b)) = some (((decide (0 < (8 : Int) ∧ am_i32 8) && decide (am_i32 (J 29 0))) && true), .inr (.inl (58, [am_pv 32, am_iv (am_dv (J 29 0) 8), am_iv (J 29 2)], 4, 0, 0, 42, [(0, am_pv 29), (1, am_pv 32), (2, am_iv (am_dv (J 29 0) 8))], [am_iv (J 29 0), am_iv 0], am_SH, (J, K, am_RF b)))) from rfl) (am_g2 (by decide) g551 rfl) tb_River_wayOn (s_River_wayOn (by decide) e553) ?_
      obtain ⟨q554, e555, h⟩ := am_bind_some h
      refine am_r_call (show am_stepn X T_Boat_trySail 8 true (42, [(0, am_pv 29), (1, am_pv 32), (2, am_iv (am_dv (J 29 0) 8))], [am_iv q552, am_iv (J 29 0), am_iv 0], am_SH, (J, K, am_RF b)) = some (true, .inr (.inl (61, [am_pv 32, am_iv (am_dv (J 29 0) 8), am_iv (J 29 1), am_iv (J 29 3)], 5, 0, 0, 56, [(0, am_pv 29), (1, am_pv 32), (2, am_iv (am_dv (J 29 0) 8))], [am_iv ((J 29 0) + q552), am_iv 0], am_SH, (J, K, am_RF b)))) from rfl) rfl tb_River_flowAt (s_River_flowAt (by decide) e555) ?_
      obtain ⟨q556, e557, h⟩ := am_bind_some h
      refine am_r_call (show am_stepn X T_Boat_trySail 2 true (56, [(0, am_pv 29), (1, am_pv 32), (2, am_iv (am_dv (J 29 0) 8))], [am_iv q554, am_iv ((J 29 0) + q552), am_iv 0], am_SH, (J, K, am_RF b)) = some (true, .inr (.inl (48, [am_iv 0, am_iv (((J 29 0) + q552) + q554)], 2, 0, 0, 60, [(0, am_pv 29), (1, am_pv 32), (2, am_iv (am_dv (J 29 0) 8))], [], am_SH, (J, K, am_RF b)))) from rfl) rfl tb_JMath_max (s_JMath_max e557) ?_
      obtain ⟨q558, e559, h⟩ := am_bind_some h
      refine am_r_call (show am_stepn X T_Boat_trySail 4 true (60, [(0, am_pv 29), (1, am_pv 32), (2, am_iv (am_dv (J 29 0) 8))], [am_iv q556], am_SH, (J, K, am_RF b)) = some (true, .inr (.inl (72, [am_pv 32], 1, 0, 0, 66, [(0, am_pv 29), (1, am_pv 32), (2, am_iv (am_dv (J 29 0) 8)), (3, am_iv q556)], [am_iv q556], am_SH, (J, K, am_RF b)))) from rfl) rfl tb_River_top (s_River_top (by decide) e559) ?_
      obtain ⟨g560, h⟩ := am_if_some h
      obtain ⟨g561, h⟩ := am_if_some h
      by_cases c562 : q556 < q558
      · rw [if_pos c562] at h
        refine am_r_t (show am_stepn X T_Boat_trySail 1 true (66, [(0, am_pv 29), (1, am_pv 32), (2, am_iv (am_dv (J 29 0) 8)), (3, am_iv q556)], [am_iv q558, am_iv q556], am_SH, (J, K, am_RF b)) = some (((decide (am_i32 q558) && decide (am_i32 q556)) && true), .inl (bif am_cb .lt q556 q558 then 76 else 69, [(0, am_pv 29), (1, am_pv 32), (2, am_iv (am_dv (J 29 0) 8)), (3, am_iv q556)], [], am_SH, (J, K, am_RF b))) from rfl) (am_g2 g560 g561 rfl) (decide_eq_true c562) ?_
        obtain ⟨q563, e564, h⟩ := am_bind_some h
        refine am_r_call (show am_stepn X T_Boat_trySail 2 true (76, [(0, am_pv 29), (1, am_pv 32), (2, am_iv (am_dv (J 29 0) 8)), (3, am_iv q556)], [], am_SH, (J, K, am_RF b)) = some (true, .inr (.inl (75, [am_pv 29], 1, 0, 0, 80, [(0, am_pv 29), (1, am_pv 32), (3, am_iv q556)], [], am_SH, (J, K, am_RF b)))) from rfl) rfl tb_Boat_laneAhead (s_Boat_laneAhead (by decide) e564) ?_
        exact s_Boat_trySail_L80_29_32_  _ _ _ _ h
      · rw [if_neg c562] at h
        refine am_r_f (show am_stepn X T_Boat_trySail 1 true (66, [(0, am_pv 29), (1, am_pv 32), (2, am_iv (am_dv (J 29 0) 8)), (3, am_iv q556)], [am_iv q558, am_iv q556], am_SH, (J, K, am_RF b)) = some (((decide (am_i32 q558) && decide (am_i32 q556)) && true), .inl (bif am_cb .lt q556 q558 then 76 else 69, [(0, am_pv 29), (1, am_pv 32), (2, am_iv (am_dv (J 29 0) 8)), (3, am_iv q556)], [], am_SH, (J, K, am_RF b))) from rfl) (am_g2 g560 g561 rfl) (decide_eq_false c562) ?_
        refine am_r_go (show am_stepn X T_Boat_trySail 3 true (69, [(0, am_pv 29), (1, am_pv 32), (2, am_iv (am_dv (J 29 0) 8)), (3, am_iv q556)], [], am_SH, (J, K, am_RF b)) = some (true, .inl (80, [(0, am_pv 29), (1, am_pv 32), (3, am_iv q556)], [am_iv (J 29 1)], am_SH, (J, K, am_RF b))) from rfl) rfl ?_
        exact s_Boat_trySail_L80_29_32_  _ _ _ _ h
  · rw [if_neg c546] at h
    refine am_r_t (show am_stepn X T_Boat_trySail 4 true (0, [(0, am_pv 29), (1, am_pv 32)], [], am_SH, (J, K, am_RF b)) = some (((decide (am_i32 300) && decide (am_i32 (J 29 3))) && true), .inl (bif am_cb .ge (J 29 3) 300 then 18 else 10, [(0, am_pv 29), (1, am_pv 32)], [], am_SH, (J, K, am_RF b))) from rfl) (am_g2 (by decide) g545 rfl) (am_nd_f c546) ?_
    obtain rfl := Option.some.inj h
    exact am_r_ret (show am_stepn X T_Boat_trySail 2 true (18, [(0, am_pv 29), (1, am_pv 32)], [], am_SH, (J, K, am_RF b)) = some ((decide ((0 : Int) = 0 ∨ (0 : Int) = 1) && true), .inr (.inr (some (am_iv 0), am_SH, (J, K, am_RF b)))) from rfl) (am_g1 (by decide) rfl)
theorem s_Boat_trySail_L111_29_6_ {X : am_X} {b : Bool} {K : am_K}  : ∀ (x3 : Int) (x4 : Int) (J : am_J) (r : Int × am_J), f_Boat_trySail_L111 29 6   x3 x4 J = some r → am_runs X T_Boat_trySail (111, [(0, am_pv 29), (3, am_iv x3), (4, am_iv x4)], [], am_SH, (J, K, am_RF b)) (some (am_iv r.1), am_SH, (r.2, K, am_RF b)) := by
  intro x3 x4 J r h
  unfold f_Boat_trySail_L111 at h
  obtain rfl := Option.some.inj h
  exact am_r_ret (show am_stepn X T_Boat_trySail 20 true (111, [(0, am_pv 29), (3, am_iv x3), (4, am_iv x4)], [], am_SH, (J, K, am_RF b)) = some ((decide ((1 : Int) = 0 ∨ (1 : Int) = 1) && true), .inr (.inr (some (am_iv 1), am_SH, ((am_up (am_up (am_up (am_up J 29 0 x3) 29 1 x4) 29 3 ((J 29 3) + 1)) 29 5 ((J 29 5) + 1)), K, am_RF b)))) from rfl) (am_g1 (by decide) rfl)
theorem s_Boat_trySail_L80_29_6_ {X : am_X} {b : Bool} {K : am_K}  : ∀ (x3 : Int) (s0 : Int) (J : am_J) (r : Int × am_J), f_Boat_trySail_L80 29 6   x3 s0 J = some r → am_runs X T_Boat_trySail (80, [(0, am_pv 29), (1, am_pv 6), (3, am_iv x3)], [am_iv s0], am_SH, (J, K, am_RF b)) (some (am_iv r.1), am_SH, (r.2, K, am_RF b)) := by
  intro x3 s0 J r h
  unfold f_Boat_trySail_L80 at h
  obtain ⟨q536, e537, h⟩ := am_bind_some h
  refine am_r_call (show am_stepn X T_Boat_trySail 4 true (80, [(0, am_pv 29), (1, am_pv 6), (3, am_iv x3)], [am_iv s0], am_SH, (J, K, am_RF b)) = some (true, .inr (.inl (72, [am_pv 6], 1, 0, 0, 87, [(0, am_pv 29), (1, am_pv 6), (3, am_iv x3), (4, am_iv s0)], [am_iv x3], am_SH, (J, K, am_RF b)))) from rfl) rfl tb_River_top (s_River_top (by decide) e537) ?_
  obtain ⟨g538, h⟩ := am_if_some h
  obtain ⟨g539, h⟩ := am_if_some h
  by_cases c540 : x3 < q536
  · rw [if_pos c540] at h
    refine am_r_f (show am_stepn X T_Boat_trySail 1 true (87, [(0, am_pv 29), (1, am_pv 6), (3, am_iv x3), (4, am_iv s0)], [am_iv q536, am_iv x3], am_SH, (J, K, am_RF b)) = some (((decide (am_i32 q536) && decide (am_i32 x3)) && true), .inl (bif am_cb .ge x3 q536 then 111 else 90, [(0, am_pv 29), (1, am_pv 6), (3, am_iv x3), (4, am_iv s0)], [], am_SH, (J, K, am_RF b))) from rfl) (am_g2 g538 g539 rfl) (am_nd_t c540) ?_
    obtain ⟨q541, e542, h⟩ := am_bind_some h
    refine am_r_call (show am_stepn X T_Boat_trySail 10 true (90, [(0, am_pv 29), (1, am_pv 6), (3, am_iv x3), (4, am_iv s0)], [], am_SH, (J, K, am_RF b)) = some (((decide (0 < (8 : Int) ∧ am_i32 8) && decide (am_i32 x3)) && true), .inr (.inl (68, [am_pv 6, am_iv (am_dv x3 8), am_iv s0, am_iv ((J 29 3) + 1)], 4, 0, 0, 106, [(0, am_pv 29), (1, am_pv 6), (3, am_iv x3), (4, am_iv s0)], [], am_SH, (J, K, am_RF b)))) from rfl) (am_g2 (by decide) g539 rfl) tb_River_carries (s_River_carries (by decide) e542) ?_
    obtain ⟨g543, h⟩ := am_if_some h
    by_cases c544 : q541 = 0
    · rw [if_pos c544] at h
      refine am_r_f (show am_stepn X T_Boat_trySail 1 true (106, [(0, am_pv 29), (1, am_pv 6), (3, am_iv x3), (4, am_iv s0)], [am_iv q541], am_SH, (J, K, am_RF b)) = some ((decide (am_i32 q541) && true), .inl (bif am_cb .ne q541 0 then 111 else 109, [(0, am_pv 29), (1, am_pv 6), (3, am_iv x3), (4, am_iv s0)], [], am_SH, (J, K, am_RF b))) from rfl) (am_g1 g543 rfl) (am_nd_t c544) ?_
      obtain rfl := Option.some.inj h
      exact am_r_ret (show am_stepn X T_Boat_trySail 2 true (109, [(0, am_pv 29), (1, am_pv 6), (3, am_iv x3), (4, am_iv s0)], [], am_SH, (J, K, am_RF b)) = some ((decide ((0 : Int) = 0 ∨ (0 : Int) = 1) && true), .inr (.inr (some (am_iv 0), am_SH, (J, K, am_RF b)))) from rfl) (am_g1 (by decide) rfl)
    · rw [if_neg c544] at h
      refine am_r_t (show am_stepn X T_Boat_trySail 1 true (106, [(0, am_pv 29), (1, am_pv 6), (3, am_iv x3), (4, am_iv s0)], [am_iv q541], am_SH, (J, K, am_RF b)) = some ((decide (am_i32 q541) && true), .inl (bif am_cb .ne q541 0 then 111 else 109, [(0, am_pv 29), (1, am_pv 6), (3, am_iv x3), (4, am_iv s0)], [], am_SH, (J, K, am_RF b))) from rfl) (am_g1 g543 rfl) (am_nd_f c544) ?_
      refine am_r_eq (σ' := (111, [(0, am_pv 29), (3, am_iv x3), (4, am_iv s0)], [], am_SH, (J, K, am_RF b))) rfl ?_
      exact s_Boat_trySail_L111_29_6_  _ _ _ _ h
  · rw [if_neg c540] at h
    refine am_r_t (show am_stepn X T_Boat_trySail 1 true (87, [(0, am_pv 29), (1, am_pv 6), (3, am_iv x3), (4, am_iv s0)], [am_iv q536, am_iv x3], am_SH, (J, K, am_RF b)) = some (((decide (am_i32 q536) && decide (am_i32 x3)) && true), .inl (bif am_cb .ge x3 q536 then 111 else 90, [(0, am_pv 29), (1, am_pv 6), (3, am_iv x3), (4, am_iv s0)], [], am_SH, (J, K, am_RF b))) from rfl) (am_g2 g538 g539 rfl) (am_nd_f c540) ?_
    refine am_r_eq (σ' := (111, [(0, am_pv 29), (3, am_iv x3), (4, am_iv s0)], [], am_SH, (J, K, am_RF b))) rfl ?_
    exact s_Boat_trySail_L111_29_6_  _ _ _ _ h
theorem s_Boat_trySail_29_6_ {X : am_X} {b : Bool} {K : am_K} {J : am_J} {r : Int × am_J} (h : f_Boat_trySail 29 6 J = some r) : am_runs X T_Boat_trySail (0, [(0, am_pv 29), (1, am_pv 6)], [], am_SH, (J, K, am_RF b)) (some (am_iv r.1), am_SH, (r.2, K, am_RF b)) := by
  unfold f_Boat_trySail at h
  obtain ⟨g545, h⟩ := am_if_some h
  by_cases c546 : (J 29 3) < 300
  · rw [if_pos c546] at h
    refine am_r_f (show am_stepn X T_Boat_trySail 4 true (0, [(0, am_pv 29), (1, am_pv 6)], [], am_SH, (J, K, am_RF b)) = some (((decide (am_i32 300) && decide (am_i32 (J 29 3))) && true), .inl (bif am_cb .ge (J 29 3) 300 then 18 else 10, [(0, am_pv 29), (1, am_pv 6)], [], am_SH, (J, K, am_RF b))) from rfl) (am_g2 (by decide) g545 rfl) (am_nd_t c546) ?_
    obtain ⟨q547, e548, h⟩ := am_bind_some h
    refine am_r_call (show am_stepn X T_Boat_trySail 3 true (10, [(0, am_pv 29), (1, am_pv 6)], [], am_SH, (J, K, am_RF b)) = some (true, .inr (.inl (74, [am_pv 29, am_pv 6], 2, 0, 0, 15, [(0, am_pv 29), (1, am_pv 6)], [], am_SH, (J, K, am_RF b)))) from rfl) rfl tb_Boat_isAfloat (s_Boat_isAfloat (by decide) e548) ?_
    obtain ⟨g549, h⟩ := am_if_some h
    by_cases c550 : q547 = 0
    · rw [if_pos c550] at h
      refine am_r_f (show am_stepn X T_Boat_trySail 1 true (15, [(0, am_pv 29), (1, am_pv 6)], [am_iv q547], am_SH, (J, K, am_RF b)) = some ((decide (am_i32 q547) && true), .inl (bif am_cb .ne q547 0 then 20 else 18, [(0, am_pv 29), (1, am_pv 6)], [], am_SH, (J, K, am_RF b))) from rfl) (am_g1 g549 rfl) (am_nd_t c550) ?_
      obtain rfl := Option.some.inj h
      exact am_r_ret (show am_stepn X T_Boat_trySail 2 true (18, [(0, am_pv 29), (1, am_pv 6)], [], am_SH, (J, K, am_RF b)) = some ((decide ((0 : Int) = 0 ∨ (0 : Int) = 1) && true), .inr (.inr (some (am_iv 0), am_SH, (J, K, am_RF b)))) from rfl) (am_g1 (by decide) rfl)
    · rw [if_neg c550] at h
      refine am_r_t (show am_stepn X T_Boat_trySail 1 true (15, [(0, am_pv 29), (1, am_pv 6)], [am_iv q547], am_SH, (J, K, am_RF b)) = some ((decide (am_i32 q547) && true), .inl (bif am_cb .ne q547 0 then 20 else 18, [(0, am_pv 29), (1, am_pv 6)], [], am_SH, (J, K, am_RF b))) from rfl) (am_g1 g549 rfl) (am_nd_f c550) ?_
      obtain ⟨g551, h⟩ := am_if_some h
      obtain ⟨q552, e553, h⟩ := am_bind_some h
      refine am_r_call (show am_stepn X T_Boat_trySail 13 true (20, [(0, am_pv 29), (1, am_pv 6)], [], am_SH, (J, K, am_RF b)) = some (((decide (0 < (8 : Int) ∧ am_i32 8) && decide (am_i32 (J 29 0))) && true), .inr (.inl (58, [am_pv 6, am_iv (am_dv (J 29 0) 8), am_iv (J 29 2)], 4, 0, 0, 42, [(0, am_pv 29), (1, am_pv 6), (2, am_iv (am_dv (J 29 0) 8))], [am_iv (J 29 0), am_iv 0], am_SH, (J, K, am_RF b)))) from rfl) (am_g2 (by decide) g551 rfl) tb_River_wayOn (s_River_wayOn (by decide) e553) ?_
      obtain ⟨q554, e555, h⟩ := am_bind_some h
      refine am_r_call (show am_stepn X T_Boat_trySail 8 true (42, [(0, am_pv 29), (1, am_pv 6), (2, am_iv (am_dv (J 29 0) 8))], [am_iv q552, am_iv (J 29 0), am_iv 0], am_SH, (J, K, am_RF b)) = some (true, .inr (.inl (61, [am_pv 6, am_iv (am_dv (J 29 0) 8), am_iv (J 29 1), am_iv (J 29 3)], 5, 0, 0, 56, [(0, am_pv 29), (1, am_pv 6), (2, am_iv (am_dv (J 29 0) 8))], [am_iv ((J 29 0) + q552), am_iv 0], am_SH, (J, K, am_RF b)))) from rfl) rfl tb_River_flowAt (s_River_flowAt (by decide) e555) ?_
      obtain ⟨q556, e557, h⟩ := am_bind_some h
      refine am_r_call (show am_stepn X T_Boat_trySail 2 true (56, [(0, am_pv 29), (1, am_pv 6), (2, am_iv (am_dv (J 29 0) 8))], [am_iv q554, am_iv ((J 29 0) + q552), am_iv 0], am_SH, (J, K, am_RF b)) = some (true, .inr (.inl (48, [am_iv 0, am_iv (((J 29 0) + q552) + q554)], 2, 0, 0, 60, [(0, am_pv 29), (1, am_pv 6), (2, am_iv (am_dv (J 29 0) 8))], [], am_SH, (J, K, am_RF b)))) from rfl) rfl tb_JMath_max (s_JMath_max e557) ?_
      obtain ⟨q558, e559, h⟩ := am_bind_some h
      refine am_r_call (show am_stepn X T_Boat_trySail 4 true (60, [(0, am_pv 29), (1, am_pv 6), (2, am_iv (am_dv (J 29 0) 8))], [am_iv q556], am_SH, (J, K, am_RF b)) = some (true, .inr (.inl (72, [am_pv 6], 1, 0, 0, 66, [(0, am_pv 29), (1, am_pv 6), (2, am_iv (am_dv (J 29 0) 8)), (3, am_iv q556)], [am_iv q556], am_SH, (J, K, am_RF b)))) from rfl) rfl tb_River_top (s_River_top (by decide) e559) ?_
      obtain ⟨g560, h⟩ := am_if_some h
      obtain ⟨g561, h⟩ := am_if_some h
      by_cases c562 : q556 < q558
      · rw [if_pos c562] at h
        refine am_r_t (show am_stepn X T_Boat_trySail 1 true (66, [(0, am_pv 29), (1, am_pv 6), (2, am_iv (am_dv (J 29 0) 8)), (3, am_iv q556)], [am_iv q558, am_iv q556], am_SH, (J, K, am_RF b)) = some (((decide (am_i32 q558) && decide (am_i32 q556)) && true), .inl (bif am_cb .lt q556 q558 then 76 else 69, [(0, am_pv 29), (1, am_pv 6), (2, am_iv (am_dv (J 29 0) 8)), (3, am_iv q556)], [], am_SH, (J, K, am_RF b))) from rfl) (am_g2 g560 g561 rfl) (decide_eq_true c562) ?_
        obtain ⟨q563, e564, h⟩ := am_bind_some h
        refine am_r_call (show am_stepn X T_Boat_trySail 2 true (76, [(0, am_pv 29), (1, am_pv 6), (2, am_iv (am_dv (J 29 0) 8)), (3, am_iv q556)], [], am_SH, (J, K, am_RF b)) = some (true, .inr (.inl (75, [am_pv 29], 1, 0, 0, 80, [(0, am_pv 29), (1, am_pv 6), (3, am_iv q556)], [], am_SH, (J, K, am_RF b)))) from rfl) rfl tb_Boat_laneAhead (s_Boat_laneAhead (by decide) e564) ?_
        exact s_Boat_trySail_L80_29_6_  _ _ _ _ h
      · rw [if_neg c562] at h
        refine am_r_f (show am_stepn X T_Boat_trySail 1 true (66, [(0, am_pv 29), (1, am_pv 6), (2, am_iv (am_dv (J 29 0) 8)), (3, am_iv q556)], [am_iv q558, am_iv q556], am_SH, (J, K, am_RF b)) = some (((decide (am_i32 q558) && decide (am_i32 q556)) && true), .inl (bif am_cb .lt q556 q558 then 76 else 69, [(0, am_pv 29), (1, am_pv 6), (2, am_iv (am_dv (J 29 0) 8)), (3, am_iv q556)], [], am_SH, (J, K, am_RF b))) from rfl) (am_g2 g560 g561 rfl) (decide_eq_false c562) ?_
        refine am_r_go (show am_stepn X T_Boat_trySail 3 true (69, [(0, am_pv 29), (1, am_pv 6), (2, am_iv (am_dv (J 29 0) 8)), (3, am_iv q556)], [], am_SH, (J, K, am_RF b)) = some (true, .inl (80, [(0, am_pv 29), (1, am_pv 6), (3, am_iv q556)], [am_iv (J 29 1)], am_SH, (J, K, am_RF b))) from rfl) rfl ?_
        exact s_Boat_trySail_L80_29_6_  _ _ _ _ h
  · rw [if_neg c546] at h
    refine am_r_t (show am_stepn X T_Boat_trySail 4 true (0, [(0, am_pv 29), (1, am_pv 6)], [], am_SH, (J, K, am_RF b)) = some (((decide (am_i32 300) && decide (am_i32 (J 29 3))) && true), .inl (bif am_cb .ge (J 29 3) 300 then 18 else 10, [(0, am_pv 29), (1, am_pv 6)], [], am_SH, (J, K, am_RF b))) from rfl) (am_g2 (by decide) g545 rfl) (am_nd_f c546) ?_
    obtain rfl := Option.some.inj h
    exact am_r_ret (show am_stepn X T_Boat_trySail 2 true (18, [(0, am_pv 29), (1, am_pv 6)], [], am_SH, (J, K, am_RF b)) = some ((decide ((0 : Int) = 0 ∨ (0 : Int) = 1) && true), .inr (.inr (some (am_iv 0), am_SH, (J, K, am_RF b)))) from rfl) (am_g1 (by decide) rfl)
theorem s_Boat_trySail_L111_30_32_ {X : am_X} {b : Bool} {K : am_K}  : ∀ (x3 : Int) (x4 : Int) (J : am_J) (r : Int × am_J), f_Boat_trySail_L111 30 32   x3 x4 J = some r → am_runs X T_Boat_trySail (111, [(0, am_pv 30), (3, am_iv x3), (4, am_iv x4)], [], am_SH, (J, K, am_RF b)) (some (am_iv r.1), am_SH, (r.2, K, am_RF b)) := by
  intro x3 x4 J r h
  unfold f_Boat_trySail_L111 at h
  obtain rfl := Option.some.inj h
  exact am_r_ret (show am_stepn X T_Boat_trySail 20 true (111, [(0, am_pv 30), (3, am_iv x3), (4, am_iv x4)], [], am_SH, (J, K, am_RF b)) = some ((decide ((1 : Int) = 0 ∨ (1 : Int) = 1) && true), .inr (.inr (some (am_iv 1), am_SH, ((am_up (am_up (am_up (am_up J 30 0 x3) 30 1 x4) 30 3 ((J 30 3) + 1)) 30 5 ((J 30 5) + 1)), K, am_RF b)))) from rfl) (am_g1 (by decide) rfl)
theorem s_Boat_trySail_L80_30_32_ {X : am_X} {b : Bool} {K : am_K}  : ∀ (x3 : Int) (s0 : Int) (J : am_J) (r : Int × am_J), f_Boat_trySail_L80 30 32   x3 s0 J = some r → am_runs X T_Boat_trySail (80, [(0, am_pv 30), (1, am_pv 32), (3, am_iv x3)], [am_iv s0], am_SH, (J, K, am_RF b)) (some (am_iv r.1), am_SH, (r.2, K, am_RF b)) := by
  intro x3 s0 J r h
  unfold f_Boat_trySail_L80 at h
  obtain ⟨q536, e537, h⟩ := am_bind_some h
  refine am_r_call (show am_stepn X T_Boat_trySail 4 true (80, [(0, am_pv 30), (1, am_pv 32), (3, am_iv x3)], [am_iv s0], am_SH, (J, K, am_RF b)) = some (true, .inr (.inl (72, [am_pv 32], 1, 0, 0, 87, [(0, am_pv 30), (1, am_pv 32), (3, am_iv x3), (4, am_iv s0)], [am_iv x3], am_SH, (J, K, am_RF b)))) from rfl) rfl tb_River_top (s_River_top (by decide) e537) ?_
  obtain ⟨g538, h⟩ := am_if_some h
  obtain ⟨g539, h⟩ := am_if_some h
  by_cases c540 : x3 < q536
  · rw [if_pos c540] at h
    refine am_r_f (show am_stepn X T_Boat_trySail 1 true (87, [(0, am_pv 30), (1, am_pv 32), (3, am_iv x3), (4, am_iv s0)], [am_iv q536, am_iv x3], am_SH, (J, K, am_RF b)) = some (((decide (am_i32 q536) && decide (am_i32 x3)) && true), .inl (bif am_cb .ge x3 q536 then 111 else 90, [(0, am_pv 30), (1, am_pv 32), (3, am_iv x3), (4, am_iv s0)], [], am_SH, (J, K, am_RF b))) from rfl) (am_g2 g538 g539 rfl) (am_nd_t c540) ?_
    obtain ⟨q541, e542, h⟩ := am_bind_some h
    refine am_r_call (show am_stepn X T_Boat_trySail 10 true (90, [(0, am_pv 30), (1, am_pv 32), (3, am_iv x3), (4, am_iv s0)], [], am_SH, (J, K, am_RF b)) = some (((decide (0 < (8 : Int) ∧ am_i32 8) && decide (am_i32 x3)) && true), .inr (.inl (68, [am_pv 32, am_iv (am_dv x3 8), am_iv s0, am_iv ((J 30 3) + 1)], 4, 0, 0, 106, [(0, am_pv 30), (1, am_pv 32), (3, am_iv x3), (4, am_iv s0)], [], am_SH, (J, K, am_RF b)))) from rfl) (am_g2 (by decide) g539 rfl) tb_River_carries (s_River_carries (by decide) e542) ?_
    obtain ⟨g543, h⟩ := am_if_some h
    by_cases c544 : q541 = 0
    · rw [if_pos c544] at h
      refine am_r_f (show am_stepn X T_Boat_trySail 1 true (106, [(0, am_pv 30), (1, am_pv 32), (3, am_iv x3), (4, am_iv s0)], [am_iv q541], am_SH, (J, K, am_RF b)) = some ((decide (am_i32 q541) && true), .inl (bif am_cb .ne q541 0 then 111 else 109, [(0, am_pv 30), (1, am_pv 32), (3, am_iv x3), (4, am_iv s0)], [], am_SH, (J, K, am_RF b))) from rfl) (am_g1 g543 rfl) (am_nd_t c544) ?_
      obtain rfl := Option.some.inj h
      exact am_r_ret (show am_stepn X T_Boat_trySail 2 true (109, [(0, am_pv 30), (1, am_pv 32), (3, am_iv x3), (4, am_iv s0)], [], am_SH, (J, K, am_RF b)) = some ((decide ((0 : Int) = 0 ∨ (0 : Int) = 1) && true), .inr (.inr (some (am_iv 0), am_SH, (J, K, am_RF b)))) from rfl) (am_g1 (by decide) rfl)
    · rw [if_neg c544] at h
      refine am_r_t (show am_stepn X T_Boat_trySail 1 true (106, [(0, am_pv 30), (1, am_pv 32), (3, am_iv x3), (4, am_iv s0)], [am_iv q541], am_SH, (J, K, am_RF b)) = some ((decide (am_i32 q541) && true), .inl (bif am_cb .ne q541 0 then 111 else 109, [(0, am_pv 30), (1, am_pv 32), (3, am_iv x3), (4, am_iv s0)], [], am_SH, (J, K, am_RF b))) from rfl) (am_g1 g543 rfl) (am_nd_f c544) ?_
      refine am_r_eq (σ' := (111, [(0, am_pv 30), (3, am_iv x3), (4, am_iv s0)], [], am_SH, (J, K, am_RF b))) rfl ?_
      exact s_Boat_trySail_L111_30_32_  _ _ _ _ h
  · rw [if_neg c540] at h
    refine am_r_t (show am_stepn X T_Boat_trySail 1 true (87, [(0, am_pv 30), (1, am_pv 32), (3, am_iv x3), (4, am_iv s0)], [am_iv q536, am_iv x3], am_SH, (J, K, am_RF b)) = some (((decide (am_i32 q536) && decide (am_i32 x3)) && true), .inl (bif am_cb .ge x3 q536 then 111 else 90, [(0, am_pv 30), (1, am_pv 32), (3, am_iv x3), (4, am_iv s0)], [], am_SH, (J, K, am_RF b))) from rfl) (am_g2 g538 g539 rfl) (am_nd_f c540) ?_
    refine am_r_eq (σ' := (111, [(0, am_pv 30), (3, am_iv x3), (4, am_iv s0)], [], am_SH, (J, K, am_RF b))) rfl ?_
    exact s_Boat_trySail_L111_30_32_  _ _ _ _ h
theorem s_Boat_trySail_30_32_ {X : am_X} {b : Bool} {K : am_K} {J : am_J} {r : Int × am_J} (h : f_Boat_trySail 30 32 J = some r) : am_runs X T_Boat_trySail (0, [(0, am_pv 30), (1, am_pv 32)], [], am_SH, (J, K, am_RF b)) (some (am_iv r.1), am_SH, (r.2, K, am_RF b)) := by
  unfold f_Boat_trySail at h
  obtain ⟨g545, h⟩ := am_if_some h
  by_cases c546 : (J 30 3) < 300
  · rw [if_pos c546] at h
    refine am_r_f (show am_stepn X T_Boat_trySail 4 true (0, [(0, am_pv 30), (1, am_pv 32)], [], am_SH, (J, K, am_RF b)) = some (((decide (am_i32 300) && decide (am_i32 (J 30 3))) && true), .inl (bif am_cb .ge (J 30 3) 300 then 18 else 10, [(0, am_pv 30), (1, am_pv 32)], [], am_SH, (J, K, am_RF b))) from rfl) (am_g2 (by decide) g545 rfl) (am_nd_t c546) ?_
    obtain ⟨q547, e548, h⟩ := am_bind_some h
    refine am_r_call (show am_stepn X T_Boat_trySail 3 true (10, [(0, am_pv 30), (1, am_pv 32)], [], am_SH, (J, K, am_RF b)) = some (true, .inr (.inl (74, [am_pv 30, am_pv 32], 2, 0, 0, 15, [(0, am_pv 30), (1, am_pv 32)], [], am_SH, (J, K, am_RF b)))) from rfl) rfl tb_Boat_isAfloat (s_Boat_isAfloat (by decide) e548) ?_
    obtain ⟨g549, h⟩ := am_if_some h
    by_cases c550 : q547 = 0
    · rw [if_pos c550] at h
      refine am_r_f (show am_stepn X T_Boat_trySail 1 true (15, [(0, am_pv 30), (1, am_pv 32)], [am_iv q547], am_SH, (J, K, am_RF b)) = some ((decide (am_i32 q547) && true), .inl (bif am_cb .ne q547 0 then 20 else 18, [(0, am_pv 30), (1, am_pv 32)], [], am_SH, (J, K, am_RF b))) from rfl) (am_g1 g549 rfl) (am_nd_t c550) ?_
      obtain rfl := Option.some.inj h
      exact am_r_ret (show am_stepn X T_Boat_trySail 2 true (18, [(0, am_pv 30), (1, am_pv 32)], [], am_SH, (J, K, am_RF b)) = some ((decide ((0 : Int) = 0 ∨ (0 : Int) = 1) && true), .inr (.inr (some (am_iv 0), am_SH, (J, K, am_RF b)))) from rfl) (am_g1 (by decide) rfl)
    · rw [if_neg c550] at h
      refine am_r_t (show am_stepn X T_Boat_trySail 1 true (15, [(0, am_pv 30), (1, am_pv 32)], [am_iv q547], am_SH, (J, K, am_RF b)) = some ((decide (am_i32 q547) && true), .inl (bif am_cb .ne q547 0 then 20 else 18, [(0, am_pv 30), (1, am_pv 32)], [], am_SH, (J, K, am_RF b))) from rfl) (am_g1 g549 rfl) (am_nd_f c550) ?_
      obtain ⟨g551, h⟩ := am_if_some h
      obtain ⟨q552, e553, h⟩ := am_bind_some h
      refine am_r_call (show am_stepn X T_Boat_trySail 13 true (20, [(0, am_pv 30), (1, am_pv 32)], [], am_SH, (J, K, am_RF b)) = some (((decide (0 < (8 : Int) ∧ am_i32 8) && decide (am_i32 (J 30 0))) && true), .inr (.inl (58, [am_pv 32, am_iv (am_dv (J 30 0) 8), am_iv (J 30 2)], 4, 0, 0, 42, [(0, am_pv 30), (1, am_pv 32), (2, am_iv (am_dv (J 30 0) 8))], [am_iv (J 30 0), am_iv 0], am_SH, (J, K, am_RF b)))) from rfl) (am_g2 (by decide) g551 rfl) tb_River_wayOn (s_River_wayOn (by decide) e553) ?_
      obtain ⟨q554, e555, h⟩ := am_bind_some h
      refine am_r_call (show am_stepn X T_Boat_trySail 8 true (42, [(0, am_pv 30), (1, am_pv 32), (2, am_iv (am_dv (J 30 0) 8))], [am_iv q552, am_iv (J 30 0), am_iv 0], am_SH, (J, K, am_RF b)) = some (true, .inr (.inl (61, [am_pv 32, am_iv (am_dv (J 30 0) 8), am_iv (J 30 1), am_iv (J 30 3)], 5, 0, 0, 56, [(0, am_pv 30), (1, am_pv 32), (2, am_iv (am_dv (J 30 0) 8))], [am_iv ((J 30 0) + q552), am_iv 0], am_SH, (J, K, am_RF b)))) from rfl) rfl tb_River_flowAt (s_River_flowAt (by decide) e555) ?_
      obtain ⟨q556, e557, h⟩ := am_bind_some h
      refine am_r_call (show am_stepn X T_Boat_trySail 2 true (56, [(0, am_pv 30), (1, am_pv 32), (2, am_iv (am_dv (J 30 0) 8))], [am_iv q554, am_iv ((J 30 0) + q552), am_iv 0], am_SH, (J, K, am_RF b)) = some (true, .inr (.inl (48, [am_iv 0, am_iv (((J 30 0) + q552) + q554)], 2, 0, 0, 60, [(0, am_pv 30), (1, am_pv 32), (2, am_iv (am_dv (J 30 0) 8))], [], am_SH, (J, K, am_RF b)))) from rfl) rfl tb_JMath_max (s_JMath_max e557) ?_
      obtain ⟨q558, e559, h⟩ := am_bind_some h
      refine am_r_call (show am_stepn X T_Boat_trySail 4 true (60, [(0, am_pv 30), (1, am_pv 32), (2, am_iv (am_dv (J 30 0) 8))], [am_iv q556], am_SH, (J, K, am_RF b)) = some (true, .inr (.inl (72, [am_pv 32], 1, 0, 0, 66, [(0, am_pv 30), (1, am_pv 32), (2, am_iv (am_dv (J 30 0) 8)), (3, am_iv q556)], [am_iv q556], am_SH, (J, K, am_RF b)))) from rfl) rfl tb_River_top (s_River_top (by decide) e559) ?_
      obtain ⟨g560, h⟩ := am_if_some h
      obtain ⟨g561, h⟩ := am_if_some h
      by_cases c562 : q556 < q558
      · rw [if_pos c562] at h
        refine am_r_t (show am_stepn X T_Boat_trySail 1 true (66, [(0, am_pv 30), (1, am_pv 32), (2, am_iv (am_dv (J 30 0) 8)), (3, am_iv q556)], [am_iv q558, am_iv q556], am_SH, (J, K, am_RF b)) = some (((decide (am_i32 q558) && decide (am_i32 q556)) && true), .inl (bif am_cb .lt q556 q558 then 76 else 69, [(0, am_pv 30), (1, am_pv 32), (2, am_iv (am_dv (J 30 0) 8)), (3, am_iv q556)], [], am_SH, (J, K, am_RF b))) from rfl) (am_g2 g560 g561 rfl) (decide_eq_true c562) ?_
        obtain ⟨q563, e564, h⟩ := am_bind_some h
        refine am_r_call (show am_stepn X T_Boat_trySail 2 true (76, [(0, am_pv 30), (1, am_pv 32), (2, am_iv (am_dv (J 30 0) 8)), (3, am_iv q556)], [], am_SH, (J, K, am_RF b)) = some (true, .inr (.inl (75, [am_pv 30], 1, 0, 0, 80, [(0, am_pv 30), (1, am_pv 32), (3, am_iv q556)], [], am_SH, (J, K, am_RF b)))) from rfl) rfl tb_Boat_laneAhead (s_Boat_laneAhead (by decide) e564) ?_
        exact s_Boat_trySail_L80_30_32_  _ _ _ _ h
      · rw [if_neg c562] at h
        refine am_r_f (show am_stepn X T_Boat_trySail 1 true (66, [(0, am_pv 30), (1, am_pv 32), (2, am_iv (am_dv (J 30 0) 8)), (3, am_iv q556)], [am_iv q558, am_iv q556], am_SH, (J, K, am_RF b)) = some (((decide (am_i32 q558) && decide (am_i32 q556)) && true), .inl (bif am_cb .lt q556 q558 then 76 else 69, [(0, am_pv 30), (1, am_pv 32), (2, am_iv (am_dv (J 30 0) 8)), (3, am_iv q556)], [], am_SH, (J, K, am_RF b))) from rfl) (am_g2 g560 g561 rfl) (decide_eq_false c562) ?_
        refine am_r_go (show am_stepn X T_Boat_trySail 3 true (69, [(0, am_pv 30), (1, am_pv 32), (2, am_iv (am_dv (J 30 0) 8)), (3, am_iv q556)], [], am_SH, (J, K, am_RF b)) = some (true, .inl (80, [(0, am_pv 30), (1, am_pv 32), (3, am_iv q556)], [am_iv (J 30 1)], am_SH, (J, K, am_RF b))) from rfl) rfl ?_
        exact s_Boat_trySail_L80_30_32_  _ _ _ _ h
  · rw [if_neg c546] at h
    refine am_r_t (show am_stepn X T_Boat_trySail 4 true (0, [(0, am_pv 30), (1, am_pv 32)], [], am_SH, (J, K, am_RF b)) = some (((decide (am_i32 300) && decide (am_i32 (J 30 3))) && true), .inl (bif am_cb .ge (J 30 3) 300 then 18 else 10, [(0, am_pv 30), (1, am_pv 32)], [], am_SH, (J, K, am_RF b))) from rfl) (am_g2 (by decide) g545 rfl) (am_nd_f c546) ?_
    obtain rfl := Option.some.inj h
    exact am_r_ret (show am_stepn X T_Boat_trySail 2 true (18, [(0, am_pv 30), (1, am_pv 32)], [], am_SH, (J, K, am_RF b)) = some ((decide ((0 : Int) = 0 ∨ (0 : Int) = 1) && true), .inr (.inr (some (am_iv 0), am_SH, (J, K, am_RF b)))) from rfl) (am_g1 (by decide) rfl)
theorem s_Boat_trySail_L111_30_6_ {X : am_X} {b : Bool} {K : am_K}  : ∀ (x3 : Int) (x4 : Int) (J : am_J) (r : Int × am_J), f_Boat_trySail_L111 30 6   x3 x4 J = some r → am_runs X T_Boat_trySail (111, [(0, am_pv 30), (3, am_iv x3), (4, am_iv x4)], [], am_SH, (J, K, am_RF b)) (some (am_iv r.1), am_SH, (r.2, K, am_RF b)) := by
  intro x3 x4 J r h
  unfold f_Boat_trySail_L111 at h
  obtain rfl := Option.some.inj h
  exact am_r_ret (show am_stepn X T_Boat_trySail 20 true (111, [(0, am_pv 30), (3, am_iv x3), (4, am_iv x4)], [], am_SH, (J, K, am_RF b)) = some ((decide ((1 : Int) = 0 ∨ (1 : Int) = 1) && true), .inr (.inr (some (am_iv 1), am_SH, ((am_up (am_up (am_up (am_up J 30 0 x3) 30 1 x4) 30 3 ((J 30 3) + 1)) 30 5 ((J 30 5) + 1)), K, am_RF b)))) from rfl) (am_g1 (by decide) rfl)
theorem s_Boat_trySail_L80_30_6_ {X : am_X} {b : Bool} {K : am_K}  : ∀ (x3 : Int) (s0 : Int) (J : am_J) (r : Int × am_J), f_Boat_trySail_L80 30 6   x3 s0 J = some r → am_runs X T_Boat_trySail (80, [(0, am_pv 30), (1, am_pv 6), (3, am_iv x3)], [am_iv s0], am_SH, (J, K, am_RF b)) (some (am_iv r.1), am_SH, (r.2, K, am_RF b)) := by
  intro x3 s0 J r h
  unfold f_Boat_trySail_L80 at h
  obtain ⟨q536, e537, h⟩ := am_bind_some h
  refine am_r_call (show am_stepn X T_Boat_trySail 4 true (80, [(0, am_pv 30), (1, am_pv 6), (3, am_iv x3)], [am_iv s0], am_SH, (J, K, am_RF b)) = some (true, .inr (.inl (72, [am_pv 6], 1, 0, 0, 87, [(0, am_pv 30), (1, am_pv 6), (3, am_iv x3), (4, am_iv s0)], [am_iv x3], am_SH, (J, K, am_RF b)))) from rfl) rfl tb_River_top (s_River_top (by decide) e537) ?_
  obtain ⟨g538, h⟩ := am_if_some h
  obtain ⟨g539, h⟩ := am_if_some h
  by_cases c540 : x3 < q536
  · rw [if_pos c540] at h
    refine am_r_f (show am_stepn X T_Boat_trySail 1 true (87, [(0, am_pv 30), (1, am_pv 6), (3, am_iv x3), (4, am_iv s0)], [am_iv q536, am_iv x3], am_SH, (J, K, am_RF b)) = some (((decide (am_i32 q536) && decide (am_i32 x3)) && true), .inl (bif am_cb .ge x3 q536 then 111 else 90, [(0, am_pv 30), (1, am_pv 6), (3, am_iv x3), (4, am_iv s0)], [], am_SH, (J, K, am_RF b))) from rfl) (am_g2 g538 g539 rfl) (am_nd_t c540) ?_
    obtain ⟨q541, e542, h⟩ := am_bind_some h
    refine am_r_call (show am_stepn X T_Boat_trySail 10 true (90, [(0, am_pv 30), (1, am_pv 6), (3, am_iv x3), (4, am_iv s0)], [], am_SH, (J, K, am_RF b)) = some (((decide (0 < (8 : Int) ∧ am_i32 8) && decide (am_i32 x3)) && true), .inr (.inl (68, [am_pv 6, am_iv (am_dv x3 8), am_iv s0, am_iv ((J 30 3) + 1)], 4, 0, 0, 106, [(0, am_pv 30), (1, am_pv 6), (3, am_iv x3), (4, am_iv s0)], [], am_SH, (J, K, am_RF b)))) from rfl) (am_g2 (by decide) g539 rfl) tb_River_carries (s_River_carries (by decide) e542) ?_
    obtain ⟨g543, h⟩ := am_if_some h
    by_cases c544 : q541 = 0
    · rw [if_pos c544] at h
      refine am_r_f (show am_stepn X T_Boat_trySail 1 true (106, [(0, am_pv 30), (1, am_pv 6), (3, am_iv x3), (4, am_iv s0)], [am_iv q541], am_SH, (J, K, am_RF b)) = some ((decide (am_i32 q541) && true), .inl (bif am_cb .ne q541 0 then 111 else 109, [(0, am_pv 30), (1, am_pv 6), (3, am_iv x3), (4, am_iv s0)], [], am_SH, (J, K, am_RF b))) from rfl) (am_g1 g543 rfl) (am_nd_t c544) ?_
      obtain rfl := Option.some.inj h
      exact am_r_ret (show am_stepn X T_Boat_trySail 2 true (109, [(0, am_pv 30), (1, am_pv 6), (3, am_iv x3), (4, am_iv s0)], [], am_SH, (J, K, am_RF b)) = some ((decide ((0 : Int) = 0 ∨ (0 : Int) = 1) && true), .inr (.inr (some (am_iv 0), am_SH, (J, K, am_RF b)))) from rfl) (am_g1 (by decide) rfl)
    · rw [if_neg c544] at h
      refine am_r_t (show am_stepn X T_Boat_trySail 1 true (106, [(0, am_pv 30), (1, am_pv 6), (3, am_iv x3), (4, am_iv s0)], [am_iv q541], am_SH, (J, K, am_RF b)) = some ((decide (am_i32 q541) && true), .inl (bif am_cb .ne q541 0 then 111 else 109, [(0, am_pv 30), (1, am_pv 6), (3, am_iv x3), (4, am_iv s0)], [], am_SH, (J, K, am_RF b))) from rfl) (am_g1 g543 rfl) (am_nd_f c544) ?_
      refine am_r_eq (σ' := (111, [(0, am_pv 30), (3, am_iv x3), (4, am_iv s0)], [], am_SH, (J, K, am_RF b))) rfl ?_
      exact s_Boat_trySail_L111_30_6_  _ _ _ _ h
  · rw [if_neg c540] at h
    refine am_r_t (show am_stepn X T_Boat_trySail 1 true (87, [(0, am_pv 30), (1, am_pv 6), (3, am_iv x3), (4, am_iv s0)], [am_iv q536, am_iv x3], am_SH, (J, K, am_RF b)) = some (((decide (am_i32 q536) && decide (am_i32 x3)) && true), .inl (bif am_cb .ge x3 q536 then 111 else 90, [(0, am_pv 30), (1, am_pv 6), (3, am_iv x3), (4, am_iv s0)], [], am_SH, (J, K, am_RF b))) from rfl) (am_g2 g538 g539 rfl) (am_nd_f c540) ?_
    refine am_r_eq (σ' := (111, [(0, am_pv 30), (3, am_iv x3), (4, am_iv s0)], [], am_SH, (J, K, am_RF b))) rfl ?_
    exact s_Boat_trySail_L111_30_6_  _ _ _ _ h
theorem s_Boat_trySail_30_6_ {X : am_X} {b : Bool} {K : am_K} {J : am_J} {r : Int × am_J} (h : f_Boat_trySail 30 6 J = some r) : am_runs X T_Boat_trySail (0, [(0, am_pv 30), (1, am_pv 6)], [], am_SH, (J, K, am_RF b)) (some (am_iv r.1), am_SH, (r.2, K, am_RF b)) := by
  unfold f_Boat_trySail at h
  obtain ⟨g545, h⟩ := am_if_some h
  by_cases c546 : (J 30 3) < 300
  · rw [if_pos c546] at h
    refine am_r_f (show am_stepn X T_Boat_trySail 4 true (0, [(0, am_pv 30), (1, am_pv 6)], [], am_SH, (J, K, am_RF b)) = some (((decide (am_i32 300) && decide (am_i32 (J 30 3))) && true), .inl (bif am_cb .ge (J 30 3) 300 then 18 else 10, [(0, am_pv 30), (1, am_pv 6)], [], am_SH, (J, K, am_RF b))) from rfl) (am_g2 (by decide) g545 rfl) (am_nd_t c546) ?_
    obtain ⟨q547, e548, h⟩ := am_bind_some h
    refine am_r_call (show am_stepn X T_Boat_trySail 3 true (10, [(0, am_pv 30), (1, am_pv 6)], [], am_SH, (J, K, am_RF b)) = some (true, .inr (.inl (74, [am_pv 30, am_pv 6], 2, 0, 0, 15, [(0, am_pv 30), (1, am_pv 6)], [], am_SH, (J, K, am_RF b)))) from rfl) rfl tb_Boat_isAfloat (s_Boat_isAfloat (by decide) e548) ?_
    obtain ⟨g549, h⟩ := am_if_some h
    by_cases c550 : q547 = 0
    · rw [if_pos c550] at h
      refine am_r_f (show am_stepn X T_Boat_trySail 1 true (15, [(0, am_pv 30), (1, am_pv 6)], [am_iv q547], am_SH, (J, K, am_RF b)) = some ((decide (am_i32 q547) && true), .inl (bif am_cb .ne q547 0 then 20 else 18, [(0, am_pv 30), (1, am_pv 6)], [], am_SH, (J, K, am_RF b))) from rfl) (am_g1 g549 rfl) (am_nd_t c550) ?_
      obtain rfl := Option.some.inj h
      exact am_r_ret (show am_stepn X T_Boat_trySail 2 true (18, [(0, am_pv 30), (1, am_pv 6)], [], am_SH, (J, K, am_RF b)) = some ((decide ((0 : Int) = 0 ∨ (0 : Int) = 1) && true), .inr (.inr (some (am_iv 0), am_SH, (J, K, am_RF b)))) from rfl) (am_g1 (by decide) rfl)
    · rw [if_neg c550] at h
      refine am_r_t (show am_stepn X T_Boat_trySail 1 true (15, [(0, am_pv 30), (1, am_pv 6)], [am_iv q547], am_SH, (J, K, am_RF b)) = some ((decide (am_i32 q547) && true), .inl (bif am_cb .ne q547 0 then 20 else 18, [(0, am_pv 30), (1, am_pv 6)], [], am_SH, (J, K, am_RF b))) from rfl) (am_g1 g549 rfl) (am_nd_f c550) ?_
      obtain ⟨g551, h⟩ := am_if_some h
      obtain ⟨q552, e553, h⟩ := am_bind_some h
      refine am_r_call (show am_stepn X T_Boat_trySail 13 true (20, [(0, am_pv 30), (1, am_pv 6)], [], am_SH, (J, K, am_RF b)) = some (((decide (0 < (8 : Int) ∧ am_i32 8) && decide (am_i32 (J 30 0))) && true), .inr (.inl (58, [am_pv 6, am_iv (am_dv (J 30 0) 8), am_iv (J 30 2)], 4, 0, 0, 42, [(0, am_pv 30), (1, am_pv 6), (2, am_iv (am_dv (J 30 0) 8))], [am_iv (J 30 0), am_iv 0], am_SH, (J, K, am_RF b)))) from rfl) (am_g2 (by decide) g551 rfl) tb_River_wayOn (s_River_wayOn (by decide) e553) ?_
      obtain ⟨q554, e555, h⟩ := am_bind_some h
      refine am_r_call (show am_stepn X T_Boat_trySail 8 true (42, [(0, am_pv 30), (1, am_pv 6), (2, am_iv (am_dv (J 30 0) 8))], [am_iv q552, am_iv (J 30 0), am_iv 0], am_SH, (J, K, am_RF b)) = some (true, .inr (.inl (61, [am_pv 6, am_iv (am_dv (J 30 0) 8), am_iv (J 30 1), am_iv (J 30 3)], 5, 0, 0, 56, [(0, am_pv 30), (1, am_pv 6), (2, am_iv (am_dv (J 30 0) 8))], [am_iv ((J 30 0) + q552), am_iv 0], am_SH, (J, K, am_RF b)))) from rfl) rfl tb_River_flowAt (s_River_flowAt (by decide) e555) ?_
      obtain ⟨q556, e557, h⟩ := am_bind_some h
      refine am_r_call (show am_stepn X T_Boat_trySail 2 true (56, [(0, am_pv 30), (1, am_pv 6), (2, am_iv (am_dv (J 30 0) 8))], [am_iv q554, am_iv ((J 30 0) + q552), am_iv 0], am_SH, (J, K, am_RF b)) = some (true, .inr (.inl (48, [am_iv 0, am_iv (((J 30 0) + q552) + q554)], 2, 0, 0, 60, [(0, am_pv 30), (1, am_pv 6), (2, am_iv (am_dv (J 30 0) 8))], [], am_SH, (J, K, am_RF b)))) from rfl) rfl tb_JMath_max (s_JMath_max e557) ?_
      obtain ⟨q558, e559, h⟩ := am_bind_some h
      refine am_r_call (show am_stepn X T_Boat_trySail 4 true (60, [(0, am_pv 30), (1, am_pv 6), (2, am_iv (am_dv (J 30 0) 8))], [am_iv q556], am_SH, (J, K, am_RF b)) = some (true, .inr (.inl (72, [am_pv 6], 1, 0, 0, 66, [(0, am_pv 30), (1, am_pv 6), (2, am_iv (am_dv (J 30 0) 8)), (3, am_iv q556)], [am_iv q556], am_SH, (J, K, am_RF b)))) from rfl) rfl tb_River_top (s_River_top (by decide) e559) ?_
      obtain ⟨g560, h⟩ := am_if_some h
      obtain ⟨g561, h⟩ := am_if_some h
      by_cases c562 : q556 < q558
      · rw [if_pos c562] at h
        refine am_r_t (show am_stepn X T_Boat_trySail 1 true (66, [(0, am_pv 30), (1, am_pv 6), (2, am_iv (am_dv (J 30 0) 8)), (3, am_iv q556)], [am_iv q558, am_iv q556], am_SH, (J, K, am_RF b)) = some (((decide (am_i32 q558) && decide (am_i32 q556)) && true), .inl (bif am_cb .lt q556 q558 then 76 else 69, [(0, am_pv 30), (1, am_pv 6), (2, am_iv (am_dv (J 30 0) 8)), (3, am_iv q556)], [], am_SH, (J, K, am_RF b))) from rfl) (am_g2 g560 g561 rfl) (decide_eq_true c562) ?_
        obtain ⟨q563, e564, h⟩ := am_bind_some h
        refine am_r_call (show am_stepn X T_Boat_trySail 2 true (76, [(0, am_pv 30), (1, am_pv 6), (2, am_iv (am_dv (J 30 0) 8)), (3, am_iv q556)], [], am_SH, (J, K, am_RF b)) = some (true, .inr (.inl (75, [am_pv 30], 1, 0, 0, 80, [(0, am_pv 30), (1, am_pv 6), (3, am_iv q556)], [], am_SH, (J, K, am_RF b)))) from rfl) rfl tb_Boat_laneAhead (s_Boat_laneAhead (by decide) e564) ?_
        exact s_Boat_trySail_L80_30_6_  _ _ _ _ h
      · rw [if_neg c562] at h
        refine am_r_f (show am_stepn X T_Boat_trySail 1 true (66, [(0, am_pv 30), (1, am_pv 6), (2, am_iv (am_dv (J 30 0) 8)), (3, am_iv q556)], [am_iv q558, am_iv q556], am_SH, (J, K, am_RF b)) = some (((decide (am_i32 q558) && decide (am_i32 q556)) && true), .inl (bif am_cb .lt q556 q558 then 76 else 69, [(0, am_pv 30), (1, am_pv 6), (2, am_iv (am_dv (J 30 0) 8)), (3, am_iv q556)], [], am_SH, (J, K, am_RF b))) from rfl) (am_g2 g560 g561 rfl) (decide_eq_false c562) ?_
        refine am_r_go (show am_stepn X T_Boat_trySail 3 true (69, [(0, am_pv 30), (1, am_pv 6), (2, am_iv (am_dv (J 30 0) 8)), (3, am_iv q556)], [], am_SH, (J, K, am_RF b)) = some (true, .inl (80, [(0, am_pv 30), (1, am_pv 6), (3, am_iv q556)], [am_iv (J 30 1)], am_SH, (J, K, am_RF b))) from rfl) rfl ?_
        exact s_Boat_trySail_L80_30_6_  _ _ _ _ h
  · rw [if_neg c546] at h
    refine am_r_t (show am_stepn X T_Boat_trySail 4 true (0, [(0, am_pv 30), (1, am_pv 6)], [], am_SH, (J, K, am_RF b)) = some (((decide (am_i32 300) && decide (am_i32 (J 30 3))) && true), .inl (bif am_cb .ge (J 30 3) 300 then 18 else 10, [(0, am_pv 30), (1, am_pv 6)], [], am_SH, (J, K, am_RF b))) from rfl) (am_g2 (by decide) g545 rfl) (am_nd_f c546) ?_
    obtain rfl := Option.some.inj h
    exact am_r_ret (show am_stepn X T_Boat_trySail 2 true (18, [(0, am_pv 30), (1, am_pv 6)], [], am_SH, (J, K, am_RF b)) = some ((decide ((0 : Int) = 0 ∨ (0 : Int) = 1) && true), .inr (.inr (some (am_iv 0), am_SH, (J, K, am_RF b)))) from rfl) (am_g1 (by decide) rfl)
theorem s_Boat_trySail {X : am_X} {b : Bool} {o1 : Nat} {o2 : Nat} (ho : (o1 = 18 ∧ o2 = 32) ∨ (o1 = 18 ∧ o2 = 6) ∨ (o1 = 29 ∧ o2 = 32) ∨ (o1 = 29 ∧ o2 = 6) ∨ (o1 = 30 ∧ o2 = 32) ∨ (o1 = 30 ∧ o2 = 6)) {K : am_K} {J : am_J} {r : Int × am_J} (h : f_Boat_trySail o1 o2 J = some r) : am_runs X T_Boat_trySail (0, [(0, am_pv o1), (1, am_pv o2)], [], am_SH, (J, K, am_RF b)) (some (am_iv r.1), am_SH, (r.2, K, am_RF b)) := by
  rcases ho with ⟨rfl, rfl⟩ | ⟨rfl, rfl⟩ | ⟨rfl, rfl⟩ | ⟨rfl, rfl⟩ | ⟨rfl, rfl⟩ | ⟨rfl, rfl⟩
  · skip
    exact s_Boat_trySail_18_32_ h
  · skip
    exact s_Boat_trySail_18_6_ h
  · skip
    exact s_Boat_trySail_29_32_ h
  · skip
    exact s_Boat_trySail_29_6_ h
  · skip
    exact s_Boat_trySail_30_32_ h
  · skip
    exact s_Boat_trySail_30_6_ h
