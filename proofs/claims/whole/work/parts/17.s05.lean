theorem s_Search_leave_L143_32_ {X : am_X} {b : Bool}  : ∀ (n : Nat) (x2 : Int) (x3 : Int) (x4 : Int) (x8 : Int) (x9 : Int) (y10 : Int64) (y12 : Int64) (y14 : Int64) (x16 : Int) (J : am_J) (K : am_K) (r : am_J × am_K), f_Search_leave_L143 32  n x2 x3 x4 x8 x9 y10 y12 y14 x16 J K = some r → am_runs X T_Search_leave (143, [(0, am_pv 26), (1, am_pv 32), (2, am_iv x2), (3, am_iv x3), (4, am_iv x4), (8, am_iv x8), (9, am_iv x9), (10, am_jv y10), (12, am_jv y12), (14, am_jv y14), (16, am_iv x16)], [], am_SH, (J, K, am_RF b)) (none, am_SH, (r.1, r.2, am_RF b)) := by
  intro n
  induction n with
  | zero =>
    intro x2 x3 x4 x8 x9 y10 y12 y14 x16 J K r h
    cases h
  | succ n ih =>
    intro x2 x3 x4 x8 x9 y10 y12 y14 x16 J K r h
    rw [f_Search_leave_L143.eq_2] at h
    obtain ⟨g731, h⟩ := am_if_some h
    obtain ⟨g732, h⟩ := am_if_some h
    by_cases c733 : x16 < (J (32 + 1) 0)
    · rw [if_pos c733] at h
      refine am_r_f (show am_stepn X T_Search_leave 6 true (143, [(0, am_pv 26), (1, am_pv 32), (2, am_iv x2), (3, am_iv x3), (4, am_iv x4), (8, am_iv x8), (9, am_iv x9), (10, am_jv y10), (12, am_jv y12), (14, am_jv y14), (16, am_iv x16)], [], am_SH, (J, K, am_RF b)) = some (((decide (am_i32 (J (32 + 1) 0)) && decide (am_i32 x16)) && (am_in 0 7 && true)), .inl (bif am_cb .ge x16 (J (32 + 1) 0) then 284 else 154, [(0, am_pv 26), (1, am_pv 32), (2, am_iv x2), (3, am_iv x3), (4, am_iv x4), (8, am_iv x8), (9, am_iv x9), (10, am_jv y10), (12, am_jv y12), (14, am_jv y14), (16, am_iv x16)], [], am_SH, (J, K, am_RF b))) from rfl) (am_g2 g731 g732 (am_gi (by decide) rfl)) (am_nd_t c733) ?_
      obtain ⟨g734, h⟩ := am_if_some h
      by_cases c735 : (am_lcmp (y10 &&& (am_lshl (255 : Int64) (x16 * 8))) (0 : Int64)) = 0
      · rw [if_pos c735] at h
        refine am_r_t (show am_stepn X T_Search_leave 12 true (154, [(0, am_pv 26), (1, am_pv 32), (2, am_iv x2), (3, am_iv x3), (4, am_iv x4), (8, am_iv x8), (9, am_iv x9), (10, am_jv y10), (12, am_jv y12), (14, am_jv y14), (16, am_iv x16)], [], am_SH, (J, K, am_RF b)) = some ((decide (am_i32 (am_lcmp (y10 &&& (am_lshl (255 : Int64) (x16 * 8))) (0 : Int64))) && true), .inl (bif am_cb .eq (am_lcmp (y10 &&& (am_lshl (255 : Int64) (x16 * 8))) (0 : Int64)) 0 then 278 else 175, [(0, am_pv 26), (1, am_pv 32), (2, am_iv x2), (3, am_iv x3), (4, am_iv x4), (8, am_iv x8), (9, am_iv x9), (10, am_jv y10), (12, am_jv y12), (14, am_jv y14), (16, am_iv x16), (17, am_jv (y10 &&& (am_lshl (255 : Int64) (x16 * 8))))], [], am_SH, (J, K, am_RF b))) from rfl) (am_g1 g734 rfl) (decide_eq_true c735) ?_
        refine am_r_go (show am_stepn X T_Search_leave 2 true (278, [(0, am_pv 26), (1, am_pv 32), (2, am_iv x2), (3, am_iv x3), (4, am_iv x4), (8, am_iv x8), (9, am_iv x9), (10, am_jv y10), (12, am_jv y12), (14, am_jv y14), (16, am_iv x16), (17, am_jv (y10 &&& (am_lshl (255 : Int64) (x16 * 8))))], [], am_SH, (J, K, am_RF b)) = some (true, .inl (143, [(0, am_pv 26), (1, am_pv 32), (2, am_iv x2), (3, am_iv x3), (4, am_iv x4), (8, am_iv x8), (9, am_iv x9), (10, am_jv y10), (12, am_jv y12), (14, am_jv y14), (16, am_iv (x16 + 1))], [], am_SH, (J, K, am_RF b))) from rfl) rfl ?_
        exact ih _ _ _ _ _ _ _ _ _ _ _ _ h
      · rw [if_neg c735] at h
        refine am_r_f (show am_stepn X T_Search_leave 12 true (154, [(0, am_pv 26), (1, am_pv 32), (2, am_iv x2), (3, am_iv x3), (4, am_iv x4), (8, am_iv x8), (9, am_iv x9), (10, am_jv y10), (12, am_jv y12), (14, am_jv y14), (16, am_iv x16)], [], am_SH, (J, K, am_RF b)) = some ((decide (am_i32 (am_lcmp (y10 &&& (am_lshl (255 : Int64) (x16 * 8))) (0 : Int64))) && true), .inl (bif am_cb .eq (am_lcmp (y10 &&& (am_lshl (255 : Int64) (x16 * 8))) (0 : Int64)) 0 then 278 else 175, [(0, am_pv 26), (1, am_pv 32), (2, am_iv x2), (3, am_iv x3), (4, am_iv x4), (8, am_iv x8), (9, am_iv x9), (10, am_jv y10), (12, am_jv y12), (14, am_jv y14), (16, am_iv x16), (17, am_jv (y10 &&& (am_lshl (255 : Int64) (x16 * 8))))], [], am_SH, (J, K, am_RF b))) from rfl) (am_g1 g734 rfl) (decide_eq_false c735) ?_
        obtain ⟨q736, e737, h⟩ := am_bind_some h
        refine am_r_call (show am_stepn X T_Search_leave 8 true (175, [(0, am_pv 26), (1, am_pv 32), (2, am_iv x2), (3, am_iv x3), (4, am_iv x4), (8, am_iv x8), (9, am_iv x9), (10, am_jv y10), (12, am_jv y12), (14, am_jv y14), (16, am_iv x16), (17, am_jv (y10 &&& (am_lshl (255 : Int64) (x16 * 8))))], [], am_SH, (J, K, am_RF b)) = some (true, .inr (.inl (61, [am_pv 32, am_iv x16, am_iv x2, am_iv (x4 - (J 26 1))], 5, 0, 0, 189, [(0, am_pv 26), (1, am_pv 32), (2, am_iv x2), (3, am_iv x3), (4, am_iv x4), (8, am_iv x8), (9, am_iv x9), (10, am_jv y10), (12, am_jv y12), (14, am_jv y14), (16, am_iv x16), (17, am_jv (y10 &&& (am_lshl (255 : Int64) (x16 * 8))))], [], am_SH, (J, K, am_RF b)))) from rfl) rfl tb_River_flowAt (s_River_flowAt (by decide) e737) ?_
        obtain ⟨q738, e739, h⟩ := am_bind_some h
        refine am_r_call (show am_stepn X T_Search_leave 5 true (189, [(0, am_pv 26), (1, am_pv 32), (2, am_iv x2), (3, am_iv x3), (4, am_iv x4), (8, am_iv x8), (9, am_iv x9), (10, am_jv y10), (12, am_jv y12), (14, am_jv y14), (16, am_iv x16), (17, am_jv (y10 &&& (am_lshl (255 : Int64) (x16 * 8))))], [am_iv q736], am_SH, (J, K, am_RF b)) = some (true, .inr (.inl (58, [am_pv 32, am_iv x16, am_iv x3], 4, 0, 0, 198, [(0, am_pv 26), (1, am_pv 32), (2, am_iv x2), (3, am_iv x3), (4, am_iv x4), (8, am_iv x8), (9, am_iv x9), (10, am_jv y10), (12, am_jv y12), (14, am_jv y14), (16, am_iv x16), (17, am_jv (y10 &&& (am_lshl (255 : Int64) (x16 * 8)))), (19, am_iv q736)], [], am_SH, (J, K, am_RF b)))) from rfl) rfl tb_River_wayOn (s_River_wayOn (by decide) e739) ?_
        obtain ⟨q740, e741, h⟩ := am_bind_some h
        refine am_r_call (show am_stepn X T_Search_leave 10 true (198, [(0, am_pv 26), (1, am_pv 32), (2, am_iv x2), (3, am_iv x3), (4, am_iv x4), (8, am_iv x8), (9, am_iv x9), (10, am_jv y10), (12, am_jv y12), (14, am_jv y14), (16, am_iv x16), (17, am_jv (y10 &&& (am_lshl (255 : Int64) (x16 * 8)))), (19, am_iv q736)], [am_iv q738], am_SH, (J, K, am_RF b)) = some (true, .inr (.inl (92, [am_pv 26, am_jv (y10 &&& (am_lshl (255 : Int64) (x16 * 8))), am_iv (q738 + q736), am_iv (x4 + 1)], 5, 0, 0, 215, [(0, am_pv 26), (1, am_pv 32), (2, am_iv x2), (3, am_iv x3), (4, am_iv x4), (8, am_iv x8), (9, am_iv x9), (10, am_jv y10), (12, am_jv y12), (14, am_jv y14), (16, am_iv x16), (17, am_jv (y10 &&& (am_lshl (255 : Int64) (x16 * 8)))), (19, am_iv q736), (20, am_iv (q738 + q736))], [], am_SH, (J, K, am_RF b)))) from rfl) rfl tb_Search_noteUp (s_Search_noteUp e741) ?_
        obtain ⟨q742, e743, h⟩ := am_bind_some h
        refine am_r_call (show am_stepn X T_Search_leave 4 true (215, [(0, am_pv 26), (1, am_pv 32), (2, am_iv x2), (3, am_iv x3), (4, am_iv x4), (8, am_iv x8), (9, am_iv x9), (10, am_jv y10), (12, am_jv y12), (14, am_jv y14), (16, am_iv x16), (17, am_jv (y10 &&& (am_lshl (255 : Int64) (x16 * 8)))), (19, am_iv q736), (20, am_iv (q738 + q736))], [], am_SH, (q740, K, am_RF b)) = some (true, .inr (.inl (94, [am_jv (y10 &&& (am_lshl (255 : Int64) (x16 * 8))), am_iv (q738 + q736)], 6, 0, 0, 223, [(0, am_pv 26), (1, am_pv 32), (2, am_iv x2), (3, am_iv x3), (4, am_iv x4), (8, am_iv x8), (9, am_iv x9), (10, am_jv y10), (12, am_jv y12), (14, am_jv y14), (16, am_iv x16), (17, am_jv (y10 &&& (am_lshl (255 : Int64) (x16 * 8)))), (19, am_iv q736), (20, am_iv (q738 + q736))], [am_pv 26], am_SH, (q740, K, am_RF b)))) from rfl) rfl tb_Search_moved (s_Search_moved e743) ?_
        obtain ⟨q744, e745, h⟩ := am_bind_some h
        refine am_r_call (show am_stepn X T_Search_leave 8 true (223, [(0, am_pv 26), (1, am_pv 32), (2, am_iv x2), (3, am_iv x3), (4, am_iv x4), (8, am_iv x8), (9, am_iv x9), (10, am_jv y10), (12, am_jv y12), (14, am_jv y14), (16, am_iv x16), (17, am_jv (y10 &&& (am_lshl (255 : Int64) (x16 * 8)))), (19, am_iv q736), (20, am_iv (q738 + q736))], [am_jv q742, am_pv 26], am_SH, (q740, K, am_RF b)) = some (true, .inr (.inl (95, [am_pv 26, am_jv (q742 &&& y12), am_iv x8, am_iv x3, am_iv (x4 + 1)], 6, 0, 0, 236, [(0, am_pv 26), (1, am_pv 32), (2, am_iv x2), (3, am_iv x3), (4, am_iv x4), (8, am_iv x8), (9, am_iv x9), (10, am_jv y10), (12, am_jv y12), (14, am_jv y14), (16, am_iv x16), (17, am_jv (y10 &&& (am_lshl (255 : Int64) (x16 * 8)))), (19, am_iv q736), (20, am_iv (q738 + q736))], [], am_SH, (q740, K, am_RF b)))) from rfl) rfl tb_Search_land (s_Search_land e745) ?_
        obtain ⟨q746, e747, h⟩ := am_bind_some h
        refine am_r_call (show am_stepn X T_Search_leave 9 true (236, [(0, am_pv 26), (1, am_pv 32), (2, am_iv x2), (3, am_iv x3), (4, am_iv x4), (8, am_iv x8), (9, am_iv x9), (10, am_jv y10), (12, am_jv y12), (14, am_jv y14), (16, am_iv x16), (17, am_jv (y10 &&& (am_lshl (255 : Int64) (x16 * 8)))), (19, am_iv q736), (20, am_iv (q738 + q736))], [], am_SH, (q744.1, q744.2, am_RF b)) = some (true, .inr (.inl (92, [am_pv 26, am_jv (y10 &&& (am_lshl (255 : Int64) (x16 * 8))), am_iv ((x9 - x4) * q736), am_iv x9], 5, 0, 0, 252, [(0, am_pv 26), (1, am_pv 32), (2, am_iv x2), (3, am_iv x3), (4, am_iv x4), (8, am_iv x8), (9, am_iv x9), (10, am_jv y10), (12, am_jv y12), (14, am_jv y14), (16, am_iv x16), (17, am_jv (y10 &&& (am_lshl (255 : Int64) (x16 * 8)))), (19, am_iv q736), (20, am_iv (q738 + q736))], [], am_SH, (q744.1, q744.2, am_RF b)))) from rfl) rfl tb_Search_noteUp (s_Search_noteUp e747) ?_
        obtain ⟨q748, e749, h⟩ := am_bind_some h
        refine am_r_call (show am_stepn X T_Search_leave 8 true (252, [(0, am_pv 26), (1, am_pv 32), (2, am_iv x2), (3, am_iv x3), (4, am_iv x4), (8, am_iv x8), (9, am_iv x9), (10, am_jv y10), (12, am_jv y12), (14, am_jv y14), (16, am_iv x16), (17, am_jv (y10 &&& (am_lshl (255 : Int64) (x16 * 8)))), (19, am_iv q736), (20, am_iv (q738 + q736))], [], am_SH, (q746, q744.2, am_RF b)) = some (true, .inr (.inl (94, [am_jv (y10 &&& (am_lshl (255 : Int64) (x16 * 8))), am_iv ((x9 - x4) * q736)], 6, 0, 0, 266, [(0, am_pv 26), (1, am_pv 32), (2, am_iv x2), (3, am_iv x3), (4, am_iv x4), (8, am_iv x8), (9, am_iv x9), (10, am_jv y10), (12, am_jv y12), (14, am_jv y14), (16, am_iv x16), (17, am_jv (y10 &&& (am_lshl (255 : Int64) (x16 * 8)))), (19, am_iv q736), (20, am_iv (q738 + q736))], [am_pv 26], am_SH, (q746, q744.2, am_RF b)))) from rfl) rfl tb_Search_moved (s_Search_moved e749) ?_
        obtain ⟨q750, e751, h⟩ := am_bind_some h
        refine am_r_call (show am_stepn X T_Search_leave 8 true (266, [(0, am_pv 26), (1, am_pv 32), (2, am_iv x2), (3, am_iv x3), (4, am_iv x4), (8, am_iv x8), (9, am_iv x9), (10, am_jv y10), (12, am_jv y12), (14, am_jv y14), (16, am_iv x16), (17, am_jv (y10 &&& (am_lshl (255 : Int64) (x16 * 8)))), (19, am_iv q736), (20, am_iv (q738 + q736))], [am_jv q748, am_pv 26], am_SH, (q746, q744.2, am_RF b)) = some (true, .inr (.inl (95, [am_pv 26, am_jv (q748 &&& y14), am_iv x2, am_iv (1 - x3), am_iv x9], 6, 0, 0, 278, [(0, am_pv 26), (1, am_pv 32), (2, am_iv x2), (3, am_iv x3), (4, am_iv x4), (8, am_iv x8), (9, am_iv x9), (10, am_jv y10), (12, am_jv y12), (14, am_jv y14), (16, am_iv x16), (17, am_jv (y10 &&& (am_lshl (255 : Int64) (x16 * 8)))), (19, am_iv q736), (20, am_iv (q738 + q736))], [], am_SH, (q746, q744.2, am_RF b)))) from rfl) rfl tb_Search_land (s_Search_land e751) ?_
        refine am_r_go (show am_stepn X T_Search_leave 2 true (278, [(0, am_pv 26), (1, am_pv 32), (2, am_iv x2), (3, am_iv x3), (4, am_iv x4), (8, am_iv x8), (9, am_iv x9), (10, am_jv y10), (12, am_jv y12), (14, am_jv y14), (16, am_iv x16), (17, am_jv (y10 &&& (am_lshl (255 : Int64) (x16 * 8)))), (19, am_iv q736), (20, am_iv (q738 + q736))], [], am_SH, (q750.1, q750.2, am_RF b)) = some (true, .inl (143, [(0, am_pv 26), (1, am_pv 32), (2, am_iv x2), (3, am_iv x3), (4, am_iv x4), (8, am_iv x8), (9, am_iv x9), (10, am_jv y10), (12, am_jv y12), (14, am_jv y14), (16, am_iv (x16 + 1))], [], am_SH, (q750.1, q750.2, am_RF b))) from rfl) rfl ?_
        exact ih _ _ _ _ _ _ _ _ _ _ _ _ h
    · rw [if_neg c733] at h
      refine am_r_t (show am_stepn X T_Search_leave 6 true (143, [(0, am_pv 26), (1, am_pv 32), (2, am_iv x2), (3, am_iv x3), (4, am_iv x4), (8, am_iv x8), (9, am_iv x9), (10, am_jv y10), (12, am_jv y12), (14, am_jv y14), (16, am_iv x16)], [], am_SH, (J, K, am_RF b)) = some (((decide (am_i32 (J (32 + 1) 0)) && decide (am_i32 x16)) && (am_in 0 7 && true)), .inl (bif am_cb .ge x16 (J (32 + 1) 0) then 284 else 154, [(0, am_pv 26), (1, am_pv 32), (2, am_iv x2), (3, am_iv x3), (4, am_iv x4), (8, am_iv x8), (9, am_iv x9), (10, am_jv y10), (12, am_jv y12), (14, am_jv y14), (16, am_iv x16)], [], am_SH, (J, K, am_RF b))) from rfl) (am_g2 g731 g732 (am_gi (by decide) rfl)) (am_nd_f c733) ?_
      obtain rfl := Option.some.inj h
      exact am_r_ret (show am_stepn X T_Search_leave 1 true (284, [(0, am_pv 26), (1, am_pv 32), (2, am_iv x2), (3, am_iv x3), (4, am_iv x4), (8, am_iv x8), (9, am_iv x9), (10, am_jv y10), (12, am_jv y12), (14, am_jv y14), (16, am_iv x16)], [], am_SH, (J, K, am_RF b)) = some (true, .inr (.inr (none, am_SH, (J, K, am_RF b)))) from rfl) rfl
theorem s_Search_leave_L124_32_ {X : am_X} {b : Bool}  : ∀ (x2 : Int) (x3 : Int) (x4 : Int) (x8 : Int) (x9 : Int) (y10 : Int64) (t0 : Int64) (J : am_J) (K : am_K) (r : am_J × am_K), f_Search_leave_L124 32   x2 x3 x4 x8 x9 y10 t0 J K = some r → am_runs X T_Search_leave (124, [(0, am_pv 26), (1, am_pv 32), (2, am_iv x2), (3, am_iv x3), (4, am_iv x4), (8, am_iv x8), (9, am_iv x9), (10, am_jv y10)], [am_jv t0], am_SH, (J, K, am_RF b)) (none, am_SH, (r.1, r.2, am_RF b)) := by
  intro x2 x3 x4 x8 x9 y10 t0 J K r h
  unfold f_Search_leave_L124 at h
  obtain ⟨q752, e753, h⟩ := am_bind_some h
  refine am_r_call (show am_stepn X T_Search_leave 8 true (124, [(0, am_pv 26), (1, am_pv 32), (2, am_iv x2), (3, am_iv x3), (4, am_iv x4), (8, am_iv x8), (9, am_iv x9), (10, am_jv y10)], [am_jv t0], am_SH, (J, K, am_RF b)) = some (true, .inr (.inl (91, [am_pv 32, am_iv x2, am_iv (x9 - (J 26 1))], 4, 0, 0, 138, [(0, am_pv 26), (1, am_pv 32), (2, am_iv x2), (3, am_iv x3), (4, am_iv x4), (8, am_iv x8), (9, am_iv x9), (10, am_jv y10), (12, am_jv t0)], [], am_SH, (J, K, am_RF b)))) from rfl) rfl tb_River_bitsAfloatIn (s_River_bitsAfloatIn (by decide) e753) ?_
  refine am_r_go (show am_stepn X T_Search_leave 3 true (138, [(0, am_pv 26), (1, am_pv 32), (2, am_iv x2), (3, am_iv x3), (4, am_iv x4), (8, am_iv x8), (9, am_iv x9), (10, am_jv y10), (12, am_jv t0)], [am_jv q752], am_SH, (J, K, am_RF b)) = some (true, .inl (143, [(0, am_pv 26), (1, am_pv 32), (2, am_iv x2), (3, am_iv x3), (4, am_iv x4), (8, am_iv x8), (9, am_iv x9), (10, am_jv y10), (12, am_jv t0), (14, am_jv q752), (16, am_iv 0)], [], am_SH, (J, K, am_RF b))) from rfl) rfl ?_
  exact s_Search_leave_L143_32_  _ _ _ _ _ _ _ _ _ _ _ _ _ h
theorem s_Search_leave_L66_32_ {X : am_X} {b : Bool}  : ∀ (x2 : Int) (x3 : Int) (x4 : Int) (y6 : Int64) (s0 : Int) (J : am_J) (K : am_K) (r : am_J × am_K), f_Search_leave_L66 32   x2 x3 x4 y6 s0 J K = some r → am_runs X T_Search_leave (66, [(0, am_pv 26), (1, am_pv 32), (2, am_iv x2), (3, am_iv x3), (4, am_iv x4), (6, am_jv y6)], [am_iv s0], am_SH, (J, K, am_RF b)) (none, am_SH, (r.1, r.2, am_RF b)) := by
  intro x2 x3 x4 y6 s0 J K r h
  unfold f_Search_leave_L66 at h
  obtain ⟨q754, e755, h⟩ := am_bind_some h
  refine am_r_call (show am_stepn X T_Search_leave 16 true (66, [(0, am_pv 26), (1, am_pv 32), (2, am_iv x2), (3, am_iv x3), (4, am_iv x4), (6, am_jv y6)], [am_iv s0], am_SH, (J, K, am_RF b)) = some ((am_in 5 7 && true), .inr (.inl (91, [am_pv 32, am_iv x2, am_iv (x4 - (J 26 1))], 4, 0, 0, 93, [(0, am_pv 26), (1, am_pv 32), (2, am_iv x2), (3, am_iv x3), (4, am_iv x4), (6, am_jv y6), (8, am_iv s0), (9, am_iv (x4 + (J (32 + 1) 5)))], [am_jv y6], am_SH, (J, K, am_RF b)))) from rfl) (am_gi (by decide) rfl) tb_River_bitsAfloatIn (s_River_bitsAfloatIn (by decide) e755) ?_
  obtain ⟨q756, e757, h⟩ := am_bind_some h
  refine am_r_call (show am_stepn X T_Search_leave 5 true (93, [(0, am_pv 26), (1, am_pv 32), (2, am_iv x2), (3, am_iv x3), (4, am_iv x4), (6, am_jv y6), (8, am_iv s0), (9, am_iv (x4 + (J (32 + 1) 5)))], [am_jv q754, am_jv y6], am_SH, (J, K, am_RF b)) = some (true, .inr (.inl (87, [am_pv 26, am_iv s0], 2, 0, 0, 102, [(0, am_pv 26), (1, am_pv 32), (2, am_iv x2), (3, am_iv x3), (4, am_iv x4), (6, am_jv y6), (8, am_iv s0), (9, am_iv (x4 + (J (32 + 1) 5))), (10, am_jv (y6 &&& q754))], [], am_SH, (J, K, am_RF b)))) from rfl) rfl tb_Search_serves (s_Search_serves e757) ?_
  obtain ⟨g758, h⟩ := am_if_some h
  by_cases c759 : q756 = 0
  · rw [if_pos c759] at h
    refine am_r_t (show am_stepn X T_Search_leave 1 true (102, [(0, am_pv 26), (1, am_pv 32), (2, am_iv x2), (3, am_iv x3), (4, am_iv x4), (6, am_jv y6), (8, am_iv s0), (9, am_iv (x4 + (J (32 + 1) 5))), (10, am_jv (y6 &&& q754))], [am_iv q756], am_SH, (J, K, am_RF b)) = some ((decide (am_i32 q756) && true), .inl (bif am_cb .eq q756 0 then 123 else 105, [(0, am_pv 26), (1, am_pv 32), (2, am_iv x2), (3, am_iv x3), (4, am_iv x4), (6, am_jv y6), (8, am_iv s0), (9, am_iv (x4 + (J (32 + 1) 5))), (10, am_jv (y6 &&& q754))], [], am_SH, (J, K, am_RF b))) from rfl) (am_g1 g758 rfl) (decide_eq_true c759) ?_
    refine am_r_go (show am_stepn X T_Search_leave 1 true (123, [(0, am_pv 26), (1, am_pv 32), (2, am_iv x2), (3, am_iv x3), (4, am_iv x4), (6, am_jv y6), (8, am_iv s0), (9, am_iv (x4 + (J (32 + 1) 5))), (10, am_jv (y6 &&& q754))], [], am_SH, (J, K, am_RF b)) = some (true, .inl (124, [(0, am_pv 26), (1, am_pv 32), (2, am_iv x2), (3, am_iv x3), (4, am_iv x4), (8, am_iv s0), (9, am_iv (x4 + (J (32 + 1) 5))), (10, am_jv (y6 &&& q754))], [am_jv (0 : Int64)], am_SH, (J, K, am_RF b))) from rfl) rfl ?_
    exact s_Search_leave_L124_32_  _ _ _ _ _ _ _ _ _ _ h
  · rw [if_neg c759] at h
    refine am_r_f (show am_stepn X T_Search_leave 1 true (102, [(0, am_pv 26), (1, am_pv 32), (2, am_iv x2), (3, am_iv x3), (4, am_iv x4), (6, am_jv y6), (8, am_iv s0), (9, am_iv (x4 + (J (32 + 1) 5))), (10, am_jv (y6 &&& q754))], [am_iv q756], am_SH, (J, K, am_RF b)) = some ((decide (am_i32 q756) && true), .inl (bif am_cb .eq q756 0 then 123 else 105, [(0, am_pv 26), (1, am_pv 32), (2, am_iv x2), (3, am_iv x3), (4, am_iv x4), (6, am_jv y6), (8, am_iv s0), (9, am_iv (x4 + (J (32 + 1) 5))), (10, am_jv (y6 &&& q754))], [], am_SH, (J, K, am_RF b))) from rfl) (am_g1 g758 rfl) (decide_eq_false c759) ?_
    obtain ⟨q760, e761, h⟩ := am_bind_some h
    refine am_r_call (show am_stepn X T_Search_leave 9 true (105, [(0, am_pv 26), (1, am_pv 32), (2, am_iv x2), (3, am_iv x3), (4, am_iv x4), (6, am_jv y6), (8, am_iv s0), (9, am_iv (x4 + (J (32 + 1) 5))), (10, am_jv (y6 &&& q754))], [], am_SH, (J, K, am_RF b)) = some (true, .inr (.inl (91, [am_pv 32, am_iv s0, am_iv ((x4 + 1) - (J 26 1))], 4, 0, 0, 120, [(0, am_pv 26), (1, am_pv 32), (2, am_iv x2), (3, am_iv x3), (4, am_iv x4), (8, am_iv s0), (9, am_iv (x4 + (J (32 + 1) 5))), (10, am_jv (y6 &&& q754))], [], am_SH, (J, K, am_RF b)))) from rfl) rfl tb_River_bitsAfloatIn (s_River_bitsAfloatIn (by decide) e761) ?_
    refine am_r_go (show am_stepn X T_Search_leave 1 true (120, [(0, am_pv 26), (1, am_pv 32), (2, am_iv x2), (3, am_iv x3), (4, am_iv x4), (8, am_iv s0), (9, am_iv (x4 + (J (32 + 1) 5))), (10, am_jv (y6 &&& q754))], [am_jv q760], am_SH, (J, K, am_RF b)) = some (true, .inl (124, [(0, am_pv 26), (1, am_pv 32), (2, am_iv x2), (3, am_iv x3), (4, am_iv x4), (8, am_iv s0), (9, am_iv (x4 + (J (32 + 1) 5))), (10, am_jv (y6 &&& q754))], [am_jv q760], am_SH, (J, K, am_RF b))) from rfl) rfl ?_
    exact s_Search_leave_L124_32_  _ _ _ _ _ _ _ _ _ _ h
theorem s_Search_leave_32_ {X : am_X} {b : Bool} {x2 : Int} {x3 : Int} {x4 : Int} {J : am_J} {K : am_K} {r : am_J × am_K} (h : f_Search_leave 32 x2 x3 x4 J K = some r) : am_runs X T_Search_leave (0, [(0, am_pv 26), (1, am_pv 32), (2, am_iv x2), (3, am_iv x3), (4, am_iv x4)], [], am_SH, (J, K, am_RF b)) (none, am_SH, (r.1, r.2, am_RF b)) := by
  unfold f_Search_leave at h
  obtain ⟨q762, e763, h⟩ := am_bind_some h
  refine am_r_call (show am_stepn X T_Search_leave 4 true (0, [(0, am_pv 26), (1, am_pv 32), (2, am_iv x2), (3, am_iv x3), (4, am_iv x4)], [], am_SH, (J, K, am_RF b)) = some (true, .inr (.inl (88, [am_iv x2, am_iv x3, am_iv x4], 3, 0, 0, 7, [(0, am_pv 26), (1, am_pv 32), (2, am_iv x2), (3, am_iv x3), (4, am_iv x4)], [], am_SH, (J, K, am_RF b)))) from rfl) rfl tb_Search_indexOf (s_Search_indexOf e763) ?_
  obtain ⟨g764, h⟩ := am_if_some h
  obtain ⟨g765, h⟩ := am_if_some h
  by_cases c766 : (am_lcmp (K 27 q762.toNat) (0 : Int64)) = 0
  · rw [if_pos c766] at h
    refine am_r_f (show am_stepn X T_Search_leave 15 true (7, [(0, am_pv 26), (1, am_pv 32), (2, am_iv x2), (3, am_iv x3), (4, am_iv x4)], [am_iv q762], am_SH, (J, K, am_RF b)) = some ((decide (am_i32 (am_lcmp (K 27 q762.toNat) (0 : Int64))) && (am_in q762 180 && (am_in q762 180 && true))), .inl (bif am_cb .ne (am_lcmp (K 27 q762.toNat) (0 : Int64)) 0 then 34 else 33, [(0, am_pv 26), (1, am_pv 32), (2, am_iv x2), (3, am_iv x3), (4, am_iv x4), (5, am_iv q762), (6, am_jv (K 27 q762.toNat))], [], am_SH, (J, (am_ul K 27 q762.toNat (0 : Int64)), am_RF b))) from rfl) (am_g1 g765 (am_gi g764 (am_gi g764 rfl))) (am_nd_t c766) ?_
    obtain rfl := Option.some.inj h
    exact am_r_ret (show am_stepn X T_Search_leave 1 true (33, [(0, am_pv 26), (1, am_pv 32), (2, am_iv x2), (3, am_iv x3), (4, am_iv x4), (5, am_iv q762), (6, am_jv (K 27 q762.toNat))], [], am_SH, (J, (am_ul K 27 q762.toNat (0 : Int64)), am_RF b)) = some (true, .inr (.inr (none, am_SH, (J, (am_ul K 27 q762.toNat (0 : Int64)), am_RF b)))) from rfl) rfl
  · rw [if_neg c766] at h
    refine am_r_t (show am_stepn X T_Search_leave 15 true (7, [(0, am_pv 26), (1, am_pv 32), (2, am_iv x2), (3, am_iv x3), (4, am_iv x4)], [am_iv q762], am_SH, (J, K, am_RF b)) = some ((decide (am_i32 (am_lcmp (K 27 q762.toNat) (0 : Int64))) && (am_in q762 180 && (am_in q762 180 && true))), .inl (bif am_cb .ne (am_lcmp (K 27 q762.toNat) (0 : Int64)) 0 then 34 else 33, [(0, am_pv 26), (1, am_pv 32), (2, am_iv x2), (3, am_iv x3), (4, am_iv x4), (5, am_iv q762), (6, am_jv (K 27 q762.toNat))], [], am_SH, (J, (am_ul K 27 q762.toNat (0 : Int64)), am_RF b))) from rfl) (am_g1 g765 (am_gi g764 (am_gi g764 rfl))) (am_nd_f c766) ?_
    obtain ⟨q767, e768, h⟩ := am_bind_some h
    refine am_r_call (show am_stepn X T_Search_leave 8 true (34, [(0, am_pv 26), (1, am_pv 32), (2, am_iv x2), (3, am_iv x3), (4, am_iv x4), (5, am_iv q762), (6, am_jv (K 27 q762.toNat))], [], am_SH, (J, (am_ul K 27 q762.toNat (0 : Int64)), am_RF b)) = some (true, .inr (.inl (88, [am_iv x2, am_iv x3, am_iv (x4 + 1)], 3, 0, 0, 47, [(0, am_pv 26), (1, am_pv 32), (2, am_iv x2), (3, am_iv x3), (4, am_iv x4), (6, am_jv (K 27 q762.toNat))], [am_pv 27], am_SH, (J, (am_ul K 27 q762.toNat (0 : Int64)), am_RF b)))) from rfl) rfl tb_Search_indexOf (s_Search_indexOf e768) ?_
    obtain ⟨g769, h⟩ := am_if_some h
    obtain ⟨g770, h⟩ := am_if_some h
    by_cases c771 : x3 = 0
    · rw [if_pos c771] at h
      refine am_r_f (show am_stepn X T_Search_leave 7 true (47, [(0, am_pv 26), (1, am_pv 32), (2, am_iv x2), (3, am_iv x3), (4, am_iv x4), (6, am_jv (K 27 q762.toNat))], [am_iv q767, am_pv 27], am_SH, (J, (am_ul K 27 q762.toNat (0 : Int64)), am_RF b)) = some ((decide (am_i32 x3) && (am_in q767 180 && (am_in q767 180 && true))), .inl (bif am_cb .ne x3 0 then 63 else 57, [(0, am_pv 26), (1, am_pv 32), (2, am_iv x2), (3, am_iv x3), (4, am_iv x4), (6, am_jv (K 27 q762.toNat))], [], am_SH, (J, (am_ul (am_ul K 27 q762.toNat (0 : Int64)) 27 q767.toNat (((am_ul K 27 q762.toNat (0 : Int64)) 27 q767.toNat) ||| (K 27 q762.toNat))), am_RF b))) from rfl) (am_g1 g770 (am_gi g769 (am_gi g769 rfl))) (am_nd_t c771) ?_
      refine am_r_go (show am_stepn X T_Search_leave 4 true (57, [(0, am_pv 26), (1, am_pv 32), (2, am_iv x2), (3, am_iv x3), (4, am_iv x4), (6, am_jv (K 27 q762.toNat))], [], am_SH, (J, (am_ul (am_ul K 27 q762.toNat (0 : Int64)) 27 q767.toNat (((am_ul K 27 q762.toNat (0 : Int64)) 27 q767.toNat) ||| (K 27 q762.toNat))), am_RF b)) = some (true, .inl (66, [(0, am_pv 26), (1, am_pv 32), (2, am_iv x2), (3, am_iv x3), (4, am_iv x4), (6, am_jv (K 27 q762.toNat))], [am_iv (x2 + 1)], am_SH, (J, (am_ul (am_ul K 27 q762.toNat (0 : Int64)) 27 q767.toNat (((am_ul K 27 q762.toNat (0 : Int64)) 27 q767.toNat) ||| (K 27 q762.toNat))), am_RF b))) from rfl) rfl ?_
      exact s_Search_leave_L66_32_  _ _ _ _ _ _ _ _ h
    · rw [if_neg c771] at h
      refine am_r_t (show am_stepn X T_Search_leave 7 true (47, [(0, am_pv 26), (1, am_pv 32), (2, am_iv x2), (3, am_iv x3), (4, am_iv x4), (6, am_jv (K 27 q762.toNat))], [am_iv q767, am_pv 27], am_SH, (J, (am_ul K 27 q762.toNat (0 : Int64)), am_RF b)) = some ((decide (am_i32 x3) && (am_in q767 180 && (am_in q767 180 && true))), .inl (bif am_cb .ne x3 0 then 63 else 57, [(0, am_pv 26), (1, am_pv 32), (2, am_iv x2), (3, am_iv x3), (4, am_iv x4), (6, am_jv (K 27 q762.toNat))], [], am_SH, (J, (am_ul (am_ul K 27 q762.toNat (0 : Int64)) 27 q767.toNat (((am_ul K 27 q762.toNat (0 : Int64)) 27 q767.toNat) ||| (K 27 q762.toNat))), am_RF b))) from rfl) (am_g1 g770 (am_gi g769 (am_gi g769 rfl))) (am_nd_f c771) ?_
      refine am_r_go (show am_stepn X T_Search_leave 3 true (63, [(0, am_pv 26), (1, am_pv 32), (2, am_iv x2), (3, am_iv x3), (4, am_iv x4), (6, am_jv (K 27 q762.toNat))], [], am_SH, (J, (am_ul (am_ul K 27 q762.toNat (0 : Int64)) 27 q767.toNat (((am_ul K 27 q762.toNat (0 : Int64)) 27 q767.toNat) ||| (K 27 q762.toNat))), am_RF b)) = some (true, .inl (66, [(0, am_pv 26), (1, am_pv 32), (2, am_iv x2), (3, am_iv x3), (4, am_iv x4), (6, am_jv (K 27 q762.toNat))], [am_iv (x2 - 1)], am_SH, (J, (am_ul (am_ul K 27 q762.toNat (0 : Int64)) 27 q767.toNat (((am_ul K 27 q762.toNat (0 : Int64)) 27 q767.toNat) ||| (K 27 q762.toNat))), am_RF b))) from rfl) rfl ?_
      exact s_Search_leave_L66_32_  _ _ _ _ _ _ _ _ h
theorem s_Search_leave_L143_6_ {X : am_X} {b : Bool}  : ∀ (n : Nat) (x2 : Int) (x3 : Int) (x4 : Int) (x8 : Int) (x9 : Int) (y10 : Int64) (y12 : Int64) (y14 : Int64) (x16 : Int) (J : am_J) (K : am_K) (r : am_J × am_K), f_Search_leave_L143 6  n x2 x3 x4 x8 x9 y10 y12 y14 x16 J K = some r → am_runs X T_Search_leave (143, [(0, am_pv 26), (1, am_pv 6), (2, am_iv x2), (3, am_iv x3), (4, am_iv x4), (8, am_iv x8), (9, am_iv x9), (10, am_jv y10), (12, am_jv y12), (14, am_jv y14), (16, am_iv x16)], [], am_SH, (J, K, am_RF b)) (none, am_SH, (r.1, r.2, am_RF b)) := by
  intro n
  induction n with
  | zero =>
    intro x2 x3 x4 x8 x9 y10 y12 y14 x16 J K r h
    cases h
  | succ n ih =>
    intro x2 x3 x4 x8 x9 y10 y12 y14 x16 J K r h
    rw [f_Search_leave_L143.eq_2] at h
    obtain ⟨g731, h⟩ := am_if_some h
    obtain ⟨g732, h⟩ := am_if_some h
    by_cases c733 : x16 < (J (6 + 1) 0)
    · rw [if_pos c733] at h
      refine am_r_f (show am_stepn X T_Search_leave 6 true (143, [(0, am_pv 26), (1, am_pv 6), (2, am_iv x2), (3, am_iv x3), (4, am_iv x4), (8, am_iv x8), (9, am_iv x9), (10, am_jv y10), (12, am_jv y12), (14, am_jv y14), (16, am_iv x16)], [], am_SH, (J, K, am_RF b)) = some (((decide (am_i32 (J (6 + 1) 0)) && decide (am_i32 x16)) && (am_in 0 7 && true)), .inl (bif am_cb .ge x16 (J (6 + 1) 0) then 284 else 154, [(0, am_pv 26), (1, am_pv 6), (2, am_iv x2), (3, am_iv x3), (4, am_iv x4), (8, am_iv x8), (9, am_iv x9), (10, am_jv y10), (12, am_jv y12), (14, am_jv y14), (16, am_iv x16)], [], am_SH, (J, K, am_RF b))) from rfl) (am_g2 g731 g732 (am_gi (by decide) rfl)) (am_nd_t c733) ?_
      obtain ⟨g734, h⟩ := am_if_some h
      by_cases c735 : (am_lcmp (y10 &&& (am_lshl (255 : Int64) (x16 * 8))) (0 : Int64)) = 0
      · rw [if_pos c735] at h
        refine am_r_t (show am_stepn X T_Search_leave 12 true (154, [(0, am_pv 26), (1, am_pv 6), (2, am_iv x2), (3, am_iv x3), (4, am_iv x4), (8, am_iv x8), (9, am_iv x9), (10, am_jv y10), (12, am_jv y12), (14, am_jv y14), (16, am_iv x16)], [], am_SH, (J, K, am_RF b)) = some ((decide (am_i32 (am_lcmp (y10 &&& (am_lshl (255 : Int64) (x16 * 8))) (0 : Int64))) && true), .inl (bif am_cb .eq (am_lcmp (y10 &&& (am_lshl (255 : Int64) (x16 * 8))) (0 : Int64)) 0 then 278 else 175, [(0, am_pv 26), (1, am_pv 6), (2, am_iv x2), (3, am_iv x3), (4, am_iv x4), (8, am_iv x8), (9, am_iv x9), (10, am_jv y10), (12, am_jv y12), (14, am_jv y14), (16, am_iv x16), (17, am_jv (y10 &&& (am_lshl (255 : Int64) (x16 * 8))))], [], am_SH, (J, K, am_RF b))) from rfl) (am_g1 g734 rfl) (decide_eq_true c735) ?_
        refine am_r_go (show am_stepn X T_Search_leave 2 true (278, [(0, am_pv 26), (1, am_pv 6), (2, am_iv x2), (3, am_iv x3), (4, am_iv x4), (8, am_iv x8), (9, am_iv x9), (10, am_jv y10), (12, am_jv y12), (14, am_jv y14), (16, am_iv x16), (17, am_jv (y10 &&& (am_lshl (255 : Int64) (x16 * 8))))], [], am_SH, (J, K, am_RF b)) = some (true, .inl (143, [(0, am_pv 26), (1, am_pv 6), (2, am_iv x2), (3, am_iv x3), (4, am_iv x4), (8, am_iv x8), (9, am_iv x9), (10, am_jv y10), (12, am_jv y12), (14, am_jv y14), (16, am_iv (x16 + 1))], [], am_SH, (J, K, am_RF b))) from rfl) rfl ?_
        exact ih _ _ _ _ _ _ _ _ _ _ _ _ h
      · rw [if_neg c735] at h
        refine am_r_f (show am_stepn X T_Search_leave 12 true (154, [(0, am_pv 26), (1, am_pv 6), (2, am_iv x2), (3, am_iv x3), (4, am_iv x4), (8, am_iv x8), (9, am_iv x9), (10, am_jv y10), (12, am_jv y12), (14, am_jv y14), (16, am_iv x16)], [], am_SH, (J, K, am_RF b)) = some ((decide (am_i32 (am_lcmp (y10 &&& (am_lshl (255 : Int64) (x16 * 8))) (0 : Int64))) && true), .inl (bif am_cb .eq (am_lcmp (y10 &&& (am_lshl (255 : Int64) (x16 * 8))) (0 : Int64)) 0 then 278 else 175, [(0, am_pv 26), (1, am_pv 6), (2, am_iv x2), (3, am_iv x3), (4, am_iv x4), (8, am_iv x8), (9, am_iv x9), (10, am_jv y10), (12, am_jv y12), (14, am_jv y14), (16, am_iv x16), (17, am_jv (y10 &&& (am_lshl (255 : Int64) (x16 * 8))))], [], am_SH, (J, K, am_RF b))) from rfl) (am_g1 g734 rfl) (decide_eq_false c735) ?_
        obtain ⟨q736, e737, h⟩ := am_bind_some h
        refine am_r_call (show am_stepn X T_Search_leave 8 true (175, [(0, am_pv 26), (1, am_pv 6), (2, am_iv x2), (3, am_iv x3), (4, am_iv x4), (8, am_iv x8), (9, am_iv x9), (10, am_jv y10), (12, am_jv y12), (14, am_jv y14), (16, am_iv x16), (17, am_jv (y10 &&& (am_lshl (255 : Int64) (x16 * 8))))], [], am_SH, (J, K, am_RF b)) = some (true, .inr (.inl (61, [am_pv 6, am_iv x16, am_iv x2, am_iv (x4 - (J 26 1))], 5, 0, 0, 189, [(0, am_pv 26), (1, am_pv 6), (2, am_iv x2), (3, am_iv x3), (4, am_iv x4), (8, am_iv x8), (9, am_iv x9), (10, am_jv y10), (12, am_jv y12), (14, am_jv y14), (16, am_iv x16), (17, am_jv (y10 &&& (am_lshl (255 : Int64) (x16 * 8))))], [], am_SH, (J, K, am_RF b)))) from rfl) rfl tb_River_flowAt (s_River_flowAt (by decide) e737) ?_
        obtain ⟨q738, e739, h⟩ := am_bind_some h
        refine am_r_call (show am_stepn X T_Search_leave 5 true (189, [(0, am_pv 26), (1, am_pv 6), (2, am_iv x2), (3, am_iv x3), (4, am_iv x4), (8, am_iv x8), (9, am_iv x9), (10, am_jv y10), (12, am_jv y12), (14, am_jv y14), (16, am_iv x16), (17, am_jv (y10 &&& (am_lshl (255 : Int64) (x16 * 8))))], [am_iv q736], am_SH, (J, K, am_RF b)) = some (true, .inr (.inl (58, [am_pv 6, am_iv x16, am_iv x3], 4, 0, 0, 198, [(0, am_pv 26), (1, am_pv 6), (2, am_iv x2), (3, am_iv x3), (4, am_iv x4), (8, am_iv x8), (9, am_iv x9), (10, am_jv y10), (12, am_jv y12), (14, am_jv y14), (16, am_iv x16), (17, am_jv (y10 &&& (am_lshl (255 : Int64) (x16 * 8)))), (19, am_iv q736)], [], am_SH, (J, K, am_RF b)))) from rfl) rfl tb_River_wayOn (s_River_wayOn (by decide) e739) ?_
        obtain ⟨q740, e741, h⟩ := am_bind_some h
        refine am_r_call (show am_stepn X T_Search_leave 10 true (198, [(0, am_pv 26), (1, am_pv 6), (2, am_iv x2), (3, am_iv x3), (4, am_iv x4), (8, am_iv x8), (9, am_iv x9), (10, am_jv y10), (12, am_jv y12), (14, am_jv y14), (16, am_iv x16), (17, am_jv (y10 &&& (am_lshl (255 : Int64) (x16 * 8)))), (19, am_iv q736)], [am_iv q738], am_SH, (J, K, am_RF b)) = some (true, .inr (.inl (92, [am_pv 26, am_jv (y10 &&& (am_lshl (255 : Int64) (x16 * 8))), am_iv (q738 + q736), am_iv (x4 + 1)], 5, 0, 0, 215, [(0, am_pv 26), (1, am_pv 6), (2, am_iv x2), (3, am_iv x3), (4, am_iv x4), (8, am_iv x8), (9, am_iv x9), (10, am_jv y10), (12, am_jv y12), (14, am_jv y14), (16, am_iv x16), (17, am_jv (y10 &&& (am_lshl (255 : Int64) (x16 * 8)))), (19, am_iv q736), (20, am_iv (q738 + q736))], [], am_SH, (J, K, am_RF b)))) from rfl) rfl tb_Search_noteUp (s_Search_noteUp e741) ?_
        obtain ⟨q742, e743, h⟩ := am_bind_some h
        refine am_r_call (show am_stepn X T_Search_leave 4 true (215, [(0, am_pv 26), (1, am_pv 6), (2, am_iv x2), (3, am_iv x3), (4, am_iv x4), (8, am_iv x8), (9, am_iv x9), (10, am_jv y10), (12, am_jv y12), (14, am_jv y14), (16, am_iv x16), (17, am_jv (y10 &&& (am_lshl (255 : Int64) (x16 * 8)))), (19, am_iv q736), (20, am_iv (q738 + q736))], [], am_SH, (q740, K, am_RF b)) = some (true, .inr (.inl (94, [am_jv (y10 &&& (am_lshl (255 : Int64) (x16 * 8))), am_iv (q738 + q736)], 6, 0, 0, 223, [(0, am_pv 26), (1, am_pv 6), (2, am_iv x2), (3, am_iv x3), (4, am_iv x4), (8, am_iv x8), (9, am_iv x9), (10, am_jv y10), (12, am_jv y12), (14, am_jv y14), (16, am_iv x16), (17, am_jv (y10 &&& (am_lshl (255 : Int64) (x16 * 8)))), (19, am_iv q736), (20, am_iv (q738 + q736))], [am_pv 26], am_SH, (q740, K, am_RF b)))) from rfl) rfl tb_Search_moved (s_Search_moved e743) ?_
        obtain ⟨q744, e745, h⟩ := am_bind_some h
        refine am_r_call (show am_stepn X T_Search_leave 8 true (223, [(0, am_pv 26), (1, am_pv 6), (2, am_iv x2), (3, am_iv x3), (4, am_iv x4), (8, am_iv x8), (9, am_iv x9), (10, am_jv y10), (12, am_jv y12), (14, am_jv y14), (16, am_iv x16), (17, am_jv (y10 &&& (am_lshl (255 : Int64) (x16 * 8)))), (19, am_iv q736), (20, am_iv (q738 + q736))], [am_jv q742, am_pv 26], am_SH, (q740, K, am_RF b)) = some (true, .inr (.inl (95, [am_pv 26, am_jv (q742 &&& y12), am_iv x8, am_iv x3, am_iv (x4 + 1)], 6, 0, 0, 236, [(0, am_pv 26), (1, am_pv 6), (2, am_iv x2), (3, am_iv x3), (4, am_iv x4), (8, am_iv x8), (9, am_iv x9), (10, am_jv y10), (12, am_jv y12), (14, am_jv y14), (16, am_iv x16), (17, am_jv (y10 &&& (am_lshl (255 : Int64) (x16 * 8)))), (19, am_iv q736), (20, am_iv (q738 + q736))], [], am_SH, (q740, K, am_RF b)))) from rfl) rfl tb_Search_land (s_Search_land e745) ?_
        obtain ⟨q746, e747, h⟩ := am_bind_some h
        refine am_r_call (show am_stepn X T_Search_leave 9 true (236, [(0, am_pv 26), (1, am_pv 6), (2, am_iv x2), (3, am_iv x3), (4, am_iv x4), (8, am_iv x8), (9, am_iv x9), (10, am_jv y10), (12, am_jv y12), (14, am_jv y14), (16, am_iv x16), (17, am_jv (y10 &&& (am_lshl (255 : Int64) (x16 * 8)))), (19, am_iv q736), (20, am_iv (q738 + q736))], [], am_SH, (q744.1, q744.2, am_RF b)) = some (true, .inr (.inl (92, [am_pv 26, am_jv (y10 &&& (am_lshl (255 : Int64) (x16 * 8))), am_iv ((x9 - x4) * q736), am_iv x9], 5, 0, 0, 252, [(0, am_pv 26), (1, am_pv 6), (2, am_iv x2), (3, am_iv x3), (4, am_iv x4), (8, am_iv x8), (9, am_iv x9), (10, am_jv y10), (12, am_jv y12), (14, am_jv y14), (16, am_iv x16), (17, am_jv (y10 &&& (am_lshl (255 : Int64) (x16 * 8)))), (19, am_iv q736), (20, am_iv (q738 + q736))], [], am_SH, (q744.1, q744.2, am_RF b)))) from rfl) rfl tb_Search_noteUp (s_Search_noteUp e747) ?_
        obtain ⟨q748, e749, h⟩ := am_bind_some h
        refine am_r_call (show am_stepn X T_Search_leave 8 true (252, [(0, am_pv 26), (1, am_pv 6), (2, am_iv x2), (3, am_iv x3), (4, am_iv x4), (8, am_iv x8), (9, am_iv x9), (10, am_jv y10), (12, am_jv y12), (14, am_jv y14), (16, am_iv x16), (17, am_jv (y10 &&& (am_lshl (255 : Int64) (x16 * 8)))), (19, am_iv q736), (20, am_iv (q738 + q736))], [], am_SH, (q746, q744.2, am_RF b)) = some (true, .inr (.inl (94, [am_jv (y10 &&& (am_lshl (255 : Int64) (x16 * 8))), am_iv ((x9 - x4) * q736)], 6, 0, 0, 266, [(0, am_pv 26), (1, am_pv 6), (2, am_iv x2), (3, am_iv x3), (4, am_iv x4), (8, am_iv x8), (9, am_iv x9), (10, am_jv y10), (12, am_jv y12), (14, am_jv y14), (16, am_iv x16), (17, am_jv (y10 &&& (am_lshl (255 : Int64) (x16 * 8)))), (19, am_iv q736), (20, am_iv (q738 + q736))], [am_pv 26], am_SH, (q746, q744.2, am_RF b)))) from rfl) rfl tb_Search_moved (s_Search_moved e749) ?_
        obtain ⟨q750, e751, h⟩ := am_bind_some h
        refine am_r_call (show am_stepn X T_Search_leave 8 true (266, [(0, am_pv 26), (1, am_pv 6), (2, am_iv x2), (3, am_iv x3), (4, am_iv x4), (8, am_iv x8), (9, am_iv x9), (10, am_jv y10), (12, am_jv y12), (14, am_jv y14), (16, am_iv x16), (17, am_jv (y10 &&& (am_lshl (255 : Int64) (x16 * 8)))), (19, am_iv q736), (20, am_iv (q738 + q736))], [am_jv q748, am_pv 26], am_SH, (q746, q744.2, am_RF b)) = some (true, .inr (.inl (95, [am_pv 26, am_jv (q748 &&& y14), am_iv x2, am_iv (1 - x3), am_iv x9], 6, 0, 0, 278, [(0, am_pv 26), (1, am_pv 6), (2, am_iv x2), (3, am_iv x3), (4, am_iv x4), (8, am_iv x8), (9, am_iv x9), (10, am_jv y10), (12, am_jv y12), (14, am_jv y14), (16, am_iv x16), (17, am_jv (y10 &&& (am_lshl (255 : Int64) (x16 * 8)))), (19, am_iv q736), (20, am_iv (q738 + q736))], [], am_SH, (q746, q744.2, am_RF b)))) from rfl) rfl tb_Search_land (s_Search_land e751) ?_
        refine am_r_go (show am_stepn X T_Search_leave 2 true (278, [(0, am_pv 26), (1, am_pv 6), (2, am_iv x2), (3, am_iv x3), (4, am_iv x4), (8, am_iv x8), (9, am_iv x9), (10, am_jv y10), (12, am_jv y12), (14, am_jv y14), (16, am_iv x16), (17, am_jv (y10 &&& (am_lshl (255 : Int64) (x16 * 8)))), (19, am_iv q736), (20, am_iv (q738 + q736))], [], am_SH, (q750.1, q750.2, am_RF b)) = some (true, .inl (143, [(0, am_pv 26), (1, am_pv 6), (2, am_iv x2), (3, am_iv x3), (4, am_iv x4), (8, am_iv x8), (9, am_iv x9), (10, am_jv y10), (12, am_jv y12), (14, am_jv y14), (16, am_iv (x16 + 1))], [], am_SH, (q750.1, q750.2, am_RF b))) from rfl) rfl ?_
        exact ih _ _ _ _ _ _ _ _ _ _ _ _ h
    · rw [if_neg c733] at h
      refine am_r_t (show am_stepn X T_Search_leave 6 true (143, [(0, am_pv 26), (1, am_pv 6), (2, am_iv x2), (3, am_iv x3), (4, am_iv x4), (8, am_iv x8), (9, am_iv x9), (10, am_jv y10), (12, am_jv y12), (14, am_jv y14), (16, am_iv x16)], [], am_SH, (J, K, am_RF b)) = some (((decide (am_i32 (J (6 + 1) 0)) && decide (am_i32 x16)) && (am_in 0 7 && true)), .inl (bif am_cb .ge x16 (J (6 + 1) 0) then 284 else 154, [(0, am_pv 26), (1, am_pv 6), (2, am_iv x2), (3, am_iv x3), (4, am_iv x4), (8, am_iv x8), (9, am_iv x9), (10, am_jv y10), (12, am_jv y12), (14, am_jv y14), (16, am_iv x16)], [], am_SH, (J, K, am_RF b))) from rfl) (am_g2 g731 g732 (am_gi (by decide) rfl)) (am_nd_f c733) ?_
      obtain rfl := Option.some.inj h
      exact am_r_ret (show am_stepn X T_Search_leave 1 true (284, [(0, am_pv 26), (1, am_pv 6), (2, am_iv x2), (3, am_iv x3), (4, am_iv x4), (8, am_iv x8), (9, am_iv x9), (10, am_jv y10), (12, am_jv y12), (14, am_jv y14), (16, am_iv x16)], [], am_SH, (J, K, am_RF b)) = some (true, .inr (.inr (none, am_SH, (J, K, am_RF b)))) from rfl) rfl
theorem s_Search_leave_L124_6_ {X : am_X} {b : Bool}  : ∀ (x2 : Int) (x3 : Int) (x4 : Int) (x8 : Int) (x9 : Int) (y10 : Int64) (t0 : Int64) (J : am_J) (K : am_K) (r : am_J × am_K), f_Search_leave_L124 6   x2 x3 x4 x8 x9 y10 t0 J K = some r → am_runs X T_Search_leave (124, [(0, am_pv 26), (1, am_pv 6), (2, am_iv x2), (3, am_iv x3), (4, am_iv x4), (8, am_iv x8), (9, am_iv x9), (10, am_jv y10)], [am_jv t0], am_SH, (J, K, am_RF b)) (none, am_SH, (r.1, r.2, am_RF b)) := by
  intro x2 x3 x4 x8 x9 y10 t0 J K r h
  unfold f_Search_leave_L124 at h
  obtain ⟨q752, e753, h⟩ := am_bind_some h
  refine am_r_call (show am_stepn X T_Search_leave 8 true (124, [(0, am_pv 26), (1, am_pv 6), (2, am_iv x2), (3, am_iv x3), (4, am_iv x4), (8, am_iv x8), (9, am_iv x9), (10, am_jv y10)], [am_jv t0], am_SH, (J, K, am_RF b)) = some (true, .inr (.inl (91, [am_pv 6, am_iv x2, am_iv (x9 - (J 26 1))], 4, 0, 0, 138, [(0, am_pv 26), (1, am_pv 6), (2, am_iv x2), (3, am_iv x3), (4, am_iv x4), (8, am_iv x8), (9, am_iv x9), (10, am_jv y10), (12, am_jv t0)], [], am_SH, (J, K, am_RF b)))) from rfl) rfl tb_River_bitsAfloatIn (s_River_bitsAfloatIn (by decide) e753) ?_
  refine am_r_go (show am_stepn X T_Search_leave 3 true (138, [(0, am_pv 26), (1, am_pv 6), (2, am_iv x2), (3, am_iv x3), (4, am_iv x4), (8, am_iv x8), (9, am_iv x9), (10, am_jv y10), (12, am_jv t0)], [am_jv q752], am_SH, (J, K, am_RF b)) = some (true, .inl (143, [(0, am_pv 26), (1, am_pv 6), (2, am_iv x2), (3, am_iv x3), (4, am_iv x4), (8, am_iv x8), (9, am_iv x9), (10, am_jv y10), (12, am_jv t0), (14, am_jv q752), (16, am_iv 0)], [], am_SH, (J, K, am_RF b))) from rfl) rfl ?_
  exact s_Search_leave_L143_6_  _ _ _ _ _ _ _ _ _ _ _ _ _ h
theorem s_Search_leave_L66_6_ {X : am_X} {b : Bool}  : ∀ (x2 : Int) (x3 : Int) (x4 : Int) (y6 : Int64) (s0 : Int) (J : am_J) (K : am_K) (r : am_J × am_K), f_Search_leave_L66 6   x2 x3 x4 y6 s0 J K = some r → am_runs X T_Search_leave (66, [(0, am_pv 26), (1, am_pv 6), (2, am_iv x2), (3, am_iv x3), (4, am_iv x4), (6, am_jv y6)], [am_iv s0], am_SH, (J, K, am_RF b)) (none, am_SH, (r.1, r.2, am_RF b)) := by
  intro x2 x3 x4 y6 s0 J K r h
  unfold f_Search_leave_L66 at h
  obtain ⟨q754, e755, h⟩ := am_bind_some h
  refine am_r_call (show am_stepn X T_Search_leave 16 true (66, [(0, am_pv 26), (1, am_pv 6), (2, am_iv x2), (3, am_iv x3), (4, am_iv x4), (6, am_jv y6)], [am_iv s0], am_SH, (J, K, am_RF b)) = some ((am_in 5 7 && true), .inr (.inl (91, [am_pv 6, am_iv x2, am_iv (x4 - (J 26 1))], 4, 0, 0, 93, [(0, am_pv 26), (1, am_pv 6), (2, am_iv x2), (3, am_iv x3), (4, am_iv x4), (6, am_jv y6), (8, am_iv s0), (9, am_iv (x4 + (J (6 + 1) 5)))], [am_jv y6], am_SH, (J, K, am_RF b)))) from rfl) (am_gi (by decide) rfl) tb_River_bitsAfloatIn (s_River_bitsAfloatIn (by decide) e755) ?_
  obtain ⟨q756, e757, h⟩ := am_bind_some h
  refine am_r_call (show am_stepn X T_Search_leave 5 true (93, [(0, am_pv 26), (1, am_pv 6), (2, am_iv x2), (3, am_iv x3), (4, am_iv x4), (6, am_jv y6), (8, am_iv s0), (9, am_iv (x4 + (J (6 + 1) 5)))], [am_jv q754, am_jv y6], am_SH, (J, K, am_RF b)) = some (true, .inr (.inl (87, [am_pv 26, am_iv s0], 2, 0, 0, 102, [(0, am_pv 26), (1, am_pv 6), (2, am_iv x2), (3, am_iv x3), (4, am_iv x4), (6, am_jv y6), (8, am_iv s0), (9, am_iv (x4 + (J (6 + 1) 5))), (10, am_jv (y6 &&& q754))], [], am_SH, (J, K, am_RF b)))) from rfl) rfl tb_Search_serves (s_Search_serves e757) ?_
  obtain ⟨g758, h⟩ := am_if_some h
  by_cases c759 : q756 = 0
  · rw [if_pos c759] at h
    refine am_r_t (show am_stepn X T_Search_leave 1 true (102, [(0, am_pv 26), (1, am_pv 6), (2, am_iv x2), (3, am_iv x3), (4, am_iv x4), (6, am_jv y6), (8, am_iv s0), (9, am_iv (x4 + (J (6 + 1) 5))), (10, am_jv (y6 &&& q754))], [am_iv q756], am_SH, (J, K, am_RF b)) = some ((decide (am_i32 q756) && true), .inl (bif am_cb .eq q756 0 then 123 else 105, [(0, am_pv 26), (1, am_pv 6), (2, am_iv x2), (3, am_iv x3), (4, am_iv x4), (6, am_jv y6), (8, am_iv s0), (9, am_iv (x4 + (J (6 + 1) 5))), (10, am_jv (y6 &&& q754))], [], am_SH, (J, K, am_RF b))) from rfl) (am_g1 g758 rfl) (decide_eq_true c759) ?_
    refine am_r_go (show am_stepn X T_Search_leave 1 true (123, [(0, am_pv 26), (1, am_pv 6), (2, am_iv x2), (3, am_iv x3), (4, am_iv x4), (6, am_jv y6), (8, am_iv s0), (9, am_iv (x4 + (J (6 + 1) 5))), (10, am_jv (y6 &&& q754))], [], am_SH, (J, K, am_RF b)) = some (true, .inl (124, [(0, am_pv 26), (1, am_pv 6), (2, am_iv x2), (3, am_iv x3), (4, am_iv x4), (8, am_iv s0), (9, am_iv (x4 + (J (6 + 1) 5))), (10, am_jv (y6 &&& q754))], [am_jv (0 : Int64)], am_SH, (J, K, am_RF b))) from rfl) rfl ?_
    exact s_Search_leave_L124_6_  _ _ _ _ _ _ _ _ _ _ h
  · rw [if_neg c759] at h
    refine am_r_f (show am_stepn X T_Search_leave 1 true (102, [(0, am_pv 26), (1, am_pv 6), (2, am_iv x2), (3, am_iv x3), (4, am_iv x4), (6, am_jv y6), (8, am_iv s0), (9, am_iv (x4 + (J (6 + 1) 5))), (10, am_jv (y6 &&& q754))], [am_iv q756], am_SH, (J, K, am_RF b)) = some ((decide (am_i32 q756) && true), .inl (bif am_cb .eq q756 0 then 123 else 105, [(0, am_pv 26), (1, am_pv 6), (2, am_iv x2), (3, am_iv x3), (4, am_iv x4), (6, am_jv y6), (8, am_iv s0), (9, am_iv (x4 + (J (6 + 1) 5))), (10, am_jv (y6 &&& q754))], [], am_SH, (J, K, am_RF b))) from rfl) (am_g1 g758 rfl) (decide_eq_false c759) ?_
    obtain ⟨q760, e761, h⟩ := am_bind_some h
    refine am_r_call (show am_stepn X T_Search_leave 9 true (105, [(0, am_pv 26), (1, am_pv 6), (2, am_iv x2), (3, am_iv x3), (4, am_iv x4), (6, am_jv y6), (8, am_iv s0), (9, am_iv (x4 + (J (6 + 1) 5))), (10, am_jv (y6 &&& q754))], [], am_SH, (J, K, am_RF b)) = some (true, .inr (.inl (91, [am_pv 6, am_iv s0, am_iv ((x4 + 1) - (J 26 1))], 4, 0, 0, 120, [(0, am_pv 26), (1, am_pv 6), (2, am_iv x2), (3, am_iv x3), (4, am_iv x4), (8, am_iv s0), (9, am_iv (x4 + (J (6 + 1) 5))), (10, am_jv (y6 &&& q754))], [], am_SH, (J, K, am_RF b)))) from rfl) rfl tb_River_bitsAfloatIn (s_River_bitsAfloatIn (by decide) e761) ?_
    refine am_r_go (show am_stepn X T_Search_leave 1 true (120, [(0, am_pv 26), (1, am_pv 6), (2, am_iv x2), (3, am_iv x3), (4, am_iv x4), (8, am_iv s0), (9, am_iv (x4 + (J (6 + 1) 5))), (10, am_jv (y6 &&& q754))], [am_jv q760], am_SH, (J, K, am_RF b)) = some (true, .inl (124, [(0, am_pv 26), (1, am_pv 6), (2, am_iv x2), (3, am_iv x3), (4, am_iv x4), (8, am_iv s0), (9, am_iv (x4 + (J (6 + 1) 5))), (10, am_jv (y6 &&& q754))], [am_jv q760], am_SH, (J, K, am_RF b))) from rfl) rfl ?_
    exact s_Search_leave_L124_6_  _ _ _ _ _ _ _ _ _ _ h
theorem s_Search_leave_6_ {X : am_X} {b : Bool} {x2 : Int} {x3 : Int} {x4 : Int} {J : am_J} {K : am_K} {r : am_J × am_K} (h : f_Search_leave 6 x2 x3 x4 J K = some r) : am_runs X T_Search_leave (0, [(0, am_pv 26), (1, am_pv 6), (2, am_iv x2), (3, am_iv x3), (4, am_iv x4)], [], am_SH, (J, K, am_RF b)) (none, am_SH, (r.1, r.2, am_RF b)) := by
  unfold f_Search_leave at h
  obtain ⟨q762, e763, h⟩ := am_bind_some h
  refine am_r_call (show am_stepn X T_Search_leave 4 true (0, [(0, am_pv 26), (1, am_pv 6), (2, am_iv x2), (3, am_iv x3), (4, am_iv x4)], [], am_SH, (J, K, am_RF b)) = some (true, .inr (.inl (88, [am_iv x2, am_iv x3, am_iv x4], 3, 0, 0, 7, [(0, am_pv 26), (1, am_pv 6), (2, am_iv x2), (3, am_iv x3), (4, am_iv x4)], [], am_SH, (J, K, am_RF b)))) from rfl) rfl tb_Search_indexOf (s_Search_indexOf e763) ?_
  obtain ⟨g764, h⟩ := am_if_some h
  obtain ⟨g765, h⟩ := am_if_some h
  by_cases c766 : (am_lcmp (K 27 q762.toNat) (0 : Int64)) = 0
  · rw [if_pos c766] at h
    refine am_r_f (show am_stepn X T_Search_leave 15 true (7, [(0, am_pv 26), (1, am_pv 6), (2, am_iv x2), (3, am_iv x3), (4, am_iv x4)], [am_iv q762], am_SH, (J, K, am_RF b)) = some ((decide (am_i32 (am_lcmp (K 27 q762.toNat) (0 : Int64))) && (am_in q762 180 && (am_in q762 180 && true))), .inl (bif am_cb .ne (am_lcmp (K 27 q762.toNat) (0 : Int64)) 0 then 34 else 33, [(0, am_pv 26), (1, am_pv 6), (2, am_iv x2), (3, am_iv x3), (4, am_iv x4), (5, am_iv q762), (6, am_jv (K 27 q762.toNat))], [], am_SH, (J, (am_ul K 27 q762.toNat (0 : Int64)), am_RF b))) from rfl) (am_g1 g765 (am_gi g764 (am_gi g764 rfl))) (am_nd_t c766) ?_
    obtain rfl := Option.some.inj h
    exact am_r_ret (show am_stepn X T_Search_leave 1 true (33, [(0, am_pv 26), (1, am_pv 6), (2, am_iv x2), (3, am_iv x3), (4, am_iv x4), (5, am_iv q762), (6, am_jv (K 27 q762.toNat))], [], am_SH, (J, (am_ul K 27 q762.toNat (0 : Int64)), am_RF b)) = some (true, .inr (.inr (none, am_SH, (J, (am_ul K 27 q762.toNat (0 : Int64)), am_RF b)))) from rfl) rfl
  · rw [if_neg c766] at h
    refine am_r_t (show am_stepn X T_Search_leave 15 true (7, [(0, am_pv 26), (1, am_pv 6), (2, am_iv x2), (3, am_iv x3), (4, am_iv x4)], [am_iv q762], am_SH, (J, K, am_RF b)) = some ((decide (am_i32 (am_lcmp (K 27 q762.toNat) (0 : Int64))) && (am_in q762 180 && (am_in q762 180 && true))), .inl (bif am_cb .ne (am_lcmp (K 27 q762.toNat) (0 : Int64)) 0 then 34 else 33, [(0, am_pv 26), (1, am_pv 6), (2, am_iv x2), (3, am_iv x3), (4, am_iv x4), (5, am_iv q762), (6, am_jv (K 27 q762.toNat))], [], am_SH, (J, (am_ul K 27 q762.toNat (0 : Int64)), am_RF b))) from rfl) (am_g1 g765 (am_gi g764 (am_gi g764 rfl))) (am_nd_f c766) ?_
    obtain ⟨q767, e768, h⟩ := am_bind_some h
    refine am_r_call (show am_stepn X T_Search_leave 8 true (34, [(0, am_pv 26), (1, am_pv 6), (2, am_iv x2), (3, am_iv x3), (4, am_iv x4), (5, am_iv q762), (6, am_jv (K 27 q762.toNat))], [], am_SH, (J, (am_ul K 27 q762.toNat (0 : Int64)), am_RF b)) = some (true, .inr (.inl (88, [am_iv x2, am_iv x3, am_iv (x4 + 1)], 3, 0, 0, 47, [(0, am_pv 26), (1, am_pv 6), (2, am_iv x2), (3, am_iv x3), (4, am_iv x4), (6, am_jv (K 27 q762.toNat))], [am_pv 27], am_SH, (J, (am_ul K 27 q762.toNat (0 : Int64)), am_RF b)))) from rfl) rfl tb_Search_indexOf (s_Search_indexOf e768) ?_
    obtain ⟨g769, h⟩ := am_if_some h
    obtain ⟨g770, h⟩ := am_if_some h
    by_cases c771 : x3 = 0
    · rw [if_pos c771] at h
      refine am_r_f (show am_stepn X T_Search_leave 7 true (47, [(0, am_pv 26), (1, am_pv 6), (2, am_iv x2), (3, am_iv x3), (4, am_iv x4), (6, am_jv (K 27 q762.toNat))], [am_iv q767, am_pv 27], am_SH, (J, (am_ul K 27 q762.toNat (0 : Int64)), am_RF b)) = some ((decide (am_i32 x3) && (am_in q767 180 && (am_in q767 180 && true))), .inl (bif am_cb .ne x3 0 then 63 else 57, [(0, am_pv 26), (1, am_pv 6), (2, am_iv x2), (3, am_iv x3), (4, am_iv x4), (6, am_jv (K 27 q762.toNat))], [], am_SH, (J, (am_ul (am_ul K 27 q762.toNat (0 : Int64)) 27 q767.toNat (((am_ul K 27 q762.toNat (0 : Int64)) 27 q767.toNat) ||| (K 27 q762.toNat))), am_RF b))) from rfl) (am_g1 g770 (am_gi g769 (am_gi g769 rfl))) (am_nd_t c771) ?_
      refine am_r_go (show am_stepn X T_Search_leave 4 true (57, [(0, am_pv 26), (1, am_pv 6), (2, am_iv x2), (3, am_iv x3), (4, am_iv x4), (6, am_jv (K 27 q762.toNat))], [], am_SH, (J, (am_ul (am_ul K 27 q762.toNat (0 : Int64)) 27 q767.toNat (((am_ul K 27 q762.toNat (0 : Int64)) 27 q767.toNat) ||| (K 27 q762.toNat))), am_RF b)) = some (true, .inl (66, [(0, am_pv 26), (1, am_pv 6), (2, am_iv x2), (3, am_iv x3), (4, am_iv x4), (6, am_jv (K 27 q762.toNat))], [am_iv (x2 + 1)], am_SH, (J, (am_ul (am_ul K 27 q762.toNat (0 : Int64)) 27 q767.toNat (((am_ul K 27 q762.toNat (0 : Int64)) 27 q767.toNat) ||| (K 27 q762.toNat))), am_RF b))) from rfl) rfl ?_
      exact s_Search_leave_L66_6_  _ _ _ _ _ _ _ _ h
    · rw [if_neg c771] at h
      refine am_r_t (show am_stepn X T_Search_leave 7 true (47, [(0, am_pv 26), (1, am_pv 6), (2, am_iv x2), (3, am_iv x3), (4, am_iv x4), (6, am_jv (K 27 q762.toNat))], [am_iv q767, am_pv 27], am_SH, (J, (am_ul K 27 q762.toNat (0 : Int64)), am_RF b)) = some ((decide (am_i32 x3) && (am_in q767 180 && (am_in q767 180 && true))), .inl (bif am_cb .ne x3 0 then 63 else 57, [(0, am_pv 26), (1, am_pv 6), (2, am_iv x2), (3, am_iv x3), (4, am_iv x4), (6, am_jv (K 27 q762.toNat))], [], am_SH, (J, (am_ul (am_ul K 27 q762.toNat (0 : Int64)) 27 q767.toNat (((am_ul K 27 q762.toNat (0 : Int64)) 27 q767.toNat) ||| (K 27 q762.toNat))), am_RF b))) from rfl) (am_g1 g770 (am_gi g769 (am_gi g769 rfl))) (am_nd_f c771) ?_
      refine am_r_go (show am_stepn X T_Search_leave 3 true (63, [(0, am_pv 26), (1, am_pv 6), (2, am_iv x2), (3, am_iv x3), (4, am_iv x4), (6, am_jv (K 27 q762.toNat))], [], am_SH, (J, (am_ul (am_ul K 27 q762.toNat (0 : Int64)) 27 q767.toNat (((am_ul K 27 q762.toNat (0 : Int64)) 27 q767.toNat) ||| (K 27 q762.toNat))), am_RF b)) = some (true, .inl (66, [(0, am_pv 26), (1, am_pv 6), (2, am_iv x2), (3, am_iv x3), (4, am_iv x4), (6, am_jv (K 27 q762.toNat))], [am_iv (x2 - 1)], am_SH, (J, (am_ul (am_ul K 27 q762.toNat (0 : Int64)) 27 q767.toNat (((am_ul K 27 q762.toNat (0 : Int64)) 27 q767.toNat) ||| (K 27 q762.toNat))), am_RF b))) from rfl) rfl ?_
      exact s_Search_leave_L66_6_  _ _ _ _ _ _ _ _ h
theorem s_Search_leave {X : am_X} {b : Bool} {o1 : Nat} (ho : o1 = 32 ∨ o1 = 6) {x2 : Int} {x3 : Int} {x4 : Int} {J : am_J} {K : am_K} {r : am_J × am_K} (h : f_Search_leave o1 x2 x3 x4 J K = some r) : am_runs X T_Search_leave (0, [(0, am_pv 26), (1, am_pv o1), (2, am_iv x2), (3, am_iv x3), (4, am_iv x4)], [], am_SH, (J, K, am_RF b)) (none, am_SH, (r.1, r.2, am_RF b)) := by
  rcases ho with rfl | rfl
  · skip
    exact s_Search_leave_32_ h
  · skip
    exact s_Search_leave_6_ h
theorem s_Search_arrive_L74_32_ {X : am_X} {b : Bool}  : ∀ (x3 : Int) (J : am_J) (K : am_K) (r : Int × am_J × am_K), f_Search_arrive_L74 32   x3 J K = some r → am_runs X T_Search_arrive (74, [(0, am_pv 26), (3, am_iv x3)], [], am_SH, (J, K, am_RF b)) (some (am_iv r.1), am_SH, (r.2.1, r.2.2, am_RF b)) := by
  intro x3 J K r h
  unfold f_Search_arrive_L74 at h
  obtain ⟨g772, h⟩ := am_if_some h
  obtain ⟨g773, h⟩ := am_if_some h
  by_cases c774 : x3 < (J 26 6)
  · rw [if_pos c774] at h
    refine am_r_t (show am_stepn X T_Search_arrive 4 true (74, [(0, am_pv 26), (3, am_iv x3)], [], am_SH, (J, K, am_RF b)) = some (((decide (am_i32 x3) && decide (am_i32 (J 26 6))) && true), .inl (bif am_cb .gt (J 26 6) x3 then 89 else 82, [(0, am_pv 26), (3, am_iv x3)], [], am_SH, (J, K, am_RF b))) from rfl) (am_g2 g772 g773 rfl) (decide_eq_true c774) ?_
    obtain rfl := Option.some.inj h
    exact am_r_ret (show am_stepn X T_Search_arrive 2 true (89, [(0, am_pv 26), (3, am_iv x3)], [], am_SH, (J, K, am_RF b)) = some (true, .inr (.inr (some (am_iv (-4)), am_SH, (J, K, am_RF b)))) from rfl) rfl
  · rw [if_neg c774] at h
    refine am_r_f (show am_stepn X T_Search_arrive 4 true (74, [(0, am_pv 26), (3, am_iv x3)], [], am_SH, (J, K, am_RF b)) = some (((decide (am_i32 x3) && decide (am_i32 (J 26 6))) && true), .inl (bif am_cb .gt (J 26 6) x3 then 89 else 82, [(0, am_pv 26), (3, am_iv x3)], [], am_SH, (J, K, am_RF b))) from rfl) (am_g2 g772 g773 rfl) (decide_eq_false c774) ?_
    obtain rfl := Option.some.inj h
    exact am_r_ret (show am_stepn X T_Search_arrive 4 true (82, [(0, am_pv 26), (3, am_iv x3)], [], am_SH, (J, K, am_RF b)) = some (true, .inr (.inr (some (am_iv (J 26 6)), am_SH, (J, K, am_RF b)))) from rfl) rfl
theorem s_Search_arrive_L33_32_ {X : am_X} {b : Bool} {kb10 : Int → Int → am_J → am_K → Option (Int × am_J × am_K)} (hk10 : ∀ (x3 : Int) (x4 : Int) (J : am_J) (K : am_K) (r : Int × am_J × am_K), kb10 x3 x4 J K = some r → am_runs X T_Search_arrive (10, [(0, am_pv 26), (1, am_pv 32), (3, am_iv x3), (4, am_iv x4)], [], am_SH, (J, K, am_RF b)) (some (am_iv r.1), am_SH, (r.2.1, r.2.2, am_RF b))) : ∀ (n : Nat) (x3 : Int) (x4 : Int) (x5 : Int) (J : am_J) (K : am_K) (r : Int × am_J × am_K), f_Search_arrive_L33 32 kb10 n x3 x4 x5 J K = some r → am_runs X T_Search_arrive (33, [(0, am_pv 26), (1, am_pv 32), (3, am_iv x3), (4, am_iv x4), (5, am_iv x5)], [], am_SH, (J, K, am_RF b)) (some (am_iv r.1), am_SH, (r.2.1, r.2.2, am_RF b)) := by
  intro n
  induction n with
  | zero =>
    intro x3 x4 x5 J K r h
    cases h
  | succ n ih =>
    intro x3 x4 x5 J K r h
    rw [f_Search_arrive_L33.eq_2] at h
    obtain ⟨g775, h⟩ := am_if_some h
    obtain ⟨g776, h⟩ := am_if_some h
    by_cases c777 : (J 26 3) < x5
    · rw [if_pos c777] at h
      refine am_r_t (show am_stepn X T_Search_arrive 4 true (33, [(0, am_pv 26), (1, am_pv 32), (3, am_iv x3), (4, am_iv x4), (5, am_iv x5)], [], am_SH, (J, K, am_RF b)) = some (((decide (am_i32 (J 26 3)) && decide (am_i32 x5)) && true), .inl (bif am_cb .gt x5 (J 26 3) then 68 else 42, [(0, am_pv 26), (1, am_pv 32), (3, am_iv x3), (4, am_iv x4), (5, am_iv x5)], [], am_SH, (J, K, am_RF b))) from rfl) (am_g2 g775 g776 rfl) (decide_eq_true c777) ?_
      refine am_r_go (show am_stepn X T_Search_arrive 2 true (68, [(0, am_pv 26), (1, am_pv 32), (3, am_iv x3), (4, am_iv x4), (5, am_iv x5)], [], am_SH, (J, K, am_RF b)) = some (true, .inl (10, [(0, am_pv 26), (1, am_pv 32), (3, am_iv x3), (4, am_iv (x4 + 1))], [], am_SH, (J, K, am_RF b))) from rfl) rfl ?_
      exact hk10 _ _ _ _ _ h
    · rw [if_neg c777] at h
      refine am_r_f (show am_stepn X T_Search_arrive 4 true (33, [(0, am_pv 26), (1, am_pv 32), (3, am_iv x3), (4, am_iv x4), (5, am_iv x5)], [], am_SH, (J, K, am_RF b)) = some (((decide (am_i32 (J 26 3)) && decide (am_i32 x5)) && true), .inl (bif am_cb .gt x5 (J 26 3) then 68 else 42, [(0, am_pv 26), (1, am_pv 32), (3, am_iv x3), (4, am_iv x4), (5, am_iv x5)], [], am_SH, (J, K, am_RF b))) from rfl) (am_g2 g775 g776 rfl) (decide_eq_false c777) ?_
      obtain ⟨q778, e779, h⟩ := am_bind_some h
      refine am_r_call (show am_stepn X T_Search_arrive 6 true (42, [(0, am_pv 26), (1, am_pv 32), (3, am_iv x3), (4, am_iv x4), (5, am_iv x5)], [], am_SH, (J, K, am_RF b)) = some (true, .inr (.inl (90, [am_pv 26, am_pv 32, am_iv x5, am_iv 0, am_iv x4], 21, 0, 0, 52, [(0, am_pv 26), (1, am_pv 32), (3, am_iv x3), (4, am_iv x4), (5, am_iv x5)], [], am_SH, (J, K, am_RF b)))) from rfl) rfl tb_Search_leave (s_Search_leave (by decide) e779) ?_
      obtain ⟨q780, e781, h⟩ := am_bind_some h
      refine am_r_call (show am_stepn X T_Search_arrive 6 true (52, [(0, am_pv 26), (1, am_pv 32), (3, am_iv x3), (4, am_iv x4), (5, am_iv x5)], [], am_SH, (q778.1, q778.2, am_RF b)) = some (true, .inr (.inl (90, [am_pv 26, am_pv 32, am_iv x5, am_iv 1, am_iv x4], 21, 0, 0, 62, [(0, am_pv 26), (1, am_pv 32), (3, am_iv x3), (4, am_iv x4), (5, am_iv x5)], [], am_SH, (q778.1, q778.2, am_RF b)))) from rfl) rfl tb_Search_leave (s_Search_leave (by decide) e781) ?_
      refine am_r_go (show am_stepn X T_Search_arrive 2 true (62, [(0, am_pv 26), (1, am_pv 32), (3, am_iv x3), (4, am_iv x4), (5, am_iv x5)], [], am_SH, (q780.1, q780.2, am_RF b)) = some (true, .inl (33, [(0, am_pv 26), (1, am_pv 32), (3, am_iv x3), (4, am_iv x4), (5, am_iv (x5 + 1))], [], am_SH, (q780.1, q780.2, am_RF b))) from rfl) rfl ?_
      exact ih _ _ _ _ _ _ h
theorem s_Search_arrive_L10_32_ {X : am_X} {b : Bool}  : ∀ (n : Nat) (x3 : Int) (x4 : Int) (J : am_J) (K : am_K) (r : Int × am_J × am_K), f_Search_arrive_L10 32  n x3 x4 J K = some r → am_runs X T_Search_arrive (10, [(0, am_pv 26), (1, am_pv 32), (3, am_iv x3), (4, am_iv x4)], [], am_SH, (J, K, am_RF b)) (some (am_iv r.1), am_SH, (r.2.1, r.2.2, am_RF b)) := by
  intro n
  induction n with
  | zero =>
    intro x3 x4 J K r h
    cases h
  | succ n ih =>
    intro x3 x4 J K r h
    rw [f_Search_arrive_L10.eq_2] at h
    obtain ⟨g782, h⟩ := am_if_some h
    obtain ⟨g783, h⟩ := am_if_some h
    by_cases c784 : x4 < x3
    · rw [if_pos c784] at h
      refine am_r_f (show am_stepn X T_Search_arrive 3 true (10, [(0, am_pv 26), (1, am_pv 32), (3, am_iv x3), (4, am_iv x4)], [], am_SH, (J, K, am_RF b)) = some (((decide (am_i32 x3) && decide (am_i32 x4)) && true), .inl (bif am_cb .ge x4 x3 then 74 else 16, [(0, am_pv 26), (1, am_pv 32), (3, am_iv x3), (4, am_iv x4)], [], am_SH, (J, K, am_RF b))) from rfl) (am_g2 g782 g783 rfl) (am_nd_t c784) ?_
      obtain ⟨g785, h⟩ := am_if_some h
      obtain ⟨g786, h⟩ := am_if_some h
      by_cases c787 : (x4 + 1) < (J 26 6)
      · rw [if_pos c787] at h
        refine am_r_f (show am_stepn X T_Search_arrive 6 true (16, [(0, am_pv 26), (1, am_pv 32), (3, am_iv x3), (4, am_iv x4)], [], am_SH, (J, K, am_RF b)) = some (((decide (am_i32 (J 26 6)) && decide (am_i32 (x4 + 1))) && true), .inl (bif am_cb .ge (x4 + 1) (J 26 6) then 74 else 27, [(0, am_pv 26), (1, am_pv 32), (3, am_iv x3), (4, am_iv x4)], [], am_SH, (J, K, am_RF b))) from rfl) (am_g2 g785 g786 rfl) (am_nd_t c787) ?_
        refine am_r_go (show am_stepn X T_Search_arrive 3 true (27, [(0, am_pv 26), (1, am_pv 32), (3, am_iv x3), (4, am_iv x4)], [], am_SH, (J, K, am_RF b)) = some (true, .inl (33, [(0, am_pv 26), (1, am_pv 32), (3, am_iv x3), (4, am_iv x4), (5, am_iv (J 26 2))], [], am_SH, (J, K, am_RF b))) from rfl) rfl ?_
        exact s_Search_arrive_L33_32_ ih _ _ _ _ _ _ _ h
      · rw [if_neg c787] at h
        refine am_r_t (show am_stepn X T_Search_arrive 6 true (16, [(0, am_pv 26), (1, am_pv 32), (3, am_iv x3), (4, am_iv x4)], [], am_SH, (J, K, am_RF b)) = some (((decide (am_i32 (J 26 6)) && decide (am_i32 (x4 + 1))) && true), .inl (bif am_cb .ge (x4 + 1) (J 26 6) then 74 else 27, [(0, am_pv 26), (1, am_pv 32), (3, am_iv x3), (4, am_iv x4)], [], am_SH, (J, K, am_RF b))) from rfl) (am_g2 g785 g786 rfl) (am_nd_f c787) ?_
        refine am_r_eq (σ' := (74, [(0, am_pv 26), (3, am_iv x3)], [], am_SH, (J, K, am_RF b))) rfl ?_
        exact s_Search_arrive_L74_32_  _ _ _ _ h
    · rw [if_neg c784] at h
      refine am_r_t (show am_stepn X T_Search_arrive 3 true (10, [(0, am_pv 26), (1, am_pv 32), (3, am_iv x3), (4, am_iv x4)], [], am_SH, (J, K, am_RF b)) = some (((decide (am_i32 x3) && decide (am_i32 x4)) && true), .inl (bif am_cb .ge x4 x3 then 74 else 16, [(0, am_pv 26), (1, am_pv 32), (3, am_iv x3), (4, am_iv x4)], [], am_SH, (J, K, am_RF b))) from rfl) (am_g2 g782 g783 rfl) (am_nd_f c784) ?_
      refine am_r_eq (σ' := (74, [(0, am_pv 26), (3, am_iv x3)], [], am_SH, (J, K, am_RF b))) rfl ?_
      exact s_Search_arrive_L74_32_  _ _ _ _ h
theorem s_Search_arrive_32_ {X : am_X} {b : Bool} {x2 : Int} {x3 : Int} {J : am_J} {K : am_K} {r : Int × am_J × am_K} (h : f_Search_arrive 32 x2 x3 J K = some r) : am_runs X T_Search_arrive (0, [(0, am_pv 26), (1, am_pv 32), (2, am_iv x2), (3, am_iv x3)], [], am_SH, (J, K, am_RF b)) (some (am_iv r.1), am_SH, (r.2.1, r.2.2, am_RF b)) := by
  unfold f_Search_arrive at h
  refine am_r_go (show am_stepn X T_Search_arrive 7 true (0, [(0, am_pv 26), (1, am_pv 32), (2, am_iv x2), (3, am_iv x3)], [], am_SH, (J, K, am_RF b)) = some (true, .inl (10, [(0, am_pv 26), (1, am_pv 32), (2, am_iv x2), (3, am_iv x3), (4, am_iv x2)], [], am_SH, ((am_up J 26 6 (x3 + 1)), K, am_RF b))) from rfl) rfl ?_
  refine am_r_eq (σ' := (10, [(0, am_pv 26), (1, am_pv 32), (3, am_iv x3), (4, am_iv x2)], [], am_SH, ((am_up J 26 6 (x3 + 1)), K, am_RF b))) rfl ?_
  exact s_Search_arrive_L10_32_  _ _ _ _ _ _ h
theorem s_Search_arrive_L74_6_ {X : am_X} {b : Bool}  : ∀ (x3 : Int) (J : am_J) (K : am_K) (r : Int × am_J × am_K), f_Search_arrive_L74 6   x3 J K = some r → am_runs X T_Search_arrive (74, [(0, am_pv 26), (3, am_iv x3)], [], am_SH, (J, K, am_RF b)) (some (am_iv r.1), am_SH, (r.2.1, r.2.2, am_RF b)) := by
  intro x3 J K r h
  unfold f_Search_arrive_L74 at h
  obtain ⟨g772, h⟩ := am_if_some h
  obtain ⟨g773, h⟩ := am_if_some h
  by_cases c774 : x3 < (J 26 6)
  · rw [if_pos c774] at h
    refine am_r_t (show am_stepn X T_Search_arrive 4 true (74, [(0, am_pv 26), (3, am_iv x3)], [], am_SH, (J, K, am_RF b)) = some (((decide (am_i32 x3) && decide (am_i32 (J 26 6))) && true), .inl (bif am_cb .gt (J 26 6) x3 then 89 else 82, [(0, am_pv 26), (3, am_iv x3)], [], am_SH, (J, K, am_RF b))) from rfl) (am_g2 g772 g773 rfl) (decide_eq_true c774) ?_
    obtain rfl := Option.some.inj h
    exact am_r_ret (show am_stepn X T_Search_arrive 2 true (89, [(0, am_pv 26), (3, am_iv x3)], [], am_SH, (J, K, am_RF b)) = some (true, .inr (.inr (some (am_iv (-4)), am_SH, (J, K, am_RF b)))) from rfl) rfl
  · rw [if_neg c774] at h
    refine am_r_f (show am_stepn X T_Search_arrive 4 true (74, [(0, am_pv 26), (3, am_iv x3)], [], am_SH, (J, K, am_RF b)) = some (((decide (am_i32 x3) && decide (am_i32 (J 26 6))) && true), .inl (bif am_cb .gt (J 26 6) x3 then 89 else 82, [(0, am_pv 26), (3, am_iv x3)], [], am_SH, (J, K, am_RF b))) from rfl) (am_g2 g772 g773 rfl) (decide_eq_false c774) ?_
    obtain rfl := Option.some.inj h
    exact am_r_ret (show am_stepn X T_Search_arrive 4 true (82, [(0, am_pv 26), (3, am_iv x3)], [], am_SH, (J, K, am_RF b)) = some (true, .inr (.inr (some (am_iv (J 26 6)), am_SH, (J, K, am_RF b)))) from rfl) rfl
theorem s_Search_arrive_L33_6_ {X : am_X} {b : Bool} {kb10 : Int → Int → am_J → am_K → Option (Int × am_J × am_K)} (hk10 : ∀ (x3 : Int) (x4 : Int) (J : am_J) (K : am_K) (r : Int × am_J × am_K), kb10 x3 x4 J K = some r → am_runs X T_Search_arrive (10, [(0, am_pv 26), (1, am_pv 6), (3, am_iv x3), (4, am_iv x4)], [], am_SH, (J, K, am_RF b)) (some (am_iv r.1), am_SH, (r.2.1, r.2.2, am_RF b))) : ∀ (n : Nat) (x3 : Int) (x4 : Int) (x5 : Int) (J : am_J) (K : am_K) (r : Int × am_J × am_K), f_Search_arrive_L33 6 kb10 n x3 x4 x5 J K = some r → am_runs X T_Search_arrive (33, [(0, am_pv 26), (1, am_pv 6), (3, am_iv x3), (4, am_iv x4), (5, am_iv x5)], [], am_SH, (J, K, am_RF b)) (some (am_iv r.1), am_SH, (r.2.1, r.2.2, am_RF b)) := by
  intro n
  induction n with
  | zero =>
    intro x3 x4 x5 J K r h
    cases h
  | succ n ih =>
    intro x3 x4 x5 J K r h
    rw [f_Search_arrive_L33.eq_2] at h
    obtain ⟨g775, h⟩ := am_if_some h
    obtain ⟨g776, h⟩ := am_if_some h
    by_cases c777 : (J 26 3) < x5
    · rw [if_pos c777] at h
      refine am_r_t (show am_stepn X T_Search_arrive 4 true (33, [(0, am_pv 26), (1, am_pv 6), (3, am_iv x3), (4, am_iv x4), (5, am_iv x5)], [], am_SH, (J, K, am_RF b)) = some (((decide (am_i32 (J 26 3)) && decide (am_i32 x5)) && true), .inl (bif am_cb .gt x5 (J 26 3) then 68 else 42, [(0, am_pv 26), (1, am_pv 6), (3, am_iv x3), (4, am_iv x4), (5, am_iv x5)], [], am_SH, (J, K, am_RF b))) from rfl) (am_g2 g775 g776 rfl) (decide_eq_true c777) ?_
      refine am_r_go (show am_stepn X T_Search_arrive 2 true (68, [(0, am_pv 26), (1, am_pv 6), (3, am_iv x3), (4, am_iv x4), (5, am_iv x5)], [], am_SH, (J, K, am_RF b)) = some (true, .inl (10, [(0, am_pv 26), (1, am_pv 6), (3, am_iv x3), (4, am_iv (x4 + 1))], [], am_SH, (J, K, am_RF b))) from rfl) rfl ?_
      exact hk10 _ _ _ _ _ h
    · rw [if_neg c777] at h
      refine am_r_f (show am_stepn X T_Search_arrive 4 true (33, [(0, am_pv 26), (1, am_pv 6), (3, am_iv x3), (4, am_iv x4), (5, am_iv x5)], [], am_SH, (J, K, am_RF b)) = some (((decide (am_i32 (J 26 3)) && decide (am_i32 x5)) && true), .inl (bif am_cb .gt x5 (J 26 3) then 68 else 42, [(0, am_pv 26), (1, am_pv 6), (3, am_iv x3), (4, am_iv x4), (5, am_iv x5)], [], am_SH, (J, K, am_RF b))) from rfl) (am_g2 g775 g776 rfl) (decide_eq_false c777) ?_
      obtain ⟨q778, e779, h⟩ := am_bind_some h
      refine am_r_call (show am_stepn X T_Search_arrive 6 true (42, [(0, am_pv 26), (1, am_pv 6), (3, am_iv x3), (4, am_iv x4), (5, am_iv x5)], [], am_SH, (J, K, am_RF b)) = some (true, .inr (.inl (90, [am_pv 26, am_pv 6, am_iv x5, am_iv 0, am_iv x4], 21, 0, 0, 52, [(0, am_pv 26), (1, am_pv 6), (3, am_iv x3), (4, am_iv x4), (5, am_iv x5)], [], am_SH, (J, K, am_RF b)))) from rfl) rfl tb_Search_leave (s_Search_leave (by decide) e779) ?_
      obtain ⟨q780, e781, h⟩ := am_bind_some h
      refine am_r_call (show am_stepn X T_Search_arrive 6 true (52, [(0, am_pv 26), (1, am_pv 6), (3, am_iv x3), (4, am_iv x4), (5, am_iv x5)], [], am_SH, (q778.1, q778.2, am_RF b)) = some (true, .inr (.inl (90, [am_pv 26, am_pv 6, am_iv x5, am_iv 1, am_iv x4], 21, 0, 0, 62, [(0, am_pv 26), (1, am_pv 6), (3, am_iv x3), (4, am_iv x4), (5, am_iv x5)], [], am_SH, (q778.1, q778.2, am_RF b)))) from rfl) rfl tb_Search_leave (s_Search_leave (by decide) e781) ?_
      refine am_r_go (show am_stepn X T_Search_arrive 2 true (62, [(0, am_pv 26), (1, am_pv 6), (3, am_iv x3), (4, am_iv x4), (5, am_iv x5)], [], am_SH, (q780.1, q780.2, am_RF b)) = some (true, .inl (33, [(0, am_pv 26), (1, am_pv 6), (3, am_iv x3), (4, am_iv x4), (5, am_iv (x5 + 1))], [], am_SH, (q780.1, q780.2, am_RF b))) from rfl) rfl ?_
      exact ih _ _ _ _ _ _ h
theorem s_Search_arrive_L10_6_ {X : am_X} {b : Bool}  : ∀ (n : Nat) (x3 : Int) (x4 : Int) (J : am_J) (K : am_K) (r : Int × am_J × am_K), f_Search_arrive_L10 6  n x3 x4 J K = some r → am_runs X T_Search_arrive (10, [(0, am_pv 26), (1, am_pv 6), (3, am_iv x3), (4, am_iv x4)], [], am_SH, (J, K, am_RF b)) (some (am_iv r.1), am_SH, (r.2.1, r.2.2, am_RF b)) := by
  intro n
  induction n with
  | zero =>
    intro x3 x4 J K r h
    cases h
  | succ n ih =>
    intro x3 x4 J K r h
    rw [f_Search_arrive_L10.eq_2] at h
    obtain ⟨g782, h⟩ := am_if_some h
    obtain ⟨g783, h⟩ := am_if_some h
    by_cases c784 : x4 < x3
    · rw [if_pos c784] at h
      refine am_r_f (show am_stepn X T_Search_arrive 3 true (10, [(0, am_pv 26), (1, am_pv 6), (3, am_iv x3), (4, am_iv x4)], [], am_SH, (J, K, am_RF b)) = some (((decide (am_i32 x3) && decide (am_i32 x4)) && true), .inl (bif am_cb .ge x4 x3 then 74 else 16, [(0, am_pv 26), (1, am_pv 6), (3, am_iv x3), (4, am_iv x4)], [], am_SH, (J, K, am_RF b))) from rfl) (am_g2 g782 g783 rfl) (am_nd_t c784) ?_
      obtain ⟨g785, h⟩ := am_if_some h
      obtain ⟨g786, h⟩ := am_if_some h
      by_cases c787 : (x4 + 1) < (J 26 6)
      · rw [if_pos c787] at h
        refine am_r_f (show am_stepn X T_Search_arrive 6 true (16, [(0, am_pv 26), (1, am_pv 6), (3, am_iv x3), (4, am_iv x4)], [], am_SH, (J, K, am_RF b)) = some (((decide (am_i32 (J 26 6)) && decide (am_i32 (x4 + 1))) && true), .inl (bif am_cb .ge (x4 + 1) (J 26 6) then 74 else 27, [(0, am_pv 26), (1, am_pv 6), (3, am_iv x3), (4, am_iv x4)], [], am_SH, (J, K, am_RF b))) from rfl) (am_g2 g785 g786 rfl) (am_nd_t c787) ?_
        refine am_r_go (show am_stepn X T_Search_arrive 3 true (27, [(0, am_pv 26), (1, am_pv 6), (3, am_iv x3), (4, am_iv x4)], [], am_SH, (J, K, am_RF b)) = some (true, .inl (33, [(0, am_pv 26), (1, am_pv 6), (3, am_iv x3), (4, am_iv x4), (5, am_iv (J 26 2))], [], am_SH, (J, K, am_RF b))) from rfl) rfl ?_
        exact s_Search_arrive_L33_6_ ih _ _ _ _ _ _ _ h
      · rw [if_neg c787] at h
        refine am_r_t (show am_stepn X T_Search_arrive 6 true (16, [(0, am_pv 26), (1, am_pv 6), (3, am_iv x3), (4, am_iv x4)], [], am_SH, (J, K, am_RF b)) = some (((decide (am_i32 (J 26 6)) && decide (am_i32 (x4 + 1))) && true), .inl (bif am_cb .ge (x4 + 1) (J 26 6) then 74 else 27, [(0, am_pv 26), (1, am_pv 6), (3, am_iv x3), (4, am_iv x4)], [], am_SH, (J, K, am_RF b))) from rfl) (am_g2 g785 g786 rfl) (am_nd_f c787) ?_
        refine am_r_eq (σ' := (74, [(0, am_pv 26), (3, am_iv x3)], [], am_SH, (J, K, am_RF b))) rfl ?_
        exact s_Search_arrive_L74_6_  _ _ _ _ h
    · rw [if_neg c784] at h
      refine am_r_t (show am_stepn X T_Search_arrive 3 true (10, [(0, am_pv 26), (1, am_pv 6), (3, am_iv x3), (4, am_iv x4)], [], am_SH, (J, K, am_RF b)) = some (((decide (am_i32 x3) && decide (am_i32 x4)) && true), .inl (bif am_cb .ge x4 x3 then 74 else 16, [(0, am_pv 26), (1, am_pv 6), (3, am_iv x3), (4, am_iv x4)], [], am_SH, (J, K, am_RF b))) from rfl) (am_g2 g782 g783 rfl) (am_nd_f c784) ?_
      refine am_r_eq (σ' := (74, [(0, am_pv 26), (3, am_iv x3)], [], am_SH, (J, K, am_RF b))) rfl ?_
      exact s_Search_arrive_L74_6_  _ _ _ _ h
theorem s_Search_arrive_6_ {X : am_X} {b : Bool} {x2 : Int} {x3 : Int} {J : am_J} {K : am_K} {r : Int × am_J × am_K} (h : f_Search_arrive 6 x2 x3 J K = some r) : am_runs X T_Search_arrive (0, [(0, am_pv 26), (1, am_pv 6), (2, am_iv x2), (3, am_iv x3)], [], am_SH, (J, K, am_RF b)) (some (am_iv r.1), am_SH, (r.2.1, r.2.2, am_RF b)) := by
  unfold f_Search_arrive at h
  refine am_r_go (show am_stepn X T_Search_arrive 7 true (0, [(0, am_pv 26), (1, am_pv 6), (2, am_iv x2), (3, am_iv x3)], [], am_SH, (J, K, am_RF b)) = some (true, .inl (10, [(0, am_pv 26), (1, am_pv 6), (2, am_iv x2), (3, am_iv x3), (4, am_iv x2)], [], am_SH, ((am_up J 26 6 (x3 + 1)), K, am_RF b))) from rfl) rfl ?_
  refine am_r_eq (σ' := (10, [(0, am_pv 26), (1, am_pv 6), (3, am_iv x3), (4, am_iv x2)], [], am_SH, ((am_up J 26 6 (x3 + 1)), K, am_RF b))) rfl ?_
  exact s_Search_arrive_L10_6_  _ _ _ _ _ _ h
theorem s_Search_arrive {X : am_X} {b : Bool} {o1 : Nat} (ho : o1 = 32 ∨ o1 = 6) {x2 : Int} {x3 : Int} {J : am_J} {K : am_K} {r : Int × am_J × am_K} (h : f_Search_arrive o1 x2 x3 J K = some r) : am_runs X T_Search_arrive (0, [(0, am_pv 26), (1, am_pv o1), (2, am_iv x2), (3, am_iv x3)], [], am_SH, (J, K, am_RF b)) (some (am_iv r.1), am_SH, (r.2.1, r.2.2, am_RF b)) := by
  rcases ho with rfl | rfl
  · skip
    exact s_Search_arrive_32_ h
  · skip
    exact s_Search_arrive_6_ h
theorem s_Search_begin_L34_32_ {X : am_X} {b : Bool}  : ∀ (n : Nat) (x3 : Int) (J : am_J) (K : am_K) (r : am_J × am_K), f_Search_begin_L34 32  n x3 J K = some r → am_runs X T_Search_begin (34, [(0, am_pv 26), (3, am_iv x3)], [], am_SH, (J, K, am_RF b)) (none, am_SH, (r.1, r.2, am_RF b)) := by
  intro n
  induction n with
  | zero =>
    intro x3 J K r h
    cases h
  | succ n ih =>
    intro x3 J K r h
    rw [f_Search_begin_L34.eq_2] at h
    obtain ⟨g788, h⟩ := am_if_some h
    by_cases c789 : x3 < 180
    · rw [if_pos c789] at h
      refine am_r_f (show am_stepn X T_Search_begin 5 true (34, [(0, am_pv 26), (3, am_iv x3)], [], am_SH, (J, K, am_RF b)) = some (((decide (am_i32 180) && decide (am_i32 x3)) && true), .inl (bif am_cb .ge x3 180 then 56 else 43, [(0, am_pv 26), (3, am_iv x3)], [], am_SH, (J, K, am_RF b))) from rfl) (am_g2 (by decide) g788 rfl) (am_nd_t c789) ?_
      obtain ⟨g790, h⟩ := am_if_some h
      refine am_r_go (show am_stepn X T_Search_begin 7 true (43, [(0, am_pv 26), (3, am_iv x3)], [], am_SH, (J, K, am_RF b)) = some ((am_in x3 180 && true), .inl (34, [(0, am_pv 26), (3, am_iv (x3 + 1))], [], am_SH, (J, (am_ul K 27 x3.toNat (0 : Int64)), am_RF b))) from rfl) (am_gi g790 rfl) ?_
      exact ih _ _ _ _ h
    · rw [if_neg c789] at h
      refine am_r_t (show am_stepn X T_Search_begin 5 true (34, [(0, am_pv 26), (3, am_iv x3)], [], am_SH, (J, K, am_RF b)) = some (((decide (am_i32 180) && decide (am_i32 x3)) && true), .inl (bif am_cb .ge x3 180 then 56 else 43, [(0, am_pv 26), (3, am_iv x3)], [], am_SH, (J, K, am_RF b))) from rfl) (am_g2 (by decide) g788 rfl) (am_nd_f c789) ?_
      obtain rfl := Option.some.inj h
      exact am_r_ret (show am_stepn X T_Search_begin 1 true (56, [(0, am_pv 26), (3, am_iv x3)], [], am_SH, (J, K, am_RF b)) = some (true, .inr (.inr (none, am_SH, (J, K, am_RF b)))) from rfl) rfl
theorem s_Search_begin_32_ {X : am_X} {b : Bool} {x2 : Int} {J : am_J} {K : am_K} {r : am_J × am_K} (h : f_Search_begin 32 x2 J K = some r) : am_runs X T_Search_begin (0, [(0, am_pv 26), (1, am_pv 32), (2, am_iv x2)], [], am_SH, (J, K, am_RF b)) (none, am_SH, (r.1, r.2, am_RF b)) := by
  unfold f_Search_begin at h
  obtain ⟨q791, e792, h⟩ := am_bind_some h
  refine am_r_call (show am_stepn X T_Search_begin 12 true (0, [(0, am_pv 26), (1, am_pv 32), (2, am_iv x2)], [], am_SH, (J, K, am_RF b)) = some (true, .inr (.inl (72, [am_pv 32], 1, 0, 0, 21, [(0, am_pv 26), (1, am_pv 32), (2, am_iv x2)], [am_pv 26], am_SH, ((am_up (am_up (am_up J 26 1 x2) 26 2 0) 26 3 8), K, am_RF b)))) from rfl) rfl tb_River_top (s_River_top (by decide) e792) ?_
  refine am_r_go (show am_stepn X T_Search_begin 7 true (21, [(0, am_pv 26), (1, am_pv 32), (2, am_iv x2)], [am_iv q791, am_pv 26], am_SH, ((am_up (am_up (am_up J 26 1 x2) 26 2 0) 26 3 8), K, am_RF b)) = some (true, .inl (34, [(0, am_pv 26), (1, am_pv 32), (2, am_iv x2), (3, am_iv 0)], [], am_SH, ((am_up (am_up (am_up (am_up (am_up J 26 1 x2) 26 2 0) 26 3 8) 26 4 q791) 26 5 q791), K, am_RF b))) from rfl) rfl ?_
  refine am_r_eq (σ' := (34, [(0, am_pv 26), (3, am_iv 0)], [], am_SH, ((am_up (am_up (am_up (am_up (am_up J 26 1 x2) 26 2 0) 26 3 8) 26 4 q791) 26 5 q791), K, am_RF b))) rfl ?_
  exact s_Search_begin_L34_32_  _ _ _ _ _ h
theorem s_Search_begin_L34_6_ {X : am_X} {b : Bool}  : ∀ (n : Nat) (x3 : Int) (J : am_J) (K : am_K) (r : am_J × am_K), f_Search_begin_L34 6  n x3 J K = some r → am_runs X T_Search_begin (34, [(0, am_pv 26), (3, am_iv x3)], [], am_SH, (J, K, am_RF b)) (none, am_SH, (r.1, r.2, am_RF b)) := by
  intro n
  induction n with
  | zero =>
    intro x3 J K r h
    cases h
  | succ n ih =>
    intro x3 J K r h
    rw [f_Search_begin_L34.eq_2] at h
    obtain ⟨g788, h⟩ := am_if_some h
    by_cases c789 : x3 < 180
    · rw [if_pos c789] at h
      refine am_r_f (show am_stepn X T_Search_begin 5 true (34, [(0, am_pv 26), (3, am_iv x3)], [], am_SH, (J, K, am_RF b)) = some (((decide (am_i32 180) && decide (am_i32 x3)) && true), .inl (bif am_cb .ge x3 180 then 56 else 43, [(0, am_pv 26), (3, am_iv x3)], [], am_SH, (J, K, am_RF b))) from rfl) (am_g2 (by decide) g788 rfl) (am_nd_t c789) ?_
      obtain ⟨g790, h⟩ := am_if_some h
      refine am_r_go (show am_stepn X T_Search_begin 7 true (43, [(0, am_pv 26), (3, am_iv x3)], [], am_SH, (J, K, am_RF b)) = some ((am_in x3 180 && true), .inl (34, [(0, am_pv 26), (3, am_iv (x3 + 1))], [], am_SH, (J, (am_ul K 27 x3.toNat (0 : Int64)), am_RF b))) from rfl) (am_gi g790 rfl) ?_
      exact ih _ _ _ _ h
    · rw [if_neg c789] at h
      refine am_r_t (show am_stepn X T_Search_begin 5 true (34, [(0, am_pv 26), (3, am_iv x3)], [], am_SH, (J, K, am_RF b)) = some (((decide (am_i32 180) && decide (am_i32 x3)) && true), .inl (bif am_cb .ge x3 180 then 56 else 43, [(0, am_pv 26), (3, am_iv x3)], [], am_SH, (J, K, am_RF b))) from rfl) (am_g2 (by decide) g788 rfl) (am_nd_f c789) ?_
      obtain rfl := Option.some.inj h
      exact am_r_ret (show am_stepn X T_Search_begin 1 true (56, [(0, am_pv 26), (3, am_iv x3)], [], am_SH, (J, K, am_RF b)) = some (true, .inr (.inr (none, am_SH, (J, K, am_RF b)))) from rfl) rfl
theorem s_Search_begin_6_ {X : am_X} {b : Bool} {x2 : Int} {J : am_J} {K : am_K} {r : am_J × am_K} (h : f_Search_begin 6 x2 J K = some r) : am_runs X T_Search_begin (0, [(0, am_pv 26), (1, am_pv 6), (2, am_iv x2)], [], am_SH, (J, K, am_RF b)) (none, am_SH, (r.1, r.2, am_RF b)) := by
  unfold f_Search_begin at h
  obtain ⟨q791, e792, h⟩ := am_bind_some h
  refine am_r_call (show am_stepn X T_Search_begin 12 true (0, [(0, am_pv 26), (1, am_pv 6), (2, am_iv x2)], [], am_SH, (J, K, am_RF b)) = some (true, .inr (.inl (72, [am_pv 6], 1, 0, 0, 21, [(0, am_pv 26), (1, am_pv 6), (2, am_iv x2)], [am_pv 26], am_SH, ((am_up (am_up (am_up J 26 1 x2) 26 2 0) 26 3 8), K, am_RF b)))) from rfl) rfl tb_River_top (s_River_top (by decide) e792) ?_
  refine am_r_go (show am_stepn X T_Search_begin 7 true (21, [(0, am_pv 26), (1, am_pv 6), (2, am_iv x2)], [am_iv q791, am_pv 26], am_SH, ((am_up (am_up (am_up J 26 1 x2) 26 2 0) 26 3 8), K, am_RF b)) = some (true, .inl (34, [(0, am_pv 26), (1, am_pv 6), (2, am_iv x2), (3, am_iv 0)], [], am_SH, ((am_up (am_up (am_up (am_up (am_up J 26 1 x2) 26 2 0) 26 3 8) 26 4 q791) 26 5 q791), K, am_RF b))) from rfl) rfl ?_
  refine am_r_eq (σ' := (34, [(0, am_pv 26), (3, am_iv 0)], [], am_SH, ((am_up (am_up (am_up (am_up (am_up J 26 1 x2) 26 2 0) 26 3 8) 26 4 q791) 26 5 q791), K, am_RF b))) rfl ?_
  exact s_Search_begin_L34_6_  _ _ _ _ _ h
theorem s_Search_begin {X : am_X} {b : Bool} {o1 : Nat} (ho : o1 = 32 ∨ o1 = 6) {x2 : Int} {J : am_J} {K : am_K} {r : am_J × am_K} (h : f_Search_begin o1 x2 J K = some r) : am_runs X T_Search_begin (0, [(0, am_pv 26), (1, am_pv o1), (2, am_iv x2)], [], am_SH, (J, K, am_RF b)) (none, am_SH, (r.1, r.2, am_RF b)) := by
  rcases ho with rfl | rfl
  · skip
    exact s_Search_begin_32_ h
  · skip
    exact s_Search_begin_6_ h
theorem s_Search_keepTo {X : am_X} {b : Bool} {K : am_K} {x1 : Int} {x2 : Int} {J : am_J} {r : am_J} (h : f_Search_keepTo  x1 x2 J = some r) : am_runs X T_Search_keepTo (0, [(0, am_pv 26), (1, am_iv x1), (2, am_iv x2)], [], am_SH, (J, K, am_RF b)) (none, am_SH, (r, K, am_RF b)) := by
  unfold f_Search_keepTo at h
  obtain ⟨q793, e794, h⟩ := am_bind_some h
  refine am_r_call (show am_stepn X T_Search_keepTo 4 true (0, [(0, am_pv 26), (1, am_iv x1), (2, am_iv x2)], [], am_SH, (J, K, am_RF b)) = some (true, .inr (.inl (48, [am_iv 0, am_iv x1], 2, 0, 0, 6, [(0, am_pv 26), (1, am_iv x1), (2, am_iv x2)], [am_pv 26], am_SH, (J, K, am_RF b)))) from rfl) rfl tb_JMath_max (s_JMath_max e794) ?_
  obtain ⟨q795, e796, h⟩ := am_bind_some h
  refine am_r_call (show am_stepn X T_Search_keepTo 5 true (6, [(0, am_pv 26), (1, am_iv x1), (2, am_iv x2)], [am_iv q793, am_pv 26], am_SH, (J, K, am_RF b)) = some (true, .inr (.inl (85, [am_iv 8, am_iv x2], 2, 0, 0, 16, [(0, am_pv 26), (1, am_iv x1), (2, am_iv x2)], [am_pv 26], am_SH, ((am_up J 26 2 q793), K, am_RF b)))) from rfl) rfl tb_JMath_min (s_JMath_min e796) ?_
  obtain rfl := Option.some.inj h
  exact am_r_ret (show am_stepn X T_Search_keepTo 2 true (16, [(0, am_pv 26), (1, am_iv x1), (2, am_iv x2)], [am_iv q795, am_pv 26], am_SH, ((am_up J 26 2 q793), K, am_RF b)) = some (true, .inr (.inr (none, am_SH, ((am_up (am_up J 26 2 q793) 26 3 q795), K, am_RF b)))) from rfl) rfl
theorem s_UpRiver_arrivalOf_18_f {X : am_X} {x2 : Int} {x3 : Int} {J : am_J} {K : am_K} {r : Int × am_J × am_K} (h : f_UpRiver_arrivalOf 18 false x2 x3 J K = some r) : am_runs X T_UpRiver_arrivalOf (0, [(0, am_pv 0), (1, am_pv 18), (2, am_iv x2), (3, am_iv x3)], [], am_SH, (J, K, am_RF false)) (some (am_iv r.1), am_SH, (r.2.1, r.2.2, am_RF false)) := by
  unfold f_UpRiver_arrivalOf at h
  obtain ⟨q797, e798, h⟩ := am_bind_some h
  refine am_r_call (show am_stepn X T_UpRiver_arrivalOf 6 true (0, [(0, am_pv 0), (1, am_pv 18), (2, am_iv x2), (3, am_iv x3)], [], am_SH, (J, K, am_RF false)) = some (true, .inr (.inl (83, [am_pv 26, am_pv (am_rv false), am_iv 0], 4, 0, 0, 12, [(0, am_pv 0), (1, am_pv 18), (2, am_iv x2), (3, am_iv x3)], [], am_SH, (J, K, am_RF false)))) from rfl) rfl tb_Search_begin (s_Search_begin (by decide) e798) ?_
  obtain ⟨q799, e800, h⟩ := am_bind_some h
  refine am_r_call (show am_stepn X T_UpRiver_arrivalOf 5 true (12, [(0, am_pv 0), (1, am_pv 18), (2, am_iv x2), (3, am_iv x3)], [], am_SH, (q797.1, q797.2, am_RF false)) = some (true, .inr (.inl (84, [am_pv 26, am_iv x2, am_iv x3], 3, 0, 0, 21, [(0, am_pv 0), (1, am_pv 18), (2, am_iv x2), (3, am_iv x3)], [], am_SH, (q797.1, q797.2, am_RF false)))) from rfl) rfl tb_Search_keepTo (s_Search_keepTo e800) ?_
  obtain ⟨q801, e802, h⟩ := am_bind_some h
  refine am_r_call (show am_stepn X T_UpRiver_arrivalOf 4 true (21, [(0, am_pv 0), (1, am_pv 18), (2, am_iv x2), (3, am_iv x3)], [], am_SH, (q799, q797.2, am_RF false)) = some (true, .inr (.inl (86, [am_pv 26, am_pv 18], 2, 0, 0, 29, [(0, am_pv 0), (1, am_pv 18), (2, am_iv x2), (3, am_iv x3)], [], am_SH, (q799, q797.2, am_RF false)))) from rfl) rfl tb_Search_add (s_Search_add (by decide) e802) ?_
  obtain ⟨q803, e804, h⟩ := am_bind_some h
  refine am_r_call (show am_stepn X T_UpRiver_arrivalOf 8 true (29, [(0, am_pv 0), (1, am_pv 18), (2, am_iv x2), (3, am_iv x3)], [], am_SH, (q799, q801, am_RF false)) = some (true, .inr (.inl (89, [am_pv 26, am_pv (am_rv false), am_iv (q799 18 3), am_iv 300], 6, 0, 0, 47, [(0, am_pv 0), (1, am_pv 18), (2, am_iv x2), (3, am_iv x3)], [], am_SH, (q799, q801, am_RF false)))) from rfl) rfl tb_Search_arrive (s_Search_arrive (by decide) e804) ?_
  obtain rfl := Option.some.inj h
  exact am_r_ret (show am_stepn X T_UpRiver_arrivalOf 1 true (47, [(0, am_pv 0), (1, am_pv 18), (2, am_iv x2), (3, am_iv x3)], [am_iv q803.1], am_SH, (q803.2.1, q803.2.2, am_RF false)) = some (true, .inr (.inr (some (am_iv q803.1), am_SH, (q803.2.1, q803.2.2, am_RF false)))) from rfl) rfl
theorem s_UpRiver_arrivalOf_18_t {X : am_X} {x2 : Int} {x3 : Int} {J : am_J} {K : am_K} {r : Int × am_J × am_K} (h : f_UpRiver_arrivalOf 18 true x2 x3 J K = some r) : am_runs X T_UpRiver_arrivalOf (0, [(0, am_pv 0), (1, am_pv 18), (2, am_iv x2), (3, am_iv x3)], [], am_SH, (J, K, am_RF true)) (some (am_iv r.1), am_SH, (r.2.1, r.2.2, am_RF true)) := by
  unfold f_UpRiver_arrivalOf at h
  obtain ⟨q797, e798, h⟩ := am_bind_some h
  refine am_r_call (show am_stepn X T_UpRiver_arrivalOf 6 true (0, [(0, am_pv 0), (1, am_pv 18), (2, am_iv x2), (3, am_iv x3)], [], am_SH, (J, K, am_RF true)) = some (true, .inr (.inl (83, [am_pv 26, am_pv (am_rv true), am_iv 0], 4, 0, 0, 12, [(0, am_pv 0), (1, am_pv 18), (2, am_iv x2), (3, am_iv x3)], [], am_SH, (J, K, am_RF true)))) from rfl) rfl tb_Search_begin (s_Search_begin (by decide) e798) ?_
  obtain ⟨q799, e800, h⟩ := am_bind_some h
  refine am_r_call (show am_stepn X T_UpRiver_arrivalOf 5 true (12, [(0, am_pv 0), (1, am_pv 18), (2, am_iv x2), (3, am_iv x3)], [], am_SH, (q797.1, q797.2, am_RF true)) = some (true, .inr (.inl (84, [am_pv 26, am_iv x2, am_iv x3], 3, 0, 0, 21, [(0, am_pv 0), (1, am_pv 18), (2, am_iv x2), (3, am_iv x3)], [], am_SH, (q797.1, q797.2, am_RF true)))) from rfl) rfl tb_Search_keepTo (s_Search_keepTo e800) ?_
  obtain ⟨q801, e802, h⟩ := am_bind_some h
  refine am_r_call (show am_stepn X T_UpRiver_arrivalOf 4 true (21, [(0, am_pv 0), (1, am_pv 18), (2, am_iv x2), (3, am_iv x3)], [], am_SH, (q799, q797.2, am_RF true)) = some (true, .inr (.inl (86, [am_pv 26, am_pv 18], 2, 0, 0, 29, [(0, am_pv 0), (1, am_pv 18), (2, am_iv x2), (3, am_iv x3)], [], am_SH, (q799, q797.2, am_RF true)))) from rfl) rfl tb_Search_add (s_Search_add (by decide) e802) ?_
  obtain ⟨q803, e804, h⟩ := am_bind_some h
  refine am_r_call (show am_stepn X T_UpRiver_arrivalOf 8 true (29, [(0, am_pv 0), (1, am_pv 18), (2, am_iv x2), (3, am_iv x3)], [], am_SH, (q799, q801, am_RF true)) = some (true, .inr (.inl (89, [am_pv 26, am_pv (am_rv true), am_iv (q799 18 3), am_iv 300], 6, 0, 0, 47, [(0, am_pv 0), (1, am_pv 18), (2, am_iv x2), (3, am_iv x3)], [], am_SH, (q799, q801, am_RF true)))) from rfl) rfl tb_Search_arrive (s_Search_arrive (by decide) e804) ?_
  obtain rfl := Option.some.inj h
  exact am_r_ret (show am_stepn X T_UpRiver_arrivalOf 1 true (47, [(0, am_pv 0), (1, am_pv 18), (2, am_iv x2), (3, am_iv x3)], [am_iv q803.1], am_SH, (q803.2.1, q803.2.2, am_RF true)) = some (true, .inr (.inr (some (am_iv q803.1), am_SH, (q803.2.1, q803.2.2, am_RF true)))) from rfl) rfl
theorem s_UpRiver_arrivalOf_30_f {X : am_X} {x2 : Int} {x3 : Int} {J : am_J} {K : am_K} {r : Int × am_J × am_K} (h : f_UpRiver_arrivalOf 30 false x2 x3 J K = some r) : am_runs X T_UpRiver_arrivalOf (0, [(0, am_pv 0), (1, am_pv 30), (2, am_iv x2), (3, am_iv x3)], [], am_SH, (J, K, am_RF false)) (some (am_iv r.1), am_SH, (r.2.1, r.2.2, am_RF false)) := by
  unfold f_UpRiver_arrivalOf at h
  obtain ⟨q797, e798, h⟩ := am_bind_some h
  refine am_r_call (show am_stepn X T_UpRiver_arrivalOf 6 true (0, [(0, am_pv 0), (1, am_pv 30), (2, am_iv x2), (3, am_iv x3)], [], am_SH, (J, K, am_RF false)) = some (true, .inr (.inl (83, [am_pv 26, am_pv (am_rv false), am_iv 0], 4, 0, 0, 12, [(0, am_pv 0), (1, am_pv 30), (2, am_iv x2), (3, am_iv x3)], [], am_SH, (J, K, am_RF false)))) from rfl) rfl tb_Search_begin (s_Search_begin (by decide) e798) ?_
  obtain ⟨q799, e800, h⟩ := am_bind_some h
  refine am_r_call (show am_stepn X T_UpRiver_arrivalOf 5 true (12, [(0, am_pv 0), (1, am_pv 30), (2, am_iv x2), (3, am_iv x3)], [], am_SH, (q797.1, q797.2, am_RF false)) = some (true, .inr (.inl (84, [am_pv 26, am_iv x2, am_iv x3], 3, 0, 0, 21, [(0, am_pv 0), (1, am_pv 30), (2, am_iv x2), (3, am_iv x3)], [], am_SH, (q797.1, q797.2, am_RF false)))) from rfl) rfl tb_Search_keepTo (s_Search_keepTo e800) ?_
  obtain ⟨q801, e802, h⟩ := am_bind_some h
  refine am_r_call (show am_stepn X T_UpRiver_arrivalOf 4 true (21, [(0, am_pv 0), (1, am_pv 30), (2, am_iv x2), (3, am_iv x3)], [], am_SH, (q799, q797.2, am_RF false)) = some (true, .inr (.inl (86, [am_pv 26, am_pv 30], 2, 0, 0, 29, [(0, am_pv 0), (1, am_pv 30), (2, am_iv x2), (3, am_iv x3)], [], am_SH, (q799, q797.2, am_RF false)))) from rfl) rfl tb_Search_add (s_Search_add (by decide) e802) ?_
  obtain ⟨q803, e804, h⟩ := am_bind_some h
  refine am_r_call (show am_stepn X T_UpRiver_arrivalOf 8 true (29, [(0, am_pv 0), (1, am_pv 30), (2, am_iv x2), (3, am_iv x3)], [], am_SH, (q799, q801, am_RF false)) = some (true, .inr (.inl (89, [am_pv 26, am_pv (am_rv false), am_iv (q799 30 3), am_iv 300], 6, 0, 0, 47, [(0, am_pv 0), (1, am_pv 30), (2, am_iv x2), (3, am_iv x3)], [], am_SH, (q799, q801, am_RF false)))) from rfl) rfl tb_Search_arrive (s_Search_arrive (by decide) e804) ?_
  obtain rfl := Option.some.inj h
  exact am_r_ret (show am_stepn X T_UpRiver_arrivalOf 1 true (47, [(0, am_pv 0), (1, am_pv 30), (2, am_iv x2), (3, am_iv x3)], [am_iv q803.1], am_SH, (q803.2.1, q803.2.2, am_RF false)) = some (true, .inr (.inr (some (am_iv q803.1), am_SH, (q803.2.1, q803.2.2, am_RF false)))) from rfl) rfl
theorem s_UpRiver_arrivalOf_30_t {X : am_X} {x2 : Int} {x3 : Int} {J : am_J} {K : am_K} {r : Int × am_J × am_K} (h : f_UpRiver_arrivalOf 30 true x2 x3 J K = some r) : am_runs X T_UpRiver_arrivalOf (0, [(0, am_pv 0), (1, am_pv 30), (2, am_iv x2), (3, am_iv x3)], [], am_SH, (J, K, am_RF true)) (some (am_iv r.1), am_SH, (r.2.1, r.2.2, am_RF true)) := by
  unfold f_UpRiver_arrivalOf at h
  obtain ⟨q797, e798, h⟩ := am_bind_some h
  refine am_r_call (show am_stepn X T_UpRiver_arrivalOf 6 true (0, [(0, am_pv 0), (1, am_pv 30), (2, am_iv x2), (3, am_iv x3)], [], am_SH, (J, K, am_RF true)) = some (true, .inr (.inl (83, [am_pv 26, am_pv (am_rv true), am_iv 0], 4, 0, 0, 12, [(0, am_pv 0), (1, am_pv 30), (2, am_iv x2), (3, am_iv x3)], [], am_SH, (J, K, am_RF true)))) from rfl) rfl tb_Search_begin (s_Search_begin (by decide) e798) ?_
  obtain ⟨q799, e800, h⟩ := am_bind_some h
  refine am_r_call (show am_stepn X T_UpRiver_arrivalOf 5 true (12, [(0, am_pv 0), (1, am_pv 30), (2, am_iv x2), (3, am_iv x3)], [], am_SH, (q797.1, q797.2, am_RF true)) = some (true, .inr (.inl (84, [am_pv 26, am_iv x2, am_iv x3], 3, 0, 0, 21, [(0, am_pv 0), (1, am_pv 30), (2, am_iv x2), (3, am_iv x3)], [], am_SH, (q797.1, q797.2, am_RF true)))) from rfl) rfl tb_Search_keepTo (s_Search_keepTo e800) ?_
  obtain ⟨q801, e802, h⟩ := am_bind_some h
  refine am_r_call (show am_stepn X T_UpRiver_arrivalOf 4 true (21, [(0, am_pv 0), (1, am_pv 30), (2, am_iv x2), (3, am_iv x3)], [], am_SH, (q799, q797.2, am_RF true)) = some (true, .inr (.inl (86, [am_pv 26, am_pv 30], 2, 0, 0, 29, [(0, am_pv 0), (1, am_pv 30), (2, am_iv x2), (3, am_iv x3)], [], am_SH, (q799, q797.2, am_RF true)))) from rfl) rfl tb_Search_add (s_Search_add (by decide) e802) ?_
  obtain ⟨q803, e804, h⟩ := am_bind_some h
  refine am_r_call (show am_stepn X T_UpRiver_arrivalOf 8 true (29, [(0, am_pv 0), (1, am_pv 30), (2, am_iv x2), (3, am_iv x3)], [], am_SH, (q799, q801, am_RF true)) = some (true, .inr (.inl (89, [am_pv 26, am_pv (am_rv true), am_iv (q799 30 3), am_iv 300], 6, 0, 0, 47, [(0, am_pv 0), (1, am_pv 30), (2, am_iv x2), (3, am_iv x3)], [], am_SH, (q799, q801, am_RF true)))) from rfl) rfl tb_Search_arrive (s_Search_arrive (by decide) e804) ?_
  obtain rfl := Option.some.inj h
  exact am_r_ret (show am_stepn X T_UpRiver_arrivalOf 1 true (47, [(0, am_pv 0), (1, am_pv 30), (2, am_iv x2), (3, am_iv x3)], [am_iv q803.1], am_SH, (q803.2.1, q803.2.2, am_RF true)) = some (true, .inr (.inr (some (am_iv q803.1), am_SH, (q803.2.1, q803.2.2, am_RF true)))) from rfl) rfl
theorem s_UpRiver_arrivalOf {X : am_X} {b : Bool} {o1 : Nat} (ho : o1 = 18 ∨ o1 = 30) {x2 : Int} {x3 : Int} {J : am_J} {K : am_K} {r : Int × am_J × am_K} (h : f_UpRiver_arrivalOf o1 b x2 x3 J K = some r) : am_runs X T_UpRiver_arrivalOf (0, [(0, am_pv 0), (1, am_pv o1), (2, am_iv x2), (3, am_iv x3)], [], am_SH, (J, K, am_RF b)) (some (am_iv r.1), am_SH, (r.2.1, r.2.2, am_RF b)) := by
  rcases ho with rfl | rfl
  · skip
    cases b
    · exact s_UpRiver_arrivalOf_18_f h
    · exact s_UpRiver_arrivalOf_18_t h
  · skip
    cases b
    · exact s_UpRiver_arrivalOf_30_f h
    · exact s_UpRiver_arrivalOf_30_t h
theorem s_UpRiver_soonest_f {X : am_X} {J : am_J} {K : am_K} {r : Int × am_J × am_K} (h : f_UpRiver_soonest false J K = some r) : am_runs X T_UpRiver_soonest (0, [(0, am_pv 0)], [], am_SH, (J, K, am_RF false)) (some (am_iv r.1), am_SH, (r.2.1, r.2.2, am_RF false)) := by
  unfold f_UpRiver_soonest at h
  obtain ⟨q805, e806, h⟩ := am_bind_some h
  refine am_r_call (show am_stepn X T_UpRiver_soonest 6 true (0, [(0, am_pv 0)], [], am_SH, (J, K, am_RF false)) = some (true, .inr (.inl (71, [am_pv 18, am_pv (am_rv false)], 2, 0, 0, 14, [(0, am_pv 0)], [], am_SH, (J, K, am_RF false)))) from rfl) rfl tb_Boat_isUp (s_Boat_isUp (by decide) e806) ?_
  obtain ⟨g807, h⟩ := am_if_some h
  by_cases c808 : q805 = 0
  · rw [if_pos c808] at h
    refine am_r_t (show am_stepn X T_UpRiver_soonest 1 true (14, [(0, am_pv 0)], [am_iv q805], am_SH, (J, K, am_RF false)) = some ((decide (am_i32 q805) && true), .inl (bif am_cb .eq q805 0 then 22 else 17, [(0, am_pv 0)], [], am_SH, (J, K, am_RF false))) from rfl) (am_g1 g807 rfl) (decide_eq_true c808) ?_
    obtain ⟨q809, e810, h⟩ := am_bind_some h
    refine am_r_call (show am_stepn X T_UpRiver_soonest 7 true (22, [(0, am_pv 0)], [], am_SH, (J, K, am_RF false)) = some (true, .inr (.inl (82, [am_pv 0, am_pv 18, am_iv 0, am_iv 8], 4, 0, 0, 36, [(0, am_pv 0)], [], am_SH, (J, K, am_RF false)))) from rfl) rfl tb_UpRiver_arrivalOf (s_UpRiver_arrivalOf (by decide) e810) ?_
    obtain rfl := Option.some.inj h
    exact am_r_ret (show am_stepn X T_UpRiver_soonest 1 true (36, [(0, am_pv 0)], [am_iv q809.1], am_SH, (q809.2.1, q809.2.2, am_RF false)) = some (true, .inr (.inr (some (am_iv q809.1), am_SH, (q809.2.1, q809.2.2, am_RF false)))) from rfl) rfl
  · rw [if_neg c808] at h
    refine am_r_f (show am_stepn X T_UpRiver_soonest 1 true (14, [(0, am_pv 0)], [am_iv q805], am_SH, (J, K, am_RF false)) = some ((decide (am_i32 q805) && true), .inl (bif am_cb .eq q805 0 then 22 else 17, [(0, am_pv 0)], [], am_SH, (J, K, am_RF false))) from rfl) (am_g1 g807 rfl) (decide_eq_false c808) ?_
    obtain rfl := Option.some.inj h
    exact am_r_ret (show am_stepn X T_UpRiver_soonest 3 true (17, [(0, am_pv 0)], [], am_SH, (J, K, am_RF false)) = some (true, .inr (.inr (some (am_iv (-2)), am_SH, (J, K, am_RF false)))) from rfl) rfl
theorem s_UpRiver_soonest_t {X : am_X} {J : am_J} {K : am_K} {r : Int × am_J × am_K} (h : f_UpRiver_soonest true J K = some r) : am_runs X T_UpRiver_soonest (0, [(0, am_pv 0)], [], am_SH, (J, K, am_RF true)) (some (am_iv r.1), am_SH, (r.2.1, r.2.2, am_RF true)) := by
  unfold f_UpRiver_soonest at h
  obtain ⟨q805, e806, h⟩ := am_bind_some h
  refine am_r_call (show am_stepn X T_UpRiver_soonest 6 true (0, [(0, am_pv 0)], [], am_SH, (J, K, am_RF true)) = some (true, .inr (.inl (71, [am_pv 18, am_pv (am_rv true)], 2, 0, 0, 14, [(0, am_pv 0)], [], am_SH, (J, K, am_RF true)))) from rfl) rfl tb_Boat_isUp (s_Boat_isUp (by decide) e806) ?_
  obtain ⟨g807, h⟩ := am_if_some h
  by_cases c808 : q805 = 0
  · rw [if_pos c808] at h
    refine am_r_t (show am_stepn X T_UpRiver_soonest 1 true (14, [(0, am_pv 0)], [am_iv q805], am_SH, (J, K, am_RF true)) = some ((decide (am_i32 q805) && true), .inl (bif am_cb .eq q805 0 then 22 else 17, [(0, am_pv 0)], [], am_SH, (J, K, am_RF true))) from rfl) (am_g1 g807 rfl) (decide_eq_true c808) ?_
    obtain ⟨q809, e810, h⟩ := am_bind_some h
    refine am_r_call (show am_stepn X T_UpRiver_soonest 7 true (22, [(0, am_pv 0)], [], am_SH, (J, K, am_RF true)) = some (true, .inr (.inl (82, [am_pv 0, am_pv 18, am_iv 0, am_iv 8], 4, 0, 0, 36, [(0, am_pv 0)], [], am_SH, (J, K, am_RF true)))) from rfl) rfl tb_UpRiver_arrivalOf (s_UpRiver_arrivalOf (by decide) e810) ?_
    obtain rfl := Option.some.inj h
    exact am_r_ret (show am_stepn X T_UpRiver_soonest 1 true (36, [(0, am_pv 0)], [am_iv q809.1], am_SH, (q809.2.1, q809.2.2, am_RF true)) = some (true, .inr (.inr (some (am_iv q809.1), am_SH, (q809.2.1, q809.2.2, am_RF true)))) from rfl) rfl
  · rw [if_neg c808] at h
    refine am_r_f (show am_stepn X T_UpRiver_soonest 1 true (14, [(0, am_pv 0)], [am_iv q805], am_SH, (J, K, am_RF true)) = some ((decide (am_i32 q805) && true), .inl (bif am_cb .eq q805 0 then 22 else 17, [(0, am_pv 0)], [], am_SH, (J, K, am_RF true))) from rfl) (am_g1 g807 rfl) (decide_eq_false c808) ?_
    obtain rfl := Option.some.inj h
    exact am_r_ret (show am_stepn X T_UpRiver_soonest 3 true (17, [(0, am_pv 0)], [], am_SH, (J, K, am_RF true)) = some (true, .inr (.inr (some (am_iv (-2)), am_SH, (J, K, am_RF true)))) from rfl) rfl
theorem s_UpRiver_soonest {X : am_X} {b : Bool} {J : am_J} {K : am_K} {r : Int × am_J × am_K} (h : f_UpRiver_soonest b J K = some r) : am_runs X T_UpRiver_soonest (0, [(0, am_pv 0)], [], am_SH, (J, K, am_RF b)) (some (am_iv r.1), am_SH, (r.2.1, r.2.2, am_RF b)) := by
  cases b
  · exact s_UpRiver_soonest_f h
  · exact s_UpRiver_soonest_t h
theorem s_UpRiver_only_f {X : am_X} {x1 : Int} {x2 : Int} {J : am_J} {K : am_K} {r : Int × am_J × am_K} (h : f_UpRiver_only false x1 x2 J K = some r) : am_runs X T_UpRiver_only (0, [(0, am_pv 0), (1, am_iv x1), (2, am_iv x2)], [], am_SH, (J, K, am_RF false)) (some (am_iv r.1), am_SH, (r.2.1, r.2.2, am_RF false)) := by
  unfold f_UpRiver_only at h
  obtain ⟨q811, e812, h⟩ := am_bind_some h
  refine am_r_call (show am_stepn X T_UpRiver_only 2 true (0, [(0, am_pv 0), (1, am_iv x1), (2, am_iv x2)], [], am_SH, (J, K, am_RF false)) = some (true, .inr (.inl (66, [am_iv x1], 1, 0, 0, 4, [(0, am_pv 0), (1, am_iv x1), (2, am_iv x2)], [], am_SH, (J, K, am_RF false)))) from rfl) rfl tb_UpRiver_isLane (s_UpRiver_isLane e812) ?_
  obtain ⟨g813, h⟩ := am_if_some h
  by_cases c814 : q811 = 0
  · rw [if_pos c814] at h
    refine am_r_t (show am_stepn X T_UpRiver_only 1 true (4, [(0, am_pv 0), (1, am_iv x1), (2, am_iv x2)], [am_iv q811], am_SH, (J, K, am_RF false)) = some ((decide (am_i32 q811) && true), .inl (bif am_cb .eq q811 0 then 19 else 7, [(0, am_pv 0), (1, am_iv x1), (2, am_iv x2)], [], am_SH, (J, K, am_RF false))) from rfl) (am_g1 g813 rfl) (decide_eq_true c814) ?_
    obtain rfl := Option.some.inj h
    exact am_r_ret (show am_stepn X T_UpRiver_only 2 true (19, [(0, am_pv 0), (1, am_iv x1), (2, am_iv x2)], [], am_SH, (J, K, am_RF false)) = some (true, .inr (.inr (some (am_iv (-1)), am_SH, (J, K, am_RF false)))) from rfl) rfl
  · rw [if_neg c814] at h
    refine am_r_f (show am_stepn X T_UpRiver_only 1 true (4, [(0, am_pv 0), (1, am_iv x1), (2, am_iv x2)], [am_iv q811], am_SH, (J, K, am_RF false)) = some ((decide (am_i32 q811) && true), .inl (bif am_cb .eq q811 0 then 19 else 7, [(0, am_pv 0), (1, am_iv x1), (2, am_iv x2)], [], am_SH, (J, K, am_RF false))) from rfl) (am_g1 g813 rfl) (decide_eq_false c814) ?_
    obtain ⟨q815, e816, h⟩ := am_bind_some h
    refine am_r_call (show am_stepn X T_UpRiver_only 2 true (7, [(0, am_pv 0), (1, am_iv x1), (2, am_iv x2)], [], am_SH, (J, K, am_RF false)) = some (true, .inr (.inl (66, [am_iv x2], 1, 0, 0, 11, [(0, am_pv 0), (1, am_iv x1), (2, am_iv x2)], [], am_SH, (J, K, am_RF false)))) from rfl) rfl tb_UpRiver_isLane (s_UpRiver_isLane e816) ?_
    obtain ⟨g817, h⟩ := am_if_some h
    by_cases c818 : q815 = 0
    · rw [if_pos c818] at h
      refine am_r_t (show am_stepn X T_UpRiver_only 1 true (11, [(0, am_pv 0), (1, am_iv x1), (2, am_iv x2)], [am_iv q815], am_SH, (J, K, am_RF false)) = some ((decide (am_i32 q815) && true), .inl (bif am_cb .eq q815 0 then 19 else 14, [(0, am_pv 0), (1, am_iv x1), (2, am_iv x2)], [], am_SH, (J, K, am_RF false))) from rfl) (am_g1 g817 rfl) (decide_eq_true c818) ?_
      obtain rfl := Option.some.inj h
      exact am_r_ret (show am_stepn X T_UpRiver_only 2 true (19, [(0, am_pv 0), (1, am_iv x1), (2, am_iv x2)], [], am_SH, (J, K, am_RF false)) = some (true, .inr (.inr (some (am_iv (-1)), am_SH, (J, K, am_RF false)))) from rfl) rfl
    · rw [if_neg c818] at h
      refine am_r_f (show am_stepn X T_UpRiver_only 1 true (11, [(0, am_pv 0), (1, am_iv x1), (2, am_iv x2)], [am_iv q815], am_SH, (J, K, am_RF false)) = some ((decide (am_i32 q815) && true), .inl (bif am_cb .eq q815 0 then 19 else 14, [(0, am_pv 0), (1, am_iv x1), (2, am_iv x2)], [], am_SH, (J, K, am_RF false))) from rfl) (am_g1 g817 rfl) (decide_eq_false c818) ?_
      obtain ⟨g819, h⟩ := am_if_some h
      obtain ⟨g820, h⟩ := am_if_some h
      by_cases c821 : x2 < x1
      · rw [if_pos c821] at h
        refine am_r_f (show am_stepn X T_UpRiver_only 3 true (14, [(0, am_pv 0), (1, am_iv x1), (2, am_iv x2)], [], am_SH, (J, K, am_RF false)) = some (((decide (am_i32 x2) && decide (am_i32 x1)) && true), .inl (bif am_cb .le x1 x2 then 21 else 19, [(0, am_pv 0), (1, am_iv x1), (2, am_iv x2)], [], am_SH, (J, K, am_RF false))) from rfl) (am_g2 g819 g820 rfl) (am_nd_t c821) ?_
        obtain rfl := Option.some.inj h
        exact am_r_ret (show am_stepn X T_UpRiver_only 2 true (19, [(0, am_pv 0), (1, am_iv x1), (2, am_iv x2)], [], am_SH, (J, K, am_RF false)) = some (true, .inr (.inr (some (am_iv (-1)), am_SH, (J, K, am_RF false)))) from rfl) rfl
      · rw [if_neg c821] at h
        refine am_r_t (show am_stepn X T_UpRiver_only 3 true (14, [(0, am_pv 0), (1, am_iv x1), (2, am_iv x2)], [], am_SH, (J, K, am_RF false)) = some (((decide (am_i32 x2) && decide (am_i32 x1)) && true), .inl (bif am_cb .le x1 x2 then 21 else 19, [(0, am_pv 0), (1, am_iv x1), (2, am_iv x2)], [], am_SH, (J, K, am_RF false))) from rfl) (am_g2 g819 g820 rfl) (am_nd_f c821) ?_
        obtain ⟨q822, e823, h⟩ := am_bind_some h
        refine am_r_call (show am_stepn X T_UpRiver_only 6 true (21, [(0, am_pv 0), (1, am_iv x1), (2, am_iv x2)], [], am_SH, (J, K, am_RF false)) = some (true, .inr (.inl (71, [am_pv 18, am_pv (am_rv false)], 2, 0, 0, 35, [(0, am_pv 0), (1, am_iv x1), (2, am_iv x2)], [], am_SH, (J, K, am_RF false)))) from rfl) rfl tb_Boat_isUp (s_Boat_isUp (by decide) e823) ?_
        obtain ⟨g824, h⟩ := am_if_some h
        by_cases c825 : q822 = 0
        · rw [if_pos c825] at h
          refine am_r_t (show am_stepn X T_UpRiver_only 1 true (35, [(0, am_pv 0), (1, am_iv x1), (2, am_iv x2)], [am_iv q822], am_SH, (J, K, am_RF false)) = some ((decide (am_i32 q822) && true), .inl (bif am_cb .eq q822 0 then 43 else 38, [(0, am_pv 0), (1, am_iv x1), (2, am_iv x2)], [], am_SH, (J, K, am_RF false))) from rfl) (am_g1 g824 rfl) (decide_eq_true c825) ?_
          obtain ⟨q826, e827, h⟩ := am_bind_some h
          refine am_r_call (show am_stepn X T_UpRiver_only 7 true (43, [(0, am_pv 0), (1, am_iv x1), (2, am_iv x2)], [], am_SH, (J, K, am_RF false)) = some (true, .inr (.inl (82, [am_pv 0, am_pv 18, am_iv x1, am_iv x2], 4, 0, 0, 56, [(0, am_pv 0), (1, am_iv x1), (2, am_iv x2)], [], am_SH, (J, K, am_RF false)))) from rfl) rfl tb_UpRiver_arrivalOf (s_UpRiver_arrivalOf (by decide) e827) ?_
          obtain rfl := Option.some.inj h
          exact am_r_ret (show am_stepn X T_UpRiver_only 1 true (56, [(0, am_pv 0), (1, am_iv x1), (2, am_iv x2)], [am_iv q826.1], am_SH, (q826.2.1, q826.2.2, am_RF false)) = some (true, .inr (.inr (some (am_iv q826.1), am_SH, (q826.2.1, q826.2.2, am_RF false)))) from rfl) rfl
        · rw [if_neg c825] at h
          refine am_r_f (show am_stepn X T_UpRiver_only 1 true (35, [(0, am_pv 0), (1, am_iv x1), (2, am_iv x2)], [am_iv q822], am_SH, (J, K, am_RF false)) = some ((decide (am_i32 q822) && true), .inl (bif am_cb .eq q822 0 then 43 else 38, [(0, am_pv 0), (1, am_iv x1), (2, am_iv x2)], [], am_SH, (J, K, am_RF false))) from rfl) (am_g1 g824 rfl) (decide_eq_false c825) ?_
          obtain rfl := Option.some.inj h
          exact am_r_ret (show am_stepn X T_UpRiver_only 3 true (38, [(0, am_pv 0), (1, am_iv x1), (2, am_iv x2)], [], am_SH, (J, K, am_RF false)) = some (true, .inr (.inr (some (am_iv (-2)), am_SH, (J, K, am_RF false)))) from rfl) rfl
theorem s_UpRiver_only_t {X : am_X} {x1 : Int} {x2 : Int} {J : am_J} {K : am_K} {r : Int × am_J × am_K} (h : f_UpRiver_only true x1 x2 J K = some r) : am_runs X T_UpRiver_only (0, [(0, am_pv 0), (1, am_iv x1), (2, am_iv x2)], [], am_SH, (J, K, am_RF true)) (some (am_iv r.1), am_SH, (r.2.1, r.2.2, am_RF true)) := by
  unfold f_UpRiver_only at h
  obtain ⟨q811, e812, h⟩ := am_bind_some h
  refine am_r_call (show am_stepn X T_UpRiver_only 2 true (0, [(0, am_pv 0), (1, am_iv x1), (2, am_iv x2)], [], am_SH, (J, K, am_RF true)) = some (true, .inr (.inl (66, [am_iv x1], 1, 0, 0, 4, [(0, am_pv 0), (1, am_iv x1), (2, am_iv x2)], [], am_SH, (J, K, am_RF true)))) from rfl) rfl tb_UpRiver_isLane (s_UpRiver_isLane e812) ?_
  obtain ⟨g813, h⟩ := am_if_some h
  by_cases c814 : q811 = 0
  · rw [if_pos c814] at h
    refine am_r_t (show am_stepn X T_UpRiver_only 1 true (4, [(0, am_pv 0), (1, am_iv x1), (2, am_iv x2)], [am_iv q811], am_SH, (J, K, am_RF true)) = some ((decide (am_i32 q811) && true), .inl (bif am_cb .eq q811 0 then 19 else 7, [(0, am_pv 0), (1, am_iv x1), (2, am_iv x2)], [], am_SH, (J, K, am_RF true))) from rfl) (am_g1 g813 rfl) (decide_eq_true c814) ?_
    obtain rfl := Option.some.inj h
    exact am_r_ret (show am_stepn X T_UpRiver_only 2 true (19, [(0, am_pv 0), (1, am_iv x1), (2, am_iv x2)], [], am_SH, (J, K, am_RF true)) = some (true, .inr (.inr (some (am_iv (-1)), am_SH, (J, K, am_RF true)))) from rfl) rfl
  · rw [if_neg c814] at h
    refine am_r_f (show am_stepn X T_UpRiver_only 1 true (4, [(0, am_pv 0), (1, am_iv x1), (2, am_iv x2)], [am_iv q811], am_SH, (J, K, am_RF true)) = some ((decide (am_i32 q811) && true), .inl (bif am_cb .eq q811 0 then 19 else 7, [(0, am_pv 0), (1, am_iv x1), (2, am_iv x2)], [], am_SH, (J, K, am_RF true))) from rfl) (am_g1 g813 rfl) (decide_eq_false c814) ?_
    obtain ⟨q815, e816, h⟩ := am_bind_some h
    refine am_r_call (show am_stepn X T_UpRiver_only 2 true (7, [(0, am_pv 0), (1, am_iv x1), (2, am_iv x2)], [], am_SH, (J, K, am_RF true)) = some (true, .inr (.inl (66, [am_iv x2], 1, 0, 0, 11, [(0, am_pv 0), (1, am_iv x1), (2, am_iv x2)], [], am_SH, (J, K, am_RF true)))) from rfl) rfl tb_UpRiver_isLane (s_UpRiver_isLane e816) ?_
    obtain ⟨g817, h⟩ := am_if_some h
    by_cases c818 : q815 = 0
    · rw [if_pos c818] at h
      refine am_r_t (show am_stepn X T_UpRiver_only 1 true (11, [(0, am_pv 0), (1, am_iv x1), (2, am_iv x2)], [am_iv q815], am_SH, (J, K, am_RF true)) = some ((decide (am_i32 q815) && true), .inl (bif am_cb .eq q815 0 then 19 else 14, [(0, am_pv 0), (1, am_iv x1), (2, am_iv x2)], [], am_SH, (J, K, am_RF true))) from rfl) (am_g1 g817 rfl) (decide_eq_true c818) ?_
      obtain rfl := Option.some.inj h
      exact am_r_ret (show am_stepn X T_UpRiver_only 2 true (19, [(0, am_pv 0), (1, am_iv x1), (2, am_iv x2)], [], am_SH, (J, K, am_RF true)) = some (true, .inr (.inr (some (am_iv (-1)), am_SH, (J, K, am_RF true)))) from rfl) rfl
    · rw [if_neg c818] at h
      refine am_r_f (show am_stepn X T_UpRiver_only 1 true (11, [(0, am_pv 0), (1, am_iv x1), (2, am_iv x2)], [am_iv q815], am_SH, (J, K, am_RF true)) = some ((decide (am_i32 q815) && true), .inl (bif am_cb .eq q815 0 then 19 else 14, [(0, am_pv 0), (1, am_iv x1), (2, am_iv x2)], [], am_SH, (J, K, am_RF true))) from rfl) (am_g1 g817 rfl) (decide_eq_false c818) ?_
      obtain ⟨g819, h⟩ := am_if_some h
      obtain ⟨g820, h⟩ := am_if_some h
      by_cases c821 : x2 < x1
      · rw [if_pos c821] at h
        refine am_r_f (show am_stepn X T_UpRiver_only 3 true (14, [(0, am_pv 0), (1, am_iv x1), (2, am_iv x2)], [], am_SH, (J, K, am_RF true)) = some (((decide (am_i32 x2) && decide (am_i32 x1)) && true), .inl (bif am_cb .le x1 x2 then 21 else 19, [(0, am_pv 0), (1, am_iv x1), (2, am_iv x2)], [], am_SH, (J, K, am_RF true))) from rfl) (am_g2 g819 g820 rfl) (am_nd_t c821) ?_
        obtain rfl := Option.some.inj h
        exact am_r_ret (show am_stepn X T_UpRiver_only 2 true (19, [(0, am_pv 0), (1, am_iv x1), (2, am_iv x2)], [], am_SH, (J, K, am_RF true)) = some (true, .inr (.inr (some (am_iv (-1)), am_SH, (J, K, am_RF true)))) from rfl) rfl
      · rw [if_neg c821] at h
        refine am_r_t (show am_stepn X T_UpRiver_only 3 true (14, [(0, am_pv 0), (1, am_iv x1), (2, am_iv x2)], [], am_SH, (J, K, am_RF true)) = some (((decide (am_i32 x2) && decide (am_i32 x1)) && true), .inl (bif am_cb .le x1 x2 then 21 else 19, [(0, am_pv 0), (1, am_iv x1), (2, am_iv x2)], [], am_SH, (J, K, am_RF true))) from rfl) (am_g2 g819 g820 rfl) (am_nd_f c821) ?_
        obtain ⟨q822, e823, h⟩ := am_bind_some h
        refine am_r_call (show am_stepn X T_UpRiver_only 6 true (21, [(0, am_pv 0), (1, am_iv x1), (2, am_iv x2)], [], am_SH, (J, K, am_RF true)) = some (true, .inr (.inl (71, [am_pv 18, am_pv (am_rv true)], 2, 0, 0, 35, [(0, am_pv 0), (1, am_iv x1), (2, am_iv x2)], [], am_SH, (J, K, am_RF true)))) from rfl) rfl tb_Boat_isUp (s_Boat_isUp (by decide) e823) ?_
        obtain ⟨g824, h⟩ := am_if_some h
        by_cases c825 : q822 = 0
        · rw [if_pos c825] at h
          refine am_r_t (show am_stepn X T_UpRiver_only 1 true (35, [(0, am_pv 0), (1, am_iv x1), (2, am_iv x2)], [am_iv q822], am_SH, (J, K, am_RF true)) = some ((decide (am_i32 q822) && true), .inl (bif am_cb .eq q822 0 then 43 else 38, [(0, am_pv 0), (1, am_iv x1), (2, am_iv x2)], [], am_SH, (J, K, am_RF true))) from rfl) (am_g1 g824 rfl) (decide_eq_true c825) ?_
          obtain ⟨q826, e827, h⟩ := am_bind_some h
          refine am_r_call (show am_stepn X T_UpRiver_only 7 true (43, [(0, am_pv 0), (1, am_iv x1), (2, am_iv x2)], [], am_SH, (J, K, am_RF true)) = some (true, .inr (.inl (82, [am_pv 0, am_pv 18, am_iv x1, am_iv x2], 4, 0, 0, 56, [(0, am_pv 0), (1, am_iv x1), (2, am_iv x2)], [], am_SH, (J, K, am_RF true)))) from rfl) rfl tb_UpRiver_arrivalOf (s_UpRiver_arrivalOf (by decide) e827) ?_
          obtain rfl := Option.some.inj h
          exact am_r_ret (show am_stepn X T_UpRiver_only 1 true (56, [(0, am_pv 0), (1, am_iv x1), (2, am_iv x2)], [am_iv q826.1], am_SH, (q826.2.1, q826.2.2, am_RF true)) = some (true, .inr (.inr (some (am_iv q826.1), am_SH, (q826.2.1, q826.2.2, am_RF true)))) from rfl) rfl
        · rw [if_neg c825] at h
          refine am_r_f (show am_stepn X T_UpRiver_only 1 true (35, [(0, am_pv 0), (1, am_iv x1), (2, am_iv x2)], [am_iv q822], am_SH, (J, K, am_RF true)) = some ((decide (am_i32 q822) && true), .inl (bif am_cb .eq q822 0 then 43 else 38, [(0, am_pv 0), (1, am_iv x1), (2, am_iv x2)], [], am_SH, (J, K, am_RF true))) from rfl) (am_g1 g824 rfl) (decide_eq_false c825) ?_
          obtain rfl := Option.some.inj h
          exact am_r_ret (show am_stepn X T_UpRiver_only 3 true (38, [(0, am_pv 0), (1, am_iv x1), (2, am_iv x2)], [], am_SH, (J, K, am_RF true)) = some (true, .inr (.inr (some (am_iv (-2)), am_SH, (J, K, am_RF true)))) from rfl) rfl
theorem s_UpRiver_only {X : am_X} {b : Bool} {x1 : Int} {x2 : Int} {J : am_J} {K : am_K} {r : Int × am_J × am_K} (h : f_UpRiver_only b x1 x2 J K = some r) : am_runs X T_UpRiver_only (0, [(0, am_pv 0), (1, am_iv x1), (2, am_iv x2)], [], am_SH, (J, K, am_RF b)) (some (am_iv r.1), am_SH, (r.2.1, r.2.2, am_RF b)) := by
  cases b
  · exact s_UpRiver_only_f h
  · exact s_UpRiver_only_t h
theorem s_UpRiver_trialArrival_f {X : am_X} {J : am_J} {K : am_K} {r : Int × am_J × am_K} (h : f_UpRiver_trialArrival false J K = some r) : am_runs X T_UpRiver_trialArrival (0, [(0, am_pv 0)], [], am_SH, (J, K, am_RF false)) (some (am_iv r.1), am_SH, (r.2.1, r.2.2, am_RF false)) := by
  unfold f_UpRiver_trialArrival at h
  obtain ⟨q828, e829, h⟩ := am_bind_some h
  refine am_r_call (show am_stepn X T_UpRiver_trialArrival 5 true (0, [(0, am_pv 0)], [], am_SH, (J, K, am_RF false)) = some (true, .inr (.inl (71, [am_pv 30, am_pv (am_rv false)], 2, 0, 0, 11, [(0, am_pv 0)], [], am_SH, (J, K, am_RF false)))) from rfl) rfl tb_Boat_isUp (s_Boat_isUp (by decide) e829) ?_
  obtain ⟨g830, h⟩ := am_if_some h
  by_cases c831 : q828 = 0
  · rw [if_pos c831] at h
    refine am_r_t (show am_stepn X T_UpRiver_trialArrival 1 true (11, [(0, am_pv 0)], [am_iv q828], am_SH, (J, K, am_RF false)) = some ((decide (am_i32 q828) && true), .inl (bif am_cb .eq q828 0 then 24 else 14, [(0, am_pv 0)], [], am_SH, (J, K, am_RF false))) from rfl) (am_g1 g830 rfl) (decide_eq_true c831) ?_
    obtain ⟨q832, e833, h⟩ := am_bind_some h
    refine am_r_call (show am_stepn X T_UpRiver_trialArrival 6 true (24, [(0, am_pv 0)], [], am_SH, (J, K, am_RF false)) = some (true, .inr (.inl (82, [am_pv 0, am_pv 30, am_iv 0, am_iv 8], 4, 0, 0, 35, [(0, am_pv 0)], [], am_SH, (J, K, am_RF false)))) from rfl) rfl tb_UpRiver_arrivalOf (s_UpRiver_arrivalOf (by decide) e833) ?_
    obtain rfl := Option.some.inj h
    exact am_r_ret (show am_stepn X T_UpRiver_trialArrival 1 true (35, [(0, am_pv 0)], [am_iv q832.1], am_SH, (q832.2.1, q832.2.2, am_RF false)) = some (true, .inr (.inr (some (am_iv q832.1), am_SH, (q832.2.1, q832.2.2, am_RF false)))) from rfl) rfl
  · rw [if_neg c831] at h
    refine am_r_f (show am_stepn X T_UpRiver_trialArrival 1 true (11, [(0, am_pv 0)], [am_iv q828], am_SH, (J, K, am_RF false)) = some ((decide (am_i32 q828) && true), .inl (bif am_cb .eq q828 0 then 24 else 14, [(0, am_pv 0)], [], am_SH, (J, K, am_RF false))) from rfl) (am_g1 g830 rfl) (decide_eq_false c831) ?_
    obtain rfl := Option.some.inj h
    exact am_r_ret (show am_stepn X T_UpRiver_trialArrival 5 true (14, [(0, am_pv 0)], [], am_SH, (J, K, am_RF false)) = some (true, .inr (.inr (some (am_iv (J 30 3)), am_SH, (J, K, am_RF false)))) from rfl) rfl
theorem s_UpRiver_trialArrival_t {X : am_X} {J : am_J} {K : am_K} {r : Int × am_J × am_K} (h : f_UpRiver_trialArrival true J K = some r) : am_runs X T_UpRiver_trialArrival (0, [(0, am_pv 0)], [], am_SH, (J, K, am_RF true)) (some (am_iv r.1), am_SH, (r.2.1, r.2.2, am_RF true)) := by
  unfold f_UpRiver_trialArrival at h
  obtain ⟨q828, e829, h⟩ := am_bind_some h
  refine am_r_call (show am_stepn X T_UpRiver_trialArrival 5 true (0, [(0, am_pv 0)], [], am_SH, (J, K, am_RF true)) = some (true, .inr (.inl (71, [am_pv 30, am_pv (am_rv true)], 2, 0, 0, 11, [(0, am_pv 0)], [], am_SH, (J, K, am_RF true)))) from rfl) rfl tb_Boat_isUp (s_Boat_isUp (by decide) e829) ?_
  obtain ⟨g830, h⟩ := am_if_some h
  by_cases c831 : q828 = 0
  · rw [if_pos c831] at h
    refine am_r_t (show am_stepn X T_UpRiver_trialArrival 1 true (11, [(0, am_pv 0)], [am_iv q828], am_SH, (J, K, am_RF true)) = some ((decide (am_i32 q828) && true), .inl (bif am_cb .eq q828 0 then 24 else 14, [(0, am_pv 0)], [], am_SH, (J, K, am_RF true))) from rfl) (am_g1 g830 rfl) (decide_eq_true c831) ?_
    obtain ⟨q832, e833, h⟩ := am_bind_some h
    refine am_r_call (show am_stepn X T_UpRiver_trialArrival 6 true (24, [(0, am_pv 0)], [], am_SH, (J, K, am_RF true)) = some (true, .inr (.inl (82, [am_pv 0, am_pv 30, am_iv 0, am_iv 8], 4, 0, 0, 35, [(0, am_pv 0)], [], am_SH, (J, K, am_RF true)))) from rfl) rfl tb_UpRiver_arrivalOf (s_UpRiver_arrivalOf (by decide) e833) ?_
    obtain rfl := Option.some.inj h
    exact am_r_ret (show am_stepn X T_UpRiver_trialArrival 1 true (35, [(0, am_pv 0)], [am_iv q832.1], am_SH, (q832.2.1, q832.2.2, am_RF true)) = some (true, .inr (.inr (some (am_iv q832.1), am_SH, (q832.2.1, q832.2.2, am_RF true)))) from rfl) rfl
  · rw [if_neg c831] at h
    refine am_r_f (show am_stepn X T_UpRiver_trialArrival 1 true (11, [(0, am_pv 0)], [am_iv q828], am_SH, (J, K, am_RF true)) = some ((decide (am_i32 q828) && true), .inl (bif am_cb .eq q828 0 then 24 else 14, [(0, am_pv 0)], [], am_SH, (J, K, am_RF true))) from rfl) (am_g1 g830 rfl) (decide_eq_false c831) ?_
    obtain rfl := Option.some.inj h
    exact am_r_ret (show am_stepn X T_UpRiver_trialArrival 5 true (14, [(0, am_pv 0)], [], am_SH, (J, K, am_RF true)) = some (true, .inr (.inr (some (am_iv (J 30 3)), am_SH, (J, K, am_RF true)))) from rfl) rfl
theorem s_UpRiver_trialArrival {X : am_X} {b : Bool} {J : am_J} {K : am_K} {r : Int × am_J × am_K} (h : f_UpRiver_trialArrival b J K = some r) : am_runs X T_UpRiver_trialArrival (0, [(0, am_pv 0)], [], am_SH, (J, K, am_RF b)) (some (am_iv r.1), am_SH, (r.2.1, r.2.2, am_RF b)) := by
  cases b
  · exact s_UpRiver_trialArrival_f h
  · exact s_UpRiver_trialArrival_t h
theorem s_Boat_take_18_44_ {X : am_X} {b : Bool} {K : am_K} {J : am_J} {r : am_J} (h : f_Boat_take 18 44 J = some r) : am_runs X T_Boat_take (0, [(0, am_pv 18), (1, am_pv 44)], [], am_SH, (J, K, am_RF b)) (none, am_SH, (r, K, am_RF b)) := by
  unfold f_Boat_take at h
  obtain ⟨q834, e835, h⟩ := am_bind_some h
  refine am_r_call (show am_stepn X T_Boat_take 10 true (0, [(0, am_pv 18), (1, am_pv 44)], [], am_SH, (J, K, am_RF b)) = some (true, .inr (.inl (52, [am_pv 18, am_iv (J 44 0), am_iv (J 44 1), am_iv (J 44 2), am_iv (J 44 3)], 5, 0, 0, 20, [(0, am_pv 18), (1, am_pv 44)], [], am_SH, (J, K, am_RF b)))) from rfl) rfl tb_Boat_lieAt (s_Boat_lieAt (by decide) e835) ?_
  obtain rfl := Option.some.inj h
  exact am_r_ret (show am_stepn X T_Boat_take 9 true (20, [(0, am_pv 18), (1, am_pv 44)], [], am_SH, (q834, K, am_RF b)) = some (true, .inr (.inr (none, am_SH, ((am_up (am_up q834 18 4 (q834 44 4)) 18 5 (q834 44 5)), K, am_RF b)))) from rfl) rfl
theorem s_Boat_take_18_51_ {X : am_X} {b : Bool} {K : am_K} {J : am_J} {r : am_J} (h : f_Boat_take 18 51 J = some r) : am_runs X T_Boat_take (0, [(0, am_pv 18), (1, am_pv 51)], [], am_SH, (J, K, am_RF b)) (none, am_SH, (r, K, am_RF b)) := by
  unfold f_Boat_take at h
  obtain ⟨q834, e835, h⟩ := am_bind_some h
  refine am_r_call (show am_stepn X T_Boat_take 10 true (0, [(0, am_pv 18), (1, am_pv 51)], [], am_SH, (J, K, am_RF b)) = some (true, .inr (.inl (52, [am_pv 18, am_iv (J 51 0), am_iv (J 51 1), am_iv (J 51 2), am_iv (J 51 3)], 5, 0, 0, 20, [(0, am_pv 18), (1, am_pv 51)], [], am_SH, (J, K, am_RF b)))) from rfl) rfl tb_Boat_lieAt (s_Boat_lieAt (by decide) e835) ?_
  obtain rfl := Option.some.inj h
  exact am_r_ret (show am_stepn X T_Boat_take 9 true (20, [(0, am_pv 18), (1, am_pv 51)], [], am_SH, (q834, K, am_RF b)) = some (true, .inr (.inr (none, am_SH, ((am_up (am_up q834 18 4 (q834 51 4)) 18 5 (q834 51 5)), K, am_RF b)))) from rfl) rfl
theorem s_Boat_take_30_18_ {X : am_X} {b : Bool} {K : am_K} {J : am_J} {r : am_J} (h : f_Boat_take 30 18 J = some r) : am_runs X T_Boat_take (0, [(0, am_pv 30), (1, am_pv 18)], [], am_SH, (J, K, am_RF b)) (none, am_SH, (r, K, am_RF b)) := by
  unfold f_Boat_take at h
  obtain ⟨q834, e835, h⟩ := am_bind_some h
  refine am_r_call (show am_stepn X T_Boat_take 10 true (0, [(0, am_pv 30), (1, am_pv 18)], [], am_SH, (J, K, am_RF b)) = some (true, .inr (.inl (52, [am_pv 30, am_iv (J 18 0), am_iv (J 18 1), am_iv (J 18 2), am_iv (J 18 3)], 5, 0, 0, 20, [(0, am_pv 30), (1, am_pv 18)], [], am_SH, (J, K, am_RF b)))) from rfl) rfl tb_Boat_lieAt (s_Boat_lieAt (by decide) e835) ?_
  obtain rfl := Option.some.inj h
  exact am_r_ret (show am_stepn X T_Boat_take 9 true (20, [(0, am_pv 30), (1, am_pv 18)], [], am_SH, (q834, K, am_RF b)) = some (true, .inr (.inr (none, am_SH, ((am_up (am_up q834 30 4 (q834 18 4)) 30 5 (q834 18 5)), K, am_RF b)))) from rfl) rfl
theorem s_Boat_take_44_18_ {X : am_X} {b : Bool} {K : am_K} {J : am_J} {r : am_J} (h : f_Boat_take 44 18 J = some r) : am_runs X T_Boat_take (0, [(0, am_pv 44), (1, am_pv 18)], [], am_SH, (J, K, am_RF b)) (none, am_SH, (r, K, am_RF b)) := by
  unfold f_Boat_take at h
  obtain ⟨q834, e835, h⟩ := am_bind_some h
  refine am_r_call (show am_stepn X T_Boat_take 10 true (0, [(0, am_pv 44), (1, am_pv 18)], [], am_SH, (J, K, am_RF b)) = some (true, .inr (.inl (52, [am_pv 44, am_iv (J 18 0), am_iv (J 18 1), am_iv (J 18 2), am_iv (J 18 3)], 5, 0, 0, 20, [(0, am_pv 44), (1, am_pv 18)], [], am_SH, (J, K, am_RF b)))) from rfl) rfl tb_Boat_lieAt (s_Boat_lieAt (by decide) e835) ?_
  obtain rfl := Option.some.inj h
  exact am_r_ret (show am_stepn X T_Boat_take 9 true (20, [(0, am_pv 44), (1, am_pv 18)], [], am_SH, (q834, K, am_RF b)) = some (true, .inr (.inr (none, am_SH, ((am_up (am_up q834 44 4 (q834 18 4)) 44 5 (q834 18 5)), K, am_RF b)))) from rfl) rfl
theorem s_Boat_take_51_18_ {X : am_X} {b : Bool} {K : am_K} {J : am_J} {r : am_J} (h : f_Boat_take 51 18 J = some r) : am_runs X T_Boat_take (0, [(0, am_pv 51), (1, am_pv 18)], [], am_SH, (J, K, am_RF b)) (none, am_SH, (r, K, am_RF b)) := by
  unfold f_Boat_take at h
  obtain ⟨q834, e835, h⟩ := am_bind_some h
  refine am_r_call (show am_stepn X T_Boat_take 10 true (0, [(0, am_pv 51), (1, am_pv 18)], [], am_SH, (J, K, am_RF b)) = some (true, .inr (.inl (52, [am_pv 51, am_iv (J 18 0), am_iv (J 18 1), am_iv (J 18 2), am_iv (J 18 3)], 5, 0, 0, 20, [(0, am_pv 51), (1, am_pv 18)], [], am_SH, (J, K, am_RF b)))) from rfl) rfl tb_Boat_lieAt (s_Boat_lieAt (by decide) e835) ?_
  obtain rfl := Option.some.inj h
  exact am_r_ret (show am_stepn X T_Boat_take 9 true (20, [(0, am_pv 51), (1, am_pv 18)], [], am_SH, (q834, K, am_RF b)) = some (true, .inr (.inr (none, am_SH, ((am_up (am_up q834 51 4 (q834 18 4)) 51 5 (q834 18 5)), K, am_RF b)))) from rfl) rfl
theorem s_Boat_take {X : am_X} {b : Bool} {o1 : Nat} {o2 : Nat} (ho : (o1 = 18 ∧ o2 = 44) ∨ (o1 = 18 ∧ o2 = 51) ∨ (o1 = 30 ∧ o2 = 18) ∨ (o1 = 44 ∧ o2 = 18) ∨ (o1 = 51 ∧ o2 = 18)) {K : am_K} {J : am_J} {r : am_J} (h : f_Boat_take o1 o2 J = some r) : am_runs X T_Boat_take (0, [(0, am_pv o1), (1, am_pv o2)], [], am_SH, (J, K, am_RF b)) (none, am_SH, (r, K, am_RF b)) := by
  rcases ho with ⟨rfl, rfl⟩ | ⟨rfl, rfl⟩ | ⟨rfl, rfl⟩ | ⟨rfl, rfl⟩ | ⟨rfl, rfl⟩
  · skip
    exact s_Boat_take_18_44_ h
  · skip
    exact s_Boat_take_18_51_ h
  · skip
    exact s_Boat_take_30_18_ h
  · skip
    exact s_Boat_take_44_18_ h
  · skip
    exact s_Boat_take_51_18_ h
theorem s_UpRiver_first_L72_f {X : am_X}  : ∀ (x2 : Int) (J : am_J) (K : am_K) (r : Int × am_J × am_K), f_UpRiver_first_L72 false   x2 J K = some r → am_runs X T_UpRiver_first (72, [(0, am_pv 0), (1, am_pv 18), (2, am_iv x2)], [], am_SH, (J, K, am_RF false)) (some (am_iv r.1), am_SH, (r.2.1, r.2.2, am_RF false)) := by
  intro x2 J K r h
  unfold f_UpRiver_first_L72 at h
  obtain ⟨q836, e837, h⟩ := am_bind_some h
  refine am_r_call (show am_stepn X T_UpRiver_first 4 true (72, [(0, am_pv 0), (1, am_pv 18), (2, am_iv x2)], [], am_SH, (J, K, am_RF false)) = some (true, .inr (.inl (98, [am_pv 30, am_pv 18], 2, 0, 0, 80, [(0, am_pv 0), (1, am_pv 18), (2, am_iv x2)], [], am_SH, (J, K, am_RF false)))) from rfl) rfl tb_Boat_take (s_Boat_take (by decide) e837) ?_
  obtain ⟨q838, e839, h⟩ := am_bind_some h
  refine am_r_call (show am_stepn X T_UpRiver_first 5 true (80, [(0, am_pv 0), (1, am_pv 18), (2, am_iv x2)], [], am_SH, (q836, K, am_RF false)) = some (true, .inr (.inl (77, [am_pv 30, am_pv (am_rv false)], 4, 0, 0, 91, [(0, am_pv 0), (1, am_pv 18), (2, am_iv x2)], [], am_SH, (q836, K, am_RF false)))) from rfl) rfl tb_Boat_tryTurn (s_Boat_tryTurn (by decide) e839) ?_
  obtain ⟨g840, h⟩ := am_if_some h
  by_cases c841 : q838.1 = 0
  · rw [if_pos c841] at h
    refine am_r_t (show am_stepn X T_UpRiver_first 1 true (91, [(0, am_pv 0), (1, am_pv 18), (2, am_iv x2)], [am_iv q838.1], am_SH, (q838.2, K, am_RF false)) = some ((decide (am_i32 q838.1) && true), .inl (bif am_cb .eq q838.1 0 then 104 else 94, [(0, am_pv 0), (1, am_pv 18), (2, am_iv x2)], [], am_SH, (q838.2, K, am_RF false))) from rfl) (am_g1 g840 rfl) (decide_eq_true c841) ?_
    obtain rfl := Option.some.inj h
    exact am_r_ret (show am_stepn X T_UpRiver_first 2 true (104, [(0, am_pv 0), (1, am_pv 18), (2, am_iv x2)], [], am_SH, (q838.2, K, am_RF false)) = some (true, .inr (.inr (some (am_iv 2), am_SH, (q838.2, K, am_RF false)))) from rfl) rfl
  · rw [if_neg c841] at h
    refine am_r_f (show am_stepn X T_UpRiver_first 1 true (91, [(0, am_pv 0), (1, am_pv 18), (2, am_iv x2)], [am_iv q838.1], am_SH, (q838.2, K, am_RF false)) = some ((decide (am_i32 q838.1) && true), .inl (bif am_cb .eq q838.1 0 then 104 else 94, [(0, am_pv 0), (1, am_pv 18), (2, am_iv x2)], [], am_SH, (q838.2, K, am_RF false))) from rfl) (am_g1 g840 rfl) (decide_eq_false c841) ?_
    obtain ⟨q842, e843, h⟩ := am_bind_some h
    refine am_r_call (show am_stepn X T_UpRiver_first 2 true (94, [(0, am_pv 0), (1, am_pv 18), (2, am_iv x2)], [], am_SH, (q838.2, K, am_RF false)) = some (true, .inr (.inl (99, [am_pv 0], 1, 0, 0, 98, [(0, am_pv 0), (2, am_iv x2)], [], am_SH, (q838.2, K, am_RF false)))) from rfl) rfl tb_UpRiver_trialArrival (s_UpRiver_trialArrival e843) ?_
    obtain ⟨g844, h⟩ := am_if_some h
    obtain ⟨g845, h⟩ := am_if_some h
    by_cases c846 : q842.1 = x2
    · rw [if_pos c846] at h
      refine am_r_f (show am_stepn X T_UpRiver_first 2 true (98, [(0, am_pv 0), (2, am_iv x2)], [am_iv q842.1], am_SH, (q842.2.1, q842.2.2, am_RF false)) = some (((decide (am_i32 x2) && decide (am_i32 q842.1)) && true), .inl (bif am_cb .ne q842.1 x2 then 104 else 102, [(0, am_pv 0), (2, am_iv x2)], [], am_SH, (q842.2.1, q842.2.2, am_RF false))) from rfl) (am_g2 g844 g845 rfl) (am_nd_t c846) ?_
      obtain rfl := Option.some.inj h
      exact am_r_ret (show am_stepn X T_UpRiver_first 2 true (102, [(0, am_pv 0), (2, am_iv x2)], [], am_SH, (q842.2.1, q842.2.2, am_RF false)) = some (true, .inr (.inr (some (am_iv 1), am_SH, (q842.2.1, q842.2.2, am_RF false)))) from rfl) rfl
    · rw [if_neg c846] at h
      refine am_r_t (show am_stepn X T_UpRiver_first 2 true (98, [(0, am_pv 0), (2, am_iv x2)], [am_iv q842.1], am_SH, (q842.2.1, q842.2.2, am_RF false)) = some (((decide (am_i32 x2) && decide (am_i32 q842.1)) && true), .inl (bif am_cb .ne q842.1 x2 then 104 else 102, [(0, am_pv 0), (2, am_iv x2)], [], am_SH, (q842.2.1, q842.2.2, am_RF false))) from rfl) (am_g2 g844 g845 rfl) (am_nd_f c846) ?_
      obtain rfl := Option.some.inj h
      exact am_r_ret (show am_stepn X T_UpRiver_first 2 true (104, [(0, am_pv 0), (2, am_iv x2)], [], am_SH, (q842.2.1, q842.2.2, am_RF false)) = some (true, .inr (.inr (some (am_iv 2), am_SH, (q842.2.1, q842.2.2, am_RF false)))) from rfl) rfl
theorem s_UpRiver_first_f {X : am_X} {J : am_J} {K : am_K} {r : Int × am_J × am_K} (h : f_UpRiver_first false J K = some r) : am_runs X T_UpRiver_first (0, [(0, am_pv 0)], [], am_SH, (J, K, am_RF false)) (some (am_iv r.1), am_SH, (r.2.1, r.2.2, am_RF false)) := by
  unfold f_UpRiver_first at h
  obtain ⟨q847, e848, h⟩ := am_bind_some h
  refine am_r_call (show am_stepn X T_UpRiver_first 8 true (0, [(0, am_pv 0)], [], am_SH, (J, K, am_RF false)) = some (true, .inr (.inl (71, [am_pv 18, am_pv (am_rv false)], 2, 0, 0, 16, [(0, am_pv 0), (1, am_pv 18)], [], am_SH, (J, K, am_RF false)))) from rfl) rfl tb_Boat_isUp (s_Boat_isUp (by decide) e848) ?_
  obtain ⟨g849, h⟩ := am_if_some h
  by_cases c850 : q847 = 0
  · rw [if_pos c850] at h
    refine am_r_t (show am_stepn X T_UpRiver_first 1 true (16, [(0, am_pv 0), (1, am_pv 18)], [am_iv q847], am_SH, (J, K, am_RF false)) = some ((decide (am_i32 q847) && true), .inl (bif am_cb .eq q847 0 then 22 else 19, [(0, am_pv 0), (1, am_pv 18)], [], am_SH, (J, K, am_RF false))) from rfl) (am_g1 g849 rfl) (decide_eq_true c850) ?_
    obtain ⟨q851, e852, h⟩ := am_bind_some h
    refine am_r_call (show am_stepn X T_UpRiver_first 5 true (22, [(0, am_pv 0), (1, am_pv 18)], [], am_SH, (J, K, am_RF false)) = some (true, .inr (.inl (82, [am_pv 0, am_pv 18, am_iv 0, am_iv 8], 4, 0, 0, 30, [(0, am_pv 0), (1, am_pv 18)], [], am_SH, (J, K, am_RF false)))) from rfl) rfl tb_UpRiver_arrivalOf (s_UpRiver_arrivalOf (by decide) e852) ?_
    obtain ⟨g853, h⟩ := am_if_some h
    by_cases c854 : q851.1 = (-4)
    · rw [if_pos c854] at h
      refine am_r_f (show am_stepn X T_UpRiver_first 4 true (30, [(0, am_pv 0), (1, am_pv 18)], [am_iv q851.1], am_SH, (q851.2.1, q851.2.2, am_RF false)) = some (((decide (am_i32 (-4)) && decide (am_i32 q851.1)) && true), .inl (bif am_cb .ne q851.1 (-4) then 40 else 37, [(0, am_pv 0), (1, am_pv 18), (2, am_iv q851.1)], [], am_SH, (q851.2.1, q851.2.2, am_RF false))) from rfl) (am_g2 (by decide) g853 rfl) (am_nd_t c854) ?_
      obtain rfl := Option.some.inj h
      exact am_r_ret (show am_stepn X T_UpRiver_first 2 true (37, [(0, am_pv 0), (1, am_pv 18), (2, am_iv q851.1)], [], am_SH, (q851.2.1, q851.2.2, am_RF false)) = some (true, .inr (.inr (some (am_iv (-4)), am_SH, (q851.2.1, q851.2.2, am_RF false)))) from rfl) rfl
    · rw [if_neg c854] at h
      refine am_r_t (show am_stepn X T_UpRiver_first 4 true (30, [(0, am_pv 0), (1, am_pv 18)], [am_iv q851.1], am_SH, (q851.2.1, q851.2.2, am_RF false)) = some (((decide (am_i32 (-4)) && decide (am_i32 q851.1)) && true), .inl (bif am_cb .ne q851.1 (-4) then 40 else 37, [(0, am_pv 0), (1, am_pv 18), (2, am_iv q851.1)], [], am_SH, (q851.2.1, q851.2.2, am_RF false))) from rfl) (am_g2 (by decide) g853 rfl) (am_nd_f c854) ?_
      obtain ⟨q855, e856, h⟩ := am_bind_some h
      refine am_r_call (show am_stepn X T_UpRiver_first 4 true (40, [(0, am_pv 0), (1, am_pv 18), (2, am_iv q851.1)], [], am_SH, (q851.2.1, q851.2.2, am_RF false)) = some (true, .inr (.inl (98, [am_pv 30, am_pv 18], 2, 0, 0, 48, [(0, am_pv 0), (1, am_pv 18), (2, am_iv q851.1)], [], am_SH, (q851.2.1, q851.2.2, am_RF false)))) from rfl) rfl tb_Boat_take (s_Boat_take (by decide) e856) ?_
      obtain ⟨q857, e858, h⟩ := am_bind_some h
      refine am_r_call (show am_stepn X T_UpRiver_first 5 true (48, [(0, am_pv 0), (1, am_pv 18), (2, am_iv q851.1)], [], am_SH, (q855, q851.2.2, am_RF false)) = some (true, .inr (.inl (73, [am_pv 30, am_pv (am_rv false)], 5, 0, 0, 59, [(0, am_pv 0), (1, am_pv 18), (2, am_iv q851.1)], [], am_SH, (q855, q851.2.2, am_RF false)))) from rfl) rfl tb_Boat_trySail (s_Boat_trySail (by decide) e858) ?_
      obtain ⟨g859, h⟩ := am_if_some h
      by_cases c860 : q857.1 = 0
      · rw [if_pos c860] at h
        refine am_r_t (show am_stepn X T_UpRiver_first 1 true (59, [(0, am_pv 0), (1, am_pv 18), (2, am_iv q851.1)], [am_iv q857.1], am_SH, (q857.2, q851.2.2, am_RF false)) = some ((decide (am_i32 q857.1) && true), .inl (bif am_cb .eq q857.1 0 then 72 else 62, [(0, am_pv 0), (1, am_pv 18), (2, am_iv q851.1)], [], am_SH, (q857.2, q851.2.2, am_RF false))) from rfl) (am_g1 g859 rfl) (decide_eq_true c860) ?_
        exact s_UpRiver_first_L72_f  _ _ _ _ h
      · rw [if_neg c860] at h
        refine am_r_f (show am_stepn X T_UpRiver_first 1 true (59, [(0, am_pv 0), (1, am_pv 18), (2, am_iv q851.1)], [am_iv q857.1], am_SH, (q857.2, q851.2.2, am_RF false)) = some ((decide (am_i32 q857.1) && true), .inl (bif am_cb .eq q857.1 0 then 72 else 62, [(0, am_pv 0), (1, am_pv 18), (2, am_iv q851.1)], [], am_SH, (q857.2, q851.2.2, am_RF false))) from rfl) (am_g1 g859 rfl) (decide_eq_false c860) ?_
        obtain ⟨q861, e862, h⟩ := am_bind_some h
        refine am_r_call (show am_stepn X T_UpRiver_first 2 true (62, [(0, am_pv 0), (1, am_pv 18), (2, am_iv q851.1)], [], am_SH, (q857.2, q851.2.2, am_RF false)) = some (true, .inr (.inl (99, [am_pv 0], 1, 0, 0, 66, [(0, am_pv 0), (1, am_pv 18), (2, am_iv q851.1)], [], am_SH, (q857.2, q851.2.2, am_RF false)))) from rfl) rfl tb_UpRiver_trialArrival (s_UpRiver_trialArrival e862) ?_
        obtain ⟨g863, h⟩ := am_if_some h
        by_cases c864 : q861.1 = q851.1
        · rw [if_pos c864] at h
          refine am_r_f (show am_stepn X T_UpRiver_first 2 true (66, [(0, am_pv 0), (1, am_pv 18), (2, am_iv q851.1)], [am_iv q861.1], am_SH, (q861.2.1, q861.2.2, am_RF false)) = some (((decide (am_i32 q851.1) && decide (am_i32 q861.1)) && true), .inl (bif am_cb .ne q861.1 q851.1 then 72 else 70, [(0, am_pv 0), (1, am_pv 18), (2, am_iv q851.1)], [], am_SH, (q861.2.1, q861.2.2, am_RF false))) from rfl) (am_g2 g853 g863 rfl) (am_nd_t c864) ?_
          obtain rfl := Option.some.inj h
          exact am_r_ret (show am_stepn X T_UpRiver_first 2 true (70, [(0, am_pv 0), (1, am_pv 18), (2, am_iv q851.1)], [], am_SH, (q861.2.1, q861.2.2, am_RF false)) = some (true, .inr (.inr (some (am_iv 0), am_SH, (q861.2.1, q861.2.2, am_RF false)))) from rfl) rfl
        · rw [if_neg c864] at h
          refine am_r_t (show am_stepn X T_UpRiver_first 2 true (66, [(0, am_pv 0), (1, am_pv 18), (2, am_iv q851.1)], [am_iv q861.1], am_SH, (q861.2.1, q861.2.2, am_RF false)) = some (((decide (am_i32 q851.1) && decide (am_i32 q861.1)) && true), .inl (bif am_cb .ne q861.1 q851.1 then 72 else 70, [(0, am_pv 0), (1, am_pv 18), (2, am_iv q851.1)], [], am_SH, (q861.2.1, q861.2.2, am_RF false))) from rfl) (am_g2 g853 g863 rfl) (am_nd_f c864) ?_
          exact s_UpRiver_first_L72_f  _ _ _ _ h
  · rw [if_neg c850] at h
    refine am_r_f (show am_stepn X T_UpRiver_first 1 true (16, [(0, am_pv 0), (1, am_pv 18)], [am_iv q847], am_SH, (J, K, am_RF false)) = some ((decide (am_i32 q847) && true), .inl (bif am_cb .eq q847 0 then 22 else 19, [(0, am_pv 0), (1, am_pv 18)], [], am_SH, (J, K, am_RF false))) from rfl) (am_g1 g849 rfl) (decide_eq_false c850) ?_
    obtain rfl := Option.some.inj h
    exact am_r_ret (show am_stepn X T_UpRiver_first 2 true (19, [(0, am_pv 0), (1, am_pv 18)], [], am_SH, (J, K, am_RF false)) = some (true, .inr (.inr (some (am_iv (-2)), am_SH, (J, K, am_RF false)))) from rfl) rfl
theorem s_UpRiver_first_L72_t {X : am_X}  : ∀ (x2 : Int) (J : am_J) (K : am_K) (r : Int × am_J × am_K), f_UpRiver_first_L72 true   x2 J K = some r → am_runs X T_UpRiver_first (72, [(0, am_pv 0), (1, am_pv 18), (2, am_iv x2)], [], am_SH, (J, K, am_RF true)) (some (am_iv r.1), am_SH, (r.2.1, r.2.2, am_RF true)) := by
  intro x2 J K r h
  unfold f_UpRiver_first_L72 at h
  obtain ⟨q836, e837, h⟩ := am_bind_some h
  refine am_r_call (show am_stepn X T_UpRiver_first 4 true (72, [(0, am_pv 0), (1, am_pv 18), (2, am_iv x2)], [], am_SH, (J, K, am_RF true)) = some (true, .inr (.inl (98, [am_pv 30, am_pv 18], 2, 0, 0, 80, [(0, am_pv 0), (1, am_pv 18), (2, am_iv x2)], [], am_SH, (J, K, am_RF true)))) from rfl) rfl tb_Boat_take (s_Boat_take (by decide) e837) ?_
  obtain ⟨q838, e839, h⟩ := am_bind_some h
  refine am_r_call (show am_stepn X T_UpRiver_first 5 true (80, [(0, am_pv 0), (1, am_pv 18), (2, am_iv x2)], [], am_SH, (q836, K, am_RF true)) = some (true, .inr (.inl (77, [am_pv 30, am_pv (am_rv true)], 4, 0, 0, 91, [(0, am_pv 0), (1, am_pv 18), (2, am_iv x2)], [], am_SH, (q836, K, am_RF true)))) from rfl) rfl tb_Boat_tryTurn (s_Boat_tryTurn (by decide) e839) ?_
  obtain ⟨g840, h⟩ := am_if_some h
  by_cases c841 : q838.1 = 0
  · rw [if_pos c841] at h
    refine am_r_t (show am_stepn X T_UpRiver_first 1 true (91, [(0, am_pv 0), (1, am_pv 18), (2, am_iv x2)], [am_iv q838.1], am_SH, (q838.2, K, am_RF true)) = some ((decide (am_i32 q838.1) && true), .inl (bif am_cb .eq q838.1 0 then 104 else 94, [(0, am_pv 0), (1, am_pv 18), (2, am_iv x2)], [], am_SH, (q838.2, K, am_RF true))) from rfl) (am_g1 g840 rfl) (decide_eq_true c841) ?_
    obtain rfl := Option.some.inj h
    exact am_r_ret (show am_stepn X T_UpRiver_first 2 true (104, [(0, am_pv 0), (1, am_pv 18), (2, am_iv x2)], [], am_SH, (q838.2, K, am_RF true)) = some (true, .inr (.inr (some (am_iv 2), am_SH, (q838.2, K, am_RF true)))) from rfl) rfl
  · rw [if_neg c841] at h
    refine am_r_f (show am_stepn X T_UpRiver_first 1 true (91, [(0, am_pv 0), (1, am_pv 18), (2, am_iv x2)], [am_iv q838.1], am_SH, (q838.2, K, am_RF true)) = some ((decide (am_i32 q838.1) && true), .inl (bif am_cb .eq q838.1 0 then 104 else 94, [(0, am_pv 0), (1, am_pv 18), (2, am_iv x2)], [], am_SH, (q838.2, K, am_RF true))) from rfl) (am_g1 g840 rfl) (decide_eq_false c841) ?_
    obtain ⟨q842, e843, h⟩ := am_bind_some h
    refine am_r_call (show am_stepn X T_UpRiver_first 2 true (94, [(0, am_pv 0), (1, am_pv 18), (2, am_iv x2)], [], am_SH, (q838.2, K, am_RF true)) = some (true, .inr (.inl (99, [am_pv 0], 1, 0, 0, 98, [(0, am_pv 0), (2, am_iv x2)], [], am_SH, (q838.2, K, am_RF true)))) from rfl) rfl tb_UpRiver_trialArrival (s_UpRiver_trialArrival e843) ?_
    obtain ⟨g844, h⟩ := am_if_some h
    obtain ⟨g845, h⟩ := am_if_some h
    by_cases c846 : q842.1 = x2
    · rw [if_pos c846] at h
      refine am_r_f (show am_stepn X T_UpRiver_first 2 true (98, [(0, am_pv 0), (2, am_iv x2)], [am_iv q842.1], am_SH, (q842.2.1, q842.2.2, am_RF true)) = some (((decide (am_i32 x2) && decide (am_i32 q842.1)) && true), .inl (bif am_cb .ne q842.1 x2 then 104 else 102, [(0, am_pv 0), (2, am_iv x2)], [], am_SH, (q842.2.1, q842.2.2, am_RF true))) from rfl) (am_g2 g844 g845 rfl) (am_nd_t c846) ?_
      obtain rfl := Option.some.inj h
      exact am_r_ret (show am_stepn X T_UpRiver_first 2 true (102, [(0, am_pv 0), (2, am_iv x2)], [], am_SH, (q842.2.1, q842.2.2, am_RF true)) = some (true, .inr (.inr (some (am_iv 1), am_SH, (q842.2.1, q842.2.2, am_RF true)))) from rfl) rfl
    · rw [if_neg c846] at h
      refine am_r_t (show am_stepn X T_UpRiver_first 2 true (98, [(0, am_pv 0), (2, am_iv x2)], [am_iv q842.1], am_SH, (q842.2.1, q842.2.2, am_RF true)) = some (((decide (am_i32 x2) && decide (am_i32 q842.1)) && true), .inl (bif am_cb .ne q842.1 x2 then 104 else 102, [(0, am_pv 0), (2, am_iv x2)], [], am_SH, (q842.2.1, q842.2.2, am_RF true))) from rfl) (am_g2 g844 g845 rfl) (am_nd_f c846) ?_
      obtain rfl := Option.some.inj h
      exact am_r_ret (show am_stepn X T_UpRiver_first 2 true (104, [(0, am_pv 0), (2, am_iv x2)], [], am_SH, (q842.2.1, q842.2.2, am_RF true)) = some (true, .inr (.inr (some (am_iv 2), am_SH, (q842.2.1, q842.2.2, am_RF true)))) from rfl) rfl
theorem s_UpRiver_first_t {X : am_X} {J : am_J} {K : am_K} {r : Int × am_J × am_K} (h : f_UpRiver_first true J K = some r) : am_runs X T_UpRiver_first (0, [(0, am_pv 0)], [], am_SH, (J, K, am_RF true)) (some (am_iv r.1), am_SH, (r.2.1, r.2.2, am_RF true)) := by
  unfold f_UpRiver_first at h
  obtain ⟨q847, e848, h⟩ := am_bind_some h
  refine am_r_call (show am_stepn X T_UpRiver_first 8 true (0, [(0, am_pv 0)], [], am_SH, (J, K, am_RF true)) = some (true, .inr (.inl (71, [am_pv 18, am_pv (am_rv true)], 2, 0, 0, 16, [(0, am_pv 0), (1, am_pv 18)], [], am_SH, (J, K, am_RF true)))) from rfl) rfl tb_Boat_isUp (s_Boat_isUp (by decide) e848) ?_
  obtain ⟨g849, h⟩ := am_if_some h
  by_cases c850 : q847 = 0
  · rw [if_pos c850] at h
    refine am_r_t (show am_stepn X T_UpRiver_first 1 true (16, [(0, am_pv 0), (1, am_pv 18)], [am_iv q847], am_SH, (J, K, am_RF true)) = some ((decide (am_i32 q847) && true), .inl (bif am_cb .eq q847 0 then 22 else 19, [(0, am_pv 0), (1, am_pv 18)], [], am_SH, (J, K, am_RF true))) from rfl) (am_g1 g849 rfl) (decide_eq_true c850) ?_
    obtain ⟨q851, e852, h⟩ := am_bind_some h
    refine am_r_call (show am_stepn X T_UpRiver_first 5 true (22, [(0, am_pv 0), (1, am_pv 18)], [], am_SH, (J, K, am_RF true)) = some (true, .inr (.inl (82, [am_pv 0, am_pv 18, am_iv 0, am_iv 8], 4, 0, 0, 30, [(0, am_pv 0), (1, am_pv 18)], [], am_SH, (J, K, am_RF true)))) from rfl) rfl tb_UpRiver_arrivalOf (s_UpRiver_arrivalOf (by decide) e852) ?_
    obtain ⟨g853, h⟩ := am_if_some h
    by_cases c854 : q851.1 = (-4)
    · rw [if_pos c854] at h
      refine am_r_f (show am_stepn X T_UpRiver_first 4 true (30, [(0, am_pv 0), (1, am_pv 18)], [am_iv q851.1], am_SH, (q851.2.1, q851.2.2, am_RF true)) = some (((decide (am_i32 (-4)) && decide (am_i32 q851.1)) && true), .inl (bif am_cb .ne q851.1 (-4) then 40 else 37, [(0, am_pv 0), (1, am_pv 18), (2, am_iv q851.1)], [], am_SH, (q851.2.1, q851.2.2, am_RF true))) from rfl) (am_g2 (by decide) g853 rfl) (am_nd_t c854) ?_
      obtain rfl := Option.some.inj h
      exact am_r_ret (show am_stepn X T_UpRiver_first 2 true (37, [(0, am_pv 0), (1, am_pv 18), (2, am_iv q851.1)], [], am_SH, (q851.2.1, q851.2.2, am_RF true)) = some (true, .inr (.inr (some (am_iv (-4)), am_SH, (q851.2.1, q851.2.2, am_RF true)))) from rfl) rfl
    · rw [if_neg c854] at h
      refine am_r_t (show am_stepn X T_UpRiver_first 4 true (30, [(0, am_pv 0), (1, am_pv 18)], [am_iv q851.1], am_SH, (q851.2.1, q851.2.2, am_RF true)) = some (((decide (am_i32 (-4)) && decide (am_i32 q851.1)) && true), .inl (bif am_cb .ne q851.1 (-4) then 40 else 37, [(0, am_pv 0), (1, am_pv 18), (2, am_iv q851.1)], [], am_SH, (q851.2.1, q851.2.2, am_RF true))) from rfl) (am_g2 (by decide) g853 rfl) (am_nd_f c854) ?_
      obtain ⟨q855, e856, h⟩ := am_bind_some h
      refine am_r_call (show am_stepn X T_UpRiver_first 4 true (40, [(0, am_pv 0), (1, am_pv 18), (2, am_iv q851.1)], [], am_SH, (q851.2.1, q851.2.2, am_RF true)) = some (true, .inr (.inl (98, [am_pv 30, am_pv 18], 2, 0, 0, 48, [(0, am_pv 0), (1, am_pv 18), (2, am_iv q851.1)], [], am_SH, (q851.2.1, q851.2.2, am_RF true)))) from rfl) rfl tb_Boat_take (s_Boat_take (by decide) e856) ?_
      obtain ⟨q857, e858, h⟩ := am_bind_some h
      refine am_r_call (show am_stepn X T_UpRiver_first 5 true (48, [(0, am_pv 0), (1, am_pv 18), (2, am_iv q851.1)], [], am_SH, (q855, q851.2.2, am_RF true)) = some (true, .inr (.inl (73, [am_pv 30, am_pv (am_rv true)], 5, 0, 0, 59, [(0, am_pv 0), (1, am_pv 18), (2, am_iv q851.1)], [], am_SH, (q855, q851.2.2, am_RF true)))) from rfl) rfl tb_Boat_trySail (s_Boat_trySail (by decide) e858) ?_
      obtain ⟨g859, h⟩ := am_if_some h
      by_cases c860 : q857.1 = 0
      · rw [if_pos c860] at h
        refine am_r_t (show am_stepn X T_UpRiver_first 1 true (59, [(0, am_pv 0), (1, am_pv 18), (2, am_iv q851.1)], [am_iv q857.1], am_SH, (q857.2, q851.2.2, am_RF true)) = some ((decide (am_i32 q857.1) && true), .inl (bif am_cb .eq q857.1 0 then 72 else 62, [(0, am_pv 0), (1, am_pv 18), (2, am_iv q851.1)], [], am_SH, (q857.2, q851.2.2, am_RF true))) from rfl) (am_g1 g859 rfl) (decide_eq_true c860) ?_
        exact s_UpRiver_first_L72_t  _ _ _ _ h
      · rw [if_neg c860] at h
        refine am_r_f (show am_stepn X T_UpRiver_first 1 true (59, [(0, am_pv 0), (1, am_pv 18), (2, am_iv q851.1)], [am_iv q857.1], am_SH, (q857.2, q851.2.2, am_RF true)) = some ((decide (am_i32 q857.1) && true), .inl (bif am_cb .eq q857.1 0 then 72 else 62, [(0, am_pv 0), (1, am_pv 18), (2, am_iv q851.1)], [], am_SH, (q857.2, q851.2.2, am_RF true))) from rfl) (am_g1 g859 rfl) (decide_eq_false c860) ?_
        obtain ⟨q861, e862, h⟩ := am_bind_some h
        refine am_r_call (show am_stepn X T_UpRiver_first 2 true (62, [(0, am_pv 0), (1, am_pv 18), (2, am_iv q851.1)], [], am_SH, (q857.2, q851.2.2, am_RF true)) = some (true, .inr (.inl (99, [am_pv 0], 1, 0, 0, 66, [(0, am_pv 0), (1, am_pv 18), (2, am_iv q851.1)], [], am_SH, (q857.2, q851.2.2, am_RF true)))) from rfl) rfl tb_UpRiver_trialArrival (s_UpRiver_trialArrival e862) ?_
        obtain ⟨g863, h⟩ := am_if_some h
        by_cases c864 : q861.1 = q851.1
        · rw [if_pos c864] at h
          refine am_r_f (show am_stepn X T_UpRiver_first 2 true (66, [(0, am_pv 0), (1, am_pv 18), (2, am_iv q851.1)], [am_iv q861.1], am_SH, (q861.2.1, q861.2.2, am_RF true)) = some (((decide (am_i32 q851.1) && decide (am_i32 q861.1)) && true), .inl (bif am_cb .ne q861.1 q851.1 then 72 else 70, [(0, am_pv 0), (1, am_pv 18), (2, am_iv q851.1)], [], am_SH, (q861.2.1, q861.2.2, am_RF true))) from rfl) (am_g2 g853 g863 rfl) (am_nd_t c864) ?_
          obtain rfl := Option.some.inj h
          exact am_r_ret (show am_stepn X T_UpRiver_first 2 true (70, [(0, am_pv 0), (1, am_pv 18), (2, am_iv q851.1)], [], am_SH, (q861.2.1, q861.2.2, am_RF true)) = some (true, .inr (.inr (some (am_iv 0), am_SH, (q861.2.1, q861.2.2, am_RF true)))) from rfl) rfl
        · rw [if_neg c864] at h
          refine am_r_t (show am_stepn X T_UpRiver_first 2 true (66, [(0, am_pv 0), (1, am_pv 18), (2, am_iv q851.1)], [am_iv q861.1], am_SH, (q861.2.1, q861.2.2, am_RF true)) = some (((decide (am_i32 q851.1) && decide (am_i32 q861.1)) && true), .inl (bif am_cb .ne q861.1 q851.1 then 72 else 70, [(0, am_pv 0), (1, am_pv 18), (2, am_iv q851.1)], [], am_SH, (q861.2.1, q861.2.2, am_RF true))) from rfl) (am_g2 g853 g863 rfl) (am_nd_f c864) ?_
          exact s_UpRiver_first_L72_t  _ _ _ _ h
  · rw [if_neg c850] at h
    refine am_r_f (show am_stepn X T_UpRiver_first 1 true (16, [(0, am_pv 0), (1, am_pv 18)], [am_iv q847], am_SH, (J, K, am_RF true)) = some ((decide (am_i32 q847) && true), .inl (bif am_cb .eq q847 0 then 22 else 19, [(0, am_pv 0), (1, am_pv 18)], [], am_SH, (J, K, am_RF true))) from rfl) (am_g1 g849 rfl) (decide_eq_false c850) ?_
    obtain rfl := Option.some.inj h
    exact am_r_ret (show am_stepn X T_UpRiver_first 2 true (19, [(0, am_pv 0), (1, am_pv 18)], [], am_SH, (J, K, am_RF true)) = some (true, .inr (.inr (some (am_iv (-2)), am_SH, (J, K, am_RF true)))) from rfl) rfl
theorem s_UpRiver_first {X : am_X} {b : Bool} {J : am_J} {K : am_K} {r : Int × am_J × am_K} (h : f_UpRiver_first b J K = some r) : am_runs X T_UpRiver_first (0, [(0, am_pv 0)], [], am_SH, (J, K, am_RF b)) (some (am_iv r.1), am_SH, (r.2.1, r.2.2, am_RF b)) := by
  cases b
  · exact s_UpRiver_first_f h
  · exact s_UpRiver_first_t h
theorem s_UpRiver_startArrival_f {X : am_X} {x1 : Int} {J : am_J} {K : am_K} {r : Int × am_J × am_K} (h : f_UpRiver_startArrival false x1 J K = some r) : am_runs X T_UpRiver_startArrival (0, [(0, am_pv 0), (1, am_iv x1)], [], am_SH, (J, K, am_RF false)) (some (am_iv r.1), am_SH, (r.2.1, r.2.2, am_RF false)) := by
  unfold f_UpRiver_startArrival at h
  obtain ⟨g865, h⟩ := am_if_some h
  obtain ⟨g866, h⟩ := am_if_some h
  by_cases c867 : (J 31 x1.toNat) = 0
  · rw [if_pos c867] at h
    refine am_r_f (show am_stepn X T_UpRiver_startArrival 5 true (0, [(0, am_pv 0), (1, am_iv x1)], [], am_SH, (J, K, am_RF false)) = some ((decide (am_i32 (J 31 x1.toNat)) && (am_in x1 301 && true)), .inl (bif am_cb .ne (J 31 x1.toNat) 0 then 38 else 9, [(0, am_pv 0), (1, am_iv x1)], [], am_SH, (J, K, am_RF false))) from rfl) (am_g1 g866 (am_gi g865 rfl)) (am_nd_t c867) ?_
    obtain ⟨q868, e869, h⟩ := am_bind_some h
    refine am_r_call (show am_stepn X T_UpRiver_startArrival 6 true (9, [(0, am_pv 0), (1, am_iv x1)], [], am_SH, (J, K, am_RF false)) = some (true, .inr (.inl (51, [am_pv 30, am_pv (am_rv false), am_iv x1], 3, 0, 0, 21, [(0, am_pv 0), (1, am_iv x1)], [], am_SH, (J, K, am_RF false)))) from rfl) rfl tb_Boat_lieAtStart (s_Boat_lieAtStart (by decide) e869) ?_
    obtain ⟨q870, e871, h⟩ := am_bind_some h
    refine am_r_call (show am_stepn X T_UpRiver_startArrival 9 true (21, [(0, am_pv 0), (1, am_iv x1)], [], am_SH, (q868, K, am_RF false)) = some (true, .inr (.inl (82, [am_pv 0, am_pv 30, am_iv 0, am_iv 8], 4, 0, 0, 37, [(0, am_pv 0), (1, am_iv x1)], [am_iv x1, am_pv 31], am_SH, (q868, K, am_RF false)))) from rfl) rfl tb_UpRiver_arrivalOf (s_UpRiver_arrivalOf (by decide) e871) ?_
    obtain rfl := Option.some.inj h
    exact am_r_ret (show am_stepn X T_UpRiver_startArrival 6 true (37, [(0, am_pv 0), (1, am_iv x1)], [am_iv q870.1, am_iv x1, am_pv 31], am_SH, (q870.2.1, q870.2.2, am_RF false)) = some ((am_in x1 301 && (am_in x1 301 && true)), .inr (.inr (some (am_iv ((am_up q870.2.1 31 x1.toNat q870.1) 31 x1.toNat)), am_SH, ((am_up q870.2.1 31 x1.toNat q870.1), q870.2.2, am_RF false)))) from rfl) (am_gi g865 (am_gi g865 rfl))
  · rw [if_neg c867] at h
    refine am_r_t (show am_stepn X T_UpRiver_startArrival 5 true (0, [(0, am_pv 0), (1, am_iv x1)], [], am_SH, (J, K, am_RF false)) = some ((decide (am_i32 (J 31 x1.toNat)) && (am_in x1 301 && true)), .inl (bif am_cb .ne (J 31 x1.toNat) 0 then 38 else 9, [(0, am_pv 0), (1, am_iv x1)], [], am_SH, (J, K, am_RF false))) from rfl) (am_g1 g866 (am_gi g865 rfl)) (am_nd_f c867) ?_
    obtain rfl := Option.some.inj h
    exact am_r_ret (show am_stepn X T_UpRiver_startArrival 5 true (38, [(0, am_pv 0), (1, am_iv x1)], [], am_SH, (J, K, am_RF false)) = some ((am_in x1 301 && true), .inr (.inr (some (am_iv (J 31 x1.toNat)), am_SH, (J, K, am_RF false)))) from rfl) (am_gi g865 rfl)
theorem s_UpRiver_startArrival_t {X : am_X} {x1 : Int} {J : am_J} {K : am_K} {r : Int × am_J × am_K} (h : f_UpRiver_startArrival true x1 J K = some r) : am_runs X T_UpRiver_startArrival (0, [(0, am_pv 0), (1, am_iv x1)], [], am_SH, (J, K, am_RF true)) (some (am_iv r.1), am_SH, (r.2.1, r.2.2, am_RF true)) := by
  unfold f_UpRiver_startArrival at h
  obtain ⟨g865, h⟩ := am_if_some h
  obtain ⟨g866, h⟩ := am_if_some h
  by_cases c867 : (J 31 x1.toNat) = 0
  · rw [if_pos c867] at h
    refine am_r_f (show am_stepn X T_UpRiver_startArrival 5 true (0, [(0, am_pv 0), (1, am_iv x1)], [], am_SH, (J, K, am_RF true)) = some ((decide (am_i32 (J 31 x1.toNat)) && (am_in x1 301 && true)), .inl (bif am_cb .ne (J 31 x1.toNat) 0 then 38 else 9, [(0, am_pv 0), (1, am_iv x1)], [], am_SH, (J, K, am_RF true))) from rfl) (am_g1 g866 (am_gi g865 rfl)) (am_nd_t c867) ?_
    obtain ⟨q868, e869, h⟩ := am_bind_some h
    refine am_r_call (show am_stepn X T_UpRiver_startArrival 6 true (9, [(0, am_pv 0), (1, am_iv x1)], [], am_SH, (J, K, am_RF true)) = some (true, .inr (.inl (51, [am_pv 30, am_pv (am_rv true), am_iv x1], 3, 0, 0, 21, [(0, am_pv 0), (1, am_iv x1)], [], am_SH, (J, K, am_RF true)))) from rfl) rfl tb_Boat_lieAtStart (s_Boat_lieAtStart (by decide) e869) ?_
    obtain ⟨q870, e871, h⟩ := am_bind_some h
    refine am_r_call (show am_stepn X T_UpRiver_startArrival 9 true (21, [(0, am_pv 0), (1, am_iv x1)], [], am_SH, (q868, K, am_RF true)) = some (true, .inr (.inl (82, [am_pv 0, am_pv 30, am_iv 0, am_iv 8], 4, 0, 0, 37, [(0, am_pv 0), (1, am_iv x1)], [am_iv x1, am_pv 31], am_SH, (q868, K, am_RF true)))) from rfl) rfl tb_UpRiver_arrivalOf (s_UpRiver_arrivalOf (by decide) e871) ?_
    obtain rfl := Option.some.inj h
    exact am_r_ret (show am_stepn X T_UpRiver_startArrival 6 true (37, [(0, am_pv 0), (1, am_iv x1)], [am_iv q870.1, am_iv x1, am_pv 31], am_SH, (q870.2.1, q870.2.2, am_RF true)) = some ((am_in x1 301 && (am_in x1 301 && true)), .inr (.inr (some (am_iv ((am_up q870.2.1 31 x1.toNat q870.1) 31 x1.toNat)), am_SH, ((am_up q870.2.1 31 x1.toNat q870.1), q870.2.2, am_RF true)))) from rfl) (am_gi g865 (am_gi g865 rfl))
  · rw [if_neg c867] at h
    refine am_r_t (show am_stepn X T_UpRiver_startArrival 5 true (0, [(0, am_pv 0), (1, am_iv x1)], [], am_SH, (J, K, am_RF true)) = some ((decide (am_i32 (J 31 x1.toNat)) && (am_in x1 301 && true)), .inl (bif am_cb .ne (J 31 x1.toNat) 0 then 38 else 9, [(0, am_pv 0), (1, am_iv x1)], [], am_SH, (J, K, am_RF true))) from rfl) (am_g1 g866 (am_gi g865 rfl)) (am_nd_f c867) ?_
    obtain rfl := Option.some.inj h
    exact am_r_ret (show am_stepn X T_UpRiver_startArrival 5 true (38, [(0, am_pv 0), (1, am_iv x1)], [], am_SH, (J, K, am_RF true)) = some ((am_in x1 301 && true), .inr (.inr (some (am_iv (J 31 x1.toNat)), am_SH, (J, K, am_RF true)))) from rfl) (am_gi g865 rfl)
theorem s_UpRiver_startArrival {X : am_X} {b : Bool} {x1 : Int} {J : am_J} {K : am_K} {r : Int × am_J × am_K} (h : f_UpRiver_startArrival b x1 J K = some r) : am_runs X T_UpRiver_startArrival (0, [(0, am_pv 0), (1, am_iv x1)], [], am_SH, (J, K, am_RF b)) (some (am_iv r.1), am_SH, (r.2.1, r.2.2, am_RF b)) := by
  cases b
  · exact s_UpRiver_startArrival_f h
  · exact s_UpRiver_startArrival_t h
theorem s_UpRiver_from_f {X : am_X} {x1 : Int} {J : am_J} {K : am_K} {r : Int × am_J × am_K} (h : f_UpRiver_from false x1 J K = some r) : am_runs X T_UpRiver_from (0, [(0, am_pv 0), (1, am_iv x1)], [], am_SH, (J, K, am_RF false)) (some (am_iv r.1), am_SH, (r.2.1, r.2.2, am_RF false)) := by
  unfold f_UpRiver_from at h
  obtain ⟨q872, e873, h⟩ := am_bind_some h
  refine am_r_call (show am_stepn X T_UpRiver_from 2 true (0, [(0, am_pv 0), (1, am_iv x1)], [], am_SH, (J, K, am_RF false)) = some (true, .inr (.inl (60, [am_iv x1], 1, 0, 0, 4, [(0, am_pv 0), (1, am_iv x1)], [], am_SH, (J, K, am_RF false)))) from rfl) rfl tb_UpRiver_isMinute (s_UpRiver_isMinute e873) ?_
  obtain ⟨g874, h⟩ := am_if_some h
  by_cases c875 : q872 = 0
  · rw [if_pos c875] at h
    refine am_r_t (show am_stepn X T_UpRiver_from 1 true (4, [(0, am_pv 0), (1, am_iv x1)], [am_iv q872], am_SH, (J, K, am_RF false)) = some ((decide (am_i32 q872) && true), .inl (bif am_cb .eq q872 0 then 15 else 7, [(0, am_pv 0), (1, am_iv x1)], [], am_SH, (J, K, am_RF false))) from rfl) (am_g1 g874 rfl) (decide_eq_true c875) ?_
    obtain rfl := Option.some.inj h
    exact am_r_ret (show am_stepn X T_UpRiver_from 2 true (15, [(0, am_pv 0), (1, am_iv x1)], [], am_SH, (J, K, am_RF false)) = some (true, .inr (.inr (some (am_iv (-1)), am_SH, (J, K, am_RF false)))) from rfl) rfl
  · rw [if_neg c875] at h
    refine am_r_f (show am_stepn X T_UpRiver_from 1 true (4, [(0, am_pv 0), (1, am_iv x1)], [am_iv q872], am_SH, (J, K, am_RF false)) = some ((decide (am_i32 q872) && true), .inl (bif am_cb .eq q872 0 then 15 else 7, [(0, am_pv 0), (1, am_iv x1)], [], am_SH, (J, K, am_RF false))) from rfl) (am_g1 g874 rfl) (decide_eq_false c875) ?_
    obtain ⟨q876, e877, h⟩ := am_bind_some h
    refine am_r_call (show am_stepn X T_UpRiver_from 3 true (7, [(0, am_pv 0), (1, am_iv x1)], [], am_SH, (J, K, am_RF false)) = some (true, .inr (.inl (101, [am_pv 0, am_iv x1], 2, 0, 0, 12, [(0, am_pv 0), (1, am_iv x1)], [], am_SH, (J, K, am_RF false)))) from rfl) rfl tb_UpRiver_startArrival (s_UpRiver_startArrival e877) ?_
    obtain rfl := Option.some.inj h
    exact am_r_ret (show am_stepn X T_UpRiver_from 2 true (12, [(0, am_pv 0), (1, am_iv x1)], [am_iv q876.1], am_SH, (q876.2.1, q876.2.2, am_RF false)) = some (true, .inr (.inr (some (am_iv q876.1), am_SH, (q876.2.1, q876.2.2, am_RF false)))) from rfl) rfl
theorem s_UpRiver_from_t {X : am_X} {x1 : Int} {J : am_J} {K : am_K} {r : Int × am_J × am_K} (h : f_UpRiver_from true x1 J K = some r) : am_runs X T_UpRiver_from (0, [(0, am_pv 0), (1, am_iv x1)], [], am_SH, (J, K, am_RF true)) (some (am_iv r.1), am_SH, (r.2.1, r.2.2, am_RF true)) := by
  unfold f_UpRiver_from at h
  obtain ⟨q872, e873, h⟩ := am_bind_some h
  refine am_r_call (show am_stepn X T_UpRiver_from 2 true (0, [(0, am_pv 0), (1, am_iv x1)], [], am_SH, (J, K, am_RF true)) = some (true, .inr (.inl (60, [am_iv x1], 1, 0, 0, 4, [(0, am_pv 0), (1, am_iv x1)], [], am_SH, (J, K, am_RF true)))) from rfl) rfl tb_UpRiver_isMinute (s_UpRiver_isMinute e873) ?_
  obtain ⟨g874, h⟩ := am_if_some h
  by_cases c875 : q872 = 0
  · rw [if_pos c875] at h
    refine am_r_t (show am_stepn X T_UpRiver_from 1 true (4, [(0, am_pv 0), (1, am_iv x1)], [am_iv q872], am_SH, (J, K, am_RF true)) = some ((decide (am_i32 q872) && true), .inl (bif am_cb .eq q872 0 then 15 else 7, [(0, am_pv 0), (1, am_iv x1)], [], am_SH, (J, K, am_RF true))) from rfl) (am_g1 g874 rfl) (decide_eq_true c875) ?_
    obtain rfl := Option.some.inj h
    exact am_r_ret (show am_stepn X T_UpRiver_from 2 true (15, [(0, am_pv 0), (1, am_iv x1)], [], am_SH, (J, K, am_RF true)) = some (true, .inr (.inr (some (am_iv (-1)), am_SH, (J, K, am_RF true)))) from rfl) rfl
  · rw [if_neg c875] at h
    refine am_r_f (show am_stepn X T_UpRiver_from 1 true (4, [(0, am_pv 0), (1, am_iv x1)], [am_iv q872], am_SH, (J, K, am_RF true)) = some ((decide (am_i32 q872) && true), .inl (bif am_cb .eq q872 0 then 15 else 7, [(0, am_pv 0), (1, am_iv x1)], [], am_SH, (J, K, am_RF true))) from rfl) (am_g1 g874 rfl) (decide_eq_false c875) ?_
    obtain ⟨q876, e877, h⟩ := am_bind_some h
    refine am_r_call (show am_stepn X T_UpRiver_from 3 true (7, [(0, am_pv 0), (1, am_iv x1)], [], am_SH, (J, K, am_RF true)) = some (true, .inr (.inl (101, [am_pv 0, am_iv x1], 2, 0, 0, 12, [(0, am_pv 0), (1, am_iv x1)], [], am_SH, (J, K, am_RF true)))) from rfl) rfl tb_UpRiver_startArrival (s_UpRiver_startArrival e877) ?_
    obtain rfl := Option.some.inj h
    exact am_r_ret (show am_stepn X T_UpRiver_from 2 true (12, [(0, am_pv 0), (1, am_iv x1)], [am_iv q876.1], am_SH, (q876.2.1, q876.2.2, am_RF true)) = some (true, .inr (.inr (some (am_iv q876.1), am_SH, (q876.2.1, q876.2.2, am_RF true)))) from rfl) rfl
theorem s_UpRiver_from {X : am_X} {b : Bool} {x1 : Int} {J : am_J} {K : am_K} {r : Int × am_J × am_K} (h : f_UpRiver_from b x1 J K = some r) : am_runs X T_UpRiver_from (0, [(0, am_pv 0), (1, am_iv x1)], [], am_SH, (J, K, am_RF b)) (some (am_iv r.1), am_SH, (r.2.1, r.2.2, am_RF b)) := by
  cases b
  · exact s_UpRiver_from_f h
  · exact s_UpRiver_from_t h
theorem s_UpRiver_start_L101_f {X : am_X}  : ∀ (x1 : Int) (x2 : Int) (x3 : Int) (x4 : Int) (J : am_J) (K : am_K) (r : Int × am_J × am_K), f_UpRiver_start_L101 false   x1 x2 x3 x4 J K = some r → am_runs X T_UpRiver_start (101, [(1, am_iv x1), (2, am_iv x2), (3, am_iv x3), (4, am_iv x4)], [], am_SH, (J, K, am_RF false)) (some (am_iv r.1), am_SH, (r.2.1, r.2.2, am_RF false)) := by
  intro x1 x2 x3 x4 J K r h
  unfold f_UpRiver_start_L101 at h
  obtain ⟨g878, h⟩ := am_if_some h
  by_cases c879 : x1 = 0
  · rw [if_pos c879] at h
    refine am_r_f (show am_stepn X T_UpRiver_start 2 true (101, [(1, am_iv x1), (2, am_iv x2), (3, am_iv x3), (4, am_iv x4)], [], am_SH, (J, K, am_RF false)) = some ((decide (am_i32 x1) && true), .inl (bif am_cb .ne x1 0 then 109 else 105, [(1, am_iv x1), (2, am_iv x2), (3, am_iv x3), (4, am_iv x4)], [], am_SH, (J, K, am_RF false))) from rfl) (am_g1 g878 rfl) (am_nd_t c879) ?_
    obtain rfl := Option.some.inj h
    exact am_r_ret (show am_stepn X T_UpRiver_start 3 true (105, [(1, am_iv x1), (2, am_iv x2), (3, am_iv x3), (4, am_iv x4)], [], am_SH, (J, K, am_RF false)) = some (true, .inr (.inr (some (am_iv x2), am_SH, (J, K, am_RF false)))) from rfl) rfl
  · rw [if_neg c879] at h
    refine am_r_t (show am_stepn X T_UpRiver_start 2 true (101, [(1, am_iv x1), (2, am_iv x2), (3, am_iv x3), (4, am_iv x4)], [], am_SH, (J, K, am_RF false)) = some ((decide (am_i32 x1) && true), .inl (bif am_cb .ne x1 0 then 109 else 105, [(1, am_iv x1), (2, am_iv x2), (3, am_iv x3), (4, am_iv x4)], [], am_SH, (J, K, am_RF false))) from rfl) (am_g1 g878 rfl) (am_nd_f c879) ?_
    by_cases c880 : x1 = 1
    · rw [if_pos c880] at h
      refine am_r_f (show am_stepn X T_UpRiver_start 3 true (109, [(1, am_iv x1), (2, am_iv x2), (3, am_iv x3), (4, am_iv x4)], [], am_SH, (J, K, am_RF false)) = some (((decide (am_i32 1) && decide (am_i32 x1)) && true), .inl (bif am_cb .ne x1 1 then 118 else 114, [(1, am_iv x1), (3, am_iv x3), (4, am_iv x4)], [], am_SH, (J, K, am_RF false))) from rfl) (am_g2 (by decide) g878 rfl) (am_nd_t c880) ?_
      obtain rfl := Option.some.inj h
      exact am_r_ret (show am_stepn X T_UpRiver_start 3 true (114, [(1, am_iv x1), (3, am_iv x3), (4, am_iv x4)], [], am_SH, (J, K, am_RF false)) = some (true, .inr (.inr (some (am_iv x3), am_SH, (J, K, am_RF false)))) from rfl) rfl
    · rw [if_neg c880] at h
      refine am_r_t (show am_stepn X T_UpRiver_start 3 true (109, [(1, am_iv x1), (2, am_iv x2), (3, am_iv x3), (4, am_iv x4)], [], am_SH, (J, K, am_RF false)) = some (((decide (am_i32 1) && decide (am_i32 x1)) && true), .inl (bif am_cb .ne x1 1 then 118 else 114, [(1, am_iv x1), (3, am_iv x3), (4, am_iv x4)], [], am_SH, (J, K, am_RF false))) from rfl) (am_g2 (by decide) g878 rfl) (am_nd_f c880) ?_
      obtain rfl := Option.some.inj h
      exact am_r_ret (show am_stepn X T_UpRiver_start 2 true (118, [(1, am_iv x1), (3, am_iv x3), (4, am_iv x4)], [], am_SH, (J, K, am_RF false)) = some (true, .inr (.inr (some (am_iv x4), am_SH, (J, K, am_RF false)))) from rfl) rfl
theorem s_UpRiver_start_L24_f {X : am_X}  : ∀ (n : Nat) (x1 : Int) (x2 : Int) (x3 : Int) (x4 : Int) (x5 : Int) (J : am_J) (K : am_K) (r : Int × am_J × am_K), f_UpRiver_start_L24 false  n x1 x2 x3 x4 x5 J K = some r → am_runs X T_UpRiver_start (24, [(0, am_pv 0), (1, am_iv x1), (2, am_iv x2), (3, am_iv x3), (4, am_iv x4), (5, am_iv x5)], [], am_SH, (J, K, am_RF false)) (some (am_iv r.1), am_SH, (r.2.1, r.2.2, am_RF false)) := by
  intro n
  induction n with
  | zero =>
    intro x1 x2 x3 x4 x5 J K r h
    cases h
  | succ n ih =>
    intro x1 x2 x3 x4 x5 J K r h
    rw [f_UpRiver_start_L24.eq_2] at h
    obtain ⟨g881, h⟩ := am_if_some h
    by_cases c882 : 300 < x5
    · rw [if_pos c882] at h
      refine am_r_t (show am_stepn X T_UpRiver_start 3 true (24, [(0, am_pv 0), (1, am_iv x1), (2, am_iv x2), (3, am_iv x3), (4, am_iv x4), (5, am_iv x5)], [], am_SH, (J, K, am_RF false)) = some (((decide (am_i32 300) && decide (am_i32 x5)) && true), .inl (bif am_cb .gt x5 300 then 101 else 32, [(0, am_pv 0), (1, am_iv x1), (2, am_iv x2), (3, am_iv x3), (4, am_iv x4), (5, am_iv x5)], [], am_SH, (J, K, am_RF false))) from rfl) (am_g2 (by decide) g881 rfl) (decide_eq_true c882) ?_
      refine am_r_eq (σ' := (101, [(1, am_iv x1), (2, am_iv x2), (3, am_iv x3), (4, am_iv x4)], [], am_SH, (J, K, am_RF false))) rfl ?_
      exact s_UpRiver_start_L101_f  _ _ _ _ _ _ _ h
    · rw [if_neg c882] at h
      refine am_r_f (show am_stepn X T_UpRiver_start 3 true (24, [(0, am_pv 0), (1, am_iv x1), (2, am_iv x2), (3, am_iv x3), (4, am_iv x4), (5, am_iv x5)], [], am_SH, (J, K, am_RF false)) = some (((decide (am_i32 300) && decide (am_i32 x5)) && true), .inl (bif am_cb .gt x5 300 then 101 else 32, [(0, am_pv 0), (1, am_iv x1), (2, am_iv x2), (3, am_iv x3), (4, am_iv x4), (5, am_iv x5)], [], am_SH, (J, K, am_RF false))) from rfl) (am_g2 (by decide) g881 rfl) (decide_eq_false c882) ?_
      obtain ⟨q883, e884, h⟩ := am_bind_some h
      refine am_r_call (show am_stepn X T_UpRiver_start 3 true (32, [(0, am_pv 0), (1, am_iv x1), (2, am_iv x2), (3, am_iv x3), (4, am_iv x4), (5, am_iv x5)], [], am_SH, (J, K, am_RF false)) = some (true, .inr (.inl (101, [am_pv 0, am_iv x5], 2, 0, 0, 38, [(0, am_pv 0), (1, am_iv x1), (2, am_iv x2), (3, am_iv x3), (4, am_iv x4), (5, am_iv x5)], [], am_SH, (J, K, am_RF false)))) from rfl) rfl tb_UpRiver_startArrival (s_UpRiver_startArrival e884) ?_
      obtain ⟨g885, h⟩ := am_if_some h
      by_cases c886 : q883.1 = (-4)
      · rw [if_pos c886] at h
        refine am_r_t (show am_stepn X T_UpRiver_start 4 true (38, [(0, am_pv 0), (1, am_iv x1), (2, am_iv x2), (3, am_iv x3), (4, am_iv x4), (5, am_iv x5)], [am_iv q883.1], am_SH, (q883.2.1, q883.2.2, am_RF false)) = some (((decide (am_i32 (-4)) && decide (am_i32 q883.1)) && true), .inl (bif am_cb .eq q883.1 (-4) then 101 else 47, [(0, am_pv 0), (1, am_iv x1), (2, am_iv x2), (3, am_iv x3), (4, am_iv x4), (5, am_iv x5), (6, am_iv q883.1)], [], am_SH, (q883.2.1, q883.2.2, am_RF false))) from rfl) (am_g2 (by decide) g885 rfl) (decide_eq_true c886) ?_
        refine am_r_eq (σ' := (101, [(1, am_iv x1), (2, am_iv x2), (3, am_iv x3), (4, am_iv x4)], [], am_SH, (q883.2.1, q883.2.2, am_RF false))) rfl ?_
        exact s_UpRiver_start_L101_f  _ _ _ _ _ _ _ h
      · rw [if_neg c886] at h
        refine am_r_f (show am_stepn X T_UpRiver_start 4 true (38, [(0, am_pv 0), (1, am_iv x1), (2, am_iv x2), (3, am_iv x3), (4, am_iv x4), (5, am_iv x5)], [am_iv q883.1], am_SH, (q883.2.1, q883.2.2, am_RF false)) = some (((decide (am_i32 (-4)) && decide (am_i32 q883.1)) && true), .inl (bif am_cb .eq q883.1 (-4) then 101 else 47, [(0, am_pv 0), (1, am_iv x1), (2, am_iv x2), (3, am_iv x3), (4, am_iv x4), (5, am_iv x5), (6, am_iv q883.1)], [], am_SH, (q883.2.1, q883.2.2, am_RF false))) from rfl) (am_g2 (by decide) g885 rfl) (decide_eq_false c886) ?_
        obtain ⟨g887, h⟩ := am_if_some h
        by_cases c888 : (q883.2.1 (am_rv false + 1) 6) < q883.1
        · rw [if_pos c888] at h
          refine am_r_f (show am_stepn X T_UpRiver_start 7 true (47, [(0, am_pv 0), (1, am_iv x1), (2, am_iv x2), (3, am_iv x3), (4, am_iv x4), (5, am_iv x5), (6, am_iv q883.1)], [], am_SH, (q883.2.1, q883.2.2, am_RF false)) = some (((decide (am_i32 (q883.2.1 (am_rv false + 1) 6)) && decide (am_i32 q883.1)) && (am_in 6 7 && true)), .inl (bif am_cb .le q883.1 (q883.2.1 (am_rv false + 1) 6) then 65 else 62, [(0, am_pv 0), (1, am_iv x1), (2, am_iv x2), (3, am_iv x3), (4, am_iv x4), (5, am_iv x5), (6, am_iv q883.1)], [], am_SH, (q883.2.1, q883.2.2, am_RF false))) from rfl) (am_g2 g887 g885 (am_gi (by decide) rfl)) (am_nd_t c888) ?_
          refine am_r_go (show am_stepn X T_UpRiver_start 1 true (62, [(0, am_pv 0), (1, am_iv x1), (2, am_iv x2), (3, am_iv x3), (4, am_iv x4), (5, am_iv x5), (6, am_iv q883.1)], [], am_SH, (q883.2.1, q883.2.2, am_RF false)) = some (true, .inl (101, [(1, am_iv x1), (2, am_iv x2), (3, am_iv x3), (4, am_iv x4)], [], am_SH, (q883.2.1, q883.2.2, am_RF false))) from rfl) rfl ?_
          exact s_UpRiver_start_L101_f  _ _ _ _ _ _ _ h
        · rw [if_neg c888] at h
          refine am_r_t (show am_stepn X T_UpRiver_start 7 true (47, [(0, am_pv 0), (1, am_iv x1), (2, am_iv x2), (3, am_iv x3), (4, am_iv x4), (5, am_iv x5), (6, am_iv q883.1)], [], am_SH, (q883.2.1, q883.2.2, am_RF false)) = some (((decide (am_i32 (q883.2.1 (am_rv false + 1) 6)) && decide (am_i32 q883.1)) && (am_in 6 7 && true)), .inl (bif am_cb .le q883.1 (q883.2.1 (am_rv false + 1) 6) then 65 else 62, [(0, am_pv 0), (1, am_iv x1), (2, am_iv x2), (3, am_iv x3), (4, am_iv x4), (5, am_iv x5), (6, am_iv q883.1)], [], am_SH, (q883.2.1, q883.2.2, am_RF false))) from rfl) (am_g2 g887 g885 (am_gi (by decide) rfl)) (am_nd_f c888) ?_
          obtain ⟨g889, h⟩ := am_if_some h
          by_cases c890 : x4 = (-4)
          · rw [if_pos c890] at h
            refine am_r_t (show am_stepn X T_UpRiver_start 5 true (65, [(0, am_pv 0), (1, am_iv x1), (2, am_iv x2), (3, am_iv x3), (4, am_iv x4), (5, am_iv x5), (6, am_iv q883.1)], [], am_SH, (q883.2.1, q883.2.2, am_RF false)) = some (((decide (am_i32 (-4)) && decide (am_i32 x4)) && true), .inl (bif am_cb .eq x4 (-4) then 85 else 75, [(0, am_pv 0), (1, am_iv x1), (2, am_iv x5), (3, am_iv x3), (4, am_iv x4), (5, am_iv x5), (6, am_iv q883.1)], [], am_SH, (q883.2.1, q883.2.2, am_RF false))) from rfl) (am_g2 (by decide) g889 rfl) (decide_eq_true c890) ?_
            refine am_r_go (show am_stepn X T_UpRiver_start 8 true (85, [(0, am_pv 0), (1, am_iv x1), (2, am_iv x5), (3, am_iv x3), (4, am_iv x4), (5, am_iv x5), (6, am_iv q883.1)], [], am_SH, (q883.2.1, q883.2.2, am_RF false)) = some (true, .inl (24, [(0, am_pv 0), (1, am_iv x1), (2, am_iv x5), (3, am_iv x5), (4, am_iv (q883.1 - x5)), (5, am_iv (x5 + 1))], [], am_SH, (q883.2.1, q883.2.2, am_RF false))) from rfl) rfl ?_
            exact ih _ _ _ _ _ _ _ _ h
          · rw [if_neg c890] at h
            refine am_r_f (show am_stepn X T_UpRiver_start 5 true (65, [(0, am_pv 0), (1, am_iv x1), (2, am_iv x2), (3, am_iv x3), (4, am_iv x4), (5, am_iv x5), (6, am_iv q883.1)], [], am_SH, (q883.2.1, q883.2.2, am_RF false)) = some (((decide (am_i32 (-4)) && decide (am_i32 x4)) && true), .inl (bif am_cb .eq x4 (-4) then 85 else 75, [(0, am_pv 0), (1, am_iv x1), (2, am_iv x5), (3, am_iv x3), (4, am_iv x4), (5, am_iv x5), (6, am_iv q883.1)], [], am_SH, (q883.2.1, q883.2.2, am_RF false))) from rfl) (am_g2 (by decide) g889 rfl) (decide_eq_false c890) ?_
            obtain ⟨g891, h⟩ := am_if_some h
            by_cases c892 : (q883.1 - x5) < x4
            · rw [if_pos c892] at h
              refine am_r_f (show am_stepn X T_UpRiver_start 5 true (75, [(0, am_pv 0), (1, am_iv x1), (2, am_iv x5), (3, am_iv x3), (4, am_iv x4), (5, am_iv x5), (6, am_iv q883.1)], [], am_SH, (q883.2.1, q883.2.2, am_RF false)) = some (((decide (am_i32 x4) && decide (am_i32 (q883.1 - x5))) && true), .inl (bif am_cb .ge (q883.1 - x5) x4 then 95 else 85, [(0, am_pv 0), (1, am_iv x1), (2, am_iv x5), (3, am_iv x3), (4, am_iv x4), (5, am_iv x5), (6, am_iv q883.1)], [], am_SH, (q883.2.1, q883.2.2, am_RF false))) from rfl) (am_g2 g889 g891 rfl) (am_nd_t c892) ?_
              refine am_r_go (show am_stepn X T_UpRiver_start 8 true (85, [(0, am_pv 0), (1, am_iv x1), (2, am_iv x5), (3, am_iv x3), (4, am_iv x4), (5, am_iv x5), (6, am_iv q883.1)], [], am_SH, (q883.2.1, q883.2.2, am_RF false)) = some (true, .inl (24, [(0, am_pv 0), (1, am_iv x1), (2, am_iv x5), (3, am_iv x5), (4, am_iv (q883.1 - x5)), (5, am_iv (x5 + 1))], [], am_SH, (q883.2.1, q883.2.2, am_RF false))) from rfl) rfl ?_
              exact ih _ _ _ _ _ _ _ _ h
            · rw [if_neg c892] at h
              refine am_r_t (show am_stepn X T_UpRiver_start 5 true (75, [(0, am_pv 0), (1, am_iv x1), (2, am_iv x5), (3, am_iv x3), (4, am_iv x4), (5, am_iv x5), (6, am_iv q883.1)], [], am_SH, (q883.2.1, q883.2.2, am_RF false)) = some (((decide (am_i32 x4) && decide (am_i32 (q883.1 - x5))) && true), .inl (bif am_cb .ge (q883.1 - x5) x4 then 95 else 85, [(0, am_pv 0), (1, am_iv x1), (2, am_iv x5), (3, am_iv x3), (4, am_iv x4), (5, am_iv x5), (6, am_iv q883.1)], [], am_SH, (q883.2.1, q883.2.2, am_RF false))) from rfl) (am_g2 g889 g891 rfl) (am_nd_f c892) ?_
              refine am_r_go (show am_stepn X T_UpRiver_start 2 true (95, [(0, am_pv 0), (1, am_iv x1), (2, am_iv x5), (3, am_iv x3), (4, am_iv x4), (5, am_iv x5), (6, am_iv q883.1)], [], am_SH, (q883.2.1, q883.2.2, am_RF false)) = some (true, .inl (24, [(0, am_pv 0), (1, am_iv x1), (2, am_iv x5), (3, am_iv x3), (4, am_iv x4), (5, am_iv (x5 + 1))], [], am_SH, (q883.2.1, q883.2.2, am_RF false))) from rfl) rfl ?_
              exact ih _ _ _ _ _ _ _ _ h
theorem s_UpRiver_start_f {X : am_X} {x1 : Int} {J : am_J} {K : am_K} {r : Int × am_J × am_K} (h : f_UpRiver_start false x1 J K = some r) : am_runs X T_UpRiver_start (0, [(0, am_pv 0), (1, am_iv x1)], [], am_SH, (J, K, am_RF false)) (some (am_iv r.1), am_SH, (r.2.1, r.2.2, am_RF false)) := by
  unfold f_UpRiver_start at h
  obtain ⟨g893, h⟩ := am_if_some h
  by_cases c894 : x1 < 0
  · rw [if_pos c894] at h
    refine am_r_t (show am_stepn X T_UpRiver_start 2 true (0, [(0, am_pv 0), (1, am_iv x1)], [], am_SH, (J, K, am_RF false)) = some ((decide (am_i32 x1) && true), .inl (bif am_cb .lt x1 0 then 9 else 4, [(0, am_pv 0), (1, am_iv x1)], [], am_SH, (J, K, am_RF false))) from rfl) (am_g1 g893 rfl) (decide_eq_true c894) ?_
    obtain rfl := Option.some.inj h
    exact am_r_ret (show am_stepn X T_UpRiver_start 2 true (9, [(0, am_pv 0), (1, am_iv x1)], [], am_SH, (J, K, am_RF false)) = some (true, .inr (.inr (some (am_iv (-1)), am_SH, (J, K, am_RF false)))) from rfl) rfl
  · rw [if_neg c894] at h
    refine am_r_f (show am_stepn X T_UpRiver_start 2 true (0, [(0, am_pv 0), (1, am_iv x1)], [], am_SH, (J, K, am_RF false)) = some ((decide (am_i32 x1) && true), .inl (bif am_cb .lt x1 0 then 9 else 4, [(0, am_pv 0), (1, am_iv x1)], [], am_SH, (J, K, am_RF false))) from rfl) (am_g1 g893 rfl) (decide_eq_false c894) ?_
    by_cases c895 : 2 < x1
    · rw [if_pos c895] at h
      refine am_r_f (show am_stepn X T_UpRiver_start 3 true (4, [(0, am_pv 0), (1, am_iv x1)], [], am_SH, (J, K, am_RF false)) = some (((decide (am_i32 2) && decide (am_i32 x1)) && true), .inl (bif am_cb .le x1 2 then 11 else 9, [(0, am_pv 0), (1, am_iv x1)], [], am_SH, (J, K, am_RF false))) from rfl) (am_g2 (by decide) g893 rfl) (am_nd_t c895) ?_
      obtain rfl := Option.some.inj h
      exact am_r_ret (show am_stepn X T_UpRiver_start 2 true (9, [(0, am_pv 0), (1, am_iv x1)], [], am_SH, (J, K, am_RF false)) = some (true, .inr (.inr (some (am_iv (-1)), am_SH, (J, K, am_RF false)))) from rfl) rfl
    · rw [if_neg c895] at h
      refine am_r_t (show am_stepn X T_UpRiver_start 3 true (4, [(0, am_pv 0), (1, am_iv x1)], [], am_SH, (J, K, am_RF false)) = some (((decide (am_i32 2) && decide (am_i32 x1)) && true), .inl (bif am_cb .le x1 2 then 11 else 9, [(0, am_pv 0), (1, am_iv x1)], [], am_SH, (J, K, am_RF false))) from rfl) (am_g2 (by decide) g893 rfl) (am_nd_f c895) ?_
      refine am_r_go (show am_stepn X T_UpRiver_start 8 true (11, [(0, am_pv 0), (1, am_iv x1)], [], am_SH, (J, K, am_RF false)) = some (true, .inl (24, [(0, am_pv 0), (1, am_iv x1), (2, am_iv (-4)), (3, am_iv (-4)), (4, am_iv (-4)), (5, am_iv 0)], [], am_SH, (J, K, am_RF false))) from rfl) rfl ?_
      exact s_UpRiver_start_L24_f  _ _ _ _ _ _ _ _ _ h
theorem s_UpRiver_start_L101_t {X : am_X}  : ∀ (x1 : Int) (x2 : Int) (x3 : Int) (x4 : Int) (J : am_J) (K : am_K) (r : Int × am_J × am_K), f_UpRiver_start_L101 true   x1 x2 x3 x4 J K = some r → am_runs X T_UpRiver_start (101, [(1, am_iv x1), (2, am_iv x2), (3, am_iv x3), (4, am_iv x4)], [], am_SH, (J, K, am_RF true)) (some (am_iv r.1), am_SH, (r.2.1, r.2.2, am_RF true)) := by
  intro x1 x2 x3 x4 J K r h
  unfold f_UpRiver_start_L101 at h
  obtain ⟨g878, h⟩ := am_if_some h
  by_cases c879 : x1 = 0
  · rw [if_pos c879] at h
    refine am_r_f (show am_stepn X T_UpRiver_start 2 true (101, [(1, am_iv x1), (2, am_iv x2), (3, am_iv x3), (4, am_iv x4)], [], am_SH, (J, K, am_RF true)) = some ((decide (am_i32 x1) && true), .inl (bif am_cb .ne x1 0 then 109 else 105, [(1, am_iv x1), (2, am_iv x2), (3, am_iv x3), (4, am_iv x4)], [], am_SH, (J, K, am_RF true))) from rfl) (am_g1 g878 rfl) (am_nd_t c879) ?_
    obtain rfl := Option.some.inj h
    exact am_r_ret (show am_stepn X T_UpRiver_start 3 true (105, [(1, am_iv x1), (2, am_iv x2), (3, am_iv x3), (4, am_iv x4)], [], am_SH, (J, K, am_RF true)) = some (true, .inr (.inr (some (am_iv x2), am_SH, (J, K, am_RF true)))) from rfl) rfl
  · rw [if_neg c879] at h
    refine am_r_t (show am_stepn X T_UpRiver_start 2 true (101, [(1, am_iv x1), (2, am_iv x2), (3, am_iv x3), (4, am_iv x4)], [], am_SH, (J, K, am_RF true)) = some ((decide (am_i32 x1) && true), .inl (bif am_cb .ne x1 0 then 109 else 105, [(1, am_iv x1), (2, am_iv x2), (3, am_iv x3), (4, am_iv x4)], [], am_SH, (J, K, am_RF true))) from rfl) (am_g1 g878 rfl) (am_nd_f c879) ?_
    by_cases c880 : x1 = 1
    · rw [if_pos c880] at h
      refine am_r_f (show am_stepn X T_UpRiver_start 3 true (109, [(1, am_iv x1), (2, am_iv x2), (3, am_iv x3), (4, am_iv x4)], [], am_SH, (J, K, am_RF true)) = some (((decide (am_i32 1) && decide (am_i32 x1)) && true), .inl (bif am_cb .ne x1 1 then 118 else 114, [(1, am_iv x1), (3, am_iv x3), (4, am_iv x4)], [], am_SH, (J, K, am_RF true))) from rfl) (am_g2 (by decide) g878 rfl) (am_nd_t c880) ?_
      obtain rfl := Option.some.inj h
      exact am_r_ret (show am_stepn X T_UpRiver_start 3 true (114, [(1, am_iv x1), (3, am_iv x3), (4, am_iv x4)], [], am_SH, (J, K, am_RF true)) = some (true, .inr (.inr (some (am_iv x3), am_SH, (J, K, am_RF true)))) from rfl) rfl
    · rw [if_neg c880] at h
      refine am_r_t (show am_stepn X T_UpRiver_start 3 true (109, [(1, am_iv x1), (2, am_iv x2), (3, am_iv x3), (4, am_iv x4)], [], am_SH, (J, K, am_RF true)) = some (((decide (am_i32 1) && decide (am_i32 x1)) && true), .inl (bif am_cb .ne x1 1 then 118 else 114, [(1, am_iv x1), (3, am_iv x3), (4, am_iv x4)], [], am_SH, (J, K, am_RF true))) from rfl) (am_g2 (by decide) g878 rfl) (am_nd_f c880) ?_
      obtain rfl := Option.some.inj h
      exact am_r_ret (show am_stepn X T_UpRiver_start 2 true (118, [(1, am_iv x1), (3, am_iv x3), (4, am_iv x4)], [], am_SH, (J, K, am_RF true)) = some (true, .inr (.inr (some (am_iv x4), am_SH, (J, K, am_RF true)))) from rfl) rfl
theorem s_UpRiver_start_L24_t {X : am_X}  : ∀ (n : Nat) (x1 : Int) (x2 : Int) (x3 : Int) (x4 : Int) (x5 : Int) (J : am_J) (K : am_K) (r : Int × am_J × am_K), f_UpRiver_start_L24 true  n x1 x2 x3 x4 x5 J K = some r → am_runs X T_UpRiver_start (24, [(0, am_pv 0), (1, am_iv x1), (2, am_iv x2), (3, am_iv x3), (4, am_iv x4), (5, am_iv x5)], [], am_SH, (J, K, am_RF true)) (some (am_iv r.1), am_SH, (r.2.1, r.2.2, am_RF true)) := by
  intro n
  induction n with
  | zero =>
    intro x1 x2 x3 x4 x5 J K r h
    cases h
  | succ n ih =>
    intro x1 x2 x3 x4 x5 J K r h
    rw [f_UpRiver_start_L24.eq_2] at h
    obtain ⟨g881, h⟩ := am_if_some h
    by_cases c882 : 300 < x5
    · rw [if_pos c882] at h
      refine am_r_t (show am_stepn X T_UpRiver_start 3 true (24, [(0, am_pv 0), (1, am_iv x1), (2, am_iv x2), (3, am_iv x3), (4, am_iv x4), (5, am_iv x5)], [], am_SH, (J, K, am_RF true)) = some (((decide (am_i32 300) && decide (am_i32 x5)) && true), .inl (bif am_cb .gt x5 300 then 101 else 32, [(0, am_pv 0), (1, am_iv x1), (2, am_iv x2), (3, am_iv x3), (4, am_iv x4), (5, am_iv x5)], [], am_SH, (J, K, am_RF true))) from rfl) (am_g2 (by decide) g881 rfl) (decide_eq_true c882) ?_
      refine am_r_eq (σ' := (101, [(1, am_iv x1), (2, am_iv x2), (3, am_iv x3), (4, am_iv x4)], [], am_SH, (J, K, am_RF true))) rfl ?_
      exact s_UpRiver_start_L101_t  _ _ _ _ _ _ _ h
    · rw [if_neg c882] at h
      refine am_r_f (show am_stepn X T_UpRiver_start 3 true (24, [(0, am_pv 0), (1, am_iv x1), (2, am_iv x2), (3, am_iv x3), (4, am_iv x4), (5, am_iv x5)], [], am_SH, (J, K, am_RF true)) = some (((decide (am_i32 300) && decide (am_i32 x5)) && true), .inl (bif am_cb .gt x5 300 then 101 else 32, [(0, am_pv 0), (1, am_iv x1), (2, am_iv x2), (3, am_iv x3), (4, am_iv x4), (5, am_iv x5)], [], am_SH, (J, K, am_RF true))) from rfl) (am_g2 (by decide) g881 rfl) (decide_eq_false c882) ?_
      obtain ⟨q883, e884, h⟩ := am_bind_some h
      refine am_r_call (show am_stepn X T_UpRiver_start 3 true (32, [(0, am_pv 0), (1, am_iv x1), (2, am_iv x2), (3, am_iv x3), (4, am_iv x4), (5, am_iv x5)], [], am_SH, (J, K, am_RF true)) = some (true, .inr (.inl (101, [am_pv 0, am_iv x5], 2, 0, 0, 38, [(0, am_pv 0), (1, am_iv x1), (2, am_iv x2), (3, am_iv x3), (4, am_iv x4), (5, am_iv x5)], [], am_SH, (J, K, am_RF true)))) from rfl) rfl tb_UpRiver_startArrival (s_UpRiver_startArrival e884) ?_
      obtain ⟨g885, h⟩ := am_if_some h
      by_cases c886 : q883.1 = (-4)
      · rw [if_pos c886] at h
        refine am_r_t (show am_stepn X T_UpRiver_start 4 true (38, [(0, am_pv 0), (1, am_iv x1), (2, am_iv x2), (3, am_iv x3), (4, am_iv x4), (5, am_iv x5)], [am_iv q883.1], am_SH, (q883.2.1, q883.2.2, am_RF true)) = some (((decide (am_i32 (-4)) && decide (am_i32 q883.1)) && true), .inl (bif am_cb .eq q883.1 (-4) then 101 else 47, [(0, am_pv 0), (1, am_iv x1), (2, am_iv x2), (3, am_iv x3), (4, am_iv x4), (5, am_iv x5), (6, am_iv q883.1)], [], am_SH, (q883.2.1, q883.2.2, am_RF true))) from rfl) (am_g2 (by decide) g885 rfl) (decide_eq_true c886) ?_
        refine am_r_eq (σ' := (101, [(1, am_iv x1), (2, am_iv x2), (3, am_iv x3), (4, am_iv x4)], [], am_SH, (q883.2.1, q883.2.2, am_RF true))) rfl ?_
        exact s_UpRiver_start_L101_t  _ _ _ _ _ _ _ h
      · rw [if_neg c886] at h
        refine am_r_f (show am_stepn X T_UpRiver_start 4 true (38, [(0, am_pv 0), (1, am_iv x1), (2, am_iv x2), (3, am_iv x3), (4, am_iv x4), (5, am_iv x5)], [am_iv q883.1], am_SH, (q883.2.1, q883.2.2, am_RF true)) = some (((decide (am_i32 (-4)) && decide (am_i32 q883.1)) && true), .inl (bif am_cb .eq q883.1 (-4) then 101 else 47, [(0, am_pv 0), (1, am_iv x1), (2, am_iv x2), (3, am_iv x3), (4, am_iv x4), (5, am_iv x5), (6, am_iv q883.1)], [], am_SH, (q883.2.1, q883.2.2, am_RF true))) from rfl) (am_g2 (by decide) g885 rfl) (decide_eq_false c886) ?_
        obtain ⟨g887, h⟩ := am_if_some h
        by_cases c888 : (q883.2.1 (am_rv true + 1) 6) < q883.1
        · rw [if_pos c888] at h
          refine am_r_f (show am_stepn X T_UpRiver_start 7 true (47, [(0, am_pv 0), (1, am_iv x1), (2, am_iv x2), (3, am_iv x3), (4, am_iv x4), (5, am_iv x5), (6, am_iv q883.1)], [], am_SH, (q883.2.1, q883.2.2, am_RF true)) = some (((decide (am_i32 (q883.2.1 (am_rv true + 1) 6)) && decide (am_i32 q883.1)) && (am_in 6 7 && true)), .inl (bif am_cb .le q883.1 (q883.2.1 (am_rv true + 1) 6) then 65 else 62, [(0, am_pv 0), (1, am_iv x1), (2, am_iv x2), (3, am_iv x3), (4, am_iv x4), (5, am_iv x5), (6, am_iv q883.1)], [], am_SH, (q883.2.1, q883.2.2, am_RF true))) from rfl) (am_g2 g887 g885 (am_gi (by decide) rfl)) (am_nd_t c888) ?_
          refine am_r_go (show am_stepn X T_UpRiver_start 1 true (62, [(0, am_pv 0), (1, am_iv x1), (2, am_iv x2), (3, am_iv x3), (4, am_iv x4), (5, am_iv x5), (6, am_iv q883.1)], [], am_SH, (q883.2.1, q883.2.2, am_RF true)) = some (true, .inl (101, [(1, am_iv x1), (2, am_iv x2), (3, am_iv x3), (4, am_iv x4)], [], am_SH, (q883.2.1, q883.2.2, am_RF true))) from rfl) rfl ?_
          exact s_UpRiver_start_L101_t  _ _ _ _ _ _ _ h
        · rw [if_neg c888] at h
          refine am_r_t (show am_stepn X T_UpRiver_start 7 true (47, [(0, am_pv 0), (1, am_iv x1), (2, am_iv x2), (3, am_iv x3), (4, am_iv x4), (5, am_iv x5), (6, am_iv q883.1)], [], am_SH, (q883.2.1, q883.2.2, am_RF true)) = some (((decide (am_i32 (q883.2.1 (am_rv true + 1) 6)) && decide (am_i32 q883.1)) && (am_in 6 7 && true)), .inl (bif am_cb .le q883.1 (q883.2.1 (am_rv true + 1) 6) then 65 else 62, [(0, am_pv 0), (1, am_iv x1), (2, am_iv x2), (3, am_iv x3), (4, am_iv x4), (5, am_iv x5), (6, am_iv q883.1)], [], am_SH, (q883.2.1, q883.2.2, am_RF true))) from rfl) (am_g2 g887 g885 (am_gi (by decide) rfl)) (am_nd_f c888) ?_
          obtain ⟨g889, h⟩ := am_if_some h
          by_cases c890 : x4 = (-4)
          · rw [if_pos c890] at h
            refine am_r_t (show am_stepn X T_UpRiver_start 5 true (65, [(0, am_pv 0), (1, am_iv x1), (2, am_iv x2), (3, am_iv x3), (4, am_iv x4), (5, am_iv x5), (6, am_iv q883.1)], [], am_SH, (q883.2.1, q883.2.2, am_RF true)) = some (((decide (am_i32 (-4)) && decide (am_i32 x4)) && true), .inl (bif am_cb .eq x4 (-4) then 85 else 75, [(0, am_pv 0), (1, am_iv x1), (2, am_iv x5), (3, am_iv x3), (4, am_iv x4), (5, am_iv x5), (6, am_iv q883.1)], [], am_SH, (q883.2.1, q883.2.2, am_RF true))) from rfl) (am_g2 (by decide) g889 rfl) (decide_eq_true c890) ?_
            refine am_r_go (show am_stepn X T_UpRiver_start 8 true (85, [(0, am_pv 0), (1, am_iv x1), (2, am_iv x5), (3, am_iv x3), (4, am_iv x4), (5, am_iv x5), (6, am_iv q883.1)], [], am_SH, (q883.2.1, q883.2.2, am_RF true)) = some (true, .inl (24, [(0, am_pv 0), (1, am_iv x1), (2, am_iv x5), (3, am_iv x5), (4, am_iv (q883.1 - x5)), (5, am_iv (x5 + 1))], [], am_SH, (q883.2.1, q883.2.2, am_RF true))) from rfl) rfl ?_
            exact ih _ _ _ _ _ _ _ _ h
          · rw [if_neg c890] at h
            refine am_r_f (show am_stepn X T_UpRiver_start 5 true (65, [(0, am_pv 0), (1, am_iv x1), (2, am_iv x2), (3, am_iv x3), (4, am_iv x4), (5, am_iv x5), (6, am_iv q883.1)], [], am_SH, (q883.2.1, q883.2.2, am_RF true)) = some (((decide (am_i32 (-4)) && decide (am_i32 x4)) && true), .inl (bif am_cb .eq x4 (-4) then 85 else 75, [(0, am_pv 0), (1, am_iv x1), (2, am_iv x5), (3, am_iv x3), (4, am_iv x4), (5, am_iv x5), (6, am_iv q883.1)], [], am_SH, (q883.2.1, q883.2.2, am_RF true))) from rfl) (am_g2 (by decide) g889 rfl) (decide_eq_false c890) ?_
            obtain ⟨g891, h⟩ := am_if_some h
            by_cases c892 : (q883.1 - x5) < x4
            · rw [if_pos c892] at h
              refine am_r_f (show am_stepn X T_UpRiver_start 5 true (75, [(0, am_pv 0), (1, am_iv x1), (2, am_iv x5), (3, am_iv x3), (4, am_iv x4), (5, am_iv x5), (6, am_iv q883.1)], [], am_SH, (q883.2.1, q883.2.2, am_RF true)) = some (((decide (am_i32 x4) && decide (am_i32 (q883.1 - x5))) && true), .inl (bif am_cb .ge (q883.1 - x5) x4 then 95 else 85, [(0, am_pv 0), (1, am_iv x1), (2, am_iv x5), (3, am_iv x3), (4, am_iv x4), (5, am_iv x5), (6, am_iv q883.1)], [], am_SH, (q883.2.1, q883.2.2, am_RF true))) from rfl) (am_g2 g889 g891 rfl) (am_nd_t c892) ?_
              refine am_r_go (show am_stepn X T_UpRiver_start 8 true (85, [(0, am_pv 0), (1, am_iv x1), (2, am_iv x5), (3, am_iv x3), (4, am_iv x4), (5, am_iv x5), (6, am_iv q883.1)], [], am_SH, (q883.2.1, q883.2.2, am_RF true)) = some (true, .inl (24, [(0, am_pv 0), (1, am_iv x1), (2, am_iv x5), (3, am_iv x5), (4, am_iv (q883.1 - x5)), (5, am_iv (x5 + 1))], [], am_SH, (q883.2.1, q883.2.2, am_RF true))) from rfl) rfl ?_
              exact ih _ _ _ _ _ _ _ _ h
            · rw [if_neg c892] at h
              refine am_r_t (show am_stepn X T_UpRiver_start 5 true (75, [(0, am_pv 0), (1, am_iv x1), (2, am_iv x5), (3, am_iv x3), (4, am_iv x4), (5, am_iv x5), (6, am_iv q883.1)], [], am_SH, (q883.2.1, q883.2.2, am_RF true)) = some (((decide (am_i32 x4) && decide (am_i32 (q883.1 - x5))) && true), .inl (bif am_cb .ge (q883.1 - x5) x4 then 95 else 85, [(0, am_pv 0), (1, am_iv x1), (2, am_iv x5), (3, am_iv x3), (4, am_iv x4), (5, am_iv x5), (6, am_iv q883.1)], [], am_SH, (q883.2.1, q883.2.2, am_RF true))) from rfl) (am_g2 g889 g891 rfl) (am_nd_f c892) ?_
              refine am_r_go (show am_stepn X T_UpRiver_start 2 true (95, [(0, am_pv 0), (1, am_iv x1), (2, am_iv x5), (3, am_iv x3), (4, am_iv x4), (5, am_iv x5), (6, am_iv q883.1)], [], am_SH, (q883.2.1, q883.2.2, am_RF true)) = some (true, .inl (24, [(0, am_pv 0), (1, am_iv x1), (2, am_iv x5), (3, am_iv x3), (4, am_iv x4), (5, am_iv (x5 + 1))], [], am_SH, (q883.2.1, q883.2.2, am_RF true))) from rfl) rfl ?_
              exact ih _ _ _ _ _ _ _ _ h
theorem s_UpRiver_start_t {X : am_X} {x1 : Int} {J : am_J} {K : am_K} {r : Int × am_J × am_K} (h : f_UpRiver_start true x1 J K = some r) : am_runs X T_UpRiver_start (0, [(0, am_pv 0), (1, am_iv x1)], [], am_SH, (J, K, am_RF true)) (some (am_iv r.1), am_SH, (r.2.1, r.2.2, am_RF true)) := by
  unfold f_UpRiver_start at h
  obtain ⟨g893, h⟩ := am_if_some h
  by_cases c894 : x1 < 0
  · rw [if_pos c894] at h
    refine am_r_t (show am_stepn X T_UpRiver_start 2 true (0, [(0, am_pv 0), (1, am_iv x1)], [], am_SH, (J, K, am_RF true)) = some ((decide (am_i32 x1) && true), .inl (bif am_cb .lt x1 0 then 9 else 4, [(0, am_pv 0), (1, am_iv x1)], [], am_SH, (J, K, am_RF true))) from rfl) (am_g1 g893 rfl) (decide_eq_true c894) ?_
    obtain rfl := Option.some.inj h
    exact am_r_ret (show am_stepn X T_UpRiver_start 2 true (9, [(0, am_pv 0), (1, am_iv x1)], [], am_SH, (J, K, am_RF true)) = some (true, .inr (.inr (some (am_iv (-1)), am_SH, (J, K, am_RF true)))) from rfl) rfl
  · rw [if_neg c894] at h
    refine am_r_f (show am_stepn X T_UpRiver_start 2 true (0, [(0, am_pv 0), (1, am_iv x1)], [], am_SH, (J, K, am_RF true)) = some ((decide (am_i32 x1) && true), .inl (bif am_cb .lt x1 0 then 9 else 4, [(0, am_pv 0), (1, am_iv x1)], [], am_SH, (J, K, am_RF true))) from rfl) (am_g1 g893 rfl) (decide_eq_false c894) ?_
    by_cases c895 : 2 < x1
    · rw [if_pos c895] at h
      refine am_r_f (show am_stepn X T_UpRiver_start 3 true (4, [(0, am_pv 0), (1, am_iv x1)], [], am_SH, (J, K, am_RF true)) = some (((decide (am_i32 2) && decide (am_i32 x1)) && true), .inl (bif am_cb .le x1 2 then 11 else 9, [(0, am_pv 0), (1, am_iv x1)], [], am_SH, (J, K, am_RF true))) from rfl) (am_g2 (by decide) g893 rfl) (am_nd_t c895) ?_
      obtain rfl := Option.some.inj h
      exact am_r_ret (show am_stepn X T_UpRiver_start 2 true (9, [(0, am_pv 0), (1, am_iv x1)], [], am_SH, (J, K, am_RF true)) = some (true, .inr (.inr (some (am_iv (-1)), am_SH, (J, K, am_RF true)))) from rfl) rfl
    · rw [if_neg c895] at h
      refine am_r_t (show am_stepn X T_UpRiver_start 3 true (4, [(0, am_pv 0), (1, am_iv x1)], [], am_SH, (J, K, am_RF true)) = some (((decide (am_i32 2) && decide (am_i32 x1)) && true), .inl (bif am_cb .le x1 2 then 11 else 9, [(0, am_pv 0), (1, am_iv x1)], [], am_SH, (J, K, am_RF true))) from rfl) (am_g2 (by decide) g893 rfl) (am_nd_f c895) ?_
      refine am_r_go (show am_stepn X T_UpRiver_start 8 true (11, [(0, am_pv 0), (1, am_iv x1)], [], am_SH, (J, K, am_RF true)) = some (true, .inl (24, [(0, am_pv 0), (1, am_iv x1), (2, am_iv (-4)), (3, am_iv (-4)), (4, am_iv (-4)), (5, am_iv 0)], [], am_SH, (J, K, am_RF true))) from rfl) rfl ?_
      exact s_UpRiver_start_L24_t  _ _ _ _ _ _ _ _ _ h
theorem s_UpRiver_start {X : am_X} {b : Bool} {x1 : Int} {J : am_J} {K : am_K} {r : Int × am_J × am_K} (h : f_UpRiver_start b x1 J K = some r) : am_runs X T_UpRiver_start (0, [(0, am_pv 0), (1, am_iv x1)], [], am_SH, (J, K, am_RF b)) (some (am_iv r.1), am_SH, (r.2.1, r.2.2, am_RF b)) := by
  cases b
  · exact s_UpRiver_start_f h
  · exact s_UpRiver_start_t h
