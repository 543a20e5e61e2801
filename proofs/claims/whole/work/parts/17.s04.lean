theorem s_UpRiver_sail_L55_f {X : am_X} {K : am_K}  : ∀ (n : Nat) (x1 : Int) (x3 : Int) (x4 : Int) (J : am_J) (r : Int × am_J), f_UpRiver_sail_L55 false  n x1 x3 x4 J = some r → am_runs X T_UpRiver_sail (55, [(0, am_pv 0), (1, am_iv x1), (2, am_pv 18), (3, am_iv x3), (4, am_iv x4)], [], am_SH, (J, K, am_RF false)) (some (am_iv r.1), am_SH, (r.2, K, am_RF false)) := by
  intro n
  induction n with
  | zero =>
    intro x1 x3 x4 J r h
    cases h
  | succ n ih =>
    intro x1 x3 x4 J r h
    rw [f_UpRiver_sail_L55.eq_2] at h
    obtain ⟨g565, h⟩ := am_if_some h
    obtain ⟨g566, h⟩ := am_if_some h
    by_cases c567 : x4 < x1
    · rw [if_pos c567] at h
      refine am_r_f (show am_stepn X T_UpRiver_sail 3 true (55, [(0, am_pv 0), (1, am_iv x1), (2, am_pv 18), (3, am_iv x3), (4, am_iv x4)], [], am_SH, (J, K, am_RF false)) = some (((decide (am_i32 x1) && decide (am_i32 x4)) && true), .inl (bif am_cb .ge x4 x1 then 105 else 61, [(0, am_pv 0), (1, am_iv x1), (2, am_pv 18), (3, am_iv x3), (4, am_iv x4)], [], am_SH, (J, K, am_RF false))) from rfl) (am_g2 g565 g566 rfl) (am_nd_t c567) ?_
      obtain ⟨q568, e569, h⟩ := am_bind_some h
      refine am_r_call (show am_stepn X T_UpRiver_sail 4 true (61, [(0, am_pv 0), (1, am_iv x1), (2, am_pv 18), (3, am_iv x3), (4, am_iv x4)], [], am_SH, (J, K, am_RF false)) = some (true, .inr (.inl (71, [am_pv 18, am_pv (am_rv false)], 2, 0, 0, 69, [(0, am_pv 0), (1, am_iv x1), (2, am_pv 18), (3, am_iv x3), (4, am_iv x4)], [], am_SH, (J, K, am_RF false)))) from rfl) rfl tb_Boat_isUp (s_Boat_isUp (by decide) e569) ?_
      obtain ⟨g570, h⟩ := am_if_some h
      by_cases c571 : q568 = 0
      · rw [if_pos c571] at h
        refine am_r_f (show am_stepn X T_UpRiver_sail 1 true (69, [(0, am_pv 0), (1, am_iv x1), (2, am_pv 18), (3, am_iv x3), (4, am_iv x4)], [am_iv q568], am_SH, (J, K, am_RF false)) = some ((decide (am_i32 q568) && true), .inl (bif am_cb .ne q568 0 then 105 else 72, [(0, am_pv 0), (1, am_iv x1), (2, am_pv 18), (3, am_iv x3), (4, am_iv x4)], [], am_SH, (J, K, am_RF false))) from rfl) (am_g1 g570 rfl) (am_nd_t c571) ?_
        obtain ⟨q572, e573, h⟩ := am_bind_some h
        refine am_r_call (show am_stepn X T_UpRiver_sail 4 true (72, [(0, am_pv 0), (1, am_iv x1), (2, am_pv 18), (3, am_iv x3), (4, am_iv x4)], [], am_SH, (J, K, am_RF false)) = some (true, .inr (.inl (73, [am_pv 18, am_pv (am_rv false)], 5, 0, 0, 80, [(0, am_pv 0), (1, am_iv x1), (2, am_pv 18), (3, am_iv x3), (4, am_iv x4)], [], am_SH, (J, K, am_RF false)))) from rfl) rfl tb_Boat_trySail (s_Boat_trySail (by decide) e573) ?_
        obtain ⟨g574, h⟩ := am_if_some h
        by_cases c575 : q572.1 = 0
        · rw [if_pos c575] at h
          refine am_r_t (show am_stepn X T_UpRiver_sail 1 true (80, [(0, am_pv 0), (1, am_iv x1), (2, am_pv 18), (3, am_iv x3), (4, am_iv x4)], [am_iv q572.1], am_SH, (q572.2, K, am_RF false)) = some ((decide (am_i32 q572.1) && true), .inl (bif am_cb .eq q572.1 0 then 89 else 83, [(0, am_pv 0), (1, am_iv x1), (2, am_pv 18), (3, am_iv x3), (4, am_iv x4)], [], am_SH, (q572.2, K, am_RF false))) from rfl) (am_g1 g574 rfl) (decide_eq_true c575) ?_
          refine am_r_go (show am_stepn X T_UpRiver_sail 8 true (89, [(0, am_pv 0), (1, am_iv x1), (2, am_pv 18), (3, am_iv x3), (4, am_iv x4)], [], am_SH, (q572.2, K, am_RF false)) = some (true, .inl (55, [(0, am_pv 0), (1, am_iv x1), (2, am_pv 18), (3, am_iv x3), (4, am_iv (x4 + 1))], [], am_SH, ((am_up q572.2 18 3 ((q572.2 18 3) + 1)), K, am_RF false))) from rfl) rfl ?_
          exact ih _ _ _ _ _ h
        · rw [if_neg c575] at h
          refine am_r_f (show am_stepn X T_UpRiver_sail 1 true (80, [(0, am_pv 0), (1, am_iv x1), (2, am_pv 18), (3, am_iv x3), (4, am_iv x4)], [am_iv q572.1], am_SH, (q572.2, K, am_RF false)) = some ((decide (am_i32 q572.1) && true), .inl (bif am_cb .eq q572.1 0 then 89 else 83, [(0, am_pv 0), (1, am_iv x1), (2, am_pv 18), (3, am_iv x3), (4, am_iv x4)], [], am_SH, (q572.2, K, am_RF false))) from rfl) (am_g1 g574 rfl) (decide_eq_false c575) ?_
          refine am_r_go (show am_stepn X T_UpRiver_sail 4 true (83, [(0, am_pv 0), (1, am_iv x1), (2, am_pv 18), (3, am_iv x3), (4, am_iv x4)], [], am_SH, (q572.2, K, am_RF false)) = some (true, .inl (55, [(0, am_pv 0), (1, am_iv x1), (2, am_pv 18), (3, am_iv (x3 + 1)), (4, am_iv (x4 + 1))], [], am_SH, (q572.2, K, am_RF false))) from rfl) rfl ?_
          exact ih _ _ _ _ _ h
      · rw [if_neg c571] at h
        refine am_r_t (show am_stepn X T_UpRiver_sail 1 true (69, [(0, am_pv 0), (1, am_iv x1), (2, am_pv 18), (3, am_iv x3), (4, am_iv x4)], [am_iv q568], am_SH, (J, K, am_RF false)) = some ((decide (am_i32 q568) && true), .inl (bif am_cb .ne q568 0 then 105 else 72, [(0, am_pv 0), (1, am_iv x1), (2, am_pv 18), (3, am_iv x3), (4, am_iv x4)], [], am_SH, (J, K, am_RF false))) from rfl) (am_g1 g570 rfl) (am_nd_f c571) ?_
        obtain rfl := Option.some.inj h
        exact am_r_ret (show am_stepn X T_UpRiver_sail 2 true (105, [(0, am_pv 0), (1, am_iv x1), (2, am_pv 18), (3, am_iv x3), (4, am_iv x4)], [], am_SH, (J, K, am_RF false)) = some (true, .inr (.inr (some (am_iv x3), am_SH, (J, K, am_RF false)))) from rfl) rfl
    · rw [if_neg c567] at h
      refine am_r_t (show am_stepn X T_UpRiver_sail 3 true (55, [(0, am_pv 0), (1, am_iv x1), (2, am_pv 18), (3, am_iv x3), (4, am_iv x4)], [], am_SH, (J, K, am_RF false)) = some (((decide (am_i32 x1) && decide (am_i32 x4)) && true), .inl (bif am_cb .ge x4 x1 then 105 else 61, [(0, am_pv 0), (1, am_iv x1), (2, am_pv 18), (3, am_iv x3), (4, am_iv x4)], [], am_SH, (J, K, am_RF false))) from rfl) (am_g2 g565 g566 rfl) (am_nd_f c567) ?_
      obtain rfl := Option.some.inj h
      exact am_r_ret (show am_stepn X T_UpRiver_sail 2 true (105, [(0, am_pv 0), (1, am_iv x1), (2, am_pv 18), (3, am_iv x3), (4, am_iv x4)], [], am_SH, (J, K, am_RF false)) = some (true, .inr (.inr (some (am_iv x3), am_SH, (J, K, am_RF false)))) from rfl) rfl
theorem s_UpRiver_sail_f {X : am_X} {K : am_K} {x1 : Int} {J : am_J} {r : Int × am_J} (h : f_UpRiver_sail false x1 J = some r) : am_runs X T_UpRiver_sail (0, [(0, am_pv 0), (1, am_iv x1)], [], am_SH, (J, K, am_RF false)) (some (am_iv r.1), am_SH, (r.2, K, am_RF false)) := by
  unfold f_UpRiver_sail at h
  obtain ⟨g576, h⟩ := am_if_some h
  by_cases c577 : x1 < 1
  · rw [if_pos c577] at h
    refine am_r_t (show am_stepn X T_UpRiver_sail 7 true (0, [(0, am_pv 0), (1, am_iv x1)], [], am_SH, (J, K, am_RF false)) = some (((decide (am_i32 1) && decide (am_i32 x1)) && true), .inl (bif am_cb .lt x1 1 then 19 else 13, [(0, am_pv 0), (1, am_iv x1), (2, am_pv 18)], [], am_SH, (J, K, am_RF false))) from rfl) (am_g2 (by decide) g576 rfl) (decide_eq_true c577) ?_
    obtain rfl := Option.some.inj h
    exact am_r_ret (show am_stepn X T_UpRiver_sail 2 true (19, [(0, am_pv 0), (1, am_iv x1), (2, am_pv 18)], [], am_SH, (J, K, am_RF false)) = some (true, .inr (.inr (some (am_iv (-1)), am_SH, (J, K, am_RF false)))) from rfl) rfl
  · rw [if_neg c577] at h
    refine am_r_f (show am_stepn X T_UpRiver_sail 7 true (0, [(0, am_pv 0), (1, am_iv x1)], [], am_SH, (J, K, am_RF false)) = some (((decide (am_i32 1) && decide (am_i32 x1)) && true), .inl (bif am_cb .lt x1 1 then 19 else 13, [(0, am_pv 0), (1, am_iv x1), (2, am_pv 18)], [], am_SH, (J, K, am_RF false))) from rfl) (am_g2 (by decide) g576 rfl) (decide_eq_false c577) ?_
    by_cases c578 : 99 < x1
    · rw [if_pos c578] at h
      refine am_r_f (show am_stepn X T_UpRiver_sail 3 true (13, [(0, am_pv 0), (1, am_iv x1), (2, am_pv 18)], [], am_SH, (J, K, am_RF false)) = some (((decide (am_i32 99) && decide (am_i32 x1)) && true), .inl (bif am_cb .le x1 99 then 21 else 19, [(0, am_pv 0), (1, am_iv x1), (2, am_pv 18)], [], am_SH, (J, K, am_RF false))) from rfl) (am_g2 (by decide) g576 rfl) (am_nd_t c578) ?_
      obtain rfl := Option.some.inj h
      exact am_r_ret (show am_stepn X T_UpRiver_sail 2 true (19, [(0, am_pv 0), (1, am_iv x1), (2, am_pv 18)], [], am_SH, (J, K, am_RF false)) = some (true, .inr (.inr (some (am_iv (-1)), am_SH, (J, K, am_RF false)))) from rfl) rfl
    · rw [if_neg c578] at h
      refine am_r_t (show am_stepn X T_UpRiver_sail 3 true (13, [(0, am_pv 0), (1, am_iv x1), (2, am_pv 18)], [], am_SH, (J, K, am_RF false)) = some (((decide (am_i32 99) && decide (am_i32 x1)) && true), .inl (bif am_cb .le x1 99 then 21 else 19, [(0, am_pv 0), (1, am_iv x1), (2, am_pv 18)], [], am_SH, (J, K, am_RF false))) from rfl) (am_g2 (by decide) g576 rfl) (am_nd_f c578) ?_
      obtain ⟨q579, e580, h⟩ := am_bind_some h
      refine am_r_call (show am_stepn X T_UpRiver_sail 4 true (21, [(0, am_pv 0), (1, am_iv x1), (2, am_pv 18)], [], am_SH, (J, K, am_RF false)) = some (true, .inr (.inl (71, [am_pv 18, am_pv (am_rv false)], 2, 0, 0, 29, [(0, am_pv 0), (1, am_iv x1), (2, am_pv 18)], [], am_SH, (J, K, am_RF false)))) from rfl) rfl tb_Boat_isUp (s_Boat_isUp (by decide) e580) ?_
      obtain ⟨g581, h⟩ := am_if_some h
      by_cases c582 : q579 = 0
      · rw [if_pos c582] at h
        refine am_r_t (show am_stepn X T_UpRiver_sail 1 true (29, [(0, am_pv 0), (1, am_iv x1), (2, am_pv 18)], [am_iv q579], am_SH, (J, K, am_RF false)) = some ((decide (am_i32 q579) && true), .inl (bif am_cb .eq q579 0 then 35 else 32, [(0, am_pv 0), (1, am_iv x1), (2, am_pv 18)], [], am_SH, (J, K, am_RF false))) from rfl) (am_g1 g581 rfl) (decide_eq_true c582) ?_
        obtain ⟨g583, h⟩ := am_if_some h
        by_cases c584 : 300 < ((J 18 3) + x1)
        · rw [if_pos c584] at h
          refine am_r_f (show am_stepn X T_UpRiver_sail 6 true (35, [(0, am_pv 0), (1, am_iv x1), (2, am_pv 18)], [], am_SH, (J, K, am_RF false)) = some (((decide (am_i32 300) && decide (am_i32 ((J 18 3) + x1))) && true), .inl (bif am_cb .le ((J 18 3) + x1) 300 then 50 else 47, [(0, am_pv 0), (1, am_iv x1), (2, am_pv 18)], [], am_SH, (J, K, am_RF false))) from rfl) (am_g2 (by decide) g583 rfl) (am_nd_t c584) ?_
          obtain rfl := Option.some.inj h
          exact am_r_ret (show am_stepn X T_UpRiver_sail 2 true (47, [(0, am_pv 0), (1, am_iv x1), (2, am_pv 18)], [], am_SH, (J, K, am_RF false)) = some (true, .inr (.inr (some (am_iv (-3)), am_SH, (J, K, am_RF false)))) from rfl) rfl
        · rw [if_neg c584] at h
          refine am_r_t (show am_stepn X T_UpRiver_sail 6 true (35, [(0, am_pv 0), (1, am_iv x1), (2, am_pv 18)], [], am_SH, (J, K, am_RF false)) = some (((decide (am_i32 300) && decide (am_i32 ((J 18 3) + x1))) && true), .inl (bif am_cb .le ((J 18 3) + x1) 300 then 50 else 47, [(0, am_pv 0), (1, am_iv x1), (2, am_pv 18)], [], am_SH, (J, K, am_RF false))) from rfl) (am_g2 (by decide) g583 rfl) (am_nd_f c584) ?_
          refine am_r_go (show am_stepn X T_UpRiver_sail 4 true (50, [(0, am_pv 0), (1, am_iv x1), (2, am_pv 18)], [], am_SH, (J, K, am_RF false)) = some (true, .inl (55, [(0, am_pv 0), (1, am_iv x1), (2, am_pv 18), (3, am_iv 0), (4, am_iv 0)], [], am_SH, (J, K, am_RF false))) from rfl) rfl ?_
          exact s_UpRiver_sail_L55_f  _ _ _ _ _ _ h
      · rw [if_neg c582] at h
        refine am_r_f (show am_stepn X T_UpRiver_sail 1 true (29, [(0, am_pv 0), (1, am_iv x1), (2, am_pv 18)], [am_iv q579], am_SH, (J, K, am_RF false)) = some ((decide (am_i32 q579) && true), .inl (bif am_cb .eq q579 0 then 35 else 32, [(0, am_pv 0), (1, am_iv x1), (2, am_pv 18)], [], am_SH, (J, K, am_RF false))) from rfl) (am_g1 g581 rfl) (decide_eq_false c582) ?_
        obtain rfl := Option.some.inj h
        exact am_r_ret (show am_stepn X T_UpRiver_sail 2 true (32, [(0, am_pv 0), (1, am_iv x1), (2, am_pv 18)], [], am_SH, (J, K, am_RF false)) = some (true, .inr (.inr (some (am_iv (-2)), am_SH, (J, K, am_RF false)))) from rfl) rfl
theorem s_UpRiver_sail_L55_t {X : am_X} {K : am_K}  : ∀ (n : Nat) (x1 : Int) (x3 : Int) (x4 : Int) (J : am_J) (r : Int × am_J), f_UpRiver_sail_L55 true  n x1 x3 x4 J = some r → am_runs X T_UpRiver_sail (55, [(0, am_pv 0), (1, am_iv x1), (2, am_pv 18), (3, am_iv x3), (4, am_iv x4)], [], am_SH, (J, K, am_RF true)) (some (am_iv r.1), am_SH, (r.2, K, am_RF true)) := by
  intro n
  induction n with
  | zero =>
    intro x1 x3 x4 J r h
    cases h
  | succ n ih =>
    intro x1 x3 x4 J r h
    rw [f_UpRiver_sail_L55.eq_2] at h
    obtain ⟨g565, h⟩ := am_if_some h
    obtain ⟨g566, h⟩ := am_if_some h
    by_cases c567 : x4 < x1
    · rw [if_pos c567] at h
      refine am_r_f (show am_stepn X T_UpRiver_sail 3 true (55, [(0, am_pv 0), (1, am_iv x1), (2, am_pv 18), (3, am_iv x3), (4, am_iv x4)], [], am_SH, (J, K, am_RF true)) = some (((decide (am_i32 x1) && decide (am_i32 x4)) && true), .inl (bif am_cb .ge x4 x1 then 105 else 61, [(0, am_pv 0), (1, am_iv x1), (2, am_pv 18), (3, am_iv x3), (4, am_iv x4)], [], am_SH, (J, K, am_RF true))) from rfl) (am_g2 g565 g566 rfl) (am_nd_t c567) ?_
      obtain ⟨q568, e569, h⟩ := am_bind_some h
      refine am_r_call (show am_stepn X T_UpRiver_sail 4 true (61, [(0, am_pv 0), (1, am_iv x1), (2, am_pv 18), (3, am_iv x3), (4, am_iv x4)], [], am_SH, (J, K, am_RF true)) = some (true, .inr (.inl (71, [am_pv 18, am_pv (am_rv true)], 2, 0, 0, 69, [(0, am_pv 0), (1, am_iv x1), (2, am_pv 18), (3, am_iv x3), (4, am_iv x4)], [], am_SH, (J, K, am_RF true)))) from rfl) rfl tb_Boat_isUp (s_Boat_isUp (by decide) e569) ?_
      obtain ⟨g570, h⟩ := am_if_some h
      by_cases c571 : q568 = 0
      · rw [if_pos c571] at h
        refine am_r_f (show am_stepn X T_UpRiver_sail 1 true (69, [(0, am_pv 0), (1, am_iv x1), (2, am_pv 18), (3, am_iv x3), (4, am_iv x4)], [am_iv q568], am_SH, (J, K, am_RF true)) = some ((decide (am_i32 q568) && true), .inl (bif am_cb .ne q568 0 then 105 else 72, [(0, am_pv 0), (1, am_iv x1), (2, am_pv 18), (3, am_iv x3), (4, am_iv x4)], [], am_SH, (J, K, am_RF true))) from rfl) (am_g1 g570 rfl) (am_nd_t c571) ?_
        obtain ⟨q572, e573, h⟩ := am_bind_some h
        refine am_r_call (show am_stepn X T_UpRiver_sail 4 true (72, [(0, am_pv 0), (1, am_iv x1), (2, am_pv 18), (3, am_iv x3), (4, am_iv x4)], [], am_SH, (J, K, am_RF true)) = some (true, .inr (.inl (73, [am_pv 18, am_pv (am_rv true)], 5, 0, 0, 80, [(0, am_pv 0), (1, am_iv x1), (2, am_pv 18), (3, am_iv x3), (4, am_iv x4)], [], am_SH, (J, K, am_RF true)))) from rfl) rfl tb_Boat_trySail (s_Boat_trySail (by decide) e573) ?_
        obtain ⟨g574, h⟩ := am_if_some h
        by_cases c575 : q572.1 = 0
        · rw [if_pos c575] at h
          refine am_r_t (show am_stepn X T_UpRiver_sail 1 true (80, [(0, am_pv 0), (1, am_iv x1), (2, am_pv 18), (3, am_iv x3), (4, am_iv x4)], [am_iv q572.1], am_SH, (q572.2, K, am_RF true)) = some ((decide (am_i32 q572.1) && true), .inl (bif am_cb .eq q572.1 0 then 89 else 83, [(0, am_pv 0), (1, am_iv x1), (2, am_pv 18), (3, am_iv x3), (4, am_iv x4)], [], am_SH, (q572.2, K, am_RF true))) from rfl) (am_g1 g574 rfl) (decide_eq_true c575) ?_
          refine am_r_go (show am_stepn X T_UpRiver_sail 8 true (89, [(0, am_pv 0), (1, am_iv x1), (2, am_pv 18), (3, am_iv x3), (4, am_iv x4)], [], am_SH, (q572.2, K, am_RF true)) = some (true, .inl (55, [(0, am_pv 0), (1, am_iv x1), (2, am_pv 18), (3, am_iv x3), (4, am_iv (x4 + 1))], [], am_SH, ((am_up q572.2 18 3 ((q572.2 18 3) + 1)), K, am_RF true))) from rfl) rfl ?_
          exact ih _ _ _ _ _ h
        · rw [if_neg c575] at h
          refine am_r_f (show am_stepn X T_UpRiver_sail 1 true (80, [(0, am_pv 0), (1, am_iv x1), (2, am_pv 18), (3, am_iv x3), (4, am_iv x4)], [am_iv q572.1], am_SH, (q572.2, K, am_RF true)) = some ((decide (am_i32 q572.1) && true), .inl (bif am_cb .eq q572.1 0 then 89 else 83, [(0, am_pv 0), (1, am_iv x1), (2, am_pv 18), (3, am_iv x3), (4, am_iv x4)], [], am_SH, (q572.2, K, am_RF true))) from rfl) (am_g1 g574 rfl) (decide_eq_false c575) ?_
          refine am_r_go (show am_stepn X T_UpRiver_sail 4 true (83, [(0, am_pv 0), (1, am_iv x1), (2, am_pv 18), (3, am_iv x3), (4, am_iv x4)], [], am_SH, (q572.2, K, am_RF true)) = some (true, .inl (55, [(0, am_pv 0), (1, am_iv x1), (2, am_pv 18), (3, am_iv (x3 + 1)), (4, am_iv (x4 + 1))], [], am_SH, (q572.2, K, am_RF true))) from rfl) rfl ?_
          exact ih _ _ _ _ _ h
      · rw [if_neg c571] at h
        refine am_r_t (show am_stepn X T_UpRiver_sail 1 true (69, [(0, am_pv 0), (1, am_iv x1), (2, am_pv 18), (3, am_iv x3), (4, am_iv x4)], [am_iv q568], am_SH, (J, K, am_RF true)) = some ((decide (am_i32 q568) && true), .inl (bif am_cb .ne q568 0 then 105 else 72, [(0, am_pv 0), (1, am_iv x1), (2, am_pv 18), (3, am_iv x3), (4, am_iv x4)], [], am_SH, (J, K, am_RF true))) from rfl) (am_g1 g570 rfl) (am_nd_f c571) ?_
        obtain rfl := Option.some.inj h
        exact am_r_ret (show am_stepn X T_UpRiver_sail 2 true (105, [(0, am_pv 0), (1, am_iv x1), (2, am_pv 18), (3, am_iv x3), (4, am_iv x4)], [], am_SH, (J, K, am_RF true)) = some (true, .inr (.inr (some (am_iv x3), am_SH, (J, K, am_RF true)))) from rfl) rfl
    · rw [if_neg c567] at h
      refine am_r_t (show am_stepn X T_UpRiver_sail 3 true (55, [(0, am_pv 0), (1, am_iv x1), (2, am_pv 18), (3, am_iv x3), (4, am_iv x4)], [], am_SH, (J, K, am_RF true)) = some (((decide (am_i32 x1) && decide (am_i32 x4)) && true), .inl (bif am_cb .ge x4 x1 then 105 else 61, [(0, am_pv 0), (1, am_iv x1), (2, am_pv 18), (3, am_iv x3), (4, am_iv x4)], [], am_SH, (J, K, am_RF true))) from rfl) (am_g2 g565 g566 rfl) (am_nd_f c567) ?_
      obtain rfl := Option.some.inj h
      exact am_r_ret (show am_stepn X T_UpRiver_sail 2 true (105, [(0, am_pv 0), (1, am_iv x1), (2, am_pv 18), (3, am_iv x3), (4, am_iv x4)], [], am_SH, (J, K, am_RF true)) = some (true, .inr (.inr (some (am_iv x3), am_SH, (J, K, am_RF true)))) from rfl) rfl
theorem s_UpRiver_sail_t {X : am_X} {K : am_K} {x1 : Int} {J : am_J} {r : Int × am_J} (h : f_UpRiver_sail true x1 J = some r) : am_runs X T_UpRiver_sail (0, [(0, am_pv 0), (1, am_iv x1)], [], am_SH, (J, K, am_RF true)) (some (am_iv r.1), am_SH, (r.2, K, am_RF true)) := by
  unfold f_UpRiver_sail at h
  obtain ⟨g576, h⟩ := am_if_some h
  by_cases c577 : x1 < 1
  · rw [if_pos c577] at h
    refine am_r_t (show am_stepn X T_UpRiver_sail 7 true (0, [(0, am_pv 0), (1, am_iv x1)], [], am_SH, (J, K, am_RF true)) = some (((decide (am_i32 1) && decide (am_i32 x1)) && true), .inl (bif am_cb .lt x1 1 then 19 else 13, [(0, am_pv 0), (1, am_iv x1), (2, am_pv 18)], [], am_SH, (J, K, am_RF true))) from rfl) (am_g2 (by decide) g576 rfl) (decide_eq_true c577) ?_
    obtain rfl := Option.some.inj h
    exact am_r_ret (show am_stepn X T_UpRiver_sail 2 true (19, [(0, am_pv 0), (1, am_iv x1), (2, am_pv 18)], [], am_SH, (J, K, am_RF true)) = some (true, .inr (.inr (some (am_iv (-1)), am_SH, (J, K, am_RF true)))) from rfl) rfl
  · rw [if_neg c577] at h
    refine am_r_f (show am_stepn X T_UpRiver_sail 7 true (0, [(0, am_pv 0), (1, am_iv x1)], [], am_SH, (J, K, am_RF true)) = some (((decide (am_i32 1) && decide (am_i32 x1)) && true), .inl (bif am_cb .lt x1 1 then 19 else 13, [(0, am_pv 0), (1, am_iv x1), (2, am_pv 18)], [], am_SH, (J, K, am_RF true))) from rfl) (am_g2 (by decide) g576 rfl) (decide_eq_false c577) ?_
    by_cases c578 : 99 < x1
    · rw [if_pos c578] at h
      refine am_r_f (show am_stepn X T_UpRiver_sail 3 true (13, [(0, am_pv 0), (1, am_iv x1), (2, am_pv 18)], [], am_SH, (J, K, am_RF true)) = some (((decide (am_i32 99) && decide (am_i32 x1)) && true), .inl (bif am_cb .le x1 99 then 21 else 19, [(0, am_pv 0), (1, am_iv x1), (2, am_pv 18)], [], am_SH, (J, K, am_RF true))) from rfl) (am_g2 (by decide) g576 rfl) (am_nd_t c578) ?_
      obtain rfl := Option.some.inj h
      exact am_r_ret (show am_stepn X T_UpRiver_sail 2 true (19, [(0, am_pv 0), (1, am_iv x1), (2, am_pv 18)], [], am_SH, (J, K, am_RF true)) = some (true, .inr (.inr (some (am_iv (-1)), am_SH, (J, K, am_RF true)))) from rfl) rfl
    · rw [if_neg c578] at h
      refine am_r_t (show am_stepn X T_UpRiver_sail 3 true (13, [(0, am_pv 0), (1, am_iv x1), (2, am_pv 18)], [], am_SH, (J, K, am_RF true)) = some (((decide (am_i32 99) && decide (am_i32 x1)) && true), .inl (bif am_cb .le x1 99 then 21 else 19, [(0, am_pv 0), (1, am_iv x1), (2, am_pv 18)], [], am_SH, (J, K, am_RF true))) from rfl) (am_g2 (by decide) g576 rfl) (am_nd_f c578) ?_
      obtain ⟨q579, e580, h⟩ := am_bind_some h
      refine am_r_call (show am_stepn X T_UpRiver_sail 4 true (21, [(0, am_pv 0), (1, am_iv x1), (2, am_pv 18)], [], am_SH, (J, K, am_RF true)) = some (true, .inr (.inl (71, [am_pv 18, am_pv (am_rv true)], 2, 0, 0, 29, [(0, am_pv 0), (1, am_iv x1), (2, am_pv 18)], [], am_SH, (J, K, am_RF true)))) from rfl) rfl tb_Boat_isUp (s_Boat_isUp (by decide) e580) ?_
      obtain ⟨g581, h⟩ := am_if_some h
      by_cases c582 : q579 = 0
      · rw [if_pos c582] at h
        refine am_r_t (show am_stepn X T_UpRiver_sail 1 true (29, [(0, am_pv 0), (1, am_iv x1), (2, am_pv 18)], [am_iv q579], am_SH, (J, K, am_RF true)) = some ((decide (am_i32 q579) && true), .inl (bif am_cb .eq q579 0 then 35 else 32, [(0, am_pv 0), (1, am_iv x1), (2, am_pv 18)], [], am_SH, (J, K, am_RF true))) from rfl) (am_g1 g581 rfl) (decide_eq_true c582) ?_
        obtain ⟨g583, h⟩ := am_if_some h
        by_cases c584 : 300 < ((J 18 3) + x1)
        · rw [if_pos c584] at h
          refine am_r_f (show am_stepn X T_UpRiver_sail 6 true (35, [(0, am_pv 0), (1, am_iv x1), (2, am_pv 18)], [], am_SH, (J, K, am_RF true)) = some (((decide (am_i32 300) && decide (am_i32 ((J 18 3) + x1))) && true), .inl (bif am_cb .le ((J 18 3) + x1) 300 then 50 else 47, [(0, am_pv 0), (1, am_iv x1), (2, am_pv 18)], [], am_SH, (J, K, am_RF true))) from rfl) (am_g2 (by decide) g583 rfl) (am_nd_t c584) ?_
          obtain rfl := Option.some.inj h
          exact am_r_ret (show am_stepn X T_UpRiver_sail 2 true (47, [(0, am_pv 0), (1, am_iv x1), (2, am_pv 18)], [], am_SH, (J, K, am_RF true)) = some (true, .inr (.inr (some (am_iv (-3)), am_SH, (J, K, am_RF true)))) from rfl) rfl
        · rw [if_neg c584] at h
          refine am_r_t (show am_stepn X T_UpRiver_sail 6 true (35, [(0, am_pv 0), (1, am_iv x1), (2, am_pv 18)], [], am_SH, (J, K, am_RF true)) = some (((decide (am_i32 300) && decide (am_i32 ((J 18 3) + x1))) && true), .inl (bif am_cb .le ((J 18 3) + x1) 300 then 50 else 47, [(0, am_pv 0), (1, am_iv x1), (2, am_pv 18)], [], am_SH, (J, K, am_RF true))) from rfl) (am_g2 (by decide) g583 rfl) (am_nd_f c584) ?_
          refine am_r_go (show am_stepn X T_UpRiver_sail 4 true (50, [(0, am_pv 0), (1, am_iv x1), (2, am_pv 18)], [], am_SH, (J, K, am_RF true)) = some (true, .inl (55, [(0, am_pv 0), (1, am_iv x1), (2, am_pv 18), (3, am_iv 0), (4, am_iv 0)], [], am_SH, (J, K, am_RF true))) from rfl) rfl ?_
          exact s_UpRiver_sail_L55_t  _ _ _ _ _ _ h
      · rw [if_neg c582] at h
        refine am_r_f (show am_stepn X T_UpRiver_sail 1 true (29, [(0, am_pv 0), (1, am_iv x1), (2, am_pv 18)], [am_iv q579], am_SH, (J, K, am_RF true)) = some ((decide (am_i32 q579) && true), .inl (bif am_cb .eq q579 0 then 35 else 32, [(0, am_pv 0), (1, am_iv x1), (2, am_pv 18)], [], am_SH, (J, K, am_RF true))) from rfl) (am_g1 g581 rfl) (decide_eq_false c582) ?_
        obtain rfl := Option.some.inj h
        exact am_r_ret (show am_stepn X T_UpRiver_sail 2 true (32, [(0, am_pv 0), (1, am_iv x1), (2, am_pv 18)], [], am_SH, (J, K, am_RF true)) = some (true, .inr (.inr (some (am_iv (-2)), am_SH, (J, K, am_RF true)))) from rfl) rfl
theorem s_UpRiver_sail {X : am_X} {b : Bool} {K : am_K} {x1 : Int} {J : am_J} {r : Int × am_J} (h : f_UpRiver_sail b x1 J = some r) : am_runs X T_UpRiver_sail (0, [(0, am_pv 0), (1, am_iv x1)], [], am_SH, (J, K, am_RF b)) (some (am_iv r.1), am_SH, (r.2, K, am_RF b)) := by
  cases b
  · exact s_UpRiver_sail_f h
  · exact s_UpRiver_sail_t h
theorem s_Boat_tryTurn_L91_18_32_ {X : am_X} {b : Bool} {K : am_K}  : ∀ (x2 : Int) (x3 : Int) (J : am_J) (r : Int × am_J), f_Boat_tryTurn_L91 18 32   x2 x3 J = some r → am_runs X T_Boat_tryTurn (91, [(0, am_pv 18), (2, am_iv x2), (3, am_iv x3)], [], am_SH, (J, K, am_RF b)) (some (am_iv r.1), am_SH, (r.2, K, am_RF b)) := by
  intro x2 x3 J r h
  unfold f_Boat_tryTurn_L91 at h
  obtain rfl := Option.some.inj h
  exact am_r_ret (show am_stepn X T_Boat_tryTurn 23 true (91, [(0, am_pv 18), (2, am_iv x2), (3, am_iv x3)], [], am_SH, (J, K, am_RF b)) = some ((decide ((1 : Int) = 0 ∨ (1 : Int) = 1) && true), .inr (.inr (some (am_iv 1), am_SH, ((am_up (am_up (am_up (am_up J 18 0 x3) 18 2 (1 - (J 18 2))) 18 3 ((J 18 3) + x2)) 18 4 ((J 18 4) + 1)), K, am_RF b)))) from rfl) (am_g1 (by decide) rfl)
theorem s_Boat_tryTurn_18_32_ {X : am_X} {b : Bool} {K : am_K} {J : am_J} {r : Int × am_J} (h : f_Boat_tryTurn 18 32 J = some r) : am_runs X T_Boat_tryTurn (0, [(0, am_pv 18), (1, am_pv 32)], [], am_SH, (J, K, am_RF b)) (some (am_iv r.1), am_SH, (r.2, K, am_RF b)) := by
  unfold f_Boat_tryTurn at h
  obtain ⟨g585, h⟩ := am_if_some h
  by_cases c586 : 300 < ((J 18 3) + (J (32 + 1) 5))
  · rw [if_pos c586] at h
    refine am_r_t (show am_stepn X T_Boat_tryTurn 11 true (0, [(0, am_pv 18), (1, am_pv 32)], [], am_SH, (J, K, am_RF b)) = some (((decide (am_i32 300) && decide (am_i32 ((J 18 3) + (J (32 + 1) 5)))) && (am_in 5 7 && true)), .inl (bif am_cb .gt ((J 18 3) + (J (32 + 1) 5)) 300 then 27 else 19, [(0, am_pv 18), (1, am_pv 32), (2, am_iv (J (32 + 1) 5))], [], am_SH, (J, K, am_RF b))) from rfl) (am_g2 (by decide) g585 (am_gi (by decide) rfl)) (decide_eq_true c586) ?_
    obtain rfl := Option.some.inj h
    exact am_r_ret (show am_stepn X T_Boat_tryTurn 2 true (27, [(0, am_pv 18), (1, am_pv 32), (2, am_iv (J (32 + 1) 5))], [], am_SH, (J, K, am_RF b)) = some ((decide ((0 : Int) = 0 ∨ (0 : Int) = 1) && true), .inr (.inr (some (am_iv 0), am_SH, (J, K, am_RF b)))) from rfl) (am_g1 (by decide) rfl)
  · rw [if_neg c586] at h
    refine am_r_f (show am_stepn X T_Boat_tryTurn 11 true (0, [(0, am_pv 18), (1, am_pv 32)], [], am_SH, (J, K, am_RF b)) = some (((decide (am_i32 300) && decide (am_i32 ((J 18 3) + (J (32 + 1) 5)))) && (am_in 5 7 && true)), .inl (bif am_cb .gt ((J 18 3) + (J (32 + 1) 5)) 300 then 27 else 19, [(0, am_pv 18), (1, am_pv 32), (2, am_iv (J (32 + 1) 5))], [], am_SH, (J, K, am_RF b))) from rfl) (am_g2 (by decide) g585 (am_gi (by decide) rfl)) (decide_eq_false c586) ?_
    obtain ⟨q587, e588, h⟩ := am_bind_some h
    refine am_r_call (show am_stepn X T_Boat_tryTurn 3 true (19, [(0, am_pv 18), (1, am_pv 32), (2, am_iv (J (32 + 1) 5))], [], am_SH, (J, K, am_RF b)) = some (true, .inr (.inl (74, [am_pv 18, am_pv 32], 2, 0, 0, 24, [(0, am_pv 18), (1, am_pv 32), (2, am_iv (J (32 + 1) 5))], [], am_SH, (J, K, am_RF b)))) from rfl) rfl tb_Boat_isAfloat (s_Boat_isAfloat (by decide) e588) ?_
    obtain ⟨g589, h⟩ := am_if_some h
    by_cases c590 : q587 = 0
    · rw [if_pos c590] at h
      refine am_r_f (show am_stepn X T_Boat_tryTurn 1 true (24, [(0, am_pv 18), (1, am_pv 32), (2, am_iv (J (32 + 1) 5))], [am_iv q587], am_SH, (J, K, am_RF b)) = some ((decide (am_i32 q587) && true), .inl (bif am_cb .ne q587 0 then 29 else 27, [(0, am_pv 18), (1, am_pv 32), (2, am_iv (J (32 + 1) 5))], [], am_SH, (J, K, am_RF b))) from rfl) (am_g1 g589 rfl) (am_nd_t c590) ?_
      obtain rfl := Option.some.inj h
      exact am_r_ret (show am_stepn X T_Boat_tryTurn 2 true (27, [(0, am_pv 18), (1, am_pv 32), (2, am_iv (J (32 + 1) 5))], [], am_SH, (J, K, am_RF b)) = some ((decide ((0 : Int) = 0 ∨ (0 : Int) = 1) && true), .inr (.inr (some (am_iv 0), am_SH, (J, K, am_RF b)))) from rfl) (am_g1 (by decide) rfl)
    · rw [if_neg c590] at h
      refine am_r_t (show am_stepn X T_Boat_tryTurn 1 true (24, [(0, am_pv 18), (1, am_pv 32), (2, am_iv (J (32 + 1) 5))], [am_iv q587], am_SH, (J, K, am_RF b)) = some ((decide (am_i32 q587) && true), .inl (bif am_cb .ne q587 0 then 29 else 27, [(0, am_pv 18), (1, am_pv 32), (2, am_iv (J (32 + 1) 5))], [], am_SH, (J, K, am_RF b))) from rfl) (am_g1 g589 rfl) (am_nd_f c590) ?_
      obtain ⟨g591, h⟩ := am_if_some h
      obtain ⟨q592, e593, h⟩ := am_bind_some h
      refine am_r_call (show am_stepn X T_Boat_tryTurn 14 true (29, [(0, am_pv 18), (1, am_pv 32), (2, am_iv (J (32 + 1) 5))], [], am_SH, (J, K, am_RF b)) = some (((decide (0 < (8 : Int) ∧ am_i32 8) && decide (am_i32 (J 18 0))) && true), .inr (.inl (61, [am_pv 32, am_iv (am_dv (J 18 0) 8), am_iv (J 18 1), am_iv (J 18 3)], 5, 0, 0, 54, [(0, am_pv 18), (1, am_pv 32), (2, am_iv (J (32 + 1) 5))], [am_iv (J (32 + 1) 5), am_iv (J 18 0), am_iv 0], am_SH, (J, K, am_RF b)))) from rfl) (am_g2 (by decide) g591 rfl) tb_River_flowAt (s_River_flowAt (by decide) e593) ?_
      obtain ⟨q594, e595, h⟩ := am_bind_some h
      refine am_r_call (show am_stepn X T_Boat_tryTurn 3 true (54, [(0, am_pv 18), (1, am_pv 32), (2, am_iv (J (32 + 1) 5))], [am_iv q592, am_iv (J (32 + 1) 5), am_iv (J 18 0), am_iv 0], am_SH, (J, K, am_RF b)) = some (true, .inr (.inl (48, [am_iv 0, am_iv ((J 18 0) + ((J (32 + 1) 5) * q592))], 2, 0, 0, 59, [(0, am_pv 18), (1, am_pv 32), (2, am_iv (J (32 + 1) 5))], [], am_SH, (J, K, am_RF b)))) from rfl) rfl tb_JMath_max (s_JMath_max e595) ?_
      obtain ⟨q596, e597, h⟩ := am_bind_some h
      refine am_r_call (show am_stepn X T_Boat_tryTurn 4 true (59, [(0, am_pv 18), (1, am_pv 32), (2, am_iv (J (32 + 1) 5))], [am_iv q594], am_SH, (J, K, am_RF b)) = some (true, .inr (.inl (72, [am_pv 32], 1, 0, 0, 65, [(0, am_pv 18), (1, am_pv 32), (2, am_iv (J (32 + 1) 5)), (3, am_iv q594)], [am_iv q594], am_SH, (J, K, am_RF b)))) from rfl) rfl tb_River_top (s_River_top (by decide) e597) ?_
      obtain ⟨g598, h⟩ := am_if_some h
      obtain ⟨g599, h⟩ := am_if_some h
      by_cases c600 : q594 < q596
      · rw [if_pos c600] at h
        refine am_r_f (show am_stepn X T_Boat_tryTurn 1 true (65, [(0, am_pv 18), (1, am_pv 32), (2, am_iv (J (32 + 1) 5)), (3, am_iv q594)], [am_iv q596, am_iv q594], am_SH, (J, K, am_RF b)) = some (((decide (am_i32 q596) && decide (am_i32 q594)) && true), .inl (bif am_cb .ge q594 q596 then 91 else 68, [(0, am_pv 18), (1, am_pv 32), (2, am_iv (J (32 + 1) 5)), (3, am_iv q594)], [], am_SH, (J, K, am_RF b))) from rfl) (am_g2 g598 g599 rfl) (am_nd_t c600) ?_
        obtain ⟨q601, e602, h⟩ := am_bind_some h
        refine am_r_call (show am_stepn X T_Boat_tryTurn 11 true (68, [(0, am_pv 18), (1, am_pv 32), (2, am_iv (J (32 + 1) 5)), (3, am_iv q594)], [], am_SH, (J, K, am_RF b)) = some (((decide (0 < (8 : Int) ∧ am_i32 8) && decide (am_i32 q594)) && true), .inr (.inl (68, [am_pv 32, am_iv (am_dv q594 8), am_iv (J 18 1), am_iv ((J 18 3) + (J (32 + 1) 5))], 4, 0, 0, 86, [(0, am_pv 18), (1, am_pv 32), (2, am_iv (J (32 + 1) 5)), (3, am_iv q594)], [], am_SH, (J, K, am_RF b)))) from rfl) (am_g2 (by decide) g599 rfl) tb_River_carries (s_River_carries (by decide) e602) ?_
        obtain ⟨g603, h⟩ := am_if_some h
        by_cases c604 : q601 = 0
        · rw [if_pos c604] at h
          refine am_r_f (show am_stepn X T_Boat_tryTurn 1 true (86, [(0, am_pv 18), (1, am_pv 32), (2, am_iv (J (32 + 1) 5)), (3, am_iv q594)], [am_iv q601], am_SH, (J, K, am_RF b)) = some ((decide (am_i32 q601) && true), .inl (bif am_cb .ne q601 0 then 91 else 89, [(0, am_pv 18), (1, am_pv 32), (2, am_iv (J (32 + 1) 5)), (3, am_iv q594)], [], am_SH, (J, K, am_RF b))) from rfl) (am_g1 g603 rfl) (am_nd_t c604) ?_
          obtain rfl := Option.some.inj h
          exact am_r_ret (show am_stepn X T_Boat_tryTurn 2 true (89, [(0, am_pv 18), (1, am_pv 32), (2, am_iv (J (32 + 1) 5)), (3, am_iv q594)], [], am_SH, (J, K, am_RF b)) = some ((decide ((0 : Int) = 0 ∨ (0 : Int) = 1) && true), .inr (.inr (some (am_iv 0), am_SH, (J, K, am_RF b)))) from rfl) (am_g1 (by decide) rfl)
        · rw [if_neg c604] at h
          refine am_r_t (show am_stepn X T_Boat_tryTurn 1 true (86, [(0, am_pv 18), (1, am_pv 32), (2, am_iv (J (32 + 1) 5)), (3, am_iv q594)], [am_iv q601], am_SH, (J, K, am_RF b)) = some ((decide (am_i32 q601) && true), .inl (bif am_cb .ne q601 0 then 91 else 89, [(0, am_pv 18), (1, am_pv 32), (2, am_iv (J (32 + 1) 5)), (3, am_iv q594)], [], am_SH, (J, K, am_RF b))) from rfl) (am_g1 g603 rfl) (am_nd_f c604) ?_
          refine am_r_eq (σ' := (91, [(0, am_pv 18), (2, am_iv (J (32 + 1) 5)), (3, am_iv q594)], [], am_SH, (J, K, am_RF b))) rfl ?_
          exact s_Boat_tryTurn_L91_18_32_  _ _ _ _ h
      · rw [if_neg c600] at h
        refine am_r_t (show am_stepn X T_Boat_tryTurn 1 true (65, [(0, am_pv 18), (1, am_pv 32), (2, am_iv (J (32 + 1) 5)), (3, am_iv q594)], [am_iv q596, am_iv q594], am_SH, (J, K, am_RF b)) = some (((decide (am_i32 q596) && decide (am_i32 q594)) && true), .inl (bif am_cb .ge q594 q596 then 91 else 68, [(0, am_pv 18), (1, am_pv 32), (2, am_iv (J (32 + 1) 5)), (3, am_iv q594)], [], am_SH, (J, K, am_RF b))) from rfl) (am_g2 g598 g599 rfl) (am_nd_f c600) ?_
        refine am_r_eq (σ' := (91, [(0, am_pv 18), (2, am_iv (J (32 + 1) 5)), (3, am_iv q594)], [], am_SH, (J, K, am_RF b))) rfl ?_
        exact s_Boat_tryTurn_L91_18_32_  _ _ _ _ h
theorem s_Boat_tryTurn_L91_18_6_ {X : am_X} {b : Bool} {K : am_K}  : ∀ (x2 : Int) (x3 : Int) (J : am_J) (r : Int × am_J), f_Boat_tryTurn_L91 18 6   x2 x3 J = some r → am_runs X T_Boat_tryTurn (91, [(0, am_pv 18), (2, am_iv x2), (3, am_iv x3)], [], am_SH, (J, K, am_RF b)) (some (am_iv r.1), am_SH, (r.2, K, am_RF b)) := by
  intro x2 x3 J r h
  unfold f_Boat_tryTurn_L91 at h
  obtain rfl := Option.some.inj h
  exact am_r_ret (show am_stepn X T_Boat_tryTurn 23 true (91, [(0, am_pv 18), (2, am_iv x2), (3, am_iv x3)], [], am_SH, (J, K, am_RF b)) = some ((decide ((1 : Int) = 0 ∨ (1 : Int) = 1) && true), .inr (.inr (some (am_iv 1), am_SH, ((am_up (am_up (am_up (am_up J 18 0 x3) 18 2 (1 - (J 18 2))) 18 3 ((J 18 3) + x2)) 18 4 ((J 18 4) + 1)), K, am_RF b)))) from rfl) (am_g1 (by decide) rfl)
theorem s_Boat_tryTurn_18_6_ {X : am_X} {b : Bool} {K : am_K} {J : am_J} {r : Int × am_J} (h : f_Boat_tryTurn 18 6 J = some r) : am_runs X T_Boat_tryTurn (0, [(0, am_pv 18), (1, am_pv 6)], [], am_SH, (J, K, am_RF b)) (some (am_iv r.1), am_SH, (r.2, K, am_RF b)) := by
  unfold f_Boat_tryTurn at h
  obtain ⟨g585, h⟩ := am_if_some h
  by_cases c586 : 300 < ((J 18 3) + (J (6 + 1) 5))
  · rw [if_pos c586] at h
    refine am_r_t (show am_stepn X T_Boat_tryTurn 11 true (0, [(0, am_pv 18), (1, am_pv 6)], [], am_SH, (J, K, am_RF b)) = some (((decide (am_i32 300) && decide (am_i32 ((J 18 3) + (J (6 + 1) 5)))) && (am_in 5 7 && true)), .inl (bif am_cb .gt ((J 18 3) + (J (6 + 1) 5)) 300 then 27 else 19, [(0, am_pv 18), (1, am_pv 6), (2, am_iv (J (6 + 1) 5))], [], am_SH, (J, K, am_RF b))) from rfl) (am_g2 (by decide) g585 (am_gi (by decide) rfl)) (decide_eq_true c586) ?_
    obtain rfl := Option.some.inj h
    exact am_r_ret (show am_stepn X T_Boat_tryTurn 2 true (27, [(0, am_pv 18), (1, am_pv 6), (2, am_iv (J (6 + 1) 5))], [], am_SH, (J, K, am_RF b)) = some ((decide ((0 : Int) = 0 ∨ (0 : Int) = 1) && true), .inr (.inr (some (am_iv 0), am_SH, (J, K, am_RF b)))) from rfl) (am_g1 (by decide) rfl)
  · rw [if_neg c586] at h
    refine am_r_f (show am_stepn X T_Boat_tryTurn 11 true (0, [(0, am_pv 18), (1, am_pv 6)], [], am_SH, (J, K, am_RF b)) = some (((decide (am_i32 300) && decide (am_i32 ((J 18 3) + (J (6 + 1) 5)))) && (am_in 5 7 && true)), .inl (bif am_cb .gt ((J 18 3) + (J (6 + 1) 5)) 300 then 27 else 19, [(0, am_pv 18), (1, am_pv 6), (2, am_iv (J (6 + 1) 5))], [], am_SH, (J, K, am_RF b))) from rfl) (am_g2 (by decide) g585 (am_gi (by decide) rfl)) (decide_eq_false c586) ?_
    obtain ⟨q587, e588, h⟩ := am_bind_some h
    refine am_r_call (show am_stepn X T_Boat_tryTurn 3 true (19, [(0, am_pv 18), (1, am_pv 6), (2, am_iv (J (6 + 1) 5))], [], am_SH, (J, K, am_RF b)) = some (true, .inr (.inl (74, [am_pv 18, am_pv 6], 2, 0, 0, 24, [(0, am_pv 18), (1, am_pv 6), (2, am_iv (J (6 + 1) 5))], [], am_SH, (J, K, am_RF b)))) from rfl) rfl tb_Boat_isAfloat (s_Boat_isAfloat (by decide) e588) ?_
    obtain ⟨g589, h⟩ := am_if_some h
    by_cases c590 : q587 = 0
    · rw [if_pos c590] at h
      refine am_r_f (show am_stepn X T_Boat_tryTurn 1 true (24, [(0, am_pv 18), (1, am_pv 6), (2, am_iv (J (6 + 1) 5))], [am_iv q587], am_SH, (J, K, am_RF b)) = some ((decide (am_i32 q587) && true), .inl (bif am_cb .ne q587 0 then 29 else 27, [(0, am_pv 18), (1, am_pv 6), (2, am_iv (J (6 + 1) 5))], [], am_SH, (J, K, am_RF b))) from rfl) (am_g1 g589 rfl) (am_nd_t c590) ?_
      obtain rfl := Option.some.inj h
      exact am_r_ret (show am_stepn X T_Boat_tryTurn 2 true (27, [(0, am_pv 18), (1, am_pv 6), (2, am_iv (J (6 + 1) 5))], [], am_SH, (J, K, am_RF b)) = some ((decide ((0 : Int) = 0 ∨ (0 : Int) = 1) && true), .inr (.inr (some (am_iv 0), am_SH, (J, K, am_RF b)))) from rfl) (am_g1 (by decide) rfl)
    · rw [if_neg c590] at h
      refine am_r_t (show am_stepn X T_Boat_tryTurn 1 true (24, [(0, am_pv 18), (1, am_pv 6), (2, am_iv (J (6 + 1) 5))], [am_iv q587], am_SH, (J, K, am_RF b)) = some ((decide (am_i32 q587) && true), .inl (bif am_cb .ne q587 0 then 29 else 27, [(0, am_pv 18), (1, am_pv 6), (2, am_iv (J (6 + 1) 5))], [], am_SH, (J, K, am_RF b))) from rfl) (am_g1 g589 rfl) (am_nd_f c590) ?_
      obtain ⟨g591, h⟩ := am_if_some h
      obtain ⟨q592, e593, h⟩ := am_bind_some h
      refine am_r_call (show am_stepn X T_Boat_tryTurn 14 true (29, [(0, am_pv 18), (1, am_pv 6), (2, am_iv (J (6 + 1) 5))], [], am_SH, (J, K, am_RF b)) = some (((decide (0 < (8 : Int) ∧ am_i32 8) && decide (am_i32 (J 18 0))) && true), .inr (.inl (61, [am_pv 6, am_iv (am_dv (J 18 0) 8), am_iv (J 18 1), am_iv (J 18 3)], 5, 0, 0, 54, [(0, am_pv 18), (1, am_pv 6), (2, am_iv (J (6 + 1) 5))], [am_iv (J (6 + 1) 5), am_iv (J 18 0), am_iv 0], am_SH, (J, K, am_RF b)))) from rfl) (am_g2 (by decide) g591 rfl) tb_River_flowAt (s_River_flowAt (by decide) e593) ?_
      obtain ⟨q594, e595, h⟩ := am_bind_some h
      refine am_r_call (show am_stepn X T_Boat_tryTurn 3 true (54, [(0, am_pv 18), (1, am_pv 6), (2, am_iv (J (6 + 1) 5))], [am_iv q592, am_iv (J (6 + 1) 5), am_iv (J 18 0), am_iv 0], am_SH, (J, K, am_RF b)) = some (true, .inr (.inl (48, [am_iv 0, am_iv ((J 18 0) + ((J (6 + 1) 5) * q592))], 2, 0, 0, 59, [(0, am_pv 18), (1, am_pv 6), (2, am_iv (J (6 + 1) 5))], [], am_SH, (J, K, am_RF b)))) from rfl) rfl tb_JMath_max (s_JMath_max e595) ?_
      obtain ⟨q596, e597, h⟩ := am_bind_some h
      refine am_r_call (show am_stepn X T_Boat_tryTurn 4 true (59, [(0, am_pv 18), (1, am_pv 6), (2, am_iv (J (6 + 1) 5))], [am_iv q594], am_SH, (J, K, am_RF b)) = some (true, .inr (.inl (72, [am_pv 6], 1, 0, 0, 65, [(0, am_pv 18), (1, am_pv 6), (2, am_iv (J (6 + 1) 5)), (3, am_iv q594)], [am_iv q594], am_SH, (J, K, am_RF b)))) from rfl) rfl tb_River_top (s_River_top (by decide) e597) ?_
      obtain ⟨g598, h⟩ := am_if_some h
      obtain ⟨g599, h⟩ := am_if_some h
      by_cases c600 : q594 < q596
      · rw [if_pos c600] at h
        refine am_r_f (show am_stepn X T_Boat_tryTurn 1 true (65, [(0, am_pv 18), (1, am_pv 6), (2, am_iv (J (6 + 1) 5)), (3, am_iv q594)], [am_iv q596, am_iv q594], am_SH, (J, K, am_RF b)) = some (((decide (am_i32 q596) && decide (am_i32 q594)) && true), .inl (bif am_cb .ge q594 q596 then 91 else 68, [(0, am_pv 18), (1, am_pv 6), (2, am_iv (J (6 + 1) 5)), (3, am_iv q594)], [], am_SH, (J, K, am_RF b))) from rfl) (am_g2 g598 g599 rfl) (am_nd_t c600) ?_
        obtain ⟨q601, e602, h⟩ := am_bind_some h
        refine am_r_call (show am_stepn X T_Boat_tryTurn 11 true (68, [(0, am_pv 18), (1, am_pv 6), (2, am_iv (J (6 + 1) 5)), (3, am_iv q594)], [], am_SH, (J, K, am_RF b)) = some (((decide (0 < (8 : Int) ∧ am_i32 8) && decide (am_i32 q594)) && true), .inr (.inl (68, [am_pv 6, am_iv (am_dv q594 8), am_iv (J 18 1), am_iv ((J 18 3) + (J (6 + 1) 5))], 4, 0, 0, 86, [(0, am_pv 18), (1, am_pv 6), (2, am_iv (J (6 + 1) 5)), (3, am_iv q594)], [], am_SH, (J, K, am_RF b)))) from rfl) (am_g2 (by decide) g599 rfl) tb_River_carries (s_River_carries (by decide) e602) ?_
        obtain ⟨g603, h⟩ := am_if_some h
        by_cases c604 : q601 = 0
        · rw [if_pos c604] at h
          refine am_r_f (show am_stepn X T_Boat_tryTurn 1 true (86, [(0, am_pv 18), (1, am_pv 6), (2, am_iv (J (6 + 1) 5)), (3, am_iv q594)], [am_iv q601], am_SH, (J, K, am_RF b)) = some ((decide (am_i32 q601) && true), .inl (bif am_cb .ne q601 0 then 91 else 89, [(0, am_pv 18), (1, am_pv 6), (2, am_iv (J (6 + 1) 5)), (3, am_iv q594)], [], am_SH, (J, K, am_RF b))) from rfl) (am_g1 g603 rfl) (am_nd_t c604) ?_
          obtain rfl := Option.some.inj h
          exact am_r_ret (show am_stepn X T_Boat_tryTurn 2 true (89, [(0, am_pv 18), (1, am_pv 6), (2, am_iv (J (6 + 1) 5)), (3, am_iv q594)], [], am_SH, (J, K, am_RF b)) = some ((decide ((0 : Int) = 0 ∨ (0 : Int) = 1) && true), .inr (.inr (some (am_iv 0), am_SH, (J, K, am_RF b)))) from rfl) (am_g1 (by decide) rfl)
        · rw [if_neg c604] at h
          refine am_r_t (show am_stepn X T_Boat_tryTurn 1 true (86, [(0, am_pv 18), (1, am_pv 6), (2, am_iv (J (6 + 1) 5)), (3, am_iv q594)], [am_iv q601], am_SH, (J, K, am_RF b)) = some ((decide (am_i32 q601) && true), .inl (bif am_cb .ne q601 0 then 91 else 89, [(0, am_pv 18), (1, am_pv 6), (2, am_iv (J (6 + 1) 5)), (3, am_iv q594)], [], am_SH, (J, K, am_RF b))) from rfl) (am_g1 g603 rfl) (am_nd_f c604) ?_
          refine am_r_eq (σ' := (91, [(0, am_pv 18), (2, am_iv (J (6 + 1) 5)), (3, am_iv q594)], [], am_SH, (J, K, am_RF b))) rfl ?_
          exact s_Boat_tryTurn_L91_18_6_  _ _ _ _ h
      · rw [if_neg c600] at h
        refine am_r_t (show am_stepn X T_Boat_tryTurn 1 true (65, [(0, am_pv 18), (1, am_pv 6), (2, am_iv (J (6 + 1) 5)), (3, am_iv q594)], [am_iv q596, am_iv q594], am_SH, (J, K, am_RF b)) = some (((decide (am_i32 q596) && decide (am_i32 q594)) && true), .inl (bif am_cb .ge q594 q596 then 91 else 68, [(0, am_pv 18), (1, am_pv 6), (2, am_iv (J (6 + 1) 5)), (3, am_iv q594)], [], am_SH, (J, K, am_RF b))) from rfl) (am_g2 g598 g599 rfl) (am_nd_f c600) ?_
        refine am_r_eq (σ' := (91, [(0, am_pv 18), (2, am_iv (J (6 + 1) 5)), (3, am_iv q594)], [], am_SH, (J, K, am_RF b))) rfl ?_
        exact s_Boat_tryTurn_L91_18_6_  _ _ _ _ h
theorem s_Boat_tryTurn_L91_29_32_ {X : am_X} {b : Bool} {K : am_K}  : ∀ (x2 : Int) (x3 : Int) (J : am_J) (r : Int × am_J), f_Boat_tryTurn_L91 29 32   x2 x3 J = some r → am_runs X T_Boat_tryTurn (91, [(0, am_pv 29), (2, am_iv x2), (3, am_iv x3)], [], am_SH, (J, K, am_RF b)) (some (am_iv r.1), am_SH, (r.2, K, am_RF b)) := by
  intro x2 x3 J r h
  unfold f_Boat_tryTurn_L91 at h
  obtain rfl := Option.some.inj h
  exact am_r_ret (show am_stepn X T_Boat_tryTurn 23 true (91, [(0, am_pv 29), (2, am_iv x2), (3, am_iv x3)], [], am_SH, (J, K, am_RF b)) = some ((decide ((1 : Int) = 0 ∨ (1 : Int) = 1) && true), .inr (.inr (some (am_iv 1), am_SH, ((am_up (am_up (am_up (am_up J 29 0 x3) 29 2 (1 - (J 29 2))) 29 3 ((J 29 3) + x2)) 29 4 ((J 29 4) + 1)), K, am_RF b)))) from rfl) (am_g1 (by decide) rfl)
theorem s_Boat_tryTurn_29_32_ {X : am_X} {b : Bool} {K : am_K} {J : am_J} {r : Int × am_J} (h : f_Boat_tryTurn 29 32 J = some r) : am_runs X T_Boat_tryTurn (0, [(0, am_pv 29), (1, am_pv 32)], [], am_SH, (J, K, am_RF b)) (some (am_iv r.1), am_SH, (r.2, K, am_RF b)) := by
  unfold f_Boat_tryTurn at h
  obtain ⟨g585, h⟩ := am_if_some h
  by_cases c586 : 300 < ((J 29 3) + (J (32 + 1) 5))
  · rw [if_pos c586] at h
    refine am_r_t (show am_stepn X T_Boat_tryTurn 11 true (0, [(0, am_pv 29), (1, am_pv 32)], [], am_SH, (J, K, am_RF b)) = some (((decide (am_i32 300) && decide (am_i32 ((J 29 3) + (J (32 + 1) 5)))) && (am_in 5 7 && true)), .inl (bif am_cb .gt ((J 29 3) + (J (32 + 1) 5)) 300 then 27 else 19, [(0, am_pv 29), (1, am_pv 32), (2, am_iv (J (32 + 1) 5))], [], am_SH, (J, K, am_RF b))) from rfl) (am_g2 (by decide) g585 (am_gi (by decide) rfl)) (decide_eq_true c586) ?_
    obtain rfl := Option.some.inj h
    exact am_r_ret (show am_stepn X T_Boat_tryTurn 2 true (27, [(0, am_pv 29), (1, am_pv 32), (2, am_iv (J (32 + 1) 5))], [], am_SH, (J, K, am_RF b)) = some ((decide ((0 : Int) = 0 ∨ (0 : Int) = 1) && true), .inr (.inr (some (am_iv 0), am_SH, (J, K, am_RF b)))) from rfl) (am_g1 (by decide) rfl)
  · rw [if_neg c586] at h
    refine am_r_f (show am_stepn X T_Boat_tryTurn 11 true (0, [(0, am_pv 29), (1, am_pv 32)], [], am_SH, (J, K, am_RF b)) = some (((decide (am_i32 300) && decide (am_i32 ((J 29 3) + (J (32 + 1) 5)))) && (am_in 5 7 && true)), .inl (bif am_cb .gt ((J 29 3) + (J (32 + 1) 5)) 300 then 27 else 19, [(0, am_pv 29), (1, am_pv 32), (2, am_iv (J (32 + 1) 5))], [], am_SH, (J, K, am_RF b))) from rfl) (am_g2 (by decide) g585 (am_gi (by decide) rfl)) (decide_eq_false c586) ?_
    obtain ⟨q587, e588, h⟩ := am_bind_some h
    refine am_r_call (show am_stepn X T_Boat_tryTurn 3 true (19, [(0, am_pv 29), (1, am_pv 32), (2, am_iv (J (32 + 1) 5))], [], am_SH, (J, K, am_RF b)) = some (true, .inr (.inl (74, [am_pv 29, am_pv 32], 2, 0, 0, 24, [(0, am_pv 29), (1, am_pv 32), (2, am_iv (J (32 + 1) 5))], [], am_SH, (J, K, am_RF b)))) from rfl) rfl tb_Boat_isAfloat (s_Boat_isAfloat (by decide) e588) ?_
    obtain ⟨g589, h⟩ := am_if_some h
    by_cases c590 : q587 = 0
    · rw [if_pos c590] at h
      refine am_r_f (show am_stepn X T_Boat_tryTurn 1 true (24, [(0, am_pv 29), (1, am_pv 32), (2, am_iv (J (32 + 1) 5))], [am_iv q587], am_SH, (J, K, am_RF b)) = some ((decide (am_i32 q587) && true), .inl (bif am_cb .ne q587 0 then 29 else 27, [(0, am_pv 29), (1, am_pv 32), (2, am_iv (J (32 + 1) 5))], [], am_SH, (J, K, am_RF b))) from rfl) (am_g1 g589 rfl) (am_nd_t c590) ?_
      obtain rfl := Option.some.inj h
      exact am_r_ret (show am_stepn X T_Boat_tryTurn 2 true (27, [(0, am_pv 29), (1, am_pv 32), (2, am_iv (J (32 + 1) 5))], [], am_SH, (J, K, am_RF b)) = some ((decide ((0 : Int) = 0 ∨ (0 : Int) = 1) && true), .inr (.inr (some (am_iv 0), am_SH, (J, K, am_RF b)))) from rfl) (am_g1 (by decide) rfl)
    · rw [if_neg c590] at h
      refine am_r_t (show am_stepn X T_Boat_tryTurn 1 true (24, [(0, am_pv 29), (1, am_pv 32), (2, am_iv (J (32 + 1) 5))], [am_iv q587], am_SH, (J, K, am_RF b)) = some ((decide (am_i32 q587) && true), .inl (bif am_cb .ne q587 0 then 29 else 27, [(0, am_pv 29), (1, am_pv 32), (2, am_iv (J (32 + 1) 5))], [], am_SH, (J, K, am_RF b))) from rfl) (am_g1 g589 rfl) (am_nd_f c590) ?_
      obtain ⟨g591, h⟩ := am_if_some h
      obtain ⟨q592, e593, h⟩ := am_bind_some h
      refine am_r_call (show am_stepn X T_Boat_tryTurn 14 true (29, [(0, am_pv 29), (1, am_pv 32), (2, am_iv (J (32 + 1) 5))], [], am_SH, (J, K, am_RF b)) = some (((decide (0 < (8 : Int) ∧ am_i32 8) && decide (am_i32 (J 29 0))) && true), .inr (.inl (61, [am_pv 32, am_iv (am_dv (J 29 0) 8), am_iv (J 29 1), am_iv (J 29 3)], 5, 0, 0, 54, [(0, am_pv 29), (1, am_pv 32), (2, am_iv (J (32 + 1) 5))], [am_iv (J (32 + 1) 5), am_iv (J 29 0), am_iv 0], am_SH, (J, K, am_RF b)))) from rfl) (am_g2 (by decide) g591 rfl) tb_River_flowAt (s_River_flowAt (by decide) e593) ?_
      obtain ⟨q594, e595, h⟩ := am_bind_some h
      refine am_r_call (show am_stepn X T_Boat_tryTurn 3 true (54, [(0, am_pv 29), (1, am_pv 32), (2, am_iv (J (32 + 1) 5))], [am_iv q592, am_iv (J (32 + 1) 5), am_iv (J 29 0), am_iv 0], am_SH, (J, K, am_RF b)) = some (true, .inr (.inl (48, [am_iv 0, am_iv ((J 29 0) + ((J (32 + 1) 5) * q592))], 2, 0, 0, 59, [(0, am_pv 29), (1, am_pv 32), (2, am_iv (J (32 + 1) 5))], [], am_SH, (J, K, am_RF b)))) from rfl) rfl tb_JMath_max (s_JMath_max e595) ?_
      obtain ⟨q596, e597, h⟩ := am_bind_some h
      refine am_r_call (show am_stepn X T_Boat_tryTurn 4 true (59, [(0, am_pv 29), (1, am_pv 32), (2, am_iv (J (32 + 1) 5))], [am_iv q594], am_SH, (J, K, am_RF b)) = some (true, .inr (.inl (72, [am_pv 32], 1, 0, 0, 65, [(0, am_pv 29), (1, am_pv 32), (2, am_iv (J (32 + 1) 5)), (3, am_iv q594)], [am_iv q594], am_SH, (J, K, am_RF b)))) from rfl) rfl tb_River_top (s_River_top (by decide) e597) ?_
      obtain ⟨g598, h⟩ := am_if_some h
      obtain ⟨g599, h⟩ := am_if_some h
      by_cases c600 : q594 < q596
      · rw [if_pos c600] at h
        refine am_r_f (show am_stepn X T_Boat_tryTurn 1 true (65, [(0, am_pv 29), (1, am_pv 32), (2, am_iv (J (32 + 1) 5)), (3, am_iv q594)], [am_iv q596, am_iv q594], am_SH, (J, K, am_RF b)) = some (((decide (am_i32 q596) && decide (am_i32 q594)) && true), .inl (bif am_cb .ge q594 q596 then 91 else 68, [(0, am_pv 29), (1, am_pv 32), (2, am_iv (J (32 + 1) 5)), (3, am_iv q594)], [], am_SH, (J, K, am_RF b))) from rfl) (am_g2 g598 g599 rfl) (am_nd_t c600) ?_
        obtain ⟨q601, e602, h⟩ := am_bind_some h
        refine am_r_call (show am_stepn X T_Boat_tryTurn 11 true (68, [(0, am_pv 29), (1, am_pv 32), (2, am_iv (J (32 + 1) 5)), (3, am_iv q594)], [], am_SH, (J, K, am_RF b)) = some (((decide (0 < (8 : Int) ∧ am_i32 8) && decide (am_i32 q594)) && true), .inr (.inl (68, [am_pv 32, am_iv (am_dv q594 8), am_iv (J 29 1), am_iv ((J 29 3) + (J (32 + 1) 5))], 4, 0, 0, 86, [(0, am_pv 29), (1, am_pv 32), (2, am_iv (J (32 + 1) 5)), (3, am_iv q594)], [], am_SH, (J, K, am_RF b)))) from rfl) (am_g2 (by decide) g599 rfl) tb_River_carries (s_River_carries (by decide) e602) ?_
        obtain ⟨g603, h⟩ := am_if_some h
        by_cases c604 : q601 = 0
        · rw [if_pos c604] at h
          refine am_r_f (show am_stepn X T_Boat_tryTurn 1 true (86, [(0, am_pv 29), (1, am_pv 32), (2, am_iv (J (32 + 1) 5)), (3, am_iv q594)], [am_iv q601], am_SH, (J, K, am_RF b)) = some ((decide (am_i32 q601) && true), .inl (bif am_cb .ne q601 0 then 91 else 89, [(0, am_pv 29), (1, am_pv 32), (2, am_iv (J (32 + 1) 5)), (3, am_iv q594)], [], am_SH, (J, K, am_RF b))) from rfl) (am_g1 g603 rfl) (am_nd_t c604) ?_
          obtain rfl := Option.some.inj h
          exact am_r_ret (show am_stepn X T_Boat_tryTurn 2 true (89, [(0, am_pv 29), (1, am_pv 32), (2, am_iv (J (32 + 1) 5)), (3, am_iv q594)], [], am_SH, (J, K, am_RF b)) = some ((decide ((0 : Int) = 0 ∨ (0 : Int) = 1) && true), .inr (.inr (some (am_iv 0), am_SH, (J, K, am_RF b)))) from rfl) (am_g1 (by decide) rfl)
        · rw [if_neg c604] at h
          refine am_r_t (show am_stepn X T_Boat_tryTurn 1 true (86, [(0, am_pv 29), (1, am_pv 32), (2, am_iv (J (32 + 1) 5)), (3, am_iv q594)], [am_iv q601], am_SH, (J, K, am_RF b)) = some ((decide (am_i32 q601) && true), .inl (bif am_cb .ne q601 0 then 91 else 89, [(0, am_pv 29), (1, am_pv 32), (2, am_iv (J (32 + 1) 5)), (3, am_iv q594)], [], am_SH, (J, K, am_RF b))) from rfl) (am_g1 g603 rfl) (am_nd_f c604) ?_
          refine am_r_eq (σ' := (91, [(0, am_pv 29), (2, am_iv (J (32 + 1) 5)), (3, am_iv q594)], [], am_SH, (J, K, am_RF b))) rfl ?_
          exact s_Boat_tryTurn_L91_29_32_  _ _ _ _ h
      · rw [if_neg c600] at h
        refine am_r_t (show am_stepn X T_Boat_tryTurn 1 true (65, [(0, am_pv 29), (1, am_pv 32), (2, am_iv (J (32 + 1) 5)), (3, am_iv q594)], [am_iv q596, am_iv q594], am_SH, (J, K, am_RF b)) = some (((decide (am_i32 q596) && decide (am_i32 q594)) && true), .inl (bif am_cb .ge q594 q596 then 91 else 68, [(0, am_pv 29), (1, am_pv 32), (2, am_iv (J (32 + 1) 5)), (3, am_iv q594)], [], am_SH, (J, K, am_RF b))) from rfl) (am_g2 g598 g599 rfl) (am_nd_f c600) ?_
        refine am_r_eq (σ' := (91, [(0, am_pv 29), (2, am_iv (J (32 + 1) 5)), (3, am_iv q594)], [], am_SH, (J, K, am_RF b))) rfl ?_
        exact s_Boat_tryTurn_L91_29_32_  _ _ _ _ h
theorem s_Boat_tryTurn_L91_29_6_ {X : am_X} {b : Bool} {K : am_K}  : ∀ (x2 : Int) (x3 : Int) (J : am_J) (r : Int × am_J), f_Boat_tryTurn_L91 29 6   x2 x3 J = some r → am_runs X T_Boat_tryTurn (91, [(0, am_pv 29), (2, am_iv x2), (3, am_iv x3)], [], am_SH, (J, K, am_RF b)) (some (am_iv r.1), am_SH, (r.2, K, am_RF b)) := by
  intro x2 x3 J r h
  unfold f_Boat_tryTurn_L91 at h
  obtain rfl := Option.some.inj h
  exact am_r_ret (show am_stepn X T_Boat_tryTurn 23 true (91, [(0, am_pv 29), (2, am_iv x2), (3, am_iv x3)], [], am_SH, (J, K, am_RF b)) = some ((decide ((1 : Int) = 0 ∨ (1 : Int) = 1) && true), .inr (.inr (some (am_iv 1), am_SH, ((am_up (am_up (am_up (am_up J 29 0 x3) 29 2 (1 - (J 29 2))) 29 3 ((J 29 3) + x2)) 29 4 ((J 29 4) + 1)), K, am_RF b)))) from rfl) (am_g1 (by decide) rfl)
theorem s_Boat_tryTurn_29_6_ {X : am_X} {b : Bool} {K : am_K} {J : am_J} {r : Int × am_J} (h : f_Boat_tryTurn 29 6 J = some r) : am_runs X T_Boat_tryTurn (0, [(0, am_pv 29), (1, am_pv 6)], [], am_SH, (J, K, am_RF b)) (some (am_iv r.1), am_SH, (r.2, K, am_RF b)) := by
  unfold f_Boat_tryTurn at h
  obtain ⟨g585, h⟩ := am_if_some h
  by_cases c586 : 300 < ((J 29 3) + (J (6 + 1) 5))
  · rw [if_pos c586] at h
    refine am_r_t (show am_stepn X T_Boat_tryTurn 11 true (0, [(0, am_pv 29), (1, am_pv 6)], [], am_SH, (J, K, am_RF b)) = some (((decide (am_i32 300) && decide (am_i32 ((J 29 3) + (J (6 + 1) 5)))) && (am_in 5 7 && true)), .inl (bif am_cb .gt ((J 29 3) + (J (6 + 1) 5)) 300 then 27 else 19, [(0, am_pv 29), (1, am_pv 6), (2, am_iv (J (6 + 1) 5))], [], am_SH, (J, K, am_RF b))) from rfl) (am_g2 (by decide) g585 (am_gi (by decide) rfl)) (decide_eq_true c586) ?_
    obtain rfl := Option.some.inj h
    exact am_r_ret (show am_stepn X T_Boat_tryTurn 2 true (27, [(0, am_pv 29), (1, am_pv 6), (2, am_iv (J (6 + 1) 5))], [], am_SH, (J, K, am_RF b)) = some ((decide ((0 : Int) = 0 ∨ (0 : Int) = 1) && true), .inr (.inr (some (am_iv 0), am_SH, (J, K, am_RF b)))) from rfl) (am_g1 (by decide) rfl)
  · rw [if_neg c586] at h
    refine am_r_f (show am_stepn X T_Boat_tryTurn 11 true (0, [(0, am_pv 29), (1, am_pv 6)], [], am_SH, (J, K, am_RF b)) = some (((decide (am_i32 300) && decide (am_i32 ((J 29 3) + (J (6 + 1) 5)))) && (am_in 5 7 && true)), .inl (bif am_cb .gt ((J 29 3) + (J (6 + 1) 5)) 300 then 27 else 19, [(0, am_pv 29), (1, am_pv 6), (2, am_iv (J (6 + 1) 5))], [], am_SH, (J, K, am_RF b))) from rfl) (am_g2 (by decide) g585 (am_gi (by decide) rfl)) (decide_eq_false c586) ?_
    obtain ⟨q587, e588, h⟩ := am_bind_some h
    refine am_r_call (show am_stepn X T_Boat_tryTurn 3 true (19, [(0, am_pv 29), (1, am_pv 6), (2, am_iv (J (6 + 1) 5))], [], am_SH, (J, K, am_RF b)) = some (true, .inr (.inl (74, [am_pv 29, am_pv 6], 2, 0, 0, 24, [(0, am_pv 29), (1, am_pv 6), (2, am_iv (J (6 + 1) 5))], [], am_SH, (J, K, am_RF b)))) from rfl) rfl tb_Boat_isAfloat (s_Boat_isAfloat (by decide) e588) ?_
    obtain ⟨g589, h⟩ := am_if_some h
    by_cases c590 : q587 = 0
    · rw [if_pos c590] at h
      refine am_r_f (show am_stepn X T_Boat_tryTurn 1 true (24, [(0, am_pv 29), (1, am_pv 6), (2, am_iv (J (6 + 1) 5))], [am_iv q587], am_SH, (J, K, am_RF b)) = some ((decide (am_i32 q587) && true), .inl (bif am_cb .ne q587 0 then 29 else 27, [(0, am_pv 29), (1, am_pv 6), (2, am_iv (J (6 + 1) 5))], [], am_SH, (J, K, am_RF b))) from rfl) (am_g1 g589 rfl) (am_nd_t c590) ?_
      obtain rfl := Option.some.inj h
      exact am_r_ret (show am_stepn X T_Boat_tryTurn 2 true (27, [(0, am_pv 29), (1, am_pv 6), (2, am_iv (J (6 + 1) 5))], [], am_SH, (J, K, am_RF b)) = some ((decide ((0 : Int) = 0 ∨ (0 : Int) = 1) && true), .inr (.inr (some (am_iv 0), am_SH, (J, K, am_RF b)))) from rfl) (am_g1 (by decide) rfl)
    · rw [if_neg c590] at h
      refine am_r_t (show am_stepn X T_Boat_tryTurn 1 true (24, [(0, am_pv 29), (1, am_pv 6), (2, am_iv (J (6 + 1) 5))], [am_iv q587], am_SH, (J, K, am_RF b)) = some ((decide (am_i32 q587) && true), .inl (bif am_cb .ne q587 0 then 29 else 27, [(0, am_pv 29), (1, am_pv 6), (2, am_iv (J (6 + 1) 5))], [], am_SH, (J, K, am_RF b))) from rfl) (am_g1 g589 rfl) (am_nd_f c590) ?_
      obtain ⟨g591, h⟩ := am_if_some h
      obtain ⟨q592, e593, h⟩ := am_bind_some h
      refine am_r_call (show am_stepn X T_Boat_tryTurn 14 true (29, [(0, am_pv 29), (1, am_pv 6), (2, am_iv (J (6 + 1) 5))], [], am_SH, (J, K, am_RF b)) = some (((decide (0 < (8 : Int) ∧ am_i32 8) && decide (am_i32 (J 29 0))) && true), .inr (.inl (61, [am_pv 6, am_iv (am_dv (J 29 0) 8), am_iv (J 29 1), am_iv (J 29 3)], 5, 0, 0, 54, [(0, am_pv 29), (1, am_pv 6), (2, am_iv (J (6 + 1) 5))], [am_iv (J (6 + 1) 5), am_iv (J 29 0), am_iv 0], am_SH, (J, K, am_RF b)))) from rfl) (am_g2 (by decide) g591 rfl) tb_River_flowAt (s_River_flowAt (by decide) e593) ?_
      obtain ⟨q594, e595, h⟩ := am_bind_some h
      refine am_r_call (show am_stepn X T_Boat_tryTurn 3 true (54, [(0, am_pv 29), (1, am_pv 6), (2, am_iv (J (6 + 1) 5))], [am_iv q592, am_iv (J (6 + 1) 5), am_iv (J 29 0), am_iv 0], am_SH, (J, K, am_RF b)) = some (true, .inr (.inl (48, [am_iv 0, am_iv ((J 29 0) + ((J (6 + 1) 5) * q592))], 2, 0, 0, 59, [(0, am_pv 29), (1, am_pv 6), (2, am_iv (J (6 + 1) 5))], [], am_SH, (J, K, am_RF b)))) from rfl) rfl tb_JMath_max (s_JMath_max e595) ?_
      obtain ⟨q596, e597, h⟩ := am_bind_some h
      refine am_r_call (show am_stepn X T_Boat_tryTurn 4 true (59, [(0, am_pv 29), (1, am_pv 6), (2, am_iv (J (6 + 1) 5))], [am_iv q594], am_SH, (J, K, am_RF b)) = some (true, .inr (.inl (72, [am_pv 6], 1, 0, 0, 65, [(0, am_pv 29), (1, am_pv 6), (2, am_iv (J (6 + 1) 5)), (3, am_iv q594)], [am_iv q594], am_SH, (J, K, am_RF b)))) from rfl) rfl tb_River_top (s_River_top (by decide) e597) ?_
      obtain ⟨g598, h⟩ := am_if_some h
      obtain ⟨g599, h⟩ := am_if_some h
      by_cases c600 : q594 < q596
      · rw [if_pos c600] at h
        refine am_r_f (show am_stepn X T_Boat_tryTurn 1 true (65, [(0, am_pv 29), (1, am_pv 6), (2, am_iv (J (6 + 1) 5)), (3, am_iv q594)], [am_iv q596, am_iv q594], am_SH, (J, K, am_RF b)) = some (((decide (am_i32 q596) && decide (am_i32 q594)) && true), .inl (bif am_cb .ge q594 q596 then 91 else 68, [(0, am_pv 29), (1, am_pv 6), (2, am_iv (J (6 + 1) 5)), (3, am_iv q594)], [], am_SH, (J, K, am_RF b))) from rfl) (am_g2 g598 g599 rfl) (am_nd_t c600) ?_
        obtain ⟨q601, e602, h⟩ := am_bind_some h
        refine am_r_call (show am_stepn X T_Boat_tryTurn 11 true (68, [(0, am_pv 29), (1, am_pv 6), (2, am_iv (J (6 + 1) 5)), (3, am_iv q594)], [], am_SH, (J, K, am_RF b)) = some (((decide (0 < (8 : Int) ∧ am_i32 8) && decide (am_i32 q594)) && true), .inr (.inl (68, [am_pv 6, am_iv (am_dv q594 8), am_iv (J 29 1), am_iv ((J 29 3) + (J (6 + 1) 5))], 4, 0, 0, 86, [(0, am_pv 29), (1, am_pv 6), (2, am_iv (J (6 + 1) 5)), (3, am_iv q594)], [], am_SH, (J, K, am_RF b)))) from rfl) (am_g2 (by decide) g599 rfl) tb_River_carries (s_River_carries (by decide) e602) ?_
        obtain ⟨g603, h⟩ := am_if_some h
        by_cases c604 : q601 = 0
        · rw [if_pos c604] at h
          refine am_r_f (show am_stepn X T_Boat_tryTurn 1 true (86, [(0, am_pv 29), (1, am_pv 6), (2, am_iv (J (6 + 1) 5)), (3, am_iv q594)], [am_iv q601], am_SH, (J, K, am_RF b)) = some ((decide (am_i32 q601) && true), .inl (bif am_cb .ne q601 0 then 91 else 89, [(0, am_pv 29), (1, am_pv 6), (2, am_iv (J (6 + 1) 5)), (3, am_iv q594)], [], am_SH, (J, K, am_RF b))) from rfl) (am_g1 g603 rfl) (am_nd_t c604) ?_
          obtain rfl := Option.some.inj h
          exact am_r_ret (show am_stepn X T_Boat_tryTurn 2 true (89, [(0, am_pv 29), (1, am_pv 6), (2, am_iv (J (6 + 1) 5)), (3, am_iv q594)], [], am_SH, (J, K, am_RF b)) = some ((decide ((0 : Int) = 0 ∨ (0 : Int) = 1) && true), .inr (.inr (some (am_iv 0), am_SH, (J, K, am_RF b)))) from rfl) (am_g1 (by decide) rfl)
        · rw [if_neg c604] at h
          refine am_r_t (show am_stepn X T_Boat_tryTurn 1 true (86, [(0, am_pv 29), (1, am_pv 6), (2, am_iv (J (6 + 1) 5)), (3, am_iv q594)], [am_iv q601], am_SH, (J, K, am_RF b)) = some ((decide (am_i32 q601) && true), .inl (bif am_cb .ne q601 0 then 91 else 89, [(0, am_pv 29), (1, am_pv 6), (2, am_iv (J (6 + 1) 5)), (3, am_iv q594)], [], am_SH, (J, K, am_RF b))) from rfl) (am_g1 g603 rfl) (am_nd_f c604) ?_
          refine am_r_eq (σ' := (91, [(0, am_pv 29), (2, am_iv (J (6 + 1) 5)), (3, am_iv q594)], [], am_SH, (J, K, am_RF b))) rfl ?_
          exact s_Boat_tryTurn_L91_29_6_  _ _ _ _ h
      · rw [if_neg c600] at h
        refine am_r_t (show am_stepn X T_Boat_tryTurn 1 true (65, [(0, am_pv 29), (1, am_pv 6), (2, am_iv (J (6 + 1) 5)), (3, am_iv q594)], [am_iv q596, am_iv q594], am_SH, (J, K, am_RF b)) = some (((decide (am_i32 q596) && decide (am_i32 q594)) && true), .inl (bif am_cb .ge q594 q596 then 91 else 68, [(0, am_pv 29), (1, am_pv 6), (2, am_iv (J (6 + 1) 5)), (3, am_iv q594)], [], am_SH, (J, K, am_RF b))) from rfl) (am_g2 g598 g599 rfl) (am_nd_f c600) ?_
        refine am_r_eq (σ' := (91, [(0, am_pv 29), (2, am_iv (J (6 + 1) 5)), (3, am_iv q594)], [], am_SH, (J, K, am_RF b))) rfl ?_
        exact s_Boat_tryTurn_L91_29_6_  _ _ _ _ h
theorem s_Boat_tryTurn_L91_30_32_ {X : am_X} {b : Bool} {K : am_K}  : ∀ (x2 : Int) (x3 : Int) (J : am_J) (r : Int × am_J), f_Boat_tryTurn_L91 30 32   x2 x3 J = some r → am_runs X T_Boat_tryTurn (91, [(0, am_pv 30), (2, am_iv x2), (3, am_iv x3)], [], am_SH, (J, K, am_RF b)) (some (am_iv r.1), am_SH, (r.2, K, am_RF b)) := by
  intro x2 x3 J r h
  unfold f_Boat_tryTurn_L91 at h
  obtain rfl := Option.some.inj h
  exact am_r_ret (show am_stepn X T_Boat_tryTurn 23 true (91, [(0, am_pv 30), (2, am_iv x2), (3, am_iv x3)], [], am_SH, (J, K, am_RF b)) = some ((decide ((1 : Int) = 0 ∨ (1 : Int) = 1) && true), .inr (.inr (some (am_iv 1), am_SH, ((am_up (am_up (am_up (am_up J 30 0 x3) 30 2 (1 - (J 30 2))) 30 3 ((J 30 3) + x2)) 30 4 ((J 30 4) + 1)), K, am_RF b)))) from rfl) (am_g1 (by decide) rfl)
theorem s_Boat_tryTurn_30_32_ {X : am_X} {b : Bool} {K : am_K} {J : am_J} {r : Int × am_J} (h : f_Boat_tryTurn 30 32 J = some r) : am_runs X T_Boat_tryTurn (0, [(0, am_pv 30), (1, am_pv 32)], [], am_SH, (J, K, am_RF b)) (some (am_iv r.1), am_SH, (r.2, K, am_RF b)) := by
  unfold f_Boat_tryTurn at h
  obtain ⟨g585, h⟩ := am_if_some h
  by_cases c586 : 300 < ((J 30 3) + (J (32 + 1) 5))
  · rw [if_pos c586] at h
    refine am_r_t (show am_stepn X T_Boat_tryTurn 11 true (0, [(0, am_pv 30), (1, am_pv 32)], [], am_SH, (J, K, am_RF b)) = some (((decide (am_i32 300) && decide (am_i32 ((J 30 3) + (J (32 + 1) 5)))) && (am_in 5 7 && true)), .inl (bif am_cb .gt ((J 30 3) + (J (32 + 1) 5)) 300 then 27 else 19, [(0, am_pv 30), (1, am_pv 32), (2, am_iv (J (32 + 1) 5))], [], am_SH, (J, K, am_RF b))) from rfl) (am_g2 (by decide) g585 (am_gi (by decide) rfl)) (decide_eq_true c586) ?_
    obtain rfl := Option.some.inj h
    exact am_r_ret (show am_stepn X T_Boat_tryTurn 2 true (27, [(0, am_pv 30), (1, am_pv 32), (2, am_iv (J (32 + 1) 5))], [], am_SH, (J, K, am_RF b)) = some ((decide ((0 : Int) = 0 ∨ (0 : Int) = 1) && true), .inr (.inr (some (am_iv 0), am_SH, (J, K, am_RF b)))) from rfl) (am_g1 (by decide) rfl)
  · rw [if_neg c586] at h
    refine am_r_f (show am_stepn X T_Boat_tryTurn 11 true (0, [(0, am_pv 30), (1, am_pv 32)], [], am_SH, (J, K, am_RF b)) = some (((decide (am_i32 300) && decide (am_i32 ((J 30 3) + (J (32 + 1) 5)))) && (am_in 5 7 && true)), .inl (bif am_cb .gt ((J 30 3) + (J (32 + 1) 5)) 300 then 27 else 19, [(0, am_pv 30), (1, am_pv 32), (2, am_iv (J (32 + 1) 5))], [], am_SH, (J, K, am_RF b))) from rfl) (am_g2 (by decide) g585 (am_gi (by decide) rfl)) (decide_eq_false c586) ?_
    obtain ⟨q587, e588, h⟩ := am_bind_some h
    refine am_r_call (show am_stepn X T_Boat_tryTurn 3 true (19, [(0, am_pv 30), (1, am_pv 32), (2, am_iv (J (32 + 1) 5))], [], am_SH, (J, K, am_RF b)) = some (true, .inr (.inl (74, [am_pv 30, am_pv 32], 2, 0, 0, 24, [(0, am_pv 30), (1, am_pv 32), (2, am_iv (J (32 + 1) 5))], [], am_SH, (J, K, am_RF b)))) from rfl) rfl tb_Boat_isAfloat (s_Boat_isAfloat (by decide) e588) ?_
    obtain ⟨g589, h⟩ := am_if_some h
    by_cases c590 : q587 = 0
    · rw [if_pos c590] at h
      refine am_r_f (show am_stepn X T_Boat_tryTurn 1 true (24, [(0, am_pv 30), (1, am_pv 32), (2, am_iv (J (32 + 1) 5))], [am_iv q587], am_SH, (J, K, am_RF b)) = some ((decide (am_i32 q587) && true), .inl (bif am_cb .ne q587 0 then 29 else 27, [(0, am_pv 30), (1, am_pv 32), (2, am_iv (J (32 + 1) 5))], [], am_SH, (J, K, am_RF b))) from rfl) (am_g1 g589 rfl) (am_nd_t c590) ?_
      obtain rfl := Option.some.inj h
      exact am_r_ret (show am_stepn X T_Boat_tryTurn 2 true (27, [(0, am_pv 30), (1, am_pv 32), (2, am_iv (J (32 + 1) 5))], [], am_SH, (J, K, am_RF b)) = some ((decide ((0 : Int) = 0 ∨ (0 : Int) = 1) && true), .inr (.inr (some (am_iv 0), am_SH, (J, K, am_RF b)))) from rfl) (am_g1 (by decide) rfl)
    · rw [if_neg c590] at h
      refine am_r_t (show am_stepn X T_Boat_tryTurn 1 true (24, [(0, am_pv 30), (1, am_pv 32), (2, am_iv (J (32 + 1) 5))], [am_iv q587], am_SH, (J, K, am_RF b)) = some ((decide (am_i32 q587) && true), .inl (bif am_cb .ne q587 0 then 29 else 27, [(0, am_pv 30), (1, am_pv 32), (2, am_iv (J (32 + 1) 5))], [], am_SH, (J, K, am_RF b))) from rfl) (am_g1 g589 rfl) (am_nd_f c590) ?_
      obtain ⟨g591, h⟩ := am_if_some h
      obtain ⟨q592, e593, h⟩ := am_bind_some h
      refine am_r_call (show am_stepn X T_Boat_tryTurn 14 true (29, [(0, am_pv 30), (1, am_pv 32), (2, am_iv (J (32 + 1) 5))], [], am_SH, (J, K, am_RF b)) = some (((decide (0 < (8 : Int) ∧ am_i32 8) && decide (am_i32 (J 30 0))) && true), .inr (.inl (61, [am_pv 32, am_iv (am_dv (J 30 0) 8), am_iv (J 30 1), am_iv (J 30 3)], 5, 0, 0, 54, [(0, am_pv 30), (1, am_pv 32), (2, am_iv (J (32 + 1) 5))], [am_iv (J (32 + 1) 5), am_iv (J 30 0), am_iv 0], am_SH, (J, K, am_RF b)))) from rfl) (am_g2 (by decide) g591 rfl) tb_River_flowAt (s_River_flowAt (by decide) e593) ?_
      obtain ⟨q594, e595, h⟩ := am_bind_some h
      refine am_r_call (show am_stepn X T_Boat_tryTurn 3 true (54, [(0, am_pv 30), (1, am_pv 32), (2, am_iv (J (32 + 1) 5))], [am_iv q592, am_iv (J (32 + 1) 5), am_iv (J 30 0), am_iv 0], am_SH, (J, K, am_RF b)) = some (true, .inr (.inl (48, [am_iv 0, am_iv ((J 30 0) + ((J (32 + 1) 5) * q592))], 2, 0, 0, 59, [(0, am_pv 30), (1, am_pv 32), (2, am_iv (J (32 + 1) 5))], [], am_SH, (J, K, am_RF b)))) from rfl) rfl tb_JMath_max (s_JMath_max e595) ?_
      obtain ⟨q596, e597, h⟩ := am_bind_some h
      refine am_r_call (show am_stepn X T_Boat_tryTurn 4 true (59, [(0, am_pv 30), (1, am_pv 32), (2, am_iv (J (32 + 1) 5))], [am_iv q594], am_SH, (J, K, am_RF b)) = some (true, .inr (.inl (72, [am_pv 32], 1, 0, 0, 65, [(0, am_pv 30), (1, am_pv 32), (2, am_iv (J (32 + 1) 5)), (3, am_iv q594)], [am_iv q594], am_SH, (J, K, am_RF b)))) from rfl) rfl tb_River_top (s_River_top (by decide) e597) ?_
      obtain ⟨g598, h⟩ := am_if_some h
      obtain ⟨g599, h⟩ := am_if_some h
      by_cases c600 : q594 < q596
      · rw [if_pos c600] at h
        refine am_r_f (show am_stepn X T_Boat_tryTurn 1 true (65, [(0, am_pv 30), (1, am_pv 32), (2, am_iv (J (32 + 1) 5)), (3, am_iv q594)], [am_iv q596, am_iv q594], am_SH, (J, K, am_RF b)) = some (((decide (am_i32 q596) && decide (am_i32 q594)) && true), .inl (bif am_cb .ge q594 q596 then 91 else 68, [(0, am_pv 30), (1, am_pv 32), (2, am_iv (J (32 + 1) 5)), (3, am_iv q594)], [], am_SH, (J, K, am_RF b))) from rfl) (am_g2 g598 g599 rfl) (am_nd_t c600) ?_
        obtain ⟨q601, e602, h⟩ := am_bind_some h
        refine am_r_call (show am_stepn X T_Boat_tryTurn 11 true (68, [(0, am_pv 30), (1, am_pv 32), (2, am_iv (J (32 + 1) 5)), (3, am_iv q594)], [], am_SH, (J, K, am_RF b)) = some (((decide (0 < (8 : Int) ∧ am_i32 8) && decide (am_i32 q594)) && true), .inr (.inl (68, [am_pv 32, am_iv (am_dv q594 8), am_iv (J 30 1), am_iv ((J 30 3) + (J (32 + 1) 5))], 4, 0, 0, 86, [(0, am_pv 30), (1, am_pv 32), (2, am_iv (J (32 + 1) 5)), (3, am_iv q594)], [], am_SH, (J, K, am_RF b)))) from rfl) (am_g2 (by decide) g599 rfl) tb_River_carries (s_River_carries (by decide) e602) ?_
        obtain ⟨g603, h⟩ := am_if_some h
        by_cases c604 : q601 = 0
        · rw [if_pos c604] at h
          refine am_r_f (show am_stepn X T_Boat_tryTurn 1 true (86, [(0, am_pv 30), (1, am_pv 32), (2, am_iv (J (32 + 1) 5)), (3, am_iv q594)], [am_iv q601], am_SH, (J, K, am_RF b)) = some ((decide (am_i32 q601) && true), .inl (bif am_cb .ne q601 0 then 91 else 89, [(0, am_pv 30), (1, am_pv 32), (2, am_iv (J (32 + 1) 5)), (3, am_iv q594)], [], am_SH, (J, K, am_RF b))) from rfl) (am_g1 g603 rfl) (am_nd_t c604) ?_
          obtain rfl := Option.some.inj h
          exact am_r_ret (show am_stepn X T_Boat_tryTurn 2 true (89, [(0, am_pv 30), (1, am_pv 32), (2, am_iv (J (32 + 1) 5)), (3, am_iv q594)], [], am_SH, (J, K, am_RF b)) = some ((decide ((0 : Int) = 0 ∨ (0 : Int) = 1) && true), .inr (.inr (some (am_iv 0), am_SH, (J, K, am_RF b)))) from rfl) (am_g1 (by decide) rfl)
        · rw [if_neg c604] at h
          refine am_r_t (show am_stepn X T_Boat_tryTurn 1 true (86, [(0, am_pv 30), (1, am_pv 32), (2, am_iv (J (32 + 1) 5)), (3, am_iv q594)], [am_iv q601], am_SH, (J, K, am_RF b)) = some ((decide (am_i32 q601) && true), .inl (bif am_cb .ne q601 0 then 91 else 89, [(0, am_pv 30), (1, am_pv 32), (2, am_iv (J (32 + 1) 5)), (3, am_iv q594)], [], am_SH, (J, K, am_RF b))) from rfl) (am_g1 g603 rfl) (am_nd_f c604) ?_
          refine am_r_eq (σ' := (91, [(0, am_pv 30), (2, am_iv (J (32 + 1) 5)), (3, am_iv q594)], [], am_SH, (J, K, am_RF b))) rfl ?_
          exact s_Boat_tryTurn_L91_30_32_  _ _ _ _ h
      · rw [if_neg c600] at h
        refine am_r_t (show am_stepn X T_Boat_tryTurn 1 true (65, [(0, am_pv 30), (1, am_pv 32), (2, am_iv (J (32 + 1) 5)), (3, am_iv q594)], [am_iv q596, am_iv q594], am_SH, (J, K, am_RF b)) = some (((decide (am_i32 q596) && decide (am_i32 q594)) && true), .inl (bif am_cb .ge q594 q596 then 91 else 68, [(0, am_pv 30), (1, am_pv 32), (2, am_iv (J (32 + 1) 5)), (3, am_iv q594)], [], am_SH, (J, K, am_RF b))) from rfl) (am_g2 g598 g599 rfl) (am_nd_f c600) ?_
        refine am_r_eq (σ' := (91, [(0, am_pv 30), (2, am_iv (J (32 + 1) 5)), (3, am_iv q594)], [], am_SH, (J, K, am_RF b))) rfl ?_
        exact s_Boat_tryTurn_L91_30_32_  _ _ _ _ h
theorem s_Boat_tryTurn_L91_30_6_ {X : am_X} {b : Bool} {K : am_K}  : ∀ (x2 : Int) (x3 : Int) (J : am_J) (r : Int × am_J), f_Boat_tryTurn_L91 30 6   x2 x3 J = some r → am_runs X T_Boat_tryTurn (91, [(0, am_pv 30), (2, am_iv x2), (3, am_iv x3)], [], am_SH, (J, K, am_RF b)) (some (am_iv r.1), am_SH, (r.2, K, am_RF b)) := by
  intro x2 x3 J r h
  unfold f_Boat_tryTurn_L91 at h
  obtain rfl := Option.some.inj h
  exact am_r_ret (show am_stepn X T_Boat_tryTurn 23 true (91, [(0, am_pv 30), (2, am_iv x2), (3, am_iv x3)], [], am_SH, (J, K, am_RF b)) = some ((decide ((1 : Int) = 0 ∨ (1 : Int) = 1) && true), .inr (.inr (some (am_iv 1), am_SH, ((am_up (am_up (am_up (am_up J 30 0 x3) 30 2 (1 - (J 30 2))) 30 3 ((J 30 3) + x2)) 30 4 ((J 30 4) + 1)), K, am_RF b)))) from rfl) (am_g1 (by decide) rfl)
theorem s_Boat_tryTurn_30_6_ {X : am_X} {b : Bool} {K : am_K} {J : am_J} {r : Int × am_J} (h : f_Boat_tryTurn 30 6 J = some r) : am_runs X T_Boat_tryTurn (0, [(0, am_pv 30), (1, am_pv 6)], [], am_SH, (J, K, am_RF b)) (some (am_iv r.1), am_SH, (r.2, K, am_RF b)) := by
  unfold f_Boat_tryTurn at h
  obtain ⟨g585, h⟩ := am_if_some h
  by_cases c586 : 300 < ((J 30 3) + (J (6 + 1) 5))
  · rw [if_pos c586] at h
    refine am_r_t (show am_stepn X T_Boat_tryTurn 11 true (0, [(0, am_pv 30), (1, am_pv 6)], [], am_SH, (J, K, am_RF b)) = some (((decide (am_i32 300) && decide (am_i32 ((J 30 3) + (J (6 + 1) 5)))) && (am_in 5 7 && true)), .inl (bif am_cb .gt ((J 30 3) + (J (6 + 1) 5)) 300 then 27 else 19, [(0, am_pv 30), (1, am_pv 6), (2, am_iv (J (6 + 1) 5))], [], am_SH, (J, K, am_RF b))) from rfl) (am_g2 (by decide) g585 (am_gi (by decide) rfl)) (decide_eq_true c586) ?_
    obtain rfl := Option.some.inj h
    exact am_r_ret (show am_stepn X T_Boat_tryTurn 2 true (27, [(0, am_pv 30), (1, am_pv 6), (2, am_iv (J (6 + 1) 5))], [], am_SH, (J, K, am_RF b)) = some ((decide ((0 : Int) = 0 ∨ (0 : Int) = 1) && true), .inr (.inr (some (am_iv 0), am_SH, (J, K, am_RF b)))) from rfl) (am_g1 (by decide) rfl)
  · rw [if_neg c586] at h
    refine am_r_f (show am_stepn X T_Boat_tryTurn 11 true (0, [(0, am_pv 30), (1, am_pv 6)], [], am_SH, (J, K, am_RF b)) = some (((decide (am_i32 300) && decide (am_i32 ((J 30 3) + (J (6 + 1) 5)))) && (am_in 5 7 && true)), .inl (bif am_cb .gt ((J 30 3) + (J (6 + 1) 5)) 300 then 27 else 19, [(0, am_pv 30), (1, am_pv 6), (2, am_iv (J (6 + 1) 5))], [], am_SH, (J, K, am_RF b))) from rfl) (am_g2 (by decide) g585 (am_gi (by decide) rfl)) (decide_eq_false c586) ?_
    obtain ⟨q587, e588, h⟩ := am_bind_some h
    refine am_r_call (show am_stepn X T_Boat_tryTurn 3 true (19, [(0, am_pv 30), (1, am_pv 6), (2, am_iv (J (6 + 1) 5))], [], am_SH, (J, K, am_RF b)) = some (true, .inr (.inl (74, [am_pv 30, am_pv 6], 2, 0, 0, 24, [(0, am_pv 30), (1, am_pv 6), (2, am_iv (J (6 + 1) 5))], [], am_SH, (J, K, am_RF b)))) from rfl) rfl tb_Boat_isAfloat (s_Boat_isAfloat (by decide) e588) ?_
    obtain ⟨g589, h⟩ := am_if_some h
    by_cases c590 : q587 = 0
    · rw [if_pos c590] at h
      refine am_r_f (show am_stepn X T_Boat_tryTurn 1 true (24, [(0, am_pv 30), (1, am_pv 6), (2, am_iv (J (6 + 1) 5))], [am_iv q587], am_SH, (J, K, am_RF b)) = some ((decide (am_i32 q587) && true), .inl (bif am_cb .ne q587 0 then 29 else 27, [(0, am_pv 30), (1, am_pv 6), (2, am_iv (J (6 + 1) 5))], [], am_SH, (J, K, am_RF b))) from rfl) (am_g1 g589 rfl) (am_nd_t c590) ?_
      obtain rfl := Option.some.inj h
      exact am_r_ret (show am_stepn X T_Boat_tryTurn 2 true (27, [(0, am_pv 30), (1, am_pv 6), (2, am_iv (J (6 + 1) 5))], [], am_SH, (J, K, am_RF b)) = some ((decide ((0 : Int) = 0 ∨ (0 : Int) = 1) && true), .inr (.inr (some (am_iv 0), am_SH, (J, K, am_RF b)))) from rfl) (am_g1 (by decide) rfl)
    · rw [if_neg c590] at h
      refine am_r_t (show am_stepn X T_Boat_tryTurn 1 true (24, [(0, am_pv 30), (1, am_pv 6), (2, am_iv (J (6 + 1) 5))], [am_iv q587], am_SH, (J, K, am_RF b)) = some ((decide (am_i32 q587) && true), .inl (bif am_cb .ne q587 0 then 29 else 27, [(0, am_pv 30), (1, am_pv 6), (2, am_iv (J (6 + 1) 5))], [], am_SH, (J, K, am_RF b))) from rfl) (am_g1 g589 rfl) (am_nd_f c590) ?_
      obtain ⟨g591, h⟩ := am_if_some h
      obtain ⟨q592, e593, h⟩ := am_bind_some h
      refine am_r_call (show am_stepn X T_Boat_tryTurn 14 true (29, [(0, am_pv 30), (1, am_pv 6), (2, am_iv (J (6 + 1) 5))], [], am_SH, (J, K, am_RF b)) = some (((decide (0 < (8 : Int) ∧ am_i32 8) && decide (am_i32 (J 30 0))) && true), .inr (.inl (61, [am_pv 6, am_iv (am_dv (J 30 0) 8), am_iv (J 30 1), am_iv (J 30 3)], 5, 0, 0, 54, [(0, am_pv 30), (1, am_pv 6), (2, am_iv (J (6 + 1) 5))], [am_iv (J (6 + 1) 5), am_iv (J 30 0), am_iv 0], am_SH, (J, K, am_RF b)))) from rfl) (am_g2 (by decide) g591 rfl) tb_River_flowAt (s_River_flowAt (by decide) e593) ?_
      obtain ⟨q594, e595, h⟩ := am_bind_some h
      refine am_r_call (show am_stepn X T_Boat_tryTurn 3 true (54, [(0, am_pv 30), (1, am_pv 6), (2, am_iv (J (6 + 1) 5))], [am_iv q592, am_iv (J (6 + 1) 5), am_iv (J 30 0), am_iv 0], am_SH, (J, K, am_RF b)) = some (true, .inr (.inl (48, [am_iv 0, am_iv ((J 30 0) + ((J (6 + 1) 5) * q592))], 2, 0, 0, 59, [(0, am_pv 30), (1, am_pv 6), (2, am_iv (J (6 + 1) 5))], [], am_SH, (J, K, am_RF b)))) from rfl) rfl tb_JMath_max (s_JMath_max e595) ?_
      obtain ⟨q596, e597, h⟩ := am_bind_some h
      refine am_r_call (show am_stepn X T_Boat_tryTurn 4 true (59, [(0, am_pv 30), (1, am_pv 6), (2, am_iv (J (6 + 1) 5))], [am_iv q594], am_SH, (J, K, am_RF b)) = some (true, .inr (.inl (72, [am_pv 6], 1, 0, 0, 65, [(0, am_pv 30), (1, am_pv 6), (2, am_iv (J (6 + 1) 5)), (3, am_iv q594)], [am_iv q594], am_SH, (J, K, am_RF b)))) from rfl) rfl tb_River_top (s_River_top (by decide) e597) ?_
      obtain ⟨g598, h⟩ := am_if_some h
      obtain ⟨g599, h⟩ := am_if_some h
      by_cases c600 : q594 < q596
      · rw [if_pos c600] at h
        refine am_r_f (show am_stepn X T_Boat_tryTurn 1 true (65, [(0, am_pv 30), (1, am_pv 6), (2, am_iv (J (6 + 1) 5)), (3, am_iv q594)], [am_iv q596, am_iv q594], am_SH, (J, K, am_RF b)) = some (((decide (am_i32 q596) && decide (am_i32 q594)) && true), .inl (bif am_cb .ge q594 q596 then 91 else 68, [(0, am_pv 30), (1, am_pv 6), (2, am_iv (J (6 + 1) 5)), (3, am_iv q594)], [], am_SH, (J, K, am_RF b))) from rfl) (am_g2 g598 g599 rfl) (am_nd_t c600) ?_
        obtain ⟨q601, e602, h⟩ := am_bind_some h
        refine am_r_call (show am_stepn X T_Boat_tryTurn 11 true (68, [(0, am_pv 30), (1, am_pv 6), (2, am_iv (J (6 + 1) 5)), (3, am_iv q594)], [], am_SH, (J, K, am_RF b)) = some (((decide (0 < (8 : Int) ∧ am_i32 8) && decide (am_i32 q594)) && true), .inr (.inl (68, [am_pv 6, am_iv (am_dv q594 8), am_iv (J 30 1), am_iv ((J 30 3) + (J (6 + 1) 5))], 4, 0, 0, 86, [(0, am_pv 30), (1, am_pv 6), (2, am_iv (J (6 + 1) 5)), (3, am_iv q594)], [], am_SH, (J, K, am_RF b)))) from rfl) (am_g2 (by decide) g599 rfl) tb_River_carries (s_River_carries (by decide) e602) ?_
        obtain ⟨g603, h⟩ := am_if_some h
        by_cases c604 : q601 = 0
        · rw [if_pos c604] at h
          refine am_r_f (show am_stepn X T_Boat_tryTurn 1 true (86, [(0, am_pv 30), (1, am_pv 6), (2, am_iv (J (6 + 1) 5)), (3, am_iv q594)], [am_iv q601], am_SH, (J, K, am_RF b)) = some ((decide (am_i32 q601) && true), .inl (bif am_cb .ne q601 0 then 91 else 89, [(0, am_pv 30), (1, am_pv 6), (2, am_iv (J (6 + 1) 5)), (3, am_iv q594)], [], am_SH, (J, K, am_RF b))) from rfl) (am_g1 g603 rfl) (am_nd_t c604) ?_
          obtain rfl := Option.some.inj h
          exact am_r_ret (show am_stepn X T_Boat_tryTurn 2 true (89, [(0, am_pv 30), (1, am_pv 6), (2, am_iv (J (6 + 1) 5)), (3, am_iv q594)], [], am_SH, (J, K, am_RF b)) = some ((decide ((0 : Int) = 0 ∨ (0 : Int) = 1) && true), .inr (.inr (some (am_iv 0), am_SH, (J, K, am_RF b)))) from rfl) (am_g1 (by decide) rfl)
        · rw [if_neg c604] at h
          refine am_r_t (show am_stepn X T_Boat_tryTurn 1 true (86, [(0, am_pv 30), (1, am_pv 6), (2, am_iv (J (6 + 1) 5)), (3, am_iv q594)], [am_iv q601], am_SH, (J, K, am_RF b)) = some ((decide (am_i32 q601) && true), .inl (bif am_cb .ne q601 0 then 91 else 89, [(0, am_pv 30), (1, am_pv 6), (2, am_iv (J (6 + 1) 5)), (3, am_iv q594)], [], am_SH, (J, K, am_RF b))) from rfl) (am_g1 g603 rfl) (am_nd_f c604) ?_
          refine am_r_eq (σ' := (91, [(0, am_pv 30), (2, am_iv (J (6 + 1) 5)), (3, am_iv q594)], [], am_SH, (J, K, am_RF b))) rfl ?_
          exact s_Boat_tryTurn_L91_30_6_  _ _ _ _ h
      · rw [if_neg c600] at h
        refine am_r_t (show am_stepn X T_Boat_tryTurn 1 true (65, [(0, am_pv 30), (1, am_pv 6), (2, am_iv (J (6 + 1) 5)), (3, am_iv q594)], [am_iv q596, am_iv q594], am_SH, (J, K, am_RF b)) = some (((decide (am_i32 q596) && decide (am_i32 q594)) && true), .inl (bif am_cb .ge q594 q596 then 91 else 68, [(0, am_pv 30), (1, am_pv 6), (2, am_iv (J (6 + 1) 5)), (3, am_iv q594)], [], am_SH, (J, K, am_RF b))) from rfl) (am_g2 g598 g599 rfl) (am_nd_f c600) ?_
        refine am_r_eq (σ' := (91, [(0, am_pv 30), (2, am_iv (J (6 + 1) 5)), (3, am_iv q594)], [], am_SH, (J, K, am_RF b))) rfl ?_
        exact s_Boat_tryTurn_L91_30_6_  _ _ _ _ h
theorem s_Boat_tryTurn {X : am_X} {b : Bool} {o1 : Nat} {o2 : Nat} (ho : (o1 = 18 ∧ o2 = 32) ∨ (o1 = 18 ∧ o2 = 6) ∨ (o1 = 29 ∧ o2 = 32) ∨ (o1 = 29 ∧ o2 = 6) ∨ (o1 = 30 ∧ o2 = 32) ∨ (o1 = 30 ∧ o2 = 6)) {K : am_K} {J : am_J} {r : Int × am_J} (h : f_Boat_tryTurn o1 o2 J = some r) : am_runs X T_Boat_tryTurn (0, [(0, am_pv o1), (1, am_pv o2)], [], am_SH, (J, K, am_RF b)) (some (am_iv r.1), am_SH, (r.2, K, am_RF b)) := by
  rcases ho with ⟨rfl, rfl⟩ | ⟨rfl, rfl⟩ | ⟨rfl, rfl⟩ | ⟨rfl, rfl⟩ | ⟨rfl, rfl⟩ | ⟨rfl, rfl⟩
  · skip
    exact s_Boat_tryTurn_18_32_ h
  · skip
    exact s_Boat_tryTurn_18_6_ h
  · skip
    exact s_Boat_tryTurn_29_32_ h
  · skip
    exact s_Boat_tryTurn_29_6_ h
  · skip
    exact s_Boat_tryTurn_30_32_ h
  · skip
    exact s_Boat_tryTurn_30_6_ h
theorem s_UpRiver_turn_f {X : am_X} {K : am_K} {J : am_J} {r : Int × am_J} (h : f_UpRiver_turn false J = some r) : am_runs X T_UpRiver_turn (0, [(0, am_pv 0)], [], am_SH, (J, K, am_RF false)) (some (am_iv r.1), am_SH, (r.2, K, am_RF false)) := by
  unfold f_UpRiver_turn at h
  obtain ⟨q605, e606, h⟩ := am_bind_some h
  refine am_r_call (show am_stepn X T_UpRiver_turn 8 true (0, [(0, am_pv 0)], [], am_SH, (J, K, am_RF false)) = some (true, .inr (.inl (71, [am_pv 18, am_pv (am_rv false)], 2, 0, 0, 16, [(0, am_pv 0), (1, am_pv 18)], [], am_SH, (J, K, am_RF false)))) from rfl) rfl tb_Boat_isUp (s_Boat_isUp (by decide) e606) ?_
  obtain ⟨g607, h⟩ := am_if_some h
  by_cases c608 : q605 = 0
  · rw [if_pos c608] at h
    refine am_r_t (show am_stepn X T_UpRiver_turn 1 true (16, [(0, am_pv 0), (1, am_pv 18)], [am_iv q605], am_SH, (J, K, am_RF false)) = some ((decide (am_i32 q605) && true), .inl (bif am_cb .eq q605 0 then 22 else 19, [(0, am_pv 0), (1, am_pv 18)], [], am_SH, (J, K, am_RF false))) from rfl) (am_g1 g607 rfl) (decide_eq_true c608) ?_
    obtain ⟨g609, h⟩ := am_if_some h
    by_cases c610 : 300 < ((J 18 3) + (J (am_rv false + 1) 5))
    · rw [if_pos c610] at h
      refine am_r_f (show am_stepn X T_UpRiver_turn 10 true (22, [(0, am_pv 0), (1, am_pv 18)], [], am_SH, (J, K, am_RF false)) = some (((decide (am_i32 300) && decide (am_i32 ((J 18 3) + (J (am_rv false + 1) 5)))) && (am_in 5 7 && true)), .inl (bif am_cb .le ((J 18 3) + (J (am_rv false + 1) 5)) 300 then 45 else 42, [(0, am_pv 0), (1, am_pv 18)], [], am_SH, (J, K, am_RF false))) from rfl) (am_g2 (by decide) g609 (am_gi (by decide) rfl)) (am_nd_t c610) ?_
      obtain rfl := Option.some.inj h
      exact am_r_ret (show am_stepn X T_UpRiver_turn 2 true (42, [(0, am_pv 0), (1, am_pv 18)], [], am_SH, (J, K, am_RF false)) = some (true, .inr (.inr (some (am_iv (-3)), am_SH, (J, K, am_RF false)))) from rfl) rfl
    · rw [if_neg c610] at h
      refine am_r_t (show am_stepn X T_UpRiver_turn 10 true (22, [(0, am_pv 0), (1, am_pv 18)], [], am_SH, (J, K, am_RF false)) = some (((decide (am_i32 300) && decide (am_i32 ((J 18 3) + (J (am_rv false + 1) 5)))) && (am_in 5 7 && true)), .inl (bif am_cb .le ((J 18 3) + (J (am_rv false + 1) 5)) 300 then 45 else 42, [(0, am_pv 0), (1, am_pv 18)], [], am_SH, (J, K, am_RF false))) from rfl) (am_g2 (by decide) g609 (am_gi (by decide) rfl)) (am_nd_f c610) ?_
      obtain ⟨q611, e612, h⟩ := am_bind_some h
      refine am_r_call (show am_stepn X T_UpRiver_turn 4 true (45, [(0, am_pv 0), (1, am_pv 18)], [], am_SH, (J, K, am_RF false)) = some (true, .inr (.inl (77, [am_pv 18, am_pv (am_rv false)], 4, 0, 0, 53, [(0, am_pv 0), (1, am_pv 18)], [], am_SH, (J, K, am_RF false)))) from rfl) rfl tb_Boat_tryTurn (s_Boat_tryTurn (by decide) e612) ?_
      obtain ⟨g613, h⟩ := am_if_some h
      by_cases c614 : q611.1 = 0
      · rw [if_pos c614] at h
        refine am_r_t (show am_stepn X T_UpRiver_turn 1 true (53, [(0, am_pv 0), (1, am_pv 18)], [am_iv q611.1], am_SH, (q611.2, K, am_RF false)) = some ((decide (am_i32 q611.1) && true), .inl (bif am_cb .eq q611.1 0 then 58 else 56, [(0, am_pv 0), (1, am_pv 18)], [], am_SH, (q611.2, K, am_RF false))) from rfl) (am_g1 g613 rfl) (decide_eq_true c614) ?_
        obtain rfl := Option.some.inj h
        exact am_r_ret (show am_stepn X T_UpRiver_turn 8 true (58, [(0, am_pv 0), (1, am_pv 18)], [], am_SH, (q611.2, K, am_RF false)) = some (true, .inr (.inr (some (am_iv 0), am_SH, ((am_up q611.2 18 3 ((q611.2 18 3) + 1)), K, am_RF false)))) from rfl) rfl
      · rw [if_neg c614] at h
        refine am_r_f (show am_stepn X T_UpRiver_turn 1 true (53, [(0, am_pv 0), (1, am_pv 18)], [am_iv q611.1], am_SH, (q611.2, K, am_RF false)) = some ((decide (am_i32 q611.1) && true), .inl (bif am_cb .eq q611.1 0 then 58 else 56, [(0, am_pv 0), (1, am_pv 18)], [], am_SH, (q611.2, K, am_RF false))) from rfl) (am_g1 g613 rfl) (decide_eq_false c614) ?_
        obtain rfl := Option.some.inj h
        exact am_r_ret (show am_stepn X T_UpRiver_turn 2 true (56, [(0, am_pv 0), (1, am_pv 18)], [], am_SH, (q611.2, K, am_RF false)) = some (true, .inr (.inr (some (am_iv 1), am_SH, (q611.2, K, am_RF false)))) from rfl) rfl
  · rw [if_neg c608] at h
    refine am_r_f (show am_stepn X T_UpRiver_turn 1 true (16, [(0, am_pv 0), (1, am_pv 18)], [am_iv q605], am_SH, (J, K, am_RF false)) = some ((decide (am_i32 q605) && true), .inl (bif am_cb .eq q605 0 then 22 else 19, [(0, am_pv 0), (1, am_pv 18)], [], am_SH, (J, K, am_RF false))) from rfl) (am_g1 g607 rfl) (decide_eq_false c608) ?_
    obtain rfl := Option.some.inj h
    exact am_r_ret (show am_stepn X T_UpRiver_turn 2 true (19, [(0, am_pv 0), (1, am_pv 18)], [], am_SH, (J, K, am_RF false)) = some (true, .inr (.inr (some (am_iv (-2)), am_SH, (J, K, am_RF false)))) from rfl) rfl
theorem s_UpRiver_turn_t {X : am_X} {K : am_K} {J : am_J} {r : Int × am_J} (h : f_UpRiver_turn true J = some r) : am_runs X T_UpRiver_turn (0, [(0, am_pv 0)], [], am_SH, (J, K, am_RF true)) (some (am_iv r.1), am_SH, (r.2, K, am_RF true)) := by
  unfold f_UpRiver_turn at h
  obtain ⟨q605, e606, h⟩ := am_bind_some h
  refine am_r_call (show am_stepn X T_UpRiver_turn 8 true (0, [(0, am_pv 0)], [], am_SH, (J, K, am_RF true)) = some (true, .inr (.inl (71, [am_pv 18, am_pv (am_rv true)], 2, 0, 0, 16, [(0, am_pv 0), (1, am_pv 18)], [], am_SH, (J, K, am_RF true)))) from rfl) rfl tb_Boat_isUp (s_Boat_isUp (by decide) e606) ?_
  obtain ⟨g607, h⟩ := am_if_some h
  by_cases c608 : q605 = 0
  · rw [if_pos c608] at h
    refine am_r_t (show am_stepn X T_UpRiver_turn 1 true (16, [(0, am_pv 0), (1, am_pv 18)], [am_iv q605], am_SH, (J, K, am_RF true)) = some ((decide (am_i32 q605) && true), .inl (bif am_cb .eq q605 0 then 22 else 19, [(0, am_pv 0), (1, am_pv 18)], [], am_SH, (J, K, am_RF true))) from rfl) (am_g1 g607 rfl) (decide_eq_true c608) ?_
    obtain ⟨g609, h⟩ := am_if_some h
    by_cases c610 : 300 < ((J 18 3) + (J (am_rv true + 1) 5))
    · rw [if_pos c610] at h
      refine am_r_f (show am_stepn X T_UpRiver_turn 10 true (22, [(0, am_pv 0), (1, am_pv 18)], [], am_SH, (J, K, am_RF true)) = some (((decide (am_i32 300) && decide (am_i32 ((J 18 3) + (J (am_rv true + 1) 5)))) && (am_in 5 7 && true)), .inl (bif am_cb .le ((J 18 3) + (J (am_rv true + 1) 5)) 300 then 45 else 42, [(0, am_pv 0), (1, am_pv 18)], [], am_SH, (J, K, am_RF true))) from rfl) (am_g2 (by decide) g609 (am_gi (by decide) rfl)) (am_nd_t c610) ?_
      obtain rfl := Option.some.inj h
      exact am_r_ret (show am_stepn X T_UpRiver_turn 2 true (42, [(0, am_pv 0), (1, am_pv 18)], [], am_SH, (J, K, am_RF true)) = some (true, .inr (.inr (some (am_iv (-3)), am_SH, (J, K, am_RF true)))) from rfl) rfl
    · rw [if_neg c610] at h
      refine am_r_t (show am_stepn X T_UpRiver_turn 10 true (22, [(0, am_pv 0), (1, am_pv 18)], [], am_SH, (J, K, am_RF true)) = some (((decide (am_i32 300) && decide (am_i32 ((J 18 3) + (J (am_rv true + 1) 5)))) && (am_in 5 7 && true)), .inl (bif am_cb .le ((J 18 3) + (J (am_rv true + 1) 5)) 300 then 45 else 42, [(0, am_pv 0), (1, am_pv 18)], [], am_SH, (J, K, am_RF true))) from rfl) (am_g2 (by decide) g609 (am_gi (by decide) rfl)) (am_nd_f c610) ?_
      obtain ⟨q611, e612, h⟩ := am_bind_some h
      refine am_r_call (show am_stepn X T_UpRiver_turn 4 true (45, [(0, am_pv 0), (1, am_pv 18)], [], am_SH, (J, K, am_RF true)) = some (true, .inr (.inl (77, [am_pv 18, am_pv (am_rv true)], 4, 0, 0, 53, [(0, am_pv 0), (1, am_pv 18)], [], am_SH, (J, K, am_RF true)))) from rfl) rfl tb_Boat_tryTurn (s_Boat_tryTurn (by decide) e612) ?_
      obtain ⟨g613, h⟩ := am_if_some h
      by_cases c614 : q611.1 = 0
      · rw [if_pos c614] at h
        refine am_r_t (show am_stepn X T_UpRiver_turn 1 true (53, [(0, am_pv 0), (1, am_pv 18)], [am_iv q611.1], am_SH, (q611.2, K, am_RF true)) = some ((decide (am_i32 q611.1) && true), .inl (bif am_cb .eq q611.1 0 then 58 else 56, [(0, am_pv 0), (1, am_pv 18)], [], am_SH, (q611.2, K, am_RF true))) from rfl) (am_g1 g613 rfl) (decide_eq_true c614) ?_
        obtain rfl := Option.some.inj h
        exact am_r_ret (show am_stepn X T_UpRiver_turn 8 true (58, [(0, am_pv 0), (1, am_pv 18)], [], am_SH, (q611.2, K, am_RF true)) = some (true, .inr (.inr (some (am_iv 0), am_SH, ((am_up q611.2 18 3 ((q611.2 18 3) + 1)), K, am_RF true)))) from rfl) rfl
      · rw [if_neg c614] at h
        refine am_r_f (show am_stepn X T_UpRiver_turn 1 true (53, [(0, am_pv 0), (1, am_pv 18)], [am_iv q611.1], am_SH, (q611.2, K, am_RF true)) = some ((decide (am_i32 q611.1) && true), .inl (bif am_cb .eq q611.1 0 then 58 else 56, [(0, am_pv 0), (1, am_pv 18)], [], am_SH, (q611.2, K, am_RF true))) from rfl) (am_g1 g613 rfl) (decide_eq_false c614) ?_
        obtain rfl := Option.some.inj h
        exact am_r_ret (show am_stepn X T_UpRiver_turn 2 true (56, [(0, am_pv 0), (1, am_pv 18)], [], am_SH, (q611.2, K, am_RF true)) = some (true, .inr (.inr (some (am_iv 1), am_SH, (q611.2, K, am_RF true)))) from rfl) rfl
  · rw [if_neg c608] at h
    refine am_r_f (show am_stepn X T_UpRiver_turn 1 true (16, [(0, am_pv 0), (1, am_pv 18)], [am_iv q605], am_SH, (J, K, am_RF true)) = some ((decide (am_i32 q605) && true), .inl (bif am_cb .eq q605 0 then 22 else 19, [(0, am_pv 0), (1, am_pv 18)], [], am_SH, (J, K, am_RF true))) from rfl) (am_g1 g607 rfl) (decide_eq_false c608) ?_
    obtain rfl := Option.some.inj h
    exact am_r_ret (show am_stepn X T_UpRiver_turn 2 true (19, [(0, am_pv 0), (1, am_pv 18)], [], am_SH, (J, K, am_RF true)) = some (true, .inr (.inr (some (am_iv (-2)), am_SH, (J, K, am_RF true)))) from rfl) rfl
theorem s_UpRiver_turn {X : am_X} {b : Bool} {K : am_K} {J : am_J} {r : Int × am_J} (h : f_UpRiver_turn b J = some r) : am_runs X T_UpRiver_turn (0, [(0, am_pv 0)], [], am_SH, (J, K, am_RF b)) (some (am_iv r.1), am_SH, (r.2, K, am_RF b)) := by
  cases b
  · exact s_UpRiver_turn_f h
  · exact s_UpRiver_turn_t h
theorem s_UpRiver_anchor {X : am_X} {b : Bool} {K : am_K} {x1 : Int} {J : am_J} {r : Int × am_J} (h : f_UpRiver_anchor  x1 J = some r) : am_runs X T_UpRiver_anchor (0, [(0, am_pv 0), (1, am_iv x1)], [], am_SH, (J, K, am_RF b)) (some (am_iv r.1), am_SH, (r.2, K, am_RF b)) := by
  unfold f_UpRiver_anchor at h
  obtain ⟨g615, h⟩ := am_if_some h
  by_cases c616 : x1 < 1
  · rw [if_pos c616] at h
    refine am_r_t (show am_stepn X T_UpRiver_anchor 7 true (0, [(0, am_pv 0), (1, am_iv x1)], [], am_SH, (J, K, am_RF b)) = some (((decide (am_i32 1) && decide (am_i32 x1)) && true), .inl (bif am_cb .lt x1 1 then 20 else 13, [(0, am_pv 0), (1, am_iv x1), (2, am_pv 18)], [], am_SH, (J, K, am_RF b))) from rfl) (am_g2 (by decide) g615 rfl) (decide_eq_true c616) ?_
    obtain rfl := Option.some.inj h
    exact am_r_ret (show am_stepn X T_UpRiver_anchor 2 true (20, [(0, am_pv 0), (1, am_iv x1), (2, am_pv 18)], [], am_SH, (J, K, am_RF b)) = some (true, .inr (.inr (some (am_iv (-1)), am_SH, (J, K, am_RF b)))) from rfl) rfl
  · rw [if_neg c616] at h
    refine am_r_f (show am_stepn X T_UpRiver_anchor 7 true (0, [(0, am_pv 0), (1, am_iv x1)], [], am_SH, (J, K, am_RF b)) = some (((decide (am_i32 1) && decide (am_i32 x1)) && true), .inl (bif am_cb .lt x1 1 then 20 else 13, [(0, am_pv 0), (1, am_iv x1), (2, am_pv 18)], [], am_SH, (J, K, am_RF b))) from rfl) (am_g2 (by decide) g615 rfl) (decide_eq_false c616) ?_
    by_cases c617 : 300 < x1
    · rw [if_pos c617] at h
      refine am_r_f (show am_stepn X T_UpRiver_anchor 3 true (13, [(0, am_pv 0), (1, am_iv x1), (2, am_pv 18)], [], am_SH, (J, K, am_RF b)) = some (((decide (am_i32 300) && decide (am_i32 x1)) && true), .inl (bif am_cb .le x1 300 then 22 else 20, [(1, am_iv x1), (2, am_pv 18)], [], am_SH, (J, K, am_RF b))) from rfl) (am_g2 (by decide) g615 rfl) (am_nd_t c617) ?_
      obtain rfl := Option.some.inj h
      exact am_r_ret (show am_stepn X T_UpRiver_anchor 2 true (20, [(1, am_iv x1), (2, am_pv 18)], [], am_SH, (J, K, am_RF b)) = some (true, .inr (.inr (some (am_iv (-1)), am_SH, (J, K, am_RF b)))) from rfl) rfl
    · rw [if_neg c617] at h
      refine am_r_t (show am_stepn X T_UpRiver_anchor 3 true (13, [(0, am_pv 0), (1, am_iv x1), (2, am_pv 18)], [], am_SH, (J, K, am_RF b)) = some (((decide (am_i32 300) && decide (am_i32 x1)) && true), .inl (bif am_cb .le x1 300 then 22 else 20, [(1, am_iv x1), (2, am_pv 18)], [], am_SH, (J, K, am_RF b))) from rfl) (am_g2 (by decide) g615 rfl) (am_nd_f c617) ?_
      obtain ⟨g618, h⟩ := am_if_some h
      by_cases c619 : 300 < ((J 18 3) + x1)
      · rw [if_pos c619] at h
        refine am_r_f (show am_stepn X T_UpRiver_anchor 6 true (22, [(1, am_iv x1), (2, am_pv 18)], [], am_SH, (J, K, am_RF b)) = some (((decide (am_i32 300) && decide (am_i32 ((J 18 3) + x1))) && true), .inl (bif am_cb .le ((J 18 3) + x1) 300 then 37 else 34, [(1, am_iv x1), (2, am_pv 18)], [], am_SH, (J, K, am_RF b))) from rfl) (am_g2 (by decide) g618 rfl) (am_nd_t c619) ?_
        obtain rfl := Option.some.inj h
        exact am_r_ret (show am_stepn X T_UpRiver_anchor 2 true (34, [(1, am_iv x1), (2, am_pv 18)], [], am_SH, (J, K, am_RF b)) = some (true, .inr (.inr (some (am_iv (-3)), am_SH, (J, K, am_RF b)))) from rfl) rfl
      · rw [if_neg c619] at h
        refine am_r_t (show am_stepn X T_UpRiver_anchor 6 true (22, [(1, am_iv x1), (2, am_pv 18)], [], am_SH, (J, K, am_RF b)) = some (((decide (am_i32 300) && decide (am_i32 ((J 18 3) + x1))) && true), .inl (bif am_cb .le ((J 18 3) + x1) 300 then 37 else 34, [(1, am_iv x1), (2, am_pv 18)], [], am_SH, (J, K, am_RF b))) from rfl) (am_g2 (by decide) g618 rfl) (am_nd_f c619) ?_
        obtain rfl := Option.some.inj h
        exact am_r_ret (show am_stepn X T_UpRiver_anchor 9 true (37, [(1, am_iv x1), (2, am_pv 18)], [], am_SH, (J, K, am_RF b)) = some (true, .inr (.inr (some (am_iv ((J 18 3) + x1)), am_SH, ((am_up J 18 3 ((J 18 3) + x1)), K, am_RF b)))) from rfl) rfl
theorem s_UpRiver_now_L103_f {X : am_X} {J : am_J} {K : am_K}  : ∀ (s0 : Int) (r : Int), f_UpRiver_now_L103 false J   s0 = some r → am_runs X T_UpRiver_now (103, [], [am_iv s0], am_SH, (J, K, am_RF false)) (some (am_iv r), am_SH, (J, K, am_RF false)) := by
  intro s0 r h
  unfold f_UpRiver_now_L103 at h
  obtain ⟨q620, e621, h⟩ := am_bind_some h
  refine am_r_call (show am_stepn X T_UpRiver_now 1 true (103, [], [am_iv s0], am_SH, (J, K, am_RF false)) = some (true, .inr (.inl (57, [am_iv s0], 1, 0, 0, 106, [], [], am_SH, (J, K, am_RF false)))) from rfl) rfl tb_UpRiver_asInt (s_UpRiver_asInt e621) ?_
  obtain rfl := Option.some.inj h
  exact am_r_ret (show am_stepn X T_UpRiver_now 1 true (106, [], [am_iv q620], am_SH, (J, K, am_RF false)) = some (true, .inr (.inr (some (am_iv q620), am_SH, (J, K, am_RF false)))) from rfl) rfl
theorem s_UpRiver_now_f {X : am_X} {J : am_J} {K : am_K} {x1 : Int} {r : Int} (h : f_UpRiver_now false J x1 = some r) : am_runs X T_UpRiver_now (0, [(0, am_pv 0), (1, am_iv x1)], [], am_SH, (J, K, am_RF false)) (some (am_iv r), am_SH, (J, K, am_RF false)) := by
  unfold f_UpRiver_now at h
  obtain ⟨g622, h⟩ := am_if_some h
  by_cases c623 : x1 = 0
  · rw [if_pos c623] at h
    refine am_r_sw (show am_stepn X T_UpRiver_now 6 true (0, [(0, am_pv 0), (1, am_iv x1)], [], am_SH, (J, K, am_RF false)) = some ((decide (am_i32 x1) && true), .inl (am_sw 0 7 [129, 56, 61, 66, 71, 76, 107, 119, 124] x1, [(0, am_pv 0), (1, am_iv x1), (2, am_pv 18)], [], am_SH, (J, K, am_RF false))) from rfl) (am_g1 g622 rfl) (p := 56) (by rw [c623]; rfl) ?_
    obtain rfl := Option.some.inj h
    exact am_r_ret (show am_stepn X T_UpRiver_now 3 true (56, [(0, am_pv 0), (1, am_iv x1), (2, am_pv 18)], [], am_SH, (J, K, am_RF false)) = some (true, .inr (.inr (some (am_iv (J 18 3)), am_SH, (J, K, am_RF false)))) from rfl) rfl
  · rw [if_neg c623] at h
    by_cases c624 : x1 = 1
    · rw [if_pos c624] at h
      refine am_r_sw (show am_stepn X T_UpRiver_now 6 true (0, [(0, am_pv 0), (1, am_iv x1)], [], am_SH, (J, K, am_RF false)) = some ((decide (am_i32 x1) && true), .inl (am_sw 0 7 [129, 56, 61, 66, 71, 76, 107, 119, 124] x1, [(0, am_pv 0), (1, am_iv x1), (2, am_pv 18)], [], am_SH, (J, K, am_RF false))) from rfl) (am_g1 g622 rfl) (p := 61) (by rw [c624]; rfl) ?_
      obtain rfl := Option.some.inj h
      exact am_r_ret (show am_stepn X T_UpRiver_now 3 true (61, [(0, am_pv 0), (1, am_iv x1), (2, am_pv 18)], [], am_SH, (J, K, am_RF false)) = some (true, .inr (.inr (some (am_iv (J 18 0)), am_SH, (J, K, am_RF false)))) from rfl) rfl
    · rw [if_neg c624] at h
      by_cases c625 : x1 = 2
      · rw [if_pos c625] at h
        refine am_r_sw (show am_stepn X T_UpRiver_now 6 true (0, [(0, am_pv 0), (1, am_iv x1)], [], am_SH, (J, K, am_RF false)) = some ((decide (am_i32 x1) && true), .inl (am_sw 0 7 [129, 56, 61, 66, 71, 76, 107, 119, 124] x1, [(0, am_pv 0), (1, am_iv x1), (2, am_pv 18)], [], am_SH, (J, K, am_RF false))) from rfl) (am_g1 g622 rfl) (p := 66) (by rw [c625]; rfl) ?_
        obtain rfl := Option.some.inj h
        exact am_r_ret (show am_stepn X T_UpRiver_now 3 true (66, [(0, am_pv 0), (1, am_iv x1), (2, am_pv 18)], [], am_SH, (J, K, am_RF false)) = some (true, .inr (.inr (some (am_iv (J 18 1)), am_SH, (J, K, am_RF false)))) from rfl) rfl
      · rw [if_neg c625] at h
        by_cases c626 : x1 = 3
        · rw [if_pos c626] at h
          refine am_r_sw (show am_stepn X T_UpRiver_now 6 true (0, [(0, am_pv 0), (1, am_iv x1)], [], am_SH, (J, K, am_RF false)) = some ((decide (am_i32 x1) && true), .inl (am_sw 0 7 [129, 56, 61, 66, 71, 76, 107, 119, 124] x1, [(0, am_pv 0), (1, am_iv x1), (2, am_pv 18)], [], am_SH, (J, K, am_RF false))) from rfl) (am_g1 g622 rfl) (p := 71) (by rw [c626]; rfl) ?_
          obtain rfl := Option.some.inj h
          exact am_r_ret (show am_stepn X T_UpRiver_now 3 true (71, [(0, am_pv 0), (1, am_iv x1), (2, am_pv 18)], [], am_SH, (J, K, am_RF false)) = some (true, .inr (.inr (some (am_iv (J 18 2)), am_SH, (J, K, am_RF false)))) from rfl) rfl
        · rw [if_neg c626] at h
          by_cases c627 : x1 = 4
          · rw [if_pos c627] at h
            refine am_r_sw (show am_stepn X T_UpRiver_now 6 true (0, [(0, am_pv 0), (1, am_iv x1)], [], am_SH, (J, K, am_RF false)) = some ((decide (am_i32 x1) && true), .inl (am_sw 0 7 [129, 56, 61, 66, 71, 76, 107, 119, 124] x1, [(0, am_pv 0), (1, am_iv x1), (2, am_pv 18)], [], am_SH, (J, K, am_RF false))) from rfl) (am_g1 g622 rfl) (p := 76) (by rw [c627]; rfl) ?_
            obtain ⟨q628, e629, h⟩ := am_bind_some h
            refine am_r_call (show am_stepn X T_UpRiver_now 4 true (76, [(0, am_pv 0), (1, am_iv x1), (2, am_pv 18)], [], am_SH, (J, K, am_RF false)) = some (true, .inr (.inl (71, [am_pv 18, am_pv (am_rv false)], 2, 0, 0, 84, [(0, am_pv 0), (2, am_pv 18)], [], am_SH, (J, K, am_RF false)))) from rfl) rfl tb_Boat_isUp (s_Boat_isUp (by decide) e629) ?_
            obtain ⟨g630, h⟩ := am_if_some h
            by_cases c631 : q628 = 0
            · rw [if_pos c631] at h
              refine am_r_f (show am_stepn X T_UpRiver_now 1 true (84, [(0, am_pv 0), (2, am_pv 18)], [am_iv q628], am_SH, (J, K, am_RF false)) = some ((decide (am_i32 q628) && true), .inl (bif am_cb .ne q628 0 then 98 else 87, [(0, am_pv 0), (2, am_pv 18)], [], am_SH, (J, K, am_RF false))) from rfl) (am_g1 g630 rfl) (am_nd_t c631) ?_
              obtain ⟨q632, e633, h⟩ := am_bind_some h
              refine am_r_call (show am_stepn X T_UpRiver_now 4 true (87, [(0, am_pv 0), (2, am_pv 18)], [], am_SH, (J, K, am_RF false)) = some (true, .inr (.inl (74, [am_pv 18, am_pv (am_rv false)], 2, 0, 0, 95, [(0, am_pv 0), (2, am_pv 18)], [], am_SH, (J, K, am_RF false)))) from rfl) rfl tb_Boat_isAfloat (s_Boat_isAfloat (by decide) e633) ?_
              obtain ⟨g634, h⟩ := am_if_some h
              by_cases c635 : q632 = 0
              · rw [if_pos c635] at h
                refine am_r_t (show am_stepn X T_UpRiver_now 1 true (95, [(0, am_pv 0), (2, am_pv 18)], [am_iv q632], am_SH, (J, K, am_RF false)) = some ((decide (am_i32 q632) && true), .inl (bif am_cb .eq q632 0 then 102 else 98, [(0, am_pv 0), (2, am_pv 18)], [], am_SH, (J, K, am_RF false))) from rfl) (am_g1 g634 rfl) (decide_eq_true c635) ?_
                refine am_r_go (show am_stepn X T_UpRiver_now 1 true (102, [(0, am_pv 0), (2, am_pv 18)], [], am_SH, (J, K, am_RF false)) = some (true, .inl (103, [], [am_iv 0], am_SH, (J, K, am_RF false))) from rfl) rfl ?_
                exact s_UpRiver_now_L103_f  _ _ h
              · rw [if_neg c635] at h
                refine am_r_f (show am_stepn X T_UpRiver_now 1 true (95, [(0, am_pv 0), (2, am_pv 18)], [am_iv q632], am_SH, (J, K, am_RF false)) = some ((decide (am_i32 q632) && true), .inl (bif am_cb .eq q632 0 then 102 else 98, [(0, am_pv 0), (2, am_pv 18)], [], am_SH, (J, K, am_RF false))) from rfl) (am_g1 g634 rfl) (decide_eq_false c635) ?_
                refine am_r_go (show am_stepn X T_UpRiver_now 2 true (98, [(0, am_pv 0), (2, am_pv 18)], [], am_SH, (J, K, am_RF false)) = some (true, .inl (103, [], [am_iv 1], am_SH, (J, K, am_RF false))) from rfl) rfl ?_
                exact s_UpRiver_now_L103_f  _ _ h
            · rw [if_neg c631] at h
              refine am_r_t (show am_stepn X T_UpRiver_now 1 true (84, [(0, am_pv 0), (2, am_pv 18)], [am_iv q628], am_SH, (J, K, am_RF false)) = some ((decide (am_i32 q628) && true), .inl (bif am_cb .ne q628 0 then 98 else 87, [(0, am_pv 0), (2, am_pv 18)], [], am_SH, (J, K, am_RF false))) from rfl) (am_g1 g630 rfl) (am_nd_f c631) ?_
              refine am_r_go (show am_stepn X T_UpRiver_now 2 true (98, [(0, am_pv 0), (2, am_pv 18)], [], am_SH, (J, K, am_RF false)) = some (true, .inl (103, [], [am_iv 1], am_SH, (J, K, am_RF false))) from rfl) rfl ?_
              exact s_UpRiver_now_L103_f  _ _ h
          · rw [if_neg c627] at h
            by_cases c636 : x1 = 5
            · rw [if_pos c636] at h
              refine am_r_sw (show am_stepn X T_UpRiver_now 6 true (0, [(0, am_pv 0), (1, am_iv x1)], [], am_SH, (J, K, am_RF false)) = some ((decide (am_i32 x1) && true), .inl (am_sw 0 7 [129, 56, 61, 66, 71, 76, 107, 119, 124] x1, [(0, am_pv 0), (1, am_iv x1), (2, am_pv 18)], [], am_SH, (J, K, am_RF false))) from rfl) (am_g1 g622 rfl) (p := 107) (by rw [c636]; rfl) ?_
              obtain ⟨q637, e638, h⟩ := am_bind_some h
              refine am_r_call (show am_stepn X T_UpRiver_now 4 true (107, [(0, am_pv 0), (1, am_iv x1), (2, am_pv 18)], [], am_SH, (J, K, am_RF false)) = some (true, .inr (.inl (71, [am_pv 18, am_pv (am_rv false)], 2, 0, 0, 115, [(0, am_pv 0), (2, am_pv 18)], [], am_SH, (J, K, am_RF false)))) from rfl) rfl tb_Boat_isUp (s_Boat_isUp (by decide) e638) ?_
              obtain ⟨q639, e640, h⟩ := am_bind_some h
              refine am_r_call (show am_stepn X T_UpRiver_now 1 true (115, [(0, am_pv 0), (2, am_pv 18)], [am_iv q637], am_SH, (J, K, am_RF false)) = some (true, .inr (.inl (57, [am_iv q637], 1, 0, 0, 118, [(0, am_pv 0), (2, am_pv 18)], [], am_SH, (J, K, am_RF false)))) from rfl) rfl tb_UpRiver_asInt (s_UpRiver_asInt e640) ?_
              obtain rfl := Option.some.inj h
              exact am_r_ret (show am_stepn X T_UpRiver_now 1 true (118, [(0, am_pv 0), (2, am_pv 18)], [am_iv q639], am_SH, (J, K, am_RF false)) = some (true, .inr (.inr (some (am_iv q639), am_SH, (J, K, am_RF false)))) from rfl) rfl
            · rw [if_neg c636] at h
              by_cases c641 : x1 = 6
              · rw [if_pos c641] at h
                refine am_r_sw (show am_stepn X T_UpRiver_now 6 true (0, [(0, am_pv 0), (1, am_iv x1)], [], am_SH, (J, K, am_RF false)) = some ((decide (am_i32 x1) && true), .inl (am_sw 0 7 [129, 56, 61, 66, 71, 76, 107, 119, 124] x1, [(0, am_pv 0), (1, am_iv x1), (2, am_pv 18)], [], am_SH, (J, K, am_RF false))) from rfl) (am_g1 g622 rfl) (p := 119) (by rw [c641]; rfl) ?_
                obtain rfl := Option.some.inj h
                exact am_r_ret (show am_stepn X T_UpRiver_now 3 true (119, [(0, am_pv 0), (1, am_iv x1), (2, am_pv 18)], [], am_SH, (J, K, am_RF false)) = some (true, .inr (.inr (some (am_iv (J 18 4)), am_SH, (J, K, am_RF false)))) from rfl) rfl
              · rw [if_neg c641] at h
                by_cases c642 : x1 = 7
                · rw [if_pos c642] at h
                  refine am_r_sw (show am_stepn X T_UpRiver_now 6 true (0, [(0, am_pv 0), (1, am_iv x1)], [], am_SH, (J, K, am_RF false)) = some ((decide (am_i32 x1) && true), .inl (am_sw 0 7 [129, 56, 61, 66, 71, 76, 107, 119, 124] x1, [(0, am_pv 0), (1, am_iv x1), (2, am_pv 18)], [], am_SH, (J, K, am_RF false))) from rfl) (am_g1 g622 rfl) (p := 124) (by rw [c642]; rfl) ?_
                  obtain rfl := Option.some.inj h
                  exact am_r_ret (show am_stepn X T_UpRiver_now 3 true (124, [(0, am_pv 0), (1, am_iv x1), (2, am_pv 18)], [], am_SH, (J, K, am_RF false)) = some (true, .inr (.inr (some (am_iv (J 18 5)), am_SH, (J, K, am_RF false)))) from rfl) rfl
                · rw [if_neg c642] at h
                  refine am_r_sw (show am_stepn X T_UpRiver_now 6 true (0, [(0, am_pv 0), (1, am_iv x1)], [], am_SH, (J, K, am_RF false)) = some ((decide (am_i32 x1) && true), .inl (am_sw 0 7 [129, 56, 61, 66, 71, 76, 107, 119, 124] x1, [(0, am_pv 0), (1, am_iv x1), (2, am_pv 18)], [], am_SH, (J, K, am_RF false))) from rfl) (am_g1 g622 rfl) (p := 129) (am_sw_out (by omega)) ?_
                  obtain rfl := Option.some.inj h
                  exact am_r_ret (show am_stepn X T_UpRiver_now 2 true (129, [(0, am_pv 0), (1, am_iv x1), (2, am_pv 18)], [], am_SH, (J, K, am_RF false)) = some (true, .inr (.inr (some (am_iv (-1)), am_SH, (J, K, am_RF false)))) from rfl) rfl
theorem s_UpRiver_now_L103_t {X : am_X} {J : am_J} {K : am_K}  : ∀ (s0 : Int) (r : Int), f_UpRiver_now_L103 true J   s0 = some r → am_runs X T_UpRiver_now (103, [], [am_iv s0], am_SH, (J, K, am_RF true)) (some (am_iv r), am_SH, (J, K, am_RF true)) := by
  intro s0 r h
  unfold f_UpRiver_now_L103 at h
  obtain ⟨q620, e621, h⟩ := am_bind_some h
  refine am_r_call (show am_stepn X T_UpRiver_now 1 true (103, [], [am_iv s0], am_SH, (J, K, am_RF true)) = some (true, .inr (.inl (57, [am_iv s0], 1, 0, 0, 106, [], [], am_SH, (J, K, am_RF true)))) from rfl) rfl tb_UpRiver_asInt (s_UpRiver_asInt e621) ?_
  obtain rfl := Option.some.inj h
  exact am_r_ret (show am_stepn X T_UpRiver_now 1 true (106, [], [am_iv q620], am_SH, (J, K, am_RF true)) = some (true, .inr (.inr (some (am_iv q620), am_SH, (J, K, am_RF true)))) from rfl) rfl
theorem s_UpRiver_now_t {X : am_X} {J : am_J} {K : am_K} {x1 : Int} {r : Int} (h : f_UpRiver_now true J x1 = some r) : am_runs X T_UpRiver_now (0, [(0, am_pv 0), (1, am_iv x1)], [], am_SH, (J, K, am_RF true)) (some (am_iv r), am_SH, (J, K, am_RF true)) := by
  unfold f_UpRiver_now at h
  obtain ⟨g622, h⟩ := am_if_some h
  by_cases c623 : x1 = 0
  · rw [if_pos c623] at h
    refine am_r_sw (show am_stepn X T_UpRiver_now 6 true (0, [(0, am_pv 0), (1, am_iv x1)], [], am_SH, (J, K, am_RF true)) = some ((decide (am_i32 x1) && true), .inl (am_sw 0 7 [129, 56, 61, 66, 71, 76, 107, 119, 124] x1, [(0, am_pv 0), (1, am_iv x1), (2, am_pv 18)], [], am_SH, (J, K, am_RF true))) from rfl) (am_g1 g622 rfl) (p := 56) (by rw [c623]; rfl) ?_
    obtain rfl := Option.some.inj h
    exact am_r_ret (show am_stepn X T_UpRiver_now 3 true (56, [(0, am_pv 0), (1, am_iv x1), (2, am_pv 18)], [], am_SH, (J, K, am_RF true)) = some (true, .inr (.inr (some (am_iv (J 18 3)), am_SH, (J, K, am_RF true)))) from rfl) rfl
  · rw [if_neg c623] at h
    by_cases c624 : x1 = 1
    · rw [if_pos c624] at h
      refine am_r_sw (show am_stepn X T_UpRiver_now 6 true (0, [(0, am_pv 0), (1, am_iv x1)], [], am_SH, (J, K, am_RF true)) = some ((decide (am_i32 x1) && true), .inl (am_sw 0 7 [129, 56, 61, 66, 71, 76, 107, 119, 124] x1, [(0, am_pv 0), (1, am_iv x1), (2, am_pv 18)], [], am_SH, (J, K, am_RF true))) from rfl) (am_g1 g622 rfl) (p := 61) (by rw [c624]; rfl) ?_
      obtain rfl := Option.some.inj h
      exact am_r_ret (show am_stepn X T_UpRiver_now 3 true (61, [(0, am_pv 0), (1, am_iv x1), (2, am_pv 18)], [], am_SH, (J, K, am_RF true)) = some (true, .inr (.inr (some (am_iv (J 18 0)), am_SH, (J, K, am_RF true)))) from rfl) rfl
    · rw [if_neg c624] at h
      by_cases c625 : x1 = 2
      · rw [if_pos c625] at h
        refine am_r_sw (show am_stepn X T_UpRiver_now 6 true (0, [(0, am_pv 0), (1, am_iv x1)], [], am_SH, (J, K, am_RF true)) = some ((decide (am_i32 x1) && true), .inl (am_sw 0 7 [129, 56, 61, 66, 71, 76, 107, 119, 124] x1, [(0, am_pv 0), (1, am_iv x1), (2, am_pv 18)], [], am_SH, (J, K, am_RF true))) from rfl) (am_g1 g622 rfl) (p := 66) (by rw [c625]; rfl) ?_
        obtain rfl := Option.some.inj h
        exact am_r_ret (show am_stepn X T_UpRiver_now 3 true (66, [(0, am_pv 0), (1, am_iv x1), (2, am_pv 18)], [], am_SH, (J, K, am_RF true)) = some (true, .inr (.inr (some (am_iv (J 18 1)), am_SH, (J, K, am_RF true)))) from rfl) rfl
      · rw [if_neg c625] at h
        by_cases c626 : x1 = 3
        · rw [if_pos c626] at h
          refine am_r_sw (show am_stepn X T_UpRiver_now 6 true (0, [(0, am_pv 0), (1, am_iv x1)], [], am_SH, (J, K, am_RF true)) = some ((decide (am_i32 x1) && true), .inl (am_sw 0 7 [129, 56, 61, 66, 71, 76, 107, 119, 124] x1, [(0, am_pv 0), (1, am_iv x1), (2, am_pv 18)], [], am_SH, (J, K, am_RF true))) from rfl) (am_g1 g622 rfl) (p := 71) (by rw [c626]; rfl) ?_
          obtain rfl := Option.some.inj h
          exact am_r_ret (show am_stepn X T_UpRiver_now 3 true (71, [(0, am_pv 0), (1, am_iv x1), (2, am_pv 18)], [], am_SH, (J, K, am_RF true)) = some (true, .inr (.inr (some (am_iv (J 18 2)), am_SH, (J, K, am_RF true)))) from rfl) rfl
        · rw [if_neg c626] at h
          by_cases c627 : x1 = 4
          · rw [if_pos c627] at h
            refine am_r_sw (show am_stepn X T_UpRiver_now 6 true (0, [(0, am_pv 0), (1, am_iv x1)], [], am_SH, (J, K, am_RF true)) = some ((decide (am_i32 x1) && true), .inl (am_sw 0 7 [129, 56, 61, 66, 71, 76, 107, 119, 124] x1, [(0, am_pv 0), (1, am_iv x1), (2, am_pv 18)], [], am_SH, (J, K, am_RF true))) from rfl) (am_g1 g622 rfl) (p := 76) (by rw [c627]; rfl) ?_
            obtain ⟨q628, e629, h⟩ := am_bind_some h
            refine am_r_call (show am_stepn X T_UpRiver_now 4 true (76, [(0, am_pv 0), (1, am_iv x1), (2, am_pv 18)], [], am_SH, (J, K, am_RF true)) = some (true, .inr (.inl (71, [am_pv 18, am_pv (am_rv true)], 2, 0, 0, 84, [(0, am_pv 0), (2, am_pv 18)], [], am_SH, (J, K, am_RF true)))) from rfl) rfl tb_Boat_isUp (s_Boat_isUp (by decide) e629) ?_
            obtain ⟨g630, h⟩ := am_if_some h
            by_cases c631 : q628 = 0
            · rw [if_pos c631] at h
              refine am_r_f (show am_stepn X T_UpRiver_now 1 true (84, [(0, am_pv 0), (2, am_pv 18)], [am_iv q628], am_SH, (J, K, am_RF true)) = some ((decide (am_i32 q628) && true), .inl (bif am_cb .ne q628 0 then 98 else 87, [(0, am_pv 0), (2, am_pv 18)], [], am_SH, (J, K, am_RF true))) from rfl) (am_g1 g630 rfl) (am_nd_t c631) ?_
              obtain ⟨q632, e633, h⟩ := am_bind_some h
              refine am_r_call (show am_stepn X T_UpRiver_now 4 true (87, [(0, am_pv 0), (2, am_pv 18)], [], am_SH, (J, K, am_RF true)) = some (true, .inr (.inl (74, [am_pv 18, am_pv (am_rv true)], 2, 0, 0, 95, [(0, am_pv 0), (2, am_pv 18)], [], am_SH, (J, K, am_RF true)))) from rfl) rfl tb_Boat_isAfloat (s_Boat_isAfloat (by decide) e633) ?_
              obtain ⟨g634, h⟩ := am_if_some h
              by_cases c635 : q632 = 0
              · rw [if_pos c635] at h
                refine am_r_t (show am_stepn X T_UpRiver_now 1 true (95, [(0, am_pv 0), (2, am_pv 18)], [am_iv q632], am_SH, (J, K, am_RF true)) = some ((decide (am_i32 q632) && true), .inl (bif am_cb .eq q632 0 then 102 else 98, [(0, am_pv 0), (2, am_pv 18)], [], am_SH, (J, K, am_RF true))) from rfl) (am_g1 g634 rfl) (decide_eq_true c635) ?_
                refine am_r_go (show am_stepn X T_UpRiver_now 1 true (102, [(0, am_pv 0), (2, am_pv 18)], [], am_SH, (J, K, am_RF true)) = some (true, .inl (103, [], [am_iv 0], am_SH, (J, K, am_RF true))) from rfl) rfl ?_
                exact s_UpRiver_now_L103_t  _ _ h
              · rw [if_neg c635] at h
                refine am_r_f (show am_stepn X T_UpRiver_now 1 true (95, [(0, am_pv 0), (2, am_pv 18)], [am_iv q632], am_SH, (J, K, am_RF true)) = some ((decide (am_i32 q632) && true), .inl (bif am_cb .eq q632 0 then 102 else 98, [(0, am_pv 0), (2, am_pv 18)], [], am_SH, (J, K, am_RF true))) from rfl) (am_g1 g634 rfl) (decide_eq_false c635) ?_
                refine am_r_go (show am_stepn X T_UpRiver_now 2 true (98, [(0, am_pv 0), (2, am_pv 18)], [], am_SH, (J, K, am_RF true)) = some (true, .inl (103, [], [am_iv 1], am_SH, (J, K, am_RF true))) from rfl) rfl ?_
                exact s_UpRiver_now_L103_t  _ _ h
            · rw [if_neg c631] at h
              refine am_r_t (show am_stepn X T_UpRiver_now 1 true (84, [(0, am_pv 0), (2, am_pv 18)], [am_iv q628], am_SH, (J, K, am_RF true)) = some ((decide (am_i32 q628) && true), .inl (bif am_cb .ne q628 0 then 98 else 87, [(0, am_pv 0), (2, am_pv 18)], [], am_SH, (J, K, am_RF true))) from rfl) (am_g1 g630 rfl) (am_nd_f c631) ?_
              refine am_r_go (show am_stepn X T_UpRiver_now 2 true (98, [(0, am_pv 0), (2, am_pv 18)], [], am_SH, (J, K, am_RF true)) = some (true, .inl (103, [], [am_iv 1], am_SH, (J, K, am_RF true))) from rfl) rfl ?_
              exact s_UpRiver_now_L103_t  _ _ h
          · rw [if_neg c627] at h
            by_cases c636 : x1 = 5
            · rw [if_pos c636] at h
              refine am_r_sw (show am_stepn X T_UpRiver_now 6 true (0, [(0, am_pv 0), (1, am_iv x1)], [], am_SH, (J, K, am_RF true)) = some ((decide (am_i32 x1) && true), .inl (am_sw 0 7 [129, 56, 61, 66, 71, 76, 107, 119, 124] x1, [(0, am_pv 0), (1, am_iv x1), (2, am_pv 18)], [], am_SH, (J, K, am_RF true))) from rfl) (am_g1 g622 rfl) (p := 107) (by rw [c636]; rfl) ?_
              obtain ⟨q637, e638, h⟩ := am_bind_some h
              refine am_r_call (show am_stepn X T_UpRiver_now 4 true (107, [(0, am_pv 0), (1, am_iv x1), (2, am_pv 18)], [], am_SH, (J, K, am_RF true)) = some (true, .inr (.inl (71, [am_pv 18, am_pv (am_rv true)], 2, 0, 0, 115, [(0, am_pv 0), (2, am_pv 18)], [], am_SH, (J, K, am_RF true)))) from rfl) rfl tb_Boat_isUp (s_Boat_isUp (by decide) e638) ?_
              obtain ⟨q639, e640, h⟩ := am_bind_some h
              refine am_r_call (show am_stepn X T_UpRiver_now 1 true (115, [(0, am_pv 0), (2, am_pv 18)], [am_iv q637], am_SH, (J, K, am_RF true)) = some (true, .inr (.inl (57, [am_iv q637], 1, 0, 0, 118, [(0, am_pv 0), (2, am_pv 18)], [], am_SH, (J, K, am_RF true)))) from rfl) rfl tb_UpRiver_asInt (s_UpRiver_asInt e640) ?_
              obtain rfl := Option.some.inj h
              exact am_r_ret (show am_stepn X T_UpRiver_now 1 true (118, [(0, am_pv 0), (2, am_pv 18)], [am_iv q639], am_SH, (J, K, am_RF true)) = some (true, .inr (.inr (some (am_iv q639), am_SH, (J, K, am_RF true)))) from rfl) rfl
            · rw [if_neg c636] at h
              by_cases c641 : x1 = 6
              · rw [if_pos c641] at h
                refine am_r_sw (show am_stepn X T_UpRiver_now 6 true (0, [(0, am_pv 0), (1, am_iv x1)], [], am_SH, (J, K, am_RF true)) = some ((decide (am_i32 x1) && true), .inl (am_sw 0 7 [129, 56, 61, 66, 71, 76, 107, 119, 124] x1, [(0, am_pv 0), (1, am_iv x1), (2, am_pv 18)], [], am_SH, (J, K, am_RF true))) from rfl) (am_g1 g622 rfl) (p := 119) (by rw [c641]; rfl) ?_
                obtain rfl := Option.some.inj h
                exact am_r_ret (show am_stepn X T_UpRiver_now 3 true (119, [(0, am_pv 0), (1, am_iv x1), (2, am_pv 18)], [], am_SH, (J, K, am_RF true)) = some (true, .inr (.inr (some (am_iv (J 18 4)), am_SH, (J, K, am_RF true)))) from rfl) rfl
              · rw [if_neg c641] at h
                by_cases c642 : x1 = 7
                · rw [if_pos c642] at h
                  refine am_r_sw (show am_stepn X T_UpRiver_now 6 true (0, [(0, am_pv 0), (1, am_iv x1)], [], am_SH, (J, K, am_RF true)) = some ((decide (am_i32 x1) && true), .inl (am_sw 0 7 [129, 56, 61, 66, 71, 76, 107, 119, 124] x1, [(0, am_pv 0), (1, am_iv x1), (2, am_pv 18)], [], am_SH, (J, K, am_RF true))) from rfl) (am_g1 g622 rfl) (p := 124) (by rw [c642]; rfl) ?_
                  obtain rfl := Option.some.inj h
                  exact am_r_ret (show am_stepn X T_UpRiver_now 3 true (124, [(0, am_pv 0), (1, am_iv x1), (2, am_pv 18)], [], am_SH, (J, K, am_RF true)) = some (true, .inr (.inr (some (am_iv (J 18 5)), am_SH, (J, K, am_RF true)))) from rfl) rfl
                · rw [if_neg c642] at h
                  refine am_r_sw (show am_stepn X T_UpRiver_now 6 true (0, [(0, am_pv 0), (1, am_iv x1)], [], am_SH, (J, K, am_RF true)) = some ((decide (am_i32 x1) && true), .inl (am_sw 0 7 [129, 56, 61, 66, 71, 76, 107, 119, 124] x1, [(0, am_pv 0), (1, am_iv x1), (2, am_pv 18)], [], am_SH, (J, K, am_RF true))) from rfl) (am_g1 g622 rfl) (p := 129) (am_sw_out (by omega)) ?_
                  obtain rfl := Option.some.inj h
                  exact am_r_ret (show am_stepn X T_UpRiver_now 2 true (129, [(0, am_pv 0), (1, am_iv x1), (2, am_pv 18)], [], am_SH, (J, K, am_RF true)) = some (true, .inr (.inr (some (am_iv (-1)), am_SH, (J, K, am_RF true)))) from rfl) rfl
theorem s_UpRiver_now {X : am_X} {b : Bool} {J : am_J} {K : am_K} {x1 : Int} {r : Int} (h : f_UpRiver_now b J x1 = some r) : am_runs X T_UpRiver_now (0, [(0, am_pv 0), (1, am_iv x1)], [], am_SH, (J, K, am_RF b)) (some (am_iv r), am_SH, (J, K, am_RF b)) := by
  cases b
  · exact s_UpRiver_now_f h
  · exact s_UpRiver_now_t h
theorem s_UpRiver_set_f {X : am_X} {K : am_K} {x1 : Int} {x2 : Int} {x3 : Int} {x4 : Int} {J : am_J} {r : Int × am_J} (h : f_UpRiver_set false x1 x2 x3 x4 J = some r) : am_runs X T_UpRiver_set (0, [(0, am_pv 0), (1, am_iv x1), (2, am_iv x2), (3, am_iv x3), (4, am_iv x4)], [], am_SH, (J, K, am_RF false)) (some (am_iv r.1), am_SH, (r.2, K, am_RF false)) := by
  unfold f_UpRiver_set at h
  obtain ⟨g643, h⟩ := am_if_some h
  by_cases c644 : x1 < 0
  · rw [if_pos c644] at h
    refine am_r_t (show am_stepn X T_UpRiver_set 2 true (0, [(0, am_pv 0), (1, am_iv x1), (2, am_iv x2), (3, am_iv x3), (4, am_iv x4)], [], am_SH, (J, K, am_RF false)) = some ((decide (am_i32 x1) && true), .inl (bif am_cb .lt x1 0 then 30 else 4, [(0, am_pv 0), (1, am_iv x1), (2, am_iv x2), (3, am_iv x3), (4, am_iv x4)], [], am_SH, (J, K, am_RF false))) from rfl) (am_g1 g643 rfl) (decide_eq_true c644) ?_
    obtain rfl := Option.some.inj h
    exact am_r_ret (show am_stepn X T_UpRiver_set 2 true (30, [(0, am_pv 0), (1, am_iv x1), (2, am_iv x2), (3, am_iv x3), (4, am_iv x4)], [], am_SH, (J, K, am_RF false)) = some (true, .inr (.inr (some (am_iv (-1)), am_SH, (J, K, am_RF false)))) from rfl) rfl
  · rw [if_neg c644] at h
    refine am_r_f (show am_stepn X T_UpRiver_set 2 true (0, [(0, am_pv 0), (1, am_iv x1), (2, am_iv x2), (3, am_iv x3), (4, am_iv x4)], [], am_SH, (J, K, am_RF false)) = some ((decide (am_i32 x1) && true), .inl (bif am_cb .lt x1 0 then 30 else 4, [(0, am_pv 0), (1, am_iv x1), (2, am_iv x2), (3, am_iv x3), (4, am_iv x4)], [], am_SH, (J, K, am_RF false))) from rfl) (am_g1 g643 rfl) (decide_eq_false c644) ?_
    obtain ⟨q645, e646, h⟩ := am_bind_some h
    refine am_r_call (show am_stepn X T_UpRiver_set 4 true (4, [(0, am_pv 0), (1, am_iv x1), (2, am_iv x2), (3, am_iv x3), (4, am_iv x4)], [], am_SH, (J, K, am_RF false)) = some (true, .inr (.inl (72, [am_pv (am_rv false)], 1, 0, 0, 12, [(0, am_pv 0), (1, am_iv x1), (2, am_iv x2), (3, am_iv x3), (4, am_iv x4)], [am_iv x1], am_SH, (J, K, am_RF false)))) from rfl) rfl tb_River_top (s_River_top (by decide) e646) ?_
    obtain ⟨g647, h⟩ := am_if_some h
    by_cases c648 : x1 < q645
    · rw [if_pos c648] at h
      refine am_r_f (show am_stepn X T_UpRiver_set 1 true (12, [(0, am_pv 0), (1, am_iv x1), (2, am_iv x2), (3, am_iv x3), (4, am_iv x4)], [am_iv q645, am_iv x1], am_SH, (J, K, am_RF false)) = some (((decide (am_i32 q645) && decide (am_i32 x1)) && true), .inl (bif am_cb .ge x1 q645 then 30 else 15, [(0, am_pv 0), (1, am_iv x1), (2, am_iv x2), (3, am_iv x3), (4, am_iv x4)], [], am_SH, (J, K, am_RF false))) from rfl) (am_g2 g647 g643 rfl) (am_nd_t c648) ?_
      obtain ⟨q649, e650, h⟩ := am_bind_some h
      refine am_r_call (show am_stepn X T_UpRiver_set 7 true (15, [(0, am_pv 0), (1, am_iv x1), (2, am_iv x2), (3, am_iv x3), (4, am_iv x4)], [], am_SH, (J, K, am_RF false)) = some (((decide (0 < (8 : Int) ∧ am_i32 8) && decide (am_i32 x1)) && true), .inr (.inl (7, [am_pv (am_rv false), am_iv (am_dv x1 8), am_iv x2], 3, 0, 0, 27, [(0, am_pv 0), (1, am_iv x1), (2, am_iv x2), (3, am_iv x3), (4, am_iv x4)], [], am_SH, (J, K, am_RF false)))) from rfl) (am_g2 (by decide) g643 rfl) tb_River_isOpen (s_River_isOpen (by decide) e650) ?_
      obtain ⟨g651, h⟩ := am_if_some h
      by_cases c652 : q649 = 0
      · rw [if_pos c652] at h
        refine am_r_f (show am_stepn X T_UpRiver_set 1 true (27, [(0, am_pv 0), (1, am_iv x1), (2, am_iv x2), (3, am_iv x3), (4, am_iv x4)], [am_iv q649], am_SH, (J, K, am_RF false)) = some ((decide (am_i32 q649) && true), .inl (bif am_cb .ne q649 0 then 32 else 30, [(0, am_pv 0), (1, am_iv x1), (2, am_iv x2), (3, am_iv x3), (4, am_iv x4)], [], am_SH, (J, K, am_RF false))) from rfl) (am_g1 g651 rfl) (am_nd_t c652) ?_
        obtain rfl := Option.some.inj h
        exact am_r_ret (show am_stepn X T_UpRiver_set 2 true (30, [(0, am_pv 0), (1, am_iv x1), (2, am_iv x2), (3, am_iv x3), (4, am_iv x4)], [], am_SH, (J, K, am_RF false)) = some (true, .inr (.inr (some (am_iv (-1)), am_SH, (J, K, am_RF false)))) from rfl) rfl
      · rw [if_neg c652] at h
        refine am_r_t (show am_stepn X T_UpRiver_set 1 true (27, [(0, am_pv 0), (1, am_iv x1), (2, am_iv x2), (3, am_iv x3), (4, am_iv x4)], [am_iv q649], am_SH, (J, K, am_RF false)) = some ((decide (am_i32 q649) && true), .inl (bif am_cb .ne q649 0 then 32 else 30, [(0, am_pv 0), (1, am_iv x1), (2, am_iv x2), (3, am_iv x3), (4, am_iv x4)], [], am_SH, (J, K, am_RF false))) from rfl) (am_g1 g651 rfl) (am_nd_f c652) ?_
        obtain ⟨q653, e654, h⟩ := am_bind_some h
        refine am_r_call (show am_stepn X T_UpRiver_set 2 true (32, [(0, am_pv 0), (1, am_iv x1), (2, am_iv x2), (3, am_iv x3), (4, am_iv x4)], [], am_SH, (J, K, am_RF false)) = some (true, .inr (.inl (67, [am_iv x3], 1, 0, 0, 36, [(0, am_pv 0), (1, am_iv x1), (2, am_iv x2), (3, am_iv x3), (4, am_iv x4)], [], am_SH, (J, K, am_RF false)))) from rfl) rfl tb_UpRiver_isYesOrNo (s_UpRiver_isYesOrNo e654) ?_
        obtain ⟨g655, h⟩ := am_if_some h
        by_cases c656 : q653 = 0
        · rw [if_pos c656] at h
          refine am_r_t (show am_stepn X T_UpRiver_set 1 true (36, [(0, am_pv 0), (1, am_iv x1), (2, am_iv x2), (3, am_iv x3), (4, am_iv x4)], [am_iv q653], am_SH, (J, K, am_RF false)) = some ((decide (am_i32 q653) && true), .inl (bif am_cb .eq q653 0 then 47 else 39, [(0, am_pv 0), (1, am_iv x1), (2, am_iv x2), (3, am_iv x3), (4, am_iv x4)], [], am_SH, (J, K, am_RF false))) from rfl) (am_g1 g655 rfl) (decide_eq_true c656) ?_
          obtain rfl := Option.some.inj h
          exact am_r_ret (show am_stepn X T_UpRiver_set 2 true (47, [(0, am_pv 0), (1, am_iv x1), (2, am_iv x2), (3, am_iv x3), (4, am_iv x4)], [], am_SH, (J, K, am_RF false)) = some (true, .inr (.inr (some (am_iv (-1)), am_SH, (J, K, am_RF false)))) from rfl) rfl
        · rw [if_neg c656] at h
          refine am_r_f (show am_stepn X T_UpRiver_set 1 true (36, [(0, am_pv 0), (1, am_iv x1), (2, am_iv x2), (3, am_iv x3), (4, am_iv x4)], [am_iv q653], am_SH, (J, K, am_RF false)) = some ((decide (am_i32 q653) && true), .inl (bif am_cb .eq q653 0 then 47 else 39, [(0, am_pv 0), (1, am_iv x1), (2, am_iv x2), (3, am_iv x3), (4, am_iv x4)], [], am_SH, (J, K, am_RF false))) from rfl) (am_g1 g655 rfl) (decide_eq_false c656) ?_
          obtain ⟨q657, e658, h⟩ := am_bind_some h
          refine am_r_call (show am_stepn X T_UpRiver_set 2 true (39, [(0, am_pv 0), (1, am_iv x1), (2, am_iv x2), (3, am_iv x3), (4, am_iv x4)], [], am_SH, (J, K, am_RF false)) = some (true, .inr (.inl (60, [am_iv x4], 1, 0, 0, 44, [(0, am_pv 0), (1, am_iv x1), (2, am_iv x2), (3, am_iv x3), (4, am_iv x4)], [], am_SH, (J, K, am_RF false)))) from rfl) rfl tb_UpRiver_isMinute (s_UpRiver_isMinute e658) ?_
          obtain ⟨g659, h⟩ := am_if_some h
          by_cases c660 : q657 = 0
          · rw [if_pos c660] at h
            refine am_r_f (show am_stepn X T_UpRiver_set 1 true (44, [(0, am_pv 0), (1, am_iv x1), (2, am_iv x2), (3, am_iv x3), (4, am_iv x4)], [am_iv q657], am_SH, (J, K, am_RF false)) = some ((decide (am_i32 q657) && true), .inl (bif am_cb .ne q657 0 then 49 else 47, [(0, am_pv 0), (1, am_iv x1), (2, am_iv x2), (3, am_iv x3), (4, am_iv x4)], [], am_SH, (J, K, am_RF false))) from rfl) (am_g1 g659 rfl) (am_nd_t c660) ?_
            obtain rfl := Option.some.inj h
            exact am_r_ret (show am_stepn X T_UpRiver_set 2 true (47, [(0, am_pv 0), (1, am_iv x1), (2, am_iv x2), (3, am_iv x3), (4, am_iv x4)], [], am_SH, (J, K, am_RF false)) = some (true, .inr (.inr (some (am_iv (-1)), am_SH, (J, K, am_RF false)))) from rfl) rfl
          · rw [if_neg c660] at h
            refine am_r_t (show am_stepn X T_UpRiver_set 1 true (44, [(0, am_pv 0), (1, am_iv x1), (2, am_iv x2), (3, am_iv x3), (4, am_iv x4)], [am_iv q657], am_SH, (J, K, am_RF false)) = some ((decide (am_i32 q657) && true), .inl (bif am_cb .ne q657 0 then 49 else 47, [(0, am_pv 0), (1, am_iv x1), (2, am_iv x2), (3, am_iv x3), (4, am_iv x4)], [], am_SH, (J, K, am_RF false))) from rfl) (am_g1 g659 rfl) (am_nd_f c660) ?_
            obtain ⟨q661, e662, h⟩ := am_bind_some h
            refine am_r_call (show am_stepn X T_UpRiver_set 10 true (49, [(0, am_pv 0), (1, am_iv x1), (2, am_iv x2), (3, am_iv x3), (4, am_iv x4)], [], am_SH, (J, K, am_RF false)) = some (true, .inr (.inl (52, [am_pv 18, am_iv x1, am_iv x2, am_iv x3, am_iv x4], 5, 0, 0, 68, [(0, am_pv 0), (1, am_iv x1), (2, am_iv x2), (3, am_iv x3), (4, am_iv x4), (5, am_pv 18)], [], am_SH, (J, K, am_RF false)))) from rfl) rfl tb_Boat_lieAt (s_Boat_lieAt (by decide) e662) ?_
            obtain ⟨q663, e664, h⟩ := am_bind_some h
            refine am_r_call (show am_stepn X T_UpRiver_set 4 true (68, [(0, am_pv 0), (1, am_iv x1), (2, am_iv x2), (3, am_iv x3), (4, am_iv x4), (5, am_pv 18)], [], am_SH, (q661, K, am_RF false)) = some (true, .inr (.inl (74, [am_pv 18, am_pv (am_rv false)], 2, 0, 0, 77, [(0, am_pv 0), (1, am_iv x1), (2, am_iv x2), (3, am_iv x3), (4, am_iv x4), (5, am_pv 18)], [], am_SH, (q661, K, am_RF false)))) from rfl) rfl tb_Boat_isAfloat (s_Boat_isAfloat (by decide) e664) ?_
            obtain ⟨q665, e666, h⟩ := am_bind_some h
            refine am_r_call (show am_stepn X T_UpRiver_set 1 true (77, [(0, am_pv 0), (1, am_iv x1), (2, am_iv x2), (3, am_iv x3), (4, am_iv x4), (5, am_pv 18)], [am_iv q663], am_SH, (q661, K, am_RF false)) = some (true, .inr (.inl (57, [am_iv q663], 1, 0, 0, 80, [(0, am_pv 0), (1, am_iv x1), (2, am_iv x2), (3, am_iv x3), (4, am_iv x4), (5, am_pv 18)], [], am_SH, (q661, K, am_RF false)))) from rfl) rfl tb_UpRiver_asInt (s_UpRiver_asInt e666) ?_
            obtain rfl := Option.some.inj h
            exact am_r_ret (show am_stepn X T_UpRiver_set 1 true (80, [(0, am_pv 0), (1, am_iv x1), (2, am_iv x2), (3, am_iv x3), (4, am_iv x4), (5, am_pv 18)], [am_iv q665], am_SH, (q661, K, am_RF false)) = some (true, .inr (.inr (some (am_iv q665), am_SH, (q661, K, am_RF false)))) from rfl) rfl
    · rw [if_neg c648] at h
      refine am_r_t (show am_stepn X T_UpRiver_set 1 true (12, [(0, am_pv 0), (1, am_iv x1), (2, am_iv x2), (3, am_iv x3), (4, am_iv x4)], [am_iv q645, am_iv x1], am_SH, (J, K, am_RF false)) = some (((decide (am_i32 q645) && decide (am_i32 x1)) && true), .inl (bif am_cb .ge x1 q645 then 30 else 15, [(0, am_pv 0), (1, am_iv x1), (2, am_iv x2), (3, am_iv x3), (4, am_iv x4)], [], am_SH, (J, K, am_RF false))) from rfl) (am_g2 g647 g643 rfl) (am_nd_f c648) ?_
      obtain rfl := Option.some.inj h
      exact am_r_ret (show am_stepn X T_UpRiver_set 2 true (30, [(0, am_pv 0), (1, am_iv x1), (2, am_iv x2), (3, am_iv x3), (4, am_iv x4)], [], am_SH, (J, K, am_RF false)) = some (true, .inr (.inr (some (am_iv (-1)), am_SH, (J, K, am_RF false)))) from rfl) rfl
theorem s_UpRiver_set_t {X : am_X} {K : am_K} {x1 : Int} {x2 : Int} {x3 : Int} {x4 : Int} {J : am_J} {r : Int × am_J} (h : f_UpRiver_set true x1 x2 x3 x4 J = some r) : am_runs X T_UpRiver_set (0, [(0, am_pv 0), (1, am_iv x1), (2, am_iv x2), (3, am_iv x3), (4, am_iv x4)], [], am_SH, (J, K, am_RF true)) (some (am_iv r.1), am_SH, (r.2, K, am_RF true)) := by
  unfold f_UpRiver_set at h
  obtain ⟨g643, h⟩ := am_if_some h
  by_cases c644 : x1 < 0
  · rw [if_pos c644] at h
    refine am_r_t (show am_stepn X T_UpRiver_set 2 true (0, [(0, am_pv 0), (1, am_iv x1), (2, am_iv x2), (3, am_iv x3), (4, am_iv x4)], [], am_SH, (J, K, am_RF true)) = some ((decide (am_i32 x1) && true), .inl (bif am_cb .lt x1 0 then 30 else 4, [(0, am_pv 0), (1, am_iv x1), (2, am_iv x2), (3, am_iv x3), (4, am_iv x4)], [], am_SH, (J, K, am_RF true))) from rfl) (am_g1 g643 rfl) (decide_eq_true c644) ?_
    obtain rfl := Option.some.inj h
    exact am_r_ret (show am_stepn X T_UpRiver_set 2 true (30, [(0, am_pv 0), (1, am_iv x1), (2, am_iv x2), (3, am_iv x3), (4, am_iv x4)], [], am_SH, (J, K, am_RF true)) = some (true, .inr (.inr (some (am_iv (-1)), am_SH, (J, K, am_RF true)))) from rfl) rfl
  · rw [if_neg c644] at h
    refine am_r_f (show am_stepn X T_UpRiver_set 2 true (0, [(0, am_pv 0), (1, am_iv x1), (2, am_iv x2), (3, am_iv x3), (4, am_iv x4)], [], am_SH, (J, K, am_RF true)) = some ((decide (am_i32 x1) && true), .inl (bif am_cb .lt x1 0 then 30 else 4, [(0, am_pv 0), (1, am_iv x1), (2, am_iv x2), (3, am_iv x3), (4, am_iv x4)], [], am_SH, (J, K, am_RF true))) from rfl) (am_g1 g643 rfl) (decide_eq_false c644) ?_
    obtain ⟨q645, e646, h⟩ := am_bind_some h
    refine am_r_call (show am_stepn X T_UpRiver_set 4 true (4, [(0, am_pv 0), (1, am_iv x1), (2, am_iv x2), (3, am_iv x3), (4, am_iv x4)], [], am_SH, (J, K, am_RF true)) = some (true, .inr (.inl (72, [am_pv (am_rv true)], 1, 0, 0, 12, [(0, am_pv 0), (1, am_iv x1), (2, am_iv x2), (3, am_iv x3), (4, am_iv x4)], [am_iv x1], am_SH, (J, K, am_RF true)))) from rfl) rfl tb_River_top (s_River_top (by decide) e646) ?_
    obtain ⟨g647, h⟩ := am_if_some h
    by_cases c648 : x1 < q645
    · rw [if_pos c648] at h
      refine am_r_f (show am_stepn X T_UpRiver_set 1 true (12, [(0, am_pv 0), (1, am_iv x1), (2, am_iv x2), (3, am_iv x3), (4, am_iv x4)], [am_iv q645, am_iv x1], am_SH, (J, K, am_RF true)) = some (((decide (am_i32 q645) && decide (am_i32 x1)) && true), .inl (bif am_cb .ge x1 q645 then 30 else 15, [(0, am_pv 0), (1, am_iv x1), (2, am_iv x2), (3, am_iv x3), (4, am_iv x4)], [], am_SH, (J, K, am_RF true))) from rfl) (am_g2 g647 g643 rfl) (am_nd_t c648) ?_
      obtain ⟨q649, e650, h⟩ := am_bind_some h
      refine am_r_call (show am_stepn X T_UpRiver_set 7 true (15, [(0, am_pv 0), (1, am_iv x1), (2, am_iv x2), (3, am_iv x3), (4, am_iv x4)], [], am_SH, (J, K, am_RF true)) = some (((decide (0 < (8 : Int) ∧ am_i32 8) && decide (am_i32 x1)) && true), .inr (.inl (7, [am_pv (am_rv true), am_iv (am_dv x1 8), am_iv x2], 3, 0, 0, 27, [(0, am_pv 0), (1, am_iv x1), (2, am_iv x2), (3, am_iv x3), (4, am_iv x4)], [], am_SH, (J, K, am_RF true)))) from rfl) (am_g2 (by decide) g643 rfl) tb_River_isOpen (s_River_isOpen (by decide) e650) ?_
      obtain ⟨g651, h⟩ := am_if_some h
      by_cases c652 : q649 = 0
      · rw [if_pos c652] at h
        refine am_r_f (show am_stepn X T_UpRiver_set 1 true (27, [(0, am_pv 0), (1, am_iv x1), (2, am_iv x2), (3, am_iv x3), (4, am_iv x4)], [am_iv q649], am_SH, (J, K, am_RF true)) = some ((decide (am_i32 q649) && true), .inl (bif am_cb .ne q649 0 then 32 else 30, [(0, am_pv 0), (1, am_iv x1), (2, am_iv x2), (3, am_iv x3), (4, am_iv x4)], [], am_SH, (J, K, am_RF true))) from rfl) (am_g1 g651 rfl) (am_nd_t c652) ?_
        obtain rfl := Option.some.inj h
        exact am_r_ret (show am_stepn X T_UpRiver_set 2 true (30, [(0, am_pv 0), (1, am_iv x1), (2, am_iv x2), (3, am_iv x3), (4, am_iv x4)], [], am_SH, (J, K, am_RF true)) = some (true, .inr (.inr (some (am_iv (-1)), am_SH, (J, K, am_RF true)))) from rfl) rfl
      · rw [if_neg c652] at h
        refine am_r_t (show am_stepn X T_UpRiver_set 1 true (27, [(0, am_pv 0), (1, am_iv x1), (2, am_iv x2), (3, am_iv x3), (4, am_iv x4)], [am_iv q649], am_SH, (J, K, am_RF true)) = some ((decide (am_i32 q649) && true), .inl (bif am_cb .ne q649 0 then 32 else 30, [(0, am_pv 0), (1, am_iv x1), (2, am_iv x2), (3, am_iv x3), (4, am_iv x4)], [], am_SH, (J, K, am_RF true))) from rfl) (am_g1 g651 rfl) (am_nd_f c652) ?_
        obtain ⟨q653, e654, h⟩ := am_bind_some h
        refine am_r_call (show am_stepn X T_UpRiver_set 2 true (32, [(0, am_pv 0), (1, am_iv x1), (2, am_iv x2), (3, am_iv x3), (4, am_iv x4)], [], am_SH, (J, K, am_RF true)) = some (true, .inr (.inl (67, [am_iv x3], 1, 0, 0, 36, [(0, am_pv 0), (1, am_iv x1), (2, am_iv x2), (3, am_iv x3), (4, am_iv x4)], [], am_SH, (J, K, am_RF true)))) from rfl) rfl tb_UpRiver_isYesOrNo (s_UpRiver_isYesOrNo e654) ?_
        obtain ⟨g655, h⟩ := am_if_some h
        by_cases c656 : q653 = 0
        · rw [if_pos c656] at h
          refine am_r_t (show am_stepn X T_UpRiver_set 1 true (36, [(0, am_pv 0), (1, am_iv x1), (2, am_iv x2), (3, am_iv x3), (4, am_iv x4)], [am_iv q653], am_SH, (J, K, am_RF true)) = some ((decide (am_i32 q653) && true), .inl (bif am_cb .eq q653 0 then 47 else 39, [(0, am_pv 0), (1, am_iv x1), (2, am_iv x2), (3, am_iv x3), (4, am_iv x4)], [], am_SH, (J, K, am_RF true))) from rfl) (am_g1 g655 rfl) (decide_eq_true c656) ?_
          obtain rfl := Option.some.inj h
          exact am_r_ret (show am_stepn X T_UpRiver_set 2 true (47, [(0, am_pv 0), (1, am_iv x1), (2, am_iv x2), (3, am_iv x3), (4, am_iv x4)], [], am_SH, (J, K, am_RF true)) = some (true, .inr (.inr (some (am_iv (-1)), am_SH, (J, K, am_RF true)))) from rfl) rfl
        · rw [if_neg c656] at h
          refine am_r_f (show am_stepn X T_UpRiver_set 1 true (36, [(0, am_pv 0), (1, am_iv x1), (2, am_iv x2), (3, am_iv x3), (4, am_iv x4)], [am_iv q653], am_SH, (J, K, am_RF true)) = some ((decide (am_i32 q653) && true), .inl (bif am_cb .eq q653 0 then 47 else 39, [(0, am_pv 0), (1, am_iv x1), (2, am_iv x2), (3, am_iv x3), (4, am_iv x4)], [], am_SH, (J, K, am_RF true))) from rfl) (am_g1 g655 rfl) (decide_eq_false c656) ?_
          obtain ⟨q657, e658, h⟩ := am_bind_some h
          refine am_r_call (show am_stepn X T_UpRiver_set 2 true (39, [(0, am_pv 0), (1, am_iv x1), (2, am_iv x2), (3, am_iv x3), (4, am_iv x4)], [], am_SH, (J, K, am_RF true)) = some (true, .inr (.inl (60, [am_iv x4], 1, 0, 0, 44, [(0, am_pv 0), (1, am_iv x1), (2, am_iv x2), (3, am_iv x3), (4, am_iv x4)], [], am_SH, (J, K, am_RF true)))) from rfl) rfl tb_UpRiver_isMinute (s_UpRiver_isMinute e658) ?_
          obtain ⟨g659, h⟩ := am_if_some h
          by_cases c660 : q657 = 0
          · rw [if_pos c660] at h
            refine am_r_f (show am_stepn X T_UpRiver_set 1 true (44, [(0, am_pv 0), (1, am_iv x1), (2, am_iv x2), (3, am_iv x3), (4, am_iv x4)], [am_iv q657], am_SH, (J, K, am_RF true)) = some ((decide (am_i32 q657) && true), .inl (bif am_cb .ne q657 0 then 49 else 47, [(0, am_pv 0), (1, am_iv x1), (2, am_iv x2), (3, am_iv x3), (4, am_iv x4)], [], am_SH, (J, K, am_RF true))) from rfl) (am_g1 g659 rfl) (am_nd_t c660) ?_
            obtain rfl := Option.some.inj h
            exact am_r_ret (show am_stepn X T_UpRiver_set 2 true (47, [(0, am_pv 0), (1, am_iv x1), (2, am_iv x2), (3, am_iv x3), (4, am_iv x4)], [], am_SH, (J, K, am_RF true)) = some (true, .inr (.inr (some (am_iv (-1)), am_SH, (J, K, am_RF true)))) from rfl) rfl
          · rw [if_neg c660] at h
            refine am_r_t (show am_stepn X T_UpRiver_set 1 true (44, [(0, am_pv 0), (1, am_iv x1), (2, am_iv x2), (3, am_iv x3), (4, am_iv x4)], [am_iv q657], am_SH, (J, K, am_RF true)) = some ((decide (am_i32 q657) && true), .inl (bif am_cb .ne q657 0 then 49 else 47, [(0, am_pv 0), (1, am_iv x1), (2, am_iv x2), (3, am_iv x3), (4, am_iv x4)], [], am_SH, (J, K, am_RF true))) from rfl) (am_g1 g659 rfl) (am_nd_f c660) ?_
            obtain ⟨q661, e662, h⟩ := am_bind_some h
            refine am_r_call (show am_stepn X T_UpRiver_set 10 true (49, [(0, am_pv 0), (1, am_iv x1), (2, am_iv x2), (3, am_iv x3), (4, am_iv x4)], [], am_SH, (J, K, am_RF true)) = some (true, .inr (.inl (52, [am_pv 18, am_iv x1, am_iv x2, am_iv x3, am_iv x4], 5, 0, 0, 68, [(0, am_pv 0), (1, am_iv x1), (2, am_iv x2), (3, am_iv x3), (4, am_iv x4), (5, am_pv 18)], [], am_SH, (J, K, am_RF true)))) from rfl) rfl tb_Boat_lieAt (s_Boat_lieAt (by decide) e662) ?_
            obtain ⟨q663, e664, h⟩ := am_bind_some h
            refine am_r_call (show am_stepn X T_UpRiver_set 4 true (68, [(0, am_pv 0), (1, am_iv x1), (2, am_iv x2), (3, am_iv x3), (4, am_iv x4), (5, am_pv 18)], [], am_SH, (q661, K, am_RF true)) = some (true, .inr (.inl (74, [am_pv 18, am_pv (am_rv true)], 2, 0, 0, 77, [(0, am_pv 0), (1, am_iv x1), (2, am_iv x2), (3, am_iv x3), (4, am_iv x4), (5, am_pv 18)], [], am_SH, (q661, K, am_RF true)))) from rfl) rfl tb_Boat_isAfloat (s_Boat_isAfloat (by decide) e664) ?_
            obtain ⟨q665, e666, h⟩ := am_bind_some h
            refine am_r_call (show am_stepn X T_UpRiver_set 1 true (77, [(0, am_pv 0), (1, am_iv x1), (2, am_iv x2), (3, am_iv x3), (4, am_iv x4), (5, am_pv 18)], [am_iv q663], am_SH, (q661, K, am_RF true)) = some (true, .inr (.inl (57, [am_iv q663], 1, 0, 0, 80, [(0, am_pv 0), (1, am_iv x1), (2, am_iv x2), (3, am_iv x3), (4, am_iv x4), (5, am_pv 18)], [], am_SH, (q661, K, am_RF true)))) from rfl) rfl tb_UpRiver_asInt (s_UpRiver_asInt e666) ?_
            obtain rfl := Option.some.inj h
            exact am_r_ret (show am_stepn X T_UpRiver_set 1 true (80, [(0, am_pv 0), (1, am_iv x1), (2, am_iv x2), (3, am_iv x3), (4, am_iv x4), (5, am_pv 18)], [am_iv q665], am_SH, (q661, K, am_RF true)) = some (true, .inr (.inr (some (am_iv q665), am_SH, (q661, K, am_RF true)))) from rfl) rfl
    · rw [if_neg c648] at h
      refine am_r_t (show am_stepn X T_UpRiver_set 1 true (12, [(0, am_pv 0), (1, am_iv x1), (2, am_iv x2), (3, am_iv x3), (4, am_iv x4)], [am_iv q645, am_iv x1], am_SH, (J, K, am_RF true)) = some (((decide (am_i32 q645) && decide (am_i32 x1)) && true), .inl (bif am_cb .ge x1 q645 then 30 else 15, [(0, am_pv 0), (1, am_iv x1), (2, am_iv x2), (3, am_iv x3), (4, am_iv x4)], [], am_SH, (J, K, am_RF true))) from rfl) (am_g2 g647 g643 rfl) (am_nd_f c648) ?_
      obtain rfl := Option.some.inj h
      exact am_r_ret (show am_stepn X T_UpRiver_set 2 true (30, [(0, am_pv 0), (1, am_iv x1), (2, am_iv x2), (3, am_iv x3), (4, am_iv x4)], [], am_SH, (J, K, am_RF true)) = some (true, .inr (.inr (some (am_iv (-1)), am_SH, (J, K, am_RF true)))) from rfl) rfl
theorem s_UpRiver_set {X : am_X} {b : Bool} {K : am_K} {x1 : Int} {x2 : Int} {x3 : Int} {x4 : Int} {J : am_J} {r : Int × am_J} (h : f_UpRiver_set b x1 x2 x3 x4 J = some r) : am_runs X T_UpRiver_set (0, [(0, am_pv 0), (1, am_iv x1), (2, am_iv x2), (3, am_iv x3), (4, am_iv x4)], [], am_SH, (J, K, am_RF b)) (some (am_iv r.1), am_SH, (r.2, K, am_RF b)) := by
  cases b
  · exact s_UpRiver_set_f h
  · exact s_UpRiver_set_t h
theorem s_Search_indexOf {X : am_X} {b : Bool} {J : am_J} {K : am_K} {x0 : Int} {x1 : Int} {x2 : Int} {r : Int} (h : f_Search_indexOf  x0 x1 x2 = some r) : am_runs X T_Search_indexOf (0, [(0, am_iv x0), (1, am_iv x1), (2, am_iv x2)], [], am_SH, (J, K, am_RF b)) (some (am_iv r), am_SH, (J, K, am_RF b)) := by
  unfold f_Search_indexOf at h
  obtain ⟨g667, h⟩ := am_if_some h
  obtain rfl := Option.some.inj h
  exact am_r_ret (show am_stepn X T_Search_indexOf 12 true (0, [(0, am_iv x0), (1, am_iv x1), (2, am_iv x2)], [], am_SH, (J, K, am_RF b)) = some (((decide (0 < (10 : Int) ∧ am_i32 10) && decide (am_i32 x2)) && true), .inr (.inr (some (am_iv ((((am_rm x2 10) * 18) + (x0 * 2)) + x1)), am_SH, (J, K, am_RF b)))) from rfl) (am_g2 (by decide) g667 rfl)
theorem s_Search_serves {X : am_X} {b : Bool} {J : am_J} {K : am_K} {x1 : Int} {r : Int} (h : f_Search_serves J x1 = some r) : am_runs X T_Search_serves (0, [(0, am_pv 26), (1, am_iv x1)], [], am_SH, (J, K, am_RF b)) (some (am_iv r), am_SH, (J, K, am_RF b)) := by
  unfold f_Search_serves at h
  obtain ⟨g668, h⟩ := am_if_some h
  obtain ⟨g669, h⟩ := am_if_some h
  by_cases c670 : x1 < (J 26 2)
  · rw [if_pos c670] at h
    refine am_r_t (show am_stepn X T_Search_serves 4 true (0, [(0, am_pv 26), (1, am_iv x1)], [], am_SH, (J, K, am_RF b)) = some (((decide (am_i32 (J 26 2)) && decide (am_i32 x1)) && true), .inl (bif am_cb .lt x1 (J 26 2) then 20 else 8, [(0, am_pv 26), (1, am_iv x1)], [], am_SH, (J, K, am_RF b))) from rfl) (am_g2 g668 g669 rfl) (decide_eq_true c670) ?_
    obtain rfl := Option.some.inj h
    exact am_r_ret (show am_stepn X T_Search_serves 2 true (20, [(0, am_pv 26), (1, am_iv x1)], [], am_SH, (J, K, am_RF b)) = some ((decide ((0 : Int) = 0 ∨ (0 : Int) = 1) && true), .inr (.inr (some (am_iv 0), am_SH, (J, K, am_RF b)))) from rfl) (am_g1 (by decide) rfl)
  · rw [if_neg c670] at h
    refine am_r_f (show am_stepn X T_Search_serves 4 true (0, [(0, am_pv 26), (1, am_iv x1)], [], am_SH, (J, K, am_RF b)) = some (((decide (am_i32 (J 26 2)) && decide (am_i32 x1)) && true), .inl (bif am_cb .lt x1 (J 26 2) then 20 else 8, [(0, am_pv 26), (1, am_iv x1)], [], am_SH, (J, K, am_RF b))) from rfl) (am_g2 g668 g669 rfl) (decide_eq_false c670) ?_
    obtain ⟨g671, h⟩ := am_if_some h
    by_cases c672 : (J 26 3) < x1
    · rw [if_pos c672] at h
      refine am_r_t (show am_stepn X T_Search_serves 4 true (8, [(0, am_pv 26), (1, am_iv x1)], [], am_SH, (J, K, am_RF b)) = some (((decide (am_i32 (J 26 3)) && decide (am_i32 x1)) && true), .inl (bif am_cb .gt x1 (J 26 3) then 20 else 16, [(0, am_pv 26), (1, am_iv x1)], [], am_SH, (J, K, am_RF b))) from rfl) (am_g2 g671 g669 rfl) (decide_eq_true c672) ?_
      obtain rfl := Option.some.inj h
      exact am_r_ret (show am_stepn X T_Search_serves 2 true (20, [(0, am_pv 26), (1, am_iv x1)], [], am_SH, (J, K, am_RF b)) = some ((decide ((0 : Int) = 0 ∨ (0 : Int) = 1) && true), .inr (.inr (some (am_iv 0), am_SH, (J, K, am_RF b)))) from rfl) (am_g1 (by decide) rfl)
    · rw [if_neg c672] at h
      refine am_r_f (show am_stepn X T_Search_serves 4 true (8, [(0, am_pv 26), (1, am_iv x1)], [], am_SH, (J, K, am_RF b)) = some (((decide (am_i32 (J 26 3)) && decide (am_i32 x1)) && true), .inl (bif am_cb .gt x1 (J 26 3) then 20 else 16, [(0, am_pv 26), (1, am_iv x1)], [], am_SH, (J, K, am_RF b))) from rfl) (am_g2 g671 g669 rfl) (decide_eq_false c672) ?_
      obtain rfl := Option.some.inj h
      exact am_r_ret (show am_stepn X T_Search_serves 3 true (16, [(0, am_pv 26), (1, am_iv x1)], [], am_SH, (J, K, am_RF b)) = some ((decide ((1 : Int) = 0 ∨ (1 : Int) = 1) && true), .inr (.inr (some (am_iv 1), am_SH, (J, K, am_RF b)))) from rfl) (am_g1 (by decide) rfl)
theorem s_Search_add_18_ {X : am_X} {b : Bool} {J : am_J} {K : am_K} {r : am_K} (h : f_Search_add 18 J K = some r) : am_runs X T_Search_add (0, [(0, am_pv 26), (1, am_pv 18)], [], am_SH, (J, K, am_RF b)) (none, am_SH, (J, r, am_RF b)) := by
  unfold f_Search_add at h
  obtain ⟨q673, e674, h⟩ := am_bind_some h
  refine am_r_call (show am_stepn X T_Search_add 4 true (0, [(0, am_pv 26), (1, am_pv 18)], [], am_SH, (J, K, am_RF b)) = some (true, .inr (.inl (87, [am_pv 26, am_iv (J 18 1)], 2, 0, 0, 8, [(0, am_pv 26), (1, am_pv 18)], [], am_SH, (J, K, am_RF b)))) from rfl) rfl tb_Search_serves (s_Search_serves e674) ?_
  obtain ⟨g675, h⟩ := am_if_some h
  by_cases c676 : q673 = 0
  · rw [if_pos c676] at h
    refine am_r_t (show am_stepn X T_Search_add 1 true (8, [(0, am_pv 26), (1, am_pv 18)], [am_iv q673], am_SH, (J, K, am_RF b)) = some ((decide (am_i32 q673) && true), .inl (bif am_cb .eq q673 0 then 51 else 11, [(0, am_pv 26), (1, am_pv 18)], [], am_SH, (J, K, am_RF b))) from rfl) (am_g1 g675 rfl) (decide_eq_true c676) ?_
    obtain rfl := Option.some.inj h
    exact am_r_ret (show am_stepn X T_Search_add 1 true (51, [(0, am_pv 26), (1, am_pv 18)], [], am_SH, (J, K, am_RF b)) = some (true, .inr (.inr (none, am_SH, (J, K, am_RF b)))) from rfl) rfl
  · rw [if_neg c676] at h
    refine am_r_f (show am_stepn X T_Search_add 1 true (8, [(0, am_pv 26), (1, am_pv 18)], [am_iv q673], am_SH, (J, K, am_RF b)) = some ((decide (am_i32 q673) && true), .inl (bif am_cb .eq q673 0 then 51 else 11, [(0, am_pv 26), (1, am_pv 18)], [], am_SH, (J, K, am_RF b))) from rfl) (am_g1 g675 rfl) (decide_eq_false c676) ?_
    obtain ⟨g677, h⟩ := am_if_some h
    obtain ⟨g678, h⟩ := am_if_some h
    by_cases c679 : (J 18 0) < (J 26 4)
    · rw [if_pos c679] at h
      refine am_r_f (show am_stepn X T_Search_add 5 true (11, [(0, am_pv 26), (1, am_pv 18)], [], am_SH, (J, K, am_RF b)) = some (((decide (am_i32 (J 26 4)) && decide (am_i32 (J 18 0))) && true), .inl (bif am_cb .ge (J 18 0) (J 26 4) then 51 else 22, [(0, am_pv 26), (1, am_pv 18)], [], am_SH, (J, K, am_RF b))) from rfl) (am_g2 g677 g678 rfl) (am_nd_t c679) ?_
      obtain ⟨q680, e681, h⟩ := am_bind_some h
      refine am_r_call (show am_stepn X T_Search_add 9 true (22, [(0, am_pv 26), (1, am_pv 18)], [], am_SH, (J, K, am_RF b)) = some (true, .inr (.inl (88, [am_iv (J 18 1), am_iv (J 18 2), am_iv (J 18 3)], 3, 0, 0, 41, [(0, am_pv 26), (1, am_pv 18)], [am_pv 27], am_SH, (J, K, am_RF b)))) from rfl) rfl tb_Search_indexOf (s_Search_indexOf e681) ?_
      obtain ⟨g682, h⟩ := am_if_some h
      obtain rfl := Option.some.inj h
      exact am_r_ret (show am_stepn X T_Search_add 9 true (41, [(0, am_pv 26), (1, am_pv 18)], [am_iv q680, am_pv 27], am_SH, (J, K, am_RF b)) = some ((am_in q680 180 && (am_in q680 180 && true)), .inr (.inr (none, am_SH, (J, (am_ul K 27 q680.toNat ((K 27 q680.toNat) ||| (am_lshl (1 : Int64) (J 18 0)))), am_RF b)))) from rfl) (am_gi g682 (am_gi g682 rfl))
    · rw [if_neg c679] at h
      refine am_r_t (show am_stepn X T_Search_add 5 true (11, [(0, am_pv 26), (1, am_pv 18)], [], am_SH, (J, K, am_RF b)) = some (((decide (am_i32 (J 26 4)) && decide (am_i32 (J 18 0))) && true), .inl (bif am_cb .ge (J 18 0) (J 26 4) then 51 else 22, [(0, am_pv 26), (1, am_pv 18)], [], am_SH, (J, K, am_RF b))) from rfl) (am_g2 g677 g678 rfl) (am_nd_f c679) ?_
      obtain rfl := Option.some.inj h
      exact am_r_ret (show am_stepn X T_Search_add 1 true (51, [(0, am_pv 26), (1, am_pv 18)], [], am_SH, (J, K, am_RF b)) = some (true, .inr (.inr (none, am_SH, (J, K, am_RF b)))) from rfl) rfl
theorem s_Search_add_30_ {X : am_X} {b : Bool} {J : am_J} {K : am_K} {r : am_K} (h : f_Search_add 30 J K = some r) : am_runs X T_Search_add (0, [(0, am_pv 26), (1, am_pv 30)], [], am_SH, (J, K, am_RF b)) (none, am_SH, (J, r, am_RF b)) := by
  unfold f_Search_add at h
  obtain ⟨q673, e674, h⟩ := am_bind_some h
  refine am_r_call (show am_stepn X T_Search_add 4 true (0, [(0, am_pv 26), (1, am_pv 30)], [], am_SH, (J, K, am_RF b)) = some (true, .inr (.inl (87, [am_pv 26, am_iv (J 30 1)], 2, 0, 0, 8, [(0, am_pv 26), (1, am_pv 30)], [], am_SH, (J, K, am_RF b)))) from rfl) rfl tb_Search_serves (s_Search_serves e674) ?_
  obtain ⟨g675, h⟩ := am_if_some h
  by_cases c676 : q673 = 0
  · rw [if_pos c676] at h
    refine am_r_t (show am_stepn X T_Search_add 1 true (8, [(0, am_pv 26), (1, am_pv 30)], [am_iv q673], am_SH, (J, K, am_RF b)) = some ((decide (am_i32 q673) && true), .inl (bif am_cb .eq q673 0 then 51 else 11, [(0, am_pv 26), (1, am_pv 30)], [], am_SH, (J, K, am_RF b))) from rfl) (am_g1 g675 rfl) (decide_eq_true c676) ?_
    obtain rfl := Option.some.inj h
    exact am_r_ret (show am_stepn X T_Search_add 1 true (51, [(0, am_pv 26), (1, am_pv 30)], [], am_SH, (J, K, am_RF b)) = some (true, .inr (.inr (none, am_SH, (J, K, am_RF b)))) from rfl) rfl
  · rw [if_neg c676] at h
    refine am_r_f (show am_stepn X T_Search_add 1 true (8, [(0, am_pv 26), (1, am_pv 30)], [am_iv q673], am_SH, (J, K, am_RF b)) = some ((decide (am_i32 q673) && true), .inl (bif am_cb .eq q673 0 then 51 else 11, [(0, am_pv 26), (1, am_pv 30)], [], am_SH, (J, K, am_RF b))) from rfl) (am_g1 g675 rfl) (decide_eq_false c676) ?_
    obtain ⟨g677, h⟩ := am_if_some h
    obtain ⟨g678, h⟩ := am_if_some h
    by_cases c679 : (J 30 0) < (J 26 4)
    · rw [if_pos c679] at h
      refine am_r_f (show am_stepn X T_Search_add 5 true (11, [(0, am_pv 26), (1, am_pv 30)], [], am_SH, (J, K, am_RF b)) = some (((decide (am_i32 (J 26 4)) && decide (am_i32 (J 30 0))) && true), .inl (bif am_cb .ge (J 30 0) (J 26 4) then 51 else 22, [(0, am_pv 26), (1, am_pv 30)], [], am_SH, (J, K, am_RF b))) from rfl) (am_g2 g677 g678 rfl) (am_nd_t c679) ?_
      obtain ⟨q680, e681, h⟩ := am_bind_some h
      refine am_r_call (show am_stepn X T_Search_add 9 true (22, [(0, am_pv 26), (1, am_pv 30)], [], am_SH, (J, K, am_RF b)) = some (true, .inr (.inl (88, [am_iv (J 30 1), am_iv (J 30 2), am_iv (J 30 3)], 3, 0, 0, 41, [(0, am_pv 26), (1, am_pv 30)], [am_pv 27], am_SH, (J, K, am_RF b)))) from rfl) rfl tb_Search_indexOf (s_Search_indexOf e681) ?_
      obtain ⟨g682, h⟩ := am_if_some h
      obtain rfl := Option.some.inj h
      exact am_r_ret (show am_stepn X T_Search_add 9 true (41, [(0, am_pv 26), (1, am_pv 30)], [am_iv q680, am_pv 27], am_SH, (J, K, am_RF b)) = some ((am_in q680 180 && (am_in q680 180 && true)), .inr (.inr (none, am_SH, (J, (am_ul K 27 q680.toNat ((K 27 q680.toNat) ||| (am_lshl (1 : Int64) (J 30 0)))), am_RF b)))) from rfl) (am_gi g682 (am_gi g682 rfl))
    · rw [if_neg c679] at h
      refine am_r_t (show am_stepn X T_Search_add 5 true (11, [(0, am_pv 26), (1, am_pv 30)], [], am_SH, (J, K, am_RF b)) = some (((decide (am_i32 (J 26 4)) && decide (am_i32 (J 30 0))) && true), .inl (bif am_cb .ge (J 30 0) (J 26 4) then 51 else 22, [(0, am_pv 26), (1, am_pv 30)], [], am_SH, (J, K, am_RF b))) from rfl) (am_g2 g677 g678 rfl) (am_nd_f c679) ?_
      obtain rfl := Option.some.inj h
      exact am_r_ret (show am_stepn X T_Search_add 1 true (51, [(0, am_pv 26), (1, am_pv 30)], [], am_SH, (J, K, am_RF b)) = some (true, .inr (.inr (none, am_SH, (J, K, am_RF b)))) from rfl) rfl
theorem s_Search_add {X : am_X} {b : Bool} {o1 : Nat} (ho : o1 = 18 ∨ o1 = 30) {J : am_J} {K : am_K} {r : am_K} (h : f_Search_add o1 J K = some r) : am_runs X T_Search_add (0, [(0, am_pv 26), (1, am_pv o1)], [], am_SH, (J, K, am_RF b)) (none, am_SH, (J, r, am_RF b)) := by
  rcases ho with rfl | rfl
  · skip
    exact s_Search_add_18_ h
  · skip
    exact s_Search_add_30_ h
theorem s_River_bitsAfloatIn_32_ {X : am_X} {b : Bool} {J : am_J} {K : am_K} {x1 : Int} {x2 : Int} {r : Int64} (h : f_River_bitsAfloatIn 32 J K x1 x2 = some r) : am_runs X T_River_bitsAfloatIn (0, [(0, am_pv 32), (1, am_iv x1), (2, am_iv x2)], [], am_SH, (J, K, am_RF b)) (some (am_jv r), am_SH, (J, K, am_RF b)) := by
  unfold f_River_bitsAfloatIn at h
  obtain ⟨q683, e684, h⟩ := am_bind_some h
  refine am_r_call (show am_stepn X T_River_bitsAfloatIn 5 true (0, [(0, am_pv 32), (1, am_iv x1), (2, am_iv x2)], [], am_SH, (J, K, am_RF b)) = some (true, .inr (.inl (62, [am_pv 32, am_iv x2], 3, 0, 0, 9, [(0, am_pv 32), (1, am_iv x1), (2, am_iv x2)], [am_pv (32 + 3)], am_SH, (J, K, am_RF b)))) from rfl) rfl tb_River_phaseIn (s_River_phaseIn (by decide) e684) ?_
  obtain ⟨g685, h⟩ := am_if_some h
  obtain ⟨g686, h⟩ := am_if_some h
  by_cases c687 : (J (32 + 3) q683.toNat) < 0
  · rw [if_pos c687] at h
    refine am_r_t (show am_stepn X T_River_bitsAfloatIn 4 true (9, [(0, am_pv 32), (1, am_iv x1), (2, am_iv x2)], [am_iv q683, am_pv (32 + 3)], am_SH, (J, K, am_RF b)) = some ((decide (am_i32 (J (32 + 3) q683.toNat)) && (am_in q683 12 && true)), .inl (bif am_cb .lt (J (32 + 3) q683.toNat) 0 then 28 else 15, [(0, am_pv 32), (1, am_iv x1), (2, am_iv x2), (3, am_iv (J (32 + 3) q683.toNat))], [], am_SH, (J, K, am_RF b))) from rfl) (am_g1 g686 (am_gi g685 rfl)) (decide_eq_true c687) ?_
    obtain rfl := Option.some.inj h
    exact am_r_ret (show am_stepn X T_River_bitsAfloatIn 2 true (28, [(0, am_pv 32), (1, am_iv x1), (2, am_iv x2), (3, am_iv (J (32 + 3) q683.toNat))], [], am_SH, (J, K, am_RF b)) = some (true, .inr (.inr (some (am_jv (0 : Int64)), am_SH, (J, K, am_RF b)))) from rfl) rfl
  · rw [if_neg c687] at h
    refine am_r_f (show am_stepn X T_River_bitsAfloatIn 4 true (9, [(0, am_pv 32), (1, am_iv x1), (2, am_iv x2)], [am_iv q683, am_pv (32 + 3)], am_SH, (J, K, am_RF b)) = some ((decide (am_i32 (J (32 + 3) q683.toNat)) && (am_in q683 12 && true)), .inl (bif am_cb .lt (J (32 + 3) q683.toNat) 0 then 28 else 15, [(0, am_pv 32), (1, am_iv x1), (2, am_iv x2), (3, am_iv (J (32 + 3) q683.toNat))], [], am_SH, (J, K, am_RF b))) from rfl) (am_g1 g686 (am_gi g685 rfl)) (decide_eq_false c687) ?_
    by_cases c688 : (J (32 + 3) q683.toNat) < 16
    · rw [if_pos c688] at h
      refine am_r_f (show am_stepn X T_River_bitsAfloatIn 3 true (15, [(0, am_pv 32), (1, am_iv x1), (2, am_iv x2), (3, am_iv (J (32 + 3) q683.toNat))], [], am_SH, (J, K, am_RF b)) = some (((decide (am_i32 16) && decide (am_i32 (J (32 + 3) q683.toNat))) && true), .inl (bif am_cb .ge (J (32 + 3) q683.toNat) 16 then 28 else 21, [(0, am_pv 32), (1, am_iv x1), (3, am_iv (J (32 + 3) q683.toNat))], [], am_SH, (J, K, am_RF b))) from rfl) (am_g2 (by decide) g686 rfl) (am_nd_t c688) ?_
      obtain ⟨q689, e690, h⟩ := am_bind_some h
      refine am_r_call (show am_stepn X T_River_bitsAfloatIn 2 true (21, [(0, am_pv 32), (1, am_iv x1), (3, am_iv (J (32 + 3) q683.toNat))], [], am_SH, (J, K, am_RF b)) = some (true, .inr (.inl (66, [am_iv x1], 1, 0, 0, 25, [(0, am_pv 32), (1, am_iv x1), (3, am_iv (J (32 + 3) q683.toNat))], [], am_SH, (J, K, am_RF b)))) from rfl) rfl tb_UpRiver_isLane (s_UpRiver_isLane e690) ?_
      obtain ⟨g691, h⟩ := am_if_some h
      by_cases c692 : q689 = 0
      · rw [if_pos c692] at h
        refine am_r_f (show am_stepn X T_River_bitsAfloatIn 1 true (25, [(0, am_pv 32), (1, am_iv x1), (3, am_iv (J (32 + 3) q683.toNat))], [am_iv q689], am_SH, (J, K, am_RF b)) = some ((decide (am_i32 q689) && true), .inl (bif am_cb .ne q689 0 then 30 else 28, [(0, am_pv 32), (1, am_iv x1), (3, am_iv (J (32 + 3) q683.toNat))], [], am_SH, (J, K, am_RF b))) from rfl) (am_g1 g691 rfl) (am_nd_t c692) ?_
        obtain rfl := Option.some.inj h
        exact am_r_ret (show am_stepn X T_River_bitsAfloatIn 2 true (28, [(0, am_pv 32), (1, am_iv x1), (3, am_iv (J (32 + 3) q683.toNat))], [], am_SH, (J, K, am_RF b)) = some (true, .inr (.inr (some (am_jv (0 : Int64)), am_SH, (J, K, am_RF b)))) from rfl) rfl
      · rw [if_neg c692] at h
        refine am_r_t (show am_stepn X T_River_bitsAfloatIn 1 true (25, [(0, am_pv 32), (1, am_iv x1), (3, am_iv (J (32 + 3) q683.toNat))], [am_iv q689], am_SH, (J, K, am_RF b)) = some ((decide (am_i32 q689) && true), .inl (bif am_cb .ne q689 0 then 30 else 28, [(0, am_pv 32), (1, am_iv x1), (3, am_iv (J (32 + 3) q683.toNat))], [], am_SH, (J, K, am_RF b))) from rfl) (am_g1 g691 rfl) (am_nd_f c692) ?_
        obtain ⟨g693, h⟩ := am_if_some h
        obtain rfl := Option.some.inj h
        exact am_r_ret (show am_stepn X T_River_bitsAfloatIn 9 true (30, [(0, am_pv 32), (1, am_iv x1), (3, am_iv (J (32 + 3) q683.toNat))], [], am_SH, (J, K, am_RF b)) = some ((am_in (((J (32 + 3) q683.toNat) * 9) + x1) 144 && true), .inr (.inr (some (am_jv (K (32 + 10) ((((J (32 + 3) q683.toNat) * 9) + x1).toNat))), am_SH, (J, K, am_RF b)))) from rfl) (am_gi g693 rfl)
    · rw [if_neg c688] at h
      refine am_r_t (show am_stepn X T_River_bitsAfloatIn 3 true (15, [(0, am_pv 32), (1, am_iv x1), (2, am_iv x2), (3, am_iv (J (32 + 3) q683.toNat))], [], am_SH, (J, K, am_RF b)) = some (((decide (am_i32 16) && decide (am_i32 (J (32 + 3) q683.toNat))) && true), .inl (bif am_cb .ge (J (32 + 3) q683.toNat) 16 then 28 else 21, [(0, am_pv 32), (1, am_iv x1), (3, am_iv (J (32 + 3) q683.toNat))], [], am_SH, (J, K, am_RF b))) from rfl) (am_g2 (by decide) g686 rfl) (am_nd_f c688) ?_
      obtain rfl := Option.some.inj h
      exact am_r_ret (show am_stepn X T_River_bitsAfloatIn 2 true (28, [(0, am_pv 32), (1, am_iv x1), (3, am_iv (J (32 + 3) q683.toNat))], [], am_SH, (J, K, am_RF b)) = some (true, .inr (.inr (some (am_jv (0 : Int64)), am_SH, (J, K, am_RF b)))) from rfl) rfl
theorem s_River_bitsAfloatIn_6_ {X : am_X} {b : Bool} {J : am_J} {K : am_K} {x1 : Int} {x2 : Int} {r : Int64} (h : f_River_bitsAfloatIn 6 J K x1 x2 = some r) : am_runs X T_River_bitsAfloatIn (0, [(0, am_pv 6), (1, am_iv x1), (2, am_iv x2)], [], am_SH, (J, K, am_RF b)) (some (am_jv r), am_SH, (J, K, am_RF b)) := by
  unfold f_River_bitsAfloatIn at h
  obtain ⟨q683, e684, h⟩ := am_bind_some h
  refine am_r_call (show am_stepn X T_River_bitsAfloatIn 5 true (0, [(0, am_pv 6), (1, am_iv x1), (2, am_iv x2)], [], am_SH, (J, K, am_RF b)) = some (true, .inr (.inl (62, [am_pv 6, am_iv x2], 3, 0, 0, 9, [(0, am_pv 6), (1, am_iv x1), (2, am_iv x2)], [am_pv (6 + 3)], am_SH, (J, K, am_RF b)))) from rfl) rfl tb_River_phaseIn (s_River_phaseIn (by decide) e684) ?_
  obtain ⟨g685, h⟩ := am_if_some h
  obtain ⟨g686, h⟩ := am_if_some h
  by_cases c687 : (J (6 + 3) q683.toNat) < 0
  · rw [if_pos c687] at h
    refine am_r_t (show am_stepn X T_River_bitsAfloatIn 4 true (9, [(0, am_pv 6), (1, am_iv x1), (2, am_iv x2)], [am_iv q683, am_pv (6 + 3)], am_SH, (J, K, am_RF b)) = some ((decide (am_i32 (J (6 + 3) q683.toNat)) && (am_in q683 12 && true)), .inl (bif am_cb .lt (J (6 + 3) q683.toNat) 0 then 28 else 15, [(0, am_pv 6), (1, am_iv x1), (2, am_iv x2), (3, am_iv (J (6 + 3) q683.toNat))], [], am_SH, (J, K, am_RF b))) from rfl) (am_g1 g686 (am_gi g685 rfl)) (decide_eq_true c687) ?_
    obtain rfl := Option.some.inj h
    exact am_r_ret (show am_stepn X T_River_bitsAfloatIn 2 true (28, [(0, am_pv 6), (1, am_iv x1), (2, am_iv x2), (3, am_iv (J (6 + 3) q683.toNat))], [], am_SH, (J, K, am_RF b)) = some (true, .inr (.inr (some (am_jv (0 : Int64)), am_SH, (J, K, am_RF b)))) from rfl) rfl
  · rw [if_neg c687] at h
    refine am_r_f (show am_stepn X T_River_bitsAfloatIn 4 true (9, [(0, am_pv 6), (1, am_iv x1), (2, am_iv x2)], [am_iv q683, am_pv (6 + 3)], am_SH, (J, K, am_RF b)) = some ((decide (am_i32 (J (6 + 3) q683.toNat)) && (am_in q683 12 && true)), .inl (bif am_cb .lt (J (6 + 3) q683.toNat) 0 then 28 else 15, [(0, am_pv 6), (1, am_iv x1), (2, am_iv x2), (3, am_iv (J (6 + 3) q683.toNat))], [], am_SH, (J, K, am_RF b))) from rfl) (am_g1 g686 (am_gi g685 rfl)) (decide_eq_false c687) ?_
    by_cases c688 : (J (6 + 3) q683.toNat) < 16
    · rw [if_pos c688] at h
      refine am_r_f (show am_stepn X T_River_bitsAfloatIn 3 true (15, [(0, am_pv 6), (1, am_iv x1), (2, am_iv x2), (3, am_iv (J (6 + 3) q683.toNat))], [], am_SH, (J, K, am_RF b)) = some (((decide (am_i32 16) && decide (am_i32 (J (6 + 3) q683.toNat))) && true), .inl (bif am_cb .ge (J (6 + 3) q683.toNat) 16 then 28 else 21, [(0, am_pv 6), (1, am_iv x1), (3, am_iv (J (6 + 3) q683.toNat))], [], am_SH, (J, K, am_RF b))) from rfl) (am_g2 (by decide) g686 rfl) (am_nd_t c688) ?_
      obtain ⟨q689, e690, h⟩ := am_bind_some h
      refine am_r_call (show am_stepn X T_River_bitsAfloatIn 2 true (21, [(0, am_pv 6), (1, am_iv x1), (3, am_iv (J (6 + 3) q683.toNat))], [], am_SH, (J, K, am_RF b)) = some (true, .inr (.inl (66, [am_iv x1], 1, 0, 0, 25, [(0, am_pv 6), (1, am_iv x1), (3, am_iv (J (6 + 3) q683.toNat))], [], am_SH, (J, K, am_RF b)))) from rfl) rfl tb_UpRiver_isLane (s_UpRiver_isLane e690) ?_
      obtain ⟨g691, h⟩ := am_if_some h
      by_cases c692 : q689 = 0
      · rw [if_pos c692] at h
        refine am_r_f (show am_stepn X T_River_bitsAfloatIn 1 true (25, [(0, am_pv 6), (1, am_iv x1), (3, am_iv (J (6 + 3) q683.toNat))], [am_iv q689], am_SH, (J, K, am_RF b)) = some ((decide (am_i32 q689) && true), .inl (bif am_cb .ne q689 0 then 30 else 28, [(0, am_pv 6), (1, am_iv x1), (3, am_iv (J (6 + 3) q683.toNat))], [], am_SH, (J, K, am_RF b))) from rfl) (am_g1 g691 rfl) (am_nd_t c692) ?_
        obtain rfl := Option.some.inj h
        exact am_r_ret (show am_stepn X T_River_bitsAfloatIn 2 true (28, [(0, am_pv 6), (1, am_iv x1), (3, am_iv (J (6 + 3) q683.toNat))], [], am_SH, (J, K, am_RF b)) = some (true, .inr (.inr (some (am_jv (0 : Int64)), am_SH, (J, K, am_RF b)))) from rfl) rfl
      · rw [if_neg c692] at h
        refine am_r_t (show am_stepn X T_River_bitsAfloatIn 1 true (25, [(0, am_pv 6), (1, am_iv x1), (3, am_iv (J (6 + 3) q683.toNat))], [am_iv q689], am_SH, (J, K, am_RF b)) = some ((decide (am_i32 q689) && true), .inl (bif am_cb .ne q689 0 then 30 else 28, [(0, am_pv 6), (1, am_iv x1), (3, am_iv (J (6 + 3) q683.toNat))], [], am_SH, (J, K, am_RF b))) from rfl) (am_g1 g691 rfl) (am_nd_f c692) ?_
        obtain ⟨g693, h⟩ := am_if_some h
        obtain rfl := Option.some.inj h
        exact am_r_ret (show am_stepn X T_River_bitsAfloatIn 9 true (30, [(0, am_pv 6), (1, am_iv x1), (3, am_iv (J (6 + 3) q683.toNat))], [], am_SH, (J, K, am_RF b)) = some ((am_in (((J (6 + 3) q683.toNat) * 9) + x1) 144 && true), .inr (.inr (some (am_jv (K (6 + 10) ((((J (6 + 3) q683.toNat) * 9) + x1).toNat))), am_SH, (J, K, am_RF b)))) from rfl) (am_gi g693 rfl)
    · rw [if_neg c688] at h
      refine am_r_t (show am_stepn X T_River_bitsAfloatIn 3 true (15, [(0, am_pv 6), (1, am_iv x1), (2, am_iv x2), (3, am_iv (J (6 + 3) q683.toNat))], [], am_SH, (J, K, am_RF b)) = some (((decide (am_i32 16) && decide (am_i32 (J (6 + 3) q683.toNat))) && true), .inl (bif am_cb .ge (J (6 + 3) q683.toNat) 16 then 28 else 21, [(0, am_pv 6), (1, am_iv x1), (3, am_iv (J (6 + 3) q683.toNat))], [], am_SH, (J, K, am_RF b))) from rfl) (am_g2 (by decide) g686 rfl) (am_nd_f c688) ?_
      obtain rfl := Option.some.inj h
      exact am_r_ret (show am_stepn X T_River_bitsAfloatIn 2 true (28, [(0, am_pv 6), (1, am_iv x1), (3, am_iv (J (6 + 3) q683.toNat))], [], am_SH, (J, K, am_RF b)) = some (true, .inr (.inr (some (am_jv (0 : Int64)), am_SH, (J, K, am_RF b)))) from rfl) rfl
theorem s_River_bitsAfloatIn {X : am_X} {b : Bool} {o1 : Nat} (ho : o1 = 32 ∨ o1 = 6) {J : am_J} {K : am_K} {x1 : Int} {x2 : Int} {r : Int64} (h : f_River_bitsAfloatIn o1 J K x1 x2 = some r) : am_runs X T_River_bitsAfloatIn (0, [(0, am_pv o1), (1, am_iv x1), (2, am_iv x2)], [], am_SH, (J, K, am_RF b)) (some (am_jv r), am_SH, (J, K, am_RF b)) := by
  rcases ho with rfl | rfl
  · skip
    exact s_River_bitsAfloatIn_32_ h
  · skip
    exact s_River_bitsAfloatIn_6_ h
theorem s_Search_bitsFrom {X : am_X} {b : Bool} {J : am_J} {K : am_K} {y0 : Int64} {x2 : Int} {r : Int64} (h : f_Search_bitsFrom  y0 x2 = some r) : am_runs X T_Search_bitsFrom (0, [(0, am_jv y0), (2, am_iv x2)], [], am_SH, (J, K, am_RF b)) (some (am_jv r), am_SH, (J, K, am_RF b)) := by
  unfold f_Search_bitsFrom at h
  obtain ⟨g694, h⟩ := am_if_some h
  by_cases c695 : x2 < 64
  · rw [if_pos c695] at h
    refine am_r_t (show am_stepn X T_Search_bitsFrom 3 true (0, [(0, am_jv y0), (2, am_iv x2)], [], am_SH, (J, K, am_RF b)) = some (((decide (am_i32 64) && decide (am_i32 x2)) && true), .inl (bif am_cb .lt x2 64 then 10 else 6, [(0, am_jv y0), (2, am_iv x2)], [], am_SH, (J, K, am_RF b))) from rfl) (am_g2 (by decide) g694 rfl) (decide_eq_true c695) ?_
    obtain ⟨q696, e697, h⟩ := am_bind_some h
    refine am_r_call (show am_stepn X T_Search_bitsFrom 4 true (10, [(0, am_jv y0), (2, am_iv x2)], [], am_SH, (J, K, am_RF b)) = some (true, .inr (.inl (48, [am_iv 0, am_iv x2], 2, 0, 0, 16, [(0, am_jv y0), (2, am_iv x2)], [am_jv y0], am_SH, (J, K, am_RF b)))) from rfl) rfl tb_JMath_max (s_JMath_max e697) ?_
    obtain rfl := Option.some.inj h
    exact am_r_ret (show am_stepn X T_Search_bitsFrom 2 true (16, [(0, am_jv y0), (2, am_iv x2)], [am_iv q696, am_jv y0], am_SH, (J, K, am_RF b)) = some (true, .inr (.inr (some (am_jv (am_lushr y0 q696)), am_SH, (J, K, am_RF b)))) from rfl) rfl
  · rw [if_neg c695] at h
    refine am_r_f (show am_stepn X T_Search_bitsFrom 3 true (0, [(0, am_jv y0), (2, am_iv x2)], [], am_SH, (J, K, am_RF b)) = some (((decide (am_i32 64) && decide (am_i32 x2)) && true), .inl (bif am_cb .lt x2 64 then 10 else 6, [(0, am_jv y0), (2, am_iv x2)], [], am_SH, (J, K, am_RF b))) from rfl) (am_g2 (by decide) g694 rfl) (decide_eq_false c695) ?_
    obtain rfl := Option.some.inj h
    exact am_r_ret (show am_stepn X T_Search_bitsFrom 3 true (6, [(0, am_jv y0), (2, am_iv x2)], [], am_SH, (J, K, am_RF b)) = some (true, .inr (.inr (some (am_jv (0 : Int64)), am_SH, (J, K, am_RF b)))) from rfl) rfl
theorem s_JMath_min {X : am_X} {b : Bool} {J : am_J} {K : am_K} {x0 : Int} {x1 : Int} {r : Int} (h : f_JMath_min  x0 x1 = some r) : am_runs X T_JMath_min (0, [(0, am_iv x0), (1, am_iv x1)], [], am_SH, (J, K, am_RF b)) (some (am_iv r), am_SH, (J, K, am_RF b)) := by
  unfold f_JMath_min at h
  obtain ⟨g698, h⟩ := am_if_some h
  obtain ⟨g699, h⟩ := am_if_some h
  by_cases c700 : x1 < x0
  · rw [if_pos c700] at h
    refine am_r_t (show am_stepn X T_JMath_min 3 true (0, [(0, am_iv x0), (1, am_iv x1)], [], am_SH, (J, K, am_RF b)) = some (((decide (am_i32 x1) && decide (am_i32 x0)) && true), .inl (bif am_cb .gt x0 x1 then 9 else 5, [(0, am_iv x0), (1, am_iv x1)], [], am_SH, (J, K, am_RF b))) from rfl) (am_g2 g698 g699 rfl) (decide_eq_true c700) ?_
    obtain rfl := Option.some.inj h
    exact am_r_ret (show am_stepn X T_JMath_min 2 true (9, [(0, am_iv x0), (1, am_iv x1)], [], am_SH, (J, K, am_RF b)) = some (true, .inr (.inr (some (am_iv x1), am_SH, (J, K, am_RF b)))) from rfl) rfl
  · rw [if_neg c700] at h
    refine am_r_f (show am_stepn X T_JMath_min 3 true (0, [(0, am_iv x0), (1, am_iv x1)], [], am_SH, (J, K, am_RF b)) = some (((decide (am_i32 x1) && decide (am_i32 x0)) && true), .inl (bif am_cb .gt x0 x1 then 9 else 5, [(0, am_iv x0), (1, am_iv x1)], [], am_SH, (J, K, am_RF b))) from rfl) (am_g2 g698 g699 rfl) (decide_eq_false c700) ?_
    obtain rfl := Option.some.inj h
    exact am_r_ret (show am_stepn X T_JMath_min 3 true (5, [(0, am_iv x0), (1, am_iv x1)], [], am_SH, (J, K, am_RF b)) = some (true, .inr (.inr (some (am_iv x0), am_SH, (J, K, am_RF b)))) from rfl) rfl
theorem s_Search_land_L33 {X : am_X} {b : Bool}  : ∀ (y1 : Int64) (x3 : Int) (x4 : Int) (x5 : Int) (J : am_J) (K : am_K) (r : am_J × am_K), f_Search_land_L33    y1 x3 x4 x5 J K = some r → am_runs X T_Search_land (33, [(0, am_pv 26), (1, am_jv y1), (3, am_iv x3), (4, am_iv x4), (5, am_iv x5)], [], am_SH, (J, K, am_RF b)) (none, am_SH, (r.1, r.2, am_RF b)) := by
  intro y1 x3 x4 x5 J K r h
  unfold f_Search_land_L33 at h
  obtain ⟨q701, e702, h⟩ := am_bind_some h
  refine am_r_call (show am_stepn X T_Search_land 6 true (33, [(0, am_pv 26), (1, am_jv y1), (3, am_iv x3), (4, am_iv x4), (5, am_iv x5)], [], am_SH, (J, K, am_RF b)) = some (true, .inr (.inl (88, [am_iv x3, am_iv x4, am_iv x5], 3, 0, 0, 45, [(0, am_pv 26), (1, am_jv y1), (3, am_iv x3), (4, am_iv x4), (5, am_iv x5)], [am_pv 27], am_SH, (J, K, am_RF b)))) from rfl) rfl tb_Search_indexOf (s_Search_indexOf e702) ?_
  obtain ⟨g703, h⟩ := am_if_some h
  obtain rfl := Option.some.inj h
  exact am_r_ret (show am_stepn X T_Search_land 6 true (45, [(0, am_pv 26), (1, am_jv y1), (3, am_iv x3), (4, am_iv x4), (5, am_iv x5)], [am_iv q701, am_pv 27], am_SH, (J, K, am_RF b)) = some ((am_in q701 180 && (am_in q701 180 && true)), .inr (.inr (none, am_SH, (J, (am_ul K 27 q701.toNat ((K 27 q701.toNat) ||| y1)), am_RF b)))) from rfl) (am_gi g703 (am_gi g703 rfl))
theorem s_Search_land {X : am_X} {b : Bool} {y1 : Int64} {x3 : Int} {x4 : Int} {x5 : Int} {J : am_J} {K : am_K} {r : am_J × am_K} (h : f_Search_land  y1 x3 x4 x5 J K = some r) : am_runs X T_Search_land (0, [(0, am_pv 26), (1, am_jv y1), (3, am_iv x3), (4, am_iv x4), (5, am_iv x5)], [], am_SH, (J, K, am_RF b)) (none, am_SH, (r.1, r.2, am_RF b)) := by
  unfold f_Search_land at h
  obtain ⟨g704, h⟩ := am_if_some h
  by_cases c705 : (am_lcmp y1 (0 : Int64)) = 0
  · rw [if_pos c705] at h
    refine am_r_f (show am_stepn X T_Search_land 4 true (0, [(0, am_pv 26), (1, am_jv y1), (3, am_iv x3), (4, am_iv x4), (5, am_iv x5)], [], am_SH, (J, K, am_RF b)) = some ((decide (am_i32 (am_lcmp y1 (0 : Int64))) && true), .inl (bif am_cb .ne (am_lcmp y1 (0 : Int64)) 0 then 7 else 6, [(0, am_pv 26), (1, am_jv y1), (3, am_iv x3), (4, am_iv x4), (5, am_iv x5)], [], am_SH, (J, K, am_RF b))) from rfl) (am_g1 g704 rfl) (am_nd_t c705) ?_
    obtain rfl := Option.some.inj h
    exact am_r_ret (show am_stepn X T_Search_land 1 true (6, [(0, am_pv 26), (1, am_jv y1), (3, am_iv x3), (4, am_iv x4), (5, am_iv x5)], [], am_SH, (J, K, am_RF b)) = some (true, .inr (.inr (none, am_SH, (J, K, am_RF b)))) from rfl) rfl
  · rw [if_neg c705] at h
    refine am_r_t (show am_stepn X T_Search_land 4 true (0, [(0, am_pv 26), (1, am_jv y1), (3, am_iv x3), (4, am_iv x4), (5, am_iv x5)], [], am_SH, (J, K, am_RF b)) = some ((decide (am_i32 (am_lcmp y1 (0 : Int64))) && true), .inl (bif am_cb .ne (am_lcmp y1 (0 : Int64)) 0 then 7 else 6, [(0, am_pv 26), (1, am_jv y1), (3, am_iv x3), (4, am_iv x4), (5, am_iv x5)], [], am_SH, (J, K, am_RF b))) from rfl) (am_g1 g704 rfl) (am_nd_f c705) ?_
    obtain ⟨q706, e707, h⟩ := am_bind_some h
    refine am_r_call (show am_stepn X T_Search_land 4 true (7, [(0, am_pv 26), (1, am_jv y1), (3, am_iv x3), (4, am_iv x4), (5, am_iv x5)], [], am_SH, (J, K, am_RF b)) = some (true, .inr (.inl (93, [am_jv y1, am_iv (J 26 5)], 3, 0, 0, 15, [(0, am_pv 26), (1, am_jv y1), (3, am_iv x3), (4, am_iv x4), (5, am_iv x5)], [], am_SH, (J, K, am_RF b)))) from rfl) rfl tb_Search_bitsFrom (s_Search_bitsFrom e707) ?_
    obtain ⟨g708, h⟩ := am_if_some h
    by_cases c709 : (am_lcmp q706 (0 : Int64)) = 0
    · rw [if_pos c709] at h
      refine am_r_t (show am_stepn X T_Search_land 3 true (15, [(0, am_pv 26), (1, am_jv y1), (3, am_iv x3), (4, am_iv x4), (5, am_iv x5)], [am_jv q706], am_SH, (J, K, am_RF b)) = some ((decide (am_i32 (am_lcmp q706 (0 : Int64))) && true), .inl (bif am_cb .eq (am_lcmp q706 (0 : Int64)) 0 then 33 else 20, [(0, am_pv 26), (1, am_jv y1), (3, am_iv x3), (4, am_iv x4), (5, am_iv x5)], [], am_SH, (J, K, am_RF b))) from rfl) (am_g1 g708 rfl) (decide_eq_true c709) ?_
      exact s_Search_land_L33  _ _ _ _ _ _ _ h
    · rw [if_neg c709] at h
      refine am_r_f (show am_stepn X T_Search_land 3 true (15, [(0, am_pv 26), (1, am_jv y1), (3, am_iv x3), (4, am_iv x4), (5, am_iv x5)], [am_jv q706], am_SH, (J, K, am_RF b)) = some ((decide (am_i32 (am_lcmp q706 (0 : Int64))) && true), .inl (bif am_cb .eq (am_lcmp q706 (0 : Int64)) 0 then 33 else 20, [(0, am_pv 26), (1, am_jv y1), (3, am_iv x3), (4, am_iv x4), (5, am_iv x5)], [], am_SH, (J, K, am_RF b))) from rfl) (am_g1 g708 rfl) (decide_eq_false c709) ?_
      obtain ⟨q710, e711, h⟩ := am_bind_some h
      refine am_r_call (show am_stepn X T_Search_land 5 true (20, [(0, am_pv 26), (1, am_jv y1), (3, am_iv x3), (4, am_iv x4), (5, am_iv x5)], [], am_SH, (J, K, am_RF b)) = some (true, .inr (.inl (85, [am_iv (J 26 6), am_iv x5], 2, 0, 0, 30, [(0, am_pv 26), (1, am_jv y1), (3, am_iv x3), (4, am_iv x4), (5, am_iv x5)], [am_pv 26], am_SH, (J, K, am_RF b)))) from rfl) rfl tb_JMath_min (s_JMath_min e711) ?_
      refine am_r_go (show am_stepn X T_Search_land 1 true (30, [(0, am_pv 26), (1, am_jv y1), (3, am_iv x3), (4, am_iv x4), (5, am_iv x5)], [am_iv q710, am_pv 26], am_SH, (J, K, am_RF b)) = some (true, .inl (33, [(0, am_pv 26), (1, am_jv y1), (3, am_iv x3), (4, am_iv x4), (5, am_iv x5)], [], am_SH, ((am_up J 26 6 q710), K, am_RF b))) from rfl) rfl ?_
      exact s_Search_land_L33  _ _ _ _ _ _ _ h
theorem s_Search_moved_L50 {X : am_X} {b : Bool} {J : am_J} {K : am_K}  : ∀ (y3 : Int64) (s0 : Int) (r : Int64), f_Search_moved_L50    y3 s0 = some r → am_runs X T_Search_moved (50, [(3, am_jv y3)], [am_iv s0], am_SH, (J, K, am_RF b)) (some (am_jv r), am_SH, (J, K, am_RF b)) := by
  intro y3 s0 r h
  unfold f_Search_moved_L50 at h
  obtain ⟨g712, h⟩ := am_if_some h
  by_cases c713 : s0 = 0
  · rw [if_pos c713] at h
    refine am_r_t (show am_stepn X T_Search_moved 3 true (50, [(3, am_jv y3)], [am_iv s0], am_SH, (J, K, am_RF b)) = some ((decide (am_i32 s0) && true), .inl (bif am_cb .eq s0 0 then 63 else 57, [(3, am_jv y3), (5, am_iv s0)], [], am_SH, (J, K, am_RF b))) from rfl) (am_g1 g712 rfl) (decide_eq_true c713) ?_
    obtain rfl := Option.some.inj h
    exact am_r_ret (show am_stepn X T_Search_moved 2 true (63, [(3, am_jv y3), (5, am_iv s0)], [], am_SH, (J, K, am_RF b)) = some (true, .inr (.inr (some (am_jv y3), am_SH, (J, K, am_RF b)))) from rfl) rfl
  · rw [if_neg c713] at h
    refine am_r_f (show am_stepn X T_Search_moved 3 true (50, [(3, am_jv y3)], [am_iv s0], am_SH, (J, K, am_RF b)) = some ((decide (am_i32 s0) && true), .inl (bif am_cb .eq s0 0 then 63 else 57, [(3, am_jv y3), (5, am_iv s0)], [], am_SH, (J, K, am_RF b))) from rfl) (am_g1 g712 rfl) (decide_eq_false c713) ?_
    obtain rfl := Option.some.inj h
    exact am_r_ret (show am_stepn X T_Search_moved 5 true (57, [(3, am_jv y3), (5, am_iv s0)], [], am_SH, (J, K, am_RF b)) = some (true, .inr (.inr (some (am_jv (y3 ||| (1 : Int64))), am_SH, (J, K, am_RF b)))) from rfl) rfl
theorem s_Search_moved {X : am_X} {b : Bool} {J : am_J} {K : am_K} {y0 : Int64} {x2 : Int} {r : Int64} (h : f_Search_moved  y0 x2 = some r) : am_runs X T_Search_moved (0, [(0, am_jv y0), (2, am_iv x2)], [], am_SH, (J, K, am_RF b)) (some (am_jv r), am_SH, (J, K, am_RF b)) := by
  unfold f_Search_moved at h
  obtain ⟨g714, h⟩ := am_if_some h
  by_cases c715 : x2 < 0
  · rw [if_pos c715] at h
    refine am_r_t (show am_stepn X T_Search_moved 2 true (0, [(0, am_jv y0), (2, am_iv x2)], [], am_SH, (J, K, am_RF b)) = some ((decide (am_i32 x2) && true), .inl (bif am_cb .lt x2 0 then 18 else 4, [(0, am_jv y0), (2, am_iv x2)], [], am_SH, (J, K, am_RF b))) from rfl) (am_g1 g714 rfl) (decide_eq_true c715) ?_
    obtain ⟨q716, e717, h⟩ := am_bind_some h
    refine am_r_call (show am_stepn X T_Search_moved 4 true (18, [(0, am_jv y0), (2, am_iv x2)], [], am_SH, (J, K, am_RF b)) = some (true, .inr (.inl (93, [am_jv y0, am_iv (-x2)], 3, 0, 0, 24, [(0, am_jv y0), (2, am_iv x2)], [], am_SH, (J, K, am_RF b)))) from rfl) rfl tb_Search_bitsFrom (s_Search_bitsFrom e717) ?_
    obtain ⟨g718, h⟩ := am_if_some h
    by_cases c719 : (-x2) < 64
    · rw [if_pos c719] at h
      refine am_r_f (show am_stepn X T_Search_moved 5 true (24, [(0, am_jv y0), (2, am_iv x2)], [am_jv q716], am_SH, (J, K, am_RF b)) = some (((decide (am_i32 64) && decide (am_i32 (-x2))) && true), .inl (bif am_cb .ge (-x2) 64 then 45 else 32, [(0, am_jv y0), (2, am_iv x2), (3, am_jv q716)], [], am_SH, (J, K, am_RF b))) from rfl) (am_g2 (by decide) g718 rfl) (am_nd_t c719) ?_
      obtain ⟨g720, h⟩ := am_if_some h
      by_cases c721 : (am_lcmp (y0 &&& ((am_lshl (1 : Int64) (-x2)) - (1 : Int64))) (0 : Int64)) = 0
      · rw [if_pos c721] at h
        refine am_r_t (show am_stepn X T_Search_moved 11 true (32, [(0, am_jv y0), (2, am_iv x2), (3, am_jv q716)], [], am_SH, (J, K, am_RF b)) = some ((decide (am_i32 (am_lcmp (y0 &&& ((am_lshl (1 : Int64) (-x2)) - (1 : Int64))) (0 : Int64))) && true), .inl (bif am_cb .eq (am_lcmp (y0 &&& ((am_lshl (1 : Int64) (-x2)) - (1 : Int64))) (0 : Int64)) 0 then 49 else 45, [(0, am_jv y0), (2, am_iv x2), (3, am_jv q716)], [], am_SH, (J, K, am_RF b))) from rfl) (am_g1 g720 rfl) (decide_eq_true c721) ?_
        refine am_r_go (show am_stepn X T_Search_moved 1 true (49, [(0, am_jv y0), (2, am_iv x2), (3, am_jv q716)], [], am_SH, (J, K, am_RF b)) = some (true, .inl (50, [(3, am_jv q716)], [am_iv 0], am_SH, (J, K, am_RF b))) from rfl) rfl ?_
        exact s_Search_moved_L50  _ _ _ h
      · rw [if_neg c721] at h
        refine am_r_f (show am_stepn X T_Search_moved 11 true (32, [(0, am_jv y0), (2, am_iv x2), (3, am_jv q716)], [], am_SH, (J, K, am_RF b)) = some ((decide (am_i32 (am_lcmp (y0 &&& ((am_lshl (1 : Int64) (-x2)) - (1 : Int64))) (0 : Int64))) && true), .inl (bif am_cb .eq (am_lcmp (y0 &&& ((am_lshl (1 : Int64) (-x2)) - (1 : Int64))) (0 : Int64)) 0 then 49 else 45, [(0, am_jv y0), (2, am_iv x2), (3, am_jv q716)], [], am_SH, (J, K, am_RF b))) from rfl) (am_g1 g720 rfl) (decide_eq_false c721) ?_
        refine am_r_go (show am_stepn X T_Search_moved 2 true (45, [(0, am_jv y0), (2, am_iv x2), (3, am_jv q716)], [], am_SH, (J, K, am_RF b)) = some (true, .inl (50, [(3, am_jv q716)], [am_iv 1], am_SH, (J, K, am_RF b))) from rfl) rfl ?_
        exact s_Search_moved_L50  _ _ _ h
    · rw [if_neg c719] at h
      refine am_r_t (show am_stepn X T_Search_moved 5 true (24, [(0, am_jv y0), (2, am_iv x2)], [am_jv q716], am_SH, (J, K, am_RF b)) = some (((decide (am_i32 64) && decide (am_i32 (-x2))) && true), .inl (bif am_cb .ge (-x2) 64 then 45 else 32, [(0, am_jv y0), (2, am_iv x2), (3, am_jv q716)], [], am_SH, (J, K, am_RF b))) from rfl) (am_g2 (by decide) g718 rfl) (am_nd_f c719) ?_
      refine am_r_go (show am_stepn X T_Search_moved 2 true (45, [(0, am_jv y0), (2, am_iv x2), (3, am_jv q716)], [], am_SH, (J, K, am_RF b)) = some (true, .inl (50, [(3, am_jv q716)], [am_iv 1], am_SH, (J, K, am_RF b))) from rfl) rfl ?_
      exact s_Search_moved_L50  _ _ _ h
  · rw [if_neg c715] at h
    refine am_r_f (show am_stepn X T_Search_moved 2 true (0, [(0, am_jv y0), (2, am_iv x2)], [], am_SH, (J, K, am_RF b)) = some ((decide (am_i32 x2) && true), .inl (bif am_cb .lt x2 0 then 18 else 4, [(0, am_jv y0), (2, am_iv x2)], [], am_SH, (J, K, am_RF b))) from rfl) (am_g1 g714 rfl) (decide_eq_false c715) ?_
    by_cases c722 : x2 < 64
    · rw [if_pos c722] at h
      refine am_r_t (show am_stepn X T_Search_moved 3 true (4, [(0, am_jv y0), (2, am_iv x2)], [], am_SH, (J, K, am_RF b)) = some (((decide (am_i32 64) && decide (am_i32 x2)) && true), .inl (bif am_cb .lt x2 64 then 14 else 10, [(0, am_jv y0), (2, am_iv x2)], [], am_SH, (J, K, am_RF b))) from rfl) (am_g2 (by decide) g714 rfl) (decide_eq_true c722) ?_
      obtain rfl := Option.some.inj h
      exact am_r_ret (show am_stepn X T_Search_moved 4 true (14, [(0, am_jv y0), (2, am_iv x2)], [], am_SH, (J, K, am_RF b)) = some (true, .inr (.inr (some (am_jv (am_lshl y0 x2)), am_SH, (J, K, am_RF b)))) from rfl) rfl
    · rw [if_neg c722] at h
      refine am_r_f (show am_stepn X T_Search_moved 3 true (4, [(0, am_jv y0), (2, am_iv x2)], [], am_SH, (J, K, am_RF b)) = some (((decide (am_i32 64) && decide (am_i32 x2)) && true), .inl (bif am_cb .lt x2 64 then 14 else 10, [(0, am_jv y0), (2, am_iv x2)], [], am_SH, (J, K, am_RF b))) from rfl) (am_g2 (by decide) g714 rfl) (decide_eq_false c722) ?_
      obtain rfl := Option.some.inj h
      exact am_r_ret (show am_stepn X T_Search_moved 3 true (10, [(0, am_jv y0), (2, am_iv x2)], [], am_SH, (J, K, am_RF b)) = some (true, .inr (.inr (some (am_jv (0 : Int64)), am_SH, (J, K, am_RF b)))) from rfl) rfl
theorem s_Search_noteUp {X : am_X} {b : Bool} {K : am_K} {y1 : Int64} {x3 : Int} {x4 : Int} {J : am_J} {r : am_J} (h : f_Search_noteUp  y1 x3 x4 J = some r) : am_runs X T_Search_noteUp (0, [(0, am_pv 26), (1, am_jv y1), (3, am_iv x3), (4, am_iv x4)], [], am_SH, (J, K, am_RF b)) (none, am_SH, (r, K, am_RF b)) := by
  unfold f_Search_noteUp at h
  obtain ⟨g723, h⟩ := am_if_some h
  by_cases c724 : 0 < x3
  · rw [if_pos c724] at h
    refine am_r_f (show am_stepn X T_Search_noteUp 2 true (0, [(0, am_pv 26), (1, am_jv y1), (3, am_iv x3), (4, am_iv x4)], [], am_SH, (J, K, am_RF b)) = some ((decide (am_i32 x3) && true), .inl (bif am_cb .le x3 0 then 32 else 4, [(0, am_pv 26), (1, am_jv y1), (3, am_iv x3), (4, am_iv x4)], [], am_SH, (J, K, am_RF b))) from rfl) (am_g1 g723 rfl) (am_nd_t c724) ?_
    obtain ⟨q725, e726, h⟩ := am_bind_some h
    refine am_r_call (show am_stepn X T_Search_noteUp 6 true (4, [(0, am_pv 26), (1, am_jv y1), (3, am_iv x3), (4, am_iv x4)], [], am_SH, (J, K, am_RF b)) = some (true, .inr (.inl (93, [am_jv y1, am_iv ((J 26 4) - x3)], 3, 0, 0, 14, [(0, am_pv 26), (1, am_jv y1), (3, am_iv x3), (4, am_iv x4)], [], am_SH, (J, K, am_RF b)))) from rfl) rfl tb_Search_bitsFrom (s_Search_bitsFrom e726) ?_
    obtain ⟨g727, h⟩ := am_if_some h
    by_cases c728 : (am_lcmp q725 (0 : Int64)) = 0
    · rw [if_pos c728] at h
      refine am_r_t (show am_stepn X T_Search_noteUp 3 true (14, [(0, am_pv 26), (1, am_jv y1), (3, am_iv x3), (4, am_iv x4)], [am_jv q725], am_SH, (J, K, am_RF b)) = some ((decide (am_i32 (am_lcmp q725 (0 : Int64))) && true), .inl (bif am_cb .eq (am_lcmp q725 (0 : Int64)) 0 then 32 else 19, [(0, am_pv 26), (1, am_jv y1), (3, am_iv x3), (4, am_iv x4)], [], am_SH, (J, K, am_RF b))) from rfl) (am_g1 g727 rfl) (decide_eq_true c728) ?_
      obtain rfl := Option.some.inj h
      exact am_r_ret (show am_stepn X T_Search_noteUp 1 true (32, [(0, am_pv 26), (1, am_jv y1), (3, am_iv x3), (4, am_iv x4)], [], am_SH, (J, K, am_RF b)) = some (true, .inr (.inr (none, am_SH, (J, K, am_RF b)))) from rfl) rfl
    · rw [if_neg c728] at h
      refine am_r_f (show am_stepn X T_Search_noteUp 3 true (14, [(0, am_pv 26), (1, am_jv y1), (3, am_iv x3), (4, am_iv x4)], [am_jv q725], am_SH, (J, K, am_RF b)) = some ((decide (am_i32 (am_lcmp q725 (0 : Int64))) && true), .inl (bif am_cb .eq (am_lcmp q725 (0 : Int64)) 0 then 32 else 19, [(0, am_pv 26), (1, am_jv y1), (3, am_iv x3), (4, am_iv x4)], [], am_SH, (J, K, am_RF b))) from rfl) (am_g1 g727 rfl) (decide_eq_false c728) ?_
      obtain ⟨q729, e730, h⟩ := am_bind_some h
      refine am_r_call (show am_stepn X T_Search_noteUp 5 true (19, [(0, am_pv 26), (1, am_jv y1), (3, am_iv x3), (4, am_iv x4)], [], am_SH, (J, K, am_RF b)) = some (true, .inr (.inl (85, [am_iv (J 26 6), am_iv x4], 2, 0, 0, 29, [(0, am_pv 26), (4, am_iv x4)], [am_pv 26], am_SH, (J, K, am_RF b)))) from rfl) rfl tb_JMath_min (s_JMath_min e730) ?_
      obtain rfl := Option.some.inj h
      exact am_r_ret (show am_stepn X T_Search_noteUp 2 true (29, [(0, am_pv 26), (4, am_iv x4)], [am_iv q729, am_pv 26], am_SH, (J, K, am_RF b)) = some (true, .inr (.inr (none, am_SH, ((am_up J 26 6 q729), K, am_RF b)))) from rfl) rfl
  · rw [if_neg c724] at h
    refine am_r_t (show am_stepn X T_Search_noteUp 2 true (0, [(0, am_pv 26), (1, am_jv y1), (3, am_iv x3), (4, am_iv x4)], [], am_SH, (J, K, am_RF b)) = some ((decide (am_i32 x3) && true), .inl (bif am_cb .le x3 0 then 32 else 4, [(0, am_pv 26), (1, am_jv y1), (3, am_iv x3), (4, am_iv x4)], [], am_SH, (J, K, am_RF b))) from rfl) (am_g1 g723 rfl) (am_nd_f c724) ?_
    obtain rfl := Option.some.inj h
    exact am_r_ret (show am_stepn X T_Search_noteUp 1 true (32, [(0, am_pv 26), (1, am_jv y1), (3, am_iv x3), (4, am_iv x4)], [], am_SH, (J, K, am_RF b)) = some (true, .inr (.inr (none, am_SH, (J, K, am_RF b)))) from rfl) rfl
