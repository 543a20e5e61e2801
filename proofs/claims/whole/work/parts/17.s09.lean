theorem s_UpRiver_torn {X : am_X} {b : Bool} {J : am_J} {K : am_K}  {r : Int} (h : f_UpRiver_torn J  = some r) : am_runs X T_UpRiver_torn (0, [(0, am_pv 0)], [], am_SH, (J, K, am_RF b)) (some (am_iv r), am_SH, (J, K, am_RF b)) := by
  unfold f_UpRiver_torn at h
  obtain rfl := Option.some.inj h
  exact am_r_ret (show am_stepn X T_UpRiver_torn 3 true (0, [(0, am_pv 0)], [], am_SH, (J, K, am_RF b)) = some (true, .inr (.inr (some (am_iv (J 0 9)), am_SH, (J, K, am_RF b)))) from rfl) rfl
theorem s_UpRiver_howMany_L10_13_ {X : am_X} {b : Bool} {J : am_J} {K : am_K}  : ∀ (n : Nat) (x1 : Int) (x3 : Int) (x4 : Int) (r : Int), f_UpRiver_howMany_L10 13 J  n x1 x3 x4 = some r → am_runs X T_UpRiver_howMany (10, [(1, am_iv x1), (2, am_pv 13), (3, am_iv x3), (4, am_iv x4)], [], am_SH, (J, K, am_RF b)) (some (am_iv r), am_SH, (J, K, am_RF b)) := by
  intro n
  induction n with
  | zero =>
    intro x1 x3 x4 r h
    cases h
  | succ n ih =>
    intro x1 x3 x4 r h
    rw [f_UpRiver_howMany_L10.eq_2] at h
    obtain ⟨g1505, h⟩ := am_if_some h
    obtain ⟨g1506, h⟩ := am_if_some h
    by_cases c1507 : x4 < x3
    · rw [if_pos c1507] at h
      refine am_r_f (show am_stepn X T_UpRiver_howMany 3 true (10, [(1, am_iv x1), (2, am_pv 13), (3, am_iv x3), (4, am_iv x4)], [], am_SH, (J, K, am_RF b)) = some (((decide (am_i32 x3) && decide (am_i32 x4)) && true), .inl (bif am_cb .ge x4 x3 then 36 else 16, [(1, am_iv x1), (2, am_pv 13), (3, am_iv x3), (4, am_iv x4)], [], am_SH, (J, K, am_RF b))) from rfl) (am_g2 g1505 g1506 rfl) (am_nd_t c1507) ?_
      obtain ⟨g1508, h⟩ := am_if_some h
      obtain ⟨q1509, e1510, h⟩ := am_bind_some h
      refine am_r_call (show am_stepn X T_UpRiver_howMany 7 true (16, [(1, am_iv x1), (2, am_pv 13), (3, am_iv x3), (4, am_iv x4)], [], am_SH, (J, K, am_RF b)) = some ((am_in x4 (am_ln 13) && true), .inr (.inl (57, [am_iv (J 13 x4.toNat)], 1, 0, 0, 28, [(1, am_iv x1), (2, am_pv 13), (3, am_iv x3), (4, am_iv x4), (5, am_iv (J 13 x4.toNat))], [am_iv x1], am_SH, (J, K, am_RF b)))) from rfl) (am_gi g1508 rfl) tb_UpRiver_asInt (s_UpRiver_asInt e1510) ?_
      refine am_r_go (show am_stepn X T_UpRiver_howMany 4 true (28, [(1, am_iv x1), (2, am_pv 13), (3, am_iv x3), (4, am_iv x4), (5, am_iv (J 13 x4.toNat))], [am_iv q1509, am_iv x1], am_SH, (J, K, am_RF b)) = some (true, .inl (10, [(1, am_iv (x1 + q1509)), (2, am_pv 13), (3, am_iv x3), (4, am_iv (x4 + 1)), (5, am_iv (J 13 x4.toNat))], [], am_SH, (J, K, am_RF b))) from rfl) rfl ?_
      refine am_r_eq (σ' := (10, [(1, am_iv (x1 + q1509)), (2, am_pv 13), (3, am_iv x3), (4, am_iv (x4 + 1))], [], am_SH, (J, K, am_RF b))) rfl ?_
      exact ih _ _ _ _ h
    · rw [if_neg c1507] at h
      refine am_r_t (show am_stepn X T_UpRiver_howMany 3 true (10, [(1, am_iv x1), (2, am_pv 13), (3, am_iv x3), (4, am_iv x4)], [], am_SH, (J, K, am_RF b)) = some (((decide (am_i32 x3) && decide (am_i32 x4)) && true), .inl (bif am_cb .ge x4 x3 then 36 else 16, [(1, am_iv x1), (2, am_pv 13), (3, am_iv x3), (4, am_iv x4)], [], am_SH, (J, K, am_RF b))) from rfl) (am_g2 g1505 g1506 rfl) (am_nd_f c1507) ?_
      obtain rfl := Option.some.inj h
      exact am_r_ret (show am_stepn X T_UpRiver_howMany 2 true (36, [(1, am_iv x1), (2, am_pv 13), (3, am_iv x3), (4, am_iv x4)], [], am_SH, (J, K, am_RF b)) = some (true, .inr (.inr (some (am_iv x1), am_SH, (J, K, am_RF b)))) from rfl) rfl
theorem s_UpRiver_howMany_13_ {X : am_X} {b : Bool} {J : am_J} {K : am_K}  {r : Int} (h : f_UpRiver_howMany 13 J  = some r) : am_runs X T_UpRiver_howMany (0, [(0, am_pv 13)], [], am_SH, (J, K, am_RF b)) (some (am_iv r), am_SH, (J, K, am_RF b)) := by
  unfold f_UpRiver_howMany at h
  refine am_r_go (show am_stepn X T_UpRiver_howMany 9 true (0, [(0, am_pv 13)], [], am_SH, (J, K, am_RF b)) = some (true, .inl (10, [(0, am_pv 13), (1, am_iv 0), (2, am_pv 13), (3, am_iv (am_ln 13 : Int)), (4, am_iv 0)], [], am_SH, (J, K, am_RF b))) from rfl) rfl ?_
  refine am_r_eq (σ' := (10, [(1, am_iv 0), (2, am_pv 13), (3, am_iv (am_ln 13 : Int)), (4, am_iv 0)], [], am_SH, (J, K, am_RF b))) rfl ?_
  exact s_UpRiver_howMany_L10_13_  _ _ _ _ _ h
theorem s_UpRiver_howMany_L10_15_ {X : am_X} {b : Bool} {J : am_J} {K : am_K}  : ∀ (n : Nat) (x1 : Int) (x3 : Int) (x4 : Int) (r : Int), f_UpRiver_howMany_L10 15 J  n x1 x3 x4 = some r → am_runs X T_UpRiver_howMany (10, [(1, am_iv x1), (2, am_pv 15), (3, am_iv x3), (4, am_iv x4)], [], am_SH, (J, K, am_RF b)) (some (am_iv r), am_SH, (J, K, am_RF b)) := by
  intro n
  induction n with
  | zero =>
    intro x1 x3 x4 r h
    cases h
  | succ n ih =>
    intro x1 x3 x4 r h
    rw [f_UpRiver_howMany_L10.eq_2] at h
    obtain ⟨g1505, h⟩ := am_if_some h
    obtain ⟨g1506, h⟩ := am_if_some h
    by_cases c1507 : x4 < x3
    · rw [if_pos c1507] at h
      refine am_r_f (show am_stepn X T_UpRiver_howMany 3 true (10, [(1, am_iv x1), (2, am_pv 15), (3, am_iv x3), (4, am_iv x4)], [], am_SH, (J, K, am_RF b)) = some (((decide (am_i32 x3) && decide (am_i32 x4)) && true), .inl (bif am_cb .ge x4 x3 then 36 else 16, [(1, am_iv x1), (2, am_pv 15), (3, am_iv x3), (4, am_iv x4)], [], am_SH, (J, K, am_RF b))) from rfl) (am_g2 g1505 g1506 rfl) (am_nd_t c1507) ?_
      obtain ⟨g1508, h⟩ := am_if_some h
      obtain ⟨q1509, e1510, h⟩ := am_bind_some h
      refine am_r_call (show am_stepn X T_UpRiver_howMany 7 true (16, [(1, am_iv x1), (2, am_pv 15), (3, am_iv x3), (4, am_iv x4)], [], am_SH, (J, K, am_RF b)) = some ((am_in x4 (am_ln 15) && true), .inr (.inl (57, [am_iv (J 15 x4.toNat)], 1, 0, 0, 28, [(1, am_iv x1), (2, am_pv 15), (3, am_iv x3), (4, am_iv x4), (5, am_iv (J 15 x4.toNat))], [am_iv x1], am_SH, (J, K, am_RF b)))) from rfl) (am_gi g1508 rfl) tb_UpRiver_asInt (s_UpRiver_asInt e1510) ?_
      refine am_r_go (show am_stepn X T_UpRiver_howMany 4 true (28, [(1, am_iv x1), (2, am_pv 15), (3, am_iv x3), (4, am_iv x4), (5, am_iv (J 15 x4.toNat))], [am_iv q1509, am_iv x1], am_SH, (J, K, am_RF b)) = some (true, .inl (10, [(1, am_iv (x1 + q1509)), (2, am_pv 15), (3, am_iv x3), (4, am_iv (x4 + 1)), (5, am_iv (J 15 x4.toNat))], [], am_SH, (J, K, am_RF b))) from rfl) rfl ?_
      refine am_r_eq (σ' := (10, [(1, am_iv (x1 + q1509)), (2, am_pv 15), (3, am_iv x3), (4, am_iv (x4 + 1))], [], am_SH, (J, K, am_RF b))) rfl ?_
      exact ih _ _ _ _ h
    · rw [if_neg c1507] at h
      refine am_r_t (show am_stepn X T_UpRiver_howMany 3 true (10, [(1, am_iv x1), (2, am_pv 15), (3, am_iv x3), (4, am_iv x4)], [], am_SH, (J, K, am_RF b)) = some (((decide (am_i32 x3) && decide (am_i32 x4)) && true), .inl (bif am_cb .ge x4 x3 then 36 else 16, [(1, am_iv x1), (2, am_pv 15), (3, am_iv x3), (4, am_iv x4)], [], am_SH, (J, K, am_RF b))) from rfl) (am_g2 g1505 g1506 rfl) (am_nd_f c1507) ?_
      obtain rfl := Option.some.inj h
      exact am_r_ret (show am_stepn X T_UpRiver_howMany 2 true (36, [(1, am_iv x1), (2, am_pv 15), (3, am_iv x3), (4, am_iv x4)], [], am_SH, (J, K, am_RF b)) = some (true, .inr (.inr (some (am_iv x1), am_SH, (J, K, am_RF b)))) from rfl) rfl
theorem s_UpRiver_howMany_15_ {X : am_X} {b : Bool} {J : am_J} {K : am_K}  {r : Int} (h : f_UpRiver_howMany 15 J  = some r) : am_runs X T_UpRiver_howMany (0, [(0, am_pv 15)], [], am_SH, (J, K, am_RF b)) (some (am_iv r), am_SH, (J, K, am_RF b)) := by
  unfold f_UpRiver_howMany at h
  refine am_r_go (show am_stepn X T_UpRiver_howMany 9 true (0, [(0, am_pv 15)], [], am_SH, (J, K, am_RF b)) = some (true, .inl (10, [(0, am_pv 15), (1, am_iv 0), (2, am_pv 15), (3, am_iv (am_ln 15 : Int)), (4, am_iv 0)], [], am_SH, (J, K, am_RF b))) from rfl) rfl ?_
  refine am_r_eq (σ' := (10, [(1, am_iv 0), (2, am_pv 15), (3, am_iv (am_ln 15 : Int)), (4, am_iv 0)], [], am_SH, (J, K, am_RF b))) rfl ?_
  exact s_UpRiver_howMany_L10_15_  _ _ _ _ _ h
theorem s_UpRiver_howMany_L10_39_ {X : am_X} {b : Bool} {J : am_J} {K : am_K}  : ∀ (n : Nat) (x1 : Int) (x3 : Int) (x4 : Int) (r : Int), f_UpRiver_howMany_L10 39 J  n x1 x3 x4 = some r → am_runs X T_UpRiver_howMany (10, [(1, am_iv x1), (2, am_pv 39), (3, am_iv x3), (4, am_iv x4)], [], am_SH, (J, K, am_RF b)) (some (am_iv r), am_SH, (J, K, am_RF b)) := by
  intro n
  induction n with
  | zero =>
    intro x1 x3 x4 r h
    cases h
  | succ n ih =>
    intro x1 x3 x4 r h
    rw [f_UpRiver_howMany_L10.eq_2] at h
    obtain ⟨g1505, h⟩ := am_if_some h
    obtain ⟨g1506, h⟩ := am_if_some h
    by_cases c1507 : x4 < x3
    · rw [if_pos c1507] at h
      refine am_r_f (show am_stepn X T_UpRiver_howMany 3 true (10, [(1, am_iv x1), (2, am_pv 39), (3, am_iv x3), (4, am_iv x4)], [], am_SH, (J, K, am_RF b)) = some (((decide (am_i32 x3) && decide (am_i32 x4)) && true), .inl (bif am_cb .ge x4 x3 then 36 else 16, [(1, am_iv x1), (2, am_pv 39), (3, am_iv x3), (4, am_iv x4)], [], am_SH, (J, K, am_RF b))) from rfl) (am_g2 g1505 g1506 rfl) (am_nd_t c1507) ?_
      obtain ⟨g1508, h⟩ := am_if_some h
      obtain ⟨q1509, e1510, h⟩ := am_bind_some h
      refine am_r_call (show am_stepn X T_UpRiver_howMany 7 true (16, [(1, am_iv x1), (2, am_pv 39), (3, am_iv x3), (4, am_iv x4)], [], am_SH, (J, K, am_RF b)) = some ((am_in x4 (am_ln 39) && true), .inr (.inl (57, [am_iv (J 39 x4.toNat)], 1, 0, 0, 28, [(1, am_iv x1), (2, am_pv 39), (3, am_iv x3), (4, am_iv x4), (5, am_iv (J 39 x4.toNat))], [am_iv x1], am_SH, (J, K, am_RF b)))) from rfl) (am_gi g1508 rfl) tb_UpRiver_asInt (s_UpRiver_asInt e1510) ?_
      refine am_r_go (show am_stepn X T_UpRiver_howMany 4 true (28, [(1, am_iv x1), (2, am_pv 39), (3, am_iv x3), (4, am_iv x4), (5, am_iv (J 39 x4.toNat))], [am_iv q1509, am_iv x1], am_SH, (J, K, am_RF b)) = some (true, .inl (10, [(1, am_iv (x1 + q1509)), (2, am_pv 39), (3, am_iv x3), (4, am_iv (x4 + 1)), (5, am_iv (J 39 x4.toNat))], [], am_SH, (J, K, am_RF b))) from rfl) rfl ?_
      refine am_r_eq (σ' := (10, [(1, am_iv (x1 + q1509)), (2, am_pv 39), (3, am_iv x3), (4, am_iv (x4 + 1))], [], am_SH, (J, K, am_RF b))) rfl ?_
      exact ih _ _ _ _ h
    · rw [if_neg c1507] at h
      refine am_r_t (show am_stepn X T_UpRiver_howMany 3 true (10, [(1, am_iv x1), (2, am_pv 39), (3, am_iv x3), (4, am_iv x4)], [], am_SH, (J, K, am_RF b)) = some (((decide (am_i32 x3) && decide (am_i32 x4)) && true), .inl (bif am_cb .ge x4 x3 then 36 else 16, [(1, am_iv x1), (2, am_pv 39), (3, am_iv x3), (4, am_iv x4)], [], am_SH, (J, K, am_RF b))) from rfl) (am_g2 g1505 g1506 rfl) (am_nd_f c1507) ?_
      obtain rfl := Option.some.inj h
      exact am_r_ret (show am_stepn X T_UpRiver_howMany 2 true (36, [(1, am_iv x1), (2, am_pv 39), (3, am_iv x3), (4, am_iv x4)], [], am_SH, (J, K, am_RF b)) = some (true, .inr (.inr (some (am_iv x1), am_SH, (J, K, am_RF b)))) from rfl) rfl
theorem s_UpRiver_howMany_39_ {X : am_X} {b : Bool} {J : am_J} {K : am_K}  {r : Int} (h : f_UpRiver_howMany 39 J  = some r) : am_runs X T_UpRiver_howMany (0, [(0, am_pv 39)], [], am_SH, (J, K, am_RF b)) (some (am_iv r), am_SH, (J, K, am_RF b)) := by
  unfold f_UpRiver_howMany at h
  refine am_r_go (show am_stepn X T_UpRiver_howMany 9 true (0, [(0, am_pv 39)], [], am_SH, (J, K, am_RF b)) = some (true, .inl (10, [(0, am_pv 39), (1, am_iv 0), (2, am_pv 39), (3, am_iv (am_ln 39 : Int)), (4, am_iv 0)], [], am_SH, (J, K, am_RF b))) from rfl) rfl ?_
  refine am_r_eq (σ' := (10, [(1, am_iv 0), (2, am_pv 39), (3, am_iv (am_ln 39 : Int)), (4, am_iv 0)], [], am_SH, (J, K, am_RF b))) rfl ?_
  exact s_UpRiver_howMany_L10_39_  _ _ _ _ _ h
theorem s_UpRiver_howMany_L10_41_ {X : am_X} {b : Bool} {J : am_J} {K : am_K}  : ∀ (n : Nat) (x1 : Int) (x3 : Int) (x4 : Int) (r : Int), f_UpRiver_howMany_L10 41 J  n x1 x3 x4 = some r → am_runs X T_UpRiver_howMany (10, [(1, am_iv x1), (2, am_pv 41), (3, am_iv x3), (4, am_iv x4)], [], am_SH, (J, K, am_RF b)) (some (am_iv r), am_SH, (J, K, am_RF b)) := by
  intro n
  induction n with
  | zero =>
    intro x1 x3 x4 r h
    cases h
  | succ n ih =>
    intro x1 x3 x4 r h
    rw [f_UpRiver_howMany_L10.eq_2] at h
    obtain ⟨g1505, h⟩ := am_if_some h
    obtain ⟨g1506, h⟩ := am_if_some h
    by_cases c1507 : x4 < x3
    · rw [if_pos c1507] at h
      refine am_r_f (show am_stepn X T_UpRiver_howMany 3 true (10, [(1, am_iv x1), (2, am_pv 41), (3, am_iv x3), (4, am_iv x4)], [], am_SH, (J, K, am_RF b)) = some (((decide (am_i32 x3) && decide (am_i32 x4)) && true), .inl (bif am_cb .ge x4 x3 then 36 else 16, [(1, am_iv x1), (2, am_pv 41), (3, am_iv x3), (4, am_iv x4)], [], am_SH, (J, K, am_RF b))) from rfl) (am_g2 g1505 g1506 rfl) (am_nd_t c1507) ?_
      obtain ⟨g1508, h⟩ := am_if_some h
      obtain ⟨q1509, e1510, h⟩ := am_bind_some h
      refine am_r_call (show am_stepn X T_UpRiver_howMany 7 true (16, [(1, am_iv x1), (2, am_pv 41), (3, am_iv x3), (4, am_iv x4)], [], am_SH, (J, K, am_RF b)) = some ((am_in x4 (am_ln 41) && true), .inr (.inl (57, [am_iv (J 41 x4.toNat)], 1, 0, 0, 28, [(1, am_iv x1), (2, am_pv 41), (3, am_iv x3), (4, am_iv x4), (5, am_iv (J 41 x4.toNat))], [am_iv x1], am_SH, (J, K, am_RF b)))) from rfl) (am_gi g1508 rfl) tb_UpRiver_asInt (s_UpRiver_asInt e1510) ?_
      refine am_r_go (show am_stepn X T_UpRiver_howMany 4 true (28, [(1, am_iv x1), (2, am_pv 41), (3, am_iv x3), (4, am_iv x4), (5, am_iv (J 41 x4.toNat))], [am_iv q1509, am_iv x1], am_SH, (J, K, am_RF b)) = some (true, .inl (10, [(1, am_iv (x1 + q1509)), (2, am_pv 41), (3, am_iv x3), (4, am_iv (x4 + 1)), (5, am_iv (J 41 x4.toNat))], [], am_SH, (J, K, am_RF b))) from rfl) rfl ?_
      refine am_r_eq (σ' := (10, [(1, am_iv (x1 + q1509)), (2, am_pv 41), (3, am_iv x3), (4, am_iv (x4 + 1))], [], am_SH, (J, K, am_RF b))) rfl ?_
      exact ih _ _ _ _ h
    · rw [if_neg c1507] at h
      refine am_r_t (show am_stepn X T_UpRiver_howMany 3 true (10, [(1, am_iv x1), (2, am_pv 41), (3, am_iv x3), (4, am_iv x4)], [], am_SH, (J, K, am_RF b)) = some (((decide (am_i32 x3) && decide (am_i32 x4)) && true), .inl (bif am_cb .ge x4 x3 then 36 else 16, [(1, am_iv x1), (2, am_pv 41), (3, am_iv x3), (4, am_iv x4)], [], am_SH, (J, K, am_RF b))) from rfl) (am_g2 g1505 g1506 rfl) (am_nd_f c1507) ?_
      obtain rfl := Option.some.inj h
      exact am_r_ret (show am_stepn X T_UpRiver_howMany 2 true (36, [(1, am_iv x1), (2, am_pv 41), (3, am_iv x3), (4, am_iv x4)], [], am_SH, (J, K, am_RF b)) = some (true, .inr (.inr (some (am_iv x1), am_SH, (J, K, am_RF b)))) from rfl) rfl
theorem s_UpRiver_howMany_41_ {X : am_X} {b : Bool} {J : am_J} {K : am_K}  {r : Int} (h : f_UpRiver_howMany 41 J  = some r) : am_runs X T_UpRiver_howMany (0, [(0, am_pv 41)], [], am_SH, (J, K, am_RF b)) (some (am_iv r), am_SH, (J, K, am_RF b)) := by
  unfold f_UpRiver_howMany at h
  refine am_r_go (show am_stepn X T_UpRiver_howMany 9 true (0, [(0, am_pv 41)], [], am_SH, (J, K, am_RF b)) = some (true, .inl (10, [(0, am_pv 41), (1, am_iv 0), (2, am_pv 41), (3, am_iv (am_ln 41 : Int)), (4, am_iv 0)], [], am_SH, (J, K, am_RF b))) from rfl) rfl ?_
  refine am_r_eq (σ' := (10, [(1, am_iv 0), (2, am_pv 41), (3, am_iv (am_ln 41 : Int)), (4, am_iv 0)], [], am_SH, (J, K, am_RF b))) rfl ?_
  exact s_UpRiver_howMany_L10_41_  _ _ _ _ _ h
theorem s_UpRiver_howMany {X : am_X} {b : Bool} {o1 : Nat} (ho : o1 = 13 ∨ o1 = 15 ∨ o1 = 39 ∨ o1 = 41) {J : am_J} {K : am_K}  {r : Int} (h : f_UpRiver_howMany o1 J  = some r) : am_runs X T_UpRiver_howMany (0, [(0, am_pv o1)], [], am_SH, (J, K, am_RF b)) (some (am_iv r), am_SH, (J, K, am_RF b)) := by
  rcases ho with rfl | rfl | rfl | rfl
  · skip
    exact s_UpRiver_howMany_13_ h
  · skip
    exact s_UpRiver_howMany_15_ h
  · skip
    exact s_UpRiver_howMany_39_ h
  · skip
    exact s_UpRiver_howMany_41_ h
theorem s_UpRiver_count_f {X : am_X} {J : am_J} {K : am_K} {x1 : Int} {r : Int} (h : f_UpRiver_count false J x1 = some r) : am_runs X T_UpRiver_count (0, [(0, am_pv 0), (1, am_iv x1)], [], am_SH, (J, K, am_RF false)) (some (am_iv r), am_SH, (J, K, am_RF false)) := by
  unfold f_UpRiver_count at h
  obtain ⟨g1511, h⟩ := am_if_some h
  by_cases c1512 : x1 = 0
  · rw [if_pos c1512] at h
    refine am_r_sw (show am_stepn X T_UpRiver_count 2 true (0, [(0, am_pv 0), (1, am_iv x1)], [], am_SH, (J, K, am_RF false)) = some ((decide (am_i32 x1) && true), .inl (am_sw 0 6 [135, 44, 55, 66, 77, 88, 114, 125] x1, [(0, am_pv 0), (1, am_iv x1)], [], am_SH, (J, K, am_RF false))) from rfl) (am_g1 g1511 rfl) (p := 44) (by rw [c1512]; rfl) ?_
    obtain rfl := Option.some.inj h
    exact am_r_ret (show am_stepn X T_UpRiver_count 5 true (44, [(0, am_pv 0), (1, am_iv x1)], [], am_SH, (J, K, am_RF false)) = some (true, .inr (.inr (some (am_iv (J 19 2)), am_SH, (J, K, am_RF false)))) from rfl) rfl
  · rw [if_neg c1512] at h
    by_cases c1513 : x1 = 1
    · rw [if_pos c1513] at h
      refine am_r_sw (show am_stepn X T_UpRiver_count 2 true (0, [(0, am_pv 0), (1, am_iv x1)], [], am_SH, (J, K, am_RF false)) = some ((decide (am_i32 x1) && true), .inl (am_sw 0 6 [135, 44, 55, 66, 77, 88, 114, 125] x1, [(0, am_pv 0), (1, am_iv x1)], [], am_SH, (J, K, am_RF false))) from rfl) (am_g1 g1511 rfl) (p := 55) (by rw [c1513]; rfl) ?_
      obtain rfl := Option.some.inj h
      exact am_r_ret (show am_stepn X T_UpRiver_count 5 true (55, [(0, am_pv 0), (1, am_iv x1)], [], am_SH, (J, K, am_RF false)) = some (true, .inr (.inr (some (am_iv (J 22 1)), am_SH, (J, K, am_RF false)))) from rfl) rfl
    · rw [if_neg c1513] at h
      by_cases c1514 : x1 = 2
      · rw [if_pos c1514] at h
        refine am_r_sw (show am_stepn X T_UpRiver_count 2 true (0, [(0, am_pv 0), (1, am_iv x1)], [], am_SH, (J, K, am_RF false)) = some ((decide (am_i32 x1) && true), .inl (am_sw 0 6 [135, 44, 55, 66, 77, 88, 114, 125] x1, [(0, am_pv 0), (1, am_iv x1)], [], am_SH, (J, K, am_RF false))) from rfl) (am_g1 g1511 rfl) (p := 66) (by rw [c1514]; rfl) ?_
        obtain ⟨q1515, e1516, h⟩ := am_bind_some h
        refine am_r_call (show am_stepn X T_UpRiver_count 4 true (66, [(0, am_pv 0), (1, am_iv x1)], [], am_SH, (J, K, am_RF false)) = some (true, .inr (.inl (147, [am_pv (am_rv false + 9)], 6, 0, 0, 76, [(0, am_pv 0)], [], am_SH, (J, K, am_RF false)))) from rfl) rfl tb_UpRiver_howMany (s_UpRiver_howMany (by decide) e1516) ?_
        obtain rfl := Option.some.inj h
        exact am_r_ret (show am_stepn X T_UpRiver_count 1 true (76, [(0, am_pv 0)], [am_iv q1515], am_SH, (J, K, am_RF false)) = some (true, .inr (.inr (some (am_iv q1515), am_SH, (J, K, am_RF false)))) from rfl) rfl
      · rw [if_neg c1514] at h
        by_cases c1517 : x1 = 3
        · rw [if_pos c1517] at h
          refine am_r_sw (show am_stepn X T_UpRiver_count 2 true (0, [(0, am_pv 0), (1, am_iv x1)], [], am_SH, (J, K, am_RF false)) = some ((decide (am_i32 x1) && true), .inl (am_sw 0 6 [135, 44, 55, 66, 77, 88, 114, 125] x1, [(0, am_pv 0), (1, am_iv x1)], [], am_SH, (J, K, am_RF false))) from rfl) (am_g1 g1511 rfl) (p := 77) (by rw [c1517]; rfl) ?_
          obtain ⟨q1518, e1519, h⟩ := am_bind_some h
          refine am_r_call (show am_stepn X T_UpRiver_count 4 true (77, [(0, am_pv 0), (1, am_iv x1)], [], am_SH, (J, K, am_RF false)) = some (true, .inr (.inl (147, [am_pv (am_rv false + 7)], 6, 0, 0, 87, [(0, am_pv 0)], [], am_SH, (J, K, am_RF false)))) from rfl) rfl tb_UpRiver_howMany (s_UpRiver_howMany (by decide) e1519) ?_
          obtain rfl := Option.some.inj h
          exact am_r_ret (show am_stepn X T_UpRiver_count 1 true (87, [(0, am_pv 0)], [am_iv q1518], am_SH, (J, K, am_RF false)) = some (true, .inr (.inr (some (am_iv q1518), am_SH, (J, K, am_RF false)))) from rfl) rfl
        · rw [if_neg c1517] at h
          by_cases c1520 : x1 = 4
          · rw [if_pos c1520] at h
            refine am_r_sw (show am_stepn X T_UpRiver_count 2 true (0, [(0, am_pv 0), (1, am_iv x1)], [], am_SH, (J, K, am_RF false)) = some ((decide (am_i32 x1) && true), .inl (am_sw 0 6 [135, 44, 55, 66, 77, 88, 114, 125] x1, [(0, am_pv 0), (1, am_iv x1)], [], am_SH, (J, K, am_RF false))) from rfl) (am_g1 g1511 rfl) (p := 88) (by rw [c1520]; rfl) ?_
            obtain ⟨q1521, e1522, h⟩ := am_bind_some h
            refine am_r_call (show am_stepn X T_UpRiver_count 6 true (88, [(0, am_pv 0), (1, am_iv x1)], [], am_SH, (J, K, am_RF false)) = some ((am_in 0 2 && true), .inr (.inl (57, [am_iv (J 43 3)], 1, 0, 0, 100, [(0, am_pv 0)], [], am_SH, (J, K, am_RF false)))) from rfl) (am_gi (by decide) rfl) tb_UpRiver_asInt (s_UpRiver_asInt e1522) ?_
            obtain ⟨q1523, e1524, h⟩ := am_bind_some h
            refine am_r_call (show am_stepn X T_UpRiver_count 6 true (100, [(0, am_pv 0)], [am_iv q1521], am_SH, (J, K, am_RF false)) = some ((am_in 1 2 && true), .inr (.inl (57, [am_iv (J 50 3)], 1, 0, 0, 112, [(0, am_pv 0)], [am_iv q1521], am_SH, (J, K, am_RF false)))) from rfl) (am_gi (by decide) rfl) tb_UpRiver_asInt (s_UpRiver_asInt e1524) ?_
            obtain rfl := Option.some.inj h
            exact am_r_ret (show am_stepn X T_UpRiver_count 2 true (112, [(0, am_pv 0)], [am_iv q1523, am_iv q1521], am_SH, (J, K, am_RF false)) = some (true, .inr (.inr (some (am_iv (q1521 + q1523)), am_SH, (J, K, am_RF false)))) from rfl) rfl
          · rw [if_neg c1520] at h
            by_cases c1525 : x1 = 5
            · rw [if_pos c1525] at h
              refine am_r_sw (show am_stepn X T_UpRiver_count 2 true (0, [(0, am_pv 0), (1, am_iv x1)], [], am_SH, (J, K, am_RF false)) = some ((decide (am_i32 x1) && true), .inl (am_sw 0 6 [135, 44, 55, 66, 77, 88, 114, 125] x1, [(0, am_pv 0), (1, am_iv x1)], [], am_SH, (J, K, am_RF false))) from rfl) (am_g1 g1511 rfl) (p := 114) (by rw [c1525]; rfl) ?_
              obtain rfl := Option.some.inj h
              exact am_r_ret (show am_stepn X T_UpRiver_count 5 true (114, [(0, am_pv 0), (1, am_iv x1)], [], am_SH, (J, K, am_RF false)) = some (true, .inr (.inr (some (am_iv (J 2 1)), am_SH, (J, K, am_RF false)))) from rfl) rfl
            · rw [if_neg c1525] at h
              by_cases c1526 : x1 = 6
              · rw [if_pos c1526] at h
                refine am_r_sw (show am_stepn X T_UpRiver_count 2 true (0, [(0, am_pv 0), (1, am_iv x1)], [], am_SH, (J, K, am_RF false)) = some ((decide (am_i32 x1) && true), .inl (am_sw 0 6 [135, 44, 55, 66, 77, 88, 114, 125] x1, [(0, am_pv 0), (1, am_iv x1)], [], am_SH, (J, K, am_RF false))) from rfl) (am_g1 g1511 rfl) (p := 125) (by rw [c1526]; rfl) ?_
                obtain rfl := Option.some.inj h
                exact am_r_ret (show am_stepn X T_UpRiver_count 6 true (125, [(0, am_pv 0), (1, am_iv x1)], [], am_SH, (J, K, am_RF false)) = some ((am_in 0 4 && true), .inr (.inr (some (am_iv (J 57 2)), am_SH, (J, K, am_RF false)))) from rfl) (am_gi (by decide) rfl)
              · rw [if_neg c1526] at h
                refine am_r_sw (show am_stepn X T_UpRiver_count 2 true (0, [(0, am_pv 0), (1, am_iv x1)], [], am_SH, (J, K, am_RF false)) = some ((decide (am_i32 x1) && true), .inl (am_sw 0 6 [135, 44, 55, 66, 77, 88, 114, 125] x1, [(0, am_pv 0), (1, am_iv x1)], [], am_SH, (J, K, am_RF false))) from rfl) (am_g1 g1511 rfl) (p := 135) (am_sw_out (by omega)) ?_
                obtain rfl := Option.some.inj h
                exact am_r_ret (show am_stepn X T_UpRiver_count 2 true (135, [(0, am_pv 0), (1, am_iv x1)], [], am_SH, (J, K, am_RF false)) = some (true, .inr (.inr (some (am_iv (-1)), am_SH, (J, K, am_RF false)))) from rfl) rfl
theorem s_UpRiver_count_t {X : am_X} {J : am_J} {K : am_K} {x1 : Int} {r : Int} (h : f_UpRiver_count true J x1 = some r) : am_runs X T_UpRiver_count (0, [(0, am_pv 0), (1, am_iv x1)], [], am_SH, (J, K, am_RF true)) (some (am_iv r), am_SH, (J, K, am_RF true)) := by
  unfold f_UpRiver_count at h
  obtain ⟨g1511, h⟩ := am_if_some h
  by_cases c1512 : x1 = 0
  · rw [if_pos c1512] at h
    refine am_r_sw (show am_stepn X T_UpRiver_count 2 true (0, [(0, am_pv 0), (1, am_iv x1)], [], am_SH, (J, K, am_RF true)) = some ((decide (am_i32 x1) && true), .inl (am_sw 0 6 [135, 44, 55, 66, 77, 88, 114, 125] x1, [(0, am_pv 0), (1, am_iv x1)], [], am_SH, (J, K, am_RF true))) from rfl) (am_g1 g1511 rfl) (p := 44) (by rw [c1512]; rfl) ?_
    obtain rfl := Option.some.inj h
    exact am_r_ret (show am_stepn X T_UpRiver_count 5 true (44, [(0, am_pv 0), (1, am_iv x1)], [], am_SH, (J, K, am_RF true)) = some (true, .inr (.inr (some (am_iv (J 19 2)), am_SH, (J, K, am_RF true)))) from rfl) rfl
  · rw [if_neg c1512] at h
    by_cases c1513 : x1 = 1
    · rw [if_pos c1513] at h
      refine am_r_sw (show am_stepn X T_UpRiver_count 2 true (0, [(0, am_pv 0), (1, am_iv x1)], [], am_SH, (J, K, am_RF true)) = some ((decide (am_i32 x1) && true), .inl (am_sw 0 6 [135, 44, 55, 66, 77, 88, 114, 125] x1, [(0, am_pv 0), (1, am_iv x1)], [], am_SH, (J, K, am_RF true))) from rfl) (am_g1 g1511 rfl) (p := 55) (by rw [c1513]; rfl) ?_
      obtain rfl := Option.some.inj h
      exact am_r_ret (show am_stepn X T_UpRiver_count 5 true (55, [(0, am_pv 0), (1, am_iv x1)], [], am_SH, (J, K, am_RF true)) = some (true, .inr (.inr (some (am_iv (J 22 1)), am_SH, (J, K, am_RF true)))) from rfl) rfl
    · rw [if_neg c1513] at h
      by_cases c1514 : x1 = 2
      · rw [if_pos c1514] at h
        refine am_r_sw (show am_stepn X T_UpRiver_count 2 true (0, [(0, am_pv 0), (1, am_iv x1)], [], am_SH, (J, K, am_RF true)) = some ((decide (am_i32 x1) && true), .inl (am_sw 0 6 [135, 44, 55, 66, 77, 88, 114, 125] x1, [(0, am_pv 0), (1, am_iv x1)], [], am_SH, (J, K, am_RF true))) from rfl) (am_g1 g1511 rfl) (p := 66) (by rw [c1514]; rfl) ?_
        obtain ⟨q1515, e1516, h⟩ := am_bind_some h
        refine am_r_call (show am_stepn X T_UpRiver_count 4 true (66, [(0, am_pv 0), (1, am_iv x1)], [], am_SH, (J, K, am_RF true)) = some (true, .inr (.inl (147, [am_pv (am_rv true + 9)], 6, 0, 0, 76, [(0, am_pv 0)], [], am_SH, (J, K, am_RF true)))) from rfl) rfl tb_UpRiver_howMany (s_UpRiver_howMany (by decide) e1516) ?_
        obtain rfl := Option.some.inj h
        exact am_r_ret (show am_stepn X T_UpRiver_count 1 true (76, [(0, am_pv 0)], [am_iv q1515], am_SH, (J, K, am_RF true)) = some (true, .inr (.inr (some (am_iv q1515), am_SH, (J, K, am_RF true)))) from rfl) rfl
      · rw [if_neg c1514] at h
        by_cases c1517 : x1 = 3
        · rw [if_pos c1517] at h
          refine am_r_sw (show am_stepn X T_UpRiver_count 2 true (0, [(0, am_pv 0), (1, am_iv x1)], [], am_SH, (J, K, am_RF true)) = some ((decide (am_i32 x1) && true), .inl (am_sw 0 6 [135, 44, 55, 66, 77, 88, 114, 125] x1, [(0, am_pv 0), (1, am_iv x1)], [], am_SH, (J, K, am_RF true))) from rfl) (am_g1 g1511 rfl) (p := 77) (by rw [c1517]; rfl) ?_
          obtain ⟨q1518, e1519, h⟩ := am_bind_some h
          refine am_r_call (show am_stepn X T_UpRiver_count 4 true (77, [(0, am_pv 0), (1, am_iv x1)], [], am_SH, (J, K, am_RF true)) = some (true, .inr (.inl (147, [am_pv (am_rv true + 7)], 6, 0, 0, 87, [(0, am_pv 0)], [], am_SH, (J, K, am_RF true)))) from rfl) rfl tb_UpRiver_howMany (s_UpRiver_howMany (by decide) e1519) ?_
          obtain rfl := Option.some.inj h
          exact am_r_ret (show am_stepn X T_UpRiver_count 1 true (87, [(0, am_pv 0)], [am_iv q1518], am_SH, (J, K, am_RF true)) = some (true, .inr (.inr (some (am_iv q1518), am_SH, (J, K, am_RF true)))) from rfl) rfl
        · rw [if_neg c1517] at h
          by_cases c1520 : x1 = 4
          · rw [if_pos c1520] at h
            refine am_r_sw (show am_stepn X T_UpRiver_count 2 true (0, [(0, am_pv 0), (1, am_iv x1)], [], am_SH, (J, K, am_RF true)) = some ((decide (am_i32 x1) && true), .inl (am_sw 0 6 [135, 44, 55, 66, 77, 88, 114, 125] x1, [(0, am_pv 0), (1, am_iv x1)], [], am_SH, (J, K, am_RF true))) from rfl) (am_g1 g1511 rfl) (p := 88) (by rw [c1520]; rfl) ?_
            obtain ⟨q1521, e1522, h⟩ := am_bind_some h
            refine am_r_call (show am_stepn X T_UpRiver_count 6 true (88, [(0, am_pv 0), (1, am_iv x1)], [], am_SH, (J, K, am_RF true)) = some ((am_in 0 2 && true), .inr (.inl (57, [am_iv (J 43 3)], 1, 0, 0, 100, [(0, am_pv 0)], [], am_SH, (J, K, am_RF true)))) from rfl) (am_gi (by decide) rfl) tb_UpRiver_asInt (s_UpRiver_asInt e1522) ?_
            obtain ⟨q1523, e1524, h⟩ := am_bind_some h
            refine am_r_call (show am_stepn X T_UpRiver_count 6 true (100, [(0, am_pv 0)], [am_iv q1521], am_SH, (J, K, am_RF true)) = some ((am_in 1 2 && true), .inr (.inl (57, [am_iv (J 50 3)], 1, 0, 0, 112, [(0, am_pv 0)], [am_iv q1521], am_SH, (J, K, am_RF true)))) from rfl) (am_gi (by decide) rfl) tb_UpRiver_asInt (s_UpRiver_asInt e1524) ?_
            obtain rfl := Option.some.inj h
            exact am_r_ret (show am_stepn X T_UpRiver_count 2 true (112, [(0, am_pv 0)], [am_iv q1523, am_iv q1521], am_SH, (J, K, am_RF true)) = some (true, .inr (.inr (some (am_iv (q1521 + q1523)), am_SH, (J, K, am_RF true)))) from rfl) rfl
          · rw [if_neg c1520] at h
            by_cases c1525 : x1 = 5
            · rw [if_pos c1525] at h
              refine am_r_sw (show am_stepn X T_UpRiver_count 2 true (0, [(0, am_pv 0), (1, am_iv x1)], [], am_SH, (J, K, am_RF true)) = some ((decide (am_i32 x1) && true), .inl (am_sw 0 6 [135, 44, 55, 66, 77, 88, 114, 125] x1, [(0, am_pv 0), (1, am_iv x1)], [], am_SH, (J, K, am_RF true))) from rfl) (am_g1 g1511 rfl) (p := 114) (by rw [c1525]; rfl) ?_
              obtain rfl := Option.some.inj h
              exact am_r_ret (show am_stepn X T_UpRiver_count 5 true (114, [(0, am_pv 0), (1, am_iv x1)], [], am_SH, (J, K, am_RF true)) = some (true, .inr (.inr (some (am_iv (J 2 1)), am_SH, (J, K, am_RF true)))) from rfl) rfl
            · rw [if_neg c1525] at h
              by_cases c1526 : x1 = 6
              · rw [if_pos c1526] at h
                refine am_r_sw (show am_stepn X T_UpRiver_count 2 true (0, [(0, am_pv 0), (1, am_iv x1)], [], am_SH, (J, K, am_RF true)) = some ((decide (am_i32 x1) && true), .inl (am_sw 0 6 [135, 44, 55, 66, 77, 88, 114, 125] x1, [(0, am_pv 0), (1, am_iv x1)], [], am_SH, (J, K, am_RF true))) from rfl) (am_g1 g1511 rfl) (p := 125) (by rw [c1526]; rfl) ?_
                obtain rfl := Option.some.inj h
                exact am_r_ret (show am_stepn X T_UpRiver_count 6 true (125, [(0, am_pv 0), (1, am_iv x1)], [], am_SH, (J, K, am_RF true)) = some ((am_in 0 4 && true), .inr (.inr (some (am_iv (J 57 2)), am_SH, (J, K, am_RF true)))) from rfl) (am_gi (by decide) rfl)
              · rw [if_neg c1526] at h
                refine am_r_sw (show am_stepn X T_UpRiver_count 2 true (0, [(0, am_pv 0), (1, am_iv x1)], [], am_SH, (J, K, am_RF true)) = some ((decide (am_i32 x1) && true), .inl (am_sw 0 6 [135, 44, 55, 66, 77, 88, 114, 125] x1, [(0, am_pv 0), (1, am_iv x1)], [], am_SH, (J, K, am_RF true))) from rfl) (am_g1 g1511 rfl) (p := 135) (am_sw_out (by omega)) ?_
                obtain rfl := Option.some.inj h
                exact am_r_ret (show am_stepn X T_UpRiver_count 2 true (135, [(0, am_pv 0), (1, am_iv x1)], [], am_SH, (J, K, am_RF true)) = some (true, .inr (.inr (some (am_iv (-1)), am_SH, (J, K, am_RF true)))) from rfl) rfl
theorem s_UpRiver_count {X : am_X} {b : Bool} {J : am_J} {K : am_K} {x1 : Int} {r : Int} (h : f_UpRiver_count b J x1 = some r) : am_runs X T_UpRiver_count (0, [(0, am_pv 0), (1, am_iv x1)], [], am_SH, (J, K, am_RF b)) (some (am_iv r), am_SH, (J, K, am_RF b)) := by
  cases b
  · exact s_UpRiver_count_f h
  · exact s_UpRiver_count_t h
theorem s_UpRiverModel_in {X : am_X} {b : Bool} {J : am_J} {K : am_K} {y0 : Int64} {y2 : Int64} {y4 : Int64} {r : Int} (h : f_UpRiverModel_in  y0 y2 y4 = some r) : am_runs X T_UpRiverModel_in (0, [(0, am_jv y0), (2, am_jv y2), (4, am_jv y4)], [], am_SH, (J, K, am_RF b)) (some (am_iv r), am_SH, (J, K, am_RF b)) := by
  unfold f_UpRiverModel_in at h
  obtain ⟨g1527, h⟩ := am_if_some h
  by_cases c1528 : (am_lcmp y0 y2) < 0
  · rw [if_pos c1528] at h
    refine am_r_t (show am_stepn X T_UpRiverModel_in 4 true (0, [(0, am_jv y0), (2, am_jv y2), (4, am_jv y4)], [], am_SH, (J, K, am_RF b)) = some ((decide (am_i32 (am_lcmp y0 y2)) && true), .inl (bif am_cb .lt (am_lcmp y0 y2) 0 then 17 else 6, [(0, am_jv y0), (2, am_jv y2), (4, am_jv y4)], [], am_SH, (J, K, am_RF b))) from rfl) (am_g1 g1527 rfl) (decide_eq_true c1528) ?_
    obtain rfl := Option.some.inj h
    exact am_r_ret (show am_stepn X T_UpRiverModel_in 2 true (17, [(0, am_jv y0), (2, am_jv y2), (4, am_jv y4)], [], am_SH, (J, K, am_RF b)) = some ((decide ((0 : Int) = 0 ∨ (0 : Int) = 1) && true), .inr (.inr (some (am_iv 0), am_SH, (J, K, am_RF b)))) from rfl) (am_g1 (by decide) rfl)
  · rw [if_neg c1528] at h
    refine am_r_f (show am_stepn X T_UpRiverModel_in 4 true (0, [(0, am_jv y0), (2, am_jv y2), (4, am_jv y4)], [], am_SH, (J, K, am_RF b)) = some ((decide (am_i32 (am_lcmp y0 y2)) && true), .inl (bif am_cb .lt (am_lcmp y0 y2) 0 then 17 else 6, [(0, am_jv y0), (2, am_jv y2), (4, am_jv y4)], [], am_SH, (J, K, am_RF b))) from rfl) (am_g1 g1527 rfl) (decide_eq_false c1528) ?_
    obtain ⟨g1529, h⟩ := am_if_some h
    by_cases c1530 : 0 < (am_lcmp y0 y4)
    · rw [if_pos c1530] at h
      refine am_r_t (show am_stepn X T_UpRiverModel_in 4 true (6, [(0, am_jv y0), (2, am_jv y2), (4, am_jv y4)], [], am_SH, (J, K, am_RF b)) = some ((decide (am_i32 (am_lcmp y0 y4)) && true), .inl (bif am_cb .gt (am_lcmp y0 y4) 0 then 17 else 13, [(0, am_jv y0), (4, am_jv y4)], [], am_SH, (J, K, am_RF b))) from rfl) (am_g1 g1529 rfl) (decide_eq_true c1530) ?_
      obtain rfl := Option.some.inj h
      exact am_r_ret (show am_stepn X T_UpRiverModel_in 2 true (17, [(0, am_jv y0), (4, am_jv y4)], [], am_SH, (J, K, am_RF b)) = some ((decide ((0 : Int) = 0 ∨ (0 : Int) = 1) && true), .inr (.inr (some (am_iv 0), am_SH, (J, K, am_RF b)))) from rfl) (am_g1 (by decide) rfl)
    · rw [if_neg c1530] at h
      refine am_r_f (show am_stepn X T_UpRiverModel_in 4 true (6, [(0, am_jv y0), (2, am_jv y2), (4, am_jv y4)], [], am_SH, (J, K, am_RF b)) = some ((decide (am_i32 (am_lcmp y0 y4)) && true), .inl (bif am_cb .gt (am_lcmp y0 y4) 0 then 17 else 13, [(0, am_jv y0), (4, am_jv y4)], [], am_SH, (J, K, am_RF b))) from rfl) (am_g1 g1529 rfl) (decide_eq_false c1530) ?_
      obtain rfl := Option.some.inj h
      exact am_r_ret (show am_stepn X T_UpRiverModel_in 3 true (13, [(0, am_jv y0), (4, am_jv y4)], [], am_SH, (J, K, am_RF b)) = some ((decide ((1 : Int) = 0 ∨ (1 : Int) = 1) && true), .inr (.inr (some (am_iv 1), am_SH, (J, K, am_RF b)))) from rfl) (am_g1 (by decide) rfl)
theorem s_UpRiverModel_firstDraft_L99 {X : am_X} {b : Bool} {K : am_K}  : ∀ (n : Nat) (x1 : Int) (J : am_J) (r : am_J), f_UpRiverModel_firstDraft_L99   n x1 J = some r → am_runs X T_UpRiverModel_firstDraft (99, [(0, am_pv 65), (1, am_iv x1)], [], am_SH, (J, K, am_RF b)) (none, am_SH, (r, K, am_RF b)) := by
  intro n
  induction n with
  | zero =>
    intro x1 J r h
    cases h
  | succ n ih =>
    intro x1 J r h
    rw [f_UpRiverModel_firstDraft_L99.eq_2] at h
    obtain ⟨g1531, h⟩ := am_if_some h
    by_cases c1532 : x1 < 252
    · rw [if_pos c1532] at h
      refine am_r_f (show am_stepn X T_UpRiverModel_firstDraft 3 true (99, [(0, am_pv 65), (1, am_iv x1)], [], am_SH, (J, K, am_RF b)) = some (((decide (am_i32 252) && decide (am_i32 x1)) && true), .inl (bif am_cb .ge x1 252 then 119 else 106, [(0, am_pv 65), (1, am_iv x1)], [], am_SH, (J, K, am_RF b))) from rfl) (am_g2 (by decide) g1531 rfl) (am_nd_t c1532) ?_
      obtain ⟨g1533, h⟩ := am_if_some h
      refine am_r_go (show am_stepn X T_UpRiverModel_firstDraft 7 true (106, [(0, am_pv 65), (1, am_iv x1)], [], am_SH, (J, K, am_RF b)) = some (((decide ((0 : Int) = 0 ∨ (0 : Int) = 1) && am_in x1 252) && true), .inl (99, [(0, am_pv 65), (1, am_iv (x1 + 1))], [], am_SH, ((am_up J 70 x1.toNat 0), K, am_RF b))) from rfl) (am_gz (by decide) g1533 rfl) ?_
      exact ih _ _ _ h
    · rw [if_neg c1532] at h
      refine am_r_t (show am_stepn X T_UpRiverModel_firstDraft 3 true (99, [(0, am_pv 65), (1, am_iv x1)], [], am_SH, (J, K, am_RF b)) = some (((decide (am_i32 252) && decide (am_i32 x1)) && true), .inl (bif am_cb .ge x1 252 then 119 else 106, [(0, am_pv 65), (1, am_iv x1)], [], am_SH, (J, K, am_RF b))) from rfl) (am_g2 (by decide) g1531 rfl) (am_nd_f c1532) ?_
      obtain rfl := Option.some.inj h
      exact am_r_ret (show am_stepn X T_UpRiverModel_firstDraft 42 true (119, [(0, am_pv 65), (1, am_iv x1)], [], am_SH, (J, K, am_RF b)) = some ((am_in 6 295 && (am_in 5 295 && (am_in 4 295 && (am_in 3 295 && (am_in 2 295 && (am_in 1 295 && (am_in 0 295 && true))))))), .inr (.inr (none, am_SH, ((am_up (am_up (am_up (am_up (am_up (am_up (am_up (am_up (am_up J 67 0 6) 67 1 30) 67 2 6) 67 3 4) 67 4 2) 67 5 2) 67 6 300) 65 5 0) 65 6 0), K, am_RF b)))) from rfl) (am_gi (by decide) (am_gi (by decide) (am_gi (by decide) (am_gi (by decide) (am_gi (by decide) (am_gi (by decide) (am_gi (by decide) rfl)))))))
theorem s_UpRiverModel_firstDraft_L2 {X : am_X} {b : Bool} {K : am_K}  : ∀ (n : Nat) (x1 : Int) (J : am_J) (r : am_J), f_UpRiverModel_firstDraft_L2   n x1 J = some r → am_runs X T_UpRiverModel_firstDraft (2, [(0, am_pv 65), (1, am_iv x1)], [], am_SH, (J, K, am_RF b)) (none, am_SH, (r, K, am_RF b)) := by
  intro n
  induction n with
  | zero =>
    intro x1 J r h
    cases h
  | succ n ih =>
    intro x1 J r h
    rw [f_UpRiverModel_firstDraft_L2.eq_2] at h
    obtain ⟨g1534, h⟩ := am_if_some h
    by_cases c1535 : x1 < 295
    · rw [if_pos c1535] at h
      refine am_r_f (show am_stepn X T_UpRiverModel_firstDraft 3 true (2, [(0, am_pv 65), (1, am_iv x1)], [], am_SH, (J, K, am_RF b)) = some (((decide (am_i32 295) && decide (am_i32 x1)) && true), .inl (bif am_cb .ge x1 295 then 97 else 9, [(0, am_pv 65), (1, am_iv x1)], [], am_SH, (J, K, am_RF b))) from rfl) (am_g2 (by decide) g1534 rfl) (am_nd_t c1535) ?_
      obtain ⟨q1536, e1537, h⟩ := am_bind_some h
      refine am_r_call (show am_stepn X T_UpRiverModel_firstDraft 8 true (9, [(0, am_pv 65), (1, am_iv x1)], [], am_SH, (J, K, am_RF b)) = some (true, .inr (.inl (150, [am_jv (am_i2l x1), am_jv (19 : Int64), am_jv (30 : Int64)], 6, 0, 0, 25, [(0, am_pv 65), (1, am_iv x1)], [am_iv x1, am_pv 67], am_SH, (J, K, am_RF b)))) from rfl) rfl tb_UpRiverModel_in (s_UpRiverModel_in e1537) ?_
      obtain ⟨g1538, h⟩ := am_if_some h
      by_cases c1539 : q1536 = 0
      · rw [if_pos c1539] at h
        refine am_r_t (show am_stepn X T_UpRiverModel_firstDraft 1 true (25, [(0, am_pv 65), (1, am_iv x1)], [am_iv q1536, am_iv x1, am_pv 67], am_SH, (J, K, am_RF b)) = some ((decide (am_i32 q1536) && true), .inl (bif am_cb .eq q1536 0 then 33 else 28, [(0, am_pv 65), (1, am_iv x1)], [am_iv x1, am_pv 67], am_SH, (J, K, am_RF b))) from rfl) (am_g1 g1538 rfl) (decide_eq_true c1539) ?_
        obtain ⟨q1540, e1541, h⟩ := am_bind_some h
        refine am_r_call (show am_stepn X T_UpRiverModel_firstDraft 5 true (33, [(0, am_pv 65), (1, am_iv x1)], [am_iv x1, am_pv 67], am_SH, (J, K, am_RF b)) = some (true, .inr (.inl (150, [am_jv (am_i2l x1), am_jv (43 : Int64), am_jv (54 : Int64)], 6, 0, 0, 44, [(0, am_pv 65), (1, am_iv x1)], [am_iv x1, am_pv 67], am_SH, (J, K, am_RF b)))) from rfl) rfl tb_UpRiverModel_in (s_UpRiverModel_in e1541) ?_
        obtain ⟨g1542, h⟩ := am_if_some h
        by_cases c1543 : q1540 = 0
        · rw [if_pos c1543] at h
          refine am_r_t (show am_stepn X T_UpRiverModel_firstDraft 1 true (44, [(0, am_pv 65), (1, am_iv x1)], [am_iv q1540, am_iv x1, am_pv 67], am_SH, (J, K, am_RF b)) = some ((decide (am_i32 q1540) && true), .inl (bif am_cb .eq q1540 0 then 51 else 47, [(0, am_pv 65), (1, am_iv x1)], [am_iv x1, am_pv 67], am_SH, (J, K, am_RF b))) from rfl) (am_g1 g1542 rfl) (decide_eq_true c1543) ?_
          obtain ⟨q1544, e1545, h⟩ := am_bind_some h
          refine am_r_call (show am_stepn X T_UpRiverModel_firstDraft 5 true (51, [(0, am_pv 65), (1, am_iv x1)], [am_iv x1, am_pv 67], am_SH, (J, K, am_RF b)) = some (true, .inr (.inl (150, [am_jv (am_i2l x1), am_jv (55 : Int64), am_jv (162 : Int64)], 6, 0, 0, 62, [(0, am_pv 65), (1, am_iv x1)], [am_iv x1, am_pv 67], am_SH, (J, K, am_RF b)))) from rfl) rfl tb_UpRiverModel_in (s_UpRiverModel_in e1545) ?_
          obtain ⟨g1546, h⟩ := am_if_some h
          by_cases c1547 : q1544 = 0
          · rw [if_pos c1547] at h
            refine am_r_t (show am_stepn X T_UpRiverModel_firstDraft 1 true (62, [(0, am_pv 65), (1, am_iv x1)], [am_iv q1544, am_iv x1, am_pv 67], am_SH, (J, K, am_RF b)) = some ((decide (am_i32 q1544) && true), .inl (bif am_cb .eq q1544 0 then 70 else 65, [(0, am_pv 65), (1, am_iv x1)], [am_iv x1, am_pv 67], am_SH, (J, K, am_RF b))) from rfl) (am_g1 g1546 rfl) (decide_eq_true c1547) ?_
            obtain ⟨q1548, e1549, h⟩ := am_bind_some h
            refine am_r_call (show am_stepn X T_UpRiverModel_firstDraft 5 true (70, [(0, am_pv 65), (1, am_iv x1)], [am_iv x1, am_pv 67], am_SH, (J, K, am_RF b)) = some (true, .inr (.inl (150, [am_jv (am_i2l x1), am_jv (271 : Int64), am_jv (282 : Int64)], 6, 0, 0, 81, [(0, am_pv 65), (1, am_iv x1)], [am_iv x1, am_pv 67], am_SH, (J, K, am_RF b)))) from rfl) rfl tb_UpRiverModel_in (s_UpRiverModel_in e1549) ?_
            obtain ⟨g1550, h⟩ := am_if_some h
            by_cases c1551 : q1548 = 0
            · rw [if_pos c1551] at h
              refine am_r_t (show am_stepn X T_UpRiverModel_firstDraft 1 true (81, [(0, am_pv 65), (1, am_iv x1)], [am_iv q1548, am_iv x1, am_pv 67], am_SH, (J, K, am_RF b)) = some ((decide (am_i32 q1548) && true), .inl (bif am_cb .eq q1548 0 then 89 else 84, [(0, am_pv 65), (1, am_iv x1)], [am_iv x1, am_pv 67], am_SH, (J, K, am_RF b))) from rfl) (am_g1 g1550 rfl) (decide_eq_true c1551) ?_
              obtain ⟨g1552, h⟩ := am_if_some h
              refine am_r_go (show am_stepn X T_UpRiverModel_firstDraft 4 true (89, [(0, am_pv 65), (1, am_iv x1)], [am_iv x1, am_pv 67], am_SH, (J, K, am_RF b)) = some ((am_in x1 295 && true), .inl (2, [(0, am_pv 65), (1, am_iv (x1 + 1))], [], am_SH, ((am_up J 67 x1.toNat 0), K, am_RF b))) from rfl) (am_gi g1552 rfl) ?_
              exact ih _ _ _ h
            · rw [if_neg c1551] at h
              refine am_r_f (show am_stepn X T_UpRiverModel_firstDraft 1 true (81, [(0, am_pv 65), (1, am_iv x1)], [am_iv q1548, am_iv x1, am_pv 67], am_SH, (J, K, am_RF b)) = some ((decide (am_i32 q1548) && true), .inl (bif am_cb .eq q1548 0 then 89 else 84, [(0, am_pv 65), (1, am_iv x1)], [am_iv x1, am_pv 67], am_SH, (J, K, am_RF b))) from rfl) (am_g1 g1550 rfl) (decide_eq_false c1551) ?_
              obtain ⟨g1553, h⟩ := am_if_some h
              refine am_r_go (show am_stepn X T_UpRiverModel_firstDraft 5 true (84, [(0, am_pv 65), (1, am_iv x1)], [am_iv x1, am_pv 67], am_SH, (J, K, am_RF b)) = some ((am_in x1 295 && true), .inl (2, [(0, am_pv 65), (1, am_iv (x1 + 1))], [], am_SH, ((am_up J 67 x1.toNat 9), K, am_RF b))) from rfl) (am_gi g1553 rfl) ?_
              exact ih _ _ _ h
          · rw [if_neg c1547] at h
            refine am_r_f (show am_stepn X T_UpRiverModel_firstDraft 1 true (62, [(0, am_pv 65), (1, am_iv x1)], [am_iv q1544, am_iv x1, am_pv 67], am_SH, (J, K, am_RF b)) = some ((decide (am_i32 q1544) && true), .inl (bif am_cb .eq q1544 0 then 70 else 65, [(0, am_pv 65), (1, am_iv x1)], [am_iv x1, am_pv 67], am_SH, (J, K, am_RF b))) from rfl) (am_g1 g1546 rfl) (decide_eq_false c1547) ?_
            obtain ⟨g1554, h⟩ := am_if_some h
            refine am_r_go (show am_stepn X T_UpRiverModel_firstDraft 5 true (65, [(0, am_pv 65), (1, am_iv x1)], [am_iv x1, am_pv 67], am_SH, (J, K, am_RF b)) = some ((am_in x1 295 && true), .inl (2, [(0, am_pv 65), (1, am_iv (x1 + 1))], [], am_SH, ((am_up J 67 x1.toNat 20), K, am_RF b))) from rfl) (am_gi g1554 rfl) ?_
            exact ih _ _ _ h
        · rw [if_neg c1543] at h
          refine am_r_f (show am_stepn X T_UpRiverModel_firstDraft 1 true (44, [(0, am_pv 65), (1, am_iv x1)], [am_iv q1540, am_iv x1, am_pv 67], am_SH, (J, K, am_RF b)) = some ((decide (am_i32 q1540) && true), .inl (bif am_cb .eq q1540 0 then 51 else 47, [(0, am_pv 65), (1, am_iv x1)], [am_iv x1, am_pv 67], am_SH, (J, K, am_RF b))) from rfl) (am_g1 g1542 rfl) (decide_eq_false c1543) ?_
          obtain ⟨g1555, h⟩ := am_if_some h
          refine am_r_go (show am_stepn X T_UpRiverModel_firstDraft 5 true (47, [(0, am_pv 65), (1, am_iv x1)], [am_iv x1, am_pv 67], am_SH, (J, K, am_RF b)) = some ((am_in x1 295 && true), .inl (2, [(0, am_pv 65), (1, am_iv (x1 + 1))], [], am_SH, ((am_up J 67 x1.toNat 1), K, am_RF b))) from rfl) (am_gi g1555 rfl) ?_
          exact ih _ _ _ h
      · rw [if_neg c1539] at h
        refine am_r_f (show am_stepn X T_UpRiverModel_firstDraft 1 true (25, [(0, am_pv 65), (1, am_iv x1)], [am_iv q1536, am_iv x1, am_pv 67], am_SH, (J, K, am_RF b)) = some ((decide (am_i32 q1536) && true), .inl (bif am_cb .eq q1536 0 then 33 else 28, [(0, am_pv 65), (1, am_iv x1)], [am_iv x1, am_pv 67], am_SH, (J, K, am_RF b))) from rfl) (am_g1 g1538 rfl) (decide_eq_false c1539) ?_
        obtain ⟨g1556, h⟩ := am_if_some h
        refine am_r_go (show am_stepn X T_UpRiverModel_firstDraft 5 true (28, [(0, am_pv 65), (1, am_iv x1)], [am_iv x1, am_pv 67], am_SH, (J, K, am_RF b)) = some ((am_in x1 295 && true), .inl (2, [(0, am_pv 65), (1, am_iv (x1 + 1))], [], am_SH, ((am_up J 67 x1.toNat 8), K, am_RF b))) from rfl) (am_gi g1556 rfl) ?_
        exact ih _ _ _ h
    · rw [if_neg c1535] at h
      refine am_r_t (show am_stepn X T_UpRiverModel_firstDraft 3 true (2, [(0, am_pv 65), (1, am_iv x1)], [], am_SH, (J, K, am_RF b)) = some (((decide (am_i32 295) && decide (am_i32 x1)) && true), .inl (bif am_cb .ge x1 295 then 97 else 9, [(0, am_pv 65), (1, am_iv x1)], [], am_SH, (J, K, am_RF b))) from rfl) (am_g2 (by decide) g1534 rfl) (am_nd_f c1535) ?_
      refine am_r_go (show am_stepn X T_UpRiverModel_firstDraft 2 true (97, [(0, am_pv 65), (1, am_iv x1)], [], am_SH, (J, K, am_RF b)) = some (true, .inl (99, [(0, am_pv 65), (1, am_iv 0)], [], am_SH, (J, K, am_RF b))) from rfl) rfl ?_
      exact s_UpRiverModel_firstDraft_L99  _ _ _ _ h
theorem s_UpRiverModel_firstDraft {X : am_X} {b : Bool} {K : am_K} {J : am_J} {r : am_J} (h : f_UpRiverModel_firstDraft  J = some r) : am_runs X T_UpRiverModel_firstDraft (0, [(0, am_pv 65)], [], am_SH, (J, K, am_RF b)) (none, am_SH, (r, K, am_RF b)) := by
  unfold f_UpRiverModel_firstDraft at h
  refine am_r_go (show am_stepn X T_UpRiverModel_firstDraft 2 true (0, [(0, am_pv 65)], [], am_SH, (J, K, am_RF b)) = some (true, .inl (2, [(0, am_pv 65), (1, am_iv 0)], [], am_SH, (J, K, am_RF b))) from rfl) rfl ?_
  exact s_UpRiverModel_firstDraft_L2  _ _ _ _ h
theorem s_UpRiverModel_keepDraft_L29 {X : am_X} {b : Bool} {K : am_K}  : ∀ (n : Nat) (x1 : Int) (J : am_J) (r : am_J), f_UpRiverModel_keepDraft_L29   n x1 J = some r → am_runs X T_UpRiverModel_keepDraft (29, [(0, am_pv 65), (1, am_iv x1)], [], am_SH, (J, K, am_RF b)) (none, am_SH, (r, K, am_RF b)) := by
  intro n
  induction n with
  | zero =>
    intro x1 J r h
    cases h
  | succ n ih =>
    intro x1 J r h
    rw [f_UpRiverModel_keepDraft_L29.eq_2] at h
    obtain ⟨g1557, h⟩ := am_if_some h
    by_cases c1558 : x1 < 72
    · rw [if_pos c1558] at h
      refine am_r_f (show am_stepn X T_UpRiverModel_keepDraft 3 true (29, [(0, am_pv 65), (1, am_iv x1)], [], am_SH, (J, K, am_RF b)) = some (((decide (am_i32 72) && decide (am_i32 x1)) && true), .inl (bif am_cb .ge x1 72 then 48 else 35, [(0, am_pv 65), (1, am_iv x1)], [], am_SH, (J, K, am_RF b))) from rfl) (am_g2 (by decide) g1557 rfl) (am_nd_t c1558) ?_
      obtain ⟨g1559, h⟩ := am_if_some h
      refine am_r_go (show am_stepn X T_UpRiverModel_keepDraft 7 true (35, [(0, am_pv 65), (1, am_iv x1)], [], am_SH, (J, K, am_RF b)) = some ((am_in x1 216 && true), .inl (29, [(0, am_pv 65), (1, am_iv (x1 + 1))], [], am_SH, ((am_up J 68 x1.toNat 0), K, am_RF b))) from rfl) (am_gi g1559 rfl) ?_
      exact ih _ _ _ h
    · rw [if_neg c1558] at h
      refine am_r_t (show am_stepn X T_UpRiverModel_keepDraft 3 true (29, [(0, am_pv 65), (1, am_iv x1)], [], am_SH, (J, K, am_RF b)) = some (((decide (am_i32 72) && decide (am_i32 x1)) && true), .inl (bif am_cb .ge x1 72 then 48 else 35, [(0, am_pv 65), (1, am_iv x1)], [], am_SH, (J, K, am_RF b))) from rfl) (am_g2 (by decide) g1557 rfl) (am_nd_f c1558) ?_
      obtain rfl := Option.some.inj h
      exact am_r_ret (show am_stepn X T_UpRiverModel_keepDraft 19 true (48, [(0, am_pv 65), (1, am_iv x1)], [], am_SH, (J, K, am_RF b)) = some (((decide ((0 : Int) = 0 ∨ (0 : Int) = 1) && am_in 1 2) && ((decide ((0 : Int) = 0 ∨ (0 : Int) = 1) && am_in 0 2) && (am_in 2 216 && (am_in 7 295 && true)))), .inr (.inr (none, am_SH, ((am_up (am_up (am_up J 68 2 (J 66 7)) 69 0 0) 69 1 0), K, am_RF b)))) from rfl) (am_gz (by decide) (by decide) (am_gz (by decide) (by decide) (am_gi (by decide) (am_gi (by decide) rfl))))
theorem s_UpRiverModel_keepDraft_L2 {X : am_X} {b : Bool} {K : am_K}  : ∀ (n : Nat) (x1 : Int) (J : am_J) (r : am_J), f_UpRiverModel_keepDraft_L2   n x1 J = some r → am_runs X T_UpRiverModel_keepDraft (2, [(0, am_pv 65), (1, am_iv x1)], [], am_SH, (J, K, am_RF b)) (none, am_SH, (r, K, am_RF b)) := by
  intro n
  induction n with
  | zero =>
    intro x1 J r h
    cases h
  | succ n ih =>
    intro x1 J r h
    rw [f_UpRiverModel_keepDraft_L2.eq_2] at h
    obtain ⟨g1560, h⟩ := am_if_some h
    by_cases c1561 : x1 < 295
    · rw [if_pos c1561] at h
      refine am_r_f (show am_stepn X T_UpRiverModel_keepDraft 3 true (2, [(0, am_pv 65), (1, am_iv x1)], [], am_SH, (J, K, am_RF b)) = some (((decide (am_i32 295) && decide (am_i32 x1)) && true), .inl (bif am_cb .ge x1 295 then 27 else 9, [(0, am_pv 65), (1, am_iv x1)], [], am_SH, (J, K, am_RF b))) from rfl) (am_g2 (by decide) g1560 rfl) (am_nd_t c1561) ?_
      obtain ⟨g1562, h⟩ := am_if_some h
      refine am_r_go (show am_stepn X T_UpRiverModel_keepDraft 10 true (9, [(0, am_pv 65), (1, am_iv x1)], [], am_SH, (J, K, am_RF b)) = some ((am_in x1 295 && (am_in x1 295 && true)), .inl (2, [(0, am_pv 65), (1, am_iv (x1 + 1))], [], am_SH, ((am_up J 66 x1.toNat (J 67 x1.toNat)), K, am_RF b))) from rfl) (am_gi g1562 (am_gi g1562 rfl)) ?_
      exact ih _ _ _ h
    · rw [if_neg c1561] at h
      refine am_r_t (show am_stepn X T_UpRiverModel_keepDraft 3 true (2, [(0, am_pv 65), (1, am_iv x1)], [], am_SH, (J, K, am_RF b)) = some (((decide (am_i32 295) && decide (am_i32 x1)) && true), .inl (bif am_cb .ge x1 295 then 27 else 9, [(0, am_pv 65), (1, am_iv x1)], [], am_SH, (J, K, am_RF b))) from rfl) (am_g2 (by decide) g1560 rfl) (am_nd_f c1561) ?_
      refine am_r_go (show am_stepn X T_UpRiverModel_keepDraft 2 true (27, [(0, am_pv 65), (1, am_iv x1)], [], am_SH, (J, K, am_RF b)) = some (true, .inl (29, [(0, am_pv 65), (1, am_iv 0)], [], am_SH, (J, K, am_RF b))) from rfl) rfl ?_
      exact s_UpRiverModel_keepDraft_L29  _ _ _ _ h
theorem s_UpRiverModel_keepDraft {X : am_X} {b : Bool} {K : am_K} {J : am_J} {r : am_J} (h : f_UpRiverModel_keepDraft  J = some r) : am_runs X T_UpRiverModel_keepDraft (0, [(0, am_pv 65)], [], am_SH, (J, K, am_RF b)) (none, am_SH, (r, K, am_RF b)) := by
  unfold f_UpRiverModel_keepDraft at h
  refine am_r_go (show am_stepn X T_UpRiverModel_keepDraft 2 true (0, [(0, am_pv 65)], [], am_SH, (J, K, am_RF b)) = some (true, .inl (2, [(0, am_pv 65), (1, am_iv 0)], [], am_SH, (J, K, am_RF b))) from rfl) rfl ?_
  exact s_UpRiverModel_keepDraft_L2  _ _ _ _ h
theorem s_UpRiverModel_feed_L19 {X : am_X} {b : Bool} {K : am_K}  : ∀ (n : Nat) (y1 : Int64) (x3 : Int) (J : am_J) (r : Int × am_J), f_UpRiverModel_feed_L19   n y1 x3 J = some r → am_runs X T_UpRiverModel_feed (19, [(0, am_pv 65), (1, am_jv y1), (3, am_iv x3)], [], am_SH, (J, K, am_RF b)) (some (am_iv r.1), am_SH, (r.2, K, am_RF b)) := by
  intro n
  induction n with
  | zero =>
    intro y1 x3 J r h
    cases h
  | succ n ih =>
    intro y1 x3 J r h
    rw [f_UpRiverModel_feed_L19.eq_2] at h
    obtain ⟨g1563, h⟩ := am_if_some h
    by_cases c1564 : x3 < 0
    · rw [if_pos c1564] at h
      refine am_r_t (show am_stepn X T_UpRiverModel_feed 2 true (19, [(0, am_pv 65), (1, am_jv y1), (3, am_iv x3)], [], am_SH, (J, K, am_RF b)) = some ((decide (am_i32 x3) && true), .inl (bif am_cb .lt x3 0 then 56 else 23, [(0, am_pv 65), (1, am_jv y1), (3, am_iv x3)], [], am_SH, (J, K, am_RF b))) from rfl) (am_g1 g1563 rfl) (decide_eq_true c1564) ?_
      obtain rfl := Option.some.inj h
      exact am_r_ret (show am_stepn X T_UpRiverModel_feed 3 true (56, [(0, am_pv 65), (1, am_jv y1), (3, am_iv x3)], [], am_SH, (J, K, am_RF b)) = some (true, .inr (.inr (some (am_iv (J 65 8)), am_SH, (J, K, am_RF b)))) from rfl) rfl
    · rw [if_neg c1564] at h
      refine am_r_f (show am_stepn X T_UpRiverModel_feed 2 true (19, [(0, am_pv 65), (1, am_jv y1), (3, am_iv x3)], [], am_SH, (J, K, am_RF b)) = some ((decide (am_i32 x3) && true), .inl (bif am_cb .lt x3 0 then 56 else 23, [(0, am_pv 65), (1, am_jv y1), (3, am_iv x3)], [], am_SH, (J, K, am_RF b))) from rfl) (am_g1 g1563 rfl) (decide_eq_false c1564) ?_
      obtain ⟨g1565, h⟩ := am_if_some h
      refine am_r_go (show am_stepn X T_UpRiverModel_feed 19 true (23, [(0, am_pv 65), (1, am_jv y1), (3, am_iv x3)], [], am_SH, (J, K, am_RF b)) = some ((am_in (J 65 8) 400 && true), .inl (19, [(0, am_pv 65), (1, am_jv y1), (3, am_iv (x3 + (-8)))], [], am_SH, ((am_up (am_up J 71 ((J 65 8).toNat) (am_l2i ((am_lshr y1 x3) &&& (255 : Int64)))) 65 8 ((J 65 8) + 1)), K, am_RF b))) from rfl) (am_gi g1565 rfl) ?_
      exact ih _ _ _ _ h
theorem s_UpRiverModel_feed {X : am_X} {b : Bool} {K : am_K} {y1 : Int64} {J : am_J} {r : Int × am_J} (h : f_UpRiverModel_feed  y1 J = some r) : am_runs X T_UpRiverModel_feed (0, [(0, am_pv 65), (1, am_jv y1)], [], am_SH, (J, K, am_RF b)) (some (am_iv r.1), am_SH, (r.2, K, am_RF b)) := by
  unfold f_UpRiverModel_feed at h
  obtain ⟨g1566, h⟩ := am_if_some h
  by_cases c1567 : 400 < ((J 65 8) + 8)
  · rw [if_pos c1567] at h
    refine am_r_f (show am_stepn X T_UpRiverModel_feed 6 true (0, [(0, am_pv 65), (1, am_jv y1)], [], am_SH, (J, K, am_RF b)) = some (((decide (am_i32 400) && decide (am_i32 ((J 65 8) + 8))) && true), .inl (bif am_cb .le ((J 65 8) + 8) 400 then 16 else 13, [(0, am_pv 65), (1, am_jv y1)], [], am_SH, (J, K, am_RF b))) from rfl) (am_g2 (by decide) g1566 rfl) (am_nd_t c1567) ?_
    obtain rfl := Option.some.inj h
    exact am_r_ret (show am_stepn X T_UpRiverModel_feed 2 true (13, [(0, am_pv 65), (1, am_jv y1)], [], am_SH, (J, K, am_RF b)) = some (true, .inr (.inr (some (am_iv (-3)), am_SH, (J, K, am_RF b)))) from rfl) rfl
  · rw [if_neg c1567] at h
    refine am_r_t (show am_stepn X T_UpRiverModel_feed 6 true (0, [(0, am_pv 65), (1, am_jv y1)], [], am_SH, (J, K, am_RF b)) = some (((decide (am_i32 400) && decide (am_i32 ((J 65 8) + 8))) && true), .inl (bif am_cb .le ((J 65 8) + 8) 400 then 16 else 13, [(0, am_pv 65), (1, am_jv y1)], [], am_SH, (J, K, am_RF b))) from rfl) (am_g2 (by decide) g1566 rfl) (am_nd_f c1567) ?_
    refine am_r_go (show am_stepn X T_UpRiverModel_feed 2 true (16, [(0, am_pv 65), (1, am_jv y1)], [], am_SH, (J, K, am_RF b)) = some (true, .inl (19, [(0, am_pv 65), (1, am_jv y1), (3, am_iv 56)], [], am_SH, (J, K, am_RF b))) from rfl) rfl ?_
    exact s_UpRiverModel_feed_L19  _ _ _ _ _ h
theorem s_UpRiverModel_end {X : am_X} {b : Bool} {K : am_K} {x1 : Int} {J : am_J} {r : Int × am_J} (h : f_UpRiverModel_end  x1 J = some r) : am_runs X T_UpRiverModel_end (0, [(0, am_pv 65), (1, am_iv x1)], [], am_SH, (J, K, am_RF b)) (some (am_iv r.1), am_SH, (r.2, K, am_RF b)) := by
  unfold f_UpRiverModel_end at h
  obtain ⟨q1568, e1569, h⟩ := am_bind_some h
  refine am_r_call (show am_stepn X T_UpRiverModel_end 7 true (0, [(0, am_pv 65), (1, am_iv x1)], [], am_SH, (J, K, am_RF b)) = some (true, .inr (.inl (150, [am_jv (am_i2l x1), am_jv (0 : Int64), am_jv (am_i2l (J 65 8))], 6, 0, 0, 11, [(0, am_pv 65), (1, am_iv x1)], [], am_SH, (J, K, am_RF b)))) from rfl) rfl tb_UpRiverModel_in (s_UpRiverModel_in e1569) ?_
  obtain ⟨g1570, h⟩ := am_if_some h
  by_cases c1571 : q1568 = 0
  · rw [if_pos c1571] at h
    refine am_r_f (show am_stepn X T_UpRiverModel_end 1 true (11, [(0, am_pv 65), (1, am_iv x1)], [am_iv q1568], am_SH, (J, K, am_RF b)) = some ((decide (am_i32 q1568) && true), .inl (bif am_cb .ne q1568 0 then 16 else 14, [(0, am_pv 65), (1, am_iv x1)], [], am_SH, (J, K, am_RF b))) from rfl) (am_g1 g1570 rfl) (am_nd_t c1571) ?_
    obtain rfl := Option.some.inj h
    exact am_r_ret (show am_stepn X T_UpRiverModel_end 2 true (14, [(0, am_pv 65), (1, am_iv x1)], [], am_SH, (J, K, am_RF b)) = some (true, .inr (.inr (some (am_iv (-1)), am_SH, (J, K, am_RF b)))) from rfl) rfl
  · rw [if_neg c1571] at h
    refine am_r_t (show am_stepn X T_UpRiverModel_end 1 true (11, [(0, am_pv 65), (1, am_iv x1)], [am_iv q1568], am_SH, (J, K, am_RF b)) = some ((decide (am_i32 q1568) && true), .inl (bif am_cb .ne q1568 0 then 16 else 14, [(0, am_pv 65), (1, am_iv x1)], [], am_SH, (J, K, am_RF b))) from rfl) (am_g1 g1570 rfl) (am_nd_f c1571) ?_
    obtain rfl := Option.some.inj h
    exact am_r_ret (show am_stepn X T_UpRiverModel_end 8 true (16, [(0, am_pv 65), (1, am_iv x1)], [], am_SH, (J, K, am_RF b)) = some (true, .inr (.inr (some (am_iv (J 65 8)), am_SH, ((am_up J 65 8 x1), K, am_RF b)))) from rfl) rfl
theorem s_UpRiverModel_needs {X : am_X} {b : Bool} {K : am_K} {x1 : Int} {x2 : Int} {J : am_J} {r : am_J} (h : f_UpRiverModel_needs  x1 x2 J = some r) : am_runs X T_UpRiverModel_needs (0, [(0, am_pv 65), (1, am_iv x1), (2, am_iv x2)], [], am_SH, (J, K, am_RF b)) (none, am_SH, (r, K, am_RF b)) := by
  unfold f_UpRiverModel_needs at h
  obtain ⟨g1572, h⟩ := am_if_some h
  by_cases c1573 : x1 = 0
  · rw [if_pos c1573] at h
    refine am_r_f (show am_stepn X T_UpRiverModel_needs 2 true (0, [(0, am_pv 65), (1, am_iv x1), (2, am_iv x2)], [], am_SH, (J, K, am_RF b)) = some ((decide (am_i32 x1) && true), .inl (bif am_cb .ne x1 0 then 24 else 4, [(0, am_pv 65), (1, am_iv x1), (2, am_iv x2)], [], am_SH, (J, K, am_RF b))) from rfl) (am_g1 g1572 rfl) (am_nd_t c1573) ?_
    obtain ⟨g1574, h⟩ := am_if_some h
    by_cases c1575 : (J 65 13) = 0
    · rw [if_pos c1575] at h
      refine am_r_f (show am_stepn X T_UpRiverModel_needs 3 true (4, [(0, am_pv 65), (1, am_iv x1), (2, am_iv x2)], [], am_SH, (J, K, am_RF b)) = some ((decide (am_i32 (J 65 13)) && true), .inl (bif am_cb .ne (J 65 13) 0 then 24 else 11, [(0, am_pv 65), (2, am_iv x2)], [], am_SH, (J, K, am_RF b))) from rfl) (am_g1 g1574 rfl) (am_nd_t c1575) ?_
      obtain rfl := Option.some.inj h
      exact am_r_ret (show am_stepn X T_UpRiverModel_needs 8 true (11, [(0, am_pv 65), (2, am_iv x2)], [], am_SH, (J, K, am_RF b)) = some (true, .inr (.inr (none, am_SH, ((am_up (am_up J 65 13 x2) 65 14 (J 65 10)), K, am_RF b)))) from rfl) rfl
    · rw [if_neg c1575] at h
      refine am_r_t (show am_stepn X T_UpRiverModel_needs 3 true (4, [(0, am_pv 65), (1, am_iv x1), (2, am_iv x2)], [], am_SH, (J, K, am_RF b)) = some ((decide (am_i32 (J 65 13)) && true), .inl (bif am_cb .ne (J 65 13) 0 then 24 else 11, [(0, am_pv 65), (2, am_iv x2)], [], am_SH, (J, K, am_RF b))) from rfl) (am_g1 g1574 rfl) (am_nd_f c1575) ?_
      obtain rfl := Option.some.inj h
      exact am_r_ret (show am_stepn X T_UpRiverModel_needs 1 true (24, [(0, am_pv 65), (2, am_iv x2)], [], am_SH, (J, K, am_RF b)) = some (true, .inr (.inr (none, am_SH, (J, K, am_RF b)))) from rfl) rfl
  · rw [if_neg c1573] at h
    refine am_r_t (show am_stepn X T_UpRiverModel_needs 2 true (0, [(0, am_pv 65), (1, am_iv x1), (2, am_iv x2)], [], am_SH, (J, K, am_RF b)) = some ((decide (am_i32 x1) && true), .inl (bif am_cb .ne x1 0 then 24 else 4, [(0, am_pv 65), (1, am_iv x1), (2, am_iv x2)], [], am_SH, (J, K, am_RF b))) from rfl) (am_g1 g1572 rfl) (am_nd_f c1573) ?_
    obtain rfl := Option.some.inj h
    exact am_r_ret (show am_stepn X T_UpRiverModel_needs 1 true (24, [(0, am_pv 65), (1, am_iv x1), (2, am_iv x2)], [], am_SH, (J, K, am_RF b)) = some (true, .inr (.inr (none, am_SH, (J, K, am_RF b)))) from rfl) rfl
theorem s_UpRiverModel_look {X : am_X} {b : Bool} {J : am_J} {K : am_K} {x1 : Int} {r : Int} (h : f_UpRiverModel_look J x1 = some r) : am_runs X T_UpRiverModel_look (0, [(0, am_pv 65), (1, am_iv x1)], [], am_SH, (J, K, am_RF b)) (some (am_iv r), am_SH, (J, K, am_RF b)) := by
  unfold f_UpRiverModel_look at h
  obtain ⟨g1576, h⟩ := am_if_some h
  obtain ⟨g1577, h⟩ := am_if_some h
  by_cases c1578 : x1 < (J 65 8)
  · rw [if_pos c1578] at h
    refine am_r_f (show am_stepn X T_UpRiverModel_look 4 true (0, [(0, am_pv 65), (1, am_iv x1)], [], am_SH, (J, K, am_RF b)) = some (((decide (am_i32 (J 65 8)) && decide (am_i32 x1)) && true), .inl (bif am_cb .ge x1 (J 65 8) then 17 else 8, [(0, am_pv 65), (1, am_iv x1)], [], am_SH, (J, K, am_RF b))) from rfl) (am_g2 g1576 g1577 rfl) (am_nd_t c1578) ?_
    obtain ⟨g1579, h⟩ := am_if_some h
    obtain rfl := Option.some.inj h
    exact am_r_ret (show am_stepn X T_UpRiverModel_look 6 true (8, [(0, am_pv 65), (1, am_iv x1)], [], am_SH, (J, K, am_RF b)) = some ((am_in x1 400 && true), .inr (.inr (some (am_iv (J 71 x1.toNat)), am_SH, (J, K, am_RF b)))) from rfl) (am_gi g1579 rfl)
  · rw [if_neg c1578] at h
    refine am_r_t (show am_stepn X T_UpRiverModel_look 4 true (0, [(0, am_pv 65), (1, am_iv x1)], [], am_SH, (J, K, am_RF b)) = some (((decide (am_i32 (J 65 8)) && decide (am_i32 x1)) && true), .inl (bif am_cb .ge x1 (J 65 8) then 17 else 8, [(0, am_pv 65), (1, am_iv x1)], [], am_SH, (J, K, am_RF b))) from rfl) (am_g2 g1576 g1577 rfl) (am_nd_f c1578) ?_
    obtain rfl := Option.some.inj h
    exact am_r_ret (show am_stepn X T_UpRiverModel_look 2 true (17, [(0, am_pv 65), (1, am_iv x1)], [], am_SH, (J, K, am_RF b)) = some (true, .inr (.inr (some (am_iv (-1)), am_SH, (J, K, am_RF b)))) from rfl) rfl
theorem s_UpRiverModel_next_L260 {X : am_X} {b : Bool} {K : am_K}  : ∀ (s1 : Int) (J : am_J) (r : am_J), f_UpRiverModel_next_L260    s1 J = some r → am_runs X T_UpRiverModel_next (260, [(0, am_pv 65)], [am_iv s1, am_pv 65], am_SH, (J, K, am_RF b)) (none, am_SH, (r, K, am_RF b)) := by
  intro s1 J r h
  unfold f_UpRiverModel_next_L260 at h
  obtain ⟨q1580, e1581, h⟩ := am_bind_some h
  refine am_r_call (show am_stepn X T_UpRiverModel_next 2 true (260, [(0, am_pv 65)], [am_iv s1, am_pv 65], am_SH, (J, K, am_RF b)) = some (true, .inr (.inl (157, [am_pv 65, am_iv s1, am_iv 1], 3, 0, 0, 264, [(0, am_pv 65)], [], am_SH, (J, K, am_RF b)))) from rfl) rfl tb_UpRiverModel_needs (s_UpRiverModel_needs e1581) ?_
  obtain rfl := Option.some.inj h
  exact am_r_ret (show am_stepn X T_UpRiverModel_next 7 true (264, [(0, am_pv 65)], [], am_SH, (q1580, K, am_RF b)) = some (true, .inr (.inr (none, am_SH, ((am_up q1580 65 9 ((q1580 65 9) + 1)), K, am_RF b)))) from rfl) rfl
theorem s_UpRiverModel_next_L236 {X : am_X} {b : Bool} {K : am_K}  : ∀ (s1 : Int) (J : am_J) (r : am_J), f_UpRiverModel_next_L236    s1 J = some r → am_runs X T_UpRiverModel_next (236, [], [am_iv s1, am_pv 65], am_SH, (J, K, am_RF b)) (none, am_SH, (r, K, am_RF b)) := by
  intro s1 J r h
  unfold f_UpRiverModel_next_L236 at h
  obtain ⟨q1582, e1583, h⟩ := am_bind_some h
  refine am_r_call (show am_stepn X T_UpRiverModel_next 2 true (236, [], [am_iv s1, am_pv 65], am_SH, (J, K, am_RF b)) = some (true, .inr (.inl (157, [am_pv 65, am_iv s1, am_iv 1], 3, 0, 0, 240, [], [], am_SH, (J, K, am_RF b)))) from rfl) rfl tb_UpRiverModel_needs (s_UpRiverModel_needs e1583) ?_
  obtain rfl := Option.some.inj h
  exact am_r_ret (show am_stepn X T_UpRiverModel_next 2 true (240, [], [], am_SH, (q1582, K, am_RF b)) = some (true, .inr (.inr (none, am_SH, (q1582, K, am_RF b)))) from rfl) rfl
theorem s_UpRiverModel_next_L140 {X : am_X} {b : Bool} {K : am_K}  : ∀ (n : Nat) (J : am_J) (r : am_J), f_UpRiverModel_next_L140   n J = some r → am_runs X T_UpRiverModel_next (140, [(0, am_pv 65)], [], am_SH, (J, K, am_RF b)) (none, am_SH, (r, K, am_RF b)) := by
  intro n
  induction n with
  | zero =>
    intro J r h
    cases h
  | succ n ih =>
    intro J r h
    rw [f_UpRiverModel_next_L140.eq_2] at h
    obtain ⟨q1584, e1585, h⟩ := am_bind_some h
    refine am_r_call (show am_stepn X T_UpRiverModel_next 4 true (140, [(0, am_pv 65)], [], am_SH, (J, K, am_RF b)) = some (true, .inr (.inl (156, [am_pv 65, am_iv (J 65 9)], 2, 0, 0, 148, [(0, am_pv 65)], [], am_SH, (J, K, am_RF b)))) from rfl) rfl tb_UpRiverModel_look (s_UpRiverModel_look e1585) ?_
    obtain ⟨q1586, e1587, h⟩ := am_bind_some h
    refine am_r_call (show am_stepn X T_UpRiverModel_next 4 true (148, [(0, am_pv 65)], [am_iv q1584], am_SH, (J, K, am_RF b)) = some (true, .inr (.inl (150, [am_jv (am_i2l q1584), am_jv (48 : Int64), am_jv (57 : Int64)], 6, 0, 0, 158, [(0, am_pv 65)], [], am_SH, (J, K, am_RF b)))) from rfl) rfl tb_UpRiverModel_in (s_UpRiverModel_in e1587) ?_
    obtain ⟨g1588, h⟩ := am_if_some h
    by_cases c1589 : q1586 = 0
    · rw [if_pos c1589] at h
      refine am_r_t (show am_stepn X T_UpRiverModel_next 1 true (158, [(0, am_pv 65)], [am_iv q1586], am_SH, (J, K, am_RF b)) = some ((decide (am_i32 q1586) && true), .inl (bif am_cb .eq q1586 0 then 217 else 161, [(0, am_pv 65)], [], am_SH, (J, K, am_RF b))) from rfl) (am_g1 g1588 rfl) (decide_eq_true c1589) ?_
      obtain ⟨g1590, h⟩ := am_if_some h
      by_cases c1591 : 3 < ((J 65 9) - (J 65 10))
      · rw [if_pos c1591] at h
        refine am_r_t (show am_stepn X T_UpRiverModel_next 8 true (217, [(0, am_pv 65)], [], am_SH, (J, K, am_RF b)) = some (((decide (am_i32 3) && decide (am_i32 ((J 65 9) - (J 65 10)))) && true), .inl (bif am_cb .gt ((J 65 9) - (J 65 10)) 3 then 235 else 231, [(0, am_pv 65)], [am_pv 65], am_SH, (J, K, am_RF b))) from rfl) (am_g2 (by decide) g1590 rfl) (decide_eq_true c1591) ?_
        refine am_r_go (show am_stepn X T_UpRiverModel_next 1 true (235, [(0, am_pv 65)], [am_pv 65], am_SH, (J, K, am_RF b)) = some (true, .inl (236, [], [am_iv 0, am_pv 65], am_SH, (J, K, am_RF b))) from rfl) rfl ?_
        exact s_UpRiverModel_next_L236  _ _ _ h
      · rw [if_neg c1591] at h
        refine am_r_f (show am_stepn X T_UpRiverModel_next 8 true (217, [(0, am_pv 65)], [], am_SH, (J, K, am_RF b)) = some (((decide (am_i32 3) && decide (am_i32 ((J 65 9) - (J 65 10)))) && true), .inl (bif am_cb .gt ((J 65 9) - (J 65 10)) 3 then 235 else 231, [(0, am_pv 65)], [am_pv 65], am_SH, (J, K, am_RF b))) from rfl) (am_g2 (by decide) g1590 rfl) (decide_eq_false c1591) ?_
        refine am_r_go (show am_stepn X T_UpRiverModel_next 2 true (231, [(0, am_pv 65)], [am_pv 65], am_SH, (J, K, am_RF b)) = some (true, .inl (236, [], [am_iv 1, am_pv 65], am_SH, (J, K, am_RF b))) from rfl) rfl ?_
        exact s_UpRiverModel_next_L236  _ _ _ h
    · rw [if_neg c1589] at h
      refine am_r_f (show am_stepn X T_UpRiverModel_next 1 true (158, [(0, am_pv 65)], [am_iv q1586], am_SH, (J, K, am_RF b)) = some ((decide (am_i32 q1586) && true), .inl (bif am_cb .eq q1586 0 then 217 else 161, [(0, am_pv 65)], [], am_SH, (J, K, am_RF b))) from rfl) (am_g1 g1588 rfl) (decide_eq_false c1589) ?_
      obtain ⟨g1592, h⟩ := am_if_some h
      by_cases c1593 : ((J 65 9) - (J 65 10)) < 3
      · rw [if_pos c1593] at h
        refine am_r_f (show am_stepn X T_UpRiverModel_next 8 true (161, [(0, am_pv 65)], [], am_SH, (J, K, am_RF b)) = some (((decide (am_i32 3) && decide (am_i32 ((J 65 9) - (J 65 10)))) && true), .inl (bif am_cb .ge ((J 65 9) - (J 65 10)) 3 then 197 else 175, [(0, am_pv 65)], [am_pv 65], am_SH, (J, K, am_RF b))) from rfl) (am_g2 (by decide) g1592 rfl) (am_nd_t c1593) ?_
        obtain ⟨q1594, e1595, h⟩ := am_bind_some h
        refine am_r_call (show am_stepn X T_UpRiverModel_next 8 true (175, [(0, am_pv 65)], [am_pv 65], am_SH, (J, K, am_RF b)) = some (true, .inr (.inl (156, [am_pv 65, am_iv (J 65 9)], 2, 0, 0, 190, [(0, am_pv 65)], [am_iv (10 * (J 65 12)), am_pv 65], am_SH, (J, K, am_RF b)))) from rfl) rfl tb_UpRiverModel_look (s_UpRiverModel_look e1595) ?_
        refine am_r_go (show am_stepn X T_UpRiverModel_next 12 true (190, [(0, am_pv 65)], [am_iv q1594, am_iv (10 * (J 65 12)), am_pv 65], am_SH, (J, K, am_RF b)) = some (true, .inl (140, [(0, am_pv 65)], [], am_SH, ((am_up (am_up J 65 12 (((10 * (J 65 12)) + q1594) - 48)) 65 9 ((J 65 9) + 1)), K, am_RF b))) from rfl) rfl ?_
        exact ih _ _ h
      · rw [if_neg c1593] at h
        refine am_r_t (show am_stepn X T_UpRiverModel_next 8 true (161, [(0, am_pv 65)], [], am_SH, (J, K, am_RF b)) = some (((decide (am_i32 3) && decide (am_i32 ((J 65 9) - (J 65 10)))) && true), .inl (bif am_cb .ge ((J 65 9) - (J 65 10)) 3 then 197 else 175, [(0, am_pv 65)], [am_pv 65], am_SH, (J, K, am_RF b))) from rfl) (am_g2 (by decide) g1592 rfl) (am_nd_f c1593) ?_
        refine am_r_go (show am_stepn X T_UpRiverModel_next 10 true (197, [(0, am_pv 65)], [am_pv 65], am_SH, (J, K, am_RF b)) = some (true, .inl (140, [(0, am_pv 65)], [], am_SH, ((am_up (am_up J 65 12 (J 65 12)) 65 9 ((J 65 9) + 1)), K, am_RF b))) from rfl) rfl ?_
        exact ih _ _ h
theorem s_UpRiverModel_next_L82 {X : am_X} {b : Bool} {K : am_K}  : ∀ (n : Nat) (J : am_J) (r : am_J), f_UpRiverModel_next_L82   n J = some r → am_runs X T_UpRiverModel_next (82, [(0, am_pv 65)], [], am_SH, (J, K, am_RF b)) (none, am_SH, (r, K, am_RF b)) := by
  intro n
  induction n with
  | zero =>
    intro J r h
    cases h
  | succ n ih =>
    intro J r h
    rw [f_UpRiverModel_next_L82.eq_2] at h
    obtain ⟨q1596, e1597, h⟩ := am_bind_some h
    refine am_r_call (show am_stepn X T_UpRiverModel_next 4 true (82, [(0, am_pv 65)], [], am_SH, (J, K, am_RF b)) = some (true, .inr (.inl (156, [am_pv 65, am_iv (J 65 9)], 2, 0, 0, 90, [(0, am_pv 65)], [], am_SH, (J, K, am_RF b)))) from rfl) rfl tb_UpRiverModel_look (s_UpRiverModel_look e1597) ?_
    obtain ⟨q1598, e1599, h⟩ := am_bind_some h
    refine am_r_call (show am_stepn X T_UpRiverModel_next 4 true (90, [(0, am_pv 65)], [am_iv q1596], am_SH, (J, K, am_RF b)) = some (true, .inr (.inl (150, [am_jv (am_i2l q1596), am_jv (97 : Int64), am_jv (122 : Int64)], 6, 0, 0, 100, [(0, am_pv 65)], [], am_SH, (J, K, am_RF b)))) from rfl) rfl tb_UpRiverModel_in (s_UpRiverModel_in e1599) ?_
    obtain ⟨g1600, h⟩ := am_if_some h
    by_cases c1601 : q1598 = 0
    · rw [if_pos c1601] at h
      refine am_r_t (show am_stepn X T_UpRiverModel_next 1 true (100, [(0, am_pv 65)], [am_iv q1598], am_SH, (J, K, am_RF b)) = some ((decide (am_i32 q1598) && true), .inl (bif am_cb .eq q1598 0 then 274 else 103, [(0, am_pv 65)], [], am_SH, (J, K, am_RF b))) from rfl) (am_g1 g1600 rfl) (decide_eq_true c1601) ?_
      obtain rfl := Option.some.inj h
      exact am_r_ret (show am_stepn X T_UpRiverModel_next 1 true (274, [(0, am_pv 65)], [], am_SH, (J, K, am_RF b)) = some (true, .inr (.inr (none, am_SH, (J, K, am_RF b)))) from rfl) rfl
    · rw [if_neg c1601] at h
      refine am_r_f (show am_stepn X T_UpRiverModel_next 1 true (100, [(0, am_pv 65)], [am_iv q1598], am_SH, (J, K, am_RF b)) = some ((decide (am_i32 q1598) && true), .inl (bif am_cb .eq q1598 0 then 274 else 103, [(0, am_pv 65)], [], am_SH, (J, K, am_RF b))) from rfl) (am_g1 g1600 rfl) (decide_eq_false c1601) ?_
      refine am_r_go (show am_stepn X T_UpRiverModel_next 7 true (103, [(0, am_pv 65)], [], am_SH, (J, K, am_RF b)) = some (true, .inl (82, [(0, am_pv 65)], [], am_SH, ((am_up J 65 9 ((J 65 9) + 1)), K, am_RF b))) from rfl) rfl ?_
      exact ih _ _ h
theorem s_UpRiverModel_next_L8 {X : am_X} {b : Bool} {K : am_K}  : ∀ (n : Nat) (J : am_J) (r : am_J), f_UpRiverModel_next_L8   n J = some r → am_runs X T_UpRiverModel_next (8, [(0, am_pv 65)], [], am_SH, (J, K, am_RF b)) (none, am_SH, (r, K, am_RF b)) := by
  intro n
  induction n with
  | zero =>
    intro J r h
    cases h
  | succ n ih =>
    intro J r h
    rw [f_UpRiverModel_next_L8.eq_2] at h
    obtain ⟨q1602, e1603, h⟩ := am_bind_some h
    refine am_r_call (show am_stepn X T_UpRiverModel_next 4 true (8, [(0, am_pv 65)], [], am_SH, (J, K, am_RF b)) = some (true, .inr (.inl (156, [am_pv 65, am_iv (J 65 9)], 2, 0, 0, 16, [(0, am_pv 65)], [], am_SH, (J, K, am_RF b)))) from rfl) rfl tb_UpRiverModel_look (s_UpRiverModel_look e1603) ?_
    obtain ⟨g1604, h⟩ := am_if_some h
    by_cases c1605 : q1602 = 32
    · rw [if_pos c1605] at h
      refine am_r_f (show am_stepn X T_UpRiverModel_next 2 true (16, [(0, am_pv 65)], [am_iv q1602], am_SH, (J, K, am_RF b)) = some (((decide (am_i32 32) && decide (am_i32 q1602)) && true), .inl (bif am_cb .ne q1602 32 then 34 else 21, [(0, am_pv 65)], [], am_SH, (J, K, am_RF b))) from rfl) (am_g2 (by decide) g1604 rfl) (am_nd_t c1605) ?_
      refine am_r_go (show am_stepn X T_UpRiverModel_next 7 true (21, [(0, am_pv 65)], [], am_SH, (J, K, am_RF b)) = some (true, .inl (8, [(0, am_pv 65)], [], am_SH, ((am_up J 65 9 ((J 65 9) + 1)), K, am_RF b))) from rfl) rfl ?_
      exact ih _ _ h
    · rw [if_neg c1605] at h
      refine am_r_t (show am_stepn X T_UpRiverModel_next 2 true (16, [(0, am_pv 65)], [am_iv q1602], am_SH, (J, K, am_RF b)) = some (((decide (am_i32 32) && decide (am_i32 q1602)) && true), .inl (bif am_cb .ne q1602 32 then 34 else 21, [(0, am_pv 65)], [], am_SH, (J, K, am_RF b))) from rfl) (am_g2 (by decide) g1604 rfl) (am_nd_f c1605) ?_
      obtain ⟨q1606, e1607, h⟩ := am_bind_some h
      refine am_r_call (show am_stepn X T_UpRiverModel_next 8 true (34, [(0, am_pv 65)], [], am_SH, (J, K, am_RF b)) = some (true, .inr (.inl (156, [am_pv 65, am_iv (J 65 9)], 2, 0, 0, 50, [(0, am_pv 65)], [], am_SH, ((am_up J 65 10 (J 65 9)), K, am_RF b)))) from rfl) rfl tb_UpRiverModel_look (s_UpRiverModel_look e1607) ?_
      obtain ⟨g1608, h⟩ := am_if_some h
      by_cases c1609 : q1606 < 0
      · rw [if_pos c1609] at h
        refine am_r_f (show am_stepn X T_UpRiverModel_next 3 true (50, [(0, am_pv 65)], [am_iv q1606], am_SH, ((am_up J 65 10 (J 65 9)), K, am_RF b)) = some ((decide (am_i32 q1606) && true), .inl (bif am_cb .ge q1606 0 then 63 else 55, [(0, am_pv 65), (1, am_iv q1606)], [], am_SH, ((am_up J 65 10 (J 65 9)), K, am_RF b))) from rfl) (am_g1 g1608 rfl) (am_nd_t c1609) ?_
        obtain rfl := Option.some.inj h
        exact am_r_ret (show am_stepn X T_UpRiverModel_next 5 true (55, [(0, am_pv 65), (1, am_iv q1606)], [], am_SH, ((am_up J 65 10 (J 65 9)), K, am_RF b)) = some (true, .inr (.inr (none, am_SH, ((am_up (am_up J 65 10 (J 65 9)) 65 11 0), K, am_RF b)))) from rfl) rfl
      · rw [if_neg c1609] at h
        refine am_r_t (show am_stepn X T_UpRiverModel_next 3 true (50, [(0, am_pv 65)], [am_iv q1606], am_SH, ((am_up J 65 10 (J 65 9)), K, am_RF b)) = some ((decide (am_i32 q1606) && true), .inl (bif am_cb .ge q1606 0 then 63 else 55, [(0, am_pv 65), (1, am_iv q1606)], [], am_SH, ((am_up J 65 10 (J 65 9)), K, am_RF b))) from rfl) (am_g1 g1608 rfl) (am_nd_f c1609) ?_
        obtain ⟨q1610, e1611, h⟩ := am_bind_some h
        refine am_r_call (show am_stepn X T_UpRiverModel_next 5 true (63, [(0, am_pv 65), (1, am_iv q1606)], [], am_SH, ((am_up J 65 10 (J 65 9)), K, am_RF b)) = some (true, .inr (.inl (150, [am_jv (am_i2l q1606), am_jv (97 : Int64), am_jv (122 : Int64)], 6, 0, 0, 74, [(0, am_pv 65), (1, am_iv q1606)], [], am_SH, ((am_up J 65 10 (J 65 9)), K, am_RF b)))) from rfl) rfl tb_UpRiverModel_in (s_UpRiverModel_in e1611) ?_
        obtain ⟨g1612, h⟩ := am_if_some h
        by_cases c1613 : q1610 = 0
        · rw [if_pos c1613] at h
          refine am_r_t (show am_stepn X T_UpRiverModel_next 1 true (74, [(0, am_pv 65), (1, am_iv q1606)], [am_iv q1610], am_SH, ((am_up J 65 10 (J 65 9)), K, am_RF b)) = some ((decide (am_i32 q1610) && true), .inl (bif am_cb .eq q1610 0 then 116 else 77, [(0, am_pv 65), (1, am_iv q1606)], [], am_SH, ((am_up J 65 10 (J 65 9)), K, am_RF b))) from rfl) (am_g1 g1612 rfl) (decide_eq_true c1613) ?_
          obtain ⟨q1614, e1615, h⟩ := am_bind_some h
          refine am_r_call (show am_stepn X T_UpRiverModel_next 5 true (116, [(0, am_pv 65), (1, am_iv q1606)], [], am_SH, ((am_up J 65 10 (J 65 9)), K, am_RF b)) = some (true, .inr (.inl (150, [am_jv (am_i2l q1606), am_jv (48 : Int64), am_jv (57 : Int64)], 6, 0, 0, 127, [(0, am_pv 65), (1, am_iv q1606)], [], am_SH, ((am_up J 65 10 (J 65 9)), K, am_RF b)))) from rfl) rfl tb_UpRiverModel_in (s_UpRiverModel_in e1615) ?_
          obtain ⟨g1616, h⟩ := am_if_some h
          by_cases c1617 : q1614 = 0
          · rw [if_pos c1617] at h
            refine am_r_t (show am_stepn X T_UpRiverModel_next 1 true (127, [(0, am_pv 65), (1, am_iv q1606)], [am_iv q1614], am_SH, ((am_up J 65 10 (J 65 9)), K, am_RF b)) = some ((decide (am_i32 q1614) && true), .inl (bif am_cb .eq q1614 0 then 243 else 130, [(0, am_pv 65), (1, am_iv q1606)], [], am_SH, ((am_up J 65 10 (J 65 9)), K, am_RF b))) from rfl) (am_g1 g1616 rfl) (decide_eq_true c1617) ?_
            by_cases c1618 : q1606 = 59
            · rw [if_pos c1618] at h
              refine am_r_f (show am_stepn X T_UpRiverModel_next 7 true (243, [(0, am_pv 65), (1, am_iv q1606)], [], am_SH, ((am_up J 65 10 (J 65 9)), K, am_RF b)) = some (((decide (am_i32 59) && decide (am_i32 q1606)) && true), .inl (bif am_cb .ne q1606 59 then 259 else 255, [(0, am_pv 65), (1, am_iv q1606)], [am_pv 65], am_SH, ((am_up (am_up J 65 10 (J 65 9)) 65 11 3), K, am_RF b))) from rfl) (am_g2 (by decide) g1608 rfl) (am_nd_t c1618) ?_
              refine am_r_go (show am_stepn X T_UpRiverModel_next 2 true (255, [(0, am_pv 65), (1, am_iv q1606)], [am_pv 65], am_SH, ((am_up (am_up J 65 10 (J 65 9)) 65 11 3), K, am_RF b)) = some (true, .inl (260, [(0, am_pv 65)], [am_iv 1, am_pv 65], am_SH, ((am_up (am_up J 65 10 (J 65 9)) 65 11 3), K, am_RF b))) from rfl) rfl ?_
              exact s_UpRiverModel_next_L260  _ _ _ h
            · rw [if_neg c1618] at h
              refine am_r_t (show am_stepn X T_UpRiverModel_next 7 true (243, [(0, am_pv 65), (1, am_iv q1606)], [], am_SH, ((am_up J 65 10 (J 65 9)), K, am_RF b)) = some (((decide (am_i32 59) && decide (am_i32 q1606)) && true), .inl (bif am_cb .ne q1606 59 then 259 else 255, [(0, am_pv 65), (1, am_iv q1606)], [am_pv 65], am_SH, ((am_up (am_up J 65 10 (J 65 9)) 65 11 3), K, am_RF b))) from rfl) (am_g2 (by decide) g1608 rfl) (am_nd_f c1618) ?_
              refine am_r_go (show am_stepn X T_UpRiverModel_next 1 true (259, [(0, am_pv 65), (1, am_iv q1606)], [am_pv 65], am_SH, ((am_up (am_up J 65 10 (J 65 9)) 65 11 3), K, am_RF b)) = some (true, .inl (260, [(0, am_pv 65)], [am_iv 0, am_pv 65], am_SH, ((am_up (am_up J 65 10 (J 65 9)) 65 11 3), K, am_RF b))) from rfl) rfl ?_
              exact s_UpRiverModel_next_L260  _ _ _ h
          · rw [if_neg c1617] at h
            refine am_r_f (show am_stepn X T_UpRiverModel_next 1 true (127, [(0, am_pv 65), (1, am_iv q1606)], [am_iv q1614], am_SH, ((am_up J 65 10 (J 65 9)), K, am_RF b)) = some ((decide (am_i32 q1614) && true), .inl (bif am_cb .eq q1614 0 then 243 else 130, [(0, am_pv 65), (1, am_iv q1606)], [], am_SH, ((am_up J 65 10 (J 65 9)), K, am_RF b))) from rfl) (am_g1 g1616 rfl) (decide_eq_false c1617) ?_
            refine am_r_go (show am_stepn X T_UpRiverModel_next 6 true (130, [(0, am_pv 65), (1, am_iv q1606)], [], am_SH, ((am_up J 65 10 (J 65 9)), K, am_RF b)) = some (true, .inl (140, [(0, am_pv 65)], [], am_SH, ((am_up (am_up (am_up J 65 10 (J 65 9)) 65 11 2) 65 12 0), K, am_RF b))) from rfl) rfl ?_
            exact s_UpRiverModel_next_L140  _ _ _ h
        · rw [if_neg c1613] at h
          refine am_r_f (show am_stepn X T_UpRiverModel_next 1 true (74, [(0, am_pv 65), (1, am_iv q1606)], [am_iv q1610], am_SH, ((am_up J 65 10 (J 65 9)), K, am_RF b)) = some ((decide (am_i32 q1610) && true), .inl (bif am_cb .eq q1610 0 then 116 else 77, [(0, am_pv 65), (1, am_iv q1606)], [], am_SH, ((am_up J 65 10 (J 65 9)), K, am_RF b))) from rfl) (am_g1 g1612 rfl) (decide_eq_false c1613) ?_
          refine am_r_go (show am_stepn X T_UpRiverModel_next 3 true (77, [(0, am_pv 65), (1, am_iv q1606)], [], am_SH, ((am_up J 65 10 (J 65 9)), K, am_RF b)) = some (true, .inl (82, [(0, am_pv 65)], [], am_SH, ((am_up (am_up J 65 10 (J 65 9)) 65 11 1), K, am_RF b))) from rfl) rfl ?_
          exact s_UpRiverModel_next_L82  _ _ _ h
theorem s_UpRiverModel_next {X : am_X} {b : Bool} {K : am_K} {J : am_J} {r : am_J} (h : f_UpRiverModel_next  J = some r) : am_runs X T_UpRiverModel_next (0, [(0, am_pv 65)], [], am_SH, (J, K, am_RF b)) (none, am_SH, (r, K, am_RF b)) := by
  unfold f_UpRiverModel_next at h
  obtain ⟨g1619, h⟩ := am_if_some h
  by_cases c1620 : 0 < (J 65 13)
  · rw [if_pos c1620] at h
    refine am_r_f (show am_stepn X T_UpRiverModel_next 3 true (0, [(0, am_pv 65)], [], am_SH, (J, K, am_RF b)) = some ((decide (am_i32 (J 65 13)) && true), .inl (bif am_cb .le (J 65 13) 0 then 8 else 7, [(0, am_pv 65)], [], am_SH, (J, K, am_RF b))) from rfl) (am_g1 g1619 rfl) (am_nd_t c1620) ?_
    obtain rfl := Option.some.inj h
    exact am_r_ret (show am_stepn X T_UpRiverModel_next 1 true (7, [(0, am_pv 65)], [], am_SH, (J, K, am_RF b)) = some (true, .inr (.inr (none, am_SH, (J, K, am_RF b)))) from rfl) rfl
  · rw [if_neg c1620] at h
    refine am_r_t (show am_stepn X T_UpRiverModel_next 3 true (0, [(0, am_pv 65)], [], am_SH, (J, K, am_RF b)) = some ((decide (am_i32 (J 65 13)) && true), .inl (bif am_cb .le (J 65 13) 0 then 8 else 7, [(0, am_pv 65)], [], am_SH, (J, K, am_RF b))) from rfl) (am_g1 g1619 rfl) (am_nd_f c1620) ?_
    exact s_UpRiverModel_next_L8  _ _ _ h
theorem s_UpRiverModel_is {X : am_X} {b : Bool} {J : am_J} {K : am_K} {x1 : Int} {x2 : Int} {x3 : Int} {x4 : Int} {x5 : Int} {r : Int} (h : f_UpRiverModel_is J x1 x2 x3 x4 x5 = some r) : am_runs X T_UpRiverModel_is (0, [(0, am_pv 65), (1, am_iv x1), (2, am_iv x2), (3, am_iv x3), (4, am_iv x4), (5, am_iv x5)], [], am_SH, (J, K, am_RF b)) (some (am_iv r), am_SH, (J, K, am_RF b)) := by
  unfold f_UpRiverModel_is at h
  obtain ⟨g1621, h⟩ := am_if_some h
  obtain ⟨g1622, h⟩ := am_if_some h
  by_cases c1623 : ((J 65 9) - (J 65 10)) = x1
  · rw [if_pos c1623] at h
    refine am_r_f (show am_stepn X T_UpRiverModel_is 7 true (0, [(0, am_pv 65), (1, am_iv x1), (2, am_iv x2), (3, am_iv x3), (4, am_iv x4), (5, am_iv x5)], [], am_SH, (J, K, am_RF b)) = some (((decide (am_i32 x1) && decide (am_i32 ((J 65 9) - (J 65 10)))) && true), .inl (bif am_cb .ne ((J 65 9) - (J 65 10)) x1 then 78 else 13, [(0, am_pv 65), (1, am_iv x1), (2, am_iv x2), (3, am_iv x3), (4, am_iv x4), (5, am_iv x5)], [], am_SH, (J, K, am_RF b))) from rfl) (am_g2 g1621 g1622 rfl) (am_nd_t c1623) ?_
    obtain ⟨q1624, e1625, h⟩ := am_bind_some h
    refine am_r_call (show am_stepn X T_UpRiverModel_is 4 true (13, [(0, am_pv 65), (1, am_iv x1), (2, am_iv x2), (3, am_iv x3), (4, am_iv x4), (5, am_iv x5)], [], am_SH, (J, K, am_RF b)) = some (true, .inr (.inl (156, [am_pv 65, am_iv (J 65 10)], 2, 0, 0, 21, [(0, am_pv 65), (1, am_iv x1), (2, am_iv x2), (3, am_iv x3), (4, am_iv x4), (5, am_iv x5)], [], am_SH, (J, K, am_RF b)))) from rfl) rfl tb_UpRiverModel_look (s_UpRiverModel_look e1625) ?_
    obtain ⟨g1626, h⟩ := am_if_some h
    obtain ⟨g1627, h⟩ := am_if_some h
    by_cases c1628 : q1624 = x2
    · rw [if_pos c1628] at h
      refine am_r_f (show am_stepn X T_UpRiverModel_is 2 true (21, [(0, am_pv 65), (1, am_iv x1), (2, am_iv x2), (3, am_iv x3), (4, am_iv x4), (5, am_iv x5)], [am_iv q1624], am_SH, (J, K, am_RF b)) = some (((decide (am_i32 x2) && decide (am_i32 q1624)) && true), .inl (bif am_cb .ne q1624 x2 then 78 else 25, [(0, am_pv 65), (1, am_iv x1), (2, am_iv x2), (3, am_iv x3), (4, am_iv x4), (5, am_iv x5)], [], am_SH, (J, K, am_RF b))) from rfl) (am_g2 g1626 g1627 rfl) (am_nd_t c1628) ?_
      obtain ⟨q1629, e1630, h⟩ := am_bind_some h
      refine am_r_call (show am_stepn X T_UpRiverModel_is 6 true (25, [(0, am_pv 65), (1, am_iv x1), (2, am_iv x2), (3, am_iv x3), (4, am_iv x4), (5, am_iv x5)], [], am_SH, (J, K, am_RF b)) = some (true, .inr (.inl (156, [am_pv 65, am_iv ((J 65 10) + 1)], 2, 0, 0, 35, [(0, am_pv 65), (1, am_iv x1), (3, am_iv x3), (4, am_iv x4), (5, am_iv x5)], [], am_SH, (J, K, am_RF b)))) from rfl) rfl tb_UpRiverModel_look (s_UpRiverModel_look e1630) ?_
      obtain ⟨g1631, h⟩ := am_if_some h
      obtain ⟨g1632, h⟩ := am_if_some h
      by_cases c1633 : q1629 = x3
      · rw [if_pos c1633] at h
        refine am_r_f (show am_stepn X T_UpRiverModel_is 2 true (35, [(0, am_pv 65), (1, am_iv x1), (3, am_iv x3), (4, am_iv x4), (5, am_iv x5)], [am_iv q1629], am_SH, (J, K, am_RF b)) = some (((decide (am_i32 x3) && decide (am_i32 q1629)) && true), .inl (bif am_cb .ne q1629 x3 then 78 else 39, [(0, am_pv 65), (1, am_iv x1), (3, am_iv x3), (4, am_iv x4), (5, am_iv x5)], [], am_SH, (J, K, am_RF b))) from rfl) (am_g2 g1631 g1632 rfl) (am_nd_t c1633) ?_
        obtain ⟨q1634, e1635, h⟩ := am_bind_some h
        refine am_r_call (show am_stepn X T_UpRiverModel_is 6 true (39, [(0, am_pv 65), (1, am_iv x1), (3, am_iv x3), (4, am_iv x4), (5, am_iv x5)], [], am_SH, (J, K, am_RF b)) = some (true, .inr (.inl (156, [am_pv 65, am_iv ((J 65 10) + 2)], 2, 0, 0, 49, [(0, am_pv 65), (1, am_iv x1), (4, am_iv x4), (5, am_iv x5)], [], am_SH, (J, K, am_RF b)))) from rfl) rfl tb_UpRiverModel_look (s_UpRiverModel_look e1635) ?_
        obtain ⟨g1636, h⟩ := am_if_some h
        obtain ⟨g1637, h⟩ := am_if_some h
        by_cases c1638 : q1634 = x4
        · rw [if_pos c1638] at h
          refine am_r_f (show am_stepn X T_UpRiverModel_is 2 true (49, [(0, am_pv 65), (1, am_iv x1), (4, am_iv x4), (5, am_iv x5)], [am_iv q1634], am_SH, (J, K, am_RF b)) = some (((decide (am_i32 x4) && decide (am_i32 q1634)) && true), .inl (bif am_cb .ne q1634 x4 then 78 else 54, [(0, am_pv 65), (1, am_iv x1), (4, am_iv x4), (5, am_iv x5)], [], am_SH, (J, K, am_RF b))) from rfl) (am_g2 g1636 g1637 rfl) (am_nd_t c1638) ?_
          by_cases c1639 : x1 < 4
          · rw [if_pos c1639] at h
            refine am_r_t (show am_stepn X T_UpRiverModel_is 3 true (54, [(0, am_pv 65), (1, am_iv x1), (4, am_iv x4), (5, am_iv x5)], [], am_SH, (J, K, am_RF b)) = some (((decide (am_i32 4) && decide (am_i32 x1)) && true), .inl (bif am_cb .lt x1 4 then 74 else 59, [(0, am_pv 65), (1, am_iv x1), (5, am_iv x5)], [], am_SH, (J, K, am_RF b))) from rfl) (am_g2 (by decide) g1621 rfl) (decide_eq_true c1639) ?_
            obtain rfl := Option.some.inj h
            exact am_r_ret (show am_stepn X T_UpRiverModel_is 3 true (74, [(0, am_pv 65), (1, am_iv x1), (5, am_iv x5)], [], am_SH, (J, K, am_RF b)) = some ((decide ((1 : Int) = 0 ∨ (1 : Int) = 1) && true), .inr (.inr (some (am_iv 1), am_SH, (J, K, am_RF b)))) from rfl) (am_g1 (by decide) rfl)
          · rw [if_neg c1639] at h
            refine am_r_f (show am_stepn X T_UpRiverModel_is 3 true (54, [(0, am_pv 65), (1, am_iv x1), (4, am_iv x4), (5, am_iv x5)], [], am_SH, (J, K, am_RF b)) = some (((decide (am_i32 4) && decide (am_i32 x1)) && true), .inl (bif am_cb .lt x1 4 then 74 else 59, [(0, am_pv 65), (1, am_iv x1), (5, am_iv x5)], [], am_SH, (J, K, am_RF b))) from rfl) (am_g2 (by decide) g1621 rfl) (decide_eq_false c1639) ?_
            obtain ⟨q1640, e1641, h⟩ := am_bind_some h
            refine am_r_call (show am_stepn X T_UpRiverModel_is 6 true (59, [(0, am_pv 65), (1, am_iv x1), (5, am_iv x5)], [], am_SH, (J, K, am_RF b)) = some (true, .inr (.inl (156, [am_pv 65, am_iv ((J 65 10) + 3)], 2, 0, 0, 69, [(0, am_pv 65), (5, am_iv x5)], [], am_SH, (J, K, am_RF b)))) from rfl) rfl tb_UpRiverModel_look (s_UpRiverModel_look e1641) ?_
            obtain ⟨g1642, h⟩ := am_if_some h
            obtain ⟨g1643, h⟩ := am_if_some h
            by_cases c1644 : q1640 = x5
            · rw [if_pos c1644] at h
              refine am_r_f (show am_stepn X T_UpRiverModel_is 2 true (69, [(0, am_pv 65), (5, am_iv x5)], [am_iv q1640], am_SH, (J, K, am_RF b)) = some (((decide (am_i32 x5) && decide (am_i32 q1640)) && true), .inl (bif am_cb .ne q1640 x5 then 78 else 74, [(0, am_pv 65), (5, am_iv x5)], [], am_SH, (J, K, am_RF b))) from rfl) (am_g2 g1642 g1643 rfl) (am_nd_t c1644) ?_
              obtain rfl := Option.some.inj h
              exact am_r_ret (show am_stepn X T_UpRiverModel_is 3 true (74, [(0, am_pv 65), (5, am_iv x5)], [], am_SH, (J, K, am_RF b)) = some ((decide ((1 : Int) = 0 ∨ (1 : Int) = 1) && true), .inr (.inr (some (am_iv 1), am_SH, (J, K, am_RF b)))) from rfl) (am_g1 (by decide) rfl)
            · rw [if_neg c1644] at h
              refine am_r_t (show am_stepn X T_UpRiverModel_is 2 true (69, [(0, am_pv 65), (5, am_iv x5)], [am_iv q1640], am_SH, (J, K, am_RF b)) = some (((decide (am_i32 x5) && decide (am_i32 q1640)) && true), .inl (bif am_cb .ne q1640 x5 then 78 else 74, [(0, am_pv 65), (5, am_iv x5)], [], am_SH, (J, K, am_RF b))) from rfl) (am_g2 g1642 g1643 rfl) (am_nd_f c1644) ?_
              obtain rfl := Option.some.inj h
              exact am_r_ret (show am_stepn X T_UpRiverModel_is 2 true (78, [(0, am_pv 65), (5, am_iv x5)], [], am_SH, (J, K, am_RF b)) = some ((decide ((0 : Int) = 0 ∨ (0 : Int) = 1) && true), .inr (.inr (some (am_iv 0), am_SH, (J, K, am_RF b)))) from rfl) (am_g1 (by decide) rfl)
        · rw [if_neg c1638] at h
          refine am_r_t (show am_stepn X T_UpRiverModel_is 2 true (49, [(0, am_pv 65), (1, am_iv x1), (4, am_iv x4), (5, am_iv x5)], [am_iv q1634], am_SH, (J, K, am_RF b)) = some (((decide (am_i32 x4) && decide (am_i32 q1634)) && true), .inl (bif am_cb .ne q1634 x4 then 78 else 54, [(0, am_pv 65), (1, am_iv x1), (4, am_iv x4), (5, am_iv x5)], [], am_SH, (J, K, am_RF b))) from rfl) (am_g2 g1636 g1637 rfl) (am_nd_f c1638) ?_
          obtain rfl := Option.some.inj h
          exact am_r_ret (show am_stepn X T_UpRiverModel_is 2 true (78, [(0, am_pv 65), (1, am_iv x1), (4, am_iv x4), (5, am_iv x5)], [], am_SH, (J, K, am_RF b)) = some ((decide ((0 : Int) = 0 ∨ (0 : Int) = 1) && true), .inr (.inr (some (am_iv 0), am_SH, (J, K, am_RF b)))) from rfl) (am_g1 (by decide) rfl)
      · rw [if_neg c1633] at h
        refine am_r_t (show am_stepn X T_UpRiverModel_is 2 true (35, [(0, am_pv 65), (1, am_iv x1), (3, am_iv x3), (4, am_iv x4), (5, am_iv x5)], [am_iv q1629], am_SH, (J, K, am_RF b)) = some (((decide (am_i32 x3) && decide (am_i32 q1629)) && true), .inl (bif am_cb .ne q1629 x3 then 78 else 39, [(0, am_pv 65), (1, am_iv x1), (3, am_iv x3), (4, am_iv x4), (5, am_iv x5)], [], am_SH, (J, K, am_RF b))) from rfl) (am_g2 g1631 g1632 rfl) (am_nd_f c1633) ?_
        obtain rfl := Option.some.inj h
        exact am_r_ret (show am_stepn X T_UpRiverModel_is 2 true (78, [(0, am_pv 65), (1, am_iv x1), (3, am_iv x3), (4, am_iv x4), (5, am_iv x5)], [], am_SH, (J, K, am_RF b)) = some ((decide ((0 : Int) = 0 ∨ (0 : Int) = 1) && true), .inr (.inr (some (am_iv 0), am_SH, (J, K, am_RF b)))) from rfl) (am_g1 (by decide) rfl)
    · rw [if_neg c1628] at h
      refine am_r_t (show am_stepn X T_UpRiverModel_is 2 true (21, [(0, am_pv 65), (1, am_iv x1), (2, am_iv x2), (3, am_iv x3), (4, am_iv x4), (5, am_iv x5)], [am_iv q1624], am_SH, (J, K, am_RF b)) = some (((decide (am_i32 x2) && decide (am_i32 q1624)) && true), .inl (bif am_cb .ne q1624 x2 then 78 else 25, [(0, am_pv 65), (1, am_iv x1), (2, am_iv x2), (3, am_iv x3), (4, am_iv x4), (5, am_iv x5)], [], am_SH, (J, K, am_RF b))) from rfl) (am_g2 g1626 g1627 rfl) (am_nd_f c1628) ?_
      obtain rfl := Option.some.inj h
      exact am_r_ret (show am_stepn X T_UpRiverModel_is 2 true (78, [(0, am_pv 65), (1, am_iv x1), (2, am_iv x2), (3, am_iv x3), (4, am_iv x4), (5, am_iv x5)], [], am_SH, (J, K, am_RF b)) = some ((decide ((0 : Int) = 0 ∨ (0 : Int) = 1) && true), .inr (.inr (some (am_iv 0), am_SH, (J, K, am_RF b)))) from rfl) (am_g1 (by decide) rfl)
  · rw [if_neg c1623] at h
    refine am_r_t (show am_stepn X T_UpRiverModel_is 7 true (0, [(0, am_pv 65), (1, am_iv x1), (2, am_iv x2), (3, am_iv x3), (4, am_iv x4), (5, am_iv x5)], [], am_SH, (J, K, am_RF b)) = some (((decide (am_i32 x1) && decide (am_i32 ((J 65 9) - (J 65 10)))) && true), .inl (bif am_cb .ne ((J 65 9) - (J 65 10)) x1 then 78 else 13, [(0, am_pv 65), (1, am_iv x1), (2, am_iv x2), (3, am_iv x3), (4, am_iv x4), (5, am_iv x5)], [], am_SH, (J, K, am_RF b))) from rfl) (am_g2 g1621 g1622 rfl) (am_nd_f c1623) ?_
    obtain rfl := Option.some.inj h
    exact am_r_ret (show am_stepn X T_UpRiverModel_is 2 true (78, [(0, am_pv 65), (1, am_iv x1), (2, am_iv x2), (3, am_iv x3), (4, am_iv x4), (5, am_iv x5)], [], am_SH, (J, K, am_RF b)) = some ((decide ((0 : Int) = 0 ∨ (0 : Int) = 1) && true), .inr (.inr (some (am_iv 0), am_SH, (J, K, am_RF b)))) from rfl) (am_g1 (by decide) rfl)
theorem s_UpRiverModel_ruleNow_L214 {X : am_X} {b : Bool} {J : am_J} {K : am_K}  : ∀  (r : Int), f_UpRiverModel_ruleNow_L214 J    = some r → am_runs X T_UpRiverModel_ruleNow (214, [(0, am_pv 65)], [], am_SH, (J, K, am_RF b)) (some (am_iv r), am_SH, (J, K, am_RF b)) := by
  intro  r h
  unfold f_UpRiverModel_ruleNow_L214 at h
  obtain ⟨q1645, e1646, h⟩ := am_bind_some h
  refine am_r_call (show am_stepn X T_UpRiverModel_ruleNow 7 true (214, [(0, am_pv 65)], [], am_SH, (J, K, am_RF b)) = some (true, .inr (.inl (160, [am_pv 65, am_iv 4, am_iv 116, am_iv 117, am_iv 114, am_iv 110], 6, 0, 0, 227, [(0, am_pv 65)], [], am_SH, (J, K, am_RF b)))) from rfl) rfl tb_UpRiverModel_is (s_UpRiverModel_is e1646) ?_
  obtain ⟨g1647, h⟩ := am_if_some h
  by_cases c1648 : q1645 = 0
  · rw [if_pos c1648] at h
    refine am_r_t (show am_stepn X T_UpRiverModel_ruleNow 1 true (227, [(0, am_pv 65)], [am_iv q1645], am_SH, (J, K, am_RF b)) = some ((decide (am_i32 q1645) && true), .inl (bif am_cb .eq q1645 0 then 234 else 230, [(0, am_pv 65)], [], am_SH, (J, K, am_RF b))) from rfl) (am_g1 g1647 rfl) (decide_eq_true c1648) ?_
    obtain ⟨q1649, e1650, h⟩ := am_bind_some h
    refine am_r_call (show am_stepn X T_UpRiverModel_ruleNow 7 true (234, [(0, am_pv 65)], [], am_SH, (J, K, am_RF b)) = some (true, .inr (.inl (160, [am_pv 65, am_iv 4, am_iv 100, am_iv 97, am_iv 114, am_iv 107], 6, 0, 0, 247, [(0, am_pv 65)], [], am_SH, (J, K, am_RF b)))) from rfl) rfl tb_UpRiverModel_is (s_UpRiverModel_is e1650) ?_
    obtain ⟨g1651, h⟩ := am_if_some h
    by_cases c1652 : q1649 = 0
    · rw [if_pos c1652] at h
      refine am_r_t (show am_stepn X T_UpRiverModel_ruleNow 1 true (247, [(0, am_pv 65)], [am_iv q1649], am_SH, (J, K, am_RF b)) = some ((decide (am_i32 q1649) && true), .inl (bif am_cb .eq q1649 0 then 255 else 250, [(0, am_pv 65)], [], am_SH, (J, K, am_RF b))) from rfl) (am_g1 g1651 rfl) (decide_eq_true c1652) ?_
      obtain rfl := Option.some.inj h
      exact am_r_ret (show am_stepn X T_UpRiverModel_ruleNow 2 true (255, [(0, am_pv 65)], [], am_SH, (J, K, am_RF b)) = some (true, .inr (.inr (some (am_iv (-4)), am_SH, (J, K, am_RF b)))) from rfl) rfl
    · rw [if_neg c1652] at h
      refine am_r_f (show am_stepn X T_UpRiverModel_ruleNow 1 true (247, [(0, am_pv 65)], [am_iv q1649], am_SH, (J, K, am_RF b)) = some ((decide (am_i32 q1649) && true), .inl (bif am_cb .eq q1649 0 then 255 else 250, [(0, am_pv 65)], [], am_SH, (J, K, am_RF b))) from rfl) (am_g1 g1651 rfl) (decide_eq_false c1652) ?_
      obtain rfl := Option.some.inj h
      exact am_r_ret (show am_stepn X T_UpRiverModel_ruleNow 3 true (250, [(0, am_pv 65)], [], am_SH, (J, K, am_RF b)) = some (true, .inr (.inr (some (am_iv 6), am_SH, (J, K, am_RF b)))) from rfl) rfl
  · rw [if_neg c1648] at h
    refine am_r_f (show am_stepn X T_UpRiverModel_ruleNow 1 true (227, [(0, am_pv 65)], [am_iv q1645], am_SH, (J, K, am_RF b)) = some ((decide (am_i32 q1645) && true), .inl (bif am_cb .eq q1645 0 then 234 else 230, [(0, am_pv 65)], [], am_SH, (J, K, am_RF b))) from rfl) (am_g1 g1647 rfl) (decide_eq_false c1648) ?_
    obtain rfl := Option.some.inj h
    exact am_r_ret (show am_stepn X T_UpRiverModel_ruleNow 3 true (230, [(0, am_pv 65)], [], am_SH, (J, K, am_RF b)) = some (true, .inr (.inr (some (am_iv 5), am_SH, (J, K, am_RF b)))) from rfl) rfl
theorem s_UpRiverModel_ruleNow_L181 {X : am_X} {b : Bool} {J : am_J} {K : am_K}  : ∀  (r : Int), f_UpRiverModel_ruleNow_L181 J    = some r → am_runs X T_UpRiverModel_ruleNow (181, [(0, am_pv 65)], [], am_SH, (J, K, am_RF b)) (some (am_iv r), am_SH, (J, K, am_RF b)) := by
  intro  r h
  unfold f_UpRiverModel_ruleNow_L181 at h
  obtain ⟨q1653, e1654, h⟩ := am_bind_some h
  refine am_r_call (show am_stepn X T_UpRiverModel_ruleNow 7 true (181, [(0, am_pv 65)], [], am_SH, (J, K, am_RF b)) = some (true, .inr (.inl (160, [am_pv 65, am_iv 5, am_iv 115, am_iv 104, am_iv 105, am_iv 102], 6, 0, 0, 194, [(0, am_pv 65)], [], am_SH, (J, K, am_RF b)))) from rfl) rfl tb_UpRiverModel_is (s_UpRiverModel_is e1654) ?_
  obtain ⟨g1655, h⟩ := am_if_some h
  by_cases c1656 : q1653 = 0
  · rw [if_pos c1656] at h
    refine am_r_t (show am_stepn X T_UpRiverModel_ruleNow 1 true (194, [(0, am_pv 65)], [am_iv q1653], am_SH, (J, K, am_RF b)) = some ((decide (am_i32 q1653) && true), .inl (bif am_cb .eq q1653 0 then 214 else 197, [(0, am_pv 65)], [], am_SH, (J, K, am_RF b))) from rfl) (am_g1 g1655 rfl) (decide_eq_true c1656) ?_
    exact s_UpRiverModel_ruleNow_L214  _ h
  · rw [if_neg c1656] at h
    refine am_r_f (show am_stepn X T_UpRiverModel_ruleNow 1 true (194, [(0, am_pv 65)], [am_iv q1653], am_SH, (J, K, am_RF b)) = some ((decide (am_i32 q1653) && true), .inl (bif am_cb .eq q1653 0 then 214 else 197, [(0, am_pv 65)], [], am_SH, (J, K, am_RF b))) from rfl) (am_g1 g1655 rfl) (decide_eq_false c1656) ?_
    obtain ⟨q1657, e1658, h⟩ := am_bind_some h
    refine am_r_call (show am_stepn X T_UpRiverModel_ruleNow 6 true (197, [(0, am_pv 65)], [], am_SH, (J, K, am_RF b)) = some (true, .inr (.inl (156, [am_pv 65, am_iv ((J 65 10) + 4)], 2, 0, 0, 207, [(0, am_pv 65)], [], am_SH, (J, K, am_RF b)))) from rfl) rfl tb_UpRiverModel_look (s_UpRiverModel_look e1658) ?_
    obtain ⟨g1659, h⟩ := am_if_some h
    by_cases c1660 : q1657 = 116
    · rw [if_pos c1660] at h
      refine am_r_f (show am_stepn X T_UpRiverModel_ruleNow 2 true (207, [(0, am_pv 65)], [am_iv q1657], am_SH, (J, K, am_RF b)) = some (((decide (am_i32 116) && decide (am_i32 q1657)) && true), .inl (bif am_cb .ne q1657 116 then 214 else 212, [(0, am_pv 65)], [], am_SH, (J, K, am_RF b))) from rfl) (am_g2 (by decide) g1659 rfl) (am_nd_t c1660) ?_
      obtain rfl := Option.some.inj h
      exact am_r_ret (show am_stepn X T_UpRiverModel_ruleNow 2 true (212, [(0, am_pv 65)], [], am_SH, (J, K, am_RF b)) = some (true, .inr (.inr (some (am_iv 4), am_SH, (J, K, am_RF b)))) from rfl) rfl
    · rw [if_neg c1660] at h
      refine am_r_t (show am_stepn X T_UpRiverModel_ruleNow 2 true (207, [(0, am_pv 65)], [am_iv q1657], am_SH, (J, K, am_RF b)) = some (((decide (am_i32 116) && decide (am_i32 q1657)) && true), .inl (bif am_cb .ne q1657 116 then 214 else 212, [(0, am_pv 65)], [], am_SH, (J, K, am_RF b))) from rfl) (am_g2 (by decide) g1659 rfl) (am_nd_f c1660) ?_
      exact s_UpRiverModel_ruleNow_L214  _ h
theorem s_UpRiverModel_ruleNow_L148 {X : am_X} {b : Bool} {J : am_J} {K : am_K}  : ∀  (r : Int), f_UpRiverModel_ruleNow_L148 J    = some r → am_runs X T_UpRiverModel_ruleNow (148, [(0, am_pv 65)], [], am_SH, (J, K, am_RF b)) (some (am_iv r), am_SH, (J, K, am_RF b)) := by
  intro  r h
  unfold f_UpRiverModel_ruleNow_L148 at h
  obtain ⟨q1661, e1662, h⟩ := am_bind_some h
  refine am_r_call (show am_stepn X T_UpRiverModel_ruleNow 7 true (148, [(0, am_pv 65)], [], am_SH, (J, K, am_RF b)) = some (true, .inr (.inl (160, [am_pv 65, am_iv 5, am_iv 112, am_iv 111, am_iv 105, am_iv 110], 6, 0, 0, 161, [(0, am_pv 65)], [], am_SH, (J, K, am_RF b)))) from rfl) rfl tb_UpRiverModel_is (s_UpRiverModel_is e1662) ?_
  obtain ⟨g1663, h⟩ := am_if_some h
  by_cases c1664 : q1661 = 0
  · rw [if_pos c1664] at h
    refine am_r_t (show am_stepn X T_UpRiverModel_ruleNow 1 true (161, [(0, am_pv 65)], [am_iv q1661], am_SH, (J, K, am_RF b)) = some ((decide (am_i32 q1661) && true), .inl (bif am_cb .eq q1661 0 then 181 else 164, [(0, am_pv 65)], [], am_SH, (J, K, am_RF b))) from rfl) (am_g1 g1663 rfl) (decide_eq_true c1664) ?_
    exact s_UpRiverModel_ruleNow_L181  _ h
  · rw [if_neg c1664] at h
    refine am_r_f (show am_stepn X T_UpRiverModel_ruleNow 1 true (161, [(0, am_pv 65)], [am_iv q1661], am_SH, (J, K, am_RF b)) = some ((decide (am_i32 q1661) && true), .inl (bif am_cb .eq q1661 0 then 181 else 164, [(0, am_pv 65)], [], am_SH, (J, K, am_RF b))) from rfl) (am_g1 g1663 rfl) (decide_eq_false c1664) ?_
    obtain ⟨q1665, e1666, h⟩ := am_bind_some h
    refine am_r_call (show am_stepn X T_UpRiverModel_ruleNow 6 true (164, [(0, am_pv 65)], [], am_SH, (J, K, am_RF b)) = some (true, .inr (.inl (156, [am_pv 65, am_iv ((J 65 10) + 4)], 2, 0, 0, 174, [(0, am_pv 65)], [], am_SH, (J, K, am_RF b)))) from rfl) rfl tb_UpRiverModel_look (s_UpRiverModel_look e1666) ?_
    obtain ⟨g1667, h⟩ := am_if_some h
    by_cases c1668 : q1665 = 116
    · rw [if_pos c1668] at h
      refine am_r_f (show am_stepn X T_UpRiverModel_ruleNow 2 true (174, [(0, am_pv 65)], [am_iv q1665], am_SH, (J, K, am_RF b)) = some (((decide (am_i32 116) && decide (am_i32 q1665)) && true), .inl (bif am_cb .ne q1665 116 then 181 else 179, [(0, am_pv 65)], [], am_SH, (J, K, am_RF b))) from rfl) (am_g2 (by decide) g1667 rfl) (am_nd_t c1668) ?_
      obtain rfl := Option.some.inj h
      exact am_r_ret (show am_stepn X T_UpRiverModel_ruleNow 2 true (179, [(0, am_pv 65)], [], am_SH, (J, K, am_RF b)) = some (true, .inr (.inr (some (am_iv 3), am_SH, (J, K, am_RF b)))) from rfl) rfl
    · rw [if_neg c1668] at h
      refine am_r_t (show am_stepn X T_UpRiverModel_ruleNow 2 true (174, [(0, am_pv 65)], [am_iv q1665], am_SH, (J, K, am_RF b)) = some (((decide (am_i32 116) && decide (am_i32 q1665)) && true), .inl (bif am_cb .ne q1665 116 then 181 else 179, [(0, am_pv 65)], [], am_SH, (J, K, am_RF b))) from rfl) (am_g2 (by decide) g1667 rfl) (am_nd_f c1668) ?_
      exact s_UpRiverModel_ruleNow_L181  _ h
theorem s_UpRiverModel_ruleNow_L65 {X : am_X} {b : Bool} {J : am_J} {K : am_K}  : ∀  (r : Int), f_UpRiverModel_ruleNow_L65 J    = some r → am_runs X T_UpRiverModel_ruleNow (65, [(0, am_pv 65)], [], am_SH, (J, K, am_RF b)) (some (am_iv r), am_SH, (J, K, am_RF b)) := by
  intro  r h
  unfold f_UpRiverModel_ruleNow_L65 at h
  obtain ⟨q1669, e1670, h⟩ := am_bind_some h
  refine am_r_call (show am_stepn X T_UpRiverModel_ruleNow 7 true (65, [(0, am_pv 65)], [], am_SH, (J, K, am_RF b)) = some (true, .inr (.inl (160, [am_pv 65, am_iv 4, am_iv 98, am_iv 101, am_iv 97, am_iv 116], 6, 0, 0, 78, [(0, am_pv 65)], [], am_SH, (J, K, am_RF b)))) from rfl) rfl tb_UpRiverModel_is (s_UpRiverModel_is e1670) ?_
  obtain ⟨g1671, h⟩ := am_if_some h
  by_cases c1672 : q1669 = 0
  · rw [if_pos c1672] at h
    refine am_r_t (show am_stepn X T_UpRiverModel_ruleNow 1 true (78, [(0, am_pv 65)], [am_iv q1669], am_SH, (J, K, am_RF b)) = some ((decide (am_i32 q1669) && true), .inl (bif am_cb .eq q1669 0 then 83 else 81, [(0, am_pv 65)], [], am_SH, (J, K, am_RF b))) from rfl) (am_g1 g1671 rfl) (decide_eq_true c1672) ?_
    obtain ⟨q1673, e1674, h⟩ := am_bind_some h
    refine am_r_call (show am_stepn X T_UpRiverModel_ruleNow 7 true (83, [(0, am_pv 65)], [], am_SH, (J, K, am_RF b)) = some (true, .inr (.inl (160, [am_pv 65, am_iv 7, am_iv 100, am_iv 114, am_iv 97, am_iv 117], 6, 0, 0, 97, [(0, am_pv 65)], [], am_SH, (J, K, am_RF b)))) from rfl) rfl tb_UpRiverModel_is (s_UpRiverModel_is e1674) ?_
    obtain ⟨g1675, h⟩ := am_if_some h
    by_cases c1676 : q1673 = 0
    · rw [if_pos c1676] at h
      refine am_r_t (show am_stepn X T_UpRiverModel_ruleNow 1 true (97, [(0, am_pv 65)], [am_iv q1673], am_SH, (J, K, am_RF b)) = some ((decide (am_i32 q1673) && true), .inl (bif am_cb .eq q1673 0 then 148 else 100, [(0, am_pv 65)], [], am_SH, (J, K, am_RF b))) from rfl) (am_g1 g1675 rfl) (decide_eq_true c1676) ?_
      exact s_UpRiverModel_ruleNow_L148  _ h
    · rw [if_neg c1676] at h
      refine am_r_f (show am_stepn X T_UpRiverModel_ruleNow 1 true (97, [(0, am_pv 65)], [am_iv q1673], am_SH, (J, K, am_RF b)) = some ((decide (am_i32 q1673) && true), .inl (bif am_cb .eq q1673 0 then 148 else 100, [(0, am_pv 65)], [], am_SH, (J, K, am_RF b))) from rfl) (am_g1 g1675 rfl) (decide_eq_false c1676) ?_
      obtain ⟨q1677, e1678, h⟩ := am_bind_some h
      refine am_r_call (show am_stepn X T_UpRiverModel_ruleNow 6 true (100, [(0, am_pv 65)], [], am_SH, (J, K, am_RF b)) = some (true, .inr (.inl (156, [am_pv 65, am_iv ((J 65 10) + 4)], 2, 0, 0, 110, [(0, am_pv 65)], [], am_SH, (J, K, am_RF b)))) from rfl) rfl tb_UpRiverModel_look (s_UpRiverModel_look e1678) ?_
      obtain ⟨g1679, h⟩ := am_if_some h
      by_cases c1680 : q1677 = 103
      · rw [if_pos c1680] at h
        refine am_r_f (show am_stepn X T_UpRiverModel_ruleNow 2 true (110, [(0, am_pv 65)], [am_iv q1677], am_SH, (J, K, am_RF b)) = some (((decide (am_i32 103) && decide (am_i32 q1677)) && true), .inl (bif am_cb .ne q1677 103 then 148 else 115, [(0, am_pv 65)], [], am_SH, (J, K, am_RF b))) from rfl) (am_g2 (by decide) g1679 rfl) (am_nd_t c1680) ?_
        obtain ⟨q1681, e1682, h⟩ := am_bind_some h
        refine am_r_call (show am_stepn X T_UpRiverModel_ruleNow 6 true (115, [(0, am_pv 65)], [], am_SH, (J, K, am_RF b)) = some (true, .inr (.inl (156, [am_pv 65, am_iv ((J 65 10) + 5)], 2, 0, 0, 125, [(0, am_pv 65)], [], am_SH, (J, K, am_RF b)))) from rfl) rfl tb_UpRiverModel_look (s_UpRiverModel_look e1682) ?_
        obtain ⟨g1683, h⟩ := am_if_some h
        by_cases c1684 : q1681 = 104
        · rw [if_pos c1684] at h
          refine am_r_f (show am_stepn X T_UpRiverModel_ruleNow 2 true (125, [(0, am_pv 65)], [am_iv q1681], am_SH, (J, K, am_RF b)) = some (((decide (am_i32 104) && decide (am_i32 q1681)) && true), .inl (bif am_cb .ne q1681 104 then 148 else 130, [(0, am_pv 65)], [], am_SH, (J, K, am_RF b))) from rfl) (am_g2 (by decide) g1683 rfl) (am_nd_t c1684) ?_
          obtain ⟨q1685, e1686, h⟩ := am_bind_some h
          refine am_r_call (show am_stepn X T_UpRiverModel_ruleNow 6 true (130, [(0, am_pv 65)], [], am_SH, (J, K, am_RF b)) = some (true, .inr (.inl (156, [am_pv 65, am_iv ((J 65 10) + 6)], 2, 0, 0, 141, [(0, am_pv 65)], [], am_SH, (J, K, am_RF b)))) from rfl) rfl tb_UpRiverModel_look (s_UpRiverModel_look e1686) ?_
          obtain ⟨g1687, h⟩ := am_if_some h
          by_cases c1688 : q1685 = 116
          · rw [if_pos c1688] at h
            refine am_r_f (show am_stepn X T_UpRiverModel_ruleNow 2 true (141, [(0, am_pv 65)], [am_iv q1685], am_SH, (J, K, am_RF b)) = some (((decide (am_i32 116) && decide (am_i32 q1685)) && true), .inl (bif am_cb .ne q1685 116 then 148 else 146, [(0, am_pv 65)], [], am_SH, (J, K, am_RF b))) from rfl) (am_g2 (by decide) g1687 rfl) (am_nd_t c1688) ?_
            obtain rfl := Option.some.inj h
            exact am_r_ret (show am_stepn X T_UpRiverModel_ruleNow 2 true (146, [(0, am_pv 65)], [], am_SH, (J, K, am_RF b)) = some (true, .inr (.inr (some (am_iv 2), am_SH, (J, K, am_RF b)))) from rfl) rfl
          · rw [if_neg c1688] at h
            refine am_r_t (show am_stepn X T_UpRiverModel_ruleNow 2 true (141, [(0, am_pv 65)], [am_iv q1685], am_SH, (J, K, am_RF b)) = some (((decide (am_i32 116) && decide (am_i32 q1685)) && true), .inl (bif am_cb .ne q1685 116 then 148 else 146, [(0, am_pv 65)], [], am_SH, (J, K, am_RF b))) from rfl) (am_g2 (by decide) g1687 rfl) (am_nd_f c1688) ?_
            exact s_UpRiverModel_ruleNow_L148  _ h
        · rw [if_neg c1684] at h
          refine am_r_t (show am_stepn X T_UpRiverModel_ruleNow 2 true (125, [(0, am_pv 65)], [am_iv q1681], am_SH, (J, K, am_RF b)) = some (((decide (am_i32 104) && decide (am_i32 q1681)) && true), .inl (bif am_cb .ne q1681 104 then 148 else 130, [(0, am_pv 65)], [], am_SH, (J, K, am_RF b))) from rfl) (am_g2 (by decide) g1683 rfl) (am_nd_f c1684) ?_
          exact s_UpRiverModel_ruleNow_L148  _ h
      · rw [if_neg c1680] at h
        refine am_r_t (show am_stepn X T_UpRiverModel_ruleNow 2 true (110, [(0, am_pv 65)], [am_iv q1677], am_SH, (J, K, am_RF b)) = some (((decide (am_i32 103) && decide (am_i32 q1677)) && true), .inl (bif am_cb .ne q1677 103 then 148 else 115, [(0, am_pv 65)], [], am_SH, (J, K, am_RF b))) from rfl) (am_g2 (by decide) g1679 rfl) (am_nd_f c1680) ?_
        exact s_UpRiverModel_ruleNow_L148  _ h
  · rw [if_neg c1672] at h
    refine am_r_f (show am_stepn X T_UpRiverModel_ruleNow 1 true (78, [(0, am_pv 65)], [am_iv q1669], am_SH, (J, K, am_RF b)) = some ((decide (am_i32 q1669) && true), .inl (bif am_cb .eq q1669 0 then 83 else 81, [(0, am_pv 65)], [], am_SH, (J, K, am_RF b))) from rfl) (am_g1 g1671 rfl) (decide_eq_false c1672) ?_
    obtain rfl := Option.some.inj h
    exact am_r_ret (show am_stepn X T_UpRiverModel_ruleNow 2 true (81, [(0, am_pv 65)], [], am_SH, (J, K, am_RF b)) = some (true, .inr (.inr (some (am_iv 1), am_SH, (J, K, am_RF b)))) from rfl) rfl
theorem s_UpRiverModel_ruleNow {X : am_X} {b : Bool} {J : am_J} {K : am_K}  {r : Int} (h : f_UpRiverModel_ruleNow J  = some r) : am_runs X T_UpRiverModel_ruleNow (0, [(0, am_pv 65)], [], am_SH, (J, K, am_RF b)) (some (am_iv r), am_SH, (J, K, am_RF b)) := by
  unfold f_UpRiverModel_ruleNow at h
  obtain ⟨q1689, e1690, h⟩ := am_bind_some h
  refine am_r_call (show am_stepn X T_UpRiverModel_ruleNow 7 true (0, [(0, am_pv 65)], [], am_SH, (J, K, am_RF b)) = some (true, .inr (.inl (160, [am_pv 65, am_iv 7, am_iv 114, am_iv 101, am_iv 97, am_iv 99], 6, 0, 0, 14, [(0, am_pv 65)], [], am_SH, (J, K, am_RF b)))) from rfl) rfl tb_UpRiverModel_is (s_UpRiverModel_is e1690) ?_
  obtain ⟨g1691, h⟩ := am_if_some h
  by_cases c1692 : q1689 = 0
  · rw [if_pos c1692] at h
    refine am_r_t (show am_stepn X T_UpRiverModel_ruleNow 1 true (14, [(0, am_pv 65)], [am_iv q1689], am_SH, (J, K, am_RF b)) = some ((decide (am_i32 q1689) && true), .inl (bif am_cb .eq q1689 0 then 65 else 17, [(0, am_pv 65)], [], am_SH, (J, K, am_RF b))) from rfl) (am_g1 g1691 rfl) (decide_eq_true c1692) ?_
    exact s_UpRiverModel_ruleNow_L65  _ h
  · rw [if_neg c1692] at h
    refine am_r_f (show am_stepn X T_UpRiverModel_ruleNow 1 true (14, [(0, am_pv 65)], [am_iv q1689], am_SH, (J, K, am_RF b)) = some ((decide (am_i32 q1689) && true), .inl (bif am_cb .eq q1689 0 then 65 else 17, [(0, am_pv 65)], [], am_SH, (J, K, am_RF b))) from rfl) (am_g1 g1691 rfl) (decide_eq_false c1692) ?_
    obtain ⟨q1693, e1694, h⟩ := am_bind_some h
    refine am_r_call (show am_stepn X T_UpRiverModel_ruleNow 6 true (17, [(0, am_pv 65)], [], am_SH, (J, K, am_RF b)) = some (true, .inr (.inl (156, [am_pv 65, am_iv ((J 65 10) + 4)], 2, 0, 0, 27, [(0, am_pv 65)], [], am_SH, (J, K, am_RF b)))) from rfl) rfl tb_UpRiverModel_look (s_UpRiverModel_look e1694) ?_
    obtain ⟨g1695, h⟩ := am_if_some h
    by_cases c1696 : q1693 = 104
    · rw [if_pos c1696] at h
      refine am_r_f (show am_stepn X T_UpRiverModel_ruleNow 2 true (27, [(0, am_pv 65)], [am_iv q1693], am_SH, (J, K, am_RF b)) = some (((decide (am_i32 104) && decide (am_i32 q1693)) && true), .inl (bif am_cb .ne q1693 104 then 65 else 32, [(0, am_pv 65)], [], am_SH, (J, K, am_RF b))) from rfl) (am_g2 (by decide) g1695 rfl) (am_nd_t c1696) ?_
      obtain ⟨q1697, e1698, h⟩ := am_bind_some h
      refine am_r_call (show am_stepn X T_UpRiverModel_ruleNow 6 true (32, [(0, am_pv 65)], [], am_SH, (J, K, am_RF b)) = some (true, .inr (.inl (156, [am_pv 65, am_iv ((J 65 10) + 5)], 2, 0, 0, 42, [(0, am_pv 65)], [], am_SH, (J, K, am_RF b)))) from rfl) rfl tb_UpRiverModel_look (s_UpRiverModel_look e1698) ?_
      obtain ⟨g1699, h⟩ := am_if_some h
      by_cases c1700 : q1697 = 101
      · rw [if_pos c1700] at h
        refine am_r_f (show am_stepn X T_UpRiverModel_ruleNow 2 true (42, [(0, am_pv 65)], [am_iv q1697], am_SH, (J, K, am_RF b)) = some (((decide (am_i32 101) && decide (am_i32 q1697)) && true), .inl (bif am_cb .ne q1697 101 then 65 else 47, [(0, am_pv 65)], [], am_SH, (J, K, am_RF b))) from rfl) (am_g2 (by decide) g1699 rfl) (am_nd_t c1700) ?_
        obtain ⟨q1701, e1702, h⟩ := am_bind_some h
        refine am_r_call (show am_stepn X T_UpRiverModel_ruleNow 6 true (47, [(0, am_pv 65)], [], am_SH, (J, K, am_RF b)) = some (true, .inr (.inl (156, [am_pv 65, am_iv ((J 65 10) + 6)], 2, 0, 0, 58, [(0, am_pv 65)], [], am_SH, (J, K, am_RF b)))) from rfl) rfl tb_UpRiverModel_look (s_UpRiverModel_look e1702) ?_
        obtain ⟨g1703, h⟩ := am_if_some h
        by_cases c1704 : q1701 = 115
        · rw [if_pos c1704] at h
          refine am_r_f (show am_stepn X T_UpRiverModel_ruleNow 2 true (58, [(0, am_pv 65)], [am_iv q1701], am_SH, (J, K, am_RF b)) = some (((decide (am_i32 115) && decide (am_i32 q1701)) && true), .inl (bif am_cb .ne q1701 115 then 65 else 63, [(0, am_pv 65)], [], am_SH, (J, K, am_RF b))) from rfl) (am_g2 (by decide) g1703 rfl) (am_nd_t c1704) ?_
          obtain rfl := Option.some.inj h
          exact am_r_ret (show am_stepn X T_UpRiverModel_ruleNow 2 true (63, [(0, am_pv 65)], [], am_SH, (J, K, am_RF b)) = some (true, .inr (.inr (some (am_iv 0), am_SH, (J, K, am_RF b)))) from rfl) rfl
        · rw [if_neg c1704] at h
          refine am_r_t (show am_stepn X T_UpRiverModel_ruleNow 2 true (58, [(0, am_pv 65)], [am_iv q1701], am_SH, (J, K, am_RF b)) = some (((decide (am_i32 115) && decide (am_i32 q1701)) && true), .inl (bif am_cb .ne q1701 115 then 65 else 63, [(0, am_pv 65)], [], am_SH, (J, K, am_RF b))) from rfl) (am_g2 (by decide) g1703 rfl) (am_nd_f c1704) ?_
          exact s_UpRiverModel_ruleNow_L65  _ h
      · rw [if_neg c1700] at h
        refine am_r_t (show am_stepn X T_UpRiverModel_ruleNow 2 true (42, [(0, am_pv 65)], [am_iv q1697], am_SH, (J, K, am_RF b)) = some (((decide (am_i32 101) && decide (am_i32 q1697)) && true), .inl (bif am_cb .ne q1697 101 then 65 else 47, [(0, am_pv 65)], [], am_SH, (J, K, am_RF b))) from rfl) (am_g2 (by decide) g1699 rfl) (am_nd_f c1700) ?_
        exact s_UpRiverModel_ruleNow_L65  _ h
    · rw [if_neg c1696] at h
      refine am_r_t (show am_stepn X T_UpRiverModel_ruleNow 2 true (27, [(0, am_pv 65)], [am_iv q1693], am_SH, (J, K, am_RF b)) = some (((decide (am_i32 104) && decide (am_i32 q1693)) && true), .inl (bif am_cb .ne q1693 104 then 65 else 32, [(0, am_pv 65)], [], am_SH, (J, K, am_RF b))) from rfl) (am_g2 (by decide) g1695 rfl) (am_nd_f c1696) ?_
      exact s_UpRiverModel_ruleNow_L65  _ h
theorem s_UpRiverModel_nameNow {X : am_X} {b : Bool} {J : am_J} {K : am_K}  {r : Int} (h : f_UpRiverModel_nameNow J  = some r) : am_runs X T_UpRiverModel_nameNow (0, [(0, am_pv 65)], [], am_SH, (J, K, am_RF b)) (some (am_iv r), am_SH, (J, K, am_RF b)) := by
  unfold f_UpRiverModel_nameNow at h
  obtain ⟨q1705, e1706, h⟩ := am_bind_some h
  refine am_r_call (show am_stepn X T_UpRiverModel_nameNow 7 true (0, [(0, am_pv 65)], [], am_SH, (J, K, am_RF b)) = some (true, .inr (.inl (160, [am_pv 65, am_iv 4, am_iv 116, am_iv 105, am_iv 100, am_iv 101], 6, 0, 0, 13, [(0, am_pv 65)], [], am_SH, (J, K, am_RF b)))) from rfl) rfl tb_UpRiverModel_is (s_UpRiverModel_is e1706) ?_
  obtain ⟨g1707, h⟩ := am_if_some h
  by_cases c1708 : q1705 = 0
  · rw [if_pos c1708] at h
    refine am_r_t (show am_stepn X T_UpRiverModel_nameNow 1 true (13, [(0, am_pv 65)], [am_iv q1705], am_SH, (J, K, am_RF b)) = some ((decide (am_i32 q1705) && true), .inl (bif am_cb .eq q1705 0 then 19 else 16, [(0, am_pv 65)], [], am_SH, (J, K, am_RF b))) from rfl) (am_g1 g1707 rfl) (decide_eq_true c1708) ?_
    obtain ⟨q1709, e1710, h⟩ := am_bind_some h
    refine am_r_call (show am_stepn X T_UpRiverModel_nameNow 7 true (19, [(0, am_pv 65)], [], am_SH, (J, K, am_RF b)) = some (true, .inr (.inl (160, [am_pv 65, am_iv 4, am_iv 104, am_iv 105, am_iv 103, am_iv 104], 6, 0, 0, 32, [(0, am_pv 65)], [], am_SH, (J, K, am_RF b)))) from rfl) rfl tb_UpRiverModel_is (s_UpRiverModel_is e1710) ?_
    obtain ⟨g1711, h⟩ := am_if_some h
    by_cases c1712 : q1709 = 0
    · rw [if_pos c1712] at h
      refine am_r_t (show am_stepn X T_UpRiverModel_nameNow 1 true (32, [(0, am_pv 65)], [am_iv q1709], am_SH, (J, K, am_RF b)) = some ((decide (am_i32 q1709) && true), .inl (bif am_cb .eq q1709 0 then 38 else 35, [(0, am_pv 65)], [], am_SH, (J, K, am_RF b))) from rfl) (am_g1 g1711 rfl) (decide_eq_true c1712) ?_
      obtain ⟨q1713, e1714, h⟩ := am_bind_some h
      refine am_r_call (show am_stepn X T_UpRiverModel_nameNow 7 true (38, [(0, am_pv 65)], [], am_SH, (J, K, am_RF b)) = some (true, .inr (.inl (160, [am_pv 65, am_iv 4, am_iv 98, am_iv 97, am_iv 110, am_iv 107], 6, 0, 0, 51, [(0, am_pv 65)], [], am_SH, (J, K, am_RF b)))) from rfl) rfl tb_UpRiverModel_is (s_UpRiverModel_is e1714) ?_
      obtain ⟨g1715, h⟩ := am_if_some h
      by_cases c1716 : q1713 = 0
      · rw [if_pos c1716] at h
        refine am_r_t (show am_stepn X T_UpRiverModel_nameNow 1 true (51, [(0, am_pv 65)], [am_iv q1713], am_SH, (J, K, am_RF b)) = some ((decide (am_i32 q1713) && true), .inl (bif am_cb .eq q1713 0 then 57 else 54, [(0, am_pv 65)], [], am_SH, (J, K, am_RF b))) from rfl) (am_g1 g1715 rfl) (decide_eq_true c1716) ?_
        obtain ⟨q1717, e1718, h⟩ := am_bind_some h
        refine am_r_call (show am_stepn X T_UpRiverModel_nameNow 7 true (57, [(0, am_pv 65)], [], am_SH, (J, K, am_RF b)) = some (true, .inr (.inl (160, [am_pv 65, am_iv 3, am_iv 108, am_iv 101, am_iv 101, am_iv 0], 6, 0, 0, 69, [(0, am_pv 65)], [], am_SH, (J, K, am_RF b)))) from rfl) rfl tb_UpRiverModel_is (s_UpRiverModel_is e1718) ?_
        obtain ⟨g1719, h⟩ := am_if_some h
        by_cases c1720 : q1717 = 0
        · rw [if_pos c1720] at h
          refine am_r_t (show am_stepn X T_UpRiverModel_nameNow 1 true (69, [(0, am_pv 65)], [am_iv q1717], am_SH, (J, K, am_RF b)) = some ((decide (am_i32 q1717) && true), .inl (bif am_cb .eq q1717 0 then 75 else 72, [(0, am_pv 65)], [], am_SH, (J, K, am_RF b))) from rfl) (am_g1 g1719 rfl) (decide_eq_true c1720) ?_
          obtain ⟨q1721, e1722, h⟩ := am_bind_some h
          refine am_r_call (show am_stepn X T_UpRiverModel_nameNow 7 true (75, [(0, am_pv 65)], [], am_SH, (J, K, am_RF b)) = some (true, .inr (.inl (160, [am_pv 65, am_iv 4, am_iv 119, am_iv 105, am_iv 110, am_iv 100], 6, 0, 0, 88, [(0, am_pv 65)], [], am_SH, (J, K, am_RF b)))) from rfl) rfl tb_UpRiverModel_is (s_UpRiverModel_is e1722) ?_
          obtain ⟨g1723, h⟩ := am_if_some h
          by_cases c1724 : q1721 = 0
          · rw [if_pos c1724] at h
            refine am_r_t (show am_stepn X T_UpRiverModel_nameNow 1 true (88, [(0, am_pv 65)], [am_iv q1721], am_SH, (J, K, am_RF b)) = some ((decide (am_i32 q1721) && true), .inl (bif am_cb .eq q1721 0 then 94 else 91, [(0, am_pv 65)], [], am_SH, (J, K, am_RF b))) from rfl) (am_g1 g1723 rfl) (decide_eq_true c1724) ?_
            obtain ⟨q1725, e1726, h⟩ := am_bind_some h
            refine am_r_call (show am_stepn X T_UpRiverModel_nameNow 7 true (94, [(0, am_pv 65)], [], am_SH, (J, K, am_RF b)) = some (true, .inr (.inl (160, [am_pv 65, am_iv 4, am_iv 100, am_iv 101, am_iv 101, am_iv 112], 6, 0, 0, 107, [(0, am_pv 65)], [], am_SH, (J, K, am_RF b)))) from rfl) rfl tb_UpRiverModel_is (s_UpRiverModel_is e1726) ?_
            obtain ⟨g1727, h⟩ := am_if_some h
            by_cases c1728 : q1725 = 0
            · rw [if_pos c1728] at h
              refine am_r_t (show am_stepn X T_UpRiverModel_nameNow 1 true (107, [(0, am_pv 65)], [am_iv q1725], am_SH, (J, K, am_RF b)) = some ((decide (am_i32 q1725) && true), .inl (bif am_cb .eq q1725 0 then 115 else 110, [(0, am_pv 65)], [], am_SH, (J, K, am_RF b))) from rfl) (am_g1 g1727 rfl) (decide_eq_true c1728) ?_
              obtain ⟨q1729, e1730, h⟩ := am_bind_some h
              refine am_r_call (show am_stepn X T_UpRiverModel_nameNow 7 true (115, [(0, am_pv 65)], [], am_SH, (J, K, am_RF b)) = some (true, .inr (.inl (160, [am_pv 65, am_iv 4, am_iv 101, am_iv 100, am_iv 100, am_iv 121], 6, 0, 0, 128, [(0, am_pv 65)], [], am_SH, (J, K, am_RF b)))) from rfl) rfl tb_UpRiverModel_is (s_UpRiverModel_is e1730) ?_
              obtain ⟨g1731, h⟩ := am_if_some h
              by_cases c1732 : q1729 = 0
              · rw [if_pos c1732] at h
                refine am_r_t (show am_stepn X T_UpRiverModel_nameNow 1 true (128, [(0, am_pv 65)], [am_iv q1729], am_SH, (J, K, am_RF b)) = some ((decide (am_i32 q1729) && true), .inl (bif am_cb .eq q1729 0 then 136 else 131, [(0, am_pv 65)], [], am_SH, (J, K, am_RF b))) from rfl) (am_g1 g1731 rfl) (decide_eq_true c1732) ?_
                obtain ⟨q1733, e1734, h⟩ := am_bind_some h
                refine am_r_call (show am_stepn X T_UpRiverModel_nameNow 2 true (136, [(0, am_pv 65)], [], am_SH, (J, K, am_RF b)) = some (true, .inr (.inl (161, [am_pv 65], 1, 0, 0, 140, [(0, am_pv 65)], [], am_SH, (J, K, am_RF b)))) from rfl) rfl tb_UpRiverModel_ruleNow (s_UpRiverModel_ruleNow e1734) ?_
                obtain rfl := Option.some.inj h
                exact am_r_ret (show am_stepn X T_UpRiverModel_nameNow 1 true (140, [(0, am_pv 65)], [am_iv q1733], am_SH, (J, K, am_RF b)) = some (true, .inr (.inr (some (am_iv q1733), am_SH, (J, K, am_RF b)))) from rfl) rfl
              · rw [if_neg c1732] at h
                refine am_r_f (show am_stepn X T_UpRiverModel_nameNow 1 true (128, [(0, am_pv 65)], [am_iv q1729], am_SH, (J, K, am_RF b)) = some ((decide (am_i32 q1729) && true), .inl (bif am_cb .eq q1729 0 then 136 else 131, [(0, am_pv 65)], [], am_SH, (J, K, am_RF b))) from rfl) (am_g1 g1731 rfl) (decide_eq_false c1732) ?_
                obtain rfl := Option.some.inj h
                exact am_r_ret (show am_stepn X T_UpRiverModel_nameNow 3 true (131, [(0, am_pv 65)], [], am_SH, (J, K, am_RF b)) = some (true, .inr (.inr (some (am_iv 14), am_SH, (J, K, am_RF b)))) from rfl) rfl
            · rw [if_neg c1728] at h
              refine am_r_f (show am_stepn X T_UpRiverModel_nameNow 1 true (107, [(0, am_pv 65)], [am_iv q1725], am_SH, (J, K, am_RF b)) = some ((decide (am_i32 q1725) && true), .inl (bif am_cb .eq q1725 0 then 115 else 110, [(0, am_pv 65)], [], am_SH, (J, K, am_RF b))) from rfl) (am_g1 g1727 rfl) (decide_eq_false c1728) ?_
              obtain rfl := Option.some.inj h
              exact am_r_ret (show am_stepn X T_UpRiverModel_nameNow 3 true (110, [(0, am_pv 65)], [], am_SH, (J, K, am_RF b)) = some (true, .inr (.inr (some (am_iv 13), am_SH, (J, K, am_RF b)))) from rfl) rfl
          · rw [if_neg c1724] at h
            refine am_r_f (show am_stepn X T_UpRiverModel_nameNow 1 true (88, [(0, am_pv 65)], [am_iv q1721], am_SH, (J, K, am_RF b)) = some ((decide (am_i32 q1721) && true), .inl (bif am_cb .eq q1721 0 then 94 else 91, [(0, am_pv 65)], [], am_SH, (J, K, am_RF b))) from rfl) (am_g1 g1723 rfl) (decide_eq_false c1724) ?_
            obtain rfl := Option.some.inj h
            exact am_r_ret (show am_stepn X T_UpRiverModel_nameNow 2 true (91, [(0, am_pv 65)], [], am_SH, (J, K, am_RF b)) = some (true, .inr (.inr (some (am_iv 12), am_SH, (J, K, am_RF b)))) from rfl) rfl
        · rw [if_neg c1720] at h
          refine am_r_f (show am_stepn X T_UpRiverModel_nameNow 1 true (69, [(0, am_pv 65)], [am_iv q1717], am_SH, (J, K, am_RF b)) = some ((decide (am_i32 q1717) && true), .inl (bif am_cb .eq q1717 0 then 75 else 72, [(0, am_pv 65)], [], am_SH, (J, K, am_RF b))) from rfl) (am_g1 g1719 rfl) (decide_eq_false c1720) ?_
          obtain rfl := Option.some.inj h
          exact am_r_ret (show am_stepn X T_UpRiverModel_nameNow 2 true (72, [(0, am_pv 65)], [], am_SH, (J, K, am_RF b)) = some (true, .inr (.inr (some (am_iv 11), am_SH, (J, K, am_RF b)))) from rfl) rfl
      · rw [if_neg c1716] at h
        refine am_r_f (show am_stepn X T_UpRiverModel_nameNow 1 true (51, [(0, am_pv 65)], [am_iv q1713], am_SH, (J, K, am_RF b)) = some ((decide (am_i32 q1713) && true), .inl (bif am_cb .eq q1713 0 then 57 else 54, [(0, am_pv 65)], [], am_SH, (J, K, am_RF b))) from rfl) (am_g1 g1715 rfl) (decide_eq_false c1716) ?_
        obtain rfl := Option.some.inj h
        exact am_r_ret (show am_stepn X T_UpRiverModel_nameNow 2 true (54, [(0, am_pv 65)], [], am_SH, (J, K, am_RF b)) = some (true, .inr (.inr (some (am_iv 10), am_SH, (J, K, am_RF b)))) from rfl) rfl
    · rw [if_neg c1712] at h
      refine am_r_f (show am_stepn X T_UpRiverModel_nameNow 1 true (32, [(0, am_pv 65)], [am_iv q1709], am_SH, (J, K, am_RF b)) = some ((decide (am_i32 q1709) && true), .inl (bif am_cb .eq q1709 0 then 38 else 35, [(0, am_pv 65)], [], am_SH, (J, K, am_RF b))) from rfl) (am_g1 g1711 rfl) (decide_eq_false c1712) ?_
      obtain rfl := Option.some.inj h
      exact am_r_ret (show am_stepn X T_UpRiverModel_nameNow 2 true (35, [(0, am_pv 65)], [], am_SH, (J, K, am_RF b)) = some (true, .inr (.inr (some (am_iv 8), am_SH, (J, K, am_RF b)))) from rfl) rfl
  · rw [if_neg c1708] at h
    refine am_r_f (show am_stepn X T_UpRiverModel_nameNow 1 true (13, [(0, am_pv 65)], [am_iv q1705], am_SH, (J, K, am_RF b)) = some ((decide (am_i32 q1705) && true), .inl (bif am_cb .eq q1705 0 then 19 else 16, [(0, am_pv 65)], [], am_SH, (J, K, am_RF b))) from rfl) (am_g1 g1707 rfl) (decide_eq_false c1708) ?_
    obtain rfl := Option.some.inj h
    exact am_r_ret (show am_stepn X T_UpRiverModel_nameNow 2 true (16, [(0, am_pv 65)], [], am_SH, (J, K, am_RF b)) = some (true, .inr (.inr (some (am_iv 7), am_SH, (J, K, am_RF b)))) from rfl) rfl
theorem s_UpRiverModel_highest {X : am_X} {b : Bool} {J : am_J} {K : am_K} {x0 : Int} {r : Int} (h : f_UpRiverModel_highest  x0 = some r) : am_runs X T_UpRiverModel_highest (0, [(0, am_iv x0)], [], am_SH, (J, K, am_RF b)) (some (am_iv r), am_SH, (J, K, am_RF b)) := by
  unfold f_UpRiverModel_highest at h
  obtain ⟨g1735, h⟩ := am_if_some h
  by_cases c1736 : x0 = 1
  · rw [if_pos c1736] at h
    refine am_r_f (show am_stepn X T_UpRiverModel_highest 3 true (0, [(0, am_iv x0)], [], am_SH, (J, K, am_RF b)) = some (((decide (am_i32 1) && decide (am_i32 x0)) && true), .inl (bif am_cb .ne x0 1 then 10 else 5, [(0, am_iv x0)], [], am_SH, (J, K, am_RF b))) from rfl) (am_g2 (by decide) g1735 rfl) (am_nd_t c1736) ?_
    obtain rfl := Option.some.inj h
    exact am_r_ret (show am_stepn X T_UpRiverModel_highest 3 true (5, [(0, am_iv x0)], [], am_SH, (J, K, am_RF b)) = some (true, .inr (.inr (some (am_iv 120), am_SH, (J, K, am_RF b)))) from rfl) rfl
  · rw [if_neg c1736] at h
    refine am_r_t (show am_stepn X T_UpRiverModel_highest 3 true (0, [(0, am_iv x0)], [], am_SH, (J, K, am_RF b)) = some (((decide (am_i32 1) && decide (am_i32 x0)) && true), .inl (bif am_cb .ne x0 1 then 10 else 5, [(0, am_iv x0)], [], am_SH, (J, K, am_RF b))) from rfl) (am_g2 (by decide) g1735 rfl) (am_nd_f c1736) ?_
    by_cases c1737 : x0 = 2
    · rw [if_pos c1737] at h
      refine am_r_f (show am_stepn X T_UpRiverModel_highest 3 true (10, [(0, am_iv x0)], [], am_SH, (J, K, am_RF b)) = some (((decide (am_i32 2) && decide (am_i32 x0)) && true), .inl (bif am_cb .ne x0 2 then 20 else 15, [(0, am_iv x0)], [], am_SH, (J, K, am_RF b))) from rfl) (am_g2 (by decide) g1735 rfl) (am_nd_t c1737) ?_
      obtain rfl := Option.some.inj h
      exact am_r_ret (show am_stepn X T_UpRiverModel_highest 3 true (15, [(0, am_iv x0)], [], am_SH, (J, K, am_RF b)) = some (true, .inr (.inr (some (am_iv 20), am_SH, (J, K, am_RF b)))) from rfl) rfl
    · rw [if_neg c1737] at h
      refine am_r_t (show am_stepn X T_UpRiverModel_highest 3 true (10, [(0, am_iv x0)], [], am_SH, (J, K, am_RF b)) = some (((decide (am_i32 2) && decide (am_i32 x0)) && true), .inl (bif am_cb .ne x0 2 then 20 else 15, [(0, am_iv x0)], [], am_SH, (J, K, am_RF b))) from rfl) (am_g2 (by decide) g1735 rfl) (am_nd_f c1737) ?_
      by_cases c1738 : x0 = 5
      · rw [if_pos c1738] at h
        refine am_r_f (show am_stepn X T_UpRiverModel_highest 3 true (20, [(0, am_iv x0)], [], am_SH, (J, K, am_RF b)) = some (((decide (am_i32 5) && decide (am_i32 x0)) && true), .inl (bif am_cb .ne x0 5 then 30 else 25, [(0, am_iv x0)], [], am_SH, (J, K, am_RF b))) from rfl) (am_g2 (by decide) g1735 rfl) (am_nd_t c1738) ?_
        obtain rfl := Option.some.inj h
        exact am_r_ret (show am_stepn X T_UpRiverModel_highest 3 true (25, [(0, am_iv x0)], [], am_SH, (J, K, am_RF b)) = some (true, .inr (.inr (some (am_iv 9), am_SH, (J, K, am_RF b)))) from rfl) rfl
      · rw [if_neg c1738] at h
        refine am_r_t (show am_stepn X T_UpRiverModel_highest 3 true (20, [(0, am_iv x0)], [], am_SH, (J, K, am_RF b)) = some (((decide (am_i32 5) && decide (am_i32 x0)) && true), .inl (bif am_cb .ne x0 5 then 30 else 25, [(0, am_iv x0)], [], am_SH, (J, K, am_RF b))) from rfl) (am_g2 (by decide) g1735 rfl) (am_nd_f c1738) ?_
        by_cases c1739 : x0 = 6
        · rw [if_pos c1739] at h
          refine am_r_f (show am_stepn X T_UpRiverModel_highest 3 true (30, [(0, am_iv x0)], [], am_SH, (J, K, am_RF b)) = some (((decide (am_i32 6) && decide (am_i32 x0)) && true), .inl (bif am_cb .ne x0 6 then 42 else 36, [(0, am_iv x0)], [], am_SH, (J, K, am_RF b))) from rfl) (am_g2 (by decide) g1735 rfl) (am_nd_t c1739) ?_
          obtain rfl := Option.some.inj h
          exact am_r_ret (show am_stepn X T_UpRiverModel_highest 3 true (36, [(0, am_iv x0)], [], am_SH, (J, K, am_RF b)) = some (true, .inr (.inr (some (am_iv 300), am_SH, (J, K, am_RF b)))) from rfl) rfl
        · rw [if_neg c1739] at h
          refine am_r_t (show am_stepn X T_UpRiverModel_highest 3 true (30, [(0, am_iv x0)], [], am_SH, (J, K, am_RF b)) = some (((decide (am_i32 6) && decide (am_i32 x0)) && true), .inl (bif am_cb .ne x0 6 then 42 else 36, [(0, am_iv x0)], [], am_SH, (J, K, am_RF b))) from rfl) (am_g2 (by decide) g1735 rfl) (am_nd_f c1739) ?_
          obtain rfl := Option.some.inj h
          exact am_r_ret (show am_stepn X T_UpRiverModel_highest 2 true (42, [(0, am_iv x0)], [], am_SH, (J, K, am_RF b)) = some (true, .inr (.inr (some (am_iv 8), am_SH, (J, K, am_RF b)))) from rfl) rfl
theorem s_UpRiverModel_lowest {X : am_X} {b : Bool} {J : am_J} {K : am_K} {x0 : Int} {r : Int} (h : f_UpRiverModel_lowest  x0 = some r) : am_runs X T_UpRiverModel_lowest (0, [(0, am_iv x0)], [], am_SH, (J, K, am_RF b)) (some (am_iv r), am_SH, (J, K, am_RF b)) := by
  unfold f_UpRiverModel_lowest at h
  obtain ⟨g1740, h⟩ := am_if_some h
  by_cases c1741 : x0 = 0
  · rw [if_pos c1741] at h
    refine am_r_f (show am_stepn X T_UpRiverModel_lowest 2 true (0, [(0, am_iv x0)], [], am_SH, (J, K, am_RF b)) = some ((decide (am_i32 x0) && true), .inl (bif am_cb .ne x0 0 then 8 else 4, [(0, am_iv x0)], [], am_SH, (J, K, am_RF b))) from rfl) (am_g1 g1740 rfl) (am_nd_t c1741) ?_
    obtain rfl := Option.some.inj h
    exact am_r_ret (show am_stepn X T_UpRiverModel_lowest 3 true (4, [(0, am_iv x0)], [], am_SH, (J, K, am_RF b)) = some (true, .inr (.inr (some (am_iv 2), am_SH, (J, K, am_RF b)))) from rfl) rfl
  · rw [if_neg c1741] at h
    refine am_r_t (show am_stepn X T_UpRiverModel_lowest 2 true (0, [(0, am_iv x0)], [], am_SH, (J, K, am_RF b)) = some ((decide (am_i32 x0) && true), .inl (bif am_cb .ne x0 0 then 8 else 4, [(0, am_iv x0)], [], am_SH, (J, K, am_RF b))) from rfl) (am_g1 g1740 rfl) (am_nd_f c1741) ?_
    by_cases c1742 : x0 = 1
    · rw [if_pos c1742] at h
      refine am_r_f (show am_stepn X T_UpRiverModel_lowest 3 true (8, [(0, am_iv x0)], [], am_SH, (J, K, am_RF b)) = some (((decide (am_i32 1) && decide (am_i32 x0)) && true), .inl (bif am_cb .ne x0 1 then 17 else 13, [(0, am_iv x0)], [], am_SH, (J, K, am_RF b))) from rfl) (am_g2 (by decide) g1740 rfl) (am_nd_t c1742) ?_
      obtain rfl := Option.some.inj h
      exact am_r_ret (show am_stepn X T_UpRiverModel_lowest 3 true (13, [(0, am_iv x0)], [], am_SH, (J, K, am_RF b)) = some (true, .inr (.inr (some (am_iv 5), am_SH, (J, K, am_RF b)))) from rfl) rfl
    · rw [if_neg c1742] at h
      refine am_r_t (show am_stepn X T_UpRiverModel_lowest 3 true (8, [(0, am_iv x0)], [], am_SH, (J, K, am_RF b)) = some (((decide (am_i32 1) && decide (am_i32 x0)) && true), .inl (bif am_cb .ne x0 1 then 17 else 13, [(0, am_iv x0)], [], am_SH, (J, K, am_RF b))) from rfl) (am_g2 (by decide) g1740 rfl) (am_nd_f c1742) ?_
      by_cases c1743 : x0 = 4
      · rw [if_pos c1743] at h
        refine am_r_f (show am_stepn X T_UpRiverModel_lowest 3 true (17, [(0, am_iv x0)], [], am_SH, (J, K, am_RF b)) = some (((decide (am_i32 4) && decide (am_i32 x0)) && true), .inl (bif am_cb .ne x0 4 then 26 else 22, [(0, am_iv x0)], [], am_SH, (J, K, am_RF b))) from rfl) (am_g2 (by decide) g1740 rfl) (am_nd_t c1743) ?_
        obtain rfl := Option.some.inj h
        exact am_r_ret (show am_stepn X T_UpRiverModel_lowest 3 true (22, [(0, am_iv x0)], [], am_SH, (J, K, am_RF b)) = some (true, .inr (.inr (some (am_iv 0), am_SH, (J, K, am_RF b)))) from rfl) rfl
      · rw [if_neg c1743] at h
        refine am_r_t (show am_stepn X T_UpRiverModel_lowest 3 true (17, [(0, am_iv x0)], [], am_SH, (J, K, am_RF b)) = some (((decide (am_i32 4) && decide (am_i32 x0)) && true), .inl (bif am_cb .ne x0 4 then 26 else 22, [(0, am_iv x0)], [], am_SH, (J, K, am_RF b))) from rfl) (am_g2 (by decide) g1740 rfl) (am_nd_f c1743) ?_
        obtain rfl := Option.some.inj h
        exact am_r_ret (show am_stepn X T_UpRiverModel_lowest 2 true (26, [(0, am_iv x0)], [], am_SH, (J, K, am_RF b)) = some (true, .inr (.inr (some (am_iv 1), am_SH, (J, K, am_RF b)))) from rfl) rfl
theorem s_UpRiverModel_isNumber_L25 {X : am_X} {b : Bool} {K : am_K}  : ∀ (x1 : Int) (x2 : Int) (J : am_J) (r : am_J), f_UpRiverModel_isNumber_L25    x1 x2 J = some r → am_runs X T_UpRiverModel_isNumber (25, [(0, am_pv 65), (1, am_iv x1), (2, am_iv x2)], [], am_SH, (J, K, am_RF b)) (none, am_SH, (r, K, am_RF b)) := by
  intro x1 x2 J r h
  unfold f_UpRiverModel_isNumber_L25 at h
  obtain ⟨g1744, h⟩ := am_if_some h
  by_cases c1745 : (J 65 13) = 0
  · rw [if_pos c1745] at h
    refine am_r_f (show am_stepn X T_UpRiverModel_isNumber 3 true (25, [(0, am_pv 65), (1, am_iv x1), (2, am_iv x2)], [], am_SH, (J, K, am_RF b)) = some ((decide (am_i32 (J 65 13)) && true), .inl (bif am_cb .ne (J 65 13) 0 then 49 else 32, [(0, am_pv 65), (1, am_iv x1), (2, am_iv x2)], [], am_SH, (J, K, am_RF b))) from rfl) (am_g1 g1744 rfl) (am_nd_t c1745) ?_
    obtain ⟨q1746, e1747, h⟩ := am_bind_some h
    refine am_r_call (show am_stepn X T_UpRiverModel_isNumber 9 true (32, [(0, am_pv 65), (1, am_iv x1), (2, am_iv x2)], [], am_SH, (J, K, am_RF b)) = some (true, .inr (.inl (150, [am_jv (am_i2l (J 65 12)), am_jv (am_i2l x1), am_jv (am_i2l x2)], 6, 0, 0, 45, [(0, am_pv 65), (1, am_iv x1), (2, am_iv x2)], [am_pv 65], am_SH, (J, K, am_RF b)))) from rfl) rfl tb_UpRiverModel_in (s_UpRiverModel_in e1747) ?_
    obtain ⟨q1748, e1749, h⟩ := am_bind_some h
    refine am_r_call (show am_stepn X T_UpRiverModel_isNumber 2 true (45, [(0, am_pv 65), (1, am_iv x1), (2, am_iv x2)], [am_iv q1746, am_pv 65], am_SH, (J, K, am_RF b)) = some (true, .inr (.inl (157, [am_pv 65, am_iv q1746, am_iv 3], 3, 0, 0, 49, [(0, am_pv 65), (1, am_iv x1), (2, am_iv x2)], [], am_SH, (J, K, am_RF b)))) from rfl) rfl tb_UpRiverModel_needs (s_UpRiverModel_needs e1749) ?_
    obtain rfl := Option.some.inj h
    exact am_r_ret (show am_stepn X T_UpRiverModel_isNumber 1 true (49, [(0, am_pv 65), (1, am_iv x1), (2, am_iv x2)], [], am_SH, (q1748, K, am_RF b)) = some (true, .inr (.inr (none, am_SH, (q1748, K, am_RF b)))) from rfl) rfl
  · rw [if_neg c1745] at h
    refine am_r_t (show am_stepn X T_UpRiverModel_isNumber 3 true (25, [(0, am_pv 65), (1, am_iv x1), (2, am_iv x2)], [], am_SH, (J, K, am_RF b)) = some ((decide (am_i32 (J 65 13)) && true), .inl (bif am_cb .ne (J 65 13) 0 then 49 else 32, [(0, am_pv 65), (1, am_iv x1), (2, am_iv x2)], [], am_SH, (J, K, am_RF b))) from rfl) (am_g1 g1744 rfl) (am_nd_f c1745) ?_
    obtain rfl := Option.some.inj h
    exact am_r_ret (show am_stepn X T_UpRiverModel_isNumber 1 true (49, [(0, am_pv 65), (1, am_iv x1), (2, am_iv x2)], [], am_SH, (J, K, am_RF b)) = some (true, .inr (.inr (none, am_SH, (J, K, am_RF b)))) from rfl) rfl
theorem s_UpRiverModel_isNumber_L21 {X : am_X} {b : Bool} {K : am_K}  : ∀ (x1 : Int) (x2 : Int) (s1 : Int) (J : am_J) (r : am_J), f_UpRiverModel_isNumber_L21    x1 x2 s1 J = some r → am_runs X T_UpRiverModel_isNumber (21, [(0, am_pv 65), (1, am_iv x1), (2, am_iv x2)], [am_iv s1, am_pv 65], am_SH, (J, K, am_RF b)) (none, am_SH, (r, K, am_RF b)) := by
  intro x1 x2 s1 J r h
  unfold f_UpRiverModel_isNumber_L21 at h
  obtain ⟨q1750, e1751, h⟩ := am_bind_some h
  refine am_r_call (show am_stepn X T_UpRiverModel_isNumber 2 true (21, [(0, am_pv 65), (1, am_iv x1), (2, am_iv x2)], [am_iv s1, am_pv 65], am_SH, (J, K, am_RF b)) = some (true, .inr (.inl (157, [am_pv 65, am_iv s1, am_iv 2], 3, 0, 0, 25, [(0, am_pv 65), (1, am_iv x1), (2, am_iv x2)], [], am_SH, (J, K, am_RF b)))) from rfl) rfl tb_UpRiverModel_needs (s_UpRiverModel_needs e1751) ?_
  exact s_UpRiverModel_isNumber_L25  _ _ _ _ h
theorem s_UpRiverModel_isNumber {X : am_X} {b : Bool} {K : am_K} {x1 : Int} {x2 : Int} {J : am_J} {r : am_J} (h : f_UpRiverModel_isNumber  x1 x2 J = some r) : am_runs X T_UpRiverModel_isNumber (0, [(0, am_pv 65), (1, am_iv x1), (2, am_iv x2)], [], am_SH, (J, K, am_RF b)) (none, am_SH, (r, K, am_RF b)) := by
  unfold f_UpRiverModel_isNumber at h
  obtain ⟨g1752, h⟩ := am_if_some h
  by_cases c1753 : (J 65 13) = 0
  · rw [if_pos c1753] at h
    refine am_r_f (show am_stepn X T_UpRiverModel_isNumber 3 true (0, [(0, am_pv 65), (1, am_iv x1), (2, am_iv x2)], [], am_SH, (J, K, am_RF b)) = some ((decide (am_i32 (J 65 13)) && true), .inl (bif am_cb .ne (J 65 13) 0 then 25 else 7, [(0, am_pv 65), (1, am_iv x1), (2, am_iv x2)], [], am_SH, (J, K, am_RF b))) from rfl) (am_g1 g1752 rfl) (am_nd_t c1753) ?_
    obtain ⟨g1754, h⟩ := am_if_some h
    by_cases c1755 : (J 65 11) = 2
    · rw [if_pos c1755] at h
      refine am_r_f (show am_stepn X T_UpRiverModel_isNumber 5 true (7, [(0, am_pv 65), (1, am_iv x1), (2, am_iv x2)], [], am_SH, (J, K, am_RF b)) = some (((decide (am_i32 2) && decide (am_i32 (J 65 11))) && true), .inl (bif am_cb .ne (J 65 11) 2 then 20 else 16, [(0, am_pv 65), (1, am_iv x1), (2, am_iv x2)], [am_pv 65], am_SH, (J, K, am_RF b))) from rfl) (am_g2 (by decide) g1754 rfl) (am_nd_t c1755) ?_
      refine am_r_go (show am_stepn X T_UpRiverModel_isNumber 2 true (16, [(0, am_pv 65), (1, am_iv x1), (2, am_iv x2)], [am_pv 65], am_SH, (J, K, am_RF b)) = some (true, .inl (21, [(0, am_pv 65), (1, am_iv x1), (2, am_iv x2)], [am_iv 1, am_pv 65], am_SH, (J, K, am_RF b))) from rfl) rfl ?_
      exact s_UpRiverModel_isNumber_L21  _ _ _ _ _ h
    · rw [if_neg c1755] at h
      refine am_r_t (show am_stepn X T_UpRiverModel_isNumber 5 true (7, [(0, am_pv 65), (1, am_iv x1), (2, am_iv x2)], [], am_SH, (J, K, am_RF b)) = some (((decide (am_i32 2) && decide (am_i32 (J 65 11))) && true), .inl (bif am_cb .ne (J 65 11) 2 then 20 else 16, [(0, am_pv 65), (1, am_iv x1), (2, am_iv x2)], [am_pv 65], am_SH, (J, K, am_RF b))) from rfl) (am_g2 (by decide) g1754 rfl) (am_nd_f c1755) ?_
      refine am_r_go (show am_stepn X T_UpRiverModel_isNumber 1 true (20, [(0, am_pv 65), (1, am_iv x1), (2, am_iv x2)], [am_pv 65], am_SH, (J, K, am_RF b)) = some (true, .inl (21, [(0, am_pv 65), (1, am_iv x1), (2, am_iv x2)], [am_iv 0, am_pv 65], am_SH, (J, K, am_RF b))) from rfl) rfl ?_
      exact s_UpRiverModel_isNumber_L21  _ _ _ _ _ h
  · rw [if_neg c1753] at h
    refine am_r_t (show am_stepn X T_UpRiverModel_isNumber 3 true (0, [(0, am_pv 65), (1, am_iv x1), (2, am_iv x2)], [], am_SH, (J, K, am_RF b)) = some ((decide (am_i32 (J 65 13)) && true), .inl (bif am_cb .ne (J 65 13) 0 then 25 else 7, [(0, am_pv 65), (1, am_iv x1), (2, am_iv x2)], [], am_SH, (J, K, am_RF b))) from rfl) (am_g1 g1752 rfl) (am_nd_f c1753) ?_
    exact s_UpRiverModel_isNumber_L25  _ _ _ _ h
theorem s_UpRiverModel_readNumber {X : am_X} {b : Bool} {K : am_K} {x1 : Int} {x2 : Int} {J : am_J} {r : Int × am_J} (h : f_UpRiverModel_readNumber  x1 x2 J = some r) : am_runs X T_UpRiverModel_readNumber (0, [(0, am_pv 65), (1, am_iv x1), (2, am_iv x2)], [], am_SH, (J, K, am_RF b)) (some (am_iv r.1), am_SH, (r.2, K, am_RF b)) := by
  unfold f_UpRiverModel_readNumber at h
  obtain ⟨q1756, e1757, h⟩ := am_bind_some h
  refine am_r_call (show am_stepn X T_UpRiverModel_readNumber 4 true (0, [(0, am_pv 65), (1, am_iv x1), (2, am_iv x2)], [], am_SH, (J, K, am_RF b)) = some (true, .inr (.inl (166, [am_pv 65, am_iv x1, am_iv x2], 3, 0, 0, 6, [(0, am_pv 65), (1, am_iv x1), (2, am_iv x2)], [], am_SH, (J, K, am_RF b)))) from rfl) rfl tb_UpRiverModel_isNumber (s_UpRiverModel_isNumber e1757) ?_
  obtain ⟨q1758, e1759, h⟩ := am_bind_some h
  refine am_r_call (show am_stepn X T_UpRiverModel_readNumber 5 true (6, [(0, am_pv 65), (1, am_iv x1), (2, am_iv x2)], [], am_SH, (q1756, K, am_RF b)) = some (true, .inr (.inl (155, [am_pv 65], 2, 0, 0, 15, [(0, am_pv 65), (1, am_iv x1), (2, am_iv x2), (3, am_iv (q1756 65 12))], [], am_SH, (q1756, K, am_RF b)))) from rfl) rfl tb_UpRiverModel_next (s_UpRiverModel_next e1759) ?_
  obtain rfl := Option.some.inj h
  exact am_r_ret (show am_stepn X T_UpRiverModel_readNumber 2 true (15, [(0, am_pv 65), (1, am_iv x1), (2, am_iv x2), (3, am_iv (q1756 65 12))], [], am_SH, (q1758, K, am_RF b)) = some (true, .inr (.inr (some (am_iv (q1756 65 12)), am_SH, (q1758, K, am_RF b)))) from rfl) rfl
theorem s_UpRiverModel_once_L22 {X : am_X} {b : Bool} {K : am_K}  : ∀ (x1 : Int) (s1 : Int) (J : am_J) (r : am_J), f_UpRiverModel_once_L22    x1 s1 J = some r → am_runs X T_UpRiverModel_once (22, [(0, am_pv 65), (1, am_iv x1)], [am_iv s1, am_pv 65], am_SH, (J, K, am_RF b)) (none, am_SH, (r, K, am_RF b)) := by
  intro x1 s1 J r h
  unfold f_UpRiverModel_once_L22 at h
  obtain ⟨q1760, e1761, h⟩ := am_bind_some h
  refine am_r_call (show am_stepn X T_UpRiverModel_once 2 true (22, [(0, am_pv 65), (1, am_iv x1)], [am_iv s1, am_pv 65], am_SH, (J, K, am_RF b)) = some (true, .inr (.inl (157, [am_pv 65, am_iv s1, am_iv 4], 3, 0, 0, 26, [(0, am_pv 65), (1, am_iv x1)], [], am_SH, (J, K, am_RF b)))) from rfl) rfl tb_UpRiverModel_needs (s_UpRiverModel_needs e1761) ?_
  obtain ⟨g1762, h⟩ := am_if_some h
  obtain rfl := Option.some.inj h
  exact am_r_ret (show am_stepn X T_UpRiverModel_once 6 true (26, [(0, am_pv 65), (1, am_iv x1)], [], am_SH, (q1760, K, am_RF b)) = some (((decide ((1 : Int) = 0 ∨ (1 : Int) = 1) && am_in x1 252) && true), .inr (.inr (none, am_SH, ((am_up q1760 70 x1.toNat 1), K, am_RF b)))) from rfl) (am_gz (by decide) g1762 rfl)
theorem s_UpRiverModel_once {X : am_X} {b : Bool} {K : am_K} {x1 : Int} {J : am_J} {r : am_J} (h : f_UpRiverModel_once  x1 J = some r) : am_runs X T_UpRiverModel_once (0, [(0, am_pv 65), (1, am_iv x1)], [], am_SH, (J, K, am_RF b)) (none, am_SH, (r, K, am_RF b)) := by
  unfold f_UpRiverModel_once at h
  obtain ⟨g1763, h⟩ := am_if_some h
  by_cases c1764 : (J 65 13) = 0
  · rw [if_pos c1764] at h
    refine am_r_f (show am_stepn X T_UpRiverModel_once 3 true (0, [(0, am_pv 65), (1, am_iv x1)], [], am_SH, (J, K, am_RF b)) = some ((decide (am_i32 (J 65 13)) && true), .inl (bif am_cb .ne (J 65 13) 0 then 33 else 7, [(0, am_pv 65), (1, am_iv x1)], [], am_SH, (J, K, am_RF b))) from rfl) (am_g1 g1763 rfl) (am_nd_t c1764) ?_
    obtain ⟨g1765, h⟩ := am_if_some h
    obtain ⟨g1766, h⟩ := am_if_some h
    by_cases c1767 : (J 70 x1.toNat) = 0
    · rw [if_pos c1767] at h
      refine am_r_f (show am_stepn X T_UpRiverModel_once 6 true (7, [(0, am_pv 65), (1, am_iv x1)], [], am_SH, (J, K, am_RF b)) = some ((decide (am_i32 (J 70 x1.toNat)) && (am_in x1 252 && true)), .inl (bif am_cb .ne (J 70 x1.toNat) 0 then 21 else 17, [(0, am_pv 65), (1, am_iv x1)], [am_pv 65], am_SH, (J, K, am_RF b))) from rfl) (am_g1 g1766 (am_gi g1765 rfl)) (am_nd_t c1767) ?_
      refine am_r_go (show am_stepn X T_UpRiverModel_once 2 true (17, [(0, am_pv 65), (1, am_iv x1)], [am_pv 65], am_SH, (J, K, am_RF b)) = some (true, .inl (22, [(0, am_pv 65), (1, am_iv x1)], [am_iv 1, am_pv 65], am_SH, (J, K, am_RF b))) from rfl) rfl ?_
      exact s_UpRiverModel_once_L22  _ _ _ _ h
    · rw [if_neg c1767] at h
      refine am_r_t (show am_stepn X T_UpRiverModel_once 6 true (7, [(0, am_pv 65), (1, am_iv x1)], [], am_SH, (J, K, am_RF b)) = some ((decide (am_i32 (J 70 x1.toNat)) && (am_in x1 252 && true)), .inl (bif am_cb .ne (J 70 x1.toNat) 0 then 21 else 17, [(0, am_pv 65), (1, am_iv x1)], [am_pv 65], am_SH, (J, K, am_RF b))) from rfl) (am_g1 g1766 (am_gi g1765 rfl)) (am_nd_f c1767) ?_
      refine am_r_go (show am_stepn X T_UpRiverModel_once 1 true (21, [(0, am_pv 65), (1, am_iv x1)], [am_pv 65], am_SH, (J, K, am_RF b)) = some (true, .inl (22, [(0, am_pv 65), (1, am_iv x1)], [am_iv 0, am_pv 65], am_SH, (J, K, am_RF b))) from rfl) rfl ?_
      exact s_UpRiverModel_once_L22  _ _ _ _ h
  · rw [if_neg c1764] at h
    refine am_r_t (show am_stepn X T_UpRiverModel_once 3 true (0, [(0, am_pv 65), (1, am_iv x1)], [], am_SH, (J, K, am_RF b)) = some ((decide (am_i32 (J 65 13)) && true), .inl (bif am_cb .ne (J 65 13) 0 then 33 else 7, [(0, am_pv 65), (1, am_iv x1)], [], am_SH, (J, K, am_RF b))) from rfl) (am_g1 g1763 rfl) (am_nd_f c1764) ?_
    obtain rfl := Option.some.inj h
    exact am_r_ret (show am_stepn X T_UpRiverModel_once 1 true (33, [(0, am_pv 65), (1, am_iv x1)], [], am_SH, (J, K, am_RF b)) = some (true, .inr (.inr (none, am_SH, (J, K, am_RF b)))) from rfl) rfl
theorem s_UpRiverModel_readReach_L54 {X : am_X} {b : Bool} {K : am_K}  : ∀ (x3 : Int) (J : am_J) (r : Int × am_J), f_UpRiverModel_readReach_L54    x3 J = some r → am_runs X T_UpRiverModel_readReach (54, [(0, am_pv 65), (3, am_iv x3)], [], am_SH, (J, K, am_RF b)) (some (am_iv r.1), am_SH, (r.2, K, am_RF b)) := by
  intro x3 J r h
  unfold f_UpRiverModel_readReach_L54 at h
  obtain ⟨q1768, e1769, h⟩ := am_bind_some h
  refine am_r_call (show am_stepn X T_UpRiverModel_readReach 2 true (54, [(0, am_pv 65), (3, am_iv x3)], [], am_SH, (J, K, am_RF b)) = some (true, .inr (.inl (155, [am_pv 65], 2, 0, 0, 58, [(0, am_pv 65), (3, am_iv x3)], [], am_SH, (J, K, am_RF b)))) from rfl) rfl tb_UpRiverModel_next (s_UpRiverModel_next e1769) ?_
  obtain rfl := Option.some.inj h
  exact am_r_ret (show am_stepn X T_UpRiverModel_readReach 2 true (58, [(0, am_pv 65), (3, am_iv x3)], [], am_SH, (q1768, K, am_RF b)) = some (true, .inr (.inr (some (am_iv x3), am_SH, (q1768, K, am_RF b)))) from rfl) rfl
theorem s_UpRiverModel_readReach_L40 {X : am_X} {b : Bool} {K : am_K}  : ∀ (x1 : Int) (x2 : Int) (x3 : Int) (s1 : Int) (J : am_J) (r : Int × am_J), f_UpRiverModel_readReach_L40    x1 x2 x3 s1 J = some r → am_runs X T_UpRiverModel_readReach (40, [(0, am_pv 65), (1, am_iv x1), (2, am_iv x2), (3, am_iv x3)], [am_iv s1, am_pv 65], am_SH, (J, K, am_RF b)) (some (am_iv r.1), am_SH, (r.2, K, am_RF b)) := by
  intro x1 x2 x3 s1 J r h
  unfold f_UpRiverModel_readReach_L40 at h
  obtain ⟨g1770, h⟩ := am_if_some h
  by_cases c1771 : x1 = 0
  · rw [if_pos c1771] at h
    refine am_r_t (show am_stepn X T_UpRiverModel_readReach 3 true (40, [(0, am_pv 65), (1, am_iv x1), (2, am_iv x2), (3, am_iv x3)], [am_iv s1, am_pv 65], am_SH, (J, K, am_RF b)) = some ((decide (am_i32 x1) && true), .inl (bif am_cb .eq x1 0 then 54 else 47, [(0, am_pv 65), (1, am_iv x1), (2, am_iv x2), (3, am_iv x3)], [], am_SH, ((am_up J 65 6 s1), K, am_RF b))) from rfl) (am_g1 g1770 rfl) (decide_eq_true c1771) ?_
    refine am_r_eq (σ' := (54, [(0, am_pv 65), (3, am_iv x3)], [], am_SH, ((am_up J 65 6 s1), K, am_RF b))) rfl ?_
    exact s_UpRiverModel_readReach_L54  _ _ _ h
  · rw [if_neg c1771] at h
    refine am_r_f (show am_stepn X T_UpRiverModel_readReach 3 true (40, [(0, am_pv 65), (1, am_iv x1), (2, am_iv x2), (3, am_iv x3)], [am_iv s1, am_pv 65], am_SH, (J, K, am_RF b)) = some ((decide (am_i32 x1) && true), .inl (bif am_cb .eq x1 0 then 54 else 47, [(0, am_pv 65), (1, am_iv x1), (2, am_iv x2), (3, am_iv x3)], [], am_SH, ((am_up J 65 6 s1), K, am_RF b))) from rfl) (am_g1 g1770 rfl) (decide_eq_false c1771) ?_
    obtain ⟨q1772, e1773, h⟩ := am_bind_some h
    refine am_r_call (show am_stepn X T_UpRiverModel_readReach 5 true (47, [(0, am_pv 65), (1, am_iv x1), (2, am_iv x2), (3, am_iv x3)], [], am_SH, ((am_up J 65 6 s1), K, am_RF b)) = some (true, .inr (.inl (168, [am_pv 65, am_iv (x2 + x3)], 2, 0, 0, 54, [(0, am_pv 65), (2, am_iv x2), (3, am_iv x3)], [], am_SH, ((am_up J 65 6 s1), K, am_RF b)))) from rfl) rfl tb_UpRiverModel_once (s_UpRiverModel_once e1773) ?_
    refine am_r_eq (σ' := (54, [(0, am_pv 65), (3, am_iv x3)], [], am_SH, (q1772, K, am_RF b))) rfl ?_
    exact s_UpRiverModel_readReach_L54  _ _ _ h
theorem s_UpRiverModel_readReach_L22 {X : am_X} {b : Bool} {K : am_K}  : ∀ (x1 : Int) (x2 : Int) (s0 : Int) (J : am_J) (r : Int × am_J), f_UpRiverModel_readReach_L22    x1 x2 s0 J = some r → am_runs X T_UpRiverModel_readReach (22, [(0, am_pv 65), (1, am_iv x1), (2, am_iv x2)], [am_iv s0], am_SH, (J, K, am_RF b)) (some (am_iv r.1), am_SH, (r.2, K, am_RF b)) := by
  intro x1 x2 s0 J r h
  unfold f_UpRiverModel_readReach_L22 at h
  obtain ⟨g1774, h⟩ := am_if_some h
  obtain ⟨g1775, h⟩ := am_if_some h
  by_cases c1776 : (J 65 6) < s0
  · rw [if_pos c1776] at h
    refine am_r_f (show am_stepn X T_UpRiverModel_readReach 6 true (22, [(0, am_pv 65), (1, am_iv x1), (2, am_iv x2)], [am_iv s0], am_SH, (J, K, am_RF b)) = some (((decide (am_i32 (J 65 6)) && decide (am_i32 s0)) && true), .inl (bif am_cb .le s0 (J 65 6) then 36 else 32, [(0, am_pv 65), (1, am_iv x1), (2, am_iv x2), (3, am_iv s0)], [am_pv 65], am_SH, (J, K, am_RF b))) from rfl) (am_g2 g1774 g1775 rfl) (am_nd_t c1776) ?_
    refine am_r_go (show am_stepn X T_UpRiverModel_readReach 2 true (32, [(0, am_pv 65), (1, am_iv x1), (2, am_iv x2), (3, am_iv s0)], [am_pv 65], am_SH, (J, K, am_RF b)) = some (true, .inl (40, [(0, am_pv 65), (1, am_iv x1), (2, am_iv x2), (3, am_iv s0)], [am_iv s0, am_pv 65], am_SH, (J, K, am_RF b))) from rfl) rfl ?_
    exact s_UpRiverModel_readReach_L40  _ _ _ _ _ _ h
  · rw [if_neg c1776] at h
    refine am_r_t (show am_stepn X T_UpRiverModel_readReach 6 true (22, [(0, am_pv 65), (1, am_iv x1), (2, am_iv x2)], [am_iv s0], am_SH, (J, K, am_RF b)) = some (((decide (am_i32 (J 65 6)) && decide (am_i32 s0)) && true), .inl (bif am_cb .le s0 (J 65 6) then 36 else 32, [(0, am_pv 65), (1, am_iv x1), (2, am_iv x2), (3, am_iv s0)], [am_pv 65], am_SH, (J, K, am_RF b))) from rfl) (am_g2 g1774 g1775 rfl) (am_nd_f c1776) ?_
    refine am_r_go (show am_stepn X T_UpRiverModel_readReach 2 true (36, [(0, am_pv 65), (1, am_iv x1), (2, am_iv x2), (3, am_iv s0)], [am_pv 65], am_SH, (J, K, am_RF b)) = some (true, .inl (40, [(0, am_pv 65), (1, am_iv x1), (2, am_iv x2), (3, am_iv s0)], [am_iv (J 65 6), am_pv 65], am_SH, (J, K, am_RF b))) from rfl) rfl ?_
    exact s_UpRiverModel_readReach_L40  _ _ _ _ _ _ h
theorem s_UpRiverModel_readReach {X : am_X} {b : Bool} {K : am_K} {x1 : Int} {x2 : Int} {J : am_J} {r : Int × am_J} (h : f_UpRiverModel_readReach  x1 x2 J = some r) : am_runs X T_UpRiverModel_readReach (0, [(0, am_pv 65), (1, am_iv x1), (2, am_iv x2)], [], am_SH, (J, K, am_RF b)) (some (am_iv r.1), am_SH, (r.2, K, am_RF b)) := by
  unfold f_UpRiverModel_readReach at h
  obtain ⟨q1777, e1778, h⟩ := am_bind_some h
  refine am_r_call (show am_stepn X T_UpRiverModel_readReach 4 true (0, [(0, am_pv 65), (1, am_iv x1), (2, am_iv x2)], [], am_SH, (J, K, am_RF b)) = some (true, .inr (.inl (166, [am_pv 65, am_iv 0, am_iv 7], 3, 0, 0, 7, [(0, am_pv 65), (1, am_iv x1), (2, am_iv x2)], [], am_SH, (J, K, am_RF b)))) from rfl) rfl tb_UpRiverModel_isNumber (s_UpRiverModel_isNumber e1778) ?_
  obtain ⟨g1779, h⟩ := am_if_some h
  by_cases c1780 : (q1777 65 13) = 0
  · rw [if_pos c1780] at h
    refine am_r_f (show am_stepn X T_UpRiverModel_readReach 3 true (7, [(0, am_pv 65), (1, am_iv x1), (2, am_iv x2)], [], am_SH, (q1777, K, am_RF b)) = some ((decide (am_i32 (q1777 65 13)) && true), .inl (bif am_cb .ne (q1777 65 13) 0 then 21 else 14, [(0, am_pv 65), (1, am_iv x1), (2, am_iv x2)], [], am_SH, (q1777, K, am_RF b))) from rfl) (am_g1 g1779 rfl) (am_nd_t c1780) ?_
    refine am_r_go (show am_stepn X T_UpRiverModel_readReach 3 true (14, [(0, am_pv 65), (1, am_iv x1), (2, am_iv x2)], [], am_SH, (q1777, K, am_RF b)) = some (true, .inl (22, [(0, am_pv 65), (1, am_iv x1), (2, am_iv x2)], [am_iv (q1777 65 12)], am_SH, (q1777, K, am_RF b))) from rfl) rfl ?_
    exact s_UpRiverModel_readReach_L22  _ _ _ _ _ h
  · rw [if_neg c1780] at h
    refine am_r_t (show am_stepn X T_UpRiverModel_readReach 3 true (7, [(0, am_pv 65), (1, am_iv x1), (2, am_iv x2)], [], am_SH, (q1777, K, am_RF b)) = some ((decide (am_i32 (q1777 65 13)) && true), .inl (bif am_cb .ne (q1777 65 13) 0 then 21 else 14, [(0, am_pv 65), (1, am_iv x1), (2, am_iv x2)], [], am_SH, (q1777, K, am_RF b))) from rfl) (am_g1 g1779 rfl) (am_nd_f c1780) ?_
    refine am_r_go (show am_stepn X T_UpRiverModel_readReach 1 true (21, [(0, am_pv 65), (1, am_iv x1), (2, am_iv x2)], [], am_SH, (q1777, K, am_RF b)) = some (true, .inl (22, [(0, am_pv 65), (1, am_iv x1), (2, am_iv x2)], [am_iv 0], am_SH, (q1777, K, am_RF b))) from rfl) rfl ?_
    exact s_UpRiverModel_readReach_L22  _ _ _ _ _ h
theorem s_UpRiverModel_readPlace_L29 {X : am_X} {b : Bool} {K : am_K}  : ∀ (x1 : Int) (x2 : Int) (s0 : Int) (J : am_J) (r : Int × am_J), f_UpRiverModel_readPlace_L29    x1 x2 s0 J = some r → am_runs X T_UpRiverModel_readPlace (29, [(0, am_pv 65), (1, am_iv x1), (2, am_iv x2)], [am_iv s0], am_SH, (J, K, am_RF b)) (some (am_iv r.1), am_SH, (r.2, K, am_RF b)) := by
  intro x1 x2 s0 J r h
  unfold f_UpRiverModel_readPlace_L29 at h
  obtain ⟨q1781, e1782, h⟩ := am_bind_some h
  refine am_r_call (show am_stepn X T_UpRiverModel_readPlace 10 true (29, [(0, am_pv 65), (1, am_iv x1), (2, am_iv x2)], [am_iv s0], am_SH, (J, K, am_RF b)) = some (true, .inr (.inl (168, [am_pv 65, am_iv ((x1 + (9 * x2)) + s0)], 2, 0, 0, 42, [(0, am_pv 65), (1, am_iv x1), (2, am_iv x2), (3, am_iv s0)], [], am_SH, (J, K, am_RF b)))) from rfl) rfl tb_UpRiverModel_once (s_UpRiverModel_once e1782) ?_
  obtain ⟨q1783, e1784, h⟩ := am_bind_some h
  refine am_r_call (show am_stepn X T_UpRiverModel_readPlace 2 true (42, [(0, am_pv 65), (1, am_iv x1), (2, am_iv x2), (3, am_iv s0)], [], am_SH, (q1781, K, am_RF b)) = some (true, .inr (.inl (155, [am_pv 65], 2, 0, 0, 46, [(0, am_pv 65), (1, am_iv x1), (2, am_iv x2), (3, am_iv s0)], [], am_SH, (q1781, K, am_RF b)))) from rfl) rfl tb_UpRiverModel_next (s_UpRiverModel_next e1784) ?_
  obtain rfl := Option.some.inj h
  exact am_r_ret (show am_stepn X T_UpRiverModel_readPlace 6 true (46, [(0, am_pv 65), (1, am_iv x1), (2, am_iv x2), (3, am_iv s0)], [], am_SH, (q1783, K, am_RF b)) = some (true, .inr (.inr (some (am_iv ((9 * x2) + s0)), am_SH, (q1783, K, am_RF b)))) from rfl) rfl
theorem s_UpRiverModel_readPlace {X : am_X} {b : Bool} {K : am_K} {x1 : Int} {J : am_J} {r : Int × am_J} (h : f_UpRiverModel_readPlace  x1 J = some r) : am_runs X T_UpRiverModel_readPlace (0, [(0, am_pv 65), (1, am_iv x1)], [], am_SH, (J, K, am_RF b)) (some (am_iv r.1), am_SH, (r.2, K, am_RF b)) := by
  unfold f_UpRiverModel_readPlace at h
  obtain ⟨q1785, e1786, h⟩ := am_bind_some h
  refine am_r_call (show am_stepn X T_UpRiverModel_readPlace 4 true (0, [(0, am_pv 65), (1, am_iv x1)], [], am_SH, (J, K, am_RF b)) = some (true, .inr (.inl (167, [am_pv 65, am_iv 0, am_iv 0], 4, 0, 0, 6, [(0, am_pv 65), (1, am_iv x1)], [], am_SH, (J, K, am_RF b)))) from rfl) rfl tb_UpRiverModel_readReach (s_UpRiverModel_readReach e1786) ?_
  obtain ⟨q1787, e1788, h⟩ := am_bind_some h
  refine am_r_call (show am_stepn X T_UpRiverModel_readPlace 5 true (6, [(0, am_pv 65), (1, am_iv x1)], [am_iv q1785.1], am_SH, (q1785.2, K, am_RF b)) = some (true, .inr (.inl (166, [am_pv 65, am_iv 0, am_iv 8], 3, 0, 0, 14, [(0, am_pv 65), (1, am_iv x1), (2, am_iv q1785.1)], [], am_SH, (q1785.2, K, am_RF b)))) from rfl) rfl tb_UpRiverModel_isNumber (s_UpRiverModel_isNumber e1788) ?_
  obtain ⟨g1789, h⟩ := am_if_some h
  by_cases c1790 : (q1787 65 13) = 0
  · rw [if_pos c1790] at h
    refine am_r_f (show am_stepn X T_UpRiverModel_readPlace 3 true (14, [(0, am_pv 65), (1, am_iv x1), (2, am_iv q1785.1)], [], am_SH, (q1787, K, am_RF b)) = some ((decide (am_i32 (q1787 65 13)) && true), .inl (bif am_cb .ne (q1787 65 13) 0 then 28 else 21, [(0, am_pv 65), (1, am_iv x1), (2, am_iv q1785.1)], [], am_SH, (q1787, K, am_RF b))) from rfl) (am_g1 g1789 rfl) (am_nd_t c1790) ?_
    refine am_r_go (show am_stepn X T_UpRiverModel_readPlace 3 true (21, [(0, am_pv 65), (1, am_iv x1), (2, am_iv q1785.1)], [], am_SH, (q1787, K, am_RF b)) = some (true, .inl (29, [(0, am_pv 65), (1, am_iv x1), (2, am_iv q1785.1)], [am_iv (q1787 65 12)], am_SH, (q1787, K, am_RF b))) from rfl) rfl ?_
    exact s_UpRiverModel_readPlace_L29  _ _ _ _ _ h
  · rw [if_neg c1790] at h
    refine am_r_t (show am_stepn X T_UpRiverModel_readPlace 3 true (14, [(0, am_pv 65), (1, am_iv x1), (2, am_iv q1785.1)], [], am_SH, (q1787, K, am_RF b)) = some ((decide (am_i32 (q1787 65 13)) && true), .inl (bif am_cb .ne (q1787 65 13) 0 then 28 else 21, [(0, am_pv 65), (1, am_iv x1), (2, am_iv q1785.1)], [], am_SH, (q1787, K, am_RF b))) from rfl) (am_g1 g1789 rfl) (am_nd_f c1790) ?_
    refine am_r_go (show am_stepn X T_UpRiverModel_readPlace 1 true (28, [(0, am_pv 65), (1, am_iv x1), (2, am_iv q1785.1)], [], am_SH, (q1787, K, am_RF b)) = some (true, .inl (29, [(0, am_pv 65), (1, am_iv x1), (2, am_iv q1785.1)], [am_iv 0], am_SH, (q1787, K, am_RF b))) from rfl) rfl ?_
    exact s_UpRiverModel_readPlace_L29  _ _ _ _ _ h
theorem s_UpRiverModel_readLineOf_L83 {X : am_X} {b : Bool} {K : am_K} {kb41 : Int → Int → am_J → Option am_J} (hk41 : ∀ (x1 : Int) (x2 : Int) (J : am_J) (r : am_J), kb41 x1 x2 J = some r → am_runs X T_UpRiverModel_readLineOf (41, [(0, am_pv 65), (1, am_iv x1), (2, am_iv x2)], [], am_SH, (J, K, am_RF b)) (none, am_SH, (r, K, am_RF b))) : ∀ (x1 : Int) (x2 : Int) (s1 : Int) (s3 : Int) (s4 : Int) (J : am_J) (r : am_J), f_UpRiverModel_readLineOf_L83  kb41  x1 x2 s1 s3 s4 J = some r → am_runs X T_UpRiverModel_readLineOf (83, [(0, am_pv 65), (1, am_iv x1), (2, am_iv x2)], [am_iv s4, am_iv s3, am_pv 65, am_iv s1, am_pv 67], am_SH, (J, K, am_RF b)) (none, am_SH, (r, K, am_RF b)) := by
  intro x1 x2 s1 s3 s4 J r h
  unfold f_UpRiverModel_readLineOf_L83 at h
  obtain ⟨q1791, e1792, h⟩ := am_bind_some h
  refine am_r_call (show am_stepn X T_UpRiverModel_readLineOf 1 true (83, [(0, am_pv 65), (1, am_iv x1), (2, am_iv x2)], [am_iv s4, am_iv s3, am_pv 65, am_iv s1, am_pv 67], am_SH, (J, K, am_RF b)) = some (true, .inr (.inl (165, [am_pv 65, am_iv s3, am_iv s4], 4, 0, 0, 86, [(0, am_pv 65), (1, am_iv x1), (2, am_iv x2)], [am_iv s1, am_pv 67], am_SH, (J, K, am_RF b)))) from rfl) rfl tb_UpRiverModel_readNumber (s_UpRiverModel_readNumber e1792) ?_
  obtain ⟨g1793, h⟩ := am_if_some h
  refine am_r_go (show am_stepn X T_UpRiverModel_readLineOf 3 true (86, [(0, am_pv 65), (1, am_iv x1), (2, am_iv x2)], [am_iv q1791.1, am_iv s1, am_pv 67], am_SH, (q1791.2, K, am_RF b)) = some ((am_in s1 295 && true), .inl (41, [(0, am_pv 65), (1, am_iv x1), (2, am_iv (x2 + 1))], [], am_SH, ((am_up q1791.2 67 s1.toNat q1791.1), K, am_RF b))) from rfl) (am_gi g1793 rfl) ?_
  exact hk41 _ _ _ _ h
theorem s_UpRiverModel_readLineOf_L66 {X : am_X} {b : Bool} {K : am_K} {kb41 : Int → Int → am_J → Option am_J} (hk41 : ∀ (x1 : Int) (x2 : Int) (J : am_J) (r : am_J), kb41 x1 x2 J = some r → am_runs X T_UpRiverModel_readLineOf (41, [(0, am_pv 65), (1, am_iv x1), (2, am_iv x2)], [], am_SH, (J, K, am_RF b)) (none, am_SH, (r, K, am_RF b))) : ∀ (x1 : Int) (x2 : Int) (s1 : Int) (J : am_J) (r : am_J), f_UpRiverModel_readLineOf_L66  kb41  x1 x2 s1 J = some r → am_runs X T_UpRiverModel_readLineOf (66, [(0, am_pv 65), (1, am_iv x1), (2, am_iv x2)], [am_iv s1, am_pv 67], am_SH, (J, K, am_RF b)) (none, am_SH, (r, K, am_RF b)) := by
  intro x1 x2 s1 J r h
  unfold f_UpRiverModel_readLineOf_L66 at h
  obtain ⟨g1794, h⟩ := am_if_some h
  by_cases c1795 : x1 = 7
  · rw [if_pos c1795] at h
    refine am_r_f (show am_stepn X T_UpRiverModel_readLineOf 7 true (66, [(0, am_pv 65), (1, am_iv x1), (2, am_iv x2)], [am_iv s1, am_pv 67], am_SH, (J, K, am_RF b)) = some (((decide (am_i32 7) && decide (am_i32 x1)) && true), .inl (bif am_cb .ne x1 7 then 81 else 76, [(0, am_pv 65), (1, am_iv x1), (2, am_iv x2)], [am_iv 0, am_pv 65, am_iv (s1 + x2), am_pv 67], am_SH, (J, K, am_RF b))) from rfl) (am_g2 (by decide) g1794 rfl) (am_nd_t c1795) ?_
    refine am_r_go (show am_stepn X T_UpRiverModel_readLineOf 2 true (76, [(0, am_pv 65), (1, am_iv x1), (2, am_iv x2)], [am_iv 0, am_pv 65, am_iv (s1 + x2), am_pv 67], am_SH, (J, K, am_RF b)) = some (true, .inl (83, [(0, am_pv 65), (1, am_iv x1), (2, am_iv x2)], [am_iv 18, am_iv 0, am_pv 65, am_iv (s1 + x2), am_pv 67], am_SH, (J, K, am_RF b))) from rfl) rfl ?_
    exact s_UpRiverModel_readLineOf_L83 hk41 _ _ _ _ _ _ _ h
  · rw [if_neg c1795] at h
    refine am_r_t (show am_stepn X T_UpRiverModel_readLineOf 7 true (66, [(0, am_pv 65), (1, am_iv x1), (2, am_iv x2)], [am_iv s1, am_pv 67], am_SH, (J, K, am_RF b)) = some (((decide (am_i32 7) && decide (am_i32 x1)) && true), .inl (bif am_cb .ne x1 7 then 81 else 76, [(0, am_pv 65), (1, am_iv x1), (2, am_iv x2)], [am_iv 0, am_pv 65, am_iv (s1 + x2), am_pv 67], am_SH, (J, K, am_RF b))) from rfl) (am_g2 (by decide) g1794 rfl) (am_nd_f c1795) ?_
    refine am_r_go (show am_stepn X T_UpRiverModel_readLineOf 1 true (81, [(0, am_pv 65), (1, am_iv x1), (2, am_iv x2)], [am_iv 0, am_pv 65, am_iv (s1 + x2), am_pv 67], am_SH, (J, K, am_RF b)) = some (true, .inl (83, [(0, am_pv 65), (1, am_iv x1), (2, am_iv x2)], [am_iv 15, am_iv 0, am_pv 65, am_iv (s1 + x2), am_pv 67], am_SH, (J, K, am_RF b))) from rfl) rfl ?_
    exact s_UpRiverModel_readLineOf_L83 hk41 _ _ _ _ _ _ _ h
theorem s_UpRiverModel_readLineOf_L41 {X : am_X} {b : Bool} {K : am_K}  : ∀ (n : Nat) (x1 : Int) (x2 : Int) (J : am_J) (r : am_J), f_UpRiverModel_readLineOf_L41   n x1 x2 J = some r → am_runs X T_UpRiverModel_readLineOf (41, [(0, am_pv 65), (1, am_iv x1), (2, am_iv x2)], [], am_SH, (J, K, am_RF b)) (none, am_SH, (r, K, am_RF b)) := by
  intro n
  induction n with
  | zero =>
    intro x1 x2 J r h
    cases h
  | succ n ih =>
    intro x1 x2 J r h
    rw [f_UpRiverModel_readLineOf_L41.eq_2] at h
    obtain ⟨g1796, h⟩ := am_if_some h
    by_cases c1797 : x2 < 12
    · rw [if_pos c1797] at h
      refine am_r_f (show am_stepn X T_UpRiverModel_readLineOf 3 true (41, [(0, am_pv 65), (1, am_iv x1), (2, am_iv x2)], [], am_SH, (J, K, am_RF b)) = some (((decide (am_i32 12) && decide (am_i32 x2)) && true), .inl (bif am_cb .ge x2 12 then 93 else 47, [(0, am_pv 65), (1, am_iv x1), (2, am_iv x2)], [], am_SH, (J, K, am_RF b))) from rfl) (am_g2 (by decide) g1796 rfl) (am_nd_t c1797) ?_
      obtain ⟨g1798, h⟩ := am_if_some h
      by_cases c1799 : x1 = 7
      · rw [if_pos c1799] at h
        refine am_r_f (show am_stepn X T_UpRiverModel_readLineOf 5 true (47, [(0, am_pv 65), (1, am_iv x1), (2, am_iv x2)], [], am_SH, (J, K, am_RF b)) = some (((decide (am_i32 7) && decide (am_i32 x1)) && true), .inl (bif am_cb .ne x1 7 then 63 else 57, [(0, am_pv 65), (1, am_iv x1), (2, am_iv x2)], [am_pv 67], am_SH, (J, K, am_RF b))) from rfl) (am_g2 (by decide) g1798 rfl) (am_nd_t c1799) ?_
        refine am_r_go (show am_stepn X T_UpRiverModel_readLineOf 2 true (57, [(0, am_pv 65), (1, am_iv x1), (2, am_iv x2)], [am_pv 67], am_SH, (J, K, am_RF b)) = some (true, .inl (66, [(0, am_pv 65), (1, am_iv x1), (2, am_iv x2)], [am_iv 271, am_pv 67], am_SH, (J, K, am_RF b))) from rfl) rfl ?_
        exact s_UpRiverModel_readLineOf_L66 ih _ _ _ _ _ h
      · rw [if_neg c1799] at h
        refine am_r_t (show am_stepn X T_UpRiverModel_readLineOf 5 true (47, [(0, am_pv 65), (1, am_iv x1), (2, am_iv x2)], [], am_SH, (J, K, am_RF b)) = some (((decide (am_i32 7) && decide (am_i32 x1)) && true), .inl (bif am_cb .ne x1 7 then 63 else 57, [(0, am_pv 65), (1, am_iv x1), (2, am_iv x2)], [am_pv 67], am_SH, (J, K, am_RF b))) from rfl) (am_g2 (by decide) g1798 rfl) (am_nd_f c1799) ?_
        refine am_r_go (show am_stepn X T_UpRiverModel_readLineOf 1 true (63, [(0, am_pv 65), (1, am_iv x1), (2, am_iv x2)], [am_pv 67], am_SH, (J, K, am_RF b)) = some (true, .inl (66, [(0, am_pv 65), (1, am_iv x1), (2, am_iv x2)], [am_iv 283, am_pv 67], am_SH, (J, K, am_RF b))) from rfl) rfl ?_
        exact s_UpRiverModel_readLineOf_L66 ih _ _ _ _ _ h
    · rw [if_neg c1797] at h
      refine am_r_t (show am_stepn X T_UpRiverModel_readLineOf 3 true (41, [(0, am_pv 65), (1, am_iv x1), (2, am_iv x2)], [], am_SH, (J, K, am_RF b)) = some (((decide (am_i32 12) && decide (am_i32 x2)) && true), .inl (bif am_cb .ge x2 12 then 93 else 47, [(0, am_pv 65), (1, am_iv x1), (2, am_iv x2)], [], am_SH, (J, K, am_RF b))) from rfl) (am_g2 (by decide) g1796 rfl) (am_nd_f c1797) ?_
      obtain rfl := Option.some.inj h
      exact am_r_ret (show am_stepn X T_UpRiverModel_readLineOf 2 true (93, [(0, am_pv 65), (1, am_iv x1), (2, am_iv x2)], [], am_SH, (J, K, am_RF b)) = some (true, .inr (.inr (none, am_SH, (J, K, am_RF b)))) from rfl) rfl
theorem s_UpRiverModel_readLineOf {X : am_X} {b : Bool} {K : am_K} {x1 : Int} {J : am_J} {r : am_J} (h : f_UpRiverModel_readLineOf  x1 J = some r) : am_runs X T_UpRiverModel_readLineOf (0, [(0, am_pv 65), (1, am_iv x1)], [], am_SH, (J, K, am_RF b)) (none, am_SH, (r, K, am_RF b)) := by
  unfold f_UpRiverModel_readLineOf at h
  obtain ⟨g1800, h⟩ := am_if_some h
  by_cases c1801 : x1 < 7
  · rw [if_pos c1801] at h
    refine am_r_f (show am_stepn X T_UpRiverModel_readLineOf 3 true (0, [(0, am_pv 65), (1, am_iv x1)], [], am_SH, (J, K, am_RF b)) = some (((decide (am_i32 7) && decide (am_i32 x1)) && true), .inl (bif am_cb .ge x1 7 then 27 else 6, [(0, am_pv 65), (1, am_iv x1)], [], am_SH, (J, K, am_RF b))) from rfl) (am_g2 (by decide) g1800 rfl) (am_nd_t c1801) ?_
    obtain ⟨q1802, e1803, h⟩ := am_bind_some h
    refine am_r_call (show am_stepn X T_UpRiverModel_readLineOf 6 true (6, [(0, am_pv 65), (1, am_iv x1)], [], am_SH, (J, K, am_RF b)) = some (true, .inr (.inl (163, [am_iv x1], 1, 0, 0, 16, [(0, am_pv 65), (1, am_iv x1)], [am_pv 65, am_iv x1, am_pv 67], am_SH, (J, K, am_RF b)))) from rfl) rfl tb_UpRiverModel_lowest (s_UpRiverModel_lowest e1803) ?_
    obtain ⟨q1804, e1805, h⟩ := am_bind_some h
    refine am_r_call (show am_stepn X T_UpRiverModel_readLineOf 2 true (16, [(0, am_pv 65), (1, am_iv x1)], [am_iv q1802, am_pv 65, am_iv x1, am_pv 67], am_SH, (J, K, am_RF b)) = some (true, .inr (.inl (164, [am_iv x1], 1, 0, 0, 20, [(0, am_pv 65), (1, am_iv x1)], [am_iv q1802, am_pv 65, am_iv x1, am_pv 67], am_SH, (J, K, am_RF b)))) from rfl) rfl tb_UpRiverModel_highest (s_UpRiverModel_highest e1805) ?_
    obtain ⟨q1806, e1807, h⟩ := am_bind_some h
    refine am_r_call (show am_stepn X T_UpRiverModel_readLineOf 1 true (20, [(0, am_pv 65), (1, am_iv x1)], [am_iv q1804, am_iv q1802, am_pv 65, am_iv x1, am_pv 67], am_SH, (J, K, am_RF b)) = some (true, .inr (.inl (165, [am_pv 65, am_iv q1802, am_iv q1804], 4, 0, 0, 23, [(0, am_pv 65), (1, am_iv x1)], [am_iv x1, am_pv 67], am_SH, (J, K, am_RF b)))) from rfl) rfl tb_UpRiverModel_readNumber (s_UpRiverModel_readNumber e1807) ?_
    obtain ⟨g1808, h⟩ := am_if_some h
    obtain rfl := Option.some.inj h
    exact am_r_ret (show am_stepn X T_UpRiverModel_readLineOf 3 true (23, [(0, am_pv 65), (1, am_iv x1)], [am_iv q1806.1, am_iv x1, am_pv 67], am_SH, (q1806.2, K, am_RF b)) = some ((am_in x1 295 && true), .inr (.inr (none, am_SH, ((am_up q1806.2 67 x1.toNat q1806.1), K, am_RF b)))) from rfl) (am_gi g1808 rfl)
  · rw [if_neg c1801] at h
    refine am_r_t (show am_stepn X T_UpRiverModel_readLineOf 3 true (0, [(0, am_pv 65), (1, am_iv x1)], [], am_SH, (J, K, am_RF b)) = some (((decide (am_i32 7) && decide (am_i32 x1)) && true), .inl (bif am_cb .ge x1 7 then 27 else 6, [(0, am_pv 65), (1, am_iv x1)], [], am_SH, (J, K, am_RF b))) from rfl) (am_g2 (by decide) g1800 rfl) (am_nd_f c1801) ?_
    by_cases c1809 : x1 = 7
    · rw [if_pos c1809] at h
      refine am_r_t (show am_stepn X T_UpRiverModel_readLineOf 3 true (27, [(0, am_pv 65), (1, am_iv x1)], [], am_SH, (J, K, am_RF b)) = some (((decide (am_i32 7) && decide (am_i32 x1)) && true), .inl (bif am_cb .eq x1 7 then 39 else 33, [(0, am_pv 65), (1, am_iv x1)], [], am_SH, (J, K, am_RF b))) from rfl) (am_g2 (by decide) g1800 rfl) (decide_eq_true c1809) ?_
      refine am_r_go (show am_stepn X T_UpRiverModel_readLineOf 2 true (39, [(0, am_pv 65), (1, am_iv x1)], [], am_SH, (J, K, am_RF b)) = some (true, .inl (41, [(0, am_pv 65), (1, am_iv x1), (2, am_iv 0)], [], am_SH, (J, K, am_RF b))) from rfl) rfl ?_
      exact s_UpRiverModel_readLineOf_L41  _ _ _ _ _ h
    · rw [if_neg c1809] at h
      refine am_r_f (show am_stepn X T_UpRiverModel_readLineOf 3 true (27, [(0, am_pv 65), (1, am_iv x1)], [], am_SH, (J, K, am_RF b)) = some (((decide (am_i32 7) && decide (am_i32 x1)) && true), .inl (bif am_cb .eq x1 7 then 39 else 33, [(0, am_pv 65), (1, am_iv x1)], [], am_SH, (J, K, am_RF b))) from rfl) (am_g2 (by decide) g1800 rfl) (decide_eq_false c1809) ?_
      by_cases c1810 : x1 = 8
      · rw [if_pos c1810] at h
        refine am_r_f (show am_stepn X T_UpRiverModel_readLineOf 3 true (33, [(0, am_pv 65), (1, am_iv x1)], [], am_SH, (J, K, am_RF b)) = some (((decide (am_i32 8) && decide (am_i32 x1)) && true), .inl (bif am_cb .ne x1 8 then 96 else 39, [(0, am_pv 65), (1, am_iv x1)], [], am_SH, (J, K, am_RF b))) from rfl) (am_g2 (by decide) g1800 rfl) (am_nd_t c1810) ?_
        refine am_r_go (show am_stepn X T_UpRiverModel_readLineOf 2 true (39, [(0, am_pv 65), (1, am_iv x1)], [], am_SH, (J, K, am_RF b)) = some (true, .inl (41, [(0, am_pv 65), (1, am_iv x1), (2, am_iv 0)], [], am_SH, (J, K, am_RF b))) from rfl) rfl ?_
        exact s_UpRiverModel_readLineOf_L41  _ _ _ _ _ h
      · rw [if_neg c1810] at h
        refine am_r_t (show am_stepn X T_UpRiverModel_readLineOf 3 true (33, [(0, am_pv 65), (1, am_iv x1)], [], am_SH, (J, K, am_RF b)) = some (((decide (am_i32 8) && decide (am_i32 x1)) && true), .inl (bif am_cb .ne x1 8 then 96 else 39, [(0, am_pv 65), (1, am_iv x1)], [], am_SH, (J, K, am_RF b))) from rfl) (am_g2 (by decide) g1800 rfl) (am_nd_f c1810) ?_
        by_cases c1811 : x1 = 10
        · rw [if_pos c1811] at h
          refine am_r_f (show am_stepn X T_UpRiverModel_readLineOf 3 true (96, [(0, am_pv 65), (1, am_iv x1)], [], am_SH, (J, K, am_RF b)) = some (((decide (am_i32 10) && decide (am_i32 x1)) && true), .inl (bif am_cb .ne x1 10 then 152 else 102, [(0, am_pv 65), (1, am_iv x1)], [], am_SH, (J, K, am_RF b))) from rfl) (am_g2 (by decide) g1800 rfl) (am_nd_t c1811) ?_
          obtain ⟨q1812, e1813, h⟩ := am_bind_some h
          refine am_r_call (show am_stepn X T_UpRiverModel_readLineOf 4 true (102, [(0, am_pv 65), (1, am_iv x1)], [], am_SH, (J, K, am_RF b)) = some (true, .inr (.inl (167, [am_pv 65, am_iv 1, am_iv 0], 4, 0, 0, 108, [(0, am_pv 65)], [], am_SH, (J, K, am_RF b)))) from rfl) rfl tb_UpRiverModel_readReach (s_UpRiverModel_readReach e1813) ?_
          obtain ⟨q1814, e1815, h⟩ := am_bind_some h
          refine am_r_call (show am_stepn X T_UpRiverModel_readLineOf 10 true (108, [(0, am_pv 65)], [am_iv q1812.1], am_SH, (q1812.2, K, am_RF b)) = some (true, .inr (.inl (165, [am_pv 65, am_iv 0, am_iv 8], 4, 0, 0, 124, [(0, am_pv 65), (2, am_iv q1812.1)], [am_iv (7 + q1812.1), am_pv 67], am_SH, (q1812.2, K, am_RF b)))) from rfl) rfl tb_UpRiverModel_readNumber (s_UpRiverModel_readNumber e1815) ?_
          obtain ⟨g1816, h⟩ := am_if_some h
          obtain ⟨q1817, e1818, h⟩ := am_bind_some h
          refine am_r_call (show am_stepn X T_UpRiverModel_readLineOf 15 true (124, [(0, am_pv 65), (2, am_iv q1812.1)], [am_iv q1814.1, am_iv (7 + q1812.1), am_pv 67], am_SH, (q1814.2, K, am_RF b)) = some ((am_in (7 + q1812.1) 295 && (am_in (7 + q1812.1) 295 && true)), .inr (.inl (165, [am_pv 65, am_iv ((am_up q1814.2 67 ((7 + q1812.1).toNat) q1814.1) 67 ((7 + q1812.1).toNat)), am_iv 8], 4, 0, 0, 148, [(0, am_pv 65), (2, am_iv q1812.1)], [am_iv (19 + q1812.1), am_pv 67], am_SH, ((am_up q1814.2 67 ((7 + q1812.1).toNat) q1814.1), K, am_RF b)))) from rfl) (am_gi g1816 (am_gi g1816 rfl)) tb_UpRiverModel_readNumber (s_UpRiverModel_readNumber e1818) ?_
          obtain ⟨g1819, h⟩ := am_if_some h
          obtain rfl := Option.some.inj h
          exact am_r_ret (show am_stepn X T_UpRiverModel_readLineOf 3 true (148, [(0, am_pv 65), (2, am_iv q1812.1)], [am_iv q1817.1, am_iv (19 + q1812.1), am_pv 67], am_SH, (q1817.2, K, am_RF b)) = some ((am_in (19 + q1812.1) 295 && true), .inr (.inr (none, am_SH, ((am_up q1817.2 67 ((19 + q1812.1).toNat) q1817.1), K, am_RF b)))) from rfl) (am_gi g1819 rfl)
        · rw [if_neg c1811] at h
          refine am_r_t (show am_stepn X T_UpRiverModel_readLineOf 3 true (96, [(0, am_pv 65), (1, am_iv x1)], [], am_SH, (J, K, am_RF b)) = some (((decide (am_i32 10) && decide (am_i32 x1)) && true), .inl (bif am_cb .ne x1 10 then 152 else 102, [(0, am_pv 65), (1, am_iv x1)], [], am_SH, (J, K, am_RF b))) from rfl) (am_g2 (by decide) g1800 rfl) (am_nd_f c1811) ?_
          by_cases c1820 : x1 = 11
          · rw [if_pos c1820] at h
            refine am_r_f (show am_stepn X T_UpRiverModel_readLineOf 3 true (152, [(0, am_pv 65), (1, am_iv x1)], [], am_SH, (J, K, am_RF b)) = some (((decide (am_i32 11) && decide (am_i32 x1)) && true), .inl (bif am_cb .ne x1 11 then 177 else 158, [(0, am_pv 65), (1, am_iv x1)], [], am_SH, (J, K, am_RF b))) from rfl) (am_g2 (by decide) g1800 rfl) (am_nd_t c1820) ?_
            obtain ⟨q1821, e1822, h⟩ := am_bind_some h
            refine am_r_call (show am_stepn X T_UpRiverModel_readLineOf 7 true (158, [(0, am_pv 65), (1, am_iv x1)], [], am_SH, (J, K, am_RF b)) = some (true, .inr (.inl (167, [am_pv 65, am_iv 1, am_iv 12], 4, 0, 0, 171, [(0, am_pv 65)], [am_iv 31, am_pv 67], am_SH, (J, K, am_RF b)))) from rfl) rfl tb_UpRiverModel_readReach (s_UpRiverModel_readReach e1822) ?_
            obtain ⟨g1823, h⟩ := am_if_some h
            obtain rfl := Option.some.inj h
            exact am_r_ret (show am_stepn X T_UpRiverModel_readLineOf 5 true (171, [(0, am_pv 65)], [am_iv q1821.1, am_iv 31, am_pv 67], am_SH, (q1821.2, K, am_RF b)) = some ((am_in (31 + q1821.1) 295 && true), .inr (.inr (none, am_SH, ((am_up q1821.2 67 ((31 + q1821.1).toNat) 1), K, am_RF b)))) from rfl) (am_gi g1823 rfl)
          · rw [if_neg c1820] at h
            refine am_r_t (show am_stepn X T_UpRiverModel_readLineOf 3 true (152, [(0, am_pv 65), (1, am_iv x1)], [], am_SH, (J, K, am_RF b)) = some (((decide (am_i32 11) && decide (am_i32 x1)) && true), .inl (bif am_cb .ne x1 11 then 177 else 158, [(0, am_pv 65), (1, am_iv x1)], [], am_SH, (J, K, am_RF b))) from rfl) (am_g2 (by decide) g1800 rfl) (am_nd_f c1820) ?_
            by_cases c1824 : x1 = 12
            · rw [if_pos c1824] at h
              refine am_r_f (show am_stepn X T_UpRiverModel_readLineOf 3 true (177, [(0, am_pv 65), (1, am_iv x1)], [], am_SH, (J, K, am_RF b)) = some (((decide (am_i32 12) && decide (am_i32 x1)) && true), .inl (bif am_cb .ne x1 12 then 209 else 183, [(0, am_pv 65), (1, am_iv x1)], [], am_SH, (J, K, am_RF b))) from rfl) (am_g2 (by decide) g1800 rfl) (am_nd_t c1824) ?_
              obtain ⟨q1825, e1826, h⟩ := am_bind_some h
              refine am_r_call (show am_stepn X T_UpRiverModel_readLineOf 4 true (183, [(0, am_pv 65), (1, am_iv x1)], [], am_SH, (J, K, am_RF b)) = some (true, .inr (.inl (167, [am_pv 65, am_iv 1, am_iv 24], 4, 0, 0, 190, [(0, am_pv 65)], [], am_SH, (J, K, am_RF b)))) from rfl) rfl tb_UpRiverModel_readReach (s_UpRiverModel_readReach e1826) ?_
              obtain ⟨q1827, e1828, h⟩ := am_bind_some h
              refine am_r_call (show am_stepn X T_UpRiverModel_readLineOf 10 true (190, [(0, am_pv 65)], [am_iv q1825.1], am_SH, (q1825.2, K, am_RF b)) = some (true, .inr (.inl (165, [am_pv 65, am_iv 0, am_iv 2], 4, 0, 0, 205, [(0, am_pv 65), (2, am_iv q1825.1)], [am_iv (43 + q1825.1), am_pv 67], am_SH, (q1825.2, K, am_RF b)))) from rfl) rfl tb_UpRiverModel_readNumber (s_UpRiverModel_readNumber e1828) ?_
              obtain ⟨g1829, h⟩ := am_if_some h
              obtain rfl := Option.some.inj h
              exact am_r_ret (show am_stepn X T_UpRiverModel_readLineOf 3 true (205, [(0, am_pv 65), (2, am_iv q1825.1)], [am_iv q1827.1, am_iv (43 + q1825.1), am_pv 67], am_SH, (q1827.2, K, am_RF b)) = some ((am_in (43 + q1825.1) 295 && true), .inr (.inr (none, am_SH, ((am_up q1827.2 67 ((43 + q1825.1).toNat) q1827.1), K, am_RF b)))) from rfl) (am_gi g1829 rfl)
            · rw [if_neg c1824] at h
              refine am_r_t (show am_stepn X T_UpRiverModel_readLineOf 3 true (177, [(0, am_pv 65), (1, am_iv x1)], [], am_SH, (J, K, am_RF b)) = some (((decide (am_i32 12) && decide (am_i32 x1)) && true), .inl (bif am_cb .ne x1 12 then 209 else 183, [(0, am_pv 65), (1, am_iv x1)], [], am_SH, (J, K, am_RF b))) from rfl) (am_g2 (by decide) g1800 rfl) (am_nd_f c1824) ?_
              by_cases c1830 : x1 = 13
              · rw [if_pos c1830] at h
                refine am_r_f (show am_stepn X T_UpRiverModel_readLineOf 3 true (209, [(0, am_pv 65), (1, am_iv x1)], [], am_SH, (J, K, am_RF b)) = some (((decide (am_i32 13) && decide (am_i32 x1)) && true), .inl (bif am_cb .ne x1 13 then 241 else 215, [(0, am_pv 65), (1, am_iv x1)], [], am_SH, (J, K, am_RF b))) from rfl) (am_g2 (by decide) g1800 rfl) (am_nd_t c1830) ?_
                obtain ⟨q1831, e1832, h⟩ := am_bind_some h
                refine am_r_call (show am_stepn X T_UpRiverModel_readLineOf 3 true (215, [(0, am_pv 65), (1, am_iv x1)], [], am_SH, (J, K, am_RF b)) = some (true, .inr (.inl (169, [am_pv 65, am_iv 36], 4, 0, 0, 221, [(0, am_pv 65)], [], am_SH, (J, K, am_RF b)))) from rfl) rfl tb_UpRiverModel_readPlace (s_UpRiverModel_readPlace e1832) ?_
                obtain ⟨q1833, e1834, h⟩ := am_bind_some h
                refine am_r_call (show am_stepn X T_UpRiverModel_readLineOf 10 true (221, [(0, am_pv 65)], [am_iv q1831.1], am_SH, (q1831.2, K, am_RF b)) = some (true, .inr (.inl (165, [am_pv 65, am_iv 0, am_iv 30], 4, 0, 0, 237, [(0, am_pv 65), (2, am_iv q1831.1)], [am_iv (55 + q1831.1), am_pv 67], am_SH, (q1831.2, K, am_RF b)))) from rfl) rfl tb_UpRiverModel_readNumber (s_UpRiverModel_readNumber e1834) ?_
                obtain ⟨g1835, h⟩ := am_if_some h
                obtain rfl := Option.some.inj h
                exact am_r_ret (show am_stepn X T_UpRiverModel_readLineOf 3 true (237, [(0, am_pv 65), (2, am_iv q1831.1)], [am_iv q1833.1, am_iv (55 + q1831.1), am_pv 67], am_SH, (q1833.2, K, am_RF b)) = some ((am_in (55 + q1831.1) 295 && true), .inr (.inr (none, am_SH, ((am_up q1833.2 67 ((55 + q1831.1).toNat) q1833.1), K, am_RF b)))) from rfl) (am_gi g1835 rfl)
              · rw [if_neg c1830] at h
                refine am_r_t (show am_stepn X T_UpRiverModel_readLineOf 3 true (209, [(0, am_pv 65), (1, am_iv x1)], [], am_SH, (J, K, am_RF b)) = some (((decide (am_i32 13) && decide (am_i32 x1)) && true), .inl (bif am_cb .ne x1 13 then 241 else 215, [(0, am_pv 65), (1, am_iv x1)], [], am_SH, (J, K, am_RF b))) from rfl) (am_g2 (by decide) g1800 rfl) (am_nd_f c1830) ?_
                obtain ⟨q1836, e1837, h⟩ := am_bind_some h
                refine am_r_call (show am_stepn X T_UpRiverModel_readLineOf 6 true (241, [(0, am_pv 65), (1, am_iv x1)], [], am_SH, (J, K, am_RF b)) = some (true, .inr (.inl (169, [am_pv 65, am_iv 144], 4, 0, 0, 255, [(0, am_pv 65)], [am_iv 163, am_pv 67], am_SH, (J, K, am_RF b)))) from rfl) rfl tb_UpRiverModel_readPlace (s_UpRiverModel_readPlace e1837) ?_
                obtain ⟨g1838, h⟩ := am_if_some h
                obtain rfl := Option.some.inj h
                exact am_r_ret (show am_stepn X T_UpRiverModel_readLineOf 4 true (255, [(0, am_pv 65)], [am_iv q1836.1, am_iv 163, am_pv 67], am_SH, (q1836.2, K, am_RF b)) = some ((am_in (163 + q1836.1) 295 && true), .inr (.inr (none, am_SH, ((am_up q1836.2 67 ((163 + q1836.1).toNat) 1), K, am_RF b)))) from rfl) (am_gi g1838 rfl)
theorem s_UpRiverModel_readLine_L122 {X : am_X} {b : Bool} {K : am_K}  : ∀ (J : am_J) (r : am_J), f_UpRiverModel_readLine_L122    J = some r → am_runs X T_UpRiverModel_readLine (122, [(0, am_pv 65)], [], am_SH, (J, K, am_RF b)) (none, am_SH, (r, K, am_RF b)) := by
  intro J r h
  unfold f_UpRiverModel_readLine_L122 at h
  obtain ⟨q1839, e1840, h⟩ := am_bind_some h
  refine am_r_call (show am_stepn X T_UpRiverModel_readLine 2 true (122, [(0, am_pv 65)], [], am_SH, (J, K, am_RF b)) = some (true, .inr (.inl (155, [am_pv 65], 2, 0, 0, 126, [(0, am_pv 65)], [], am_SH, (J, K, am_RF b)))) from rfl) rfl tb_UpRiverModel_next (s_UpRiverModel_next e1840) ?_
  obtain rfl := Option.some.inj h
  exact am_r_ret (show am_stepn X T_UpRiverModel_readLine 1 true (126, [(0, am_pv 65)], [], am_SH, (q1839, K, am_RF b)) = some (true, .inr (.inr (none, am_SH, (q1839, K, am_RF b)))) from rfl) rfl
theorem s_UpRiverModel_readLine_L118 {X : am_X} {b : Bool} {K : am_K}  : ∀ (s1 : Int) (J : am_J) (r : am_J), f_UpRiverModel_readLine_L118    s1 J = some r → am_runs X T_UpRiverModel_readLine (118, [(0, am_pv 65)], [am_iv s1, am_pv 65], am_SH, (J, K, am_RF b)) (none, am_SH, (r, K, am_RF b)) := by
  intro s1 J r h
  unfold f_UpRiverModel_readLine_L118 at h
  obtain ⟨q1841, e1842, h⟩ := am_bind_some h
  refine am_r_call (show am_stepn X T_UpRiverModel_readLine 2 true (118, [(0, am_pv 65)], [am_iv s1, am_pv 65], am_SH, (J, K, am_RF b)) = some (true, .inr (.inl (157, [am_pv 65, am_iv s1, am_iv 2], 3, 0, 0, 122, [(0, am_pv 65)], [], am_SH, (J, K, am_RF b)))) from rfl) rfl tb_UpRiverModel_needs (s_UpRiverModel_needs e1842) ?_
  exact s_UpRiverModel_readLine_L122  _ _ h
theorem s_UpRiverModel_readLine_L80 {X : am_X} {b : Bool} {K : am_K}  : ∀ (x1 : Int) (J : am_J) (r : am_J), f_UpRiverModel_readLine_L80    x1 J = some r → am_runs X T_UpRiverModel_readLine (80, [(0, am_pv 65), (1, am_iv x1)], [], am_SH, (J, K, am_RF b)) (none, am_SH, (r, K, am_RF b)) := by
  intro x1 J r h
  unfold f_UpRiverModel_readLine_L80 at h
  obtain ⟨q1843, e1844, h⟩ := am_bind_some h
  refine am_r_call (show am_stepn X T_UpRiverModel_readLine 2 true (80, [(0, am_pv 65), (1, am_iv x1)], [], am_SH, (J, K, am_RF b)) = some (true, .inr (.inl (155, [am_pv 65], 2, 0, 0, 84, [(0, am_pv 65), (1, am_iv x1)], [], am_SH, (J, K, am_RF b)))) from rfl) rfl tb_UpRiverModel_next (s_UpRiverModel_next e1844) ?_
  obtain ⟨g1845, h⟩ := am_if_some h
  by_cases c1846 : 0 < (q1843 65 13)
  · rw [if_pos c1846] at h
    refine am_r_f (show am_stepn X T_UpRiverModel_readLine 3 true (84, [(0, am_pv 65), (1, am_iv x1)], [], am_SH, (q1843, K, am_RF b)) = some ((decide (am_i32 (q1843 65 13)) && true), .inl (bif am_cb .le (q1843 65 13) 0 then 92 else 91, [(0, am_pv 65), (1, am_iv x1)], [], am_SH, (q1843, K, am_RF b))) from rfl) (am_g1 g1845 rfl) (am_nd_t c1846) ?_
    obtain rfl := Option.some.inj h
    exact am_r_ret (show am_stepn X T_UpRiverModel_readLine 1 true (91, [(0, am_pv 65), (1, am_iv x1)], [], am_SH, (q1843, K, am_RF b)) = some (true, .inr (.inr (none, am_SH, (q1843, K, am_RF b)))) from rfl) rfl
  · rw [if_neg c1846] at h
    refine am_r_t (show am_stepn X T_UpRiverModel_readLine 3 true (84, [(0, am_pv 65), (1, am_iv x1)], [], am_SH, (q1843, K, am_RF b)) = some ((decide (am_i32 (q1843 65 13)) && true), .inl (bif am_cb .le (q1843 65 13) 0 then 92 else 91, [(0, am_pv 65), (1, am_iv x1)], [], am_SH, (q1843, K, am_RF b))) from rfl) (am_g1 g1845 rfl) (am_nd_f c1846) ?_
    obtain ⟨q1847, e1848, h⟩ := am_bind_some h
    refine am_r_call (show am_stepn X T_UpRiverModel_readLine 3 true (92, [(0, am_pv 65), (1, am_iv x1)], [], am_SH, (q1843, K, am_RF b)) = some (true, .inr (.inl (162, [am_pv 65, am_iv x1], 3, 0, 0, 97, [(0, am_pv 65), (1, am_iv x1)], [], am_SH, (q1843, K, am_RF b)))) from rfl) rfl tb_UpRiverModel_readLineOf (s_UpRiverModel_readLineOf e1848) ?_
    obtain ⟨g1849, h⟩ := am_if_some h
    by_cases c1850 : (q1847 65 13) = 0
    · rw [if_pos c1850] at h
      refine am_r_f (show am_stepn X T_UpRiverModel_readLine 3 true (97, [(0, am_pv 65), (1, am_iv x1)], [], am_SH, (q1847, K, am_RF b)) = some ((decide (am_i32 (q1847 65 13)) && true), .inl (bif am_cb .ne (q1847 65 13) 0 then 122 else 104, [(0, am_pv 65), (1, am_iv x1)], [], am_SH, (q1847, K, am_RF b))) from rfl) (am_g1 g1849 rfl) (am_nd_t c1850) ?_
      obtain ⟨g1851, h⟩ := am_if_some h
      by_cases c1852 : (q1847 65 11) = 3
      · rw [if_pos c1852] at h
        refine am_r_f (show am_stepn X T_UpRiverModel_readLine 5 true (104, [(0, am_pv 65), (1, am_iv x1)], [], am_SH, (q1847, K, am_RF b)) = some (((decide (am_i32 3) && decide (am_i32 (q1847 65 11))) && true), .inl (bif am_cb .ne (q1847 65 11) 3 then 117 else 113, [(0, am_pv 65)], [am_pv 65], am_SH, (q1847, K, am_RF b))) from rfl) (am_g2 (by decide) g1851 rfl) (am_nd_t c1852) ?_
        refine am_r_go (show am_stepn X T_UpRiverModel_readLine 2 true (113, [(0, am_pv 65)], [am_pv 65], am_SH, (q1847, K, am_RF b)) = some (true, .inl (118, [(0, am_pv 65)], [am_iv 1, am_pv 65], am_SH, (q1847, K, am_RF b))) from rfl) rfl ?_
        exact s_UpRiverModel_readLine_L118  _ _ _ h
      · rw [if_neg c1852] at h
        refine am_r_t (show am_stepn X T_UpRiverModel_readLine 5 true (104, [(0, am_pv 65), (1, am_iv x1)], [], am_SH, (q1847, K, am_RF b)) = some (((decide (am_i32 3) && decide (am_i32 (q1847 65 11))) && true), .inl (bif am_cb .ne (q1847 65 11) 3 then 117 else 113, [(0, am_pv 65)], [am_pv 65], am_SH, (q1847, K, am_RF b))) from rfl) (am_g2 (by decide) g1851 rfl) (am_nd_f c1852) ?_
        refine am_r_go (show am_stepn X T_UpRiverModel_readLine 1 true (117, [(0, am_pv 65)], [am_pv 65], am_SH, (q1847, K, am_RF b)) = some (true, .inl (118, [(0, am_pv 65)], [am_iv 0, am_pv 65], am_SH, (q1847, K, am_RF b))) from rfl) rfl ?_
        exact s_UpRiverModel_readLine_L118  _ _ _ h
    · rw [if_neg c1850] at h
      refine am_r_t (show am_stepn X T_UpRiverModel_readLine 3 true (97, [(0, am_pv 65), (1, am_iv x1)], [], am_SH, (q1847, K, am_RF b)) = some ((decide (am_i32 (q1847 65 13)) && true), .inl (bif am_cb .ne (q1847 65 13) 0 then 122 else 104, [(0, am_pv 65), (1, am_iv x1)], [], am_SH, (q1847, K, am_RF b))) from rfl) (am_g1 g1849 rfl) (am_nd_f c1850) ?_
      refine am_r_eq (σ' := (122, [(0, am_pv 65)], [], am_SH, (q1847, K, am_RF b))) rfl ?_
      exact s_UpRiverModel_readLine_L122  _ _ h
theorem s_UpRiverModel_readLine_L64 {X : am_X} {b : Bool} {K : am_K}  : ∀ (x1 : Int) (s1 : Int) (J : am_J) (r : am_J), f_UpRiverModel_readLine_L64    x1 s1 J = some r → am_runs X T_UpRiverModel_readLine (64, [(0, am_pv 65), (1, am_iv x1)], [am_iv s1, am_pv 65], am_SH, (J, K, am_RF b)) (none, am_SH, (r, K, am_RF b)) := by
  intro x1 s1 J r h
  unfold f_UpRiverModel_readLine_L64 at h
  obtain ⟨q1853, e1854, h⟩ := am_bind_some h
  refine am_r_call (show am_stepn X T_UpRiverModel_readLine 2 true (64, [(0, am_pv 65), (1, am_iv x1)], [am_iv s1, am_pv 65], am_SH, (J, K, am_RF b)) = some (true, .inr (.inl (157, [am_pv 65, am_iv s1, am_iv 4], 3, 0, 0, 68, [(0, am_pv 65), (1, am_iv x1)], [], am_SH, (J, K, am_RF b)))) from rfl) rfl tb_UpRiverModel_needs (s_UpRiverModel_needs e1854) ?_
  refine am_r_go (show am_stepn X T_UpRiverModel_readLine 8 true (68, [(0, am_pv 65), (1, am_iv x1)], [], am_SH, (q1853, K, am_RF b)) = some (true, .inl (80, [(0, am_pv 65), (1, am_iv x1)], [], am_SH, ((am_up q1853 65 5 (am_or (q1853 65 5) (am_shl 1 x1))), K, am_RF b))) from rfl) rfl ?_
  exact s_UpRiverModel_readLine_L80  _ _ _ h
theorem s_UpRiverModel_readLine_L30 {X : am_X} {b : Bool} {K : am_K}  : ∀ (x1 : Int) (s1 : Int) (J : am_J) (r : am_J), f_UpRiverModel_readLine_L30    x1 s1 J = some r → am_runs X T_UpRiverModel_readLine (30, [(0, am_pv 65), (1, am_iv x1)], [am_iv s1, am_pv 65], am_SH, (J, K, am_RF b)) (none, am_SH, (r, K, am_RF b)) := by
  intro x1 s1 J r h
  unfold f_UpRiverModel_readLine_L30 at h
  obtain ⟨q1855, e1856, h⟩ := am_bind_some h
  refine am_r_call (show am_stepn X T_UpRiverModel_readLine 2 true (30, [(0, am_pv 65), (1, am_iv x1)], [am_iv s1, am_pv 65], am_SH, (J, K, am_RF b)) = some (true, .inr (.inl (157, [am_pv 65, am_iv s1, am_iv 2], 3, 0, 0, 34, [(0, am_pv 65), (1, am_iv x1)], [], am_SH, (J, K, am_RF b)))) from rfl) rfl tb_UpRiverModel_needs (s_UpRiverModel_needs e1856) ?_
  obtain ⟨g1857, h⟩ := am_if_some h
  by_cases c1858 : (q1855 65 13) = 0
  · rw [if_pos c1858] at h
    refine am_r_f (show am_stepn X T_UpRiverModel_readLine 3 true (34, [(0, am_pv 65), (1, am_iv x1)], [], am_SH, (q1855, K, am_RF b)) = some ((decide (am_i32 (q1855 65 13)) && true), .inl (bif am_cb .ne (q1855 65 13) 0 then 80 else 41, [(0, am_pv 65), (1, am_iv x1)], [], am_SH, (q1855, K, am_RF b))) from rfl) (am_g1 g1857 rfl) (am_nd_t c1858) ?_
    obtain ⟨g1859, h⟩ := am_if_some h
    by_cases c1860 : x1 < 10
    · rw [if_pos c1860] at h
      refine am_r_f (show am_stepn X T_UpRiverModel_readLine 3 true (41, [(0, am_pv 65), (1, am_iv x1)], [], am_SH, (q1855, K, am_RF b)) = some (((decide (am_i32 10) && decide (am_i32 x1)) && true), .inl (bif am_cb .ge x1 10 then 80 else 47, [(0, am_pv 65), (1, am_iv x1)], [], am_SH, (q1855, K, am_RF b))) from rfl) (am_g2 (by decide) g1859 rfl) (am_nd_t c1860) ?_
      obtain ⟨g1861, h⟩ := am_if_some h
      by_cases c1862 : (am_and (am_shr (q1855 65 5) x1) 1) = 0
      · rw [if_pos c1862] at h
        refine am_r_f (show am_stepn X T_UpRiverModel_readLine 8 true (47, [(0, am_pv 65), (1, am_iv x1)], [], am_SH, (q1855, K, am_RF b)) = some ((decide (am_i32 (am_and (am_shr (q1855 65 5) x1) 1)) && true), .inl (bif am_cb .ne (am_and (am_shr (q1855 65 5) x1) 1) 0 then 63 else 59, [(0, am_pv 65), (1, am_iv x1)], [am_pv 65], am_SH, (q1855, K, am_RF b))) from rfl) (am_g1 g1861 rfl) (am_nd_t c1862) ?_
        refine am_r_go (show am_stepn X T_UpRiverModel_readLine 2 true (59, [(0, am_pv 65), (1, am_iv x1)], [am_pv 65], am_SH, (q1855, K, am_RF b)) = some (true, .inl (64, [(0, am_pv 65), (1, am_iv x1)], [am_iv 1, am_pv 65], am_SH, (q1855, K, am_RF b))) from rfl) rfl ?_
        exact s_UpRiverModel_readLine_L64  _ _ _ _ h
      · rw [if_neg c1862] at h
        refine am_r_t (show am_stepn X T_UpRiverModel_readLine 8 true (47, [(0, am_pv 65), (1, am_iv x1)], [], am_SH, (q1855, K, am_RF b)) = some ((decide (am_i32 (am_and (am_shr (q1855 65 5) x1) 1)) && true), .inl (bif am_cb .ne (am_and (am_shr (q1855 65 5) x1) 1) 0 then 63 else 59, [(0, am_pv 65), (1, am_iv x1)], [am_pv 65], am_SH, (q1855, K, am_RF b))) from rfl) (am_g1 g1861 rfl) (am_nd_f c1862) ?_
        refine am_r_go (show am_stepn X T_UpRiverModel_readLine 1 true (63, [(0, am_pv 65), (1, am_iv x1)], [am_pv 65], am_SH, (q1855, K, am_RF b)) = some (true, .inl (64, [(0, am_pv 65), (1, am_iv x1)], [am_iv 0, am_pv 65], am_SH, (q1855, K, am_RF b))) from rfl) rfl ?_
        exact s_UpRiverModel_readLine_L64  _ _ _ _ h
    · rw [if_neg c1860] at h
      refine am_r_t (show am_stepn X T_UpRiverModel_readLine 3 true (41, [(0, am_pv 65), (1, am_iv x1)], [], am_SH, (q1855, K, am_RF b)) = some (((decide (am_i32 10) && decide (am_i32 x1)) && true), .inl (bif am_cb .ge x1 10 then 80 else 47, [(0, am_pv 65), (1, am_iv x1)], [], am_SH, (q1855, K, am_RF b))) from rfl) (am_g2 (by decide) g1859 rfl) (am_nd_f c1860) ?_
      exact s_UpRiverModel_readLine_L80  _ _ _ h
  · rw [if_neg c1858] at h
    refine am_r_t (show am_stepn X T_UpRiverModel_readLine 3 true (34, [(0, am_pv 65), (1, am_iv x1)], [], am_SH, (q1855, K, am_RF b)) = some ((decide (am_i32 (q1855 65 13)) && true), .inl (bif am_cb .ne (q1855 65 13) 0 then 80 else 41, [(0, am_pv 65), (1, am_iv x1)], [], am_SH, (q1855, K, am_RF b))) from rfl) (am_g1 g1857 rfl) (am_nd_f c1858) ?_
    exact s_UpRiverModel_readLine_L80  _ _ _ h
theorem s_UpRiverModel_readLine_L17 {X : am_X} {b : Bool} {K : am_K}  : ∀ (s0 : Int) (J : am_J) (r : am_J), f_UpRiverModel_readLine_L17    s0 J = some r → am_runs X T_UpRiverModel_readLine (17, [(0, am_pv 65)], [am_iv s0], am_SH, (J, K, am_RF b)) (none, am_SH, (r, K, am_RF b)) := by
  intro s0 J r h
  unfold f_UpRiverModel_readLine_L17 at h
  obtain ⟨g1863, h⟩ := am_if_some h
  by_cases c1864 : s0 = (-4)
  · rw [if_pos c1864] at h
    refine am_r_t (show am_stepn X T_UpRiverModel_readLine 5 true (17, [(0, am_pv 65)], [am_iv s0], am_SH, (J, K, am_RF b)) = some (((decide (am_i32 (-4)) && decide (am_i32 s0)) && true), .inl (bif am_cb .eq s0 (-4) then 29 else 25, [(0, am_pv 65), (1, am_iv s0)], [am_pv 65], am_SH, (J, K, am_RF b))) from rfl) (am_g2 (by decide) g1863 rfl) (decide_eq_true c1864) ?_
    refine am_r_go (show am_stepn X T_UpRiverModel_readLine 1 true (29, [(0, am_pv 65), (1, am_iv s0)], [am_pv 65], am_SH, (J, K, am_RF b)) = some (true, .inl (30, [(0, am_pv 65), (1, am_iv s0)], [am_iv 0, am_pv 65], am_SH, (J, K, am_RF b))) from rfl) rfl ?_
    exact s_UpRiverModel_readLine_L30  _ _ _ _ h
  · rw [if_neg c1864] at h
    refine am_r_f (show am_stepn X T_UpRiverModel_readLine 5 true (17, [(0, am_pv 65)], [am_iv s0], am_SH, (J, K, am_RF b)) = some (((decide (am_i32 (-4)) && decide (am_i32 s0)) && true), .inl (bif am_cb .eq s0 (-4) then 29 else 25, [(0, am_pv 65), (1, am_iv s0)], [am_pv 65], am_SH, (J, K, am_RF b))) from rfl) (am_g2 (by decide) g1863 rfl) (decide_eq_false c1864) ?_
    refine am_r_go (show am_stepn X T_UpRiverModel_readLine 2 true (25, [(0, am_pv 65), (1, am_iv s0)], [am_pv 65], am_SH, (J, K, am_RF b)) = some (true, .inl (30, [(0, am_pv 65), (1, am_iv s0)], [am_iv 1, am_pv 65], am_SH, (J, K, am_RF b))) from rfl) rfl ?_
    exact s_UpRiverModel_readLine_L30  _ _ _ _ h
theorem s_UpRiverModel_readLine {X : am_X} {b : Bool} {K : am_K} {J : am_J} {r : am_J} (h : f_UpRiverModel_readLine  J = some r) : am_runs X T_UpRiverModel_readLine (0, [(0, am_pv 65)], [], am_SH, (J, K, am_RF b)) (none, am_SH, (r, K, am_RF b)) := by
  unfold f_UpRiverModel_readLine at h
  obtain ⟨g1865, h⟩ := am_if_some h
  by_cases c1866 : (J 65 11) = 1
  · rw [if_pos c1866] at h
    refine am_r_f (show am_stepn X T_UpRiverModel_readLine 4 true (0, [(0, am_pv 65)], [], am_SH, (J, K, am_RF b)) = some (((decide (am_i32 1) && decide (am_i32 (J 65 11))) && true), .inl (bif am_cb .ne (J 65 11) 1 then 15 else 8, [(0, am_pv 65)], [], am_SH, (J, K, am_RF b))) from rfl) (am_g2 (by decide) g1865 rfl) (am_nd_t c1866) ?_
    obtain ⟨q1867, e1868, h⟩ := am_bind_some h
    refine am_r_call (show am_stepn X T_UpRiverModel_readLine 2 true (8, [(0, am_pv 65)], [], am_SH, (J, K, am_RF b)) = some (true, .inr (.inl (159, [am_pv 65], 1, 0, 0, 12, [(0, am_pv 65)], [], am_SH, (J, K, am_RF b)))) from rfl) rfl tb_UpRiverModel_nameNow (s_UpRiverModel_nameNow e1868) ?_
    refine am_r_go (show am_stepn X T_UpRiverModel_readLine 1 true (12, [(0, am_pv 65)], [am_iv q1867], am_SH, (J, K, am_RF b)) = some (true, .inl (17, [(0, am_pv 65)], [am_iv q1867], am_SH, (J, K, am_RF b))) from rfl) rfl ?_
    exact s_UpRiverModel_readLine_L17  _ _ _ h
  · rw [if_neg c1866] at h
    refine am_r_t (show am_stepn X T_UpRiverModel_readLine 4 true (0, [(0, am_pv 65)], [], am_SH, (J, K, am_RF b)) = some (((decide (am_i32 1) && decide (am_i32 (J 65 11))) && true), .inl (bif am_cb .ne (J 65 11) 1 then 15 else 8, [(0, am_pv 65)], [], am_SH, (J, K, am_RF b))) from rfl) (am_g2 (by decide) g1865 rfl) (am_nd_f c1866) ?_
    refine am_r_go (show am_stepn X T_UpRiverModel_readLine 1 true (15, [(0, am_pv 65)], [], am_SH, (J, K, am_RF b)) = some (true, .inl (17, [(0, am_pv 65)], [am_iv (-4)], am_SH, (J, K, am_RF b))) from rfl) rfl ?_
    exact s_UpRiverModel_readLine_L17  _ _ _ h
