theorem s_Log_take_L10_19_45_ {X : am_X} {b : Bool} {K : am_K}  : ∀ (n : Nat) (x2 : Int) (J : am_J) (r : am_J), f_Log_take_L10 19 45  n x2 J = some r → am_runs X T_Log_take (10, [(0, am_pv 19), (1, am_pv 45), (2, am_iv x2)], [], am_SH, (J, K, am_RF b)) (none, am_SH, (r, K, am_RF b)) := by
  intro n
  induction n with
  | zero =>
    intro x2 J r h
    cases h
  | succ n ih =>
    intro x2 J r h
    rw [f_Log_take_L10.eq_2] at h
    obtain ⟨g1278, h⟩ := am_if_some h
    obtain ⟨g1279, h⟩ := am_if_some h
    by_cases c1280 : x2 < (J 19 2)
    · rw [if_pos c1280] at h
      refine am_r_f (show am_stepn X T_Log_take 4 true (10, [(0, am_pv 19), (1, am_pv 45), (2, am_iv x2)], [], am_SH, (J, K, am_RF b)) = some (((decide (am_i32 (J 19 2)) && decide (am_i32 x2)) && true), .inl (bif am_cb .ge x2 (J 19 2) then 48 else 18, [(0, am_pv 19), (1, am_pv 45), (2, am_iv x2)], [], am_SH, (J, K, am_RF b))) from rfl) (am_g2 g1278 g1279 rfl) (am_nd_t c1280) ?_
      obtain ⟨g1281, h⟩ := am_if_some h
      refine am_r_go (show am_stepn X T_Log_take 18 true (18, [(0, am_pv 19), (1, am_pv 45), (2, am_iv x2)], [], am_SH, (J, K, am_RF b)) = some ((am_in x2 12 && (am_in x2 12 && (am_in x2 12 && (am_in x2 12 && true)))), .inl (10, [(0, am_pv 19), (1, am_pv 45), (2, am_iv (x2 + 1))], [], am_SH, ((am_up (am_up J (19 + 1) x2.toNat (J (45 + 1) x2.toNat)) (19 + 2) x2.toNat (J (45 + 2) x2.toNat)), K, am_RF b))) from rfl) (am_gi g1281 (am_gi g1281 (am_gi g1281 (am_gi g1281 rfl)))) ?_
      exact ih _ _ _ h
    · rw [if_neg c1280] at h
      refine am_r_t (show am_stepn X T_Log_take 4 true (10, [(0, am_pv 19), (1, am_pv 45), (2, am_iv x2)], [], am_SH, (J, K, am_RF b)) = some (((decide (am_i32 (J 19 2)) && decide (am_i32 x2)) && true), .inl (bif am_cb .ge x2 (J 19 2) then 48 else 18, [(0, am_pv 19), (1, am_pv 45), (2, am_iv x2)], [], am_SH, (J, K, am_RF b))) from rfl) (am_g2 g1278 g1279 rfl) (am_nd_f c1280) ?_
      obtain rfl := Option.some.inj h
      exact am_r_ret (show am_stepn X T_Log_take 1 true (48, [(0, am_pv 19), (1, am_pv 45), (2, am_iv x2)], [], am_SH, (J, K, am_RF b)) = some (true, .inr (.inr (none, am_SH, (J, K, am_RF b)))) from rfl) rfl
theorem s_Log_take_19_45_ {X : am_X} {b : Bool} {K : am_K} {J : am_J} {r : am_J} (h : f_Log_take 19 45 J = some r) : am_runs X T_Log_take (0, [(0, am_pv 19), (1, am_pv 45)], [], am_SH, (J, K, am_RF b)) (none, am_SH, (r, K, am_RF b)) := by
  unfold f_Log_take at h
  refine am_r_go (show am_stepn X T_Log_take 6 true (0, [(0, am_pv 19), (1, am_pv 45)], [], am_SH, (J, K, am_RF b)) = some (true, .inl (10, [(0, am_pv 19), (1, am_pv 45), (2, am_iv 0)], [], am_SH, ((am_up J 19 2 (J 45 2)), K, am_RF b))) from rfl) rfl ?_
  exact s_Log_take_L10_19_45_  _ _ _ _ h
theorem s_Log_take_L10_19_52_ {X : am_X} {b : Bool} {K : am_K}  : ∀ (n : Nat) (x2 : Int) (J : am_J) (r : am_J), f_Log_take_L10 19 52  n x2 J = some r → am_runs X T_Log_take (10, [(0, am_pv 19), (1, am_pv 52), (2, am_iv x2)], [], am_SH, (J, K, am_RF b)) (none, am_SH, (r, K, am_RF b)) := by
  intro n
  induction n with
  | zero =>
    intro x2 J r h
    cases h
  | succ n ih =>
    intro x2 J r h
    rw [f_Log_take_L10.eq_2] at h
    obtain ⟨g1278, h⟩ := am_if_some h
    obtain ⟨g1279, h⟩ := am_if_some h
    by_cases c1280 : x2 < (J 19 2)
    · rw [if_pos c1280] at h
      refine am_r_f (show am_stepn X T_Log_take 4 true (10, [(0, am_pv 19), (1, am_pv 52), (2, am_iv x2)], [], am_SH, (J, K, am_RF b)) = some (((decide (am_i32 (J 19 2)) && decide (am_i32 x2)) && true), .inl (bif am_cb .ge x2 (J 19 2) then 48 else 18, [(0, am_pv 19), (1, am_pv 52), (2, am_iv x2)], [], am_SH, (J, K, am_RF b))) from rfl) (am_g2 g1278 g1279 rfl) (am_nd_t c1280) ?_
      obtain ⟨g1281, h⟩ := am_if_some h
      refine am_r_go (show am_stepn X T_Log_take 18 true (18, [(0, am_pv 19), (1, am_pv 52), (2, am_iv x2)], [], am_SH, (J, K, am_RF b)) = some ((am_in x2 12 && (am_in x2 12 && (am_in x2 12 && (am_in x2 12 && true)))), .inl (10, [(0, am_pv 19), (1, am_pv 52), (2, am_iv (x2 + 1))], [], am_SH, ((am_up (am_up J (19 + 1) x2.toNat (J (52 + 1) x2.toNat)) (19 + 2) x2.toNat (J (52 + 2) x2.toNat)), K, am_RF b))) from rfl) (am_gi g1281 (am_gi g1281 (am_gi g1281 (am_gi g1281 rfl)))) ?_
      exact ih _ _ _ h
    · rw [if_neg c1280] at h
      refine am_r_t (show am_stepn X T_Log_take 4 true (10, [(0, am_pv 19), (1, am_pv 52), (2, am_iv x2)], [], am_SH, (J, K, am_RF b)) = some (((decide (am_i32 (J 19 2)) && decide (am_i32 x2)) && true), .inl (bif am_cb .ge x2 (J 19 2) then 48 else 18, [(0, am_pv 19), (1, am_pv 52), (2, am_iv x2)], [], am_SH, (J, K, am_RF b))) from rfl) (am_g2 g1278 g1279 rfl) (am_nd_f c1280) ?_
      obtain rfl := Option.some.inj h
      exact am_r_ret (show am_stepn X T_Log_take 1 true (48, [(0, am_pv 19), (1, am_pv 52), (2, am_iv x2)], [], am_SH, (J, K, am_RF b)) = some (true, .inr (.inr (none, am_SH, (J, K, am_RF b)))) from rfl) rfl
theorem s_Log_take_19_52_ {X : am_X} {b : Bool} {K : am_K} {J : am_J} {r : am_J} (h : f_Log_take 19 52 J = some r) : am_runs X T_Log_take (0, [(0, am_pv 19), (1, am_pv 52)], [], am_SH, (J, K, am_RF b)) (none, am_SH, (r, K, am_RF b)) := by
  unfold f_Log_take at h
  refine am_r_go (show am_stepn X T_Log_take 6 true (0, [(0, am_pv 19), (1, am_pv 52)], [], am_SH, (J, K, am_RF b)) = some (true, .inl (10, [(0, am_pv 19), (1, am_pv 52), (2, am_iv 0)], [], am_SH, ((am_up J 19 2 (J 52 2)), K, am_RF b))) from rfl) rfl ?_
  exact s_Log_take_L10_19_52_  _ _ _ _ h
theorem s_Log_take_L10_45_19_ {X : am_X} {b : Bool} {K : am_K}  : ∀ (n : Nat) (x2 : Int) (J : am_J) (r : am_J), f_Log_take_L10 45 19  n x2 J = some r → am_runs X T_Log_take (10, [(0, am_pv 45), (1, am_pv 19), (2, am_iv x2)], [], am_SH, (J, K, am_RF b)) (none, am_SH, (r, K, am_RF b)) := by
  intro n
  induction n with
  | zero =>
    intro x2 J r h
    cases h
  | succ n ih =>
    intro x2 J r h
    rw [f_Log_take_L10.eq_2] at h
    obtain ⟨g1278, h⟩ := am_if_some h
    obtain ⟨g1279, h⟩ := am_if_some h
    by_cases c1280 : x2 < (J 45 2)
    · rw [if_pos c1280] at h
      refine am_r_f (show am_stepn X T_Log_take 4 true (10, [(0, am_pv 45), (1, am_pv 19), (2, am_iv x2)], [], am_SH, (J, K, am_RF b)) = some (((decide (am_i32 (J 45 2)) && decide (am_i32 x2)) && true), .inl (bif am_cb .ge x2 (J 45 2) then 48 else 18, [(0, am_pv 45), (1, am_pv 19), (2, am_iv x2)], [], am_SH, (J, K, am_RF b))) from rfl) (am_g2 g1278 g1279 rfl) (am_nd_t c1280) ?_
      obtain ⟨g1281, h⟩ := am_if_some h
      refine am_r_go (show am_stepn X T_Log_take 18 true (18, [(0, am_pv 45), (1, am_pv 19), (2, am_iv x2)], [], am_SH, (J, K, am_RF b)) = some ((am_in x2 12 && (am_in x2 12 && (am_in x2 12 && (am_in x2 12 && true)))), .inl (10, [(0, am_pv 45), (1, am_pv 19), (2, am_iv (x2 + 1))], [], am_SH, ((am_up (am_up J (45 + 1) x2.toNat (J (19 + 1) x2.toNat)) (45 + 2) x2.toNat (J (19 + 2) x2.toNat)), K, am_RF b))) from rfl) (am_gi g1281 (am_gi g1281 (am_gi g1281 (am_gi g1281 rfl)))) ?_
      exact ih _ _ _ h
    · rw [if_neg c1280] at h
      refine am_r_t (show am_stepn X T_Log_take 4 true (10, [(0, am_pv 45), (1, am_pv 19), (2, am_iv x2)], [], am_SH, (J, K, am_RF b)) = some (((decide (am_i32 (J 45 2)) && decide (am_i32 x2)) && true), .inl (bif am_cb .ge x2 (J 45 2) then 48 else 18, [(0, am_pv 45), (1, am_pv 19), (2, am_iv x2)], [], am_SH, (J, K, am_RF b))) from rfl) (am_g2 g1278 g1279 rfl) (am_nd_f c1280) ?_
      obtain rfl := Option.some.inj h
      exact am_r_ret (show am_stepn X T_Log_take 1 true (48, [(0, am_pv 45), (1, am_pv 19), (2, am_iv x2)], [], am_SH, (J, K, am_RF b)) = some (true, .inr (.inr (none, am_SH, (J, K, am_RF b)))) from rfl) rfl
theorem s_Log_take_45_19_ {X : am_X} {b : Bool} {K : am_K} {J : am_J} {r : am_J} (h : f_Log_take 45 19 J = some r) : am_runs X T_Log_take (0, [(0, am_pv 45), (1, am_pv 19)], [], am_SH, (J, K, am_RF b)) (none, am_SH, (r, K, am_RF b)) := by
  unfold f_Log_take at h
  refine am_r_go (show am_stepn X T_Log_take 6 true (0, [(0, am_pv 45), (1, am_pv 19)], [], am_SH, (J, K, am_RF b)) = some (true, .inl (10, [(0, am_pv 45), (1, am_pv 19), (2, am_iv 0)], [], am_SH, ((am_up J 45 2 (J 19 2)), K, am_RF b))) from rfl) rfl ?_
  exact s_Log_take_L10_45_19_  _ _ _ _ h
theorem s_Log_take_L10_52_19_ {X : am_X} {b : Bool} {K : am_K}  : ∀ (n : Nat) (x2 : Int) (J : am_J) (r : am_J), f_Log_take_L10 52 19  n x2 J = some r → am_runs X T_Log_take (10, [(0, am_pv 52), (1, am_pv 19), (2, am_iv x2)], [], am_SH, (J, K, am_RF b)) (none, am_SH, (r, K, am_RF b)) := by
  intro n
  induction n with
  | zero =>
    intro x2 J r h
    cases h
  | succ n ih =>
    intro x2 J r h
    rw [f_Log_take_L10.eq_2] at h
    obtain ⟨g1278, h⟩ := am_if_some h
    obtain ⟨g1279, h⟩ := am_if_some h
    by_cases c1280 : x2 < (J 52 2)
    · rw [if_pos c1280] at h
      refine am_r_f (show am_stepn X T_Log_take 4 true (10, [(0, am_pv 52), (1, am_pv 19), (2, am_iv x2)], [], am_SH, (J, K, am_RF b)) = some (((decide (am_i32 (J 52 2)) && decide (am_i32 x2)) && true), .inl (bif am_cb .ge x2 (J 52 2) then 48 else 18, [(0, am_pv 52), (1, am_pv 19), (2, am_iv x2)], [], am_SH, (J, K, am_RF b))) from rfl) (am_g2 g1278 g1279 rfl) (am_nd_t c1280) ?_
      obtain ⟨g1281, h⟩ := am_if_some h
      refine am_r_go (show am_stepn X T_Log_take 18 true (18, [(0, am_pv 52), (1, am_pv 19), (2, am_iv x2)], [], am_SH, (J, K, am_RF b)) = some ((am_in x2 12 && (am_in x2 12 && (am_in x2 12 && (am_in x2 12 && true)))), .inl (10, [(0, am_pv 52), (1, am_pv 19), (2, am_iv (x2 + 1))], [], am_SH, ((am_up (am_up J (52 + 1) x2.toNat (J (19 + 1) x2.toNat)) (52 + 2) x2.toNat (J (19 + 2) x2.toNat)), K, am_RF b))) from rfl) (am_gi g1281 (am_gi g1281 (am_gi g1281 (am_gi g1281 rfl)))) ?_
      exact ih _ _ _ h
    · rw [if_neg c1280] at h
      refine am_r_t (show am_stepn X T_Log_take 4 true (10, [(0, am_pv 52), (1, am_pv 19), (2, am_iv x2)], [], am_SH, (J, K, am_RF b)) = some (((decide (am_i32 (J 52 2)) && decide (am_i32 x2)) && true), .inl (bif am_cb .ge x2 (J 52 2) then 48 else 18, [(0, am_pv 52), (1, am_pv 19), (2, am_iv x2)], [], am_SH, (J, K, am_RF b))) from rfl) (am_g2 g1278 g1279 rfl) (am_nd_f c1280) ?_
      obtain rfl := Option.some.inj h
      exact am_r_ret (show am_stepn X T_Log_take 1 true (48, [(0, am_pv 52), (1, am_pv 19), (2, am_iv x2)], [], am_SH, (J, K, am_RF b)) = some (true, .inr (.inr (none, am_SH, (J, K, am_RF b)))) from rfl) rfl
theorem s_Log_take_52_19_ {X : am_X} {b : Bool} {K : am_K} {J : am_J} {r : am_J} (h : f_Log_take 52 19 J = some r) : am_runs X T_Log_take (0, [(0, am_pv 52), (1, am_pv 19)], [], am_SH, (J, K, am_RF b)) (none, am_SH, (r, K, am_RF b)) := by
  unfold f_Log_take at h
  refine am_r_go (show am_stepn X T_Log_take 6 true (0, [(0, am_pv 52), (1, am_pv 19)], [], am_SH, (J, K, am_RF b)) = some (true, .inl (10, [(0, am_pv 52), (1, am_pv 19), (2, am_iv 0)], [], am_SH, ((am_up J 52 2 (J 19 2)), K, am_RF b))) from rfl) rfl ?_
  exact s_Log_take_L10_52_19_  _ _ _ _ h
theorem s_Log_take {X : am_X} {b : Bool} {o1 : Nat} {o2 : Nat} (ho : (o1 = 19 ∧ o2 = 45) ∨ (o1 = 19 ∧ o2 = 52) ∨ (o1 = 45 ∧ o2 = 19) ∨ (o1 = 52 ∧ o2 = 19)) {K : am_K} {J : am_J} {r : am_J} (h : f_Log_take o1 o2 J = some r) : am_runs X T_Log_take (0, [(0, am_pv o1), (1, am_pv o2)], [], am_SH, (J, K, am_RF b)) (none, am_SH, (r, K, am_RF b)) := by
  rcases ho with ⟨rfl, rfl⟩ | ⟨rfl, rfl⟩ | ⟨rfl, rfl⟩ | ⟨rfl, rfl⟩
  · skip
    exact s_Log_take_19_45_ h
  · skip
    exact s_Log_take_19_52_ h
  · skip
    exact s_Log_take_45_19_ h
  · skip
    exact s_Log_take_52_19_ h
theorem s_Swings_take_L10_22_48_ {X : am_X} {b : Bool} {K : am_K}  : ∀ (n : Nat) (x2 : Int) (J : am_J) (r : am_J), f_Swings_take_L10 22 48  n x2 J = some r → am_runs X T_Swings_take (10, [(0, am_pv 22), (1, am_pv 48), (2, am_iv x2)], [], am_SH, (J, K, am_RF b)) (none, am_SH, (r, K, am_RF b)) := by
  intro n
  induction n with
  | zero =>
    intro x2 J r h
    cases h
  | succ n ih =>
    intro x2 J r h
    rw [f_Swings_take_L10.eq_2] at h
    obtain ⟨g1282, h⟩ := am_if_some h
    obtain ⟨g1283, h⟩ := am_if_some h
    by_cases c1284 : x2 < (J 22 1)
    · rw [if_pos c1284] at h
      refine am_r_f (show am_stepn X T_Swings_take 4 true (10, [(0, am_pv 22), (1, am_pv 48), (2, am_iv x2)], [], am_SH, (J, K, am_RF b)) = some (((decide (am_i32 (J 22 1)) && decide (am_i32 x2)) && true), .inl (bif am_cb .ge x2 (J 22 1) then 36 else 18, [(0, am_pv 22), (1, am_pv 48), (2, am_iv x2)], [], am_SH, (J, K, am_RF b))) from rfl) (am_g2 g1282 g1283 rfl) (am_nd_t c1284) ?_
      obtain ⟨g1285, h⟩ := am_if_some h
      refine am_r_go (show am_stepn X T_Swings_take 10 true (18, [(0, am_pv 22), (1, am_pv 48), (2, am_iv x2)], [], am_SH, (J, K, am_RF b)) = some ((am_in x2 40 && (am_in x2 40 && true)), .inl (10, [(0, am_pv 22), (1, am_pv 48), (2, am_iv (x2 + 1))], [], am_SH, ((am_up J (22 + 1) x2.toNat (J (48 + 1) x2.toNat)), K, am_RF b))) from rfl) (am_gi g1285 (am_gi g1285 rfl)) ?_
      exact ih _ _ _ h
    · rw [if_neg c1284] at h
      refine am_r_t (show am_stepn X T_Swings_take 4 true (10, [(0, am_pv 22), (1, am_pv 48), (2, am_iv x2)], [], am_SH, (J, K, am_RF b)) = some (((decide (am_i32 (J 22 1)) && decide (am_i32 x2)) && true), .inl (bif am_cb .ge x2 (J 22 1) then 36 else 18, [(0, am_pv 22), (1, am_pv 48), (2, am_iv x2)], [], am_SH, (J, K, am_RF b))) from rfl) (am_g2 g1282 g1283 rfl) (am_nd_f c1284) ?_
      obtain rfl := Option.some.inj h
      exact am_r_ret (show am_stepn X T_Swings_take 1 true (36, [(0, am_pv 22), (1, am_pv 48), (2, am_iv x2)], [], am_SH, (J, K, am_RF b)) = some (true, .inr (.inr (none, am_SH, (J, K, am_RF b)))) from rfl) rfl
theorem s_Swings_take_22_48_ {X : am_X} {b : Bool} {K : am_K} {J : am_J} {r : am_J} (h : f_Swings_take 22 48 J = some r) : am_runs X T_Swings_take (0, [(0, am_pv 22), (1, am_pv 48)], [], am_SH, (J, K, am_RF b)) (none, am_SH, (r, K, am_RF b)) := by
  unfold f_Swings_take at h
  refine am_r_go (show am_stepn X T_Swings_take 6 true (0, [(0, am_pv 22), (1, am_pv 48)], [], am_SH, (J, K, am_RF b)) = some (true, .inl (10, [(0, am_pv 22), (1, am_pv 48), (2, am_iv 0)], [], am_SH, ((am_up J 22 1 (J 48 1)), K, am_RF b))) from rfl) rfl ?_
  exact s_Swings_take_L10_22_48_  _ _ _ _ h
theorem s_Swings_take_L10_22_55_ {X : am_X} {b : Bool} {K : am_K}  : ∀ (n : Nat) (x2 : Int) (J : am_J) (r : am_J), f_Swings_take_L10 22 55  n x2 J = some r → am_runs X T_Swings_take (10, [(0, am_pv 22), (1, am_pv 55), (2, am_iv x2)], [], am_SH, (J, K, am_RF b)) (none, am_SH, (r, K, am_RF b)) := by
  intro n
  induction n with
  | zero =>
    intro x2 J r h
    cases h
  | succ n ih =>
    intro x2 J r h
    rw [f_Swings_take_L10.eq_2] at h
    obtain ⟨g1282, h⟩ := am_if_some h
    obtain ⟨g1283, h⟩ := am_if_some h
    by_cases c1284 : x2 < (J 22 1)
    · rw [if_pos c1284] at h
      refine am_r_f (show am_stepn X T_Swings_take 4 true (10, [(0, am_pv 22), (1, am_pv 55), (2, am_iv x2)], [], am_SH, (J, K, am_RF b)) = some (((decide (am_i32 (J 22 1)) && decide (am_i32 x2)) && true), .inl (bif am_cb .ge x2 (J 22 1) then 36 else 18, [(0, am_pv 22), (1, am_pv 55), (2, am_iv x2)], [], am_SH, (J, K, am_RF b))) from rfl) (am_g2 g1282 g1283 rfl) (am_nd_t c1284) ?_
      obtain ⟨g1285, h⟩ := am_if_some h
      refine am_r_go (show am_stepn X T_Swings_take 10 true (18, [(0, am_pv 22), (1, am_pv 55), (2, am_iv x2)], [], am_SH, (J, K, am_RF b)) = some ((am_in x2 40 && (am_in x2 40 && true)), .inl (10, [(0, am_pv 22), (1, am_pv 55), (2, am_iv (x2 + 1))], [], am_SH, ((am_up J (22 + 1) x2.toNat (J (55 + 1) x2.toNat)), K, am_RF b))) from rfl) (am_gi g1285 (am_gi g1285 rfl)) ?_
      exact ih _ _ _ h
    · rw [if_neg c1284] at h
      refine am_r_t (show am_stepn X T_Swings_take 4 true (10, [(0, am_pv 22), (1, am_pv 55), (2, am_iv x2)], [], am_SH, (J, K, am_RF b)) = some (((decide (am_i32 (J 22 1)) && decide (am_i32 x2)) && true), .inl (bif am_cb .ge x2 (J 22 1) then 36 else 18, [(0, am_pv 22), (1, am_pv 55), (2, am_iv x2)], [], am_SH, (J, K, am_RF b))) from rfl) (am_g2 g1282 g1283 rfl) (am_nd_f c1284) ?_
      obtain rfl := Option.some.inj h
      exact am_r_ret (show am_stepn X T_Swings_take 1 true (36, [(0, am_pv 22), (1, am_pv 55), (2, am_iv x2)], [], am_SH, (J, K, am_RF b)) = some (true, .inr (.inr (none, am_SH, (J, K, am_RF b)))) from rfl) rfl
theorem s_Swings_take_22_55_ {X : am_X} {b : Bool} {K : am_K} {J : am_J} {r : am_J} (h : f_Swings_take 22 55 J = some r) : am_runs X T_Swings_take (0, [(0, am_pv 22), (1, am_pv 55)], [], am_SH, (J, K, am_RF b)) (none, am_SH, (r, K, am_RF b)) := by
  unfold f_Swings_take at h
  refine am_r_go (show am_stepn X T_Swings_take 6 true (0, [(0, am_pv 22), (1, am_pv 55)], [], am_SH, (J, K, am_RF b)) = some (true, .inl (10, [(0, am_pv 22), (1, am_pv 55), (2, am_iv 0)], [], am_SH, ((am_up J 22 1 (J 55 1)), K, am_RF b))) from rfl) rfl ?_
  exact s_Swings_take_L10_22_55_  _ _ _ _ h
theorem s_Swings_take_L10_48_22_ {X : am_X} {b : Bool} {K : am_K}  : ∀ (n : Nat) (x2 : Int) (J : am_J) (r : am_J), f_Swings_take_L10 48 22  n x2 J = some r → am_runs X T_Swings_take (10, [(0, am_pv 48), (1, am_pv 22), (2, am_iv x2)], [], am_SH, (J, K, am_RF b)) (none, am_SH, (r, K, am_RF b)) := by
  intro n
  induction n with
  | zero =>
    intro x2 J r h
    cases h
  | succ n ih =>
    intro x2 J r h
    rw [f_Swings_take_L10.eq_2] at h
    obtain ⟨g1282, h⟩ := am_if_some h
    obtain ⟨g1283, h⟩ := am_if_some h
    by_cases c1284 : x2 < (J 48 1)
    · rw [if_pos c1284] at h
      refine am_r_f (show am_stepn X T_Swings_take 4 true (10, [(0, am_pv 48), (1, am_pv 22), (2, am_iv x2)], [], am_SH, (J, K, am_RF b)) = some (((decide (am_i32 (J 48 1)) && decide (am_i32 x2)) && true), .inl (bif am_cb .ge x2 (J 48 1) then 36 else 18, [(0, am_pv 48), (1, am_pv 22), (2, am_iv x2)], [], am_SH, (J, K, am_RF b))) from rfl) (am_g2 g1282 g1283 rfl) (am_nd_t c1284) ?_
      obtain ⟨g1285, h⟩ := am_if_some h
      refine am_r_go (show am_stepn X T_Swings_take 10 true (18, [(0, am_pv 48), (1, am_pv 22), (2, am_iv x2)], [], am_SH, (J, K, am_RF b)) = some ((am_in x2 40 && (am_in x2 40 && true)), .inl (10, [(0, am_pv 48), (1, am_pv 22), (2, am_iv (x2 + 1))], [], am_SH, ((am_up J (48 + 1) x2.toNat (J (22 + 1) x2.toNat)), K, am_RF b))) from rfl) (am_gi g1285 (am_gi g1285 rfl)) ?_
      exact ih _ _ _ h
    · rw [if_neg c1284] at h
      refine am_r_t (show am_stepn X T_Swings_take 4 true (10, [(0, am_pv 48), (1, am_pv 22), (2, am_iv x2)], [], am_SH, (J, K, am_RF b)) = some (((decide (am_i32 (J 48 1)) && decide (am_i32 x2)) && true), .inl (bif am_cb .ge x2 (J 48 1) then 36 else 18, [(0, am_pv 48), (1, am_pv 22), (2, am_iv x2)], [], am_SH, (J, K, am_RF b))) from rfl) (am_g2 g1282 g1283 rfl) (am_nd_f c1284) ?_
      obtain rfl := Option.some.inj h
      exact am_r_ret (show am_stepn X T_Swings_take 1 true (36, [(0, am_pv 48), (1, am_pv 22), (2, am_iv x2)], [], am_SH, (J, K, am_RF b)) = some (true, .inr (.inr (none, am_SH, (J, K, am_RF b)))) from rfl) rfl
theorem s_Swings_take_48_22_ {X : am_X} {b : Bool} {K : am_K} {J : am_J} {r : am_J} (h : f_Swings_take 48 22 J = some r) : am_runs X T_Swings_take (0, [(0, am_pv 48), (1, am_pv 22)], [], am_SH, (J, K, am_RF b)) (none, am_SH, (r, K, am_RF b)) := by
  unfold f_Swings_take at h
  refine am_r_go (show am_stepn X T_Swings_take 6 true (0, [(0, am_pv 48), (1, am_pv 22)], [], am_SH, (J, K, am_RF b)) = some (true, .inl (10, [(0, am_pv 48), (1, am_pv 22), (2, am_iv 0)], [], am_SH, ((am_up J 48 1 (J 22 1)), K, am_RF b))) from rfl) rfl ?_
  exact s_Swings_take_L10_48_22_  _ _ _ _ h
theorem s_Swings_take_L10_55_22_ {X : am_X} {b : Bool} {K : am_K}  : ∀ (n : Nat) (x2 : Int) (J : am_J) (r : am_J), f_Swings_take_L10 55 22  n x2 J = some r → am_runs X T_Swings_take (10, [(0, am_pv 55), (1, am_pv 22), (2, am_iv x2)], [], am_SH, (J, K, am_RF b)) (none, am_SH, (r, K, am_RF b)) := by
  intro n
  induction n with
  | zero =>
    intro x2 J r h
    cases h
  | succ n ih =>
    intro x2 J r h
    rw [f_Swings_take_L10.eq_2] at h
    obtain ⟨g1282, h⟩ := am_if_some h
    obtain ⟨g1283, h⟩ := am_if_some h
    by_cases c1284 : x2 < (J 55 1)
    · rw [if_pos c1284] at h
      refine am_r_f (show am_stepn X T_Swings_take 4 true (10, [(0, am_pv 55), (1, am_pv 22), (2, am_iv x2)], [], am_SH, (J, K, am_RF b)) = some (((decide (am_i32 (J 55 1)) && decide (am_i32 x2)) && true), .inl (bif am_cb .ge x2 (J 55 1) then 36 else 18, [(0, am_pv 55), (1, am_pv 22), (2, am_iv x2)], [], am_SH, (J, K, am_RF b))) from rfl) (am_g2 g1282 g1283 rfl) (am_nd_t c1284) ?_
      obtain ⟨g1285, h⟩ := am_if_some h
      refine am_r_go (show am_stepn X T_Swings_take 10 true (18, [(0, am_pv 55), (1, am_pv 22), (2, am_iv x2)], [], am_SH, (J, K, am_RF b)) = some ((am_in x2 40 && (am_in x2 40 && true)), .inl (10, [(0, am_pv 55), (1, am_pv 22), (2, am_iv (x2 + 1))], [], am_SH, ((am_up J (55 + 1) x2.toNat (J (22 + 1) x2.toNat)), K, am_RF b))) from rfl) (am_gi g1285 (am_gi g1285 rfl)) ?_
      exact ih _ _ _ h
    · rw [if_neg c1284] at h
      refine am_r_t (show am_stepn X T_Swings_take 4 true (10, [(0, am_pv 55), (1, am_pv 22), (2, am_iv x2)], [], am_SH, (J, K, am_RF b)) = some (((decide (am_i32 (J 55 1)) && decide (am_i32 x2)) && true), .inl (bif am_cb .ge x2 (J 55 1) then 36 else 18, [(0, am_pv 55), (1, am_pv 22), (2, am_iv x2)], [], am_SH, (J, K, am_RF b))) from rfl) (am_g2 g1282 g1283 rfl) (am_nd_f c1284) ?_
      obtain rfl := Option.some.inj h
      exact am_r_ret (show am_stepn X T_Swings_take 1 true (36, [(0, am_pv 55), (1, am_pv 22), (2, am_iv x2)], [], am_SH, (J, K, am_RF b)) = some (true, .inr (.inr (none, am_SH, (J, K, am_RF b)))) from rfl) rfl
theorem s_Swings_take_55_22_ {X : am_X} {b : Bool} {K : am_K} {J : am_J} {r : am_J} (h : f_Swings_take 55 22 J = some r) : am_runs X T_Swings_take (0, [(0, am_pv 55), (1, am_pv 22)], [], am_SH, (J, K, am_RF b)) (none, am_SH, (r, K, am_RF b)) := by
  unfold f_Swings_take at h
  refine am_r_go (show am_stepn X T_Swings_take 6 true (0, [(0, am_pv 55), (1, am_pv 22)], [], am_SH, (J, K, am_RF b)) = some (true, .inl (10, [(0, am_pv 55), (1, am_pv 22), (2, am_iv 0)], [], am_SH, ((am_up J 55 1 (J 22 1)), K, am_RF b))) from rfl) rfl ?_
  exact s_Swings_take_L10_55_22_  _ _ _ _ h
theorem s_Swings_take {X : am_X} {b : Bool} {o1 : Nat} {o2 : Nat} (ho : (o1 = 22 ∧ o2 = 48) ∨ (o1 = 22 ∧ o2 = 55) ∨ (o1 = 48 ∧ o2 = 22) ∨ (o1 = 55 ∧ o2 = 22)) {K : am_K} {J : am_J} {r : am_J} (h : f_Swings_take o1 o2 J = some r) : am_runs X T_Swings_take (0, [(0, am_pv o1), (1, am_pv o2)], [], am_SH, (J, K, am_RF b)) (none, am_SH, (r, K, am_RF b)) := by
  rcases ho with ⟨rfl, rfl⟩ | ⟨rfl, rfl⟩ | ⟨rfl, rfl⟩ | ⟨rfl, rfl⟩
  · skip
    exact s_Swings_take_22_48_ h
  · skip
    exact s_Swings_take_22_55_ h
  · skip
    exact s_Swings_take_48_22_ h
  · skip
    exact s_Swings_take_55_22_ h
theorem s_Voyage_take_17_43_ {X : am_X} {b : Bool} {K : am_K} {J : am_J} {r : am_J} (h : f_Voyage_take 17 43 J = some r) : am_runs X T_Voyage_take (0, [(0, am_pv 17), (1, am_pv 43)], [], am_SH, (J, K, am_RF b)) (none, am_SH, (r, K, am_RF b)) := by
  unfold f_Voyage_take at h
  obtain ⟨q1286, e1287, h⟩ := am_bind_some h
  refine am_r_call (show am_stepn X T_Voyage_take 5 true (0, [(0, am_pv 17), (1, am_pv 43)], [], am_SH, (J, K, am_RF b)) = some (true, .inr (.inl (98, [am_pv (17 + 1), am_pv (43 + 1)], 2, 0, 0, 11, [(0, am_pv 17), (1, am_pv 43)], [], am_SH, (J, K, am_RF b)))) from rfl) rfl tb_Boat_take (s_Boat_take (by decide) e1287) ?_
  obtain ⟨q1288, e1289, h⟩ := am_bind_some h
  refine am_r_call (show am_stepn X T_Voyage_take 5 true (11, [(0, am_pv 17), (1, am_pv 43)], [], am_SH, (q1286, K, am_RF b)) = some (true, .inr (.inl (132, [am_pv (17 + 2), am_pv (43 + 2)], 3, 0, 0, 22, [(0, am_pv 17), (1, am_pv 43)], [], am_SH, (q1286, K, am_RF b)))) from rfl) rfl tb_Log_take (s_Log_take (by decide) e1289) ?_
  obtain ⟨q1290, e1291, h⟩ := am_bind_some h
  refine am_r_call (show am_stepn X T_Voyage_take 5 true (22, [(0, am_pv 17), (1, am_pv 43)], [], am_SH, (q1288, K, am_RF b)) = some (true, .inr (.inl (133, [am_pv (17 + 5), am_pv (43 + 5)], 3, 0, 0, 33, [(0, am_pv 17), (1, am_pv 43)], [], am_SH, (q1288, K, am_RF b)))) from rfl) rfl tb_Swings_take (s_Swings_take (by decide) e1291) ?_
  obtain rfl := Option.some.inj h
  exact am_r_ret (show am_stepn X T_Voyage_take 1 true (33, [(0, am_pv 17), (1, am_pv 43)], [], am_SH, (q1290, K, am_RF b)) = some (true, .inr (.inr (none, am_SH, (q1290, K, am_RF b)))) from rfl) rfl
theorem s_Voyage_take_17_50_ {X : am_X} {b : Bool} {K : am_K} {J : am_J} {r : am_J} (h : f_Voyage_take 17 50 J = some r) : am_runs X T_Voyage_take (0, [(0, am_pv 17), (1, am_pv 50)], [], am_SH, (J, K, am_RF b)) (none, am_SH, (r, K, am_RF b)) := by
  unfold f_Voyage_take at h
  obtain ⟨q1286, e1287, h⟩ := am_bind_some h
  refine am_r_call (show am_stepn X T_Voyage_take 5 true (0, [(0, am_pv 17), (1, am_pv 50)], [], am_SH, (J, K, am_RF b)) = some (true, .inr (.inl (98, [am_pv (17 + 1), am_pv (50 + 1)], 2, 0, 0, 11, [(0, am_pv 17), (1, am_pv 50)], [], am_SH, (J, K, am_RF b)))) from rfl) rfl tb_Boat_take (s_Boat_take (by decide) e1287) ?_
  obtain ⟨q1288, e1289, h⟩ := am_bind_some h
  refine am_r_call (show am_stepn X T_Voyage_take 5 true (11, [(0, am_pv 17), (1, am_pv 50)], [], am_SH, (q1286, K, am_RF b)) = some (true, .inr (.inl (132, [am_pv (17 + 2), am_pv (50 + 2)], 3, 0, 0, 22, [(0, am_pv 17), (1, am_pv 50)], [], am_SH, (q1286, K, am_RF b)))) from rfl) rfl tb_Log_take (s_Log_take (by decide) e1289) ?_
  obtain ⟨q1290, e1291, h⟩ := am_bind_some h
  refine am_r_call (show am_stepn X T_Voyage_take 5 true (22, [(0, am_pv 17), (1, am_pv 50)], [], am_SH, (q1288, K, am_RF b)) = some (true, .inr (.inl (133, [am_pv (17 + 5), am_pv (50 + 5)], 3, 0, 0, 33, [(0, am_pv 17), (1, am_pv 50)], [], am_SH, (q1288, K, am_RF b)))) from rfl) rfl tb_Swings_take (s_Swings_take (by decide) e1291) ?_
  obtain rfl := Option.some.inj h
  exact am_r_ret (show am_stepn X T_Voyage_take 1 true (33, [(0, am_pv 17), (1, am_pv 50)], [], am_SH, (q1290, K, am_RF b)) = some (true, .inr (.inr (none, am_SH, (q1290, K, am_RF b)))) from rfl) rfl
theorem s_Voyage_take_43_17_ {X : am_X} {b : Bool} {K : am_K} {J : am_J} {r : am_J} (h : f_Voyage_take 43 17 J = some r) : am_runs X T_Voyage_take (0, [(0, am_pv 43), (1, am_pv 17)], [], am_SH, (J, K, am_RF b)) (none, am_SH, (r, K, am_RF b)) := by
  unfold f_Voyage_take at h
  obtain ⟨q1286, e1287, h⟩ := am_bind_some h
  refine am_r_call (show am_stepn X T_Voyage_take 5 true (0, [(0, am_pv 43), (1, am_pv 17)], [], am_SH, (J, K, am_RF b)) = some (true, .inr (.inl (98, [am_pv (43 + 1), am_pv (17 + 1)], 2, 0, 0, 11, [(0, am_pv 43), (1, am_pv 17)], [], am_SH, (J, K, am_RF b)))) from rfl) rfl tb_Boat_take (s_Boat_take (by decide) e1287) ?_
  obtain ⟨q1288, e1289, h⟩ := am_bind_some h
  refine am_r_call (show am_stepn X T_Voyage_take 5 true (11, [(0, am_pv 43), (1, am_pv 17)], [], am_SH, (q1286, K, am_RF b)) = some (true, .inr (.inl (132, [am_pv (43 + 2), am_pv (17 + 2)], 3, 0, 0, 22, [(0, am_pv 43), (1, am_pv 17)], [], am_SH, (q1286, K, am_RF b)))) from rfl) rfl tb_Log_take (s_Log_take (by decide) e1289) ?_
  obtain ⟨q1290, e1291, h⟩ := am_bind_some h
  refine am_r_call (show am_stepn X T_Voyage_take 5 true (22, [(0, am_pv 43), (1, am_pv 17)], [], am_SH, (q1288, K, am_RF b)) = some (true, .inr (.inl (133, [am_pv (43 + 5), am_pv (17 + 5)], 3, 0, 0, 33, [(0, am_pv 43), (1, am_pv 17)], [], am_SH, (q1288, K, am_RF b)))) from rfl) rfl tb_Swings_take (s_Swings_take (by decide) e1291) ?_
  obtain rfl := Option.some.inj h
  exact am_r_ret (show am_stepn X T_Voyage_take 1 true (33, [(0, am_pv 43), (1, am_pv 17)], [], am_SH, (q1290, K, am_RF b)) = some (true, .inr (.inr (none, am_SH, (q1290, K, am_RF b)))) from rfl) rfl
theorem s_Voyage_take_50_17_ {X : am_X} {b : Bool} {K : am_K} {J : am_J} {r : am_J} (h : f_Voyage_take 50 17 J = some r) : am_runs X T_Voyage_take (0, [(0, am_pv 50), (1, am_pv 17)], [], am_SH, (J, K, am_RF b)) (none, am_SH, (r, K, am_RF b)) := by
  unfold f_Voyage_take at h
  obtain ⟨q1286, e1287, h⟩ := am_bind_some h
  refine am_r_call (show am_stepn X T_Voyage_take 5 true (0, [(0, am_pv 50), (1, am_pv 17)], [], am_SH, (J, K, am_RF b)) = some (true, .inr (.inl (98, [am_pv (50 + 1), am_pv (17 + 1)], 2, 0, 0, 11, [(0, am_pv 50), (1, am_pv 17)], [], am_SH, (J, K, am_RF b)))) from rfl) rfl tb_Boat_take (s_Boat_take (by decide) e1287) ?_
  obtain ⟨q1288, e1289, h⟩ := am_bind_some h
  refine am_r_call (show am_stepn X T_Voyage_take 5 true (11, [(0, am_pv 50), (1, am_pv 17)], [], am_SH, (q1286, K, am_RF b)) = some (true, .inr (.inl (132, [am_pv (50 + 2), am_pv (17 + 2)], 3, 0, 0, 22, [(0, am_pv 50), (1, am_pv 17)], [], am_SH, (q1286, K, am_RF b)))) from rfl) rfl tb_Log_take (s_Log_take (by decide) e1289) ?_
  obtain ⟨q1290, e1291, h⟩ := am_bind_some h
  refine am_r_call (show am_stepn X T_Voyage_take 5 true (22, [(0, am_pv 50), (1, am_pv 17)], [], am_SH, (q1288, K, am_RF b)) = some (true, .inr (.inl (133, [am_pv (50 + 5), am_pv (17 + 5)], 3, 0, 0, 33, [(0, am_pv 50), (1, am_pv 17)], [], am_SH, (q1288, K, am_RF b)))) from rfl) rfl tb_Swings_take (s_Swings_take (by decide) e1291) ?_
  obtain rfl := Option.some.inj h
  exact am_r_ret (show am_stepn X T_Voyage_take 1 true (33, [(0, am_pv 50), (1, am_pv 17)], [], am_SH, (q1290, K, am_RF b)) = some (true, .inr (.inr (none, am_SH, (q1290, K, am_RF b)))) from rfl) rfl
theorem s_Voyage_take {X : am_X} {b : Bool} {o1 : Nat} {o2 : Nat} (ho : (o1 = 17 ∧ o2 = 43) ∨ (o1 = 17 ∧ o2 = 50) ∨ (o1 = 43 ∧ o2 = 17) ∨ (o1 = 50 ∧ o2 = 17)) {K : am_K} {J : am_J} {r : am_J} (h : f_Voyage_take o1 o2 J = some r) : am_runs X T_Voyage_take (0, [(0, am_pv o1), (1, am_pv o2)], [], am_SH, (J, K, am_RF b)) (none, am_SH, (r, K, am_RF b)) := by
  rcases ho with ⟨rfl, rfl⟩ | ⟨rfl, rfl⟩ | ⟨rfl, rfl⟩ | ⟨rfl, rfl⟩
  · skip
    exact s_Voyage_take_17_43_ h
  · skip
    exact s_Voyage_take_17_50_ h
  · skip
    exact s_Voyage_take_43_17_ h
  · skip
    exact s_Voyage_take_50_17_ h
theorem s_UpRiver_keep {X : am_X} {b : Bool} {K : am_K} {x1 : Int} {J : am_J} {r : Int × am_J} (h : f_UpRiver_keep  x1 J = some r) : am_runs X T_UpRiver_keep (0, [(0, am_pv 0), (1, am_iv x1)], [], am_SH, (J, K, am_RF b)) (some (am_iv r.1), am_SH, (r.2, K, am_RF b)) := by
  unfold f_UpRiver_keep at h
  obtain ⟨g1292, h⟩ := am_if_some h
  by_cases c1293 : x1 < 0
  · rw [if_pos c1293] at h
    refine am_r_t (show am_stepn X T_UpRiver_keep 2 true (0, [(0, am_pv 0), (1, am_iv x1)], [], am_SH, (J, K, am_RF b)) = some ((decide (am_i32 x1) && true), .inl (bif am_cb .lt x1 0 then 9 else 4, [(0, am_pv 0), (1, am_iv x1)], [], am_SH, (J, K, am_RF b))) from rfl) (am_g1 g1292 rfl) (decide_eq_true c1293) ?_
    obtain rfl := Option.some.inj h
    exact am_r_ret (show am_stepn X T_UpRiver_keep 2 true (9, [(0, am_pv 0), (1, am_iv x1)], [], am_SH, (J, K, am_RF b)) = some (true, .inr (.inr (some (am_iv (-1)), am_SH, (J, K, am_RF b)))) from rfl) rfl
  · rw [if_neg c1293] at h
    refine am_r_f (show am_stepn X T_UpRiver_keep 2 true (0, [(0, am_pv 0), (1, am_iv x1)], [], am_SH, (J, K, am_RF b)) = some ((decide (am_i32 x1) && true), .inl (bif am_cb .lt x1 0 then 9 else 4, [(0, am_pv 0), (1, am_iv x1)], [], am_SH, (J, K, am_RF b))) from rfl) (am_g1 g1292 rfl) (decide_eq_false c1293) ?_
    by_cases c1294 : x1 < 2
    · rw [if_pos c1294] at h
      refine am_r_t (show am_stepn X T_UpRiver_keep 3 true (4, [(0, am_pv 0), (1, am_iv x1)], [], am_SH, (J, K, am_RF b)) = some (((decide (am_i32 2) && decide (am_i32 x1)) && true), .inl (bif am_cb .lt x1 2 then 11 else 9, [(0, am_pv 0), (1, am_iv x1)], [], am_SH, (J, K, am_RF b))) from rfl) (am_g2 (by decide) g1292 rfl) (decide_eq_true c1294) ?_
      by_cases c1295 : x1 = 0
      · rw [if_pos c1295] at h
        revert h
        subst c1295
        intro h
        obtain ⟨q1296, e1297, h⟩ := am_bind_some h
        refine am_r_call (show am_stepn X T_UpRiver_keep 6 true (11, [(0, am_pv 0), (1, am_iv 0)], [], am_SH, (J, K, am_RF b)) = some ((am_in 0 2 && true), .inr (.inl (57, [am_iv (J 43 3)], 1, 0, 0, 23, [(0, am_pv 0), (1, am_iv 0)], [], am_SH, (J, K, am_RF b)))) from rfl) (am_gi (by decide) rfl) tb_UpRiver_asInt (s_UpRiver_asInt e1297) ?_
        obtain ⟨q1298, e1299, h⟩ := am_bind_some h
        refine am_r_call (show am_stepn X T_UpRiver_keep 8 true (23, [(0, am_pv 0), (1, am_iv 0)], [am_iv q1296], am_SH, (J, K, am_RF b)) = some ((am_in 0 2 && true), .inr (.inl (131, [am_pv 43, am_pv 17], 2, 0, 0, 37, [(0, am_pv 0), (1, am_iv 0), (2, am_iv q1296)], [], am_SH, (J, K, am_RF b)))) from rfl) (am_gi (by decide) rfl) tb_Voyage_take (s_Voyage_take (by decide) e1299) ?_
        obtain rfl := Option.some.inj h
        exact am_r_ret (show am_stepn X T_UpRiver_keep 8 true (37, [(0, am_pv 0), (1, am_iv 0), (2, am_iv q1296)], [], am_SH, (q1298, K, am_RF b)) = some ((decide ((1 : Int) = 0 ∨ (1 : Int) = 1) && (am_in 0 2 && true)), .inr (.inr (some (am_iv q1296), am_SH, ((am_up q1298 43 3 1), K, am_RF b)))) from rfl) (am_g1 (by decide) (am_gi (by decide) rfl))
      · rw [if_neg c1295] at h
        by_cases c1300 : x1 = 1
        · rw [if_pos c1300] at h
          revert h
          subst c1300
          intro h
          obtain ⟨q1301, e1302, h⟩ := am_bind_some h
          refine am_r_call (show am_stepn X T_UpRiver_keep 6 true (11, [(0, am_pv 0), (1, am_iv 1)], [], am_SH, (J, K, am_RF b)) = some ((am_in 1 2 && true), .inr (.inl (57, [am_iv (J 50 3)], 1, 0, 0, 23, [(0, am_pv 0), (1, am_iv 1)], [], am_SH, (J, K, am_RF b)))) from rfl) (am_gi (by decide) rfl) tb_UpRiver_asInt (s_UpRiver_asInt e1302) ?_
          obtain ⟨q1303, e1304, h⟩ := am_bind_some h
          refine am_r_call (show am_stepn X T_UpRiver_keep 8 true (23, [(0, am_pv 0), (1, am_iv 1)], [am_iv q1301], am_SH, (J, K, am_RF b)) = some ((am_in 1 2 && true), .inr (.inl (131, [am_pv 50, am_pv 17], 2, 0, 0, 37, [(0, am_pv 0), (1, am_iv 1), (2, am_iv q1301)], [], am_SH, (J, K, am_RF b)))) from rfl) (am_gi (by decide) rfl) tb_Voyage_take (s_Voyage_take (by decide) e1304) ?_
          obtain rfl := Option.some.inj h
          exact am_r_ret (show am_stepn X T_UpRiver_keep 8 true (37, [(0, am_pv 0), (1, am_iv 1), (2, am_iv q1301)], [], am_SH, (q1303, K, am_RF b)) = some ((decide ((1 : Int) = 0 ∨ (1 : Int) = 1) && (am_in 1 2 && true)), .inr (.inr (some (am_iv q1301), am_SH, ((am_up q1303 50 3 1), K, am_RF b)))) from rfl) (am_g1 (by decide) (am_gi (by decide) rfl))
        · rw [if_neg c1300] at h
          cases h
    · rw [if_neg c1294] at h
      refine am_r_f (show am_stepn X T_UpRiver_keep 3 true (4, [(0, am_pv 0), (1, am_iv x1)], [], am_SH, (J, K, am_RF b)) = some (((decide (am_i32 2) && decide (am_i32 x1)) && true), .inl (bif am_cb .lt x1 2 then 11 else 9, [(0, am_pv 0), (1, am_iv x1)], [], am_SH, (J, K, am_RF b))) from rfl) (am_g2 (by decide) g1292 rfl) (decide_eq_false c1294) ?_
      obtain rfl := Option.some.inj h
      exact am_r_ret (show am_stepn X T_UpRiver_keep 2 true (9, [(0, am_pv 0), (1, am_iv x1)], [], am_SH, (J, K, am_RF b)) = some (true, .inr (.inr (some (am_iv (-1)), am_SH, (J, K, am_RF b)))) from rfl) rfl
theorem s_UpRiver_back {X : am_X} {b : Bool} {K : am_K} {x1 : Int} {J : am_J} {r : Int × am_J} (h : f_UpRiver_back  x1 J = some r) : am_runs X T_UpRiver_back (0, [(0, am_pv 0), (1, am_iv x1)], [], am_SH, (J, K, am_RF b)) (some (am_iv r.1), am_SH, (r.2, K, am_RF b)) := by
  unfold f_UpRiver_back at h
  obtain ⟨g1305, h⟩ := am_if_some h
  by_cases c1306 : x1 < 0
  · rw [if_pos c1306] at h
    refine am_r_t (show am_stepn X T_UpRiver_back 2 true (0, [(0, am_pv 0), (1, am_iv x1)], [], am_SH, (J, K, am_RF b)) = some ((decide (am_i32 x1) && true), .inl (bif am_cb .lt x1 0 then 9 else 4, [(0, am_pv 0), (1, am_iv x1)], [], am_SH, (J, K, am_RF b))) from rfl) (am_g1 g1305 rfl) (decide_eq_true c1306) ?_
    obtain rfl := Option.some.inj h
    exact am_r_ret (show am_stepn X T_UpRiver_back 2 true (9, [(0, am_pv 0), (1, am_iv x1)], [], am_SH, (J, K, am_RF b)) = some (true, .inr (.inr (some (am_iv (-1)), am_SH, (J, K, am_RF b)))) from rfl) rfl
  · rw [if_neg c1306] at h
    refine am_r_f (show am_stepn X T_UpRiver_back 2 true (0, [(0, am_pv 0), (1, am_iv x1)], [], am_SH, (J, K, am_RF b)) = some ((decide (am_i32 x1) && true), .inl (bif am_cb .lt x1 0 then 9 else 4, [(0, am_pv 0), (1, am_iv x1)], [], am_SH, (J, K, am_RF b))) from rfl) (am_g1 g1305 rfl) (decide_eq_false c1306) ?_
    by_cases c1307 : x1 < 2
    · rw [if_pos c1307] at h
      refine am_r_t (show am_stepn X T_UpRiver_back 3 true (4, [(0, am_pv 0), (1, am_iv x1)], [], am_SH, (J, K, am_RF b)) = some (((decide (am_i32 2) && decide (am_i32 x1)) && true), .inl (bif am_cb .lt x1 2 then 11 else 9, [(0, am_pv 0), (1, am_iv x1)], [], am_SH, (J, K, am_RF b))) from rfl) (am_g2 (by decide) g1305 rfl) (decide_eq_true c1307) ?_
      by_cases c1308 : x1 = 0
      · rw [if_pos c1308] at h
        revert h
        subst c1308
        intro h
        obtain ⟨g1309, h⟩ := am_if_some h
        by_cases c1310 : (J 43 3) = 0
        · rw [if_pos c1310] at h
          refine am_r_f (show am_stepn X T_UpRiver_back 6 true (11, [(0, am_pv 0), (1, am_iv 0)], [], am_SH, (J, K, am_RF b)) = some ((decide (am_i32 (J 43 3)) && (am_in 0 2 && true)), .inl (bif am_cb .ne (J 43 3) 0 then 26 else 23, [(0, am_pv 0), (1, am_iv 0)], [], am_SH, (J, K, am_RF b))) from rfl) (am_g1 g1309 (am_gi (by decide) rfl)) (am_nd_t c1310) ?_
          obtain rfl := Option.some.inj h
          exact am_r_ret (show am_stepn X T_UpRiver_back 2 true (23, [(0, am_pv 0), (1, am_iv 0)], [], am_SH, (J, K, am_RF b)) = some (true, .inr (.inr (some (am_iv (-2)), am_SH, (J, K, am_RF b)))) from rfl) rfl
        · rw [if_neg c1310] at h
          refine am_r_t (show am_stepn X T_UpRiver_back 6 true (11, [(0, am_pv 0), (1, am_iv 0)], [], am_SH, (J, K, am_RF b)) = some ((decide (am_i32 (J 43 3)) && (am_in 0 2 && true)), .inl (bif am_cb .ne (J 43 3) 0 then 26 else 23, [(0, am_pv 0), (1, am_iv 0)], [], am_SH, (J, K, am_RF b))) from rfl) (am_g1 g1309 (am_gi (by decide) rfl)) (am_nd_f c1310) ?_
          obtain ⟨q1311, e1312, h⟩ := am_bind_some h
          refine am_r_call (show am_stepn X T_UpRiver_back 7 true (26, [(0, am_pv 0), (1, am_iv 0)], [], am_SH, (J, K, am_RF b)) = some ((am_in 0 2 && true), .inr (.inl (131, [am_pv 17, am_pv 43], 2, 0, 0, 39, [(0, am_pv 0), (1, am_iv 0)], [], am_SH, (J, K, am_RF b)))) from rfl) (am_gi (by decide) rfl) tb_Voyage_take (s_Voyage_take (by decide) e1312) ?_
          obtain rfl := Option.some.inj h
          exact am_r_ret (show am_stepn X T_UpRiver_back 5 true (39, [(0, am_pv 0), (1, am_iv 0)], [], am_SH, (q1311, K, am_RF b)) = some (true, .inr (.inr (some (am_iv (q1311 18 3)), am_SH, (q1311, K, am_RF b)))) from rfl) rfl
      · rw [if_neg c1308] at h
        by_cases c1313 : x1 = 1
        · rw [if_pos c1313] at h
          revert h
          subst c1313
          intro h
          obtain ⟨g1314, h⟩ := am_if_some h
          by_cases c1315 : (J 50 3) = 0
          · rw [if_pos c1315] at h
            refine am_r_f (show am_stepn X T_UpRiver_back 6 true (11, [(0, am_pv 0), (1, am_iv 1)], [], am_SH, (J, K, am_RF b)) = some ((decide (am_i32 (J 50 3)) && (am_in 1 2 && true)), .inl (bif am_cb .ne (J 50 3) 0 then 26 else 23, [(0, am_pv 0), (1, am_iv 1)], [], am_SH, (J, K, am_RF b))) from rfl) (am_g1 g1314 (am_gi (by decide) rfl)) (am_nd_t c1315) ?_
            obtain rfl := Option.some.inj h
            exact am_r_ret (show am_stepn X T_UpRiver_back 2 true (23, [(0, am_pv 0), (1, am_iv 1)], [], am_SH, (J, K, am_RF b)) = some (true, .inr (.inr (some (am_iv (-2)), am_SH, (J, K, am_RF b)))) from rfl) rfl
          · rw [if_neg c1315] at h
            refine am_r_t (show am_stepn X T_UpRiver_back 6 true (11, [(0, am_pv 0), (1, am_iv 1)], [], am_SH, (J, K, am_RF b)) = some ((decide (am_i32 (J 50 3)) && (am_in 1 2 && true)), .inl (bif am_cb .ne (J 50 3) 0 then 26 else 23, [(0, am_pv 0), (1, am_iv 1)], [], am_SH, (J, K, am_RF b))) from rfl) (am_g1 g1314 (am_gi (by decide) rfl)) (am_nd_f c1315) ?_
            obtain ⟨q1316, e1317, h⟩ := am_bind_some h
            refine am_r_call (show am_stepn X T_UpRiver_back 7 true (26, [(0, am_pv 0), (1, am_iv 1)], [], am_SH, (J, K, am_RF b)) = some ((am_in 1 2 && true), .inr (.inl (131, [am_pv 17, am_pv 50], 2, 0, 0, 39, [(0, am_pv 0), (1, am_iv 1)], [], am_SH, (J, K, am_RF b)))) from rfl) (am_gi (by decide) rfl) tb_Voyage_take (s_Voyage_take (by decide) e1317) ?_
            obtain rfl := Option.some.inj h
            exact am_r_ret (show am_stepn X T_UpRiver_back 5 true (39, [(0, am_pv 0), (1, am_iv 1)], [], am_SH, (q1316, K, am_RF b)) = some (true, .inr (.inr (some (am_iv (q1316 18 3)), am_SH, (q1316, K, am_RF b)))) from rfl) rfl
        · rw [if_neg c1313] at h
          cases h
    · rw [if_neg c1307] at h
      refine am_r_f (show am_stepn X T_UpRiver_back 3 true (4, [(0, am_pv 0), (1, am_iv x1)], [], am_SH, (J, K, am_RF b)) = some (((decide (am_i32 2) && decide (am_i32 x1)) && true), .inl (bif am_cb .lt x1 2 then 11 else 9, [(0, am_pv 0), (1, am_iv x1)], [], am_SH, (J, K, am_RF b))) from rfl) (am_g2 (by decide) g1305 rfl) (decide_eq_false c1307) ?_
      obtain rfl := Option.some.inj h
      exact am_r_ret (show am_stepn X T_UpRiver_back 2 true (9, [(0, am_pv 0), (1, am_iv x1)], [], am_SH, (J, K, am_RF b)) = some (true, .inr (.inr (some (am_iv (-1)), am_SH, (J, K, am_RF b)))) from rfl) rfl
theorem s_UpRiver_isSheet {X : am_X} {b : Bool} {J : am_J} {K : am_K} {x0 : Int} {r : Int} (h : f_UpRiver_isSheet  x0 = some r) : am_runs X T_UpRiver_isSheet (0, [(0, am_iv x0)], [], am_SH, (J, K, am_RF b)) (some (am_iv r), am_SH, (J, K, am_RF b)) := by
  unfold f_UpRiver_isSheet at h
  obtain ⟨g1318, h⟩ := am_if_some h
  by_cases c1319 : x0 < 0
  · rw [if_pos c1319] at h
    refine am_r_t (show am_stepn X T_UpRiver_isSheet 2 true (0, [(0, am_iv x0)], [], am_SH, (J, K, am_RF b)) = some ((decide (am_i32 x0) && true), .inl (bif am_cb .lt x0 0 then 13 else 4, [(0, am_iv x0)], [], am_SH, (J, K, am_RF b))) from rfl) (am_g1 g1318 rfl) (decide_eq_true c1319) ?_
    obtain rfl := Option.some.inj h
    exact am_r_ret (show am_stepn X T_UpRiver_isSheet 2 true (13, [(0, am_iv x0)], [], am_SH, (J, K, am_RF b)) = some ((decide ((0 : Int) = 0 ∨ (0 : Int) = 1) && true), .inr (.inr (some (am_iv 0), am_SH, (J, K, am_RF b)))) from rfl) (am_g1 (by decide) rfl)
  · rw [if_neg c1319] at h
    refine am_r_f (show am_stepn X T_UpRiver_isSheet 2 true (0, [(0, am_iv x0)], [], am_SH, (J, K, am_RF b)) = some ((decide (am_i32 x0) && true), .inl (bif am_cb .lt x0 0 then 13 else 4, [(0, am_iv x0)], [], am_SH, (J, K, am_RF b))) from rfl) (am_g1 g1318 rfl) (decide_eq_false c1319) ?_
    by_cases c1320 : x0 < 4
    · rw [if_pos c1320] at h
      refine am_r_f (show am_stepn X T_UpRiver_isSheet 3 true (4, [(0, am_iv x0)], [], am_SH, (J, K, am_RF b)) = some (((decide (am_i32 4) && decide (am_i32 x0)) && true), .inl (bif am_cb .ge x0 4 then 13 else 9, [(0, am_iv x0)], [], am_SH, (J, K, am_RF b))) from rfl) (am_g2 (by decide) g1318 rfl) (am_nd_t c1320) ?_
      obtain rfl := Option.some.inj h
      exact am_r_ret (show am_stepn X T_UpRiver_isSheet 3 true (9, [(0, am_iv x0)], [], am_SH, (J, K, am_RF b)) = some ((decide ((1 : Int) = 0 ∨ (1 : Int) = 1) && true), .inr (.inr (some (am_iv 1), am_SH, (J, K, am_RF b)))) from rfl) (am_g1 (by decide) rfl)
    · rw [if_neg c1320] at h
      refine am_r_t (show am_stepn X T_UpRiver_isSheet 3 true (4, [(0, am_iv x0)], [], am_SH, (J, K, am_RF b)) = some (((decide (am_i32 4) && decide (am_i32 x0)) && true), .inl (bif am_cb .ge x0 4 then 13 else 9, [(0, am_iv x0)], [], am_SH, (J, K, am_RF b))) from rfl) (am_g2 (by decide) g1318 rfl) (am_nd_f c1320) ?_
      obtain rfl := Option.some.inj h
      exact am_r_ret (show am_stepn X T_UpRiver_isSheet 2 true (13, [(0, am_iv x0)], [], am_SH, (J, K, am_RF b)) = some ((decide ((0 : Int) = 0 ∨ (0 : Int) = 1) && true), .inr (.inr (some (am_iv 0), am_SH, (J, K, am_RF b)))) from rfl) (am_g1 (by decide) rfl)
theorem s_Sheet_isKind {X : am_X} {b : Bool} {J : am_J} {K : am_K} {x0 : Int} {r : Int} (h : f_Sheet_isKind  x0 = some r) : am_runs X T_Sheet_isKind (0, [(0, am_iv x0)], [], am_SH, (J, K, am_RF b)) (some (am_iv r), am_SH, (J, K, am_RF b)) := by
  unfold f_Sheet_isKind at h
  obtain ⟨g1321, h⟩ := am_if_some h
  by_cases c1322 : x0 < 0
  · rw [if_pos c1322] at h
    refine am_r_t (show am_stepn X T_Sheet_isKind 2 true (0, [(0, am_iv x0)], [], am_SH, (J, K, am_RF b)) = some ((decide (am_i32 x0) && true), .inl (bif am_cb .lt x0 0 then 13 else 4, [(0, am_iv x0)], [], am_SH, (J, K, am_RF b))) from rfl) (am_g1 g1321 rfl) (decide_eq_true c1322) ?_
    obtain rfl := Option.some.inj h
    exact am_r_ret (show am_stepn X T_Sheet_isKind 2 true (13, [(0, am_iv x0)], [], am_SH, (J, K, am_RF b)) = some ((decide ((0 : Int) = 0 ∨ (0 : Int) = 1) && true), .inr (.inr (some (am_iv 0), am_SH, (J, K, am_RF b)))) from rfl) (am_g1 (by decide) rfl)
  · rw [if_neg c1322] at h
    refine am_r_f (show am_stepn X T_Sheet_isKind 2 true (0, [(0, am_iv x0)], [], am_SH, (J, K, am_RF b)) = some ((decide (am_i32 x0) && true), .inl (bif am_cb .lt x0 0 then 13 else 4, [(0, am_iv x0)], [], am_SH, (J, K, am_RF b))) from rfl) (am_g1 g1321 rfl) (decide_eq_false c1322) ?_
    by_cases c1323 : 2 < x0
    · rw [if_pos c1323] at h
      refine am_r_t (show am_stepn X T_Sheet_isKind 3 true (4, [(0, am_iv x0)], [], am_SH, (J, K, am_RF b)) = some (((decide (am_i32 2) && decide (am_i32 x0)) && true), .inl (bif am_cb .gt x0 2 then 13 else 9, [(0, am_iv x0)], [], am_SH, (J, K, am_RF b))) from rfl) (am_g2 (by decide) g1321 rfl) (decide_eq_true c1323) ?_
      obtain rfl := Option.some.inj h
      exact am_r_ret (show am_stepn X T_Sheet_isKind 2 true (13, [(0, am_iv x0)], [], am_SH, (J, K, am_RF b)) = some ((decide ((0 : Int) = 0 ∨ (0 : Int) = 1) && true), .inr (.inr (some (am_iv 0), am_SH, (J, K, am_RF b)))) from rfl) (am_g1 (by decide) rfl)
    · rw [if_neg c1323] at h
      refine am_r_f (show am_stepn X T_Sheet_isKind 3 true (4, [(0, am_iv x0)], [], am_SH, (J, K, am_RF b)) = some (((decide (am_i32 2) && decide (am_i32 x0)) && true), .inl (bif am_cb .gt x0 2 then 13 else 9, [(0, am_iv x0)], [], am_SH, (J, K, am_RF b))) from rfl) (am_g2 (by decide) g1321 rfl) (decide_eq_false c1323) ?_
      obtain rfl := Option.some.inj h
      exact am_r_ret (show am_stepn X T_Sheet_isKind 3 true (9, [(0, am_iv x0)], [], am_SH, (J, K, am_RF b)) = some ((decide ((1 : Int) = 0 ∨ (1 : Int) = 1) && true), .inr (.inr (some (am_iv 1), am_SH, (J, K, am_RF b)))) from rfl) (am_g1 (by decide) rfl)
theorem s_Sheet_renew_L12_57_ {X : am_X} {b : Bool} {K : am_K}  : ∀ (n : Nat) (x3 : Int) (J : am_J) (r : am_J), f_Sheet_renew_L12 57  n x3 J = some r → am_runs X T_Sheet_renew (12, [(0, am_pv 57), (3, am_iv x3)], [], am_SH, (J, K, am_RF b)) (none, am_SH, (r, K, am_RF b)) := by
  intro n
  induction n with
  | zero =>
    intro x3 J r h
    cases h
  | succ n ih =>
    intro x3 J r h
    rw [f_Sheet_renew_L12.eq_2] at h
    obtain ⟨g1324, h⟩ := am_if_some h
    by_cases c1325 : x3 < 40
    · rw [if_pos c1325] at h
      refine am_r_f (show am_stepn X T_Sheet_renew 3 true (12, [(0, am_pv 57), (3, am_iv x3)], [], am_SH, (J, K, am_RF b)) = some (((decide (am_i32 40) && decide (am_i32 x3)) && true), .inl (bif am_cb .ge x3 40 then 31 else 18, [(0, am_pv 57), (3, am_iv x3)], [], am_SH, (J, K, am_RF b))) from rfl) (am_g2 (by decide) g1324 rfl) (am_nd_t c1325) ?_
      obtain ⟨g1326, h⟩ := am_if_some h
      refine am_r_go (show am_stepn X T_Sheet_renew 7 true (18, [(0, am_pv 57), (3, am_iv x3)], [], am_SH, (J, K, am_RF b)) = some ((am_in x3 40 && true), .inl (12, [(0, am_pv 57), (3, am_iv (x3 + 1))], [], am_SH, ((am_up J (57 + 1) x3.toNat 0), K, am_RF b))) from rfl) (am_gi g1326 rfl) ?_
      exact ih _ _ _ h
    · rw [if_neg c1325] at h
      refine am_r_t (show am_stepn X T_Sheet_renew 3 true (12, [(0, am_pv 57), (3, am_iv x3)], [], am_SH, (J, K, am_RF b)) = some (((decide (am_i32 40) && decide (am_i32 x3)) && true), .inl (bif am_cb .ge x3 40 then 31 else 18, [(0, am_pv 57), (3, am_iv x3)], [], am_SH, (J, K, am_RF b))) from rfl) (am_g2 (by decide) g1324 rfl) (am_nd_f c1325) ?_
      obtain rfl := Option.some.inj h
      exact am_r_ret (show am_stepn X T_Sheet_renew 1 true (31, [(0, am_pv 57), (3, am_iv x3)], [], am_SH, (J, K, am_RF b)) = some (true, .inr (.inr (none, am_SH, (J, K, am_RF b)))) from rfl) rfl
theorem s_Sheet_renew_57_ {X : am_X} {b : Bool} {K : am_K} {x1 : Int} {x2 : Int} {J : am_J} {r : am_J} (h : f_Sheet_renew 57 x1 x2 J = some r) : am_runs X T_Sheet_renew (0, [(0, am_pv 57), (1, am_iv x1), (2, am_iv x2)], [], am_SH, (J, K, am_RF b)) (none, am_SH, (r, K, am_RF b)) := by
  unfold f_Sheet_renew at h
  refine am_r_go (show am_stepn X T_Sheet_renew 8 true (0, [(0, am_pv 57), (1, am_iv x1), (2, am_iv x2)], [], am_SH, (J, K, am_RF b)) = some (true, .inl (12, [(0, am_pv 57), (1, am_iv x1), (2, am_iv x2), (3, am_iv 0)], [], am_SH, ((am_up (am_up J 57 1 x1) 57 2 x2), K, am_RF b))) from rfl) rfl ?_
  refine am_r_eq (σ' := (12, [(0, am_pv 57), (3, am_iv 0)], [], am_SH, ((am_up (am_up J 57 1 x1) 57 2 x2), K, am_RF b))) rfl ?_
  exact s_Sheet_renew_L12_57_  _ _ _ _ h
theorem s_Sheet_renew_L12_59_ {X : am_X} {b : Bool} {K : am_K}  : ∀ (n : Nat) (x3 : Int) (J : am_J) (r : am_J), f_Sheet_renew_L12 59  n x3 J = some r → am_runs X T_Sheet_renew (12, [(0, am_pv 59), (3, am_iv x3)], [], am_SH, (J, K, am_RF b)) (none, am_SH, (r, K, am_RF b)) := by
  intro n
  induction n with
  | zero =>
    intro x3 J r h
    cases h
  | succ n ih =>
    intro x3 J r h
    rw [f_Sheet_renew_L12.eq_2] at h
    obtain ⟨g1324, h⟩ := am_if_some h
    by_cases c1325 : x3 < 40
    · rw [if_pos c1325] at h
      refine am_r_f (show am_stepn X T_Sheet_renew 3 true (12, [(0, am_pv 59), (3, am_iv x3)], [], am_SH, (J, K, am_RF b)) = some (((decide (am_i32 40) && decide (am_i32 x3)) && true), .inl (bif am_cb .ge x3 40 then 31 else 18, [(0, am_pv 59), (3, am_iv x3)], [], am_SH, (J, K, am_RF b))) from rfl) (am_g2 (by decide) g1324 rfl) (am_nd_t c1325) ?_
      obtain ⟨g1326, h⟩ := am_if_some h
      refine am_r_go (show am_stepn X T_Sheet_renew 7 true (18, [(0, am_pv 59), (3, am_iv x3)], [], am_SH, (J, K, am_RF b)) = some ((am_in x3 40 && true), .inl (12, [(0, am_pv 59), (3, am_iv (x3 + 1))], [], am_SH, ((am_up J (59 + 1) x3.toNat 0), K, am_RF b))) from rfl) (am_gi g1326 rfl) ?_
      exact ih _ _ _ h
    · rw [if_neg c1325] at h
      refine am_r_t (show am_stepn X T_Sheet_renew 3 true (12, [(0, am_pv 59), (3, am_iv x3)], [], am_SH, (J, K, am_RF b)) = some (((decide (am_i32 40) && decide (am_i32 x3)) && true), .inl (bif am_cb .ge x3 40 then 31 else 18, [(0, am_pv 59), (3, am_iv x3)], [], am_SH, (J, K, am_RF b))) from rfl) (am_g2 (by decide) g1324 rfl) (am_nd_f c1325) ?_
      obtain rfl := Option.some.inj h
      exact am_r_ret (show am_stepn X T_Sheet_renew 1 true (31, [(0, am_pv 59), (3, am_iv x3)], [], am_SH, (J, K, am_RF b)) = some (true, .inr (.inr (none, am_SH, (J, K, am_RF b)))) from rfl) rfl
theorem s_Sheet_renew_59_ {X : am_X} {b : Bool} {K : am_K} {x1 : Int} {x2 : Int} {J : am_J} {r : am_J} (h : f_Sheet_renew 59 x1 x2 J = some r) : am_runs X T_Sheet_renew (0, [(0, am_pv 59), (1, am_iv x1), (2, am_iv x2)], [], am_SH, (J, K, am_RF b)) (none, am_SH, (r, K, am_RF b)) := by
  unfold f_Sheet_renew at h
  refine am_r_go (show am_stepn X T_Sheet_renew 8 true (0, [(0, am_pv 59), (1, am_iv x1), (2, am_iv x2)], [], am_SH, (J, K, am_RF b)) = some (true, .inl (12, [(0, am_pv 59), (1, am_iv x1), (2, am_iv x2), (3, am_iv 0)], [], am_SH, ((am_up (am_up J 59 1 x1) 59 2 x2), K, am_RF b))) from rfl) rfl ?_
  refine am_r_eq (σ' := (12, [(0, am_pv 59), (3, am_iv 0)], [], am_SH, ((am_up (am_up J 59 1 x1) 59 2 x2), K, am_RF b))) rfl ?_
  exact s_Sheet_renew_L12_59_  _ _ _ _ h
theorem s_Sheet_renew_L12_61_ {X : am_X} {b : Bool} {K : am_K}  : ∀ (n : Nat) (x3 : Int) (J : am_J) (r : am_J), f_Sheet_renew_L12 61  n x3 J = some r → am_runs X T_Sheet_renew (12, [(0, am_pv 61), (3, am_iv x3)], [], am_SH, (J, K, am_RF b)) (none, am_SH, (r, K, am_RF b)) := by
  intro n
  induction n with
  | zero =>
    intro x3 J r h
    cases h
  | succ n ih =>
    intro x3 J r h
    rw [f_Sheet_renew_L12.eq_2] at h
    obtain ⟨g1324, h⟩ := am_if_some h
    by_cases c1325 : x3 < 40
    · rw [if_pos c1325] at h
      refine am_r_f (show am_stepn X T_Sheet_renew 3 true (12, [(0, am_pv 61), (3, am_iv x3)], [], am_SH, (J, K, am_RF b)) = some (((decide (am_i32 40) && decide (am_i32 x3)) && true), .inl (bif am_cb .ge x3 40 then 31 else 18, [(0, am_pv 61), (3, am_iv x3)], [], am_SH, (J, K, am_RF b))) from rfl) (am_g2 (by decide) g1324 rfl) (am_nd_t c1325) ?_
      obtain ⟨g1326, h⟩ := am_if_some h
      refine am_r_go (show am_stepn X T_Sheet_renew 7 true (18, [(0, am_pv 61), (3, am_iv x3)], [], am_SH, (J, K, am_RF b)) = some ((am_in x3 40 && true), .inl (12, [(0, am_pv 61), (3, am_iv (x3 + 1))], [], am_SH, ((am_up J (61 + 1) x3.toNat 0), K, am_RF b))) from rfl) (am_gi g1326 rfl) ?_
      exact ih _ _ _ h
    · rw [if_neg c1325] at h
      refine am_r_t (show am_stepn X T_Sheet_renew 3 true (12, [(0, am_pv 61), (3, am_iv x3)], [], am_SH, (J, K, am_RF b)) = some (((decide (am_i32 40) && decide (am_i32 x3)) && true), .inl (bif am_cb .ge x3 40 then 31 else 18, [(0, am_pv 61), (3, am_iv x3)], [], am_SH, (J, K, am_RF b))) from rfl) (am_g2 (by decide) g1324 rfl) (am_nd_f c1325) ?_
      obtain rfl := Option.some.inj h
      exact am_r_ret (show am_stepn X T_Sheet_renew 1 true (31, [(0, am_pv 61), (3, am_iv x3)], [], am_SH, (J, K, am_RF b)) = some (true, .inr (.inr (none, am_SH, (J, K, am_RF b)))) from rfl) rfl
theorem s_Sheet_renew_61_ {X : am_X} {b : Bool} {K : am_K} {x1 : Int} {x2 : Int} {J : am_J} {r : am_J} (h : f_Sheet_renew 61 x1 x2 J = some r) : am_runs X T_Sheet_renew (0, [(0, am_pv 61), (1, am_iv x1), (2, am_iv x2)], [], am_SH, (J, K, am_RF b)) (none, am_SH, (r, K, am_RF b)) := by
  unfold f_Sheet_renew at h
  refine am_r_go (show am_stepn X T_Sheet_renew 8 true (0, [(0, am_pv 61), (1, am_iv x1), (2, am_iv x2)], [], am_SH, (J, K, am_RF b)) = some (true, .inl (12, [(0, am_pv 61), (1, am_iv x1), (2, am_iv x2), (3, am_iv 0)], [], am_SH, ((am_up (am_up J 61 1 x1) 61 2 x2), K, am_RF b))) from rfl) rfl ?_
  refine am_r_eq (σ' := (12, [(0, am_pv 61), (3, am_iv 0)], [], am_SH, ((am_up (am_up J 61 1 x1) 61 2 x2), K, am_RF b))) rfl ?_
  exact s_Sheet_renew_L12_61_  _ _ _ _ h
theorem s_Sheet_renew_L12_63_ {X : am_X} {b : Bool} {K : am_K}  : ∀ (n : Nat) (x3 : Int) (J : am_J) (r : am_J), f_Sheet_renew_L12 63  n x3 J = some r → am_runs X T_Sheet_renew (12, [(0, am_pv 63), (3, am_iv x3)], [], am_SH, (J, K, am_RF b)) (none, am_SH, (r, K, am_RF b)) := by
  intro n
  induction n with
  | zero =>
    intro x3 J r h
    cases h
  | succ n ih =>
    intro x3 J r h
    rw [f_Sheet_renew_L12.eq_2] at h
    obtain ⟨g1324, h⟩ := am_if_some h
    by_cases c1325 : x3 < 40
    · rw [if_pos c1325] at h
      refine am_r_f (show am_stepn X T_Sheet_renew 3 true (12, [(0, am_pv 63), (3, am_iv x3)], [], am_SH, (J, K, am_RF b)) = some (((decide (am_i32 40) && decide (am_i32 x3)) && true), .inl (bif am_cb .ge x3 40 then 31 else 18, [(0, am_pv 63), (3, am_iv x3)], [], am_SH, (J, K, am_RF b))) from rfl) (am_g2 (by decide) g1324 rfl) (am_nd_t c1325) ?_
      obtain ⟨g1326, h⟩ := am_if_some h
      refine am_r_go (show am_stepn X T_Sheet_renew 7 true (18, [(0, am_pv 63), (3, am_iv x3)], [], am_SH, (J, K, am_RF b)) = some ((am_in x3 40 && true), .inl (12, [(0, am_pv 63), (3, am_iv (x3 + 1))], [], am_SH, ((am_up J (63 + 1) x3.toNat 0), K, am_RF b))) from rfl) (am_gi g1326 rfl) ?_
      exact ih _ _ _ h
    · rw [if_neg c1325] at h
      refine am_r_t (show am_stepn X T_Sheet_renew 3 true (12, [(0, am_pv 63), (3, am_iv x3)], [], am_SH, (J, K, am_RF b)) = some (((decide (am_i32 40) && decide (am_i32 x3)) && true), .inl (bif am_cb .ge x3 40 then 31 else 18, [(0, am_pv 63), (3, am_iv x3)], [], am_SH, (J, K, am_RF b))) from rfl) (am_g2 (by decide) g1324 rfl) (am_nd_f c1325) ?_
      obtain rfl := Option.some.inj h
      exact am_r_ret (show am_stepn X T_Sheet_renew 1 true (31, [(0, am_pv 63), (3, am_iv x3)], [], am_SH, (J, K, am_RF b)) = some (true, .inr (.inr (none, am_SH, (J, K, am_RF b)))) from rfl) rfl
theorem s_Sheet_renew_63_ {X : am_X} {b : Bool} {K : am_K} {x1 : Int} {x2 : Int} {J : am_J} {r : am_J} (h : f_Sheet_renew 63 x1 x2 J = some r) : am_runs X T_Sheet_renew (0, [(0, am_pv 63), (1, am_iv x1), (2, am_iv x2)], [], am_SH, (J, K, am_RF b)) (none, am_SH, (r, K, am_RF b)) := by
  unfold f_Sheet_renew at h
  refine am_r_go (show am_stepn X T_Sheet_renew 8 true (0, [(0, am_pv 63), (1, am_iv x1), (2, am_iv x2)], [], am_SH, (J, K, am_RF b)) = some (true, .inl (12, [(0, am_pv 63), (1, am_iv x1), (2, am_iv x2), (3, am_iv 0)], [], am_SH, ((am_up (am_up J 63 1 x1) 63 2 x2), K, am_RF b))) from rfl) rfl ?_
  refine am_r_eq (σ' := (12, [(0, am_pv 63), (3, am_iv 0)], [], am_SH, ((am_up (am_up J 63 1 x1) 63 2 x2), K, am_RF b))) rfl ?_
  exact s_Sheet_renew_L12_63_  _ _ _ _ h
theorem s_Sheet_renew {X : am_X} {b : Bool} {o1 : Nat} (ho : o1 = 57 ∨ o1 = 59 ∨ o1 = 61 ∨ o1 = 63) {K : am_K} {x1 : Int} {x2 : Int} {J : am_J} {r : am_J} (h : f_Sheet_renew o1 x1 x2 J = some r) : am_runs X T_Sheet_renew (0, [(0, am_pv o1), (1, am_iv x1), (2, am_iv x2)], [], am_SH, (J, K, am_RF b)) (none, am_SH, (r, K, am_RF b)) := by
  rcases ho with rfl | rfl | rfl | rfl
  · skip
    exact s_Sheet_renew_57_ h
  · skip
    exact s_Sheet_renew_59_ h
  · skip
    exact s_Sheet_renew_61_ h
  · skip
    exact s_Sheet_renew_63_ h
theorem s_UpRiver_sheet {X : am_X} {b : Bool} {K : am_K} {x1 : Int} {x2 : Int} {x3 : Int} {J : am_J} {r : Int × am_J} (h : f_UpRiver_sheet  x1 x2 x3 J = some r) : am_runs X T_UpRiver_sheet (0, [(0, am_pv 0), (1, am_iv x1), (2, am_iv x2), (3, am_iv x3)], [], am_SH, (J, K, am_RF b)) (some (am_iv r.1), am_SH, (r.2, K, am_RF b)) := by
  unfold f_UpRiver_sheet at h
  obtain ⟨q1327, e1328, h⟩ := am_bind_some h
  refine am_r_call (show am_stepn X T_UpRiver_sheet 2 true (0, [(0, am_pv 0), (1, am_iv x1), (2, am_iv x2), (3, am_iv x3)], [], am_SH, (J, K, am_RF b)) = some (true, .inr (.inl (136, [am_iv x1], 1, 0, 0, 4, [(0, am_pv 0), (1, am_iv x1), (2, am_iv x2), (3, am_iv x3)], [], am_SH, (J, K, am_RF b)))) from rfl) rfl tb_UpRiver_isSheet (s_UpRiver_isSheet e1328) ?_
  obtain ⟨g1329, h⟩ := am_if_some h
  by_cases c1330 : q1327 = 0
  · rw [if_pos c1330] at h
    refine am_r_t (show am_stepn X T_UpRiver_sheet 1 true (4, [(0, am_pv 0), (1, am_iv x1), (2, am_iv x2), (3, am_iv x3)], [am_iv q1327], am_SH, (J, K, am_RF b)) = some ((decide (am_i32 q1327) && true), .inl (bif am_cb .eq q1327 0 then 20 else 7, [(0, am_pv 0), (1, am_iv x1), (2, am_iv x2), (3, am_iv x3)], [], am_SH, (J, K, am_RF b))) from rfl) (am_g1 g1329 rfl) (decide_eq_true c1330) ?_
    obtain rfl := Option.some.inj h
    exact am_r_ret (show am_stepn X T_UpRiver_sheet 2 true (20, [(0, am_pv 0), (1, am_iv x1), (2, am_iv x2), (3, am_iv x3)], [], am_SH, (J, K, am_RF b)) = some (true, .inr (.inr (some (am_iv (-1)), am_SH, (J, K, am_RF b)))) from rfl) rfl
  · rw [if_neg c1330] at h
    refine am_r_f (show am_stepn X T_UpRiver_sheet 1 true (4, [(0, am_pv 0), (1, am_iv x1), (2, am_iv x2), (3, am_iv x3)], [am_iv q1327], am_SH, (J, K, am_RF b)) = some ((decide (am_i32 q1327) && true), .inl (bif am_cb .eq q1327 0 then 20 else 7, [(0, am_pv 0), (1, am_iv x1), (2, am_iv x2), (3, am_iv x3)], [], am_SH, (J, K, am_RF b))) from rfl) (am_g1 g1329 rfl) (decide_eq_false c1330) ?_
    obtain ⟨q1331, e1332, h⟩ := am_bind_some h
    refine am_r_call (show am_stepn X T_UpRiver_sheet 2 true (7, [(0, am_pv 0), (1, am_iv x1), (2, am_iv x2), (3, am_iv x3)], [], am_SH, (J, K, am_RF b)) = some (true, .inr (.inl (137, [am_iv x2], 1, 0, 0, 11, [(0, am_pv 0), (1, am_iv x1), (2, am_iv x2), (3, am_iv x3)], [], am_SH, (J, K, am_RF b)))) from rfl) rfl tb_Sheet_isKind (s_Sheet_isKind e1332) ?_
    obtain ⟨g1333, h⟩ := am_if_some h
    by_cases c1334 : q1331 = 0
    · rw [if_pos c1334] at h
      refine am_r_t (show am_stepn X T_UpRiver_sheet 1 true (11, [(0, am_pv 0), (1, am_iv x1), (2, am_iv x2), (3, am_iv x3)], [am_iv q1331], am_SH, (J, K, am_RF b)) = some ((decide (am_i32 q1331) && true), .inl (bif am_cb .eq q1331 0 then 20 else 14, [(0, am_pv 0), (1, am_iv x1), (2, am_iv x2), (3, am_iv x3)], [], am_SH, (J, K, am_RF b))) from rfl) (am_g1 g1333 rfl) (decide_eq_true c1334) ?_
      obtain rfl := Option.some.inj h
      exact am_r_ret (show am_stepn X T_UpRiver_sheet 2 true (20, [(0, am_pv 0), (1, am_iv x1), (2, am_iv x2), (3, am_iv x3)], [], am_SH, (J, K, am_RF b)) = some (true, .inr (.inr (some (am_iv (-1)), am_SH, (J, K, am_RF b)))) from rfl) rfl
    · rw [if_neg c1334] at h
      refine am_r_f (show am_stepn X T_UpRiver_sheet 1 true (11, [(0, am_pv 0), (1, am_iv x1), (2, am_iv x2), (3, am_iv x3)], [am_iv q1331], am_SH, (J, K, am_RF b)) = some ((decide (am_i32 q1331) && true), .inl (bif am_cb .eq q1331 0 then 20 else 14, [(0, am_pv 0), (1, am_iv x1), (2, am_iv x2), (3, am_iv x3)], [], am_SH, (J, K, am_RF b))) from rfl) (am_g1 g1333 rfl) (decide_eq_false c1334) ?_
      obtain ⟨g1335, h⟩ := am_if_some h
      by_cases c1336 : 40 < x3
      · rw [if_pos c1336] at h
        refine am_r_f (show am_stepn X T_UpRiver_sheet 3 true (14, [(0, am_pv 0), (1, am_iv x1), (2, am_iv x2), (3, am_iv x3)], [], am_SH, (J, K, am_RF b)) = some (((decide (am_i32 40) && decide (am_i32 x3)) && true), .inl (bif am_cb .le x3 40 then 22 else 20, [(0, am_pv 0), (1, am_iv x1), (2, am_iv x2), (3, am_iv x3)], [], am_SH, (J, K, am_RF b))) from rfl) (am_g2 (by decide) g1335 rfl) (am_nd_t c1336) ?_
        obtain rfl := Option.some.inj h
        exact am_r_ret (show am_stepn X T_UpRiver_sheet 2 true (20, [(0, am_pv 0), (1, am_iv x1), (2, am_iv x2), (3, am_iv x3)], [], am_SH, (J, K, am_RF b)) = some (true, .inr (.inr (some (am_iv (-1)), am_SH, (J, K, am_RF b)))) from rfl) rfl
      · rw [if_neg c1336] at h
        refine am_r_t (show am_stepn X T_UpRiver_sheet 3 true (14, [(0, am_pv 0), (1, am_iv x1), (2, am_iv x2), (3, am_iv x3)], [], am_SH, (J, K, am_RF b)) = some (((decide (am_i32 40) && decide (am_i32 x3)) && true), .inl (bif am_cb .le x3 40 then 22 else 20, [(0, am_pv 0), (1, am_iv x1), (2, am_iv x2), (3, am_iv x3)], [], am_SH, (J, K, am_RF b))) from rfl) (am_g2 (by decide) g1335 rfl) (am_nd_f c1336) ?_
        by_cases c1337 : x3 < 0
        · rw [if_pos c1337] at h
          refine am_r_f (show am_stepn X T_UpRiver_sheet 2 true (22, [(0, am_pv 0), (1, am_iv x1), (2, am_iv x2), (3, am_iv x3)], [], am_SH, (J, K, am_RF b)) = some ((decide (am_i32 x3) && true), .inl (bif am_cb .ge x3 0 then 29 else 26, [(0, am_pv 0), (1, am_iv x1), (2, am_iv x2), (3, am_iv x3)], [], am_SH, (J, K, am_RF b))) from rfl) (am_g1 g1335 rfl) (am_nd_t c1337) ?_
          obtain rfl := Option.some.inj h
          exact am_r_ret (show am_stepn X T_UpRiver_sheet 2 true (26, [(0, am_pv 0), (1, am_iv x1), (2, am_iv x2), (3, am_iv x3)], [], am_SH, (J, K, am_RF b)) = some (true, .inr (.inr (some (am_iv (-14)), am_SH, (J, K, am_RF b)))) from rfl) rfl
        · rw [if_neg c1337] at h
          refine am_r_t (show am_stepn X T_UpRiver_sheet 2 true (22, [(0, am_pv 0), (1, am_iv x1), (2, am_iv x2), (3, am_iv x3)], [], am_SH, (J, K, am_RF b)) = some ((decide (am_i32 x3) && true), .inl (bif am_cb .ge x3 0 then 29 else 26, [(0, am_pv 0), (1, am_iv x1), (2, am_iv x2), (3, am_iv x3)], [], am_SH, (J, K, am_RF b))) from rfl) (am_g1 g1335 rfl) (am_nd_f c1337) ?_
          by_cases c1338 : x1 = 0
          · rw [if_pos c1338] at h
            revert h
            subst c1338
            intro h
            obtain ⟨q1339, e1340, h⟩ := am_bind_some h
            refine am_r_call (show am_stepn X T_UpRiver_sheet 7 true (29, [(0, am_pv 0), (1, am_iv 0), (2, am_iv x2), (3, am_iv x3)], [], am_SH, (J, K, am_RF b)) = some ((am_in 0 4 && true), .inr (.inl (138, [am_pv 57, am_iv x2, am_iv x3], 4, 0, 0, 40, [(0, am_pv 0), (1, am_iv 0), (2, am_iv x2), (3, am_iv x3)], [], am_SH, (J, K, am_RF b)))) from rfl) (am_gi (by decide) rfl) tb_Sheet_renew (s_Sheet_renew (by decide) e1340) ?_
            obtain rfl := Option.some.inj h
            exact am_r_ret (show am_stepn X T_UpRiver_sheet 2 true (40, [(0, am_pv 0), (1, am_iv 0), (2, am_iv x2), (3, am_iv x3)], [], am_SH, (q1339, K, am_RF b)) = some (true, .inr (.inr (some (am_iv 1), am_SH, (q1339, K, am_RF b)))) from rfl) rfl
          · rw [if_neg c1338] at h
            by_cases c1341 : x1 = 1
            · rw [if_pos c1341] at h
              revert h
              subst c1341
              intro h
              obtain ⟨q1342, e1343, h⟩ := am_bind_some h
              refine am_r_call (show am_stepn X T_UpRiver_sheet 7 true (29, [(0, am_pv 0), (1, am_iv 1), (2, am_iv x2), (3, am_iv x3)], [], am_SH, (J, K, am_RF b)) = some ((am_in 1 4 && true), .inr (.inl (138, [am_pv 59, am_iv x2, am_iv x3], 4, 0, 0, 40, [(0, am_pv 0), (1, am_iv 1), (2, am_iv x2), (3, am_iv x3)], [], am_SH, (J, K, am_RF b)))) from rfl) (am_gi (by decide) rfl) tb_Sheet_renew (s_Sheet_renew (by decide) e1343) ?_
              obtain rfl := Option.some.inj h
              exact am_r_ret (show am_stepn X T_UpRiver_sheet 2 true (40, [(0, am_pv 0), (1, am_iv 1), (2, am_iv x2), (3, am_iv x3)], [], am_SH, (q1342, K, am_RF b)) = some (true, .inr (.inr (some (am_iv 1), am_SH, (q1342, K, am_RF b)))) from rfl) rfl
            · rw [if_neg c1341] at h
              by_cases c1344 : x1 = 2
              · rw [if_pos c1344] at h
                revert h
                subst c1344
                intro h
                obtain ⟨q1345, e1346, h⟩ := am_bind_some h
                refine am_r_call (show am_stepn X T_UpRiver_sheet 7 true (29, [(0, am_pv 0), (1, am_iv 2), (2, am_iv x2), (3, am_iv x3)], [], am_SH, (J, K, am_RF b)) = some ((am_in 2 4 && true), .inr (.inl (138, [am_pv 61, am_iv x2, am_iv x3], 4, 0, 0, 40, [(0, am_pv 0), (1, am_iv 2), (2, am_iv x2), (3, am_iv x3)], [], am_SH, (J, K, am_RF b)))) from rfl) (am_gi (by decide) rfl) tb_Sheet_renew (s_Sheet_renew (by decide) e1346) ?_
                obtain rfl := Option.some.inj h
                exact am_r_ret (show am_stepn X T_UpRiver_sheet 2 true (40, [(0, am_pv 0), (1, am_iv 2), (2, am_iv x2), (3, am_iv x3)], [], am_SH, (q1345, K, am_RF b)) = some (true, .inr (.inr (some (am_iv 1), am_SH, (q1345, K, am_RF b)))) from rfl) rfl
              · rw [if_neg c1344] at h
                by_cases c1347 : x1 = 3
                · rw [if_pos c1347] at h
                  revert h
                  subst c1347
                  intro h
                  obtain ⟨q1348, e1349, h⟩ := am_bind_some h
                  refine am_r_call (show am_stepn X T_UpRiver_sheet 7 true (29, [(0, am_pv 0), (1, am_iv 3), (2, am_iv x2), (3, am_iv x3)], [], am_SH, (J, K, am_RF b)) = some ((am_in 3 4 && true), .inr (.inl (138, [am_pv 63, am_iv x2, am_iv x3], 4, 0, 0, 40, [(0, am_pv 0), (1, am_iv 3), (2, am_iv x2), (3, am_iv x3)], [], am_SH, (J, K, am_RF b)))) from rfl) (am_gi (by decide) rfl) tb_Sheet_renew (s_Sheet_renew (by decide) e1349) ?_
                  obtain rfl := Option.some.inj h
                  exact am_r_ret (show am_stepn X T_UpRiver_sheet 2 true (40, [(0, am_pv 0), (1, am_iv 3), (2, am_iv x2), (3, am_iv x3)], [], am_SH, (q1348, K, am_RF b)) = some (true, .inr (.inr (some (am_iv 1), am_SH, (q1348, K, am_RF b)))) from rfl) rfl
                · rw [if_neg c1347] at h
                  cases h
theorem s_Sheet_hasCell_57_ {X : am_X} {b : Bool} {J : am_J} {K : am_K} {y1 : Int64} {r : Int} (h : f_Sheet_hasCell 57 J y1 = some r) : am_runs X T_Sheet_hasCell (0, [(0, am_pv 57), (1, am_jv y1)], [], am_SH, (J, K, am_RF b)) (some (am_iv r), am_SH, (J, K, am_RF b)) := by
  unfold f_Sheet_hasCell at h
  obtain ⟨g1350, h⟩ := am_if_some h
  by_cases c1351 : (am_lcmp y1 (0 : Int64)) < 0
  · rw [if_pos c1351] at h
    refine am_r_t (show am_stepn X T_Sheet_hasCell 4 true (0, [(0, am_pv 57), (1, am_jv y1)], [], am_SH, (J, K, am_RF b)) = some ((decide (am_i32 (am_lcmp y1 (0 : Int64))) && true), .inl (bif am_cb .lt (am_lcmp y1 (0 : Int64)) 0 then 28 else 6, [(0, am_pv 57), (1, am_jv y1)], [], am_SH, (J, K, am_RF b))) from rfl) (am_g1 g1350 rfl) (decide_eq_true c1351) ?_
    obtain rfl := Option.some.inj h
    exact am_r_ret (show am_stepn X T_Sheet_hasCell 2 true (28, [(0, am_pv 57), (1, am_jv y1)], [], am_SH, (J, K, am_RF b)) = some ((decide ((0 : Int) = 0 ∨ (0 : Int) = 1) && true), .inr (.inr (some (am_iv 0), am_SH, (J, K, am_RF b)))) from rfl) (am_g1 (by decide) rfl)
  · rw [if_neg c1351] at h
    refine am_r_f (show am_stepn X T_Sheet_hasCell 4 true (0, [(0, am_pv 57), (1, am_jv y1)], [], am_SH, (J, K, am_RF b)) = some ((decide (am_i32 (am_lcmp y1 (0 : Int64))) && true), .inl (bif am_cb .lt (am_lcmp y1 (0 : Int64)) 0 then 28 else 6, [(0, am_pv 57), (1, am_jv y1)], [], am_SH, (J, K, am_RF b))) from rfl) (am_g1 g1350 rfl) (decide_eq_false c1351) ?_
    obtain ⟨g1352, h⟩ := am_if_some h
    by_cases c1353 : (am_lcmp y1 (am_i2l (J 57 2))) < 0
    · rw [if_pos c1353] at h
      refine am_r_f (show am_stepn X T_Sheet_hasCell 6 true (6, [(0, am_pv 57), (1, am_jv y1)], [], am_SH, (J, K, am_RF b)) = some ((decide (am_i32 (am_lcmp y1 (am_i2l (J 57 2)))) && true), .inl (bif am_cb .ge (am_lcmp y1 (am_i2l (J 57 2))) 0 then 28 else 16, [(0, am_pv 57), (1, am_jv y1)], [], am_SH, (J, K, am_RF b))) from rfl) (am_g1 g1352 rfl) (am_nd_t c1353) ?_
      obtain ⟨g1354, h⟩ := am_if_some h
      by_cases c1355 : (am_lcmp y1 (40 : Int64)) < 0
      · rw [if_pos c1355] at h
        refine am_r_f (show am_stepn X T_Sheet_hasCell 4 true (16, [(0, am_pv 57), (1, am_jv y1)], [], am_SH, (J, K, am_RF b)) = some ((decide (am_i32 (am_lcmp y1 (40 : Int64))) && true), .inl (bif am_cb .ge (am_lcmp y1 (40 : Int64)) 0 then 28 else 24, [(1, am_jv y1)], [], am_SH, (J, K, am_RF b))) from rfl) (am_g1 g1354 rfl) (am_nd_t c1355) ?_
        obtain rfl := Option.some.inj h
        exact am_r_ret (show am_stepn X T_Sheet_hasCell 3 true (24, [(1, am_jv y1)], [], am_SH, (J, K, am_RF b)) = some ((decide ((1 : Int) = 0 ∨ (1 : Int) = 1) && true), .inr (.inr (some (am_iv 1), am_SH, (J, K, am_RF b)))) from rfl) (am_g1 (by decide) rfl)
      · rw [if_neg c1355] at h
        refine am_r_t (show am_stepn X T_Sheet_hasCell 4 true (16, [(0, am_pv 57), (1, am_jv y1)], [], am_SH, (J, K, am_RF b)) = some ((decide (am_i32 (am_lcmp y1 (40 : Int64))) && true), .inl (bif am_cb .ge (am_lcmp y1 (40 : Int64)) 0 then 28 else 24, [(1, am_jv y1)], [], am_SH, (J, K, am_RF b))) from rfl) (am_g1 g1354 rfl) (am_nd_f c1355) ?_
        obtain rfl := Option.some.inj h
        exact am_r_ret (show am_stepn X T_Sheet_hasCell 2 true (28, [(1, am_jv y1)], [], am_SH, (J, K, am_RF b)) = some ((decide ((0 : Int) = 0 ∨ (0 : Int) = 1) && true), .inr (.inr (some (am_iv 0), am_SH, (J, K, am_RF b)))) from rfl) (am_g1 (by decide) rfl)
    · rw [if_neg c1353] at h
      refine am_r_t (show am_stepn X T_Sheet_hasCell 6 true (6, [(0, am_pv 57), (1, am_jv y1)], [], am_SH, (J, K, am_RF b)) = some ((decide (am_i32 (am_lcmp y1 (am_i2l (J 57 2)))) && true), .inl (bif am_cb .ge (am_lcmp y1 (am_i2l (J 57 2))) 0 then 28 else 16, [(0, am_pv 57), (1, am_jv y1)], [], am_SH, (J, K, am_RF b))) from rfl) (am_g1 g1352 rfl) (am_nd_f c1353) ?_
      obtain rfl := Option.some.inj h
      exact am_r_ret (show am_stepn X T_Sheet_hasCell 2 true (28, [(0, am_pv 57), (1, am_jv y1)], [], am_SH, (J, K, am_RF b)) = some ((decide ((0 : Int) = 0 ∨ (0 : Int) = 1) && true), .inr (.inr (some (am_iv 0), am_SH, (J, K, am_RF b)))) from rfl) (am_g1 (by decide) rfl)
theorem s_Sheet_hasCell_59_ {X : am_X} {b : Bool} {J : am_J} {K : am_K} {y1 : Int64} {r : Int} (h : f_Sheet_hasCell 59 J y1 = some r) : am_runs X T_Sheet_hasCell (0, [(0, am_pv 59), (1, am_jv y1)], [], am_SH, (J, K, am_RF b)) (some (am_iv r), am_SH, (J, K, am_RF b)) := by
  unfold f_Sheet_hasCell at h
  obtain ⟨g1350, h⟩ := am_if_some h
  by_cases c1351 : (am_lcmp y1 (0 : Int64)) < 0
  · rw [if_pos c1351] at h
    refine am_r_t (show am_stepn X T_Sheet_hasCell 4 true (0, [(0, am_pv 59), (1, am_jv y1)], [], am_SH, (J, K, am_RF b)) = some ((decide (am_i32 (am_lcmp y1 (0 : Int64))) && true), .inl (bif am_cb .lt (am_lcmp y1 (0 : Int64)) 0 then 28 else 6, [(0, am_pv 59), (1, am_jv y1)], [], am_SH, (J, K, am_RF b))) from rfl) (am_g1 g1350 rfl) (decide_eq_true c1351) ?_
    obtain rfl := Option.some.inj h
    exact am_r_ret (show am_stepn X T_Sheet_hasCell 2 true (28, [(0, am_pv 59), (1, am_jv y1)], [], am_SH, (J, K, am_RF b)) = some ((decide ((0 : Int) = 0 ∨ (0 : Int) = 1) && true), .inr (.inr (some (am_iv 0), am_SH, (J, K, am_RF b)))) from rfl) (am_g1 (by decide) rfl)
  · rw [if_neg c1351] at h
    refine am_r_f (show am_stepn X T_Sheet_hasCell 4 true (0, [(0, am_pv 59), (1, am_jv y1)], [], am_SH, (J, K, am_RF b)) = some ((decide (am_i32 (am_lcmp y1 (0 : Int64))) && true), .inl (bif am_cb .lt (am_lcmp y1 (0 : Int64)) 0 then 28 else 6, [(0, am_pv 59), (1, am_jv y1)], [], am_SH, (J, K, am_RF b))) from rfl) (am_g1 g1350 rfl) (decide_eq_false c1351) ?_
    obtain ⟨g1352, h⟩ := am_if_some h
    by_cases c1353 : (am_lcmp y1 (am_i2l (J 59 2))) < 0
    · rw [if_pos c1353] at h
      refine am_r_f (show am_stepn X T_Sheet_hasCell 6 true (6, [(0, am_pv 59), (1, am_jv y1)], [], am_SH, (J, K, am_RF b)) = some ((decide (am_i32 (am_lcmp y1 (am_i2l (J 59 2)))) && true), .inl (bif am_cb .ge (am_lcmp y1 (am_i2l (J 59 2))) 0 then 28 else 16, [(0, am_pv 59), (1, am_jv y1)], [], am_SH, (J, K, am_RF b))) from rfl) (am_g1 g1352 rfl) (am_nd_t c1353) ?_
      obtain ⟨g1354, h⟩ := am_if_some h
      by_cases c1355 : (am_lcmp y1 (40 : Int64)) < 0
      · rw [if_pos c1355] at h
        refine am_r_f (show am_stepn X T_Sheet_hasCell 4 true (16, [(0, am_pv 59), (1, am_jv y1)], [], am_SH, (J, K, am_RF b)) = some ((decide (am_i32 (am_lcmp y1 (40 : Int64))) && true), .inl (bif am_cb .ge (am_lcmp y1 (40 : Int64)) 0 then 28 else 24, [(1, am_jv y1)], [], am_SH, (J, K, am_RF b))) from rfl) (am_g1 g1354 rfl) (am_nd_t c1355) ?_
        obtain rfl := Option.some.inj h
        exact am_r_ret (show am_stepn X T_Sheet_hasCell 3 true (24, [(1, am_jv y1)], [], am_SH, (J, K, am_RF b)) = some ((decide ((1 : Int) = 0 ∨ (1 : Int) = 1) && true), .inr (.inr (some (am_iv 1), am_SH, (J, K, am_RF b)))) from rfl) (am_g1 (by decide) rfl)
      · rw [if_neg c1355] at h
        refine am_r_t (show am_stepn X T_Sheet_hasCell 4 true (16, [(0, am_pv 59), (1, am_jv y1)], [], am_SH, (J, K, am_RF b)) = some ((decide (am_i32 (am_lcmp y1 (40 : Int64))) && true), .inl (bif am_cb .ge (am_lcmp y1 (40 : Int64)) 0 then 28 else 24, [(1, am_jv y1)], [], am_SH, (J, K, am_RF b))) from rfl) (am_g1 g1354 rfl) (am_nd_f c1355) ?_
        obtain rfl := Option.some.inj h
        exact am_r_ret (show am_stepn X T_Sheet_hasCell 2 true (28, [(1, am_jv y1)], [], am_SH, (J, K, am_RF b)) = some ((decide ((0 : Int) = 0 ∨ (0 : Int) = 1) && true), .inr (.inr (some (am_iv 0), am_SH, (J, K, am_RF b)))) from rfl) (am_g1 (by decide) rfl)
    · rw [if_neg c1353] at h
      refine am_r_t (show am_stepn X T_Sheet_hasCell 6 true (6, [(0, am_pv 59), (1, am_jv y1)], [], am_SH, (J, K, am_RF b)) = some ((decide (am_i32 (am_lcmp y1 (am_i2l (J 59 2)))) && true), .inl (bif am_cb .ge (am_lcmp y1 (am_i2l (J 59 2))) 0 then 28 else 16, [(0, am_pv 59), (1, am_jv y1)], [], am_SH, (J, K, am_RF b))) from rfl) (am_g1 g1352 rfl) (am_nd_f c1353) ?_
      obtain rfl := Option.some.inj h
      exact am_r_ret (show am_stepn X T_Sheet_hasCell 2 true (28, [(0, am_pv 59), (1, am_jv y1)], [], am_SH, (J, K, am_RF b)) = some ((decide ((0 : Int) = 0 ∨ (0 : Int) = 1) && true), .inr (.inr (some (am_iv 0), am_SH, (J, K, am_RF b)))) from rfl) (am_g1 (by decide) rfl)
theorem s_Sheet_hasCell_61_ {X : am_X} {b : Bool} {J : am_J} {K : am_K} {y1 : Int64} {r : Int} (h : f_Sheet_hasCell 61 J y1 = some r) : am_runs X T_Sheet_hasCell (0, [(0, am_pv 61), (1, am_jv y1)], [], am_SH, (J, K, am_RF b)) (some (am_iv r), am_SH, (J, K, am_RF b)) := by
  unfold f_Sheet_hasCell at h
  obtain ⟨g1350, h⟩ := am_if_some h
  by_cases c1351 : (am_lcmp y1 (0 : Int64)) < 0
  · rw [if_pos c1351] at h
    refine am_r_t (show am_stepn X T_Sheet_hasCell 4 true (0, [(0, am_pv 61), (1, am_jv y1)], [], am_SH, (J, K, am_RF b)) = some ((decide (am_i32 (am_lcmp y1 (0 : Int64))) && true), .inl (bif am_cb .lt (am_lcmp y1 (0 : Int64)) 0 then 28 else 6, [(0, am_pv 61), (1, am_jv y1)], [], am_SH, (J, K, am_RF b))) from rfl) (am_g1 g1350 rfl) (decide_eq_true c1351) ?_
    obtain rfl := Option.some.inj h
    exact am_r_ret (show am_stepn X T_Sheet_hasCell 2 true (28, [(0, am_pv 61), (1, am_jv y1)], [], am_SH, (J, K, am_RF b)) = some ((decide ((0 : Int) = 0 ∨ (0 : Int) = 1) && true), .inr (.inr (some (am_iv 0), am_SH, (J, K, am_RF b)))) from rfl) (am_g1 (by decide) rfl)
  · rw [if_neg c1351] at h
    refine am_r_f (show am_stepn X T_Sheet_hasCell 4 true (0, [(0, am_pv 61), (1, am_jv y1)], [], am_SH, (J, K, am_RF b)) = some ((decide (am_i32 (am_lcmp y1 (0 : Int64))) && true), .inl (bif am_cb .lt (am_lcmp y1 (0 : Int64)) 0 then 28 else 6, [(0, am_pv 61), (1, am_jv y1)], [], am_SH, (J, K, am_RF b))) from rfl) (am_g1 g1350 rfl) (decide_eq_false c1351) ?_
    obtain ⟨g1352, h⟩ := am_if_some h
    by_cases c1353 : (am_lcmp y1 (am_i2l (J 61 2))) < 0
    · rw [if_pos c1353] at h
      refine am_r_f (show am_stepn X T_Sheet_hasCell 6 true (6, [(0, am_pv 61), (1, am_jv y1)], [], am_SH, (J, K, am_RF b)) = some ((decide (am_i32 (am_lcmp y1 (am_i2l (J 61 2)))) && true), .inl (bif am_cb .ge (am_lcmp y1 (am_i2l (J 61 2))) 0 then 28 else 16, [(0, am_pv 61), (1, am_jv y1)], [], am_SH, (J, K, am_RF b))) from rfl) (am_g1 g1352 rfl) (am_nd_t c1353) ?_
      obtain ⟨g1354, h⟩ := am_if_some h
      by_cases c1355 : (am_lcmp y1 (40 : Int64)) < 0
      · rw [if_pos c1355] at h
        refine am_r_f (show am_stepn X T_Sheet_hasCell 4 true (16, [(0, am_pv 61), (1, am_jv y1)], [], am_SH, (J, K, am_RF b)) = some ((decide (am_i32 (am_lcmp y1 (40 : Int64))) && true), .inl (bif am_cb .ge (am_lcmp y1 (40 : Int64)) 0 then 28 else 24, [(1, am_jv y1)], [], am_SH, (J, K, am_RF b))) from rfl) (am_g1 g1354 rfl) (am_nd_t c1355) ?_
        obtain rfl := Option.some.inj h
        exact am_r_ret (show am_stepn X T_Sheet_hasCell 3 true (24, [(1, am_jv y1)], [], am_SH, (J, K, am_RF b)) = some ((decide ((1 : Int) = 0 ∨ (1 : Int) = 1) && true), .inr (.inr (some (am_iv 1), am_SH, (J, K, am_RF b)))) from rfl) (am_g1 (by decide) rfl)
      · rw [if_neg c1355] at h
        refine am_r_t (show am_stepn X T_Sheet_hasCell 4 true (16, [(0, am_pv 61), (1, am_jv y1)], [], am_SH, (J, K, am_RF b)) = some ((decide (am_i32 (am_lcmp y1 (40 : Int64))) && true), .inl (bif am_cb .ge (am_lcmp y1 (40 : Int64)) 0 then 28 else 24, [(1, am_jv y1)], [], am_SH, (J, K, am_RF b))) from rfl) (am_g1 g1354 rfl) (am_nd_f c1355) ?_
        obtain rfl := Option.some.inj h
        exact am_r_ret (show am_stepn X T_Sheet_hasCell 2 true (28, [(1, am_jv y1)], [], am_SH, (J, K, am_RF b)) = some ((decide ((0 : Int) = 0 ∨ (0 : Int) = 1) && true), .inr (.inr (some (am_iv 0), am_SH, (J, K, am_RF b)))) from rfl) (am_g1 (by decide) rfl)
    · rw [if_neg c1353] at h
      refine am_r_t (show am_stepn X T_Sheet_hasCell 6 true (6, [(0, am_pv 61), (1, am_jv y1)], [], am_SH, (J, K, am_RF b)) = some ((decide (am_i32 (am_lcmp y1 (am_i2l (J 61 2)))) && true), .inl (bif am_cb .ge (am_lcmp y1 (am_i2l (J 61 2))) 0 then 28 else 16, [(0, am_pv 61), (1, am_jv y1)], [], am_SH, (J, K, am_RF b))) from rfl) (am_g1 g1352 rfl) (am_nd_f c1353) ?_
      obtain rfl := Option.some.inj h
      exact am_r_ret (show am_stepn X T_Sheet_hasCell 2 true (28, [(0, am_pv 61), (1, am_jv y1)], [], am_SH, (J, K, am_RF b)) = some ((decide ((0 : Int) = 0 ∨ (0 : Int) = 1) && true), .inr (.inr (some (am_iv 0), am_SH, (J, K, am_RF b)))) from rfl) (am_g1 (by decide) rfl)
theorem s_Sheet_hasCell_63_ {X : am_X} {b : Bool} {J : am_J} {K : am_K} {y1 : Int64} {r : Int} (h : f_Sheet_hasCell 63 J y1 = some r) : am_runs X T_Sheet_hasCell (0, [(0, am_pv 63), (1, am_jv y1)], [], am_SH, (J, K, am_RF b)) (some (am_iv r), am_SH, (J, K, am_RF b)) := by
  unfold f_Sheet_hasCell at h
  obtain ⟨g1350, h⟩ := am_if_some h
  by_cases c1351 : (am_lcmp y1 (0 : Int64)) < 0
  · rw [if_pos c1351] at h
    refine am_r_t (show am_stepn X T_Sheet_hasCell 4 true (0, [(0, am_pv 63), (1, am_jv y1)], [], am_SH, (J, K, am_RF b)) = some ((decide (am_i32 (am_lcmp y1 (0 : Int64))) && true), .inl (bif am_cb .lt (am_lcmp y1 (0 : Int64)) 0 then 28 else 6, [(0, am_pv 63), (1, am_jv y1)], [], am_SH, (J, K, am_RF b))) from rfl) (am_g1 g1350 rfl) (decide_eq_true c1351) ?_
    obtain rfl := Option.some.inj h
    exact am_r_ret (show am_stepn X T_Sheet_hasCell 2 true (28, [(0, am_pv 63), (1, am_jv y1)], [], am_SH, (J, K, am_RF b)) = some ((decide ((0 : Int) = 0 ∨ (0 : Int) = 1) && true), .inr (.inr (some (am_iv 0), am_SH, (J, K, am_RF b)))) from rfl) (am_g1 (by decide) rfl)
  · rw [if_neg c1351] at h
    refine am_r_f (show am_stepn X T_Sheet_hasCell 4 true (0, [(0, am_pv 63), (1, am_jv y1)], [], am_SH, (J, K, am_RF b)) = some ((decide (am_i32 (am_lcmp y1 (0 : Int64))) && true), .inl (bif am_cb .lt (am_lcmp y1 (0 : Int64)) 0 then 28 else 6, [(0, am_pv 63), (1, am_jv y1)], [], am_SH, (J, K, am_RF b))) from rfl) (am_g1 g1350 rfl) (decide_eq_false c1351) ?_
    obtain ⟨g1352, h⟩ := am_if_some h
    by_cases c1353 : (am_lcmp y1 (am_i2l (J 63 2))) < 0
    · rw [if_pos c1353] at h
      refine am_r_f (show am_stepn X T_Sheet_hasCell 6 true (6, [(0, am_pv 63), (1, am_jv y1)], [], am_SH, (J, K, am_RF b)) = some ((decide (am_i32 (am_lcmp y1 (am_i2l (J 63 2)))) && true), .inl (bif am_cb .ge (am_lcmp y1 (am_i2l (J 63 2))) 0 then 28 else 16, [(0, am_pv 63), (1, am_jv y1)], [], am_SH, (J, K, am_RF b))) from rfl) (am_g1 g1352 rfl) (am_nd_t c1353) ?_
      obtain ⟨g1354, h⟩ := am_if_some h
      by_cases c1355 : (am_lcmp y1 (40 : Int64)) < 0
      · rw [if_pos c1355] at h
        refine am_r_f (show am_stepn X T_Sheet_hasCell 4 true (16, [(0, am_pv 63), (1, am_jv y1)], [], am_SH, (J, K, am_RF b)) = some ((decide (am_i32 (am_lcmp y1 (40 : Int64))) && true), .inl (bif am_cb .ge (am_lcmp y1 (40 : Int64)) 0 then 28 else 24, [(1, am_jv y1)], [], am_SH, (J, K, am_RF b))) from rfl) (am_g1 g1354 rfl) (am_nd_t c1355) ?_
        obtain rfl := Option.some.inj h
        exact am_r_ret (show am_stepn X T_Sheet_hasCell 3 true (24, [(1, am_jv y1)], [], am_SH, (J, K, am_RF b)) = some ((decide ((1 : Int) = 0 ∨ (1 : Int) = 1) && true), .inr (.inr (some (am_iv 1), am_SH, (J, K, am_RF b)))) from rfl) (am_g1 (by decide) rfl)
      · rw [if_neg c1355] at h
        refine am_r_t (show am_stepn X T_Sheet_hasCell 4 true (16, [(0, am_pv 63), (1, am_jv y1)], [], am_SH, (J, K, am_RF b)) = some ((decide (am_i32 (am_lcmp y1 (40 : Int64))) && true), .inl (bif am_cb .ge (am_lcmp y1 (40 : Int64)) 0 then 28 else 24, [(1, am_jv y1)], [], am_SH, (J, K, am_RF b))) from rfl) (am_g1 g1354 rfl) (am_nd_f c1355) ?_
        obtain rfl := Option.some.inj h
        exact am_r_ret (show am_stepn X T_Sheet_hasCell 2 true (28, [(1, am_jv y1)], [], am_SH, (J, K, am_RF b)) = some ((decide ((0 : Int) = 0 ∨ (0 : Int) = 1) && true), .inr (.inr (some (am_iv 0), am_SH, (J, K, am_RF b)))) from rfl) (am_g1 (by decide) rfl)
    · rw [if_neg c1353] at h
      refine am_r_t (show am_stepn X T_Sheet_hasCell 6 true (6, [(0, am_pv 63), (1, am_jv y1)], [], am_SH, (J, K, am_RF b)) = some ((decide (am_i32 (am_lcmp y1 (am_i2l (J 63 2)))) && true), .inl (bif am_cb .ge (am_lcmp y1 (am_i2l (J 63 2))) 0 then 28 else 16, [(0, am_pv 63), (1, am_jv y1)], [], am_SH, (J, K, am_RF b))) from rfl) (am_g1 g1352 rfl) (am_nd_f c1353) ?_
      obtain rfl := Option.some.inj h
      exact am_r_ret (show am_stepn X T_Sheet_hasCell 2 true (28, [(0, am_pv 63), (1, am_jv y1)], [], am_SH, (J, K, am_RF b)) = some ((decide ((0 : Int) = 0 ∨ (0 : Int) = 1) && true), .inr (.inr (some (am_iv 0), am_SH, (J, K, am_RF b)))) from rfl) (am_g1 (by decide) rfl)
theorem s_Sheet_hasCell {X : am_X} {b : Bool} {o1 : Nat} (ho : o1 = 57 ∨ o1 = 59 ∨ o1 = 61 ∨ o1 = 63) {J : am_J} {K : am_K} {y1 : Int64} {r : Int} (h : f_Sheet_hasCell o1 J y1 = some r) : am_runs X T_Sheet_hasCell (0, [(0, am_pv o1), (1, am_jv y1)], [], am_SH, (J, K, am_RF b)) (some (am_iv r), am_SH, (J, K, am_RF b)) := by
  rcases ho with rfl | rfl | rfl | rfl
  · skip
    exact s_Sheet_hasCell_57_ h
  · skip
    exact s_Sheet_hasCell_59_ h
  · skip
    exact s_Sheet_hasCell_61_ h
  · skip
    exact s_Sheet_hasCell_63_ h
theorem s_Sheet_put_57_ {X : am_X} {b : Bool} {K : am_K} {x1 : Int} {x2 : Int} {J : am_J} {r : Int × am_J} (h : f_Sheet_put 57 x1 x2 J = some r) : am_runs X T_Sheet_put (0, [(0, am_pv 57), (1, am_iv x1), (2, am_iv x2)], [], am_SH, (J, K, am_RF b)) (some (am_iv r.1), am_SH, (r.2, K, am_RF b)) := by
  unfold f_Sheet_put at h
  obtain ⟨q1356, e1357, h⟩ := am_bind_some h
  refine am_r_call (show am_stepn X T_Sheet_put 4 true (0, [(0, am_pv 57), (1, am_iv x1), (2, am_iv x2)], [], am_SH, (J, K, am_RF b)) = some (true, .inr (.inl (141, [am_pv 57, am_jv (am_i2l x1)], 3, 0, 0, 6, [(0, am_pv 57), (1, am_iv x1), (2, am_iv x2)], [], am_SH, (J, K, am_RF b)))) from rfl) rfl tb_Sheet_hasCell (s_Sheet_hasCell (by decide) e1357) ?_
  obtain ⟨g1358, h⟩ := am_if_some h
  by_cases c1359 : q1356 = 0
  · rw [if_pos c1359] at h
    refine am_r_f (show am_stepn X T_Sheet_put 1 true (6, [(0, am_pv 57), (1, am_iv x1), (2, am_iv x2)], [am_iv q1356], am_SH, (J, K, am_RF b)) = some ((decide (am_i32 q1356) && true), .inl (bif am_cb .ne q1356 0 then 11 else 9, [(0, am_pv 57), (1, am_iv x1), (2, am_iv x2)], [], am_SH, (J, K, am_RF b))) from rfl) (am_g1 g1358 rfl) (am_nd_t c1359) ?_
    obtain rfl := Option.some.inj h
    exact am_r_ret (show am_stepn X T_Sheet_put 2 true (9, [(0, am_pv 57), (1, am_iv x1), (2, am_iv x2)], [], am_SH, (J, K, am_RF b)) = some ((decide ((0 : Int) = 0 ∨ (0 : Int) = 1) && true), .inr (.inr (some (am_iv 0), am_SH, (J, K, am_RF b)))) from rfl) (am_g1 (by decide) rfl)
  · rw [if_neg c1359] at h
    refine am_r_t (show am_stepn X T_Sheet_put 1 true (6, [(0, am_pv 57), (1, am_iv x1), (2, am_iv x2)], [am_iv q1356], am_SH, (J, K, am_RF b)) = some ((decide (am_i32 q1356) && true), .inl (bif am_cb .ne q1356 0 then 11 else 9, [(0, am_pv 57), (1, am_iv x1), (2, am_iv x2)], [], am_SH, (J, K, am_RF b))) from rfl) (am_g1 g1358 rfl) (am_nd_f c1359) ?_
    obtain ⟨g1360, h⟩ := am_if_some h
    by_cases c1361 : (J 57 1) = 0
    · rw [if_pos c1361] at h
      refine am_r_f (show am_stepn X T_Sheet_put 6 true (11, [(0, am_pv 57), (1, am_iv x1), (2, am_iv x2)], [], am_SH, (J, K, am_RF b)) = some ((decide (am_i32 (J 57 1)) && true), .inl (bif am_cb .ne (J 57 1) 0 then 28 else 23, [(0, am_pv 57), (1, am_iv x1), (2, am_iv x2)], [am_iv x1, am_pv (57 + 1)], am_SH, (J, K, am_RF b))) from rfl) (am_g1 g1360 rfl) (am_nd_t c1361) ?_
      obtain ⟨g1362, h⟩ := am_if_some h
      obtain rfl := Option.some.inj h
      exact am_r_ret (show am_stepn X T_Sheet_put 6 true (23, [(0, am_pv 57), (1, am_iv x1), (2, am_iv x2)], [am_iv x1, am_pv (57 + 1)], am_SH, (J, K, am_RF b)) = some ((decide ((1 : Int) = 0 ∨ (1 : Int) = 1) && (am_in x1 40 && true)), .inr (.inr (some (am_iv 1), am_SH, ((am_up J (57 + 1) x1.toNat (am_i2b x2)), K, am_RF b)))) from rfl) (am_g1 (by decide) (am_gi g1362 rfl))
    · rw [if_neg c1361] at h
      refine am_r_t (show am_stepn X T_Sheet_put 6 true (11, [(0, am_pv 57), (1, am_iv x1), (2, am_iv x2)], [], am_SH, (J, K, am_RF b)) = some ((decide (am_i32 (J 57 1)) && true), .inl (bif am_cb .ne (J 57 1) 0 then 28 else 23, [(0, am_pv 57), (1, am_iv x1), (2, am_iv x2)], [am_iv x1, am_pv (57 + 1)], am_SH, (J, K, am_RF b))) from rfl) (am_g1 g1360 rfl) (am_nd_f c1361) ?_
      by_cases c1363 : (J 57 1) = 1
      · rw [if_pos c1363] at h
        refine am_r_f (show am_stepn X T_Sheet_put 4 true (28, [(0, am_pv 57), (1, am_iv x1), (2, am_iv x2)], [am_iv x1, am_pv (57 + 1)], am_SH, (J, K, am_RF b)) = some (((decide (am_i32 1) && decide (am_i32 (J 57 1))) && true), .inl (bif am_cb .ne (J 57 1) 1 then 41 else 36, [(0, am_pv 57), (2, am_iv x2)], [am_iv x1, am_pv (57 + 1)], am_SH, (J, K, am_RF b))) from rfl) (am_g2 (by decide) g1360 rfl) (am_nd_t c1363) ?_
        obtain ⟨g1364, h⟩ := am_if_some h
        obtain rfl := Option.some.inj h
        exact am_r_ret (show am_stepn X T_Sheet_put 6 true (36, [(0, am_pv 57), (2, am_iv x2)], [am_iv x1, am_pv (57 + 1)], am_SH, (J, K, am_RF b)) = some ((decide ((1 : Int) = 0 ∨ (1 : Int) = 1) && (am_in x1 40 && true)), .inr (.inr (some (am_iv 1), am_SH, ((am_up J (57 + 1) x1.toNat (am_i2s x2)), K, am_RF b)))) from rfl) (am_g1 (by decide) (am_gi g1364 rfl))
      · rw [if_neg c1363] at h
        refine am_r_t (show am_stepn X T_Sheet_put 4 true (28, [(0, am_pv 57), (1, am_iv x1), (2, am_iv x2)], [am_iv x1, am_pv (57 + 1)], am_SH, (J, K, am_RF b)) = some (((decide (am_i32 1) && decide (am_i32 (J 57 1))) && true), .inl (bif am_cb .ne (J 57 1) 1 then 41 else 36, [(0, am_pv 57), (2, am_iv x2)], [am_iv x1, am_pv (57 + 1)], am_SH, (J, K, am_RF b))) from rfl) (am_g2 (by decide) g1360 rfl) (am_nd_f c1363) ?_
        obtain ⟨g1365, h⟩ := am_if_some h
        obtain rfl := Option.some.inj h
        exact am_r_ret (show am_stepn X T_Sheet_put 4 true (41, [(0, am_pv 57), (2, am_iv x2)], [am_iv x1, am_pv (57 + 1)], am_SH, (J, K, am_RF b)) = some ((decide ((1 : Int) = 0 ∨ (1 : Int) = 1) && (am_in x1 40 && true)), .inr (.inr (some (am_iv 1), am_SH, ((am_up J (57 + 1) x1.toNat x2), K, am_RF b)))) from rfl) (am_g1 (by decide) (am_gi g1365 rfl))
theorem s_Sheet_put_59_ {X : am_X} {b : Bool} {K : am_K} {x1 : Int} {x2 : Int} {J : am_J} {r : Int × am_J} (h : f_Sheet_put 59 x1 x2 J = some r) : am_runs X T_Sheet_put (0, [(0, am_pv 59), (1, am_iv x1), (2, am_iv x2)], [], am_SH, (J, K, am_RF b)) (some (am_iv r.1), am_SH, (r.2, K, am_RF b)) := by
  unfold f_Sheet_put at h
  obtain ⟨q1356, e1357, h⟩ := am_bind_some h
  refine am_r_call (show am_stepn X T_Sheet_put 4 true (0, [(0, am_pv 59), (1, am_iv x1), (2, am_iv x2)], [], am_SH, (J, K, am_RF b)) = some (true, .inr (.inl (141, [am_pv 59, am_jv (am_i2l x1)], 3, 0, 0, 6, [(0, am_pv 59), (1, am_iv x1), (2, am_iv x2)], [], am_SH, (J, K, am_RF b)))) from rfl) rfl tb_Sheet_hasCell (s_Sheet_hasCell (by decide) e1357) ?_
  obtain ⟨g1358, h⟩ := am_if_some h
  by_cases c1359 : q1356 = 0
  · rw [if_pos c1359] at h
    refine am_r_f (show am_stepn X T_Sheet_put 1 true (6, [(0, am_pv 59), (1, am_iv x1), (2, am_iv x2)], [am_iv q1356], am_SH, (J, K, am_RF b)) = some ((decide (am_i32 q1356) && true), .inl (bif am_cb .ne q1356 0 then 11 else 9, [(0, am_pv 59), (1, am_iv x1), (2, am_iv x2)], [], am_SH, (J, K, am_RF b))) from rfl) (am_g1 g1358 rfl) (am_nd_t c1359) ?_
    obtain rfl := Option.some.inj h
    exact am_r_ret (show am_stepn X T_Sheet_put 2 true (9, [(0, am_pv 59), (1, am_iv x1), (2, am_iv x2)], [], am_SH, (J, K, am_RF b)) = some ((decide ((0 : Int) = 0 ∨ (0 : Int) = 1) && true), .inr (.inr (some (am_iv 0), am_SH, (J, K, am_RF b)))) from rfl) (am_g1 (by decide) rfl)
  · rw [if_neg c1359] at h
    refine am_r_t (show am_stepn X T_Sheet_put 1 true (6, [(0, am_pv 59), (1, am_iv x1), (2, am_iv x2)], [am_iv q1356], am_SH, (J, K, am_RF b)) = some ((decide (am_i32 q1356) && true), .inl (bif am_cb .ne q1356 0 then 11 else 9, [(0, am_pv 59), (1, am_iv x1), (2, am_iv x2)], [], am_SH, (J, K, am_RF b))) from rfl) (am_g1 g1358 rfl) (am_nd_f c1359) ?_
    obtain ⟨g1360, h⟩ := am_if_some h
    by_cases c1361 : (J 59 1) = 0
    · rw [if_pos c1361] at h
      refine am_r_f (show am_stepn X T_Sheet_put 6 true (11, [(0, am_pv 59), (1, am_iv x1), (2, am_iv x2)], [], am_SH, (J, K, am_RF b)) = some ((decide (am_i32 (J 59 1)) && true), .inl (bif am_cb .ne (J 59 1) 0 then 28 else 23, [(0, am_pv 59), (1, am_iv x1), (2, am_iv x2)], [am_iv x1, am_pv (59 + 1)], am_SH, (J, K, am_RF b))) from rfl) (am_g1 g1360 rfl) (am_nd_t c1361) ?_
      obtain ⟨g1362, h⟩ := am_if_some h
      obtain rfl := Option.some.inj h
      exact am_r_ret (show am_stepn X T_Sheet_put 6 true (23, [(0, am_pv 59), (1, am_iv x1), (2, am_iv x2)], [am_iv x1, am_pv (59 + 1)], am_SH, (J, K, am_RF b)) = some ((decide ((1 : Int) = 0 ∨ (1 : Int) = 1) && (am_in x1 40 && true)), .inr (.inr (some (am_iv 1), am_SH, ((am_up J (59 + 1) x1.toNat (am_i2b x2)), K, am_RF b)))) from rfl) (am_g1 (by decide) (am_gi g1362 rfl))
    · rw [if_neg c1361] at h
      refine am_r_t (show am_stepn X T_Sheet_put 6 true (11, [(0, am_pv 59), (1, am_iv x1), (2, am_iv x2)], [], am_SH, (J, K, am_RF b)) = some ((decide (am_i32 (J 59 1)) && true), .inl (bif am_cb .ne (J 59 1) 0 then 28 else 23, [(0, am_pv 59), (1, am_iv x1), (2, am_iv x2)], [am_iv x1, am_pv (59 + 1)], am_SH, (J, K, am_RF b))) from rfl) (am_g1 g1360 rfl) (am_nd_f c1361) ?_
      by_cases c1363 : (J 59 1) = 1
      · rw [if_pos c1363] at h
        refine am_r_f (show am_stepn X T_Sheet_put 4 true (28, [(0, am_pv 59), (1, am_iv x1), (2, am_iv x2)], [am_iv x1, am_pv (59 + 1)], am_SH, (J, K, am_RF b)) = some (((decide (am_i32 1) && decide (am_i32 (J 59 1))) && true), .inl (bif am_cb .ne (J 59 1) 1 then 41 else 36, [(0, am_pv 59), (2, am_iv x2)], [am_iv x1, am_pv (59 + 1)], am_SH, (J, K, am_RF b))) from rfl) (am_g2 (by decide) g1360 rfl) (am_nd_t c1363) ?_
        obtain ⟨g1364, h⟩ := am_if_some h
        obtain rfl := Option.some.inj h
        exact am_r_ret (show am_stepn X T_Sheet_put 6 true (36, [(0, am_pv 59), (2, am_iv x2)], [am_iv x1, am_pv (59 + 1)], am_SH, (J, K, am_RF b)) = some ((decide ((1 : Int) = 0 ∨ (1 : Int) = 1) && (am_in x1 40 && true)), .inr (.inr (some (am_iv 1), am_SH, ((am_up J (59 + 1) x1.toNat (am_i2s x2)), K, am_RF b)))) from rfl) (am_g1 (by decide) (am_gi g1364 rfl))
      · rw [if_neg c1363] at h
        refine am_r_t (show am_stepn X T_Sheet_put 4 true (28, [(0, am_pv 59), (1, am_iv x1), (2, am_iv x2)], [am_iv x1, am_pv (59 + 1)], am_SH, (J, K, am_RF b)) = some (((decide (am_i32 1) && decide (am_i32 (J 59 1))) && true), .inl (bif am_cb .ne (J 59 1) 1 then 41 else 36, [(0, am_pv 59), (2, am_iv x2)], [am_iv x1, am_pv (59 + 1)], am_SH, (J, K, am_RF b))) from rfl) (am_g2 (by decide) g1360 rfl) (am_nd_f c1363) ?_
        obtain ⟨g1365, h⟩ := am_if_some h
        obtain rfl := Option.some.inj h
        exact am_r_ret (show am_stepn X T_Sheet_put 4 true (41, [(0, am_pv 59), (2, am_iv x2)], [am_iv x1, am_pv (59 + 1)], am_SH, (J, K, am_RF b)) = some ((decide ((1 : Int) = 0 ∨ (1 : Int) = 1) && (am_in x1 40 && true)), .inr (.inr (some (am_iv 1), am_SH, ((am_up J (59 + 1) x1.toNat x2), K, am_RF b)))) from rfl) (am_g1 (by decide) (am_gi g1365 rfl))
theorem s_Sheet_put_61_ {X : am_X} {b : Bool} {K : am_K} {x1 : Int} {x2 : Int} {J : am_J} {r : Int × am_J} (h : f_Sheet_put 61 x1 x2 J = some r) : am_runs X T_Sheet_put (0, [(0, am_pv 61), (1, am_iv x1), (2, am_iv x2)], [], am_SH, (J, K, am_RF b)) (some (am_iv r.1), am_SH, (r.2, K, am_RF b)) := by
  unfold f_Sheet_put at h
  obtain ⟨q1356, e1357, h⟩ := am_bind_some h
  refine am_r_call (show am_stepn X T_Sheet_put 4 true (0, [(0, am_pv 61), (1, am_iv x1), (2, am_iv x2)], [], am_SH, (J, K, am_RF b)) = some (true, .inr (.inl (141, [am_pv 61, am_jv (am_i2l x1)], 3, 0, 0, 6, [(0, am_pv 61), (1, am_iv x1), (2, am_iv x2)], [], am_SH, (J, K, am_RF b)))) from rfl) rfl tb_Sheet_hasCell (s_Sheet_hasCell (by decide) e1357) ?_
  obtain ⟨g1358, h⟩ := am_if_some h
  by_cases c1359 : q1356 = 0
  · rw [if_pos c1359] at h
    refine am_r_f (show am_stepn X T_Sheet_put 1 true (6, [(0, am_pv 61), (1, am_iv x1), (2, am_iv x2)], [am_iv q1356], am_SH, (J, K, am_RF b)) = some ((decide (am_i32 q1356) && true), .inl (bif am_cb .ne q1356 0 then 11 else 9, [(0, am_pv 61), (1, am_iv x1), (2, am_iv x2)], [], am_SH, (J, K, am_RF b))) from rfl) (am_g1 g1358 rfl) (am_nd_t c1359) ?_
    obtain rfl := Option.some.inj h
    exact am_r_ret (show am_stepn X T_Sheet_put 2 true (9, [(0, am_pv 61), (1, am_iv x1), (2, am_iv x2)], [], am_SH, (J, K, am_RF b)) = some ((decide ((0 : Int) = 0 ∨ (0 : Int) = 1) && true), .inr (.inr (some (am_iv 0), am_SH, (J, K, am_RF b)))) from rfl) (am_g1 (by decide) rfl)
  · rw [if_neg c1359] at h
    refine am_r_t (show am_stepn X T_Sheet_put 1 true (6, [(0, am_pv 61), (1, am_iv x1), (2, am_iv x2)], [am_iv q1356], am_SH, (J, K, am_RF b)) = some ((decide (am_i32 q1356) && true), .inl (bif am_cb .ne q1356 0 then 11 else 9, [(0, am_pv 61), (1, am_iv x1), (2, am_iv x2)], [], am_SH, (J, K, am_RF b))) from rfl) (am_g1 g1358 rfl) (am_nd_f c1359) ?_
    obtain ⟨g1360, h⟩ := am_if_some h
    by_cases c1361 : (J 61 1) = 0
    · rw [if_pos c1361] at h
      refine am_r_f (show am_stepn X T_Sheet_put 6 true (11, [(0, am_pv 61), (1, am_iv x1), (2, am_iv x2)], [], am_SH, (J, K, am_RF b)) = some ((decide (am_i32 (J 61 1)) && true), .inl (bif am_cb .ne (J 61 1) 0 then 28 else 23, [(0, am_pv 61), (1, am_iv x1), (2, am_iv x2)], [am_iv x1, am_pv (61 + 1)], am_SH, (J, K, am_RF b))) from rfl) (am_g1 g1360 rfl) (am_nd_t c1361) ?_
      obtain ⟨g1362, h⟩ := am_if_some h
      obtain rfl := Option.some.inj h
      exact am_r_ret (show am_stepn X T_Sheet_put 6 true (23, [(0, am_pv 61), (1, am_iv x1), (2, am_iv x2)], [am_iv x1, am_pv (61 + 1)], am_SH, (J, K, am_RF b)) = some ((decide ((1 : Int) = 0 ∨ (1 : Int) = 1) && (am_in x1 40 && true)), .inr (.inr (some (am_iv 1), am_SH, ((am_up J (61 + 1) x1.toNat (am_i2b x2)), K, am_RF b)))) from rfl) (am_g1 (by decide) (am_gi g1362 rfl))
    · rw [if_neg c1361] at h
      refine am_r_t (show am_stepn X T_Sheet_put 6 true (11, [(0, am_pv 61), (1, am_iv x1), (2, am_iv x2)], [], am_SH, (J, K, am_RF b)) = some ((decide (am_i32 (J 61 1)) && true), .inl (bif am_cb .ne (J 61 1) 0 then 28 else 23, [(0, am_pv 61), (1, am_iv x1), (2, am_iv x2)], [am_iv x1, am_pv (61 + 1)], am_SH, (J, K, am_RF b))) from rfl) (am_g1 g1360 rfl) (am_nd_f c1361) ?_
      by_cases c1363 : (J 61 1) = 1
      · rw [if_pos c1363] at h
        refine am_r_f (show am_stepn X T_Sheet_put 4 true (28, [(0, am_pv 61), (1, am_iv x1), (2, am_iv x2)], [am_iv x1, am_pv (61 + 1)], am_SH, (J, K, am_RF b)) = some (((decide (am_i32 1) && decide (am_i32 (J 61 1))) && true), .inl (bif am_cb .ne (J 61 1) 1 then 41 else 36, [(0, am_pv 61), (2, am_iv x2)], [am_iv x1, am_pv (61 + 1)], am_SH, (J, K, am_RF b))) from rfl) (am_g2 (by decide) g1360 rfl) (am_nd_t c1363) ?_
        obtain ⟨g1364, h⟩ := am_if_some h
        obtain rfl := Option.some.inj h
        exact am_r_ret (show am_stepn X T_Sheet_put 6 true (36, [(0, am_pv 61), (2, am_iv x2)], [am_iv x1, am_pv (61 + 1)], am_SH, (J, K, am_RF b)) = some ((decide ((1 : Int) = 0 ∨ (1 : Int) = 1) && (am_in x1 40 && true)), .inr (.inr (some (am_iv 1), am_SH, ((am_up J (61 + 1) x1.toNat (am_i2s x2)), K, am_RF b)))) from rfl) (am_g1 (by decide) (am_gi g1364 rfl))
      · rw [if_neg c1363] at h
        refine am_r_t (show am_stepn X T_Sheet_put 4 true (28, [(0, am_pv 61), (1, am_iv x1), (2, am_iv x2)], [am_iv x1, am_pv (61 + 1)], am_SH, (J, K, am_RF b)) = some (((decide (am_i32 1) && decide (am_i32 (J 61 1))) && true), .inl (bif am_cb .ne (J 61 1) 1 then 41 else 36, [(0, am_pv 61), (2, am_iv x2)], [am_iv x1, am_pv (61 + 1)], am_SH, (J, K, am_RF b))) from rfl) (am_g2 (by decide) g1360 rfl) (am_nd_f c1363) ?_
        obtain ⟨g1365, h⟩ := am_if_some h
        obtain rfl := Option.some.inj h
        exact am_r_ret (show am_stepn X T_Sheet_put 4 true (41, [(0, am_pv 61), (2, am_iv x2)], [am_iv x1, am_pv (61 + 1)], am_SH, (J, K, am_RF b)) = some ((decide ((1 : Int) = 0 ∨ (1 : Int) = 1) && (am_in x1 40 && true)), .inr (.inr (some (am_iv 1), am_SH, ((am_up J (61 + 1) x1.toNat x2), K, am_RF b)))) from rfl) (am_g1 (by decide) (am_gi g1365 rfl))
theorem s_Sheet_put_63_ {X : am_X} {b : Bool} {K : am_K} {x1 : Int} {x2 : Int} {J : am_J} {r : Int × am_J} (h : f_Sheet_put 63 x1 x2 J = some r) : am_runs X T_Sheet_put (0, [(0, am_pv 63), (1, am_iv x1), (2, am_iv x2)], [], am_SH, (J, K, am_RF b)) (some (am_iv r.1), am_SH, (r.2, K, am_RF b)) := by
  unfold f_Sheet_put at h
  obtain ⟨q1356, e1357, h⟩ := am_bind_some h
  refine am_r_call (show am_stepn X T_Sheet_put 4 true (0, [(0, am_pv 63), (1, am_iv x1), (2, am_iv x2)], [], am_SH, (J, K, am_RF b)) = some (true, .inr (.inl (141, [am_pv 63, am_jv (am_i2l x1)], 3, 0, 0, 6, [(0, am_pv 63), (1, am_iv x1), (2, am_iv x2)], [], am_SH, (J, K, am_RF b)))) from rfl) rfl tb_Sheet_hasCell (s_Sheet_hasCell (by decide) e1357) ?_
  obtain ⟨g1358, h⟩ := am_if_some h
  by_cases c1359 : q1356 = 0
  · rw [if_pos c1359] at h
    refine am_r_f (show am_stepn X T_Sheet_put 1 true (6, [(0, am_pv 63), (1, am_iv x1), (2, am_iv x2)], [am_iv q1356], am_SH, (J, K, am_RF b)) = some ((decide (am_i32 q1356) && true), .inl (bif am_cb .ne q1356 0 then 11 else 9, [(0, am_pv 63), (1, am_iv x1), (2, am_iv x2)], [], am_SH, (J, K, am_RF b))) from rfl) (am_g1 g1358 rfl) (am_nd_t c1359) ?_
    obtain rfl := Option.some.inj h
    exact am_r_ret (show am_stepn X T_Sheet_put 2 true (9, [(0, am_pv 63), (1, am_iv x1), (2, am_iv x2)], [], am_SH, (J, K, am_RF b)) = some ((decide ((0 : Int) = 0 ∨ (0 : Int) = 1) && true), .inr (.inr (some (am_iv 0), am_SH, (J, K, am_RF b)))) from rfl) (am_g1 (by decide) rfl)
  · rw [if_neg c1359] at h
    refine am_r_t (show am_stepn X T_Sheet_put 1 true (6, [(0, am_pv 63), (1, am_iv x1), (2, am_iv x2)], [am_iv q1356], am_SH, (J, K, am_RF b)) = some ((decide (am_i32 q1356) && true), .inl (bif am_cb .ne q1356 0 then 11 else 9, [(0, am_pv 63), (1, am_iv x1), (2, am_iv x2)], [], am_SH, (J, K, am_RF b))) from rfl) (am_g1 g1358 rfl) (am_nd_f c1359) ?_
    obtain ⟨g1360, h⟩ := am_if_some h
    by_cases c1361 : (J 63 1) = 0
    · rw [if_pos c1361] at h
      refine am_r_f (show am_stepn X T_Sheet_put 6 true (11, [(0, am_pv 63), (1, am_iv x1), (2, am_iv x2)], [], am_SH, (J, K, am_RF b)) = some ((decide (am_i32 (J 63 1)) && true), .inl (bif am_cb .ne (J 63 1) 0 then 28 else 23, [(0, am_pv 63), (1, am_iv x1), (2, am_iv x2)], [am_iv x1, am_pv (63 + 1)], am_SH, (J, K, am_RF b))) from rfl) (am_g1 g1360 rfl) (am_nd_t c1361) ?_
      obtain ⟨g1362, h⟩ := am_if_some h
      obtain rfl := Option.some.inj h
      exact am_r_ret (show am_stepn X T_Sheet_put 6 true (23, [(0, am_pv 63), (1, am_iv x1), (2, am_iv x2)], [am_iv x1, am_pv (63 + 1)], am_SH, (J, K, am_RF b)) = some ((decide ((1 : Int) = 0 ∨ (1 : Int) = 1) && (am_in x1 40 && true)), .inr (.inr (some (am_iv 1), am_SH, ((am_up J (63 + 1) x1.toNat (am_i2b x2)), K, am_RF b)))) from rfl) (am_g1 (by decide) (am_gi g1362 rfl))
    · rw [if_neg c1361] at h
      refine am_r_t (show am_stepn X T_Sheet_put 6 true (11, [(0, am_pv 63), (1, am_iv x1), (2, am_iv x2)], [], am_SH, (J, K, am_RF b)) = some ((decide (am_i32 (J 63 1)) && true), .inl (bif am_cb .ne (J 63 1) 0 then 28 else 23, [(0, am_pv 63), (1, am_iv x1), (2, am_iv x2)], [am_iv x1, am_pv (63 + 1)], am_SH, (J, K, am_RF b))) from rfl) (am_g1 g1360 rfl) (am_nd_f c1361) ?_
      by_cases c1363 : (J 63 1) = 1
      · rw [if_pos c1363] at h
        refine am_r_f (show am_stepn X T_Sheet_put 4 true (28, [(0, am_pv 63), (1, am_iv x1), (2, am_iv x2)], [am_iv x1, am_pv (63 + 1)], am_SH, (J, K, am_RF b)) = some (((decide (am_i32 1) && decide (am_i32 (J 63 1))) && true), .inl (bif am_cb .ne (J 63 1) 1 then 41 else 36, [(0, am_pv 63), (2, am_iv x2)], [am_iv x1, am_pv (63 + 1)], am_SH, (J, K, am_RF b))) from rfl) (am_g2 (by decide) g1360 rfl) (am_nd_t c1363) ?_
        obtain ⟨g1364, h⟩ := am_if_some h
        obtain rfl := Option.some.inj h
        exact am_r_ret (show am_stepn X T_Sheet_put 6 true (36, [(0, am_pv 63), (2, am_iv x2)], [am_iv x1, am_pv (63 + 1)], am_SH, (J, K, am_RF b)) = some ((decide ((1 : Int) = 0 ∨ (1 : Int) = 1) && (am_in x1 40 && true)), .inr (.inr (some (am_iv 1), am_SH, ((am_up J (63 + 1) x1.toNat (am_i2s x2)), K, am_RF b)))) from rfl) (am_g1 (by decide) (am_gi g1364 rfl))
      · rw [if_neg c1363] at h
        refine am_r_t (show am_stepn X T_Sheet_put 4 true (28, [(0, am_pv 63), (1, am_iv x1), (2, am_iv x2)], [am_iv x1, am_pv (63 + 1)], am_SH, (J, K, am_RF b)) = some (((decide (am_i32 1) && decide (am_i32 (J 63 1))) && true), .inl (bif am_cb .ne (J 63 1) 1 then 41 else 36, [(0, am_pv 63), (2, am_iv x2)], [am_iv x1, am_pv (63 + 1)], am_SH, (J, K, am_RF b))) from rfl) (am_g2 (by decide) g1360 rfl) (am_nd_f c1363) ?_
        obtain ⟨g1365, h⟩ := am_if_some h
        obtain rfl := Option.some.inj h
        exact am_r_ret (show am_stepn X T_Sheet_put 4 true (41, [(0, am_pv 63), (2, am_iv x2)], [am_iv x1, am_pv (63 + 1)], am_SH, (J, K, am_RF b)) = some ((decide ((1 : Int) = 0 ∨ (1 : Int) = 1) && (am_in x1 40 && true)), .inr (.inr (some (am_iv 1), am_SH, ((am_up J (63 + 1) x1.toNat x2), K, am_RF b)))) from rfl) (am_g1 (by decide) (am_gi g1365 rfl))
theorem s_Sheet_put {X : am_X} {b : Bool} {o1 : Nat} (ho : o1 = 57 ∨ o1 = 59 ∨ o1 = 61 ∨ o1 = 63) {K : am_K} {x1 : Int} {x2 : Int} {J : am_J} {r : Int × am_J} (h : f_Sheet_put o1 x1 x2 J = some r) : am_runs X T_Sheet_put (0, [(0, am_pv o1), (1, am_iv x1), (2, am_iv x2)], [], am_SH, (J, K, am_RF b)) (some (am_iv r.1), am_SH, (r.2, K, am_RF b)) := by
  rcases ho with rfl | rfl | rfl | rfl
  · skip
    exact s_Sheet_put_57_ h
  · skip
    exact s_Sheet_put_59_ h
  · skip
    exact s_Sheet_put_61_ h
  · skip
    exact s_Sheet_put_63_ h
theorem s_UpRiver_lay {X : am_X} {b : Bool} {K : am_K} {x1 : Int} {x2 : Int} {x3 : Int} {J : am_J} {r : Int × am_J} (h : f_UpRiver_lay  x1 x2 x3 J = some r) : am_runs X T_UpRiver_lay (0, [(0, am_pv 0), (1, am_iv x1), (2, am_iv x2), (3, am_iv x3)], [], am_SH, (J, K, am_RF b)) (some (am_iv r.1), am_SH, (r.2, K, am_RF b)) := by
  unfold f_UpRiver_lay at h
  obtain ⟨q1366, e1367, h⟩ := am_bind_some h
  refine am_r_call (show am_stepn X T_UpRiver_lay 2 true (0, [(0, am_pv 0), (1, am_iv x1), (2, am_iv x2), (3, am_iv x3)], [], am_SH, (J, K, am_RF b)) = some (true, .inr (.inl (136, [am_iv x1], 1, 0, 0, 4, [(0, am_pv 0), (1, am_iv x1), (2, am_iv x2), (3, am_iv x3)], [], am_SH, (J, K, am_RF b)))) from rfl) rfl tb_UpRiver_isSheet (s_UpRiver_isSheet e1367) ?_
  obtain ⟨g1368, h⟩ := am_if_some h
  by_cases c1369 : q1366 = 0
  · rw [if_pos c1369] at h
    refine am_r_f (show am_stepn X T_UpRiver_lay 1 true (4, [(0, am_pv 0), (1, am_iv x1), (2, am_iv x2), (3, am_iv x3)], [am_iv q1366], am_SH, (J, K, am_RF b)) = some ((decide (am_i32 q1366) && true), .inl (bif am_cb .ne q1366 0 then 9 else 7, [(0, am_pv 0), (1, am_iv x1), (2, am_iv x2), (3, am_iv x3)], [], am_SH, (J, K, am_RF b))) from rfl) (am_g1 g1368 rfl) (am_nd_t c1369) ?_
    obtain rfl := Option.some.inj h
    exact am_r_ret (show am_stepn X T_UpRiver_lay 2 true (7, [(0, am_pv 0), (1, am_iv x1), (2, am_iv x2), (3, am_iv x3)], [], am_SH, (J, K, am_RF b)) = some (true, .inr (.inr (some (am_iv (-1)), am_SH, (J, K, am_RF b)))) from rfl) rfl
  · rw [if_neg c1369] at h
    refine am_r_t (show am_stepn X T_UpRiver_lay 1 true (4, [(0, am_pv 0), (1, am_iv x1), (2, am_iv x2), (3, am_iv x3)], [am_iv q1366], am_SH, (J, K, am_RF b)) = some ((decide (am_i32 q1366) && true), .inl (bif am_cb .ne q1366 0 then 9 else 7, [(0, am_pv 0), (1, am_iv x1), (2, am_iv x2), (3, am_iv x3)], [], am_SH, (J, K, am_RF b))) from rfl) (am_g1 g1368 rfl) (am_nd_f c1369) ?_
    by_cases c1370 : x1 = 0
    · rw [if_pos c1370] at h
      revert h
      subst c1370
      intro h
      obtain ⟨g1371, h⟩ := am_if_some h
      by_cases c1372 : (J 57 2) = (-4)
      · rw [if_pos c1372] at h
        refine am_r_f (show am_stepn X T_UpRiver_lay 7 true (9, [(0, am_pv 0), (1, am_iv 0), (2, am_iv x2), (3, am_iv x3)], [], am_SH, (J, K, am_RF b)) = some (((decide (am_i32 (-4)) && decide (am_i32 (J 57 2))) && (am_in 0 4 && true)), .inl (bif am_cb .ne (J 57 2) (-4) then 26 else 23, [(0, am_pv 0), (1, am_iv 0), (2, am_iv x2), (3, am_iv x3)], [], am_SH, (J, K, am_RF b))) from rfl) (am_g2 (by decide) g1371 (am_gi (by decide) rfl)) (am_nd_t c1372) ?_
        obtain rfl := Option.some.inj h
        exact am_r_ret (show am_stepn X T_UpRiver_lay 2 true (23, [(0, am_pv 0), (1, am_iv 0), (2, am_iv x2), (3, am_iv x3)], [], am_SH, (J, K, am_RF b)) = some (true, .inr (.inr (some (am_iv (-11)), am_SH, (J, K, am_RF b)))) from rfl) rfl
      · rw [if_neg c1372] at h
        refine am_r_t (show am_stepn X T_UpRiver_lay 7 true (9, [(0, am_pv 0), (1, am_iv 0), (2, am_iv x2), (3, am_iv x3)], [], am_SH, (J, K, am_RF b)) = some (((decide (am_i32 (-4)) && decide (am_i32 (J 57 2))) && (am_in 0 4 && true)), .inl (bif am_cb .ne (J 57 2) (-4) then 26 else 23, [(0, am_pv 0), (1, am_iv 0), (2, am_iv x2), (3, am_iv x3)], [], am_SH, (J, K, am_RF b))) from rfl) (am_g2 (by decide) g1371 (am_gi (by decide) rfl)) (am_nd_f c1372) ?_
        obtain ⟨q1373, e1374, h⟩ := am_bind_some h
        refine am_r_call (show am_stepn X T_UpRiver_lay 7 true (26, [(0, am_pv 0), (1, am_iv 0), (2, am_iv x2), (3, am_iv x3)], [], am_SH, (J, K, am_RF b)) = some ((am_in 0 4 && true), .inr (.inl (140, [am_pv 57, am_iv x2, am_iv x3], 3, 0, 0, 37, [(0, am_pv 0), (1, am_iv 0), (2, am_iv x2), (3, am_iv x3)], [], am_SH, (J, K, am_RF b)))) from rfl) (am_gi (by decide) rfl) tb_Sheet_put (s_Sheet_put (by decide) e1374) ?_
        obtain ⟨g1375, h⟩ := am_if_some h
        by_cases c1376 : q1373.1 = 0
        · rw [if_pos c1376] at h
          refine am_r_t (show am_stepn X T_UpRiver_lay 1 true (37, [(0, am_pv 0), (1, am_iv 0), (2, am_iv x2), (3, am_iv x3)], [am_iv q1373.1], am_SH, (q1373.2, K, am_RF b)) = some ((decide (am_i32 q1373.1) && true), .inl (bif am_cb .eq q1373.1 0 then 44 else 40, [(0, am_pv 0), (1, am_iv 0), (2, am_iv x2), (3, am_iv x3)], [], am_SH, (q1373.2, K, am_RF b))) from rfl) (am_g1 g1375 rfl) (decide_eq_true c1376) ?_
          obtain rfl := Option.some.inj h
          exact am_r_ret (show am_stepn X T_UpRiver_lay 2 true (44, [(0, am_pv 0), (1, am_iv 0), (2, am_iv x2), (3, am_iv x3)], [], am_SH, (q1373.2, K, am_RF b)) = some (true, .inr (.inr (some (am_iv (-12)), am_SH, (q1373.2, K, am_RF b)))) from rfl) rfl
        · rw [if_neg c1376] at h
          refine am_r_f (show am_stepn X T_UpRiver_lay 1 true (37, [(0, am_pv 0), (1, am_iv 0), (2, am_iv x2), (3, am_iv x3)], [am_iv q1373.1], am_SH, (q1373.2, K, am_RF b)) = some ((decide (am_i32 q1373.1) && true), .inl (bif am_cb .eq q1373.1 0 then 44 else 40, [(0, am_pv 0), (1, am_iv 0), (2, am_iv x2), (3, am_iv x3)], [], am_SH, (q1373.2, K, am_RF b))) from rfl) (am_g1 g1375 rfl) (decide_eq_false c1376) ?_
          obtain rfl := Option.some.inj h
          exact am_r_ret (show am_stepn X T_UpRiver_lay 3 true (40, [(0, am_pv 0), (1, am_iv 0), (2, am_iv x2), (3, am_iv x3)], [], am_SH, (q1373.2, K, am_RF b)) = some (true, .inr (.inr (some (am_iv 1), am_SH, (q1373.2, K, am_RF b)))) from rfl) rfl
    · rw [if_neg c1370] at h
      by_cases c1377 : x1 = 1
      · rw [if_pos c1377] at h
        revert h
        subst c1377
        intro h
        obtain ⟨g1378, h⟩ := am_if_some h
        by_cases c1379 : (J 59 2) = (-4)
        · rw [if_pos c1379] at h
          refine am_r_f (show am_stepn X T_UpRiver_lay 7 true (9, [(0, am_pv 0), (1, am_iv 1), (2, am_iv x2), (3, am_iv x3)], [], am_SH, (J, K, am_RF b)) = some (((decide (am_i32 (-4)) && decide (am_i32 (J 59 2))) && (am_in 1 4 && true)), .inl (bif am_cb .ne (J 59 2) (-4) then 26 else 23, [(0, am_pv 0), (1, am_iv 1), (2, am_iv x2), (3, am_iv x3)], [], am_SH, (J, K, am_RF b))) from rfl) (am_g2 (by decide) g1378 (am_gi (by decide) rfl)) (am_nd_t c1379) ?_
          obtain rfl := Option.some.inj h
          exact am_r_ret (show am_stepn X T_UpRiver_lay 2 true (23, [(0, am_pv 0), (1, am_iv 1), (2, am_iv x2), (3, am_iv x3)], [], am_SH, (J, K, am_RF b)) = some (true, .inr (.inr (some (am_iv (-11)), am_SH, (J, K, am_RF b)))) from rfl) rfl
        · rw [if_neg c1379] at h
          refine am_r_t (show am_stepn X T_UpRiver_lay 7 true (9, [(0, am_pv 0), (1, am_iv 1), (2, am_iv x2), (3, am_iv x3)], [], am_SH, (J, K, am_RF b)) = some (((decide (am_i32 (-4)) && decide (am_i32 (J 59 2))) && (am_in 1 4 && true)), .inl (bif am_cb .ne (J 59 2) (-4) then 26 else 23, [(0, am_pv 0), (1, am_iv 1), (2, am_iv x2), (3, am_iv x3)], [], am_SH, (J, K, am_RF b))) from rfl) (am_g2 (by decide) g1378 (am_gi (by decide) rfl)) (am_nd_f c1379) ?_
          obtain ⟨q1380, e1381, h⟩ := am_bind_some h
          refine am_r_call (show am_stepn X T_UpRiver_lay 7 true (26, [(0, am_pv 0), (1, am_iv 1), (2, am_iv x2), (3, am_iv x3)], [], am_SH, (J, K, am_RF b)) = some ((am_in 1 4 && true), .inr (.inl (140, [am_pv 59, am_iv x2, am_iv x3], 3, 0, 0, 37, [(0, am_pv 0), (1, am_iv 1), (2, am_iv x2), (3, am_iv x3)], [], am_SH, (J, K, am_RF b)))) from rfl) (am_gi (by decide) rfl) tb_Sheet_put (s_Sheet_put (by decide) e1381) ?_
          obtain ⟨g1382, h⟩ := am_if_some h
          by_cases c1383 : q1380.1 = 0
          · rw [if_pos c1383] at h
            refine am_r_t (show am_stepn X T_UpRiver_lay 1 true (37, [(0, am_pv 0), (1, am_iv 1), (2, am_iv x2), (3, am_iv x3)], [am_iv q1380.1], am_SH, (q1380.2, K, am_RF b)) = some ((decide (am_i32 q1380.1) && true), .inl (bif am_cb .eq q1380.1 0 then 44 else 40, [(0, am_pv 0), (1, am_iv 1), (2, am_iv x2), (3, am_iv x3)], [], am_SH, (q1380.2, K, am_RF b))) from rfl) (am_g1 g1382 rfl) (decide_eq_true c1383) ?_
            obtain rfl := Option.some.inj h
            exact am_r_ret (show am_stepn X T_UpRiver_lay 2 true (44, [(0, am_pv 0), (1, am_iv 1), (2, am_iv x2), (3, am_iv x3)], [], am_SH, (q1380.2, K, am_RF b)) = some (true, .inr (.inr (some (am_iv (-12)), am_SH, (q1380.2, K, am_RF b)))) from rfl) rfl
          · rw [if_neg c1383] at h
            refine am_r_f (show am_stepn X T_UpRiver_lay 1 true (37, [(0, am_pv 0), (1, am_iv 1), (2, am_iv x2), (3, am_iv x3)], [am_iv q1380.1], am_SH, (q1380.2, K, am_RF b)) = some ((decide (am_i32 q1380.1) && true), .inl (bif am_cb .eq q1380.1 0 then 44 else 40, [(0, am_pv 0), (1, am_iv 1), (2, am_iv x2), (3, am_iv x3)], [], am_SH, (q1380.2, K, am_RF b))) from rfl) (am_g1 g1382 rfl) (decide_eq_false c1383) ?_
            obtain rfl := Option.some.inj h
            exact am_r_ret (show am_stepn X T_UpRiver_lay 3 true (40, [(0, am_pv 0), (1, am_iv 1), (2, am_iv x2), (3, am_iv x3)], [], am_SH, (q1380.2, K, am_RF b)) = some (true, .inr (.inr (some (am_iv 1), am_SH, (q1380.2, K, am_RF b)))) from rfl) rfl
      · rw [if_neg c1377] at h
        by_cases c1384 : x1 = 2
        · rw [if_pos c1384] at h
          revert h
          subst c1384
          intro h
          obtain ⟨g1385, h⟩ := am_if_some h
          by_cases c1386 : (J 61 2) = (-4)
          · rw [if_pos c1386] at h
            refine am_r_f (show am_stepn X T_UpRiver_lay 7 true (9, [(0, am_pv 0), (1, am_iv 2), (2, am_iv x2), (3, am_iv x3)], [], am_SH, (J, K, am_RF b)) = some (((decide (am_i32 (-4)) && decide (am_i32 (J 61 2))) && (am_in 2 4 && true)), .inl (bif am_cb .ne (J 61 2) (-4) then 26 else 23, [(0, am_pv 0), (1, am_iv 2), (2, am_iv x2), (3, am_iv x3)], [], am_SH, (J, K, am_RF b))) from rfl) (am_g2 (by decide) g1385 (am_gi (by decide) rfl)) (am_nd_t c1386) ?_
            obtain rfl := Option.some.inj h
            exact am_r_ret (show am_stepn X T_UpRiver_lay 2 true (23, [(0, am_pv 0), (1, am_iv 2), (2, am_iv x2), (3, am_iv x3)], [], am_SH, (J, K, am_RF b)) = some (true, .inr (.inr (some (am_iv (-11)), am_SH, (J, K, am_RF b)))) from rfl) rfl
          · rw [if_neg c1386] at h
            refine am_r_t (show am_stepn X T_UpRiver_lay 7 true (9, [(0, am_pv 0), (1, am_iv 2), (2, am_iv x2), (3, am_iv x3)], [], am_SH, (J, K, am_RF b)) = some (((decide (am_i32 (-4)) && decide (am_i32 (J 61 2))) && (am_in 2 4 && true)), .inl (bif am_cb .ne (J 61 2) (-4) then 26 else 23, [(0, am_pv 0), (1, am_iv 2), (2, am_iv x2), (3, am_iv x3)], [], am_SH, (J, K, am_RF b))) from rfl) (am_g2 (by decide) g1385 (am_gi (by decide) rfl)) (am_nd_f c1386) ?_
            obtain ⟨q1387, e1388, h⟩ := am_bind_some h
            refine am_r_call (show am_stepn X T_UpRiver_lay 7 true (26, [(0, am_pv 0), (1, am_iv 2), (2, am_iv x2), (3, am_iv x3)], [], am_SH, (J, K, am_RF b)) = some ((am_in 2 4 && true), .inr (.inl (140, [am_pv 61, am_iv x2, am_iv x3], 3, 0, 0, 37, [(0, am_pv 0), (1, am_iv 2), (2, am_iv x2), (3, am_iv x3)], [], am_SH, (J, K, am_RF b)))) from rfl) (am_gi (by decide) rfl) tb_Sheet_put (s_Sheet_put (by decide) e1388) ?_
            obtain ⟨g1389, h⟩ := am_if_some h
            by_cases c1390 : q1387.1 = 0
            · rw [if_pos c1390] at h
              refine am_r_t (show am_stepn X T_UpRiver_lay 1 true (37, [(0, am_pv 0), (1, am_iv 2), (2, am_iv x2), (3, am_iv x3)], [am_iv q1387.1], am_SH, (q1387.2, K, am_RF b)) = some ((decide (am_i32 q1387.1) && true), .inl (bif am_cb .eq q1387.1 0 then 44 else 40, [(0, am_pv 0), (1, am_iv 2), (2, am_iv x2), (3, am_iv x3)], [], am_SH, (q1387.2, K, am_RF b))) from rfl) (am_g1 g1389 rfl) (decide_eq_true c1390) ?_
              obtain rfl := Option.some.inj h
              exact am_r_ret (show am_stepn X T_UpRiver_lay 2 true (44, [(0, am_pv 0), (1, am_iv 2), (2, am_iv x2), (3, am_iv x3)], [], am_SH, (q1387.2, K, am_RF b)) = some (true, .inr (.inr (some (am_iv (-12)), am_SH, (q1387.2, K, am_RF b)))) from rfl) rfl
            · rw [if_neg c1390] at h
              refine am_r_f (show am_stepn X T_UpRiver_lay 1 true (37, [(0, am_pv 0), (1, am_iv 2), (2, am_iv x2), (3, am_iv x3)], [am_iv q1387.1], am_SH, (q1387.2, K, am_RF b)) = some ((decide (am_i32 q1387.1) && true), .inl (bif am_cb .eq q1387.1 0 then 44 else 40, [(0, am_pv 0), (1, am_iv 2), (2, am_iv x2), (3, am_iv x3)], [], am_SH, (q1387.2, K, am_RF b))) from rfl) (am_g1 g1389 rfl) (decide_eq_false c1390) ?_
              obtain rfl := Option.some.inj h
              exact am_r_ret (show am_stepn X T_UpRiver_lay 3 true (40, [(0, am_pv 0), (1, am_iv 2), (2, am_iv x2), (3, am_iv x3)], [], am_SH, (q1387.2, K, am_RF b)) = some (true, .inr (.inr (some (am_iv 1), am_SH, (q1387.2, K, am_RF b)))) from rfl) rfl
        · rw [if_neg c1384] at h
          by_cases c1391 : x1 = 3
          · rw [if_pos c1391] at h
            revert h
            subst c1391
            intro h
            obtain ⟨g1392, h⟩ := am_if_some h
            by_cases c1393 : (J 63 2) = (-4)
            · rw [if_pos c1393] at h
              refine am_r_f (show am_stepn X T_UpRiver_lay 7 true (9, [(0, am_pv 0), (1, am_iv 3), (2, am_iv x2), (3, am_iv x3)], [], am_SH, (J, K, am_RF b)) = some (((decide (am_i32 (-4)) && decide (am_i32 (J 63 2))) && (am_in 3 4 && true)), .inl (bif am_cb .ne (J 63 2) (-4) then 26 else 23, [(0, am_pv 0), (1, am_iv 3), (2, am_iv x2), (3, am_iv x3)], [], am_SH, (J, K, am_RF b))) from rfl) (am_g2 (by decide) g1392 (am_gi (by decide) rfl)) (am_nd_t c1393) ?_
              obtain rfl := Option.some.inj h
              exact am_r_ret (show am_stepn X T_UpRiver_lay 2 true (23, [(0, am_pv 0), (1, am_iv 3), (2, am_iv x2), (3, am_iv x3)], [], am_SH, (J, K, am_RF b)) = some (true, .inr (.inr (some (am_iv (-11)), am_SH, (J, K, am_RF b)))) from rfl) rfl
            · rw [if_neg c1393] at h
              refine am_r_t (show am_stepn X T_UpRiver_lay 7 true (9, [(0, am_pv 0), (1, am_iv 3), (2, am_iv x2), (3, am_iv x3)], [], am_SH, (J, K, am_RF b)) = some (((decide (am_i32 (-4)) && decide (am_i32 (J 63 2))) && (am_in 3 4 && true)), .inl (bif am_cb .ne (J 63 2) (-4) then 26 else 23, [(0, am_pv 0), (1, am_iv 3), (2, am_iv x2), (3, am_iv x3)], [], am_SH, (J, K, am_RF b))) from rfl) (am_g2 (by decide) g1392 (am_gi (by decide) rfl)) (am_nd_f c1393) ?_
              obtain ⟨q1394, e1395, h⟩ := am_bind_some h
              refine am_r_call (show am_stepn X T_UpRiver_lay 7 true (26, [(0, am_pv 0), (1, am_iv 3), (2, am_iv x2), (3, am_iv x3)], [], am_SH, (J, K, am_RF b)) = some ((am_in 3 4 && true), .inr (.inl (140, [am_pv 63, am_iv x2, am_iv x3], 3, 0, 0, 37, [(0, am_pv 0), (1, am_iv 3), (2, am_iv x2), (3, am_iv x3)], [], am_SH, (J, K, am_RF b)))) from rfl) (am_gi (by decide) rfl) tb_Sheet_put (s_Sheet_put (by decide) e1395) ?_
              obtain ⟨g1396, h⟩ := am_if_some h
              by_cases c1397 : q1394.1 = 0
              · rw [if_pos c1397] at h
                refine am_r_t (show am_stepn X T_UpRiver_lay 1 true (37, [(0, am_pv 0), (1, am_iv 3), (2, am_iv x2), (3, am_iv x3)], [am_iv q1394.1], am_SH, (q1394.2, K, am_RF b)) = some ((decide (am_i32 q1394.1) && true), .inl (bif am_cb .eq q1394.1 0 then 44 else 40, [(0, am_pv 0), (1, am_iv 3), (2, am_iv x2), (3, am_iv x3)], [], am_SH, (q1394.2, K, am_RF b))) from rfl) (am_g1 g1396 rfl) (decide_eq_true c1397) ?_
                obtain rfl := Option.some.inj h
                exact am_r_ret (show am_stepn X T_UpRiver_lay 2 true (44, [(0, am_pv 0), (1, am_iv 3), (2, am_iv x2), (3, am_iv x3)], [], am_SH, (q1394.2, K, am_RF b)) = some (true, .inr (.inr (some (am_iv (-12)), am_SH, (q1394.2, K, am_RF b)))) from rfl) rfl
              · rw [if_neg c1397] at h
                refine am_r_f (show am_stepn X T_UpRiver_lay 1 true (37, [(0, am_pv 0), (1, am_iv 3), (2, am_iv x2), (3, am_iv x3)], [am_iv q1394.1], am_SH, (q1394.2, K, am_RF b)) = some ((decide (am_i32 q1394.1) && true), .inl (bif am_cb .eq q1394.1 0 then 44 else 40, [(0, am_pv 0), (1, am_iv 3), (2, am_iv x2), (3, am_iv x3)], [], am_SH, (q1394.2, K, am_RF b))) from rfl) (am_g1 g1396 rfl) (decide_eq_false c1397) ?_
                obtain rfl := Option.some.inj h
                exact am_r_ret (show am_stepn X T_UpRiver_lay 3 true (40, [(0, am_pv 0), (1, am_iv 3), (2, am_iv x2), (3, am_iv x3)], [], am_SH, (q1394.2, K, am_RF b)) = some (true, .inr (.inr (some (am_iv 1), am_SH, (q1394.2, K, am_RF b)))) from rfl) rfl
          · rw [if_neg c1391] at h
            cases h
theorem s_Sheet_cellAt_57_ {X : am_X} {b : Bool} {J : am_J} {K : am_K} {y1 : Int64} {r : Int} (h : f_Sheet_cellAt 57 J y1 = some r) : am_runs X T_Sheet_cellAt (0, [(0, am_pv 57), (1, am_jv y1)], [], am_SH, (J, K, am_RF b)) (some (am_iv r), am_SH, (J, K, am_RF b)) := by
  unfold f_Sheet_cellAt at h
  obtain ⟨q1398, e1399, h⟩ := am_bind_some h
  refine am_r_call (show am_stepn X T_Sheet_cellAt 3 true (0, [(0, am_pv 57), (1, am_jv y1)], [], am_SH, (J, K, am_RF b)) = some (true, .inr (.inl (141, [am_pv 57, am_jv y1], 3, 0, 0, 5, [(0, am_pv 57), (1, am_jv y1)], [], am_SH, (J, K, am_RF b)))) from rfl) rfl tb_Sheet_hasCell (s_Sheet_hasCell (by decide) e1399) ?_
  obtain ⟨g1400, h⟩ := am_if_some h
  by_cases c1401 : q1398 = 0
  · rw [if_pos c1401] at h
    refine am_r_t (show am_stepn X T_Sheet_cellAt 1 true (5, [(0, am_pv 57), (1, am_jv y1)], [am_iv q1398], am_SH, (J, K, am_RF b)) = some ((decide (am_i32 q1398) && true), .inl (bif am_cb .eq q1398 0 then 18 else 8, [(0, am_pv 57), (1, am_jv y1)], [], am_SH, (J, K, am_RF b))) from rfl) (am_g1 g1400 rfl) (decide_eq_true c1401) ?_
    obtain rfl := Option.some.inj h
    exact am_r_ret (show am_stepn X T_Sheet_cellAt 2 true (18, [(0, am_pv 57), (1, am_jv y1)], [], am_SH, (J, K, am_RF b)) = some (true, .inr (.inr (some (am_iv 0), am_SH, (J, K, am_RF b)))) from rfl) rfl
  · rw [if_neg c1401] at h
    refine am_r_f (show am_stepn X T_Sheet_cellAt 1 true (5, [(0, am_pv 57), (1, am_jv y1)], [am_iv q1398], am_SH, (J, K, am_RF b)) = some ((decide (am_i32 q1398) && true), .inl (bif am_cb .eq q1398 0 then 18 else 8, [(0, am_pv 57), (1, am_jv y1)], [], am_SH, (J, K, am_RF b))) from rfl) (am_g1 g1400 rfl) (decide_eq_false c1401) ?_
    obtain ⟨g1402, h⟩ := am_if_some h
    obtain rfl := Option.some.inj h
    exact am_r_ret (show am_stepn X T_Sheet_cellAt 7 true (8, [(0, am_pv 57), (1, am_jv y1)], [], am_SH, (J, K, am_RF b)) = some ((am_in (am_l2i y1) 40 && true), .inr (.inr (some (am_iv (J (57 + 1) ((am_l2i y1).toNat))), am_SH, (J, K, am_RF b)))) from rfl) (am_gi g1402 rfl)
theorem s_Sheet_cellAt_59_ {X : am_X} {b : Bool} {J : am_J} {K : am_K} {y1 : Int64} {r : Int} (h : f_Sheet_cellAt 59 J y1 = some r) : am_runs X T_Sheet_cellAt (0, [(0, am_pv 59), (1, am_jv y1)], [], am_SH, (J, K, am_RF b)) (some (am_iv r), am_SH, (J, K, am_RF b)) := by
  unfold f_Sheet_cellAt at h
  obtain ⟨q1398, e1399, h⟩ := am_bind_some h
  refine am_r_call (show am_stepn X T_Sheet_cellAt 3 true (0, [(0, am_pv 59), (1, am_jv y1)], [], am_SH, (J, K, am_RF b)) = some (true, .inr (.inl (141, [am_pv 59, am_jv y1], 3, 0, 0, 5, [(0, am_pv 59), (1, am_jv y1)], [], am_SH, (J, K, am_RF b)))) from rfl) rfl tb_Sheet_hasCell (s_Sheet_hasCell (by decide) e1399) ?_
  obtain ⟨g1400, h⟩ := am_if_some h
  by_cases c1401 : q1398 = 0
  · rw [if_pos c1401] at h
    refine am_r_t (show am_stepn X T_Sheet_cellAt 1 true (5, [(0, am_pv 59), (1, am_jv y1)], [am_iv q1398], am_SH, (J, K, am_RF b)) = some ((decide (am_i32 q1398) && true), .inl (bif am_cb .eq q1398 0 then 18 else 8, [(0, am_pv 59), (1, am_jv y1)], [], am_SH, (J, K, am_RF b))) from rfl) (am_g1 g1400 rfl) (decide_eq_true c1401) ?_
    obtain rfl := Option.some.inj h
    exact am_r_ret (show am_stepn X T_Sheet_cellAt 2 true (18, [(0, am_pv 59), (1, am_jv y1)], [], am_SH, (J, K, am_RF b)) = some (true, .inr (.inr (some (am_iv 0), am_SH, (J, K, am_RF b)))) from rfl) rfl
  · rw [if_neg c1401] at h
    refine am_r_f (show am_stepn X T_Sheet_cellAt 1 true (5, [(0, am_pv 59), (1, am_jv y1)], [am_iv q1398], am_SH, (J, K, am_RF b)) = some ((decide (am_i32 q1398) && true), .inl (bif am_cb .eq q1398 0 then 18 else 8, [(0, am_pv 59), (1, am_jv y1)], [], am_SH, (J, K, am_RF b))) from rfl) (am_g1 g1400 rfl) (decide_eq_false c1401) ?_
    obtain ⟨g1402, h⟩ := am_if_some h
    obtain rfl := Option.some.inj h
    exact am_r_ret (show am_stepn X T_Sheet_cellAt 7 true (8, [(0, am_pv 59), (1, am_jv y1)], [], am_SH, (J, K, am_RF b)) = some ((am_in (am_l2i y1) 40 && true), .inr (.inr (some (am_iv (J (59 + 1) ((am_l2i y1).toNat))), am_SH, (J, K, am_RF b)))) from rfl) (am_gi g1402 rfl)
theorem s_Sheet_cellAt_61_ {X : am_X} {b : Bool} {J : am_J} {K : am_K} {y1 : Int64} {r : Int} (h : f_Sheet_cellAt 61 J y1 = some r) : am_runs X T_Sheet_cellAt (0, [(0, am_pv 61), (1, am_jv y1)], [], am_SH, (J, K, am_RF b)) (some (am_iv r), am_SH, (J, K, am_RF b)) := by
  unfold f_Sheet_cellAt at h
  obtain ⟨q1398, e1399, h⟩ := am_bind_some h
  refine am_r_call (show am_stepn X T_Sheet_cellAt 3 true (0, [(0, am_pv 61), (1, am_jv y1)], [], am_SH, (J, K, am_RF b)) = some (true, .inr (.inl (141, [am_pv 61, am_jv y1], 3, 0, 0, 5, [(0, am_pv 61), (1, am_jv y1)], [], am_SH, (J, K, am_RF b)))) from rfl) rfl tb_Sheet_hasCell (s_Sheet_hasCell (by decide) e1399) ?_
  obtain ⟨g1400, h⟩ := am_if_some h
  by_cases c1401 : q1398 = 0
  · rw [if_pos c1401] at h
    refine am_r_t (show am_stepn X T_Sheet_cellAt 1 true (5, [(0, am_pv 61), (1, am_jv y1)], [am_iv q1398], am_SH, (J, K, am_RF b)) = some ((decide (am_i32 q1398) && true), .inl (bif am_cb .eq q1398 0 then 18 else 8, [(0, am_pv 61), (1, am_jv y1)], [], am_SH, (J, K, am_RF b))) from rfl) (am_g1 g1400 rfl) (decide_eq_true c1401) ?_
    obtain rfl := Option.some.inj h
    exact am_r_ret (show am_stepn X T_Sheet_cellAt 2 true (18, [(0, am_pv 61), (1, am_jv y1)], [], am_SH, (J, K, am_RF b)) = some (true, .inr (.inr (some (am_iv 0), am_SH, (J, K, am_RF b)))) from rfl) rfl
  · rw [if_neg c1401] at h
    refine am_r_f (show am_stepn X T_Sheet_cellAt 1 true (5, [(0, am_pv 61), (1, am_jv y1)], [am_iv q1398], am_SH, (J, K, am_RF b)) = some ((decide (am_i32 q1398) && true), .inl (bif am_cb .eq q1398 0 then 18 else 8, [(0, am_pv 61), (1, am_jv y1)], [], am_SH, (J, K, am_RF b))) from rfl) (am_g1 g1400 rfl) (decide_eq_false c1401) ?_
    obtain ⟨g1402, h⟩ := am_if_some h
    obtain rfl := Option.some.inj h
    exact am_r_ret (show am_stepn X T_Sheet_cellAt 7 true (8, [(0, am_pv 61), (1, am_jv y1)], [], am_SH, (J, K, am_RF b)) = some ((am_in (am_l2i y1) 40 && true), .inr (.inr (some (am_iv (J (61 + 1) ((am_l2i y1).toNat))), am_SH, (J, K, am_RF b)))) from rfl) (am_gi g1402 rfl)
theorem s_Sheet_cellAt_63_ {X : am_X} {b : Bool} {J : am_J} {K : am_K} {y1 : Int64} {r : Int} (h : f_Sheet_cellAt 63 J y1 = some r) : am_runs X T_Sheet_cellAt (0, [(0, am_pv 63), (1, am_jv y1)], [], am_SH, (J, K, am_RF b)) (some (am_iv r), am_SH, (J, K, am_RF b)) := by
  unfold f_Sheet_cellAt at h
  obtain ⟨q1398, e1399, h⟩ := am_bind_some h
  refine am_r_call (show am_stepn X T_Sheet_cellAt 3 true (0, [(0, am_pv 63), (1, am_jv y1)], [], am_SH, (J, K, am_RF b)) = some (true, .inr (.inl (141, [am_pv 63, am_jv y1], 3, 0, 0, 5, [(0, am_pv 63), (1, am_jv y1)], [], am_SH, (J, K, am_RF b)))) from rfl) rfl tb_Sheet_hasCell (s_Sheet_hasCell (by decide) e1399) ?_
  obtain ⟨g1400, h⟩ := am_if_some h
  by_cases c1401 : q1398 = 0
  · rw [if_pos c1401] at h
    refine am_r_t (show am_stepn X T_Sheet_cellAt 1 true (5, [(0, am_pv 63), (1, am_jv y1)], [am_iv q1398], am_SH, (J, K, am_RF b)) = some ((decide (am_i32 q1398) && true), .inl (bif am_cb .eq q1398 0 then 18 else 8, [(0, am_pv 63), (1, am_jv y1)], [], am_SH, (J, K, am_RF b))) from rfl) (am_g1 g1400 rfl) (decide_eq_true c1401) ?_
    obtain rfl := Option.some.inj h
    exact am_r_ret (show am_stepn X T_Sheet_cellAt 2 true (18, [(0, am_pv 63), (1, am_jv y1)], [], am_SH, (J, K, am_RF b)) = some (true, .inr (.inr (some (am_iv 0), am_SH, (J, K, am_RF b)))) from rfl) rfl
  · rw [if_neg c1401] at h
    refine am_r_f (show am_stepn X T_Sheet_cellAt 1 true (5, [(0, am_pv 63), (1, am_jv y1)], [am_iv q1398], am_SH, (J, K, am_RF b)) = some ((decide (am_i32 q1398) && true), .inl (bif am_cb .eq q1398 0 then 18 else 8, [(0, am_pv 63), (1, am_jv y1)], [], am_SH, (J, K, am_RF b))) from rfl) (am_g1 g1400 rfl) (decide_eq_false c1401) ?_
    obtain ⟨g1402, h⟩ := am_if_some h
    obtain rfl := Option.some.inj h
    exact am_r_ret (show am_stepn X T_Sheet_cellAt 7 true (8, [(0, am_pv 63), (1, am_jv y1)], [], am_SH, (J, K, am_RF b)) = some ((am_in (am_l2i y1) 40 && true), .inr (.inr (some (am_iv (J (63 + 1) ((am_l2i y1).toNat))), am_SH, (J, K, am_RF b)))) from rfl) (am_gi g1402 rfl)
theorem s_Sheet_cellAt {X : am_X} {b : Bool} {o1 : Nat} (ho : o1 = 57 ∨ o1 = 59 ∨ o1 = 61 ∨ o1 = 63) {J : am_J} {K : am_K} {y1 : Int64} {r : Int} (h : f_Sheet_cellAt o1 J y1 = some r) : am_runs X T_Sheet_cellAt (0, [(0, am_pv o1), (1, am_jv y1)], [], am_SH, (J, K, am_RF b)) (some (am_iv r), am_SH, (J, K, am_RF b)) := by
  rcases ho with rfl | rfl | rfl | rfl
  · skip
    exact s_Sheet_cellAt_57_ h
  · skip
    exact s_Sheet_cellAt_59_ h
  · skip
    exact s_Sheet_cellAt_61_ h
  · skip
    exact s_Sheet_cellAt_63_ h
theorem s_Sheet_faultAs_57_ {X : am_X} {b : Bool} {J : am_J} {K : am_K} {x1 : Int} {r : Int} (h : f_Sheet_faultAs 57 J x1 = some r) : am_runs X T_Sheet_faultAs (0, [(0, am_pv 57), (1, am_iv x1)], [], am_SH, (J, K, am_RF b)) (some (am_iv r), am_SH, (J, K, am_RF b)) := by
  unfold f_Sheet_faultAs at h
  obtain ⟨g1403, h⟩ := am_if_some h
  by_cases c1404 : (J 57 2) = (-4)
  · rw [if_pos c1404] at h
    refine am_r_f (show am_stepn X T_Sheet_faultAs 4 true (0, [(0, am_pv 57), (1, am_iv x1)], [], am_SH, (J, K, am_RF b)) = some (((decide (am_i32 (-4)) && decide (am_i32 (J 57 2))) && true), .inl (bif am_cb .ne (J 57 2) (-4) then 13 else 9, [(0, am_pv 57), (1, am_iv x1)], [], am_SH, (J, K, am_RF b))) from rfl) (am_g2 (by decide) g1403 rfl) (am_nd_t c1404) ?_
    obtain rfl := Option.some.inj h
    exact am_r_ret (show am_stepn X T_Sheet_faultAs 3 true (9, [(0, am_pv 57), (1, am_iv x1)], [], am_SH, (J, K, am_RF b)) = some (true, .inr (.inr (some (am_iv 1), am_SH, (J, K, am_RF b)))) from rfl) rfl
  · rw [if_neg c1404] at h
    refine am_r_t (show am_stepn X T_Sheet_faultAs 4 true (0, [(0, am_pv 57), (1, am_iv x1)], [], am_SH, (J, K, am_RF b)) = some (((decide (am_i32 (-4)) && decide (am_i32 (J 57 2))) && true), .inl (bif am_cb .ne (J 57 2) (-4) then 13 else 9, [(0, am_pv 57), (1, am_iv x1)], [], am_SH, (J, K, am_RF b))) from rfl) (am_g2 (by decide) g1403 rfl) (am_nd_f c1404) ?_
    obtain ⟨g1405, h⟩ := am_if_some h
    obtain ⟨g1406, h⟩ := am_if_some h
    by_cases c1407 : x1 = (J 57 1)
    · rw [if_pos c1407] at h
      refine am_r_t (show am_stepn X T_Sheet_faultAs 4 true (13, [(0, am_pv 57), (1, am_iv x1)], [], am_SH, (J, K, am_RF b)) = some (((decide (am_i32 (J 57 1)) && decide (am_i32 x1)) && true), .inl (bif am_cb .eq x1 (J 57 1) then 25 else 21, [(0, am_pv 57), (1, am_iv x1)], [], am_SH, (J, K, am_RF b))) from rfl) (am_g2 g1405 g1406 rfl) (decide_eq_true c1407) ?_
      obtain rfl := Option.some.inj h
      exact am_r_ret (show am_stepn X T_Sheet_faultAs 2 true (25, [(0, am_pv 57), (1, am_iv x1)], [], am_SH, (J, K, am_RF b)) = some (true, .inr (.inr (some (am_iv 0), am_SH, (J, K, am_RF b)))) from rfl) rfl
    · rw [if_neg c1407] at h
      refine am_r_f (show am_stepn X T_Sheet_faultAs 4 true (13, [(0, am_pv 57), (1, am_iv x1)], [], am_SH, (J, K, am_RF b)) = some (((decide (am_i32 (J 57 1)) && decide (am_i32 x1)) && true), .inl (bif am_cb .eq x1 (J 57 1) then 25 else 21, [(0, am_pv 57), (1, am_iv x1)], [], am_SH, (J, K, am_RF b))) from rfl) (am_g2 g1405 g1406 rfl) (decide_eq_false c1407) ?_
      obtain rfl := Option.some.inj h
      exact am_r_ret (show am_stepn X T_Sheet_faultAs 3 true (21, [(0, am_pv 57), (1, am_iv x1)], [], am_SH, (J, K, am_RF b)) = some (true, .inr (.inr (some (am_iv 3), am_SH, (J, K, am_RF b)))) from rfl) rfl
theorem s_Sheet_faultAs_59_ {X : am_X} {b : Bool} {J : am_J} {K : am_K} {x1 : Int} {r : Int} (h : f_Sheet_faultAs 59 J x1 = some r) : am_runs X T_Sheet_faultAs (0, [(0, am_pv 59), (1, am_iv x1)], [], am_SH, (J, K, am_RF b)) (some (am_iv r), am_SH, (J, K, am_RF b)) := by
  unfold f_Sheet_faultAs at h
  obtain ⟨g1403, h⟩ := am_if_some h
  by_cases c1404 : (J 59 2) = (-4)
  · rw [if_pos c1404] at h
    refine am_r_f (show am_stepn X T_Sheet_faultAs 4 true (0, [(0, am_pv 59), (1, am_iv x1)], [], am_SH, (J, K, am_RF b)) = some (((decide (am_i32 (-4)) && decide (am_i32 (J 59 2))) && true), .inl (bif am_cb .ne (J 59 2) (-4) then 13 else 9, [(0, am_pv 59), (1, am_iv x1)], [], am_SH, (J, K, am_RF b))) from rfl) (am_g2 (by decide) g1403 rfl) (am_nd_t c1404) ?_
    obtain rfl := Option.some.inj h
    exact am_r_ret (show am_stepn X T_Sheet_faultAs 3 true (9, [(0, am_pv 59), (1, am_iv x1)], [], am_SH, (J, K, am_RF b)) = some (true, .inr (.inr (some (am_iv 1), am_SH, (J, K, am_RF b)))) from rfl) rfl
  · rw [if_neg c1404] at h
    refine am_r_t (show am_stepn X T_Sheet_faultAs 4 true (0, [(0, am_pv 59), (1, am_iv x1)], [], am_SH, (J, K, am_RF b)) = some (((decide (am_i32 (-4)) && decide (am_i32 (J 59 2))) && true), .inl (bif am_cb .ne (J 59 2) (-4) then 13 else 9, [(0, am_pv 59), (1, am_iv x1)], [], am_SH, (J, K, am_RF b))) from rfl) (am_g2 (by decide) g1403 rfl) (am_nd_f c1404) ?_
    obtain ⟨g1405, h⟩ := am_if_some h
    obtain ⟨g1406, h⟩ := am_if_some h
    by_cases c1407 : x1 = (J 59 1)
    · rw [if_pos c1407] at h
      refine am_r_t (show am_stepn X T_Sheet_faultAs 4 true (13, [(0, am_pv 59), (1, am_iv x1)], [], am_SH, (J, K, am_RF b)) = some (((decide (am_i32 (J 59 1)) && decide (am_i32 x1)) && true), .inl (bif am_cb .eq x1 (J 59 1) then 25 else 21, [(0, am_pv 59), (1, am_iv x1)], [], am_SH, (J, K, am_RF b))) from rfl) (am_g2 g1405 g1406 rfl) (decide_eq_true c1407) ?_
      obtain rfl := Option.some.inj h
      exact am_r_ret (show am_stepn X T_Sheet_faultAs 2 true (25, [(0, am_pv 59), (1, am_iv x1)], [], am_SH, (J, K, am_RF b)) = some (true, .inr (.inr (some (am_iv 0), am_SH, (J, K, am_RF b)))) from rfl) rfl
    · rw [if_neg c1407] at h
      refine am_r_f (show am_stepn X T_Sheet_faultAs 4 true (13, [(0, am_pv 59), (1, am_iv x1)], [], am_SH, (J, K, am_RF b)) = some (((decide (am_i32 (J 59 1)) && decide (am_i32 x1)) && true), .inl (bif am_cb .eq x1 (J 59 1) then 25 else 21, [(0, am_pv 59), (1, am_iv x1)], [], am_SH, (J, K, am_RF b))) from rfl) (am_g2 g1405 g1406 rfl) (decide_eq_false c1407) ?_
      obtain rfl := Option.some.inj h
      exact am_r_ret (show am_stepn X T_Sheet_faultAs 3 true (21, [(0, am_pv 59), (1, am_iv x1)], [], am_SH, (J, K, am_RF b)) = some (true, .inr (.inr (some (am_iv 3), am_SH, (J, K, am_RF b)))) from rfl) rfl
theorem s_Sheet_faultAs_61_ {X : am_X} {b : Bool} {J : am_J} {K : am_K} {x1 : Int} {r : Int} (h : f_Sheet_faultAs 61 J x1 = some r) : am_runs X T_Sheet_faultAs (0, [(0, am_pv 61), (1, am_iv x1)], [], am_SH, (J, K, am_RF b)) (some (am_iv r), am_SH, (J, K, am_RF b)) := by
  unfold f_Sheet_faultAs at h
  obtain ⟨g1403, h⟩ := am_if_some h
  by_cases c1404 : (J 61 2) = (-4)
  · rw [if_pos c1404] at h
    refine am_r_f (show am_stepn X T_Sheet_faultAs 4 true (0, [(0, am_pv 61), (1, am_iv x1)], [], am_SH, (J, K, am_RF b)) = some (((decide (am_i32 (-4)) && decide (am_i32 (J 61 2))) && true), .inl (bif am_cb .ne (J 61 2) (-4) then 13 else 9, [(0, am_pv 61), (1, am_iv x1)], [], am_SH, (J, K, am_RF b))) from rfl) (am_g2 (by decide) g1403 rfl) (am_nd_t c1404) ?_
    obtain rfl := Option.some.inj h
    exact am_r_ret (show am_stepn X T_Sheet_faultAs 3 true (9, [(0, am_pv 61), (1, am_iv x1)], [], am_SH, (J, K, am_RF b)) = some (true, .inr (.inr (some (am_iv 1), am_SH, (J, K, am_RF b)))) from rfl) rfl
  · rw [if_neg c1404] at h
    refine am_r_t (show am_stepn X T_Sheet_faultAs 4 true (0, [(0, am_pv 61), (1, am_iv x1)], [], am_SH, (J, K, am_RF b)) = some (((decide (am_i32 (-4)) && decide (am_i32 (J 61 2))) && true), .inl (bif am_cb .ne (J 61 2) (-4) then 13 else 9, [(0, am_pv 61), (1, am_iv x1)], [], am_SH, (J, K, am_RF b))) from rfl) (am_g2 (by decide) g1403 rfl) (am_nd_f c1404) ?_
    obtain ⟨g1405, h⟩ := am_if_some h
    obtain ⟨g1406, h⟩ := am_if_some h
    by_cases c1407 : x1 = (J 61 1)
    · rw [if_pos c1407] at h
      refine am_r_t (show am_stepn X T_Sheet_faultAs 4 true (13, [(0, am_pv 61), (1, am_iv x1)], [], am_SH, (J, K, am_RF b)) = some (((decide (am_i32 (J 61 1)) && decide (am_i32 x1)) && true), .inl (bif am_cb .eq x1 (J 61 1) then 25 else 21, [(0, am_pv 61), (1, am_iv x1)], [], am_SH, (J, K, am_RF b))) from rfl) (am_g2 g1405 g1406 rfl) (decide_eq_true c1407) ?_
      obtain rfl := Option.some.inj h
      exact am_r_ret (show am_stepn X T_Sheet_faultAs 2 true (25, [(0, am_pv 61), (1, am_iv x1)], [], am_SH, (J, K, am_RF b)) = some (true, .inr (.inr (some (am_iv 0), am_SH, (J, K, am_RF b)))) from rfl) rfl
    · rw [if_neg c1407] at h
      refine am_r_f (show am_stepn X T_Sheet_faultAs 4 true (13, [(0, am_pv 61), (1, am_iv x1)], [], am_SH, (J, K, am_RF b)) = some (((decide (am_i32 (J 61 1)) && decide (am_i32 x1)) && true), .inl (bif am_cb .eq x1 (J 61 1) then 25 else 21, [(0, am_pv 61), (1, am_iv x1)], [], am_SH, (J, K, am_RF b))) from rfl) (am_g2 g1405 g1406 rfl) (decide_eq_false c1407) ?_
      obtain rfl := Option.some.inj h
      exact am_r_ret (show am_stepn X T_Sheet_faultAs 3 true (21, [(0, am_pv 61), (1, am_iv x1)], [], am_SH, (J, K, am_RF b)) = some (true, .inr (.inr (some (am_iv 3), am_SH, (J, K, am_RF b)))) from rfl) rfl
theorem s_Sheet_faultAs_63_ {X : am_X} {b : Bool} {J : am_J} {K : am_K} {x1 : Int} {r : Int} (h : f_Sheet_faultAs 63 J x1 = some r) : am_runs X T_Sheet_faultAs (0, [(0, am_pv 63), (1, am_iv x1)], [], am_SH, (J, K, am_RF b)) (some (am_iv r), am_SH, (J, K, am_RF b)) := by
  unfold f_Sheet_faultAs at h
  obtain ⟨g1403, h⟩ := am_if_some h
  by_cases c1404 : (J 63 2) = (-4)
  · rw [if_pos c1404] at h
    refine am_r_f (show am_stepn X T_Sheet_faultAs 4 true (0, [(0, am_pv 63), (1, am_iv x1)], [], am_SH, (J, K, am_RF b)) = some (((decide (am_i32 (-4)) && decide (am_i32 (J 63 2))) && true), .inl (bif am_cb .ne (J 63 2) (-4) then 13 else 9, [(0, am_pv 63), (1, am_iv x1)], [], am_SH, (J, K, am_RF b))) from rfl) (am_g2 (by decide) g1403 rfl) (am_nd_t c1404) ?_
    obtain rfl := Option.some.inj h
    exact am_r_ret (show am_stepn X T_Sheet_faultAs 3 true (9, [(0, am_pv 63), (1, am_iv x1)], [], am_SH, (J, K, am_RF b)) = some (true, .inr (.inr (some (am_iv 1), am_SH, (J, K, am_RF b)))) from rfl) rfl
  · rw [if_neg c1404] at h
    refine am_r_t (show am_stepn X T_Sheet_faultAs 4 true (0, [(0, am_pv 63), (1, am_iv x1)], [], am_SH, (J, K, am_RF b)) = some (((decide (am_i32 (-4)) && decide (am_i32 (J 63 2))) && true), .inl (bif am_cb .ne (J 63 2) (-4) then 13 else 9, [(0, am_pv 63), (1, am_iv x1)], [], am_SH, (J, K, am_RF b))) from rfl) (am_g2 (by decide) g1403 rfl) (am_nd_f c1404) ?_
    obtain ⟨g1405, h⟩ := am_if_some h
    obtain ⟨g1406, h⟩ := am_if_some h
    by_cases c1407 : x1 = (J 63 1)
    · rw [if_pos c1407] at h
      refine am_r_t (show am_stepn X T_Sheet_faultAs 4 true (13, [(0, am_pv 63), (1, am_iv x1)], [], am_SH, (J, K, am_RF b)) = some (((decide (am_i32 (J 63 1)) && decide (am_i32 x1)) && true), .inl (bif am_cb .eq x1 (J 63 1) then 25 else 21, [(0, am_pv 63), (1, am_iv x1)], [], am_SH, (J, K, am_RF b))) from rfl) (am_g2 g1405 g1406 rfl) (decide_eq_true c1407) ?_
      obtain rfl := Option.some.inj h
      exact am_r_ret (show am_stepn X T_Sheet_faultAs 2 true (25, [(0, am_pv 63), (1, am_iv x1)], [], am_SH, (J, K, am_RF b)) = some (true, .inr (.inr (some (am_iv 0), am_SH, (J, K, am_RF b)))) from rfl) rfl
    · rw [if_neg c1407] at h
      refine am_r_f (show am_stepn X T_Sheet_faultAs 4 true (13, [(0, am_pv 63), (1, am_iv x1)], [], am_SH, (J, K, am_RF b)) = some (((decide (am_i32 (J 63 1)) && decide (am_i32 x1)) && true), .inl (bif am_cb .eq x1 (J 63 1) then 25 else 21, [(0, am_pv 63), (1, am_iv x1)], [], am_SH, (J, K, am_RF b))) from rfl) (am_g2 g1405 g1406 rfl) (decide_eq_false c1407) ?_
      obtain rfl := Option.some.inj h
      exact am_r_ret (show am_stepn X T_Sheet_faultAs 3 true (21, [(0, am_pv 63), (1, am_iv x1)], [], am_SH, (J, K, am_RF b)) = some (true, .inr (.inr (some (am_iv 3), am_SH, (J, K, am_RF b)))) from rfl) rfl
theorem s_Sheet_faultAs {X : am_X} {b : Bool} {o1 : Nat} (ho : o1 = 57 ∨ o1 = 59 ∨ o1 = 61 ∨ o1 = 63) {J : am_J} {K : am_K} {x1 : Int} {r : Int} (h : f_Sheet_faultAs o1 J x1 = some r) : am_runs X T_Sheet_faultAs (0, [(0, am_pv o1), (1, am_iv x1)], [], am_SH, (J, K, am_RF b)) (some (am_iv r), am_SH, (J, K, am_RF b)) := by
  rcases ho with rfl | rfl | rfl | rfl
  · skip
    exact s_Sheet_faultAs_57_ h
  · skip
    exact s_Sheet_faultAs_59_ h
  · skip
    exact s_Sheet_faultAs_61_ h
  · skip
    exact s_Sheet_faultAs_63_ h
theorem s_UpRiver_read_L67_f {X : am_X} {K : am_K}  : ∀ (n : Nat) (x1 : Int) (x3 : Int) (x4 : Int) (x5 : Int) (x6 : Int) (x7 : Int) (x8 : Int) (J : am_J) (r : Int × am_J), f_UpRiver_read_L67 false  n x1 x3 x4 x5 x6 x7 x8 J = some r → am_runs X T_UpRiver_read (67, [(0, am_pv 0), (1, am_iv x1), (3, am_iv x3), (4, am_iv x4), (5, am_iv x5), (6, am_iv x6), (7, am_iv x7), (8, am_iv x8)], [], am_SH, (J, K, am_RF false)) (some (am_iv r.1), am_SH, (r.2, K, am_RF false)) := by
  intro n
  induction n with
  | zero =>
    intro x1 x3 x4 x5 x6 x7 x8 J r h
    cases h
  | succ n ih =>
    intro x1 x3 x4 x5 x6 x7 x8 J r h
    rw [f_UpRiver_read_L67.eq_2] at h
    obtain ⟨g1408, h⟩ := am_if_some h
    obtain ⟨g1409, h⟩ := am_if_some h
    by_cases c1410 : x8 < x4
    · rw [if_pos c1410] at h
      refine am_r_f (show am_stepn X T_UpRiver_read 3 true (67, [(0, am_pv 0), (1, am_iv x1), (3, am_iv x3), (4, am_iv x4), (5, am_iv x5), (6, am_iv x6), (7, am_iv x7), (8, am_iv x8)], [], am_SH, (J, K, am_RF false)) = some (((decide (am_i32 x4) && decide (am_i32 x8)) && true), .inl (bif am_cb .ge x8 x4 then 185 else 74, [(0, am_pv 0), (1, am_iv x1), (3, am_iv x3), (4, am_iv x4), (5, am_iv x5), (6, am_iv x6), (7, am_iv x7), (8, am_iv x8)], [], am_SH, (J, K, am_RF false))) from rfl) (am_g2 g1408 g1409 rfl) (am_nd_t c1410) ?_
      obtain ⟨g1411, h⟩ := am_if_some h
      by_cases c1412 : x5 = 0
      · rw [if_pos c1412] at h
        refine am_r_f (show am_stepn X T_UpRiver_read 2 true (74, [(0, am_pv 0), (1, am_iv x1), (3, am_iv x3), (4, am_iv x4), (5, am_iv x5), (6, am_iv x6), (7, am_iv x7), (8, am_iv x8)], [], am_SH, (J, K, am_RF false)) = some ((decide (am_i32 x5) && true), .inl (bif am_cb .ne x5 0 then 185 else 79, [(0, am_pv 0), (1, am_iv x1), (3, am_iv x3), (4, am_iv x4), (5, am_iv x5), (6, am_iv x6), (7, am_iv x7), (8, am_iv x8)], [], am_SH, (J, K, am_RF false))) from rfl) (am_g1 g1411 rfl) (am_nd_t c1412) ?_
        by_cases c1413 : x1 = 0
        · rw [if_pos c1413] at h
          revert h
          subst c1413
          intro h
          obtain ⟨q1414, e1415, h⟩ := am_bind_some h
          refine am_r_call (show am_stepn X T_UpRiver_read 14 true (79, [(0, am_pv 0), (1, am_iv 0), (3, am_iv x3), (4, am_iv x4), (5, am_iv x5), (6, am_iv x6), (7, am_iv x7), (8, am_iv x8)], [], am_SH, (J, K, am_RF false)) = some ((am_in 0 4 && true), .inr (.inl (141, [am_pv 57, am_jv ((am_i2l x3) + ((2 : Int64) * (am_i2l x8)))], 3, 0, 0, 102, [(0, am_pv 0), (1, am_iv 0), (3, am_iv x3), (4, am_iv x4), (5, am_iv x5), (6, am_iv x6), (7, am_iv x7), (8, am_iv x8), (9, am_jv ((am_i2l x3) + ((2 : Int64) * (am_i2l x8))))], [], am_SH, (J, K, am_RF false)))) from rfl) (am_gi (by decide) rfl) tb_Sheet_hasCell (s_Sheet_hasCell (by decide) e1415) ?_
          obtain ⟨g1416, h⟩ := am_if_some h
          by_cases c1417 : q1414 = 0
          · rw [if_pos c1417] at h
            refine am_r_t (show am_stepn X T_UpRiver_read 1 true (102, [(0, am_pv 0), (1, am_iv 0), (3, am_iv x3), (4, am_iv x4), (5, am_iv x5), (6, am_iv x6), (7, am_iv x7), (8, am_iv x8), (9, am_jv ((am_i2l x3) + ((2 : Int64) * (am_i2l x8))))], [am_iv q1414], am_SH, (J, K, am_RF false)) = some ((decide (am_i32 q1414) && true), .inl (bif am_cb .eq q1414 0 then 121 else 105, [(0, am_pv 0), (1, am_iv 0), (3, am_iv x3), (4, am_iv x4), (5, am_iv x5), (6, am_iv x6), (7, am_iv x7), (8, am_iv x8), (9, am_jv ((am_i2l x3) + ((2 : Int64) * (am_i2l x8))))], [], am_SH, (J, K, am_RF false))) from rfl) (am_g1 g1416 rfl) (decide_eq_true c1417) ?_
            refine am_r_go (show am_stepn X T_UpRiver_read 5 true (121, [(0, am_pv 0), (1, am_iv 0), (3, am_iv x3), (4, am_iv x4), (5, am_iv x5), (6, am_iv x6), (7, am_iv x7), (8, am_iv x8), (9, am_jv ((am_i2l x3) + ((2 : Int64) * (am_i2l x8))))], [], am_SH, (J, K, am_RF false)) = some (true, .inl (67, [(0, am_pv 0), (1, am_iv 0), (3, am_iv x3), (4, am_iv x4), (5, am_iv 2), (6, am_iv x6), (7, am_iv x7), (8, am_iv (x8 + 1))], [], am_SH, (J, K, am_RF false))) from rfl) rfl ?_
            exact ih _ _ _ _ _ _ _ _ _ h
          · rw [if_neg c1417] at h
            refine am_r_f (show am_stepn X T_UpRiver_read 1 true (102, [(0, am_pv 0), (1, am_iv 0), (3, am_iv x3), (4, am_iv x4), (5, am_iv x5), (6, am_iv x6), (7, am_iv x7), (8, am_iv x8), (9, am_jv ((am_i2l x3) + ((2 : Int64) * (am_i2l x8))))], [am_iv q1414], am_SH, (J, K, am_RF false)) = some ((decide (am_i32 q1414) && true), .inl (bif am_cb .eq q1414 0 then 121 else 105, [(0, am_pv 0), (1, am_iv 0), (3, am_iv x3), (4, am_iv x4), (5, am_iv x5), (6, am_iv x6), (7, am_iv x7), (8, am_iv x8), (9, am_jv ((am_i2l x3) + ((2 : Int64) * (am_i2l x8))))], [], am_SH, (J, K, am_RF false))) from rfl) (am_g1 g1416 rfl) (decide_eq_false c1417) ?_
            obtain ⟨q1418, e1419, h⟩ := am_bind_some h
            refine am_r_call (show am_stepn X T_UpRiver_read 8 true (105, [(0, am_pv 0), (1, am_iv 0), (3, am_iv x3), (4, am_iv x4), (5, am_iv x5), (6, am_iv x6), (7, am_iv x7), (8, am_iv x8), (9, am_jv ((am_i2l x3) + ((2 : Int64) * (am_i2l x8))))], [], am_SH, (J, K, am_RF false)) = some ((am_in 0 4 && true), .inr (.inl (141, [am_pv 57, am_jv (((am_i2l x3) + ((2 : Int64) * (am_i2l x8))) + (1 : Int64))], 3, 0, 0, 118, [(0, am_pv 0), (1, am_iv 0), (3, am_iv x3), (4, am_iv x4), (5, am_iv x5), (6, am_iv x6), (7, am_iv x7), (8, am_iv x8), (9, am_jv ((am_i2l x3) + ((2 : Int64) * (am_i2l x8))))], [], am_SH, (J, K, am_RF false)))) from rfl) (am_gi (by decide) rfl) tb_Sheet_hasCell (s_Sheet_hasCell (by decide) e1419) ?_
            obtain ⟨g1420, h⟩ := am_if_some h
            by_cases c1421 : q1418 = 0
            · rw [if_pos c1421] at h
              refine am_r_f (show am_stepn X T_UpRiver_read 1 true (118, [(0, am_pv 0), (1, am_iv 0), (3, am_iv x3), (4, am_iv x4), (5, am_iv x5), (6, am_iv x6), (7, am_iv x7), (8, am_iv x8), (9, am_jv ((am_i2l x3) + ((2 : Int64) * (am_i2l x8))))], [am_iv q1418], am_SH, (J, K, am_RF false)) = some ((decide (am_i32 q1418) && true), .inl (bif am_cb .ne q1418 0 then 127 else 121, [(0, am_pv 0), (1, am_iv 0), (3, am_iv x3), (4, am_iv x4), (5, am_iv x5), (6, am_iv x6), (7, am_iv x7), (8, am_iv x8), (9, am_jv ((am_i2l x3) + ((2 : Int64) * (am_i2l x8))))], [], am_SH, (J, K, am_RF false))) from rfl) (am_g1 g1420 rfl) (am_nd_t c1421) ?_
              refine am_r_go (show am_stepn X T_UpRiver_read 5 true (121, [(0, am_pv 0), (1, am_iv 0), (3, am_iv x3), (4, am_iv x4), (5, am_iv x5), (6, am_iv x6), (7, am_iv x7), (8, am_iv x8), (9, am_jv ((am_i2l x3) + ((2 : Int64) * (am_i2l x8))))], [], am_SH, (J, K, am_RF false)) = some (true, .inl (67, [(0, am_pv 0), (1, am_iv 0), (3, am_iv x3), (4, am_iv x4), (5, am_iv 2), (6, am_iv x6), (7, am_iv x7), (8, am_iv (x8 + 1))], [], am_SH, (J, K, am_RF false))) from rfl) rfl ?_
              exact ih _ _ _ _ _ _ _ _ _ h
            · rw [if_neg c1421] at h
              refine am_r_t (show am_stepn X T_UpRiver_read 1 true (118, [(0, am_pv 0), (1, am_iv 0), (3, am_iv x3), (4, am_iv x4), (5, am_iv x5), (6, am_iv x6), (7, am_iv x7), (8, am_iv x8), (9, am_jv ((am_i2l x3) + ((2 : Int64) * (am_i2l x8))))], [am_iv q1418], am_SH, (J, K, am_RF false)) = some ((decide (am_i32 q1418) && true), .inl (bif am_cb .ne q1418 0 then 127 else 121, [(0, am_pv 0), (1, am_iv 0), (3, am_iv x3), (4, am_iv x4), (5, am_iv x5), (6, am_iv x6), (7, am_iv x7), (8, am_iv x8), (9, am_jv ((am_i2l x3) + ((2 : Int64) * (am_i2l x8))))], [], am_SH, (J, K, am_RF false))) from rfl) (am_g1 g1420 rfl) (am_nd_f c1421) ?_
              obtain ⟨q1422, e1423, h⟩ := am_bind_some h
              refine am_r_call (show am_stepn X T_UpRiver_read 7 true (127, [(0, am_pv 0), (1, am_iv 0), (3, am_iv x3), (4, am_iv x4), (5, am_iv x5), (6, am_iv x6), (7, am_iv x7), (8, am_iv x8), (9, am_jv ((am_i2l x3) + ((2 : Int64) * (am_i2l x8))))], [], am_SH, (J, K, am_RF false)) = some ((am_in 0 4 && true), .inr (.inl (144, [am_pv 57, am_jv ((am_i2l x3) + ((2 : Int64) * (am_i2l x8)))], 3, 0, 0, 139, [(0, am_pv 0), (1, am_iv 0), (3, am_iv x3), (4, am_iv x4), (5, am_iv x5), (6, am_iv x6), (7, am_iv x7), (8, am_iv x8), (9, am_jv ((am_i2l x3) + ((2 : Int64) * (am_i2l x8))))], [am_pv 0], am_SH, (J, K, am_RF false)))) from rfl) (am_gi (by decide) rfl) tb_Sheet_cellAt (s_Sheet_cellAt (by decide) e1423) ?_
              obtain ⟨q1424, e1425, h⟩ := am_bind_some h
              refine am_r_call (show am_stepn X T_UpRiver_read 8 true (139, [(0, am_pv 0), (1, am_iv 0), (3, am_iv x3), (4, am_iv x4), (5, am_iv x5), (6, am_iv x6), (7, am_iv x7), (8, am_iv x8), (9, am_jv ((am_i2l x3) + ((2 : Int64) * (am_i2l x8))))], [am_iv q1422, am_pv 0], am_SH, (J, K, am_RF false)) = some ((am_in 0 4 && true), .inr (.inl (144, [am_pv 57, am_jv (((am_i2l x3) + ((2 : Int64) * (am_i2l x8))) + (1 : Int64))], 3, 0, 0, 152, [(0, am_pv 0), (1, am_iv 0), (3, am_iv x3), (4, am_iv x4), (5, am_iv x5), (6, am_iv x6), (7, am_iv x7), (8, am_iv x8), (9, am_jv ((am_i2l x3) + ((2 : Int64) * (am_i2l x8))))], [am_iv q1422, am_pv 0], am_SH, (J, K, am_RF false)))) from rfl) (am_gi (by decide) rfl) tb_Sheet_cellAt (s_Sheet_cellAt (by decide) e1425) ?_
              obtain ⟨q1426, e1427, h⟩ := am_bind_some h
              refine am_r_call (show am_stepn X T_UpRiver_read 1 true (152, [(0, am_pv 0), (1, am_iv 0), (3, am_iv x3), (4, am_iv x4), (5, am_iv x5), (6, am_iv x6), (7, am_iv x7), (8, am_iv x8), (9, am_jv ((am_i2l x3) + ((2 : Int64) * (am_i2l x8))))], [am_iv q1424, am_iv q1422, am_pv 0], am_SH, (J, K, am_RF false)) = some (true, .inr (.inl (119, [am_pv 0, am_iv q1422, am_iv q1424], 3, 0, 0, 155, [(0, am_pv 0), (1, am_iv 0), (3, am_iv x3), (4, am_iv x4), (5, am_iv x5), (6, am_iv x6), (7, am_iv x7), (8, am_iv x8), (9, am_jv ((am_i2l x3) + ((2 : Int64) * (am_i2l x8))))], [], am_SH, (J, K, am_RF false)))) from rfl) rfl tb_UpRiver_logged (s_UpRiver_logged e1427) ?_
              obtain ⟨g1428, h⟩ := am_if_some h
              by_cases c1429 : q1426.1 < 0
              · rw [if_pos c1429] at h
                refine am_r_f (show am_stepn X T_UpRiver_read 1 true (155, [(0, am_pv 0), (1, am_iv 0), (3, am_iv x3), (4, am_iv x4), (5, am_iv x5), (6, am_iv x6), (7, am_iv x7), (8, am_iv x8), (9, am_jv ((am_i2l x3) + ((2 : Int64) * (am_i2l x8))))], [am_iv q1426.1], am_SH, (q1426.2, K, am_RF false)) = some ((decide (am_i32 q1426.1) && true), .inl (bif am_cb .ge q1426.1 0 then 176 else 158, [(0, am_pv 0), (1, am_iv 0), (3, am_iv x3), (4, am_iv x4), (5, am_iv x5), (6, am_iv x6), (7, am_iv x7), (8, am_iv x8), (9, am_jv ((am_i2l x3) + ((2 : Int64) * (am_i2l x8))))], [], am_SH, (q1426.2, K, am_RF false))) from rfl) (am_g1 g1428 rfl) (am_nd_t c1429) ?_
                obtain rfl := Option.some.inj h
                exact am_r_ret (show am_stepn X T_UpRiver_read 9 true (158, [(0, am_pv 0), (1, am_iv 0), (3, am_iv x3), (4, am_iv x4), (5, am_iv x5), (6, am_iv x6), (7, am_iv x7), (8, am_iv x8), (9, am_jv ((am_i2l x3) + ((2 : Int64) * (am_i2l x8))))], [], am_SH, (q1426.2, K, am_RF false)) = some (true, .inr (.inr (some (am_iv ((-20) - x8)), am_SH, ((am_up q1426.2 19 2 x6), K, am_RF false)))) from rfl) rfl
              · rw [if_neg c1429] at h
                refine am_r_t (show am_stepn X T_UpRiver_read 1 true (155, [(0, am_pv 0), (1, am_iv 0), (3, am_iv x3), (4, am_iv x4), (5, am_iv x5), (6, am_iv x6), (7, am_iv x7), (8, am_iv x8), (9, am_jv ((am_i2l x3) + ((2 : Int64) * (am_i2l x8))))], [am_iv q1426.1], am_SH, (q1426.2, K, am_RF false)) = some ((decide (am_i32 q1426.1) && true), .inl (bif am_cb .ge q1426.1 0 then 176 else 158, [(0, am_pv 0), (1, am_iv 0), (3, am_iv x3), (4, am_iv x4), (5, am_iv x5), (6, am_iv x6), (7, am_iv x7), (8, am_iv x8), (9, am_jv ((am_i2l x3) + ((2 : Int64) * (am_i2l x8))))], [], am_SH, (q1426.2, K, am_RF false))) from rfl) (am_g1 g1428 rfl) (am_nd_f c1429) ?_
                refine am_r_go (show am_stepn X T_UpRiver_read 3 true (176, [(0, am_pv 0), (1, am_iv 0), (3, am_iv x3), (4, am_iv x4), (5, am_iv x5), (6, am_iv x6), (7, am_iv x7), (8, am_iv x8), (9, am_jv ((am_i2l x3) + ((2 : Int64) * (am_i2l x8))))], [], am_SH, (q1426.2, K, am_RF false)) = some (true, .inl (67, [(0, am_pv 0), (1, am_iv 0), (3, am_iv x3), (4, am_iv x4), (5, am_iv x5), (6, am_iv x6), (7, am_iv (x7 + 1)), (8, am_iv (x8 + 1))], [], am_SH, (q1426.2, K, am_RF false))) from rfl) rfl ?_
                exact ih _ _ _ _ _ _ _ _ _ h
        · rw [if_neg c1413] at h
          by_cases c1430 : x1 = 1
          · rw [if_pos c1430] at h
            revert h
            subst c1430
            intro h
            obtain ⟨q1431, e1432, h⟩ := am_bind_some h
            refine am_r_call (show am_stepn X T_UpRiver_read 14 true (79, [(0, am_pv 0), (1, am_iv 1), (3, am_iv x3), (4, am_iv x4), (5, am_iv x5), (6, am_iv x6), (7, am_iv x7), (8, am_iv x8)], [], am_SH, (J, K, am_RF false)) = some ((am_in 1 4 && true), .inr (.inl (141, [am_pv 59, am_jv ((am_i2l x3) + ((2 : Int64) * (am_i2l x8)))], 3, 0, 0, 102, [(0, am_pv 0), (1, am_iv 1), (3, am_iv x3), (4, am_iv x4), (5, am_iv x5), (6, am_iv x6), (7, am_iv x7), (8, am_iv x8), (9, am_jv ((am_i2l x3) + ((2 : Int64) * (am_i2l x8))))], [], am_SH, (J, K, am_RF false)))) from rfl) (am_gi (by decide) rfl) tb_Sheet_hasCell (s_Sheet_hasCell (by decide) e1432) ?_
            obtain ⟨g1433, h⟩ := am_if_some h
            by_cases c1434 : q1431 = 0
            · rw [if_pos c1434] at h
              refine am_r_t (show am_stepn X T_UpRiver_read 1 true (102, [(0, am_pv 0), (1, am_iv 1), (3, am_iv x3), (4, am_iv x4), (5, am_iv x5), (6, am_iv x6), (7, am_iv x7), (8, am_iv x8), (9, am_jv ((am_i2l x3) + ((2 : Int64) * (am_i2l x8))))], [am_iv q1431], am_SH, (J, K, am_RF false)) = some ((decide (am_i32 q1431) && true), .inl (bif am_cb .eq q1431 0 then 121 else 105, [(0, am_pv 0), (1, am_iv 1), (3, am_iv x3), (4, am_iv x4), (5, am_iv x5), (6, am_iv x6), (7, am_iv x7), (8, am_iv x8), (9, am_jv ((am_i2l x3) + ((2 : Int64) * (am_i2l x8))))], [], am_SH, (J, K, am_RF false))) from rfl) (am_g1 g1433 rfl) (decide_eq_true c1434) ?_
              refine am_r_go (show am_stepn X T_UpRiver_read 5 true (121, [(0, am_pv 0), (1, am_iv 1), (3, am_iv x3), (4, am_iv x4), (5, am_iv x5), (6, am_iv x6), (7, am_iv x7), (8, am_iv x8), (9, am_jv ((am_i2l x3) + ((2 : Int64) * (am_i2l x8))))], [], am_SH, (J, K, am_RF false)) = some (true, .inl (67, [(0, am_pv 0), (1, am_iv 1), (3, am_iv x3), (4, am_iv x4), (5, am_iv 2), (6, am_iv x6), (7, am_iv x7), (8, am_iv (x8 + 1))], [], am_SH, (J, K, am_RF false))) from rfl) rfl ?_
              exact ih _ _ _ _ _ _ _ _ _ h
            · rw [if_neg c1434] at h
              refine am_r_f (show am_stepn X T_UpRiver_read 1 true (102, [(0, am_pv 0), (1, am_iv 1), (3, am_iv x3), (4, am_iv x4), (5, am_iv x5), (6, am_iv x6), (7, am_iv x7), (8, am_iv x8), (9, am_jv ((am_i2l x3) + ((2 : Int64) * (am_i2l x8))))], [am_iv q1431], am_SH, (J, K, am_RF false)) = some ((decide (am_i32 q1431) && true), .inl (bif am_cb .eq q1431 0 then 121 else 105, [(0, am_pv 0), (1, am_iv 1), (3, am_iv x3), (4, am_iv x4), (5, am_iv x5), (6, am_iv x6), (7, am_iv x7), (8, am_iv x8), (9, am_jv ((am_i2l x3) + ((2 : Int64) * (am_i2l x8))))], [], am_SH, (J, K, am_RF false))) from rfl) (am_g1 g1433 rfl) (decide_eq_false c1434) ?_
              obtain ⟨q1435, e1436, h⟩ := am_bind_some h
              refine am_r_call (show am_stepn X T_UpRiver_read 8 true (105, [(0, am_pv 0), (1, am_iv 1), (3, am_iv x3), (4, am_iv x4), (5, am_iv x5), (6, am_iv x6), (7, am_iv x7), (8, am_iv x8), (9, am_jv ((am_i2l x3) + ((2 : Int64) * (am_i2l x8))))], [], am_SH, (J, K, am_RF false)) = some ((am_in 1 4 && true), .inr (.inl (141, [am_pv 59, am_jv (((am_i2l x3) + ((2 : Int64) * (am_i2l x8))) + (1 : Int64))], 3, 0, 0, 118, [(0, am_pv 0), (1, am_iv 1), (3, am_iv x3), (4, am_iv x4), (5, am_iv x5), (6, am_iv x6), (7, am_iv x7), (8, am_iv x8), (9, am_jv ((am_i2l x3) + ((2 : Int64) * (am_i2l x8))))], [], am_SH, (J, K, am_RF false)))) from rfl) (am_gi (by decide) rfl) tb_Sheet_hasCell (s_Sheet_hasCell (by decide) e1436) ?_
              obtain ⟨g1437, h⟩ := am_if_some h
              by_cases c1438 : q1435 = 0
              · rw [if_pos c1438] at h
                refine am_r_f (show am_stepn X T_UpRiver_read 1 true (118, [(0, am_pv 0), (1, am_iv 1), (3, am_iv x3), (4, am_iv x4), (5, am_iv x5), (6, am_iv x6), (7, am_iv x7), (8, am_iv x8), (9, am_jv ((am_i2l x3) + ((2 : Int64) * (am_i2l x8))))], [am_iv q1435], am_SH, (J, K, am_RF false)) = some ((decide (am_i32 q1435) && true), .inl (bif am_cb .ne q1435 0 then 127 else 121, [(0, am_pv 0), (1, am_iv 1), (3, am_iv x3), (4, am_iv x4), (5, am_iv x5), (6, am_iv x6), (7, am_iv x7), (8, am_iv x8), (9, am_jv ((am_i2l x3) + ((2 : Int64) * (am_i2l x8))))], [], am_SH, (J, K, am_RF false))) from rfl) (am_g1 g1437 rfl) (am_nd_t c1438) ?_
                refine am_r_go (show am_stepn X T_UpRiver_read 5 true (121, [(0, am_pv 0), (1, am_iv 1), (3, am_iv x3), (4, am_iv x4), (5, am_iv x5), (6, am_iv x6), (7, am_iv x7), (8, am_iv x8), (9, am_jv ((am_i2l x3) + ((2 : Int64) * (am_i2l x8))))], [], am_SH, (J, K, am_RF false)) = some (true, .inl (67, [(0, am_pv 0), (1, am_iv 1), (3, am_iv x3), (4, am_iv x4), (5, am_iv 2), (6, am_iv x6), (7, am_iv x7), (8, am_iv (x8 + 1))], [], am_SH, (J, K, am_RF false))) from rfl) rfl ?_
                exact ih _ _ _ _ _ _ _ _ _ h
              · rw [if_neg c1438] at h
                refine am_r_t (show am_stepn X T_UpRiver_read 1 true (118, [(0, am_pv 0), (1, am_iv 1), (3, am_iv x3), (4, am_iv x4), (5, am_iv x5), (6, am_iv x6), (7, am_iv x7), (8, am_iv x8), (9, am_jv ((am_i2l x3) + ((2 : Int64) * (am_i2l x8))))], [am_iv q1435], am_SH, (J, K, am_RF false)) = some ((decide (am_i32 q1435) && true), .inl (bif am_cb .ne q1435 0 then 127 else 121, [(0, am_pv 0), (1, am_iv 1), (3, am_iv x3), (4, am_iv x4), (5, am_iv x5), (6, am_iv x6), (7, am_iv x7), (8, am_iv x8), (9, am_jv ((am_i2l x3) + ((2 : Int64) * (am_i2l x8))))], [], am_SH, (J, K, am_RF false))) from rfl) (am_g1 g1437 rfl) (am_nd_f c1438) ?_
                obtain ⟨q1439, e1440, h⟩ := am_bind_some h
                refine am_r_call (show am_stepn X T_UpRiver_read 7 true (127, [(0, am_pv 0), (1, am_iv 1), (3, am_iv x3), (4, am_iv x4), (5, am_iv x5), (6, am_iv x6), (7, am_iv x7), (8, am_iv x8), (9, am_jv ((am_i2l x3) + ((2 : Int64) * (am_i2l x8))))], [], am_SH, (J, K, am_RF false)) = some ((am_in 1 4 && true), .inr (.inl (144, [am_pv 59, am_jv ((am_i2l x3) + ((2 : Int64) * (am_i2l x8)))], 3, 0, 0, 139, [(0, am_pv 0), (1, am_iv 1), (3, am_iv x3), (4, am_iv x4), (5, am_iv x5), (6, am_iv x6), (7, am_iv x7), (8, am_iv x8), (9, am_jv ((am_i2l x3) + ((2 : Int64) * (am_i2l x8))))], [am_pv 0], am_SH, (J, K, am_RF false)))) from rfl) (am_gi (by decide) rfl) tb_Sheet_cellAt (s_Sheet_cellAt (by decide) e1440) ?_
                obtain ⟨q1441, e1442, h⟩ := am_bind_some h
                refine am_r_call (show am_stepn X T_UpRiver_read 8 true (139, [(0, am_pv 0), (1, am_iv 1), (3, am_iv x3), (4, am_iv x4), (5, am_iv x5), (6, am_iv x6), (7, am_iv x7), (8, am_iv x8), (9, am_jv ((am_i2l x3) + ((2 : Int64) * (am_i2l x8))))], [am_iv q1439, am_pv 0], am_SH, (J, K, am_RF false)) = some ((am_in 1 4 && true), .inr (.inl (144, [am_pv 59, am_jv (((am_i2l x3) + ((2 : Int64) * (am_i2l x8))) + (1 : Int64))], 3, 0, 0, 152, [(0, am_pv 0), (1, am_iv 1), (3, am_iv x3), (4, am_iv x4), (5, am_iv x5), (6, am_iv x6), (7, am_iv x7), (8, am_iv x8), (9, am_jv ((am_i2l x3) + ((2 : Int64) * (am_i2l x8))))], [am_iv q1439, am_pv 0], am_SH, (J, K, am_RF false)))) from rfl) (am_gi (by decide) rfl) tb_Sheet_cellAt (s_Sheet_cellAt (by decide) e1442) ?_
                obtain ⟨q1443, e1444, h⟩ := am_bind_some h
                refine am_r_call (show am_stepn X T_UpRiver_read 1 true (152, [(0, am_pv 0), (1, am_iv 1), (3, am_iv x3), (4, am_iv x4), (5, am_iv x5), (6, am_iv x6), (7, am_iv x7), (8, am_iv x8), (9, am_jv ((am_i2l x3) + ((2 : Int64) * (am_i2l x8))))], [am_iv q1441, am_iv q1439, am_pv 0], am_SH, (J, K, am_RF false)) = some (true, .inr (.inl (119, [am_pv 0, am_iv q1439, am_iv q1441], 3, 0, 0, 155, [(0, am_pv 0), (1, am_iv 1), (3, am_iv x3), (4, am_iv x4), (5, am_iv x5), (6, am_iv x6), (7, am_iv x7), (8, am_iv x8), (9, am_jv ((am_i2l x3) + ((2 : Int64) * (am_i2l x8))))], [], am_SH, (J, K, am_RF false)))) from rfl) rfl tb_UpRiver_logged (s_UpRiver_logged e1444) ?_
                obtain ⟨g1445, h⟩ := am_if_some h
                by_cases c1446 : q1443.1 < 0
                · rw [if_pos c1446] at h
                  refine am_r_f (show am_stepn X T_UpRiver_read 1 true (155, [(0, am_pv 0), (1, am_iv 1), (3, am_iv x3), (4, am_iv x4), (5, am_iv x5), (6, am_iv x6), (7, am_iv x7), (8, am_iv x8), (9, am_jv ((am_i2l x3) + ((2 : Int64) * (am_i2l x8))))], [am_iv q1443.1], am_SH, (q1443.2, K, am_RF false)) = some ((decide (am_i32 q1443.1) && true), .inl (bif am_cb .ge q1443.1 0 then 176 else 158, [(0, am_pv 0), (1, am_iv 1), (3, am_iv x3), (4, am_iv x4), (5, am_iv x5), (6, am_iv x6), (7, am_iv x7), (8, am_iv x8), (9, am_jv ((am_i2l x3) + ((2 : Int64) * (am_i2l x8))))], [], am_SH, (q1443.2, K, am_RF false))) from rfl) (am_g1 g1445 rfl) (am_nd_t c1446) ?_
                  obtain rfl := Option.some.inj h
                  exact am_r_ret (show am_stepn X T_UpRiver_read 9 true (158, [(0, am_pv 0), (1, am_iv 1), (3, am_iv x3), (4, am_iv x4), (5, am_iv x5), (6, am_iv x6), (7, am_iv x7), (8, am_iv x8), (9, am_jv ((am_i2l x3) + ((2 : Int64) * (am_i2l x8))))], [], am_SH, (q1443.2, K, am_RF false)) = some (true, .inr (.inr (some (am_iv ((-20) - x8)), am_SH, ((am_up q1443.2 19 2 x6), K, am_RF false)))) from rfl) rfl
                · rw [if_neg c1446] at h
                  refine am_r_t (show am_stepn X T_UpRiver_read 1 true (155, [(0, am_pv 0), (1, am_iv 1), (3, am_iv x3), (4, am_iv x4), (5, am_iv x5), (6, am_iv x6), (7, am_iv x7), (8, am_iv x8), (9, am_jv ((am_i2l x3) + ((2 : Int64) * (am_i2l x8))))], [am_iv q1443.1], am_SH, (q1443.2, K, am_RF false)) = some ((decide (am_i32 q1443.1) && true), .inl (bif am_cb .ge q1443.1 0 then 176 else 158, [(0, am_pv 0), (1, am_iv 1), (3, am_iv x3), (4, am_iv x4), (5, am_iv x5), (6, am_iv x6), (7, am_iv x7), (8, am_iv x8), (9, am_jv ((am_i2l x3) + ((2 : Int64) * (am_i2l x8))))], [], am_SH, (q1443.2, K, am_RF false))) from rfl) (am_g1 g1445 rfl) (am_nd_f c1446) ?_
                  refine am_r_go (show am_stepn X T_UpRiver_read 3 true (176, [(0, am_pv 0), (1, am_iv 1), (3, am_iv x3), (4, am_iv x4), (5, am_iv x5), (6, am_iv x6), (7, am_iv x7), (8, am_iv x8), (9, am_jv ((am_i2l x3) + ((2 : Int64) * (am_i2l x8))))], [], am_SH, (q1443.2, K, am_RF false)) = some (true, .inl (67, [(0, am_pv 0), (1, am_iv 1), (3, am_iv x3), (4, am_iv x4), (5, am_iv x5), (6, am_iv x6), (7, am_iv (x7 + 1)), (8, am_iv (x8 + 1))], [], am_SH, (q1443.2, K, am_RF false))) from rfl) rfl ?_
                  exact ih _ _ _ _ _ _ _ _ _ h
          · rw [if_neg c1430] at h
            by_cases c1447 : x1 = 2
            · rw [if_pos c1447] at h
              revert h
              subst c1447
              intro h
              obtain ⟨q1448, e1449, h⟩ := am_bind_some h
              refine am_r_call (show am_stepn X T_UpRiver_read 14 true (79, [(0, am_pv 0), (1, am_iv 2), (3, am_iv x3), (4, am_iv x4), (5, am_iv x5), (6, am_iv x6), (7, am_iv x7), (8, am_iv x8)], [], am_SH, (J, K, am_RF false)) = some ((am_in 2 4 && true), .inr (.inl (141, [am_pv 61, am_jv ((am_i2l x3) + ((2 : Int64) * (am_i2l x8)))], 3, 0, 0, 102, [(0, am_pv 0), (1, am_iv 2), (3, am_iv x3), (4, am_iv x4), (5, am_iv x5), (6, am_iv x6), (7, am_iv x7), (8, am_iv x8), (9, am_jv ((am_i2l x3) + ((2 : Int64) * (am_i2l x8))))], [], am_SH, (J, K, am_RF false)))) from rfl) (am_gi (by decide) rfl) tb_Sheet_hasCell (s_Sheet_hasCell (by decide) e1449) ?_
              obtain ⟨g1450, h⟩ := am_if_some h
              by_cases c1451 : q1448 = 0
              · rw [if_pos c1451] at h
                refine am_r_t (show am_stepn X T_UpRiver_read 1 true (102, [(0, am_pv 0), (1, am_iv 2), (3, am_iv x3), (4, am_iv x4), (5, am_iv x5), (6, am_iv x6), (7, am_iv x7), (8, am_iv x8), (9, am_jv ((am_i2l x3) + ((2 : Int64) * (am_i2l x8))))], [am_iv q1448], am_SH, (J, K, am_RF false)) = some ((decide (am_i32 q1448) && true), .inl (bif am_cb .eq q1448 0 then 121 else 105, [(0, am_pv 0), (1, am_iv 2), (3, am_iv x3), (4, am_iv x4), (5, am_iv x5), (6, am_iv x6), (7, am_iv x7), (8, am_iv x8), (9, am_jv ((am_i2l x3) + ((2 : Int64) * (am_i2l x8))))], [], am_SH, (J, K, am_RF false))) from rfl) (am_g1 g1450 rfl) (decide_eq_true c1451) ?_
                refine am_r_go (show am_stepn X T_UpRiver_read 5 true (121, [(0, am_pv 0), (1, am_iv 2), (3, am_iv x3), (4, am_iv x4), (5, am_iv x5), (6, am_iv x6), (7, am_iv x7), (8, am_iv x8), (9, am_jv ((am_i2l x3) + ((2 : Int64) * (am_i2l x8))))], [], am_SH, (J, K, am_RF false)) = some (true, .inl (67, [(0, am_pv 0), (1, am_iv 2), (3, am_iv x3), (4, am_iv x4), (5, am_iv 2), (6, am_iv x6), (7, am_iv x7), (8, am_iv (x8 + 1))], [], am_SH, (J, K, am_RF false))) from rfl) rfl ?_
                exact ih _ _ _ _ _ _ _ _ _ h
              · rw [if_neg c1451] at h
                refine am_r_f (show am_stepn X T_UpRiver_read 1 true (102, [(0, am_pv 0), (1, am_iv 2), (3, am_iv x3), (4, am_iv x4), (5, am_iv x5), (6, am_iv x6), (7, am_iv x7), (8, am_iv x8), (9, am_jv ((am_i2l x3) + ((2 : Int64) * (am_i2l x8))))], [am_iv q1448], am_SH, (J, K, am_RF false)) = some ((decide (am_i32 q1448) && true), .inl (bif am_cb .eq q1448 0 then 121 else 105, [(0, am_pv 0), (1, am_iv 2), (3, am_iv x3), (4, am_iv x4), (5, am_iv x5), (6, am_iv x6), (7, am_iv x7), (8, am_iv x8), (9, am_jv ((am_i2l x3) + ((2 : Int64) * (am_i2l x8))))], [], am_SH, (J, K, am_RF false))) from rfl) (am_g1 g1450 rfl) (decide_eq_false c1451) ?_
                obtain ⟨q1452, e1453, h⟩ := am_bind_some h
                refine am_r_call (show am_stepn X T_UpRiver_read 8 true (105, [(0, am_pv 0), (1, am_iv 2), (3, am_iv x3), (4, am_iv x4), (5, am_iv x5), (6, am_iv x6), (7, am_iv x7), (8, am_iv x8), (9, am_jv ((am_i2l x3) + ((2 : Int64) * (am_i2l x8))))], [], am_SH, (J, K, am_RF false)) = some ((am_in 2 4 && true), .inr (.inl (141, [am_pv 61, am_jv (((am_i2l x3) + ((2 : Int64) * (am_i2l x8))) + (1 : Int64))], 3, 0, 0, 118, [(0, am_pv 0), (1, am_iv 2), (3, am_iv x3), (4, am_iv x4), (5, am_iv x5), (6, am_iv x6), (7, am_iv x7), (8, am_iv x8), (9, am_jv ((am_i2l x3) + ((2 : Int64) * (am_i2l x8))))], [], am_SH, (J, K, am_RF false)))) from rfl) (am_gi (by decide) rfl) tb_Sheet_hasCell (s_Sheet_hasCell (by decide) e1453) ?_
                obtain ⟨g1454, h⟩ := am_if_some h
                by_cases c1455 : q1452 = 0
                · rw [if_pos c1455] at h
                  refine am_r_f (show am_stepn X T_UpRiver_read 1 true (118, [(0, am_pv 0), (1, am_iv 2), (3, am_iv x3), (4, am_iv x4), (5, am_iv x5), (6, am_iv x6), (7, am_iv x7), (8, am_iv x8), (9, am_jv ((am_i2l x3) + ((2 : Int64) * (am_i2l x8))))], [am_iv q1452], am_SH, (J, K, am_RF false)) = some ((decide (am_i32 q1452) && true), .inl (bif am_cb .ne q1452 0 then 127 else 121, [(0, am_pv 0), (1, am_iv 2), (3, am_iv x3), (4, am_iv x4), (5, am_iv x5), (6, am_iv x6), (7, am_iv x7), (8, am_iv x8), (9, am_jv ((am_i2l x3) + ((2 : Int64) * (am_i2l x8))))], [], am_SH, (J, K, am_RF false))) from rfl) (am_g1 g1454 rfl) (am_nd_t c1455) ?_
                  refine am_r_go (show am_stepn X T_UpRiver_read 5 true (121, [(0, am_pv 0), (1, am_iv 2), (3, am_iv x3), (4, am_iv x4), (5, am_iv x5), (6, am_iv x6), (7, am_iv x7), (8, am_iv x8), (9, am_jv ((am_i2l x3) + ((2 : Int64) * (am_i2l x8))))], [], am_SH, (J, K, am_RF false)) = some (true, .inl (67, [(0, am_pv 0), (1, am_iv 2), (3, am_iv x3), (4, am_iv x4), (5, am_iv 2), (6, am_iv x6), (7, am_iv x7), (8, am_iv (x8 + 1))], [], am_SH, (J, K, am_RF false))) from rfl) rfl ?_
                  exact ih _ _ _ _ _ _ _ _ _ h
                · rw [if_neg c1455] at h
                  refine am_r_t (show am_stepn X T_UpRiver_read 1 true (118, [(0, am_pv 0), (1, am_iv 2), (3, am_iv x3), (4, am_iv x4), (5, am_iv x5), (6, am_iv x6), (7, am_iv x7), (8, am_iv x8), (9, am_jv ((am_i2l x3) + ((2 : Int64) * (am_i2l x8))))], [am_iv q1452], am_SH, (J, K, am_RF false)) = some ((decide (am_i32 q1452) && true), .inl (bif am_cb .ne q1452 0 then 127 else 121, [(0, am_pv 0), (1, am_iv 2), (3, am_iv x3), (4, am_iv x4), (5, am_iv x5), (6, am_iv x6), (7, am_iv x7), (8, am_iv x8), (9, am_jv ((am_i2l x3) + ((2 : Int64) * (am_i2l x8))))], [], am_SH, (J, K, am_RF false))) from rfl) (am_g1 g1454 rfl) (am_nd_f c1455) ?_
                  obtain ⟨q1456, e1457, h⟩ := am_bind_some h
                  refine am_r_call (show am_stepn X T_UpRiver_read 7 true (127, [(0, am_pv 0), (1, am_iv 2), (3, am_iv x3), (4, am_iv x4), (5, am_iv x5), (6, am_iv x6), (7, am_iv x7), (8, am_iv x8), (9, am_jv ((am_i2l x3) + ((2 : Int64) * (am_i2l x8))))], [], am_SH, (J, K, am_RF false)) = some ((am_in 2 4 && true), .inr (.inl (144, [am_pv 61, am_jv ((am_i2l x3) + ((2 : Int64) * (am_i2l x8)))], 3, 0, 0, 139, [(0, am_pv 0), (1, am_iv 2), (3, am_iv x3), (4, am_iv x4), (5, am_iv x5), (6, am_iv x6), (7, am_iv x7), (8, am_iv x8), (9, am_jv ((am_i2l x3) + ((2 : Int64) * (am_i2l x8))))], [am_pv 0], am_SH, (J, K, am_RF false)))) from rfl) (am_gi (by decide) rfl) tb_Sheet_cellAt (s_Sheet_cellAt (by decide) e1457) ?_
                  obtain ⟨q1458, e1459, h⟩ := am_bind_some h
                  refine am_r_call (show am_stepn X T_UpRiver_read 8 true (139, [(0, am_pv 0), (1, am_iv 2), (3, am_iv x3), (4, am_iv x4), (5, am_iv x5), (6, am_iv x6), (7, am_iv x7), (8, am_iv x8), (9, am_jv ((am_i2l x3) + ((2 : Int64) * (am_i2l x8))))], [am_iv q1456, am_pv 0], am_SH, (J, K, am_RF false)) = some ((am_in 2 4 && true), .inr (.inl (144, [am_pv 61, am_jv (((am_i2l x3) + ((2 : Int64) * (am_i2l x8))) + (1 : Int64))], 3, 0, 0, 152, [(0, am_pv 0), (1, am_iv 2), (3, am_iv x3), (4, am_iv x4), (5, am_iv x5), (6, am_iv x6), (7, am_iv x7), (8, am_iv x8), (9, am_jv ((am_i2l x3) + ((2 : Int64) * (am_i2l x8))))], [am_iv q1456, am_pv 0], am_SH, (J, K, am_RF false)))) from rfl) (am_gi (by decide) rfl) tb_Sheet_cellAt (s_Sheet_cellAt (by decide) e1459) ?_
                  obtain ⟨q1460, e1461, h⟩ := am_bind_some h
                  refine am_r_call (show am_stepn X T_UpRiver_read 1 true (152, [(0, am_pv 0), (1, am_iv 2), (3, am_iv x3), (4, am_iv x4), (5, am_iv x5), (6, am_iv x6), (7, am_iv x7), (8, am_iv x8), (9, am_jv ((am_i2l x3) + ((2 : Int64) * (am_i2l x8))))], [am_iv q1458, am_iv q1456, am_pv 0], am_SH, (J, K, am_RF false)) = some (true, .inr (.inl (119, [am_pv 0, am_iv q1456, am_iv q1458], 3, 0, 0, 155, [(0, am_pv 0), (1, am_iv 2), (3, am_iv x3), (4, am_iv x4), (5, am_iv x5), (6, am_iv x6), (7, am_iv x7), (8, am_iv x8), (9, am_jv ((am_i2l x3) + ((2 : Int64) * (am_i2l x8))))], [], am_SH, (J, K, am_RF false)))) from rfl) rfl tb_UpRiver_logged (s_UpRiver_logged e1461) ?_
                  obtain ⟨g1462, h⟩ := am_if_some h
                  by_cases c1463 : q1460.1 < 0
                  · rw [if_pos c1463] at h
                    refine am_r_f (show am_stepn X T_UpRiver_read 1 true (155, [(0, am_pv 0), (1, am_iv 2), (3, am_iv x3), (4, am_iv x4), (5, am_iv x5), (6, am_iv x6), (7, am_iv x7), (8, am_iv x8), (9, am_jv ((am_i2l x3) + ((2 : Int64) * (am_i2l x8))))], [am_iv q1460.1], am_SH, (q1460.2, K, am_RF false)) = some ((decide (am_i32 q1460.1) && true), .inl (bif am_cb .ge q1460.1 0 then 176 else 158, [(0, am_pv 0), (1, am_iv 2), (3, am_iv x3), (4, am_iv x4), (5, am_iv x5), (6, am_iv x6), (7, am_iv x7), (8, am_iv x8), (9, am_jv ((am_i2l x3) + ((2 : Int64) * (am_i2l x8))))], [], am_SH, (q1460.2, K, am_RF false))) from rfl) (am_g1 g1462 rfl) (am_nd_t c1463) ?_
                    obtain rfl := Option.some.inj h
                    exact am_r_ret (show am_stepn X T_UpRiver_read 9 true (158, [(0, am_pv 0), (1, am_iv 2), (3, am_iv x3), (4, am_iv x4), (5, am_iv x5), (6, am_iv x6), (7, am_iv x7), (8, am_iv x8), (9, am_jv ((am_i2l x3) + ((2 : Int64) * (am_i2l x8))))], [], am_SH, (q1460.2, K, am_RF false)) = some (true, .inr (.inr (some (am_iv ((-20) - x8)), am_SH, ((am_up q1460.2 19 2 x6), K, am_RF false)))) from rfl) rfl
                  · rw [if_neg c1463] at h
                    refine am_r_t (show am_stepn X T_UpRiver_read 1 true (155, [(0, am_pv 0), (1, am_iv 2), (3, am_iv x3), (4, am_iv x4), (5, am_iv x5), (6, am_iv x6), (7, am_iv x7), (8, am_iv x8), (9, am_jv ((am_i2l x3) + ((2 : Int64) * (am_i2l x8))))], [am_iv q1460.1], am_SH, (q1460.2, K, am_RF false)) = some ((decide (am_i32 q1460.1) && true), .inl (bif am_cb .ge q1460.1 0 then 176 else 158, [(0, am_pv 0), (1, am_iv 2), (3, am_iv x3), (4, am_iv x4), (5, am_iv x5), (6, am_iv x6), (7, am_iv x7), (8, am_iv x8), (9, am_jv ((am_i2l x3) + ((2 : Int64) * (am_i2l x8))))], [], am_SH, (q1460.2, K, am_RF false))) from rfl) (am_g1 g1462 rfl) (am_nd_f c1463) ?_
                    refine am_r_go (show am_stepn X T_UpRiver_read 3 true (176, [(0, am_pv 0), (1, am_iv 2), (3, am_iv x3), (4, am_iv x4), (5, am_iv x5), (6, am_iv x6), (7, am_iv x7), (8, am_iv x8), (9, am_jv ((am_i2l x3) + ((2 : Int64) * (am_i2l x8))))], [], am_SH, (q1460.2, K, am_RF false)) = some (true, .inl (67, [(0, am_pv 0), (1, am_iv 2), (3, am_iv x3), (4, am_iv x4), (5, am_iv x5), (6, am_iv x6), (7, am_iv (x7 + 1)), (8, am_iv (x8 + 1))], [], am_SH, (q1460.2, K, am_RF false))) from rfl) rfl ?_
                    exact ih _ _ _ _ _ _ _ _ _ h
            · rw [if_neg c1447] at h
              by_cases c1464 : x1 = 3
              · rw [if_pos c1464] at h
                revert h
                subst c1464
                intro h
                obtain ⟨q1465, e1466, h⟩ := am_bind_some h
                refine am_r_call (show am_stepn X T_UpRiver_read 14 true (79, [(0, am_pv 0), (1, am_iv 3), (3, am_iv x3), (4, am_iv x4), (5, am_iv x5), (6, am_iv x6), (7, am_iv x7), (8, am_iv x8)], [], am_SH, (J, K, am_RF false)) = some ((am_in 3 4 && true), .inr (.inl (141, [am_pv 63, am_jv ((am_i2l x3) + ((2 : Int64) * (am_i2l x8)))], 3, 0, 0, 102, [(0, am_pv 0), (1, am_iv 3), (3, am_iv x3), (4, am_iv x4), (5, am_iv x5), (6, am_iv x6), (7, am_iv x7), (8, am_iv x8), (9, am_jv ((am_i2l x3) + ((2 : Int64) * (am_i2l x8))))], [], am_SH, (J, K, am_RF false)))) from rfl) (am_gi (by decide) rfl) tb_Sheet_hasCell (s_Sheet_hasCell (by decide) e1466) ?_
                obtain ⟨g1467, h⟩ := am_if_some h
                by_cases c1468 : q1465 = 0
                · rw [if_pos c1468] at h
                  refine am_r_t (show am_stepn X T_UpRiver_read 1 true (102, [(0, am_pv 0), (1, am_iv 3), (3, am_iv x3), (4, am_iv x4), (5, am_iv x5), (6, am_iv x6), (7, am_iv x7), (8, am_iv x8), (9, am_jv ((am_i2l x3) + ((2 : Int64) * (am_i2l x8))))], [am_iv q1465], am_SH, (J, K, am_RF false)) = some ((decide (am_i32 q1465) && true), .inl (bif am_cb .eq q1465 0 then 121 else 105, [(0, am_pv 0), (1, am_iv 3), (3, am_iv x3), (4, am_iv x4), (5, am_iv x5), (6, am_iv x6), (7, am_iv x7), (8, am_iv x8), (9, am_jv ((am_i2l x3) + ((2 : Int64) * (am_i2l x8))))], [], am_SH, (J, K, am_RF false))) from rfl) (am_g1 g1467 rfl) (decide_eq_true c1468) ?_
                  refine am_r_go (show am_stepn X T_UpRiver_read 5 true (121, [(0, am_pv 0), (1, am_iv 3), (3, am_iv x3), (4, am_iv x4), (5, am_iv x5), (6, am_iv x6), (7, am_iv x7), (8, am_iv x8), (9, am_jv ((am_i2l x3) + ((2 : Int64) * (am_i2l x8))))], [], am_SH, (J, K, am_RF false)) = some (true, .inl (67, [(0, am_pv 0), (1, am_iv 3), (3, am_iv x3), (4, am_iv x4), (5, am_iv 2), (6, am_iv x6), (7, am_iv x7), (8, am_iv (x8 + 1))], [], am_SH, (J, K, am_RF false))) from rfl) rfl ?_
                  exact ih _ _ _ _ _ _ _ _ _ h
                · rw [if_neg c1468] at h
                  refine am_r_f (show am_stepn X T_UpRiver_read 1 true (102, [(0, am_pv 0), (1, am_iv 3), (3, am_iv x3), (4, am_iv x4), (5, am_iv x5), (6, am_iv x6), (7, am_iv x7), (8, am_iv x8), (9, am_jv ((am_i2l x3) + ((2 : Int64) * (am_i2l x8))))], [am_iv q1465], am_SH, (J, K, am_RF false)) = some ((decide (am_i32 q1465) && true), .inl (bif am_cb .eq q1465 0 then 121 else 105, [(0, am_pv 0), (1, am_iv 3), (3, am_iv x3), (4, am_iv x4), (5, am_iv x5), (6, am_iv x6), (7, am_iv x7), (8, am_iv x8), (9, am_jv ((am_i2l x3) + ((2 : Int64) * (am_i2l x8))))], [], am_SH, (J, K, am_RF false))) from rfl) (am_g1 g1467 rfl) (decide_eq_false c1468) ?_
                  obtain ⟨q1469, e1470, h⟩ := am_bind_some h
                  refine am_r_call (show am_stepn X T_UpRiver_read 8 true (105, [(0, am_pv 0), (1, am_iv 3), (3, am_iv x3), (4, am_iv x4), (5, am_iv x5), (6, am_iv x6), (7, am_iv x7), (8, am_iv x8), (9, am_jv ((am_i2l x3) + ((2 : Int64) * (am_i2l x8))))], [], am_SH, (J, K, am_RF false)) = some ((am_in 3 4 && true), .inr (.inl (141, [am_pv 63, am_jv (((am_i2l x3) + ((2 : Int64) * (am_i2l x8))) + (1 : Int64))], 3, 0, 0, 118, [(0, am_pv 0), (1, am_iv 3), (3, am_iv x3), (4, am_iv x4), (5, am_iv x5), (6, am_iv x6), (7, am_iv x7), (8, am_iv x8), (9, am_jv ((am_i2l x3) + ((2 : Int64) * (am_i2l x8))))], [], am_SH, (J, K, am_RF false)))) from rfl) (am_gi (by decide) rfl) tb_Sheet_hasCell (s_Sheet_hasCell (by decide) e1470) ?_
                  obtain ⟨g1471, h⟩ := am_if_some h
                  by_cases c1472 : q1469 = 0
                  · rw [if_pos c1472] at h
                    refine am_r_f (show am_stepn X T_UpRiver_read 1 true (118, [(0, am_pv 0), (1, am_iv 3), (3, am_iv x3), (4, am_iv x4), (5, am_iv x5), (6, am_iv x6), (7, am_iv x7), (8, am_iv x8), (9, am_jv ((am_i2l x3) + ((2 : Int64) * (am_i2l x8))))], [am_iv q1469], am_SH, (J, K, am_RF false)) = some ((decide (am_i32 q1469) && true), .inl (bif am_cb .ne q1469 0 then 127 else 121, [(0, am_pv 0), (1, am_iv 3), (3, am_iv x3), (4, am_iv x4), (5, am_iv x5), (6, am_iv x6), (7, am_iv x7), (8, am_iv x8), (9, am_jv ((am_i2l x3) + ((2 : Int64) * (am_i2l x8))))], [], am_SH, (J, K, am_RF false))) from rfl) (am_g1 g1471 rfl) (am_nd_t c1472) ?_
                    refine am_r_go (show am_stepn X T_UpRiver_read 5 true (121, [(0, am_pv 0), (1, am_iv 3), (3, am_iv x3), (4, am_iv x4), (5, am_iv x5), (6, am_iv x6), (7, am_iv x7), (8, am_iv x8), (9, am_jv ((am_i2l x3) + ((2 : Int64) * (am_i2l x8))))], [], am_SH, (J, K, am_RF false)) = some (true, .inl (67, [(0, am_pv 0), (1, am_iv 3), (3, am_iv x3), (4, am_iv x4), (5, am_iv 2), (6, am_iv x6), (7, am_iv x7), (8, am_iv (x8 + 1))], [], am_SH, (J, K, am_RF false))) from rfl) rfl ?_
                    exact ih _ _ _ _ _ _ _ _ _ h
                  · rw [if_neg c1472] at h
                    refine am_r_t (show am_stepn X T_UpRiver_read 1 true (118, [(0, am_pv 0), (1, am_iv 3), (3, am_iv x3), (4, am_iv x4), (5, am_iv x5), (6, am_iv x6), (7, am_iv x7), (8, am_iv x8), (9, am_jv ((am_i2l x3) + ((2 : Int64) * (am_i2l x8))))], [am_iv q1469], am_SH, (J, K, am_RF false)) = some ((decide (am_i32 q1469) && true), .inl (bif am_cb .ne q1469 0 then 127 else 121, [(0, am_pv 0), (1, am_iv 3), (3, am_iv x3), (4, am_iv x4), (5, am_iv x5), (6, am_iv x6), (7, am_iv x7), (8, am_iv x8), (9, am_jv ((am_i2l x3) + ((2 : Int64) * (am_i2l x8))))], [], am_SH, (J, K, am_RF false))) from rfl) (am_g1 g1471 rfl) (am_nd_f c1472) ?_
                    obtain ⟨q1473, e1474, h⟩ := am_bind_some h
                    refine am_r_call (show am_stepn X T_UpRiver_read 7 true (127, [(0, am_pv 0), (1, am_iv 3), (3, am_iv x3), (4, am_iv x4), (5, am_iv x5), (6, am_iv x6), (7, am_iv x7), (8, am_iv x8), (9, am_jv ((am_i2l x3) + ((2 : Int64) * (am_i2l x8))))], [], am_SH, (J, K, am_RF false)) = some ((am_in 3 4 && true), .inr (.inl (144, [am_pv 63, am_jv ((am_i2l x3) + ((2 : Int64) * (am_i2l x8)))], 3, 0, 0, 139, [(0, am_pv 0), (1, am_iv 3), (3, am_iv x3), (4, am_iv x4), (5, am_iv x5), (6, am_iv x6), (7, am_iv x7), (8, am_iv x8), (9, am_jv ((am_i2l x3) + ((2 : Int64) * (am_i2l x8))))], [am_pv 0], am_SH, (J, K, am_RF false)))) from rfl) (am_gi (by decide) rfl) tb_Sheet_cellAt (s_Sheet_cellAt (by decide) e1474) ?_
                    obtain ⟨q1475, e1476, h⟩ := am_bind_some h
                    refine am_r_call (show am_stepn X T_UpRiver_read 8 true (139, [(0, am_pv 0), (1, am_iv 3), (3, am_iv x3), (4, am_iv x4), (5, am_iv x5), (6, am_iv x6), (7, am_iv x7), (8, am_iv x8), (9, am_jv ((am_i2l x3) + ((2 : Int64) * (am_i2l x8))))], [am_iv q1473, am_pv 0], am_SH, (J, K, am_RF false)) = some ((am_in 3 4 && true), .inr (.inl (144, [am_pv 63, am_jv (((am_i2l x3) + ((2 : Int64) * (am_i2l x8))) + (1 : Int64))], 3, 0, 0, 152, [(0, am_pv 0), (1, am_iv 3), (3, am_iv x3), (4, am_iv x4), (5, am_iv x5), (6, am_iv x6), (7, am_iv x7), (8, am_iv x8), (9, am_jv ((am_i2l x3) + ((2 : Int64) * (am_i2l x8))))], [am_iv q1473, am_pv 0], am_SH, (J, K, am_RF false)))) from rfl) (am_gi (by decide) rfl) tb_Sheet_cellAt (s_Sheet_cellAt (by decide) e1476) ?_
                    obtain ⟨q1477, e1478, h⟩ := am_bind_some h
                    refine am_r_call (show am_stepn X T_UpRiver_read 1 true (152, [(0, am_pv 0), (1, am_iv 3), (3, am_iv x3), (4, am_iv x4), (5, am_iv x5), (6, am_iv x6), (7, am_iv x7), (8, am_iv x8), (9, am_jv ((am_i2l x3) + ((2 : Int64) * (am_i2l x8))))], [am_iv q1475, am_iv q1473, am_pv 0], am_SH, (J, K, am_RF false)) = some (true, .inr (.inl (119, [am_pv 0, am_iv q1473, am_iv q1475], 3, 0, 0, 155, [(0, am_pv 0), (1, am_iv 3), (3, am_iv x3), (4, am_iv x4), (5, am_iv x5), (6, am_iv x6), (7, am_iv x7), (8, am_iv x8), (9, am_jv ((am_i2l x3) + ((2 : Int64) * (am_i2l x8))))], [], am_SH, (J, K, am_RF false)))) from rfl) rfl tb_UpRiver_logged (s_UpRiver_logged e1478) ?_
                    obtain ⟨g1479, h⟩ := am_if_some h
                    by_cases c1480 : q1477.1 < 0
                    · rw [if_pos c1480] at h
                      refine am_r_f (show am_stepn X T_UpRiver_read 1 true (155, [(0, am_pv 0), (1, am_iv 3), (3, am_iv x3), (4, am_iv x4), (5, am_iv x5), (6, am_iv x6), (7, am_iv x7), (8, am_iv x8), (9, am_jv ((am_i2l x3) + ((2 : Int64) * (am_i2l x8))))], [am_iv q1477.1], am_SH, (q1477.2, K, am_RF false)) = some ((decide (am_i32 q1477.1) && true), .inl (bif am_cb .ge q1477.1 0 then 176 else 158, [(0, am_pv 0), (1, am_iv 3), (3, am_iv x3), (4, am_iv x4), (5, am_iv x5), (6, am_iv x6), (7, am_iv x7), (8, am_iv x8), (9, am_jv ((am_i2l x3) + ((2 : Int64) * (am_i2l x8))))], [], am_SH, (q1477.2, K, am_RF false))) from rfl) (am_g1 g1479 rfl) (am_nd_t c1480) ?_
                      obtain rfl := Option.some.inj h
                      exact am_r_ret (show am_stepn X T_UpRiver_read 9 true (158, [(0, am_pv 0), (1, am_iv 3), (3, am_iv x3), (4, am_iv x4), (5, am_iv x5), (6, am_iv x6), (7, am_iv x7), (8, am_iv x8), (9, am_jv ((am_i2l x3) + ((2 : Int64) * (am_i2l x8))))], [], am_SH, (q1477.2, K, am_RF false)) = some (true, .inr (.inr (some (am_iv ((-20) - x8)), am_SH, ((am_up q1477.2 19 2 x6), K, am_RF false)))) from rfl) rfl
                    · rw [if_neg c1480] at h
                      refine am_r_t (show am_stepn X T_UpRiver_read 1 true (155, [(0, am_pv 0), (1, am_iv 3), (3, am_iv x3), (4, am_iv x4), (5, am_iv x5), (6, am_iv x6), (7, am_iv x7), (8, am_iv x8), (9, am_jv ((am_i2l x3) + ((2 : Int64) * (am_i2l x8))))], [am_iv q1477.1], am_SH, (q1477.2, K, am_RF false)) = some ((decide (am_i32 q1477.1) && true), .inl (bif am_cb .ge q1477.1 0 then 176 else 158, [(0, am_pv 0), (1, am_iv 3), (3, am_iv x3), (4, am_iv x4), (5, am_iv x5), (6, am_iv x6), (7, am_iv x7), (8, am_iv x8), (9, am_jv ((am_i2l x3) + ((2 : Int64) * (am_i2l x8))))], [], am_SH, (q1477.2, K, am_RF false))) from rfl) (am_g1 g1479 rfl) (am_nd_f c1480) ?_
                      refine am_r_go (show am_stepn X T_UpRiver_read 3 true (176, [(0, am_pv 0), (1, am_iv 3), (3, am_iv x3), (4, am_iv x4), (5, am_iv x5), (6, am_iv x6), (7, am_iv x7), (8, am_iv x8), (9, am_jv ((am_i2l x3) + ((2 : Int64) * (am_i2l x8))))], [], am_SH, (q1477.2, K, am_RF false)) = some (true, .inl (67, [(0, am_pv 0), (1, am_iv 3), (3, am_iv x3), (4, am_iv x4), (5, am_iv x5), (6, am_iv x6), (7, am_iv (x7 + 1)), (8, am_iv (x8 + 1))], [], am_SH, (q1477.2, K, am_RF false))) from rfl) rfl ?_
                      exact ih _ _ _ _ _ _ _ _ _ h
              · rw [if_neg c1464] at h
                cases h
      · rw [if_neg c1412] at h
        refine am_r_t (show am_stepn X T_UpRiver_read 2 true (74, [(0, am_pv 0), (1, am_iv x1), (3, am_iv x3), (4, am_iv x4), (5, am_iv x5), (6, am_iv x6), (7, am_iv x7), (8, am_iv x8)], [], am_SH, (J, K, am_RF false)) = some ((decide (am_i32 x5) && true), .inl (bif am_cb .ne x5 0 then 185 else 79, [(0, am_pv 0), (1, am_iv x1), (3, am_iv x3), (4, am_iv x4), (5, am_iv x5), (6, am_iv x6), (7, am_iv x7), (8, am_iv x8)], [], am_SH, (J, K, am_RF false))) from rfl) (am_g1 g1411 rfl) (am_nd_f c1412) ?_
        obtain rfl := Option.some.inj h
        exact am_r_ret (show am_stepn X T_UpRiver_read 5 true (185, [(0, am_pv 0), (1, am_iv x1), (3, am_iv x3), (4, am_iv x4), (5, am_iv x5), (6, am_iv x6), (7, am_iv x7), (8, am_iv x8)], [], am_SH, (J, K, am_RF false)) = some (true, .inr (.inr (some (am_iv x7), am_SH, ((am_up J 0 9 x5), K, am_RF false)))) from rfl) rfl
    · rw [if_neg c1410] at h
      refine am_r_t (show am_stepn X T_UpRiver_read 3 true (67, [(0, am_pv 0), (1, am_iv x1), (3, am_iv x3), (4, am_iv x4), (5, am_iv x5), (6, am_iv x6), (7, am_iv x7), (8, am_iv x8)], [], am_SH, (J, K, am_RF false)) = some (((decide (am_i32 x4) && decide (am_i32 x8)) && true), .inl (bif am_cb .ge x8 x4 then 185 else 74, [(0, am_pv 0), (1, am_iv x1), (3, am_iv x3), (4, am_iv x4), (5, am_iv x5), (6, am_iv x6), (7, am_iv x7), (8, am_iv x8)], [], am_SH, (J, K, am_RF false))) from rfl) (am_g2 g1408 g1409 rfl) (am_nd_f c1410) ?_
      obtain rfl := Option.some.inj h
      exact am_r_ret (show am_stepn X T_UpRiver_read 5 true (185, [(0, am_pv 0), (1, am_iv x1), (3, am_iv x3), (4, am_iv x4), (5, am_iv x5), (6, am_iv x6), (7, am_iv x7), (8, am_iv x8)], [], am_SH, (J, K, am_RF false)) = some (true, .inr (.inr (some (am_iv x7), am_SH, ((am_up J 0 9 x5), K, am_RF false)))) from rfl) rfl
theorem s_UpRiver_read_L47_f {X : am_X} {K : am_K}  : ∀ (x1 : Int) (x3 : Int) (x4 : Int) (s0 : Int) (J : am_J) (r : Int × am_J), f_UpRiver_read_L47 false   x1 x3 x4 s0 J = some r → am_runs X T_UpRiver_read (47, [(0, am_pv 0), (1, am_iv x1), (3, am_iv x3), (4, am_iv x4)], [am_iv s0], am_SH, (J, K, am_RF false)) (some (am_iv r.1), am_SH, (r.2, K, am_RF false)) := by
  intro x1 x3 x4 s0 J r h
  unfold f_UpRiver_read_L47 at h
  refine am_r_go (show am_stepn X T_UpRiver_read 10 true (47, [(0, am_pv 0), (1, am_iv x1), (3, am_iv x3), (4, am_iv x4)], [am_iv s0], am_SH, (J, K, am_RF false)) = some (true, .inl (67, [(0, am_pv 0), (1, am_iv x1), (3, am_iv x3), (4, am_iv x4), (5, am_iv s0), (6, am_iv (J 19 2)), (7, am_iv 0), (8, am_iv 0)], [], am_SH, (J, K, am_RF false))) from rfl) rfl ?_
  exact s_UpRiver_read_L67_f  _ _ _ _ _ _ _ _ _ _ h
theorem s_UpRiver_read_f {X : am_X} {K : am_K} {x1 : Int} {x2 : Int} {x3 : Int} {x4 : Int} {J : am_J} {r : Int × am_J} (h : f_UpRiver_read false x1 x2 x3 x4 J = some r) : am_runs X T_UpRiver_read (0, [(0, am_pv 0), (1, am_iv x1), (2, am_iv x2), (3, am_iv x3), (4, am_iv x4)], [], am_SH, (J, K, am_RF false)) (some (am_iv r.1), am_SH, (r.2, K, am_RF false)) := by
  unfold f_UpRiver_read at h
  obtain ⟨q1481, e1482, h⟩ := am_bind_some h
  refine am_r_call (show am_stepn X T_UpRiver_read 2 true (0, [(0, am_pv 0), (1, am_iv x1), (2, am_iv x2), (3, am_iv x3), (4, am_iv x4)], [], am_SH, (J, K, am_RF false)) = some (true, .inr (.inl (136, [am_iv x1], 1, 0, 0, 4, [(0, am_pv 0), (1, am_iv x1), (2, am_iv x2), (3, am_iv x3), (4, am_iv x4)], [], am_SH, (J, K, am_RF false)))) from rfl) rfl tb_UpRiver_isSheet (s_UpRiver_isSheet e1482) ?_
  obtain ⟨g1483, h⟩ := am_if_some h
  by_cases c1484 : q1481 = 0
  · rw [if_pos c1484] at h
    refine am_r_t (show am_stepn X T_UpRiver_read 1 true (4, [(0, am_pv 0), (1, am_iv x1), (2, am_iv x2), (3, am_iv x3), (4, am_iv x4)], [am_iv q1481], am_SH, (J, K, am_RF false)) = some ((decide (am_i32 q1481) && true), .inl (bif am_cb .eq q1481 0 then 26 else 7, [(0, am_pv 0), (1, am_iv x1), (2, am_iv x2), (3, am_iv x3), (4, am_iv x4)], [], am_SH, (J, K, am_RF false))) from rfl) (am_g1 g1483 rfl) (decide_eq_true c1484) ?_
    obtain rfl := Option.some.inj h
    exact am_r_ret (show am_stepn X T_UpRiver_read 2 true (26, [(0, am_pv 0), (1, am_iv x1), (2, am_iv x2), (3, am_iv x3), (4, am_iv x4)], [], am_SH, (J, K, am_RF false)) = some (true, .inr (.inr (some (am_iv (-1)), am_SH, (J, K, am_RF false)))) from rfl) rfl
  · rw [if_neg c1484] at h
    refine am_r_f (show am_stepn X T_UpRiver_read 1 true (4, [(0, am_pv 0), (1, am_iv x1), (2, am_iv x2), (3, am_iv x3), (4, am_iv x4)], [am_iv q1481], am_SH, (J, K, am_RF false)) = some ((decide (am_i32 q1481) && true), .inl (bif am_cb .eq q1481 0 then 26 else 7, [(0, am_pv 0), (1, am_iv x1), (2, am_iv x2), (3, am_iv x3), (4, am_iv x4)], [], am_SH, (J, K, am_RF false))) from rfl) (am_g1 g1483 rfl) (decide_eq_false c1484) ?_
    obtain ⟨q1485, e1486, h⟩ := am_bind_some h
    refine am_r_call (show am_stepn X T_UpRiver_read 2 true (7, [(0, am_pv 0), (1, am_iv x1), (2, am_iv x2), (3, am_iv x3), (4, am_iv x4)], [], am_SH, (J, K, am_RF false)) = some (true, .inr (.inl (137, [am_iv x2], 1, 0, 0, 11, [(0, am_pv 0), (1, am_iv x1), (2, am_iv x2), (3, am_iv x3), (4, am_iv x4)], [], am_SH, (J, K, am_RF false)))) from rfl) rfl tb_Sheet_isKind (s_Sheet_isKind e1486) ?_
    obtain ⟨g1487, h⟩ := am_if_some h
    by_cases c1488 : q1485 = 0
    · rw [if_pos c1488] at h
      refine am_r_t (show am_stepn X T_UpRiver_read 1 true (11, [(0, am_pv 0), (1, am_iv x1), (2, am_iv x2), (3, am_iv x3), (4, am_iv x4)], [am_iv q1485], am_SH, (J, K, am_RF false)) = some ((decide (am_i32 q1485) && true), .inl (bif am_cb .eq q1485 0 then 26 else 14, [(0, am_pv 0), (1, am_iv x1), (2, am_iv x2), (3, am_iv x3), (4, am_iv x4)], [], am_SH, (J, K, am_RF false))) from rfl) (am_g1 g1487 rfl) (decide_eq_true c1488) ?_
      obtain rfl := Option.some.inj h
      exact am_r_ret (show am_stepn X T_UpRiver_read 2 true (26, [(0, am_pv 0), (1, am_iv x1), (2, am_iv x2), (3, am_iv x3), (4, am_iv x4)], [], am_SH, (J, K, am_RF false)) = some (true, .inr (.inr (some (am_iv (-1)), am_SH, (J, K, am_RF false)))) from rfl) rfl
    · rw [if_neg c1488] at h
      refine am_r_f (show am_stepn X T_UpRiver_read 1 true (11, [(0, am_pv 0), (1, am_iv x1), (2, am_iv x2), (3, am_iv x3), (4, am_iv x4)], [am_iv q1485], am_SH, (J, K, am_RF false)) = some ((decide (am_i32 q1485) && true), .inl (bif am_cb .eq q1485 0 then 26 else 14, [(0, am_pv 0), (1, am_iv x1), (2, am_iv x2), (3, am_iv x3), (4, am_iv x4)], [], am_SH, (J, K, am_RF false))) from rfl) (am_g1 g1487 rfl) (decide_eq_false c1488) ?_
      obtain ⟨g1489, h⟩ := am_if_some h
      by_cases c1490 : x4 < 0
      · rw [if_pos c1490] at h
        refine am_r_t (show am_stepn X T_UpRiver_read 2 true (14, [(0, am_pv 0), (1, am_iv x1), (2, am_iv x2), (3, am_iv x3), (4, am_iv x4)], [], am_SH, (J, K, am_RF false)) = some ((decide (am_i32 x4) && true), .inl (bif am_cb .lt x4 0 then 26 else 19, [(0, am_pv 0), (1, am_iv x1), (2, am_iv x2), (3, am_iv x3), (4, am_iv x4)], [], am_SH, (J, K, am_RF false))) from rfl) (am_g1 g1489 rfl) (decide_eq_true c1490) ?_
        obtain rfl := Option.some.inj h
        exact am_r_ret (show am_stepn X T_UpRiver_read 2 true (26, [(0, am_pv 0), (1, am_iv x1), (2, am_iv x2), (3, am_iv x3), (4, am_iv x4)], [], am_SH, (J, K, am_RF false)) = some (true, .inr (.inr (some (am_iv (-1)), am_SH, (J, K, am_RF false)))) from rfl) rfl
      · rw [if_neg c1490] at h
        refine am_r_f (show am_stepn X T_UpRiver_read 2 true (14, [(0, am_pv 0), (1, am_iv x1), (2, am_iv x2), (3, am_iv x3), (4, am_iv x4)], [], am_SH, (J, K, am_RF false)) = some ((decide (am_i32 x4) && true), .inl (bif am_cb .lt x4 0 then 26 else 19, [(0, am_pv 0), (1, am_iv x1), (2, am_iv x2), (3, am_iv x3), (4, am_iv x4)], [], am_SH, (J, K, am_RF false))) from rfl) (am_g1 g1489 rfl) (decide_eq_false c1490) ?_
        by_cases c1491 : 12 < x4
        · rw [if_pos c1491] at h
          refine am_r_f (show am_stepn X T_UpRiver_read 3 true (19, [(0, am_pv 0), (1, am_iv x1), (2, am_iv x2), (3, am_iv x3), (4, am_iv x4)], [], am_SH, (J, K, am_RF false)) = some (((decide (am_i32 12) && decide (am_i32 x4)) && true), .inl (bif am_cb .le x4 12 then 28 else 26, [(0, am_pv 0), (1, am_iv x1), (2, am_iv x2), (3, am_iv x3), (4, am_iv x4)], [], am_SH, (J, K, am_RF false))) from rfl) (am_g2 (by decide) g1489 rfl) (am_nd_t c1491) ?_
          obtain rfl := Option.some.inj h
          exact am_r_ret (show am_stepn X T_UpRiver_read 2 true (26, [(0, am_pv 0), (1, am_iv x1), (2, am_iv x2), (3, am_iv x3), (4, am_iv x4)], [], am_SH, (J, K, am_RF false)) = some (true, .inr (.inr (some (am_iv (-1)), am_SH, (J, K, am_RF false)))) from rfl) rfl
        · rw [if_neg c1491] at h
          refine am_r_t (show am_stepn X T_UpRiver_read 3 true (19, [(0, am_pv 0), (1, am_iv x1), (2, am_iv x2), (3, am_iv x3), (4, am_iv x4)], [], am_SH, (J, K, am_RF false)) = some (((decide (am_i32 12) && decide (am_i32 x4)) && true), .inl (bif am_cb .le x4 12 then 28 else 26, [(0, am_pv 0), (1, am_iv x1), (2, am_iv x2), (3, am_iv x3), (4, am_iv x4)], [], am_SH, (J, K, am_RF false))) from rfl) (am_g2 (by decide) g1489 rfl) (am_nd_f c1491) ?_
          by_cases c1492 : x4 = 0
          · rw [if_pos c1492] at h
            refine am_r_f (show am_stepn X T_UpRiver_read 2 true (28, [(0, am_pv 0), (1, am_iv x1), (2, am_iv x2), (3, am_iv x3), (4, am_iv x4)], [], am_SH, (J, K, am_RF false)) = some ((decide (am_i32 x4) && true), .inl (bif am_cb .ne x4 0 then 37 else 33, [(0, am_pv 0), (1, am_iv x1), (2, am_iv x2), (3, am_iv x3), (4, am_iv x4)], [], am_SH, (J, K, am_RF false))) from rfl) (am_g1 g1489 rfl) (am_nd_t c1492) ?_
            refine am_r_go (show am_stepn X T_UpRiver_read 2 true (33, [(0, am_pv 0), (1, am_iv x1), (2, am_iv x2), (3, am_iv x3), (4, am_iv x4)], [], am_SH, (J, K, am_RF false)) = some (true, .inl (47, [(0, am_pv 0), (1, am_iv x1), (3, am_iv x3), (4, am_iv x4)], [am_iv 0], am_SH, (J, K, am_RF false))) from rfl) rfl ?_
            exact s_UpRiver_read_L47_f  _ _ _ _ _ _ h
          · rw [if_neg c1492] at h
            refine am_r_t (show am_stepn X T_UpRiver_read 2 true (28, [(0, am_pv 0), (1, am_iv x1), (2, am_iv x2), (3, am_iv x3), (4, am_iv x4)], [], am_SH, (J, K, am_RF false)) = some ((decide (am_i32 x4) && true), .inl (bif am_cb .ne x4 0 then 37 else 33, [(0, am_pv 0), (1, am_iv x1), (2, am_iv x2), (3, am_iv x3), (4, am_iv x4)], [], am_SH, (J, K, am_RF false))) from rfl) (am_g1 g1489 rfl) (am_nd_f c1492) ?_
            by_cases c1493 : x1 = 0
            · rw [if_pos c1493] at h
              revert h
              subst c1493
              intro h
              obtain ⟨q1494, e1495, h⟩ := am_bind_some h
              refine am_r_call (show am_stepn X T_UpRiver_read 6 true (37, [(0, am_pv 0), (1, am_iv 0), (2, am_iv x2), (3, am_iv x3), (4, am_iv x4)], [], am_SH, (J, K, am_RF false)) = some ((am_in 0 4 && true), .inr (.inl (143, [am_pv 57, am_iv x2], 2, 0, 0, 47, [(0, am_pv 0), (1, am_iv 0), (2, am_iv x2), (3, am_iv x3), (4, am_iv x4)], [], am_SH, (J, K, am_RF false)))) from rfl) (am_gi (by decide) rfl) tb_Sheet_faultAs (s_Sheet_faultAs (by decide) e1495) ?_
              refine am_r_eq (σ' := (47, [(0, am_pv 0), (1, am_iv 0), (3, am_iv x3), (4, am_iv x4)], [am_iv q1494], am_SH, (J, K, am_RF false))) rfl ?_
              exact s_UpRiver_read_L47_f  _ _ _ _ _ _ h
            · rw [if_neg c1493] at h
              by_cases c1496 : x1 = 1
              · rw [if_pos c1496] at h
                revert h
                subst c1496
                intro h
                obtain ⟨q1497, e1498, h⟩ := am_bind_some h
                refine am_r_call (show am_stepn X T_UpRiver_read 6 true (37, [(0, am_pv 0), (1, am_iv 1), (2, am_iv x2), (3, am_iv x3), (4, am_iv x4)], [], am_SH, (J, K, am_RF false)) = some ((am_in 1 4 && true), .inr (.inl (143, [am_pv 59, am_iv x2], 2, 0, 0, 47, [(0, am_pv 0), (1, am_iv 1), (2, am_iv x2), (3, am_iv x3), (4, am_iv x4)], [], am_SH, (J, K, am_RF false)))) from rfl) (am_gi (by decide) rfl) tb_Sheet_faultAs (s_Sheet_faultAs (by decide) e1498) ?_
                refine am_r_eq (σ' := (47, [(0, am_pv 0), (1, am_iv 1), (3, am_iv x3), (4, am_iv x4)], [am_iv q1497], am_SH, (J, K, am_RF false))) rfl ?_
                exact s_UpRiver_read_L47_f  _ _ _ _ _ _ h
              · rw [if_neg c1496] at h
                by_cases c1499 : x1 = 2
                · rw [if_pos c1499] at h
                  revert h
                  subst c1499
                  intro h
                  obtain ⟨q1500, e1501, h⟩ := am_bind_some h
                  refine am_r_call (show am_stepn X T_UpRiver_read 6 true (37, [(0, am_pv 0), (1, am_iv 2), (2, am_iv x2), (3, am_iv x3), (4, am_iv x4)], [], am_SH, (J, K, am_RF false)) = some ((am_in 2 4 && true), .inr (.inl (143, [am_pv 61, am_iv x2], 2, 0, 0, 47, [(0, am_pv 0), (1, am_iv 2), (2, am_iv x2), (3, am_iv x3), (4, am_iv x4)], [], am_SH, (J, K, am_RF false)))) from rfl) (am_gi (by decide) rfl) tb_Sheet_faultAs (s_Sheet_faultAs (by decide) e1501) ?_
                  refine am_r_eq (σ' := (47, [(0, am_pv 0), (1, am_iv 2), (3, am_iv x3), (4, am_iv x4)], [am_iv q1500], am_SH, (J, K, am_RF false))) rfl ?_
                  exact s_UpRiver_read_L47_f  _ _ _ _ _ _ h
                · rw [if_neg c1499] at h
                  by_cases c1502 : x1 = 3
                  · rw [if_pos c1502] at h
                    revert h
                    subst c1502
                    intro h
                    obtain ⟨q1503, e1504, h⟩ := am_bind_some h
                    refine am_r_call (show am_stepn X T_UpRiver_read 6 true (37, [(0, am_pv 0), (1, am_iv 3), (2, am_iv x2), (3, am_iv x3), (4, am_iv x4)], [], am_SH, (J, K, am_RF false)) = some ((am_in 3 4 && true), .inr (.inl (143, [am_pv 63, am_iv x2], 2, 0, 0, 47, [(0, am_pv 0), (1, am_iv 3), (2, am_iv x2), (3, am_iv x3), (4, am_iv x4)], [], am_SH, (J, K, am_RF false)))) from rfl) (am_gi (by decide) rfl) tb_Sheet_faultAs (s_Sheet_faultAs (by decide) e1504) ?_
                    refine am_r_eq (σ' := (47, [(0, am_pv 0), (1, am_iv 3), (3, am_iv x3), (4, am_iv x4)], [am_iv q1503], am_SH, (J, K, am_RF false))) rfl ?_
                    exact s_UpRiver_read_L47_f  _ _ _ _ _ _ h
                  · rw [if_neg c1502] at h
                    cases h
theorem s_UpRiver_read_L67_t {X : am_X} {K : am_K}  : ∀ (n : Nat) (x1 : Int) (x3 : Int) (x4 : Int) (x5 : Int) (x6 : Int) (x7 : Int) (x8 : Int) (J : am_J) (r : Int × am_J), f_UpRiver_read_L67 true  n x1 x3 x4 x5 x6 x7 x8 J = some r → am_runs X T_UpRiver_read (67, [(0, am_pv 0), (1, am_iv x1), (3, am_iv x3), (4, am_iv x4), (5, am_iv x5), (6, am_iv x6), (7, am_iv x7), (8, am_iv x8)], [], am_SH, (J, K, am_RF true)) (some (am_iv r.1), am_SH, (r.2, K, am_RF true)) := by
  intro n
  induction n with
  | zero =>
    intro x1 x3 x4 x5 x6 x7 x8 J r h
    cases h
  | succ n ih =>
    intro x1 x3 x4 x5 x6 x7 x8 J r h
    rw [f_UpRiver_read_L67.eq_2] at h
    obtain ⟨g1408, h⟩ := am_if_some h
    obtain ⟨g1409, h⟩ := am_if_some h
    by_cases c1410 : x8 < x4
    · rw [if_pos c1410] at h
      refine am_r_f (show am_stepn X T_UpRiver_read 3 true (67, [(0, am_pv 0), (1, am_iv x1), (3, am_iv x3), (4, am_iv x4), (5, am_iv x5), (6, am_iv x6), (7, am_iv x7), (8, am_iv x8)], [], am_SH, (J, K, am_RF true)) = some (((decide (am_i32 x4) && decide (am_i32 x8)) && true), .inl (bif am_cb .ge x8 x4 then 185 else 74, [(0, am_pv 0), (1, am_iv x1), (3, am_iv x3), (4, am_iv x4), (5, am_iv x5), (6, am_iv x6), (7, am_iv x7), (8, am_iv x8)], [], am_SH, (J, K, am_RF true))) from rfl) (am_g2 g1408 g1409 rfl) (am_nd_t c1410) ?_
      obtain ⟨g1411, h⟩ := am_if_some h
      by_cases c1412 : x5 = 0
      · rw [if_pos c1412] at h
        refine am_r_f (show am_stepn X T_UpRiver_read 2 true (74, [(0, am_pv 0), (1, am_iv x1), (3, am_iv x3), (4, am_iv x4), (5, am_iv x5), (6, am_iv x6), (7, am_iv x7), (8, am_iv x8)], [], am_SH, (J, K, am_RF true)) = some ((decide (am_i32 x5) && true), .inl (bif am_cb .ne x5 0 then 185 else 79, [(0, am_pv 0), (1, am_iv x1), (3, am_iv x3), (4, am_iv x4), (5, am_iv x5), (6, am_iv x6), (7, am_iv x7), (8, am_iv x8)], [], am_SH, (J, K, am_RF true))) from rfl) (am_g1 g1411 rfl) (am_nd_t c1412) ?_
        by_cases c1413 : x1 = 0
        · rw [if_pos c1413] at h
          revert h
          subst c1413
          intro h
          obtain ⟨q1414, e1415, h⟩ := am_bind_some h
          refine am_r_call (show am_stepn X T_UpRiver_read 14 true (79, [(0, am_pv 0), (1, am_iv 0), (3, am_iv x3), (4, am_iv x4), (5, am_iv x5), (6, am_iv x6), (7, am_iv x7), (8, am_iv x8)], [], am_SH, (J, K, am_RF true)) = some ((am_in 0 4 && true), .inr (.inl (141, [am_pv 57, am_jv ((am_i2l x3) + ((2 : Int64) * (am_i2l x8)))], 3, 0, 0, 102, [(0, am_pv 0), (1, am_iv 0), (3, am_iv x3), (4, am_iv x4), (5, am_iv x5), (6, am_iv x6), (7, am_iv x7), (8, am_iv x8), (9, am_jv ((am_i2l x3) + ((2 : Int64) * (am_i2l x8))))], [], am_SH, (J, K, am_RF true)))) from rfl) (am_gi (by decide) rfl) tb_Sheet_hasCell (s_Sheet_hasCell (by decide) e1415) ?_
          obtain ⟨g1416, h⟩ := am_if_some h
          by_cases c1417 : q1414 = 0
          · rw [if_pos c1417] at h
            refine am_r_t (show am_stepn X T_UpRiver_read 1 true (102, [(0, am_pv 0), (1, am_iv 0), (3, am_iv x3), (4, am_iv x4), (5, am_iv x5), (6, am_iv x6), (7, am_iv x7), (8, am_iv x8), (9, am_jv ((am_i2l x3) + ((2 : Int64) * (am_i2l x8))))], [am_iv q1414], am_SH, (J, K, am_RF true)) = some ((decide (am_i32 q1414) && true), .inl (bif am_cb .eq q1414 0 then 121 else 105, [(0, am_pv 0), (1, am_iv 0), (3, am_iv x3), (4, am_iv x4), (5, am_iv x5), (6, am_iv x6), (7, am_iv x7), (8, am_iv x8), (9, am_jv ((am_i2l x3) + ((2 : Int64) * (am_i2l x8))))], [], am_SH, (J, K, am_RF true))) from rfl) (am_g1 g1416 rfl) (decide_eq_true c1417) ?_
            refine am_r_go (show am_stepn X T_UpRiver_read 5 true (121, [(0, am_pv 0), (1, am_iv 0), (3, am_iv x3), (4, am_iv x4), (5, am_iv x5), (6, am_iv x6), (7, am_iv x7), (8, am_iv x8), (9, am_jv ((am_i2l x3) + ((2 : Int64) * (am_i2l x8))))], [], am_SH, (J, K, am_RF true)) = some (true, .inl (67, [(0, am_pv 0), (1, am_iv 0), (3, am_iv x3), (4, am_iv x4), (5, am_iv 2), (6, am_iv x6), (7, am_iv x7), (8, am_iv (x8 + 1))], [], am_SH, (J, K, am_RF true))) from rfl) rfl ?_
            exact ih _ _ _ _ _ _ _ _ _ h
          · rw [if_neg c1417] at h
            refine am_r_f (show am_stepn X T_UpRiver_read 1 true (102, [(0, am_pv 0), (1, am_iv 0), (3, am_iv x3), (4, am_iv x4), (5, am_iv x5), (6, am_iv x6), (7, am_iv x7), (8, am_iv x8), (9, am_jv ((am_i2l x3) + ((2 : Int64) * (am_i2l x8))))], [am_iv q1414], am_SH, (J, K, am_RF true)) = some ((decide (am_i32 q1414) && true), .inl (bif am_cb .eq q1414 0 then 121 else 105, [(0, am_pv 0), (1, am_iv 0), (3, am_iv x3), (4, am_iv x4), (5, am_iv x5), (6, am_iv x6), (7, am_iv x7), (8, am_iv x8), (9, am_jv ((am_i2l x3) + ((2 : Int64) * (am_i2l x8))))], [], am_SH, (J, K, am_RF true))) from rfl) (am_g1 g1416 rfl) (decide_eq_false c1417) ?_
            obtain ⟨q1418, e1419, h⟩ := am_bind_some h
            refine am_r_call (show am_stepn X T_UpRiver_read 8 true (105, [(0, am_pv 0), (1, am_iv 0), (3, am_iv x3), (4, am_iv x4), (5, am_iv x5), (6, am_iv x6), (7, am_iv x7), (8, am_iv x8), (9, am_jv ((am_i2l x3) + ((2 : Int64) * (am_i2l x8))))], [], am_SH, (J, K, am_RF true)) = some ((am_in 0 4 && true), .inr (.inl (141, [am_pv 57, am_jv (((am_i2l x3) + ((2 : Int64) * (am_i2l x8))) + (1 : Int64))], 3, 0, 0, 118, [(0, am_pv 0), (1, am_iv 0), (3, am_iv x3), (4, am_iv x4), (5, am_iv x5), (6, am_iv x6), (7, am_iv x7), (8, am_iv x8), (9, am_jv ((am_i2l x3) + ((2 : Int64) * (am_i2l x8))))], [], am_SH, (J, K, am_RF true)))) from rfl) (am_gi (by decide) rfl) tb_Sheet_hasCell (s_Sheet_hasCell (by decide) e1419) ?_
            obtain ⟨g1420, h⟩ := am_if_some h
            by_cases c1421 : q1418 = 0
            · rw [if_pos c1421] at h
              refine am_r_f (show am_stepn X T_UpRiver_read 1 true (118, [(0, am_pv 0), (1, am_iv 0), (3, am_iv x3), (4, am_iv x4), (5, am_iv x5), (6, am_iv x6), (7, am_iv x7), (8, am_iv x8), (9, am_jv ((am_i2l x3) + ((2 : Int64) * (am_i2l x8))))], [am_iv q1418], am_SH, (J, K, am_RF true)) = some ((decide (am_i32 q1418) && true), .inl (bif am_cb .ne q1418 0 then 127 else 121, [(0, am_pv 0), (1, am_iv 0), (3, am_iv x3), (4, am_iv x4), (5, am_iv x5), (6, am_iv x6), (7, am_iv x7), (8, am_iv x8), (9, am_jv ((am_i2l x3) + ((2 : Int64) * (am_i2l x8))))], [], am_SH, (J, K, am_RF true))) from rfl) (am_g1 g1420 rfl) (am_nd_t c1421) ?_
              refine am_r_go (show am_stepn X T_UpRiver_read 5 true (121, [(0, am_pv 0), (1, am_iv 0), (3, am_iv x3), (4, am_iv x4), (5, am_iv x5), (6, am_iv x6), (7, am_iv x7), (8, am_iv x8), (9, am_jv ((am_i2l x3) + ((2 : Int64) * (am_i2l x8))))], [], am_SH, (J, K, am_RF true)) = some (true, .inl (67, [(0, am_pv 0), (1, am_iv 0), (3, am_iv x3), (4, am_iv x4), (5, am_iv 2), (6, am_iv x6), (7, am_iv x7), (8, am_iv (x8 + 1))], [], am_SH, (J, K, am_RF true))) from rfl) rfl ?_
              exact ih _ _ _ _ _ _ _ _ _ h
            · rw [if_neg c1421] at h
              refine am_r_t (show am_stepn X T_UpRiver_read 1 true (118, [(0, am_pv 0), (1, am_iv 0), (3, am_iv x3), (4, am_iv x4), (5, am_iv x5), (6, am_iv x6), (7, am_iv x7), (8, am_iv x8), (9, am_jv ((am_i2l x3) + ((2 : Int64) * (am_i2l x8))))], [am_iv q1418], am_SH, (J, K, am_RF true)) = some ((decide (am_i32 q1418) && true), .inl (bif am_cb .ne q1418 0 then 127 else 121, [(0, am_pv 0), (1, am_iv 0), (3, am_iv x3), (4, am_iv x4), (5, am_iv x5), (6, am_iv x6), (7, am_iv x7), (8, am_iv x8), (9, am_jv ((am_i2l x3) + ((2 : Int64) * (am_i2l x8))))], [], am_SH, (J, K, am_RF true))) from rfl) (am_g1 g1420 rfl) (am_nd_f c1421) ?_
              obtain ⟨q1422, e1423, h⟩ := am_bind_some h
              refine am_r_call (show am_stepn X T_UpRiver_read 7 true (127, [(0, am_pv 0), (1, am_iv 0), (3, am_iv x3), (4, am_iv x4), (5, am_iv x5), (6, am_iv x6), (7, am_iv x7), (8, am_iv x8), (9, am_jv ((am_i2l x3) + ((2 : Int64) * (am_i2l x8))))], [], am_SH, (J, K, am_RF true)) = some ((am_in 0 4 && true), .inr (.inl (144, [am_pv 57, am_jv ((am_i2l x3) + ((2 : Int64) * (am_i2l x8)))], 3, 0, 0, 139, [(0, am_pv 0), (1, am_iv 0), (3, am_iv x3), (4, am_iv x4), (5, am_iv x5), (6, am_iv x6), (7, am_iv x7), (8, am_iv x8), (9, am_jv ((am_i2l x3) + ((2 : Int64) * (am_i2l x8))))], [am_pv 0], am_SH, (J, K, am_RF true)))) from rfl) (am_gi (by decide) rfl) tb_Sheet_cellAt (s_Sheet_cellAt (by decide) e1423) ?_
              obtain ⟨q1424, e1425, h⟩ := am_bind_some h
              refine am_r_call (show am_stepn X T_UpRiver_read 8 true (139, [(0, am_pv 0), (1, am_iv 0), (3, am_iv x3), (4, am_iv x4), (5, am_iv x5), (6, am_iv x6), (7, am_iv x7), (8, am_iv x8), (9, am_jv ((am_i2l x3) + ((2 : Int64) * (am_i2l x8))))], [am_iv q1422, am_pv 0], am_SH, (J, K, am_RF true)) = some ((am_in 0 4 && true), .inr (.inl (144, [am_pv 57, am_jv (((am_i2l x3) + ((2 : Int64) * (am_i2l x8))) + (1 : Int64))], 3, 0, 0, 152, [(0, am_pv 0), (1, am_iv 0), (3, am_iv x3), (4, am_iv x4), (5, am_iv x5), (6, am_iv x6), (7, am_iv x7), (8, am_iv x8), (9, am_jv ((am_i2l x3) + ((2 : Int64) * (am_i2l x8))))], [am_iv q1422, am_pv 0], am_SH, (J, K, am_RF true)))) from rfl) (am_gi (by decide) rfl) tb_Sheet_cellAt (s_Sheet_cellAt (by decide) e1425) ?_
              obtain ⟨q1426, e1427, h⟩ := am_bind_some h
              refine am_r_call (show am_stepn X T_UpRiver_read 1 true (152, [(0, am_pv 0), (1, am_iv 0), (3, am_iv x3), (4, am_iv x4), (5, am_iv x5), (6, am_iv x6), (7, am_iv x7), (8, am_iv x8), (9, am_jv ((am_i2l x3) + ((2 : Int64) * (am_i2l x8))))], [am_iv q1424, am_iv q1422, am_pv 0], am_SH, (J, K, am_RF true)) = some (true, .inr (.inl (119, [am_pv 0, am_iv q1422, am_iv q1424], 3, 0, 0, 155, [(0, am_pv 0), (1, am_iv 0), (3, am_iv x3), (4, am_iv x4), (5, am_iv x5), (6, am_iv x6), (7, am_iv x7), (8, am_iv x8), (9, am_jv ((am_i2l x3) + ((2 : Int64) * (am_i2l x8))))], [], am_SH, (J, K, am_RF true)))) from rfl) rfl tb_UpRiver_logged (s_UpRiver_logged e1427) ?_
              obtain ⟨g1428, h⟩ := am_if_some h
              by_cases c1429 : q1426.1 < 0
              · rw [if_pos c1429] at h
                refine am_r_f (show am_stepn X T_UpRiver_read 1 true (155, [(0, am_pv 0), (1, am_iv 0), (3, am_iv x3), (4, am_iv x4), (5, am_iv x5), (6, am_iv x6), (7, am_iv x7), (8, am_iv x8), (9, am_jv ((am_i2l x3) + ((2 : Int64) * (am_i2l x8))))], [am_iv q1426.1], am_SH, (q1426.2, K, am_RF true)) = some ((decide (am_i32 q1426.1) && true), .inl (bif am_cb .ge q1426.1 0 then 176 else 158, [(0, am_pv 0), (1, am_iv 0), (3, am_iv x3), (4, am_iv x4), (5, am_iv x5), (6, am_iv x6), (7, am_iv x7), (8, am_iv x8), (9, am_jv ((am_i2l x3) + ((2 : Int64) * (am_i2l x8))))], [], am_SH, (q1426.2, K, am_RF true))) from rfl) (am_g1 g1428 rfl) (am_nd_t c1429) ?_
                obtain rfl := Option.some.inj h
                exact am_r_ret (show am_stepn X T_UpRiver_read 9 true (158, [(0, am_pv 0), (1, am_iv 0), (3, am_iv x3), (4, am_iv x4), (5, am_iv x5), (6, am_iv x6), (7, am_iv x7), (8, am_iv x8), (9, am_jv ((am_i2l x3) + ((2 : Int64) * (am_i2l x8))))], [], am_SH, (q1426.2, K, am_RF true)) = some (true, .inr (.inr (some (am_iv ((-20) - x8)), am_SH, ((am_up q1426.2 19 2 x6), K, am_RF true)))) from rfl) rfl
              · rw [if_neg c1429] at h
                refine am_r_t (show am_stepn X T_UpRiver_read 1 true (155, [(0, am_pv 0), (1, am_iv 0), (3, am_iv x3), (4, am_iv x4), (5, am_iv x5), (6, am_iv x6), (7, am_iv x7), (8, am_iv x8), (9, am_jv ((am_i2l x3) + ((2 : Int64) * (am_i2l x8))))], [am_iv q1426.1], am_SH, (q1426.2, K, am_RF true)) = some ((decide (am_i32 q1426.1) && true), .inl (bif am_cb .ge q1426.1 0 then 176 else 158, [(0, am_pv 0), (1, am_iv 0), (3, am_iv x3), (4, am_iv x4), (5, am_iv x5), (6, am_iv x6), (7, am_iv x7), (8, am_iv x8), (9, am_jv ((am_i2l x3) + ((2 : Int64) * (am_i2l x8))))], [], am_SH, (q1426.2, K, am_RF true))) from rfl) (am_g1 g1428 rfl) (am_nd_f c1429) ?_
                refine am_r_go (show am_stepn X T_UpRiver_read 3 true (176, [(0, am_pv 0), (1, am_iv 0), (3, am_iv x3), (4, am_iv x4), (5, am_iv x5), (6, am_iv x6), (7, am_iv x7), (8, am_iv x8), (9, am_jv ((am_i2l x3) + ((2 : Int64) * (am_i2l x8))))], [], am_SH, (q1426.2, K, am_RF true)) = some (true, .inl (67, [(0, am_pv 0), (1, am_iv 0), (3, am_iv x3), (4, am_iv x4), (5, am_iv x5), (6, am_iv x6), (7, am_iv (x7 + 1)), (8, am_iv (x8 + 1))], [], am_SH, (q1426.2, K, am_RF true))) from rfl) rfl ?_
                exact ih _ _ _ _ _ _ _ _ _ h
        · rw [if_neg c1413] at h
          by_cases c1430 : x1 = 1
          · rw [if_pos c1430] at h
            revert h
            subst c1430
            intro h
            obtain ⟨q1431, e1432, h⟩ := am_bind_some h
            refine am_r_call (show am_stepn X T_UpRiver_read 14 true (79, [(0, am_pv 0), (1, am_iv 1), (3, am_iv x3), (4, am_iv x4), (5, am_iv x5), (6, am_iv x6), (7, am_iv x7), (8, am_iv x8)], [], am_SH, (J, K, am_RF true)) = some ((am_in 1 4 && true), .inr (.inl (141, [am_pv 59, am_jv ((am_i2l x3) + ((2 : Int64) * (am_i2l x8)))], 3, 0, 0, 102, [(0, am_pv 0), (1, am_iv 1), (3, am_iv x3), (4, am_iv x4), (5, am_iv x5), (6, am_iv x6), (7, am_iv x7), (8, am_iv x8), (9, am_jv ((am_i2l x3) + ((2 : Int64) * (am_i2l x8))))], [], am_SH, (J, K, am_RF true)))) from rfl) (am_gi (by decide) rfl) tb_Sheet_hasCell (s_Sheet_hasCell (by decide) e1432) ?_
            obtain ⟨g1433, h⟩ := am_if_some h
            by_cases c1434 : q1431 = 0
            · rw [if_pos c1434] at h
              refine am_r_t (show am_stepn X T_UpRiver_read 1 true (102, [(0, am_pv 0), (1, am_iv 1), (3, am_iv x3), (4, am_iv x4), (5, am_iv x5), (6, am_iv x6), (7, am_iv x7), (8, am_iv x8), (9, am_jv ((am_i2l x3) + ((2 : Int64) * (am_i2l x8))))], [am_iv q1431], am_SH, (J, K, am_RF true)) = some ((decide (am_i32 q1431) && true), .inl (bif am_cb .eq q1431 0 then 121 else 105, [(0, am_pv 0), (1, am_iv 1), (3, am_iv x3), (4, am_iv x4), (5, am_iv x5), (6, am_iv x6), (7, am_iv x7), (8, am_iv x8), (9, am_jv ((am_i2l x3) + ((2 : Int64) * (am_i2l x8))))], [], am_SH, (J, K, am_RF true))) from rfl) (am_g1 g1433 rfl) (decide_eq_true c1434) ?_
              refine am_r_go (show am_stepn X T_UpRiver_read 5 true (121, [(0, am_pv 0), (1, am_iv 1), (3, am_iv x3), (4, am_iv x4), (5, am_iv x5), (6, am_iv x6), (7, am_iv x7), (8, am_iv x8), (9, am_jv ((am_i2l x3) + ((2 : Int64) * (am_i2l x8))))], [], am_SH, (J, K, am_RF true)) = some (true, .inl (67, [(0, am_pv 0), (1, am_iv 1), (3, am_iv x3), (4, am_iv x4), (5, am_iv 2), (6, am_iv x6), (7, am_iv x7), (8, am_iv (x8 + 1))], [], am_SH, (J, K, am_RF true))) from rfl) rfl ?_
              exact ih _ _ _ _ _ _ _ _ _ h
            · rw [if_neg c1434] at h
              refine am_r_f (show am_stepn X T_UpRiver_read 1 true (102, [(0, am_pv 0), (1, am_iv 1), (3, am_iv x3), (4, am_iv x4), (5, am_iv x5), (6, am_iv x6), (7, am_iv x7), (8, am_iv x8), (9, am_jv ((am_i2l x3) + ((2 : Int64) * (am_i2l x8))))], [am_iv q1431], am_SH, (J, K, am_RF true)) = some ((decide (am_i32 q1431) && true), .inl (bif am_cb .eq q1431 0 then 121 else 105, [(0, am_pv 0), (1, am_iv 1), (3, am_iv x3), (4, am_iv x4), (5, am_iv x5), (6, am_iv x6), (7, am_iv x7), (8, am_iv x8), (9, am_jv ((am_i2l x3) + ((2 : Int64) * (am_i2l x8))))], [], am_SH, (J, K, am_RF true))) from rfl) (am_g1 g1433 rfl) (decide_eq_false c1434) ?_
              obtain ⟨q1435, e1436, h⟩ := am_bind_some h
              refine am_r_call (show am_stepn X T_UpRiver_read 8 true (105, [(0, am_pv 0), (1, am_iv 1), (3, am_iv x3), (4, am_iv x4), (5, am_iv x5), (6, am_iv x6), (7, am_iv x7), (8, am_iv x8), (9, am_jv ((am_i2l x3) + ((2 : Int64) * (am_i2l x8))))], [], am_SH, (J, K, am_RF true)) = some ((am_in 1 4 && true), .inr (.inl (141, [am_pv 59, am_jv (((am_i2l x3) + ((2 : Int64) * (am_i2l x8))) + (1 : Int64))], 3, 0, 0, 118, [(0, am_pv 0), (1, am_iv 1), (3, am_iv x3), (4, am_iv x4), (5, am_iv x5), (6, am_iv x6), (7, am_iv x7), (8, am_iv x8), (9, am_jv ((am_i2l x3) + ((2 : Int64) * (am_i2l x8))))], [], am_SH, (J, K, am_RF true)))) from rfl) (am_gi (by decide) rfl) tb_Sheet_hasCell (s_Sheet_hasCell (by decide) e1436) ?_
              obtain ⟨g1437, h⟩ := am_if_some h
              by_cases c1438 : q1435 = 0
              · rw [if_pos c1438] at h
                refine am_r_f (show am_stepn X T_UpRiver_read 1 true (118, [(0, am_pv 0), (1, am_iv 1), (3, am_iv x3), (4, am_iv x4), (5, am_iv x5), (6, am_iv x6), (7, am_iv x7), (8, am_iv x8), (9, am_jv ((am_i2l x3) + ((2 : Int64) * (am_i2l x8))))], [am_iv q1435], am_SH, (J, K, am_RF true)) = some ((decide (am_i32 q1435) && true), .inl (bif am_cb .ne q1435 0 then 127 else 121, [(0, am_pv 0), (1, am_iv 1), (3, am_iv x3), (4, am_iv x4), (5, am_iv x5), (6, am_iv x6), (7, am_iv x7), (8, am_iv x8), (9, am_jv ((am_i2l x3) + ((2 : Int64) * (am_i2l x8))))], [], am_SH, (J, K, am_RF true))) from rfl) (am_g1 g1437 rfl) (am_nd_t c1438) ?_
                refine am_r_go (show am_stepn X T_UpRiver_read 5 true (121, [(0, am_pv 0), (1, am_iv 1), (3, am_iv x3), (4, am_iv x4), (5, am_iv x5), (6, am_iv x6), (7, am_iv x7), (8, am_iv x8), (9, am_jv ((am_i2l x3) + ((2 : Int64) * (am_i2l x8))))], [], am_SH, (J, K, am_RF true)) = some (true, .inl (67, [(0, am_pv 0), (1, am_iv 1), (3, am_iv x3), (4, am_iv x4), (5, am_iv 2), (6, am_iv x6), (7, am_iv x7), (8, am_iv (x8 + 1))], [], am_SH, (J, K, am_RF true))) from rfl) rfl ?_
                exact ih _ _ _ _ _ _ _ _ _ h
              · rw [if_neg c1438] at h
                refine am_r_t (show am_stepn X T_UpRiver_read 1 true (118, [(0, am_pv 0), (1, am_iv 1), (3, am_iv x3), (4, am_iv x4), (5, am_iv x5), (6, am_iv x6), (7, am_iv x7), (8, am_iv x8), (9, am_jv ((am_i2l x3) + ((2 : Int64) * (am_i2l x8))))], [am_iv q1435], am_SH, (J, K, am_RF true)) = some ((decide (am_i32 q1435) && true), .inl (bif am_cb .ne q1435 0 then 127 else 121, [(0, am_pv 0), (1, am_iv 1), (3, am_iv x3), (4, am_iv x4), (5, am_iv x5), (6, am_iv x6), (7, am_iv x7), (8, am_iv x8), (9, am_jv ((am_i2l x3) + ((2 : Int64) * (am_i2l x8))))], [], am_SH, (J, K, am_RF true))) from rfl) (am_g1 g1437 rfl) (am_nd_f c1438) ?_
                obtain ⟨q1439, e1440, h⟩ := am_bind_some h
                refine am_r_call (show am_stepn X T_UpRiver_read 7 true (127, [(0, am_pv 0), (1, am_iv 1), (3, am_iv x3), (4, am_iv x4), (5, am_iv x5), (6, am_iv x6), (7, am_iv x7), (8, am_iv x8), (9, am_jv ((am_i2l x3) + ((2 : Int64) * (am_i2l x8))))], [], am_SH, (J, K, am_RF true)) = some ((am_in 1 4 && true), .inr (.inl (144, [am_pv 59, am_jv ((am_i2l x3) + ((2 : Int64) * (am_i2l x8)))], 3, 0, 0, 139, [(0, am_pv 0), (1, am_iv 1), (3, am_iv x3), (4, am_iv x4), (5, am_iv x5), (6, am_iv x6), (7, am_iv x7), (8, am_iv x8), (9, am_jv ((am_i2l x3) + ((2 : Int64) * (am_i2l x8))))], [am_pv 0], am_SH, (J, K, am_RF true)))) from rfl) (am_gi (by decide) rfl) tb_Sheet_cellAt (s_Sheet_cellAt (by decide) e1440) ?_
                obtain ⟨q1441, e1442, h⟩ := am_bind_some h
                refine am_r_call (show am_stepn X T_UpRiver_read 8 true (139, [(0, am_pv 0), (1, am_iv 1), (3, am_iv x3), (4, am_iv x4), (5, am_iv x5), (6, am_iv x6), (7, am_iv x7), (8, am_iv x8), (9, am_jv ((am_i2l x3) + ((2 : Int64) * (am_i2l x8))))], [am_iv q1439, am_pv 0], am_SH, (J, K, am_RF true)) = some ((am_in 1 4 && true), .inr (.inl (144, [am_pv 59, am_jv (((am_i2l x3) + ((2 : Int64) * (am_i2l x8))) + (1 : Int64))], 3, 0, 0, 152, [(0, am_pv 0), (1, am_iv 1), (3, am_iv x3), (4, am_iv x4), (5, am_iv x5), (6, am_iv x6), (7, am_iv x7), (8, am_iv x8), (9, am_jv ((am_i2l x3) + ((2 : Int64) * (am_i2l x8))))], [am_iv q1439, am_pv 0], am_SH, (J, K, am_RF true)))) from rfl) (am_gi (by decide) rfl) tb_Sheet_cellAt (s_Sheet_cellAt (by decide) e1442) ?_
                obtain ⟨q1443, e1444, h⟩ := am_bind_some h
                refine am_r_call (show am_stepn X T_UpRiver_read 1 true (152, [(0, am_pv 0), (1, am_iv 1), (3, am_iv x3), (4, am_iv x4), (5, am_iv x5), (6, am_iv x6), (7, am_iv x7), (8, am_iv x8), (9, am_jv ((am_i2l x3) + ((2 : Int64) * (am_i2l x8))))], [am_iv q1441, am_iv q1439, am_pv 0], am_SH, (J, K, am_RF true)) = some (true, .inr (.inl (119, [am_pv 0, am_iv q1439, am_iv q1441], 3, 0, 0, 155, [(0, am_pv 0), (1, am_iv 1), (3, am_iv x3), (4, am_iv x4), (5, am_iv x5), (6, am_iv x6), (7, am_iv x7), (8, am_iv x8), (9, am_jv ((am_i2l x3) + ((2 : Int64) * (am_i2l x8))))], [], am_SH, (J, K, am_RF true)))) from rfl) rfl tb_UpRiver_logged (s_UpRiver_logged e1444) ?_
                obtain ⟨g1445, h⟩ := am_if_some h
                by_cases c1446 : q1443.1 < 0
                · rw [if_pos c1446] at h
                  refine am_r_f (show am_stepn X T_UpRiver_read 1 true (155, [(0, am_pv 0), (1, am_iv 1), (3, am_iv x3), (4, am_iv x4), (5, am_iv x5), (6, am_iv x6), (7, am_iv x7), (8, am_iv x8), (9, am_jv ((am_i2l x3) + ((2 : Int64) * (am_i2l x8))))], [am_iv q1443.1], am_SH, (q1443.2, K, am_RF true)) = some ((decide (am_i32 q1443.1) && true), .inl (bif am_cb .ge q1443.1 0 then 176 else 158, [(0, am_pv 0), (1, am_iv 1), (3, am_iv x3), (4, am_iv x4), (5, am_iv x5), (6, am_iv x6), (7, am_iv x7), (8, am_iv x8), (9, am_jv ((am_i2l x3) + ((2 : Int64) * (am_i2l x8))))], [], am_SH, (q1443.2, K, am_RF true))) from rfl) (am_g1 g1445 rfl) (am_nd_t c1446) ?_
                  obtain rfl := Option.some.inj h
                  exact am_r_ret (show am_stepn X T_UpRiver_read 9 true (158, [(0, am_pv 0), (1, am_iv 1), (3, am_iv x3), (4, am_iv x4), (5, am_iv x5), (6, am_iv x6), (7, am_iv x7), (8, am_iv x8), (9, am_jv ((am_i2l x3) + ((2 : Int64) * (am_i2l x8))))], [], am_SH, (q1443.2, K, am_RF true)) = some (true, .inr (.inr (some (am_iv ((-20) - x8)), am_SH, ((am_up q1443.2 19 2 x6), K, am_RF true)))) from rfl) rfl
                · rw [if_neg c1446] at h
                  refine am_r_t (show am_stepn X T_UpRiver_read 1 true (155, [(0, am_pv 0), (1, am_iv 1), (3, am_iv x3), (4, am_iv x4), (5, am_iv x5), (6, am_iv x6), (7, am_iv x7), (8, am_iv x8), (9, am_jv ((am_i2l x3) + ((2 : Int64) * (am_i2l x8))))], [am_iv q1443.1], am_SH, (q1443.2, K, am_RF true)) = some ((decide (am_i32 q1443.1) && true), .inl (bif am_cb .ge q1443.1 0 then 176 else 158, [(0, am_pv 0), (1, am_iv 1), (3, am_iv x3), (4, am_iv x4), (5, am_iv x5), (6, am_iv x6), (7, am_iv x7), (8, am_iv x8), (9, am_jv ((am_i2l x3) + ((2 : Int64) * (am_i2l x8))))], [], am_SH, (q1443.2, K, am_RF true))) from rfl) (am_g1 g1445 rfl) (am_nd_f c1446) ?_
                  refine am_r_go (show am_stepn X T_UpRiver_read 3 true (176, [(0, am_pv 0), (1, am_iv 1), (3, am_iv x3), (4, am_iv x4), (5, am_iv x5), (6, am_iv x6), (7, am_iv x7), (8, am_iv x8), (9, am_jv ((am_i2l x3) + ((2 : Int64) * (am_i2l x8))))], [], am_SH, (q1443.2, K, am_RF true)) = some (true, .inl (67, [(0, am_pv 0), (1, am_iv 1), (3, am_iv x3), (4, am_iv x4), (5, am_iv x5), (6, am_iv x6), (7, am_iv (x7 + 1)), (8, am_iv (x8 + 1))], [], am_SH, (q1443.2, K, am_RF true))) from rfl) rfl ?_
                  exact ih _ _ _ _ _ _ _ _ _ h
          · rw [if_neg c1430] at h
            by_cases c1447 : x1 = 2
            · rw [if_pos c1447] at h
              revert h
              subst c1447
              intro h
              obtain ⟨q1448, e1449, h⟩ := am_bind_some h
              refine am_r_call (show am_stepn X T_UpRiver_read 14 true (79, [(0, am_pv 0), (1, am_iv 2), (3, am_iv x3), (4, am_iv x4), (5, am_iv x5), (6, am_iv x6), (7, am_iv x7), (8, am_iv x8)], [], am_SH, (J, K, am_RF true)) = some ((am_in 2 4 && true), .inr (.inl (141, [am_pv 61, am_jv ((am_i2l x3) + ((2 : Int64) * (am_i2l x8)))], 3, 0, 0, 102, [(0, am_pv 0), (1, am_iv 2), (3, am_iv x3), (4, am_iv x4), (5, am_iv x5), (6, am_iv x6), (7, am_iv x7), (8, am_iv x8), (9, am_jv ((am_i2l x3) + ((2 : Int64) * (am_i2l x8))))], [], am_SH, (J, K, am_RF true)))) from rfl) (am_gi (by decide) rfl) tb_Sheet_hasCell (s_Sheet_hasCell (by decide) e1449) ?_
              obtain ⟨g1450, h⟩ := am_if_some h
              by_cases c1451 : q1448 = 0
              · rw [if_pos c1451] at h
                refine am_r_t (show am_stepn X T_UpRiver_read 1 true (102, [(0, am_pv 0), (1, am_iv 2), (3, am_iv x3), (4, am_iv x4), (5, am_iv x5), (6, am_iv x6), (7, am_iv x7), (8, am_iv x8), (9, am_jv ((am_i2l x3) + ((2 : Int64) * (am_i2l x8))))], [am_iv q1448], am_SH, (J, K, am_RF true)) = some ((decide (am_i32 q1448) && true), .inl (bif am_cb .eq q1448 0 then 121 else 105, [(0, am_pv 0), (1, am_iv 2), (3, am_iv x3), (4, am_iv x4), (5, am_iv x5), (6, am_iv x6), (7, am_iv x7), (8, am_iv x8), (9, am_jv ((am_i2l x3) + ((2 : Int64) * (am_i2l x8))))], [], am_SH, (J, K, am_RF true))) from rfl) (am_g1 g1450 rfl) (decide_eq_true c1451) ?_
                refine am_r_go (show am_stepn X T_UpRiver_read 5 true (121, [(0, am_pv 0), (1, am_iv 2), (3, am_iv x3), (4, am_iv x4), (5, am_iv x5), (6, am_iv x6), (7, am_iv x7), (8, am_iv x8), (9, am_jv ((am_i2l x3) + ((2 : Int64) * (am_i2l x8))))], [], am_SH, (J, K, am_RF true)) = some (true, .inl (67, [(0, am_pv 0), (1, am_iv 2), (3, am_iv x3), (4, am_iv x4), (5, am_iv 2), (6, am_iv x6), (7, am_iv x7), (8, am_iv (x8 + 1))], [], am_SH, (J, K, am_RF true))) from rfl) rfl ?_
                exact ih _ _ _ _ _ _ _ _ _ h
              · rw [if_neg c1451] at h
                refine am_r_f (show am_stepn X T_UpRiver_read 1 true (102, [(0, am_pv 0), (1, am_iv 2), (3, am_iv x3), (4, am_iv x4), (5, am_iv x5), (6, am_iv x6), (7, am_iv x7), (8, am_iv x8), (9, am_jv ((am_i2l x3) + ((2 : Int64) * (am_i2l x8))))], [am_iv q1448], am_SH, (J, K, am_RF true)) = some ((decide (am_i32 q1448) && true), .inl (bif am_cb .eq q1448 0 then 121 else 105, [(0, am_pv 0), (1, am_iv 2), (3, am_iv x3), (4, am_iv x4), (5, am_iv x5), (6, am_iv x6), (7, am_iv x7), (8, am_iv x8), (9, am_jv ((am_i2l x3) + ((2 : Int64) * (am_i2l x8))))], [], am_SH, (J, K, am_RF true))) from rfl) (am_g1 g1450 rfl) (decide_eq_false c1451) ?_
                obtain ⟨q1452, e1453, h⟩ := am_bind_some h
                refine am_r_call (show am_stepn X T_UpRiver_read 8 true (105, [(0, am_pv 0), (1, am_iv 2), (3, am_iv x3), (4, am_iv x4), (5, am_iv x5), (6, am_iv x6), (7, am_iv x7), (8, am_iv x8), (9, am_jv ((am_i2l x3) + ((2 : Int64) * (am_i2l x8))))], [], am_SH, (J, K, am_RF true)) = some ((am_in 2 4 && true), .inr (.inl (141, [am_pv 61, am_jv (((am_i2l x3) + ((2 : Int64) * (am_i2l x8))) + (1 : Int64))], 3, 0, 0, 118, [(0, am_pv 0), (1, am_iv 2), (3, am_iv x3), (4, am_iv x4), (5, am_iv x5), (6, am_iv x6), (7, am_iv x7), (8, am_iv x8), (9, am_jv ((am_i2l x3) + ((2 : Int64) * (am_i2l x8))))], [], am_SH, (J, K, am_RF true)))) from rfl) (am_gi (by decide) rfl) tb_Sheet_hasCell (s_Sheet_hasCell (by decide) e1453) ?_
                obtain ⟨g1454, h⟩ := am_if_some h
                by_cases c1455 : q1452 = 0
                · rw [if_pos c1455] at h
                  refine am_r_f (show am_stepn X T_UpRiver_read 1 true (118, [(0, am_pv 0), (1, am_iv 2), (3, am_iv x3), (4, am_iv x4), (5, am_iv x5), (6, am_iv x6), (7, am_iv x7), (8, am_iv x8), (9, am_jv ((am_i2l x3) + ((2 : Int64) * (am_i2l x8))))], [am_iv q1452], am_SH, (J, K, am_RF true)) = some ((decide (am_i32 q1452) && true), .inl (bif am_cb .ne q1452 0 then 127 else 121, [(0, am_pv 0), (1, am_iv 2), (3, am_iv x3), (4, am_iv x4), (5, am_iv x5), (6, am_iv x6), (7, am_iv x7), (8, am_iv x8), (9, am_jv ((am_i2l x3) + ((2 : Int64) * (am_i2l x8))))], [], am_SH, (J, K, am_RF true))) from rfl) (am_g1 g1454 rfl) (am_nd_t c1455) ?_
                  refine am_r_go (show am_stepn X T_UpRiver_read 5 true (121, [(0, am_pv 0), (1, am_iv 2), (3, am_iv x3), (4, am_iv x4), (5, am_iv x5), (6, am_iv x6), (7, am_iv x7), (8, am_iv x8), (9, am_jv ((am_i2l x3) + ((2 : Int64) * (am_i2l x8))))], [], am_SH, (J, K, am_RF true)) = some (true, .inl (67, [(0, am_pv 0), (1, am_iv 2), (3, am_iv x3), (4, am_iv x4), (5, am_iv 2), (6, am_iv x6), (7, am_iv x7), (8, am_iv (x8 + 1))], [], am_SH, (J, K, am_RF true))) from rfl) rfl ?_
                  exact ih _ _ _ _ _ _ _ _ _ h
                · rw [if_neg c1455] at h
                  refine am_r_t (show am_stepn X T_UpRiver_read 1 true (118, [(0, am_pv 0), (1, am_iv 2), (3, am_iv x3), (4, am_iv x4), (5, am_iv x5), (6, am_iv x6), (7, am_iv x7), (8, am_iv x8), (9, am_jv ((am_i2l x3) + ((2 : Int64) * (am_i2l x8))))], [am_iv q1452], am_SH, (J, K, am_RF true)) = some ((decide (am_i32 q1452) && true), .inl (bif am_cb .ne q1452 0 then 127 else 121, [(0, am_pv 0), (1, am_iv 2), (3, am_iv x3), (4, am_iv x4), (5, am_iv x5), (6, am_iv x6), (7, am_iv x7), (8, am_iv x8), (9, am_jv ((am_i2l x3) + ((2 : Int64) * (am_i2l x8))))], [], am_SH, (J, K, am_RF true))) from rfl) (am_g1 g1454 rfl) (am_nd_f c1455) ?_
                  obtain ⟨q1456, e1457, h⟩ := am_bind_some h
                  refine am_r_call (show am_stepn X T_UpRiver_read 7 true (127, [(0, am_pv 0), (1, am_iv 2), (3, am_iv x3), (4, am_iv x4), (5, am_iv x5), (6, am_iv x6), (7, am_iv x7), (8, am_iv x8), (9, am_jv ((am_i2l x3) + ((2 : Int64) * (am_i2l x8))))], [], am_SH, (J, K, am_RF true)) = some ((am_in 2 4 && true), .inr (.inl (144, [am_pv 61, am_jv ((am_i2l x3) + ((2 : Int64) * (am_i2l x8)))], 3, 0, 0, 139, [(0, am_pv 0), (1, am_iv 2), (3, am_iv x3), (4, am_iv x4), (5, am_iv x5), (6, am_iv x6), (7, am_iv x7), (8, am_iv x8), (9, am_jv ((am_i2l x3) + ((2 : Int64) * (am_i2l x8))))], [am_pv 0], am_SH, (J, K, am_RF true)))) from rfl) (am_gi (by decide) rfl) tb_Sheet_cellAt (s_Sheet_cellAt (by decide) e1457) ?_
                  obtain ⟨q1458, e1459, h⟩ := am_bind_some h
                  refine am_r_call (show am_stepn X T_UpRiver_read 8 true (139, [(0, am_pv 0), (1, am_iv 2), (3, am_iv x3), (4, am_iv x4), (5, am_iv x5), (6, am_iv x6), (7, am_iv x7), (8, am_iv x8), (9, am_jv ((am_i2l x3) + ((2 : Int64) * (am_i2l x8))))], [am_iv q1456, am_pv 0], am_SH, (J, K, am_RF true)) = some ((am_in 2 4 && true), .inr (.inl (144, [am_pv 61, am_jv (((am_i2l x3) + ((2 : Int64) * (am_i2l x8))) + (1 : Int64))], 3, 0, 0, 152, [(0, am_pv 0), (1, am_iv 2), (3, am_iv x3), (4, am_iv x4), (5, am_iv x5), (6, am_iv x6), (7, am_iv x7), (8, am_iv x8), (9, am_jv ((am_i2l x3) + ((2 : Int64) * (am_i2l x8))))], [am_iv q1456, am_pv 0], am_SH, (J, K, am_RF true)))) from rfl) (am_gi (by decide) rfl) tb_Sheet_cellAt (s_Sheet_cellAt (by decide) e1459) ?_
                  obtain ⟨q1460, e1461, h⟩ := am_bind_some h
                  refine am_r_call (show am_stepn X T_UpRiver_read 1 true (152, [(0, am_pv 0), (1, am_iv 2), (3, am_iv x3), (4, am_iv x4), (5, am_iv x5), (6, am_iv x6), (7, am_iv x7), (8, am_iv x8), (9, am_jv ((am_i2l x3) + ((2 : Int64) * (am_i2l x8))))], [am_iv q1458, am_iv q1456, am_pv 0], am_SH, (J, K, am_RF true)) = some (true, .inr (.inl (119, [am_pv 0, am_iv q1456, am_iv q1458], 3, 0, 0, 155, [(0, am_pv 0), (1, am_iv 2), (3, am_iv x3), (4, am_iv x4), (5, am_iv x5), (6, am_iv x6), (7, am_iv x7), (8, am_iv x8), (9, am_jv ((am_i2l x3) + ((2 : Int64) * (am_i2l x8))))], [], am_SH, (J, K, am_RF true)))) from rfl) rfl tb_UpRiver_logged (s_UpRiver_logged e1461) ?_
                  obtain ⟨g1462, h⟩ := am_if_some h
                  by_cases c1463 : q1460.1 < 0
                  · rw [if_pos c1463] at h
                    refine am_r_f (show am_stepn X T_UpRiver_read 1 true (155, [(0, am_pv 0), (1, am_iv 2), (3, am_iv x3), (4, am_iv x4), (5, am_iv x5), (6, am_iv x6), (7, am_iv x7), (8, am_iv x8), (9, am_jv ((am_i2l x3) + ((2 : Int64) * (am_i2l x8))))], [am_iv q1460.1], am_SH, (q1460.2, K, am_RF true)) = some ((decide (am_i32 q1460.1) && true), .inl (bif am_cb .ge q1460.1 0 then 176 else 158, [(0, am_pv 0), (1, am_iv 2), (3, am_iv x3), (4, am_iv x4), (5, am_iv x5), (6, am_iv x6), (7, am_iv x7), (8, am_iv x8), (9, am_jv ((am_i2l x3) + ((2 : Int64) * (am_i2l x8))))], [], am_SH, (q1460.2, K, am_RF true))) from rfl) (am_g1 g1462 rfl) (am_nd_t c1463) ?_
                    obtain rfl := Option.some.inj h
                    exact am_r_ret (show am_stepn X T_UpRiver_read 9 true (158, [(0, am_pv 0), (1, am_iv 2), (3, am_iv x3), (4, am_iv x4), (5, am_iv x5), (6, am_iv x6), (7, am_iv x7), (8, am_iv x8), (9, am_jv ((am_i2l x3) + ((2 : Int64) * (am_i2l x8))))], [], am_SH, (q1460.2, K, am_RF true)) = some (true, .inr (.inr (some (am_iv ((-20) - x8)), am_SH, ((am_up q1460.2 19 2 x6), K, am_RF true)))) from rfl) rfl
                  · rw [if_neg c1463] at h
                    refine am_r_t (show am_stepn X T_UpRiver_read 1 true (155, [(0, am_pv 0), (1, am_iv 2), (3, am_iv x3), (4, am_iv x4), (5, am_iv x5), (6, am_iv x6), (7, am_iv x7), (8, am_iv x8), (9, am_jv ((am_i2l x3) + ((2 : Int64) * (am_i2l x8))))], [am_iv q1460.1], am_SH, (q1460.2, K, am_RF true)) = some ((decide (am_i32 q1460.1) && true), .inl (bif am_cb .ge q1460.1 0 then 176 else 158, [(0, am_pv 0), (1, am_iv 2), (3, am_iv x3), (4, am_iv x4), (5, am_iv x5), (6, am_iv x6), (7, am_iv x7), (8, am_iv x8), (9, am_jv ((am_i2l x3) + ((2 : Int64) * (am_i2l x8))))], [], am_SH, (q1460.2, K, am_RF true))) from rfl) (am_g1 g1462 rfl) (am_nd_f c1463) ?_
                    refine am_r_go (show am_stepn X T_UpRiver_read 3 true (176, [(0, am_pv 0), (1, am_iv 2), (3, am_iv x3), (4, am_iv x4), (5, am_iv x5), (6, am_iv x6), (7, am_iv x7), (8, am_iv x8), (9, am_jv ((am_i2l x3) + ((2 : Int64) * (am_i2l x8))))], [], am_SH, (q1460.2, K, am_RF true)) = some (true, .inl (67, [(0, am_pv 0), (1, am_iv 2), (3, am_iv x3), (4, am_iv x4), (5, am_iv x5), (6, am_iv x6), (7, am_iv (x7 + 1)), (8, am_iv (x8 + 1))], [], am_SH, (q1460.2, K, am_RF true))) from rfl) rfl ?_
                    exact ih _ _ _ _ _ _ _ _ _ h
            · rw [if_neg c1447] at h
              by_cases c1464 : x1 = 3
              · rw [if_pos c1464] at h
                revert h
                subst c1464
                intro h
                obtain ⟨q1465, e1466, h⟩ := am_bind_some h
                refine am_r_call (show am_stepn X T_UpRiver_read 14 true (79, [(0, am_pv 0), (1, am_iv 3), (3, am_iv x3), (4, am_iv x4), (5, am_iv x5), (6, am_iv x6), (7, am_iv x7), (8, am_iv x8)], [], am_SH, (J, K, am_RF true)) = some ((am_in 3 4 && true), .inr (.inl (141, [am_pv 63, am_jv ((am_i2l x3) + ((2 : Int64) * (am_i2l x8)))], 3, 0, 0, 102, [(0, am_pv 0), (1, am_iv 3), (3, am_iv x3), (4, am_iv x4), (5, am_iv x5), (6, am_iv x6), (7, am_iv x7), (8, am_iv x8), (9, am_jv ((am_i2l x3) + ((2 : Int64) * (am_i2l x8))))], [], am_SH, (J, K, am_RF true)))) from rfl) (am_gi (by decide) rfl) tb_Sheet_hasCell (s_Sheet_hasCell (by decide) e1466) ?_
                obtain ⟨g1467, h⟩ := am_if_some h
                by_cases c1468 : q1465 = 0
                · rw [if_pos c1468] at h
                  refine am_r_t (show am_stepn X T_UpRiver_read 1 true (102, [(0, am_pv 0), (1, am_iv 3), (3, am_iv x3), (4, am_iv x4), (5, am_iv x5), (6, am_iv x6), (7, am_iv x7), (8, am_iv x8), (9, am_jv ((am_i2l x3) + ((2 : Int64) * (am_i2l x8))))], [am_iv q1465], am_SH, (J, K, am_RF true)) = some ((decide (am_i32 q1465) && true), .inl (bif am_cb .eq q1465 0 then 121 else 105, [(0, am_pv 0), (1, am_iv 3), (3, am_iv x3), (4, am_iv x4), (5, am_iv x5), (6, am_iv x6), (7, am_iv x7), (8, am_iv x8), (9, am_jv ((am_i2l x3) + ((2 : Int64) * (am_i2l x8))))], [], am_SH, (J, K, am_RF true))) from rfl) (am_g1 g1467 rfl) (decide_eq_true c1468) ?_
                  refine am_r_go (show am_stepn X T_UpRiver_read 5 true (121, [(0, am_pv 0), (1, am_iv 3), (3, am_iv x3), (4, am_iv x4), (5, am_iv x5), (6, am_iv x6), (7, am_iv x7), (8, am_iv x8), (9, am_jv ((am_i2l x3) + ((2 : Int64) * (am_i2l x8))))], [], am_SH, (J, K, am_RF true)) = some (true, .inl (67, [(0, am_pv 0), (1, am_iv 3), (3, am_iv x3), (4, am_iv x4), (5, am_iv 2), (6, am_iv x6), (7, am_iv x7), (8, am_iv (x8 + 1))], [], am_SH, (J, K, am_RF true))) from rfl) rfl ?_
                  exact ih _ _ _ _ _ _ _ _ _ h
                · rw [if_neg c1468] at h
                  refine am_r_f (show am_stepn X T_UpRiver_read 1 true (102, [(0, am_pv 0), (1, am_iv 3), (3, am_iv x3), (4, am_iv x4), (5, am_iv x5), (6, am_iv x6), (7, am_iv x7), (8, am_iv x8), (9, am_jv ((am_i2l x3) + ((2 : Int64) * (am_i2l x8))))], [am_iv q1465], am_SH, (J, K, am_RF true)) = some ((decide (am_i32 q1465) && true), .inl (bif am_cb .eq q1465 0 then 121 else 105, [(0, am_pv 0), (1, am_iv 3), (3, am_iv x3), (4, am_iv x4), (5, am_iv x5), (6, am_iv x6), (7, am_iv x7), (8, am_iv x8), (9, am_jv ((am_i2l x3) + ((2 : Int64) * (am_i2l x8))))], [], am_SH, (J, K, am_RF true))) from rfl) (am_g1 g1467 rfl) (decide_eq_false c1468) ?_
                  obtain ⟨q1469, e1470, h⟩ := am_bind_some h
                  refine am_r_call (show am_stepn X T_UpRiver_read 8 true (105, [(0, am_pv 0), (1, am_iv 3), (3, am_iv x3), (4, am_iv x4), (5, am_iv x5), (6, am_iv x6), (7, am_iv x7), (8, am_iv x8), (9, am_jv ((am_i2l x3) + ((2 : Int64) * (am_i2l x8))))], [], am_SH, (J, K, am_RF true)) = some ((am_in 3 4 && true), .inr (.inl (141, [am_pv 63, am_jv (((am_i2l x3) + ((2 : Int64) * (am_i2l x8))) + (1 : Int64))], 3, 0, 0, 118, [(0, am_pv 0), (1, am_iv 3), (3, am_iv x3), (4, am_iv x4), (5, am_iv x5), (6, am_iv x6), (7, am_iv x7), (8, am_iv x8), (9, am_jv ((am_i2l x3) + ((2 : Int64) * (am_i2l x8))))], [], am_SH, (J, K, am_RF true)))) from rfl) (am_gi (by decide) rfl) tb_Sheet_hasCell (s_Sheet_hasCell (by decide) e1470) ?_
                  obtain ⟨g1471, h⟩ := am_if_some h
                  by_cases c1472 : q1469 = 0
                  · rw [if_pos c1472] at h
                    refine am_r_f (show am_stepn X T_UpRiver_read 1 true (118, [(0, am_pv 0), (1, am_iv 3), (3, am_iv x3), (4, am_iv x4), (5, am_iv x5), (6, am_iv x6), (7, am_iv x7), (8, am_iv x8), (9, am_jv ((am_i2l x3) + ((2 : Int64) * (am_i2l x8))))], [am_iv q1469], am_SH, (J, K, am_RF true)) = some ((decide (am_i32 q1469) && true), .inl (bif am_cb .ne q1469 0 then 127 else 121, [(0, am_pv 0), (1, am_iv 3), (3, am_iv x3), (4, am_iv x4), (5, am_iv x5), (6, am_iv x6), (7, am_iv x7), (8, am_iv x8), (9, am_jv ((am_i2l x3) + ((2 : Int64) * (am_i2l x8))))], [], am_SH, (J, K, am_RF true))) from rfl) (am_g1 g1471 rfl) (am_nd_t c1472) ?_
                    refine am_r_go (show am_stepn X T_UpRiver_read 5 true (121, [(0, am_pv 0), (1, am_iv 3), (3, am_iv x3), (4, am_iv x4), (5, am_iv x5), (6, am_iv x6), (7, am_iv x7), (8, am_iv x8), (9, am_jv ((am_i2l x3) + ((2 : Int64) * (am_i2l x8))))], [], am_SH, (J, K, am_RF true)) = some (true, .inl (67, [(0, am_pv 0), (1, am_iv 3), (3, am_iv x3), (4, am_iv x4), (5, am_iv 2), (6, am_iv x6), (7, am_iv x7), (8, am_iv (x8 + 1))], [], am_SH, (J, K, am_RF true))) from rfl) rfl ?_
                    exact ih _ _ _ _ _ _ _ _ _ h
                  · rw [if_neg c1472] at h
                    refine am_r_t (show am_stepn X T_UpRiver_read 1 true (118, [(0, am_pv 0), (1, am_iv 3), (3, am_iv x3), (4, am_iv x4), (5, am_iv x5), (6, am_iv x6), (7, am_iv x7), (8, am_iv x8), (9, am_jv ((am_i2l x3) + ((2 : Int64) * (am_i2l x8))))], [am_iv q1469], am_SH, (J, K, am_RF true)) = some ((decide (am_i32 q1469) && true), .inl (bif am_cb .ne q1469 0 then 127 else 121, [(0, am_pv 0), (1, am_iv 3), (3, am_iv x3), (4, am_iv x4), (5, am_iv x5), (6, am_iv x6), (7, am_iv x7), (8, am_iv x8), (9, am_jv ((am_i2l x3) + ((2 : Int64) * (am_i2l x8))))], [], am_SH, (J, K, am_RF true))) from rfl) (am_g1 g1471 rfl) (am_nd_f c1472) ?_
                    obtain ⟨q1473, e1474, h⟩ := am_bind_some h
                    refine am_r_call (show am_stepn X T_UpRiver_read 7 true (127, [(0, am_pv 0), (1, am_iv 3), (3, am_iv x3), (4, am_iv x4), (5, am_iv x5), (6, am_iv x6), (7, am_iv x7), (8, am_iv x8), (9, am_jv ((am_i2l x3) + ((2 : Int64) * (am_i2l x8))))], [], am_SH, (J, K, am_RF true)) = some ((am_in 3 4 && true), .inr (.inl (144, [am_pv 63, am_jv ((am_i2l x3) + ((2 : Int64) * (am_i2l x8)))], 3, 0, 0, 139, [(0, am_pv 0), (1, am_iv 3), (3, am_iv x3), (4, am_iv x4), (5, am_iv x5), (6, am_iv x6), (7, am_iv x7), (8, am_iv x8), (9, am_jv ((am_i2l x3) + ((2 : Int64) * (am_i2l x8))))], [am_pv 0], am_SH, (J, K, am_RF true)))) from rfl) (am_gi (by decide) rfl) tb_Sheet_cellAt (s_Sheet_cellAt (by decide) e1474) ?_
                    obtain ⟨q1475, e1476, h⟩ := am_bind_some h
                    refine am_r_call (show am_stepn X T_UpRiver_read 8 true (139, [(0, am_pv 0), (1, am_iv 3), (3, am_iv x3), (4, am_iv x4), (5, am_iv x5), (6, am_iv x6), (7, am_iv x7), (8, am_iv x8), (9, am_jv ((am_i2l x3) + ((2 : Int64) * (am_i2l x8))))], [am_iv q1473, am_pv 0], am_SH, (J, K, am_RF true)) = some ((am_in 3 4 && true), .inr (.inl (144, [am_pv 63, am_jv (((am_i2l x3) + ((2 : Int64) * (am_i2l x8))) + (1 : Int64))], 3, 0, 0, 152, [(0, am_pv 0), (1, am_iv 3), (3, am_iv x3), (4, am_iv x4), (5, am_iv x5), (6, am_iv x6), (7, am_iv x7), (8, am_iv x8), (9, am_jv ((am_i2l x3) + ((2 : Int64) * (am_i2l x8))))], [am_iv q1473, am_pv 0], am_SH, (J, K, am_RF true)))) from rfl) (am_gi (by decide) rfl) tb_Sheet_cellAt (s_Sheet_cellAt (by decide) e1476) ?_
                    obtain ⟨q1477, e1478, h⟩ := am_bind_some h
                    refine am_r_call (show am_stepn X T_UpRiver_read 1 true (152, [(0, am_pv 0), (1, am_iv 3), (3, am_iv x3), (4, am_iv x4), (5, am_iv x5), (6, am_iv x6), (7, am_iv x7), (8, am_iv x8), (9, am_jv ((am_i2l x3) + ((2 : Int64) * (am_i2l x8))))], [am_iv q1475, am_iv q1473, am_pv 0], am_SH, (J, K, am_RF true)) = some (true, .inr (.inl (119, [am_pv 0, am_iv q1473, am_iv q1475], 3, 0, 0, 155, [(0, am_pv 0), (1, am_iv 3), (3, am_iv x3), (4, am_iv x4), (5, am_iv x5), (6, am_iv x6), (7, am_iv x7), (8, am_iv x8), (9, am_jv ((am_i2l x3) + ((2 : Int64) * (am_i2l x8))))], [], am_SH, (J, K, am_RF true)))) from rfl) rfl tb_UpRiver_logged (s_UpRiver_logged e1478) ?_
                    obtain ⟨g1479, h⟩ := am_if_some h
                    by_cases c1480 : q1477.1 < 0
                    · rw [if_pos c1480] at h
                      refine am_r_f (show am_stepn X T_UpRiver_read 1 true (155, [(0, am_pv 0), (1, am_iv 3), (3, am_iv x3), (4, am_iv x4), (5, am_iv x5), (6, am_iv x6), (7, am_iv x7), (8, am_iv x8), (9, am_jv ((am_i2l x3) + ((2 : Int64) * (am_i2l x8))))], [am_iv q1477.1], am_SH, (q1477.2, K, am_RF true)) = some ((decide (am_i32 q1477.1) && true), .inl (bif am_cb .ge q1477.1 0 then 176 else 158, [(0, am_pv 0), (1, am_iv 3), (3, am_iv x3), (4, am_iv x4), (5, am_iv x5), (6, am_iv x6), (7, am_iv x7), (8, am_iv x8), (9, am_jv ((am_i2l x3) + ((2 : Int64) * (am_i2l x8))))], [], am_SH, (q1477.2, K, am_RF true))) from rfl) (am_g1 g1479 rfl) (am_nd_t c1480) ?_
                      obtain rfl := Option.some.inj h
                      exact am_r_ret (show am_stepn X T_UpRiver_read 9 true (158, [(0, am_pv 0), (1, am_iv 3), (3, am_iv x3), (4, am_iv x4), (5, am_iv x5), (6, am_iv x6), (7, am_iv x7), (8, am_iv x8), (9, am_jv ((am_i2l x3) + ((2 : Int64) * (am_i2l x8))))], [], am_SH, (q1477.2, K, am_RF true)) = some (true, .inr (.inr (some (am_iv ((-20) - x8)), am_SH, ((am_up q1477.2 19 2 x6), K, am_RF true)))) from rfl) rfl
                    · rw [if_neg c1480] at h
                      refine am_r_t (show am_stepn X T_UpRiver_read 1 true (155, [(0, am_pv 0), (1, am_iv 3), (3, am_iv x3), (4, am_iv x4), (5, am_iv x5), (6, am_iv x6), (7, am_iv x7), (8, am_iv x8), (9, am_jv ((am_i2l x3) + ((2 : Int64) * (am_i2l x8))))], [am_iv q1477.1], am_SH, (q1477.2, K, am_RF true)) = some ((decide (am_i32 q1477.1) && true), .inl (bif am_cb .ge q1477.1 0 then 176 else 158, [(0, am_pv 0), (1, am_iv 3), (3, am_iv x3), (4, am_iv x4), (5, am_iv x5), (6, am_iv x6), (7, am_iv x7), (8, am_iv x8), (9, am_jv ((am_i2l x3) + ((2 : Int64) * (am_i2l x8))))], [], am_SH, (q1477.2, K, am_RF true))) from rfl) (am_g1 g1479 rfl) (am_nd_f c1480) ?_
                      refine am_r_go (show am_stepn X T_UpRiver_read 3 true (176, [(0, am_pv 0), (1, am_iv 3), (3, am_iv x3), (4, am_iv x4), (5, am_iv x5), (6, am_iv x6), (7, am_iv x7), (8, am_iv x8), (9, am_jv ((am_i2l x3) + ((2 : Int64) * (am_i2l x8))))], [], am_SH, (q1477.2, K, am_RF true)) = some (true, .inl (67, [(0, am_pv 0), (1, am_iv 3), (3, am_iv x3), (4, am_iv x4), (5, am_iv x5), (6, am_iv x6), (7, am_iv (x7 + 1)), (8, am_iv (x8 + 1))], [], am_SH, (q1477.2, K, am_RF true))) from rfl) rfl ?_
                      exact ih _ _ _ _ _ _ _ _ _ h
              · rw [if_neg c1464] at h
                cases h
      · rw [if_neg c1412] at h
        refine am_r_t (show am_stepn X T_UpRiver_read 2 true (74, [(0, am_pv 0), (1, am_iv x1), (3, am_iv x3), (4, am_iv x4), (5, am_iv x5), (6, am_iv x6), (7, am_iv x7), (8, am_iv x8)], [], am_SH, (J, K, am_RF true)) = some ((decide (am_i32 x5) && true), .inl (bif am_cb .ne x5 0 then 185 else 79, [(0, am_pv 0), (1, am_iv x1), (3, am_iv x3), (4, am_iv x4), (5, am_iv x5), (6, am_iv x6), (7, am_iv x7), (8, am_iv x8)], [], am_SH, (J, K, am_RF true))) from rfl) (am_g1 g1411 rfl) (am_nd_f c1412) ?_
        obtain rfl := Option.some.inj h
        exact am_r_ret (show am_stepn X T_UpRiver_read 5 true (185, [(0, am_pv 0), (1, am_iv x1), (3, am_iv x3), (4, am_iv x4), (5, am_iv x5), (6, am_iv x6), (7, am_iv x7), (8, am_iv x8)], [], am_SH, (J, K, am_RF true)) = some (true, .inr (.inr (some (am_iv x7), am_SH, ((am_up J 0 9 x5), K, am_RF true)))) from rfl) rfl
    · rw [if_neg c1410] at h
      refine am_r_t (show am_stepn X T_UpRiver_read 3 true (67, [(0, am_pv 0), (1, am_iv x1), (3, am_iv x3), (4, am_iv x4), (5, am_iv x5), (6, am_iv x6), (7, am_iv x7), (8, am_iv x8)], [], am_SH, (J, K, am_RF true)) = some (((decide (am_i32 x4) && decide (am_i32 x8)) && true), .inl (bif am_cb .ge x8 x4 then 185 else 74, [(0, am_pv 0), (1, am_iv x1), (3, am_iv x3), (4, am_iv x4), (5, am_iv x5), (6, am_iv x6), (7, am_iv x7), (8, am_iv x8)], [], am_SH, (J, K, am_RF true))) from rfl) (am_g2 g1408 g1409 rfl) (am_nd_f c1410) ?_
      obtain rfl := Option.some.inj h
      exact am_r_ret (show am_stepn X T_UpRiver_read 5 true (185, [(0, am_pv 0), (1, am_iv x1), (3, am_iv x3), (4, am_iv x4), (5, am_iv x5), (6, am_iv x6), (7, am_iv x7), (8, am_iv x8)], [], am_SH, (J, K, am_RF true)) = some (true, .inr (.inr (some (am_iv x7), am_SH, ((am_up J 0 9 x5), K, am_RF true)))) from rfl) rfl
theorem s_UpRiver_read_L47_t {X : am_X} {K : am_K}  : ∀ (x1 : Int) (x3 : Int) (x4 : Int) (s0 : Int) (J : am_J) (r : Int × am_J), f_UpRiver_read_L47 true   x1 x3 x4 s0 J = some r → am_runs X T_UpRiver_read (47, [(0, am_pv 0), (1, am_iv x1), (3, am_iv x3), (4, am_iv x4)], [am_iv s0], am_SH, (J, K, am_RF true)) (some (am_iv r.1), am_SH, (r.2, K, am_RF true)) := by
  intro x1 x3 x4 s0 J r h
  unfold f_UpRiver_read_L47 at h
  refine am_r_go (show am_stepn X T_UpRiver_read 10 true (47, [(0, am_pv 0), (1, am_iv x1), (3, am_iv x3), (4, am_iv x4)], [am_iv s0], am_SH, (J, K, am_RF true)) = some (true, .inl (67, [(0, am_pv 0), (1, am_iv x1), (3, am_iv x3), (4, am_iv x4), (5, am_iv s0), (6, am_iv (J 19 2)), (7, am_iv 0), (8, am_iv 0)], [], am_SH, (J, K, am_RF true))) from rfl) rfl ?_
  exact s_UpRiver_read_L67_t  _ _ _ _ _ _ _ _ _ _ h
theorem s_UpRiver_read_t {X : am_X} {K : am_K} {x1 : Int} {x2 : Int} {x3 : Int} {x4 : Int} {J : am_J} {r : Int × am_J} (h : f_UpRiver_read true x1 x2 x3 x4 J = some r) : am_runs X T_UpRiver_read (0, [(0, am_pv 0), (1, am_iv x1), (2, am_iv x2), (3, am_iv x3), (4, am_iv x4)], [], am_SH, (J, K, am_RF true)) (some (am_iv r.1), am_SH, (r.2, K, am_RF true)) := by
  unfold f_UpRiver_read at h
  obtain ⟨q1481, e1482, h⟩ := am_bind_some h
  refine am_r_call (show am_stepn X T_UpRiver_read 2 true (0, [(0, am_pv 0), (1, am_iv x1), (2, am_iv x2), (3, am_iv x3), (4, am_iv x4)], [], am_SH, (J, K, am_RF true)) = some (true, .inr (.inl (136, [am_iv x1], 1, 0, 0, 4, [(0, am_pv 0), (1, am_iv x1), (2, am_iv x2), (3, am_iv x3), (4, am_iv x4)], [], am_SH, (J, K, am_RF true)))) from rfl) rfl tb_UpRiver_isSheet (s_UpRiver_isSheet e1482) ?_
  obtain ⟨g1483, h⟩ := am_if_some h
  by_cases c1484 : q1481 = 0
  · rw [if_pos c1484] at h
    refine am_r_t (show am_stepn X T_UpRiver_read 1 true (4, [(0, am_pv 0), (1, am_iv x1), (2, am_iv x2), (3, am_iv x3), (4, am_iv x4)], [am_iv q1481], am_SH, (J, K, am_RF true)) = some ((decide (am_i32 q1481) && true), .inl (bif am_cb .eq q1481 0 then 26 else 7, [(0, am_pv 0), (1, am_iv x1), (2, am_iv x2), (3, am_iv x3), (4, am_iv x4)], [], am_SH, (J, K, am_RF true))) from rfl) (am_g1 g1483 rfl) (decide_eq_true c1484) ?_
    obtain rfl := Option.some.inj h
    exact am_r_ret (show am_stepn X T_UpRiver_read 2 true (26, [(0, am_pv 0), (1, am_iv x1), (2, am_iv x2), (3, am_iv x3), (4, am_iv x4)], [], am_SH, (J, K, am_RF true)) = some (true, .inr (.inr (some (am_iv (-1)), am_SH, (J, K, am_RF true)))) from rfl) rfl
  · rw [if_neg c1484] at h
    refine am_r_f (show am_stepn X T_UpRiver_read 1 true (4, [(0, am_pv 0), (1, am_iv x1), (2, am_iv x2), (3, am_iv x3), (4, am_iv x4)], [am_iv q1481], am_SH, (J, K, am_RF true)) = some ((decide (am_i32 q1481) && true), .inl (bif am_cb .eq q1481 0 then 26 else 7, [(0, am_pv 0), (1, am_iv x1), (2, am_iv x2), (3, am_iv x3), (4, am_iv x4)], [], am_SH, (J, K, am_RF true))) from rfl) (am_g1 g1483 rfl) (decide_eq_false c1484) ?_
    obtain ⟨q1485, e1486, h⟩ := am_bind_some h
    refine am_r_call (show am_stepn X T_UpRiver_read 2 true (7, [(0, am_pv 0), (1, am_iv x1), (2, am_iv x2), (3, am_iv x3), (4, am_iv x4)], [], am_SH, (J, K, am_RF true)) = some (true, .inr (.inl (137, [am_iv x2], 1, 0, 0, 11, [(0, am_pv 0), (1, am_iv x1), (2, am_iv x2), (3, am_iv x3), (4, am_iv x4)], [], am_SH, (J, K, am_RF true)))) from rfl) rfl tb_Sheet_isKind (s_Sheet_isKind e1486) ?_
    obtain ⟨g1487, h⟩ := am_if_some h
    by_cases c1488 : q1485 = 0
    · rw [if_pos c1488] at h
      refine am_r_t (show am_stepn X T_UpRiver_read 1 true (11, [(0, am_pv 0), (1, am_iv x1), (2, am_iv x2), (3, am_iv x3), (4, am_iv x4)], [am_iv q1485], am_SH, (J, K, am_RF true)) = some ((decide (am_i32 q1485) && true), .inl (bif am_cb .eq q1485 0 then 26 else 14, [(0, am_pv 0), (1, am_iv x1), (2, am_iv x2), (3, am_iv x3), (4, am_iv x4)], [], am_SH, (J, K, am_RF true))) from rfl) (am_g1 g1487 rfl) (decide_eq_true c1488) ?_
      obtain rfl := Option.some.inj h
      exact am_r_ret (show am_stepn X T_UpRiver_read 2 true (26, [(0, am_pv 0), (1, am_iv x1), (2, am_iv x2), (3, am_iv x3), (4, am_iv x4)], [], am_SH, (J, K, am_RF true)) = some (true, .inr (.inr (some (am_iv (-1)), am_SH, (J, K, am_RF true)))) from rfl) rfl
    · rw [if_neg c1488] at h
      refine am_r_f (show am_stepn X T_UpRiver_read 1 true (11, [(0, am_pv 0), (1, am_iv x1), (2, am_iv x2), (3, am_iv x3), (4, am_iv x4)], [am_iv q1485], am_SH, (J, K, am_RF true)) = some ((decide (am_i32 q1485) && true), .inl (bif am_cb .eq q1485 0 then 26 else 14, [(0, am_pv 0), (1, am_iv x1), (2, am_iv x2), (3, am_iv x3), (4, am_iv x4)], [], am_SH, (J, K, am_RF true))) from rfl) (am_g1 g1487 rfl) (decide_eq_false c1488) ?_
      obtain ⟨g1489, h⟩ := am_if_some h
      by_cases c1490 : x4 < 0
      · rw [if_pos c1490] at h
        refine am_r_t (show am_stepn X T_UpRiver_read 2 true (14, [(0, am_pv 0), (1, am_iv x1), (2, am_iv x2), (3, am_iv x3), (4, am_iv x4)], [], am_SH, (J, K, am_RF true)) = some ((decide (am_i32 x4) && true), .inl (bif am_cb .lt x4 0 then 26 else 19, [(0, am_pv 0), (1, am_iv x1), (2, am_iv x2), (3, am_iv x3), (4, am_iv x4)], [], am_SH, (J, K, am_RF true))) from rfl) (am_g1 g1489 rfl) (decide_eq_true c1490) ?_
        obtain rfl := Option.some.inj h
        exact am_r_ret (show am_stepn X T_UpRiver_read 2 true (26, [(0, am_pv 0), (1, am_iv x1), (2, am_iv x2), (3, am_iv x3), (4, am_iv x4)], [], am_SH, (J, K, am_RF true)) = some (true, .inr (.inr (some (am_iv (-1)), am_SH, (J, K, am_RF true)))) from rfl) rfl
      · rw [if_neg c1490] at h
        refine am_r_f (show am_stepn X T_UpRiver_read 2 true (14, [(0, am_pv 0), (1, am_iv x1), (2, am_iv x2), (3, am_iv x3), (4, am_iv x4)], [], am_SH, (J, K, am_RF true)) = some ((decide (am_i32 x4) && true), .inl (bif am_cb .lt x4 0 then 26 else 19, [(0, am_pv 0), (1, am_iv x1), (2, am_iv x2), (3, am_iv x3), (4, am_iv x4)], [], am_SH, (J, K, am_RF true))) from rfl) (am_g1 g1489 rfl) (decide_eq_false c1490) ?_
        by_cases c1491 : 12 < x4
        · rw [if_pos c1491] at h
          refine am_r_f (show am_stepn X T_UpRiver_read 3 true (19, [(0, am_pv 0), (1, am_iv x1), (2, am_iv x2), (3, am_iv x3), (4, am_iv x4)], [], am_SH, (J, K, am_RF true)) = some (((decide (am_i32 12) && decide (am_i32 x4)) && true), .inl (bif am_cb .le x4 12 then 28 else 26, [(0, am_pv 0), (1, am_iv x1), (2, am_iv x2), (3, am_iv x3), (4, am_iv x4)], [], am_SH, (J, K, am_RF true))) from rfl) (am_g2 (by decide) g1489 rfl) (am_nd_t c1491) ?_
          obtain rfl := Option.some.inj h
          exact am_r_ret (show am_stepn X T_UpRiver_read 2 true (26, [(0, am_pv 0), (1, am_iv x1), (2, am_iv x2), (3, am_iv x3), (4, am_iv x4)], [], am_SH, (J, K, am_RF true)) = some (true, .inr (.inr (some (am_iv (-1)), am_SH, (J, K, am_RF true)))) from rfl) rfl
        · rw [if_neg c1491] at h
          refine am_r_t (show am_stepn X T_UpRiver_read 3 true (19, [(0, am_pv 0), (1, am_iv x1), (2, am_iv x2), (3, am_iv x3), (4, am_iv x4)], [], am_SH, (J, K, am_RF true)) = some (((decide (am_i32 12) && decide (am_i32 x4)) && true), .inl (bif am_cb .le x4 12 then 28 else 26, [(0, am_pv 0), (1, am_iv x1), (2, am_iv x2), (3, am_iv x3), (4, am_iv x4)], [], am_SH, (J, K, am_RF true))) from rfl) (am_g2 (by decide) g1489 rfl) (am_nd_f c1491) ?_
          by_cases c1492 : x4 = 0
          · rw [if_pos c1492] at h
            refine am_r_f (show am_stepn X T_UpRiver_read 2 true (28, [(0, am_pv 0), (1, am_iv x1), (2, am_iv x2), (3, am_iv x3), (4, am_iv x4)], [], am_SH, (J, K, am_RF true)) = some ((decide (am_i32 x4) && true), .inl (bif am_cb .ne x4 0 then 37 else 33, [(0, am_pv 0), (1, am_iv x1), (2, am_iv x2), (3, am_iv x3), (4, am_iv x4)], [], am_SH, (J, K, am_RF true))) from rfl) (am_g1 g1489 rfl) (am_nd_t c1492) ?_
            refine am_r_go (show am_stepn X T_UpRiver_read 2 true (33, [(0, am_pv 0), (1, am_iv x1), (2, am_iv x2), (3, am_iv x3), (4, am_iv x4)], [], am_SH, (J, K, am_RF true)) = some (true, .inl (47, [(0, am_pv 0), (1, am_iv x1), (3, am_iv x3), (4, am_iv x4)], [am_iv 0], am_SH, (J, K, am_RF true))) from rfl) rfl ?_
            exact s_UpRiver_read_L47_t  _ _ _ _ _ _ h
          · rw [if_neg c1492] at h
            refine am_r_t (show am_stepn X T_UpRiver_read 2 true (28, [(0, am_pv 0), (1, am_iv x1), (2, am_iv x2), (3, am_iv x3), (4, am_iv x4)], [], am_SH, (J, K, am_RF true)) = some ((decide (am_i32 x4) && true), .inl (bif am_cb .ne x4 0 then 37 else 33, [(0, am_pv 0), (1, am_iv x1), (2, am_iv x2), (3, am_iv x3), (4, am_iv x4)], [], am_SH, (J, K, am_RF true))) from rfl) (am_g1 g1489 rfl) (am_nd_f c1492) ?_
            by_cases c1493 : x1 = 0
            · rw [if_pos c1493] at h
              revert h
              subst c1493
              intro h
              obtain ⟨q1494, e1495, h⟩ := am_bind_some h
              refine am_r_call (show am_stepn X T_UpRiver_read 6 true (37, [(0, am_pv 0), (1, am_iv 0), (2, am_iv x2), (3, am_iv x3), (4, am_iv x4)], [], am_SH, (J, K, am_RF true)) = some ((am_in 0 4 && true), .inr (.inl (143, [am_pv 57, am_iv x2], 2, 0, 0, 47, [(0, am_pv 0), (1, am_iv 0), (2, am_iv x2), (3, am_iv x3), (4, am_iv x4)], [], am_SH, (J, K, am_RF true)))) from rfl) (am_gi (by decide) rfl) tb_Sheet_faultAs (s_Sheet_faultAs (by decide) e1495) ?_
              refine am_r_eq (σ' := (47, [(0, am_pv 0), (1, am_iv 0), (3, am_iv x3), (4, am_iv x4)], [am_iv q1494], am_SH, (J, K, am_RF true))) rfl ?_
              exact s_UpRiver_read_L47_t  _ _ _ _ _ _ h
            · rw [if_neg c1493] at h
              by_cases c1496 : x1 = 1
              · rw [if_pos c1496] at h
                revert h
                subst c1496
                intro h
                obtain ⟨q1497, e1498, h⟩ := am_bind_some h
                refine am_r_call (show am_stepn X T_UpRiver_read 6 true (37, [(0, am_pv 0), (1, am_iv 1), (2, am_iv x2), (3, am_iv x3), (4, am_iv x4)], [], am_SH, (J, K, am_RF true)) = some ((am_in 1 4 && true), .inr (.inl (143, [am_pv 59, am_iv x2], 2, 0, 0, 47, [(0, am_pv 0), (1, am_iv 1), (2, am_iv x2), (3, am_iv x3), (4, am_iv x4)], [], am_SH, (J, K, am_RF true)))) from rfl) (am_gi (by decide) rfl) tb_Sheet_faultAs (s_Sheet_faultAs (by decide) e1498) ?_
                refine am_r_eq (σ' := (47, [(0, am_pv 0), (1, am_iv 1), (3, am_iv x3), (4, am_iv x4)], [am_iv q1497], am_SH, (J, K, am_RF true))) rfl ?_
                exact s_UpRiver_read_L47_t  _ _ _ _ _ _ h
              · rw [if_neg c1496] at h
                by_cases c1499 : x1 = 2
                · rw [if_pos c1499] at h
                  revert h
                  subst c1499
                  intro h
                  obtain ⟨q1500, e1501, h⟩ := am_bind_some h
                  refine am_r_call (show am_stepn X T_UpRiver_read 6 true (37, [(0, am_pv 0), (1, am_iv 2), (2, am_iv x2), (3, am_iv x3), (4, am_iv x4)], [], am_SH, (J, K, am_RF true)) = some ((am_in 2 4 && true), .inr (.inl (143, [am_pv 61, am_iv x2], 2, 0, 0, 47, [(0, am_pv 0), (1, am_iv 2), (2, am_iv x2), (3, am_iv x3), (4, am_iv x4)], [], am_SH, (J, K, am_RF true)))) from rfl) (am_gi (by decide) rfl) tb_Sheet_faultAs (s_Sheet_faultAs (by decide) e1501) ?_
                  refine am_r_eq (σ' := (47, [(0, am_pv 0), (1, am_iv 2), (3, am_iv x3), (4, am_iv x4)], [am_iv q1500], am_SH, (J, K, am_RF true))) rfl ?_
                  exact s_UpRiver_read_L47_t  _ _ _ _ _ _ h
                · rw [if_neg c1499] at h
                  by_cases c1502 : x1 = 3
                  · rw [if_pos c1502] at h
                    revert h
                    subst c1502
                    intro h
                    obtain ⟨q1503, e1504, h⟩ := am_bind_some h
                    refine am_r_call (show am_stepn X T_UpRiver_read 6 true (37, [(0, am_pv 0), (1, am_iv 3), (2, am_iv x2), (3, am_iv x3), (4, am_iv x4)], [], am_SH, (J, K, am_RF true)) = some ((am_in 3 4 && true), .inr (.inl (143, [am_pv 63, am_iv x2], 2, 0, 0, 47, [(0, am_pv 0), (1, am_iv 3), (2, am_iv x2), (3, am_iv x3), (4, am_iv x4)], [], am_SH, (J, K, am_RF true)))) from rfl) (am_gi (by decide) rfl) tb_Sheet_faultAs (s_Sheet_faultAs (by decide) e1504) ?_
                    refine am_r_eq (σ' := (47, [(0, am_pv 0), (1, am_iv 3), (3, am_iv x3), (4, am_iv x4)], [am_iv q1503], am_SH, (J, K, am_RF true))) rfl ?_
                    exact s_UpRiver_read_L47_t  _ _ _ _ _ _ h
                  · rw [if_neg c1502] at h
                    cases h
theorem s_UpRiver_read {X : am_X} {b : Bool} {K : am_K} {x1 : Int} {x2 : Int} {x3 : Int} {x4 : Int} {J : am_J} {r : Int × am_J} (h : f_UpRiver_read b x1 x2 x3 x4 J = some r) : am_runs X T_UpRiver_read (0, [(0, am_pv 0), (1, am_iv x1), (2, am_iv x2), (3, am_iv x3), (4, am_iv x4)], [], am_SH, (J, K, am_RF b)) (some (am_iv r.1), am_SH, (r.2, K, am_RF b)) := by
  cases b
  · exact s_UpRiver_read_f h
  · exact s_UpRiver_read_t h
