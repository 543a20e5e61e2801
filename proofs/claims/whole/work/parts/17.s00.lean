theorem s_River_forget_L98_32_ {X : am_X} {b : Bool} {K : am_K}  : ∀ (n : Nat) (x1 : Int) (J : am_J) (r : am_J), f_River_forget_L98 32  n x1 J = some r → am_runs X T_River_forget (98, [(0, am_pv 32), (1, am_iv x1)], [], am_SH, (J, K, am_RF b)) (none, am_SH, (r, K, am_RF b)) := by
  intro n
  induction n with
  | zero =>
    intro x1 J r h
    cases h
  | succ n ih =>
    intro x1 J r h
    rw [f_River_forget_L98.eq_2] at h
    obtain ⟨g1, h⟩ := am_if_some h
    by_cases c2 : x1 < 72
    · rw [if_pos c2] at h
      refine am_r_f (show am_stepn X T_River_forget 3 true (98, [(0, am_pv 32), (1, am_iv x1)], [], am_SH, (J, K, am_RF b)) = some (((decide (am_i32 72) && decide (am_i32 x1)) && true), .inl (bif am_cb .ge x1 72 then 125 else 104, [(0, am_pv 32), (1, am_iv x1)], [], am_SH, (J, K, am_RF b))) from rfl) (am_g2 (by decide) g1 rfl) (am_nd_t c2) ?_
      obtain ⟨g3, h⟩ := am_if_some h
      refine am_r_go (show am_stepn X T_River_forget 12 true (104, [(0, am_pv 32), (1, am_iv x1)], [], am_SH, (J, K, am_RF b)) = some (((decide ((0 : Int) = 0 ∨ (0 : Int) = 1) && am_in x1 72) && (am_in x1 72 && true)), .inl (98, [(0, am_pv 32), (1, am_iv (x1 + 1))], [], am_SH, ((am_up (am_up J (32 + 8) x1.toNat 20) (32 + 9) x1.toNat 0), K, am_RF b))) from rfl) (am_gz (by decide) g3 (am_gi g3 rfl)) ?_
      exact ih _ _ _ h
    · rw [if_neg c2] at h
      refine am_r_t (show am_stepn X T_River_forget 3 true (98, [(0, am_pv 32), (1, am_iv x1)], [], am_SH, (J, K, am_RF b)) = some (((decide (am_i32 72) && decide (am_i32 x1)) && true), .inl (bif am_cb .ge x1 72 then 125 else 104, [(0, am_pv 32), (1, am_iv x1)], [], am_SH, (J, K, am_RF b))) from rfl) (am_g2 (by decide) g1 rfl) (am_nd_f c2) ?_
      obtain rfl := Option.some.inj h
      exact am_r_ret (show am_stepn X T_River_forget 1 true (125, [(0, am_pv 32), (1, am_iv x1)], [], am_SH, (J, K, am_RF b)) = some (true, .inr (.inr (none, am_SH, (J, K, am_RF b)))) from rfl) rfl
theorem s_River_forget_L55_32_ {X : am_X} {b : Bool} {K : am_K}  : ∀ (n : Nat) (x1 : Int) (J : am_J) (r : am_J), f_River_forget_L55 32  n x1 J = some r → am_runs X T_River_forget (55, [(0, am_pv 32), (1, am_iv x1)], [], am_SH, (J, K, am_RF b)) (none, am_SH, (r, K, am_RF b)) := by
  intro n
  induction n with
  | zero =>
    intro x1 J r h
    cases h
  | succ n ih =>
    intro x1 J r h
    rw [f_River_forget_L55.eq_2] at h
    obtain ⟨g4, h⟩ := am_if_some h
    by_cases c5 : x1 < 8
    · rw [if_pos c5] at h
      refine am_r_f (show am_stepn X T_River_forget 3 true (55, [(0, am_pv 32), (1, am_iv x1)], [], am_SH, (J, K, am_RF b)) = some (((decide (am_i32 8) && decide (am_i32 x1)) && true), .inl (bif am_cb .ge x1 8 then 96 else 61, [(0, am_pv 32), (1, am_iv x1)], [], am_SH, (J, K, am_RF b))) from rfl) (am_g2 (by decide) g4 rfl) (am_nd_t c5) ?_
      obtain ⟨g6, h⟩ := am_if_some h
      refine am_r_go (show am_stepn X T_River_forget 22 true (61, [(0, am_pv 32), (1, am_iv x1)], [], am_SH, (J, K, am_RF b)) = some (((decide ((0 : Int) = 0 ∨ (0 : Int) = 1) && am_in x1 8) && (am_in x1 8 && (am_in x1 8 && (am_in x1 8 && true)))), .inl (55, [(0, am_pv 32), (1, am_iv (x1 + 1))], [], am_SH, ((am_up (am_up (am_up (am_up J (32 + 4) x1.toNat 0) (32 + 5) x1.toNat 8) (32 + 6) x1.toNat 1) (32 + 7) x1.toNat 0), K, am_RF b))) from rfl) (am_gz (by decide) g6 (am_gi g6 (am_gi g6 (am_gi g6 rfl)))) ?_
      exact ih _ _ _ h
    · rw [if_neg c5] at h
      refine am_r_t (show am_stepn X T_River_forget 3 true (55, [(0, am_pv 32), (1, am_iv x1)], [], am_SH, (J, K, am_RF b)) = some (((decide (am_i32 8) && decide (am_i32 x1)) && true), .inl (bif am_cb .ge x1 8 then 96 else 61, [(0, am_pv 32), (1, am_iv x1)], [], am_SH, (J, K, am_RF b))) from rfl) (am_g2 (by decide) g4 rfl) (am_nd_f c5) ?_
      refine am_r_go (show am_stepn X T_River_forget 2 true (96, [(0, am_pv 32), (1, am_iv x1)], [], am_SH, (J, K, am_RF b)) = some (true, .inl (98, [(0, am_pv 32), (1, am_iv 0)], [], am_SH, (J, K, am_RF b))) from rfl) rfl ?_
      exact s_River_forget_L98_32_  _ _ _ _ h
theorem s_River_forget_L27_32_ {X : am_X} {b : Bool} {K : am_K}  : ∀ (n : Nat) (x1 : Int) (J : am_J) (r : am_J), f_River_forget_L27 32  n x1 J = some r → am_runs X T_River_forget (27, [(0, am_pv 32), (1, am_iv x1)], [], am_SH, (J, K, am_RF b)) (none, am_SH, (r, K, am_RF b)) := by
  intro n
  induction n with
  | zero =>
    intro x1 J r h
    cases h
  | succ n ih =>
    intro x1 J r h
    rw [f_River_forget_L27.eq_2] at h
    obtain ⟨g7, h⟩ := am_if_some h
    by_cases c8 : x1 < 12
    · rw [if_pos c8] at h
      refine am_r_f (show am_stepn X T_River_forget 3 true (27, [(0, am_pv 32), (1, am_iv x1)], [], am_SH, (J, K, am_RF b)) = some (((decide (am_i32 12) && decide (am_i32 x1)) && true), .inl (bif am_cb .ge x1 12 then 53 else 33, [(0, am_pv 32), (1, am_iv x1)], [], am_SH, (J, K, am_RF b))) from rfl) (am_g2 (by decide) g7 rfl) (am_nd_t c8) ?_
      obtain ⟨g9, h⟩ := am_if_some h
      refine am_r_go (show am_stepn X T_River_forget 12 true (33, [(0, am_pv 32), (1, am_iv x1)], [], am_SH, (J, K, am_RF b)) = some ((am_in x1 12 && (am_in x1 12 && true)), .inl (27, [(0, am_pv 32), (1, am_iv (x1 + 1))], [], am_SH, ((am_up (am_up J (32 + 2) x1.toNat 0) (32 + 3) x1.toNat 0), K, am_RF b))) from rfl) (am_gi g9 (am_gi g9 rfl)) ?_
      exact ih _ _ _ h
    · rw [if_neg c8] at h
      refine am_r_t (show am_stepn X T_River_forget 3 true (27, [(0, am_pv 32), (1, am_iv x1)], [], am_SH, (J, K, am_RF b)) = some (((decide (am_i32 12) && decide (am_i32 x1)) && true), .inl (bif am_cb .ge x1 12 then 53 else 33, [(0, am_pv 32), (1, am_iv x1)], [], am_SH, (J, K, am_RF b))) from rfl) (am_g2 (by decide) g7 rfl) (am_nd_f c8) ?_
      refine am_r_go (show am_stepn X T_River_forget 2 true (53, [(0, am_pv 32), (1, am_iv x1)], [], am_SH, (J, K, am_RF b)) = some (true, .inl (55, [(0, am_pv 32), (1, am_iv 0)], [], am_SH, (J, K, am_RF b))) from rfl) rfl ?_
      exact s_River_forget_L55_32_  _ _ _ _ h
theorem s_River_forget_L2_32_ {X : am_X} {b : Bool} {K : am_K}  : ∀ (n : Nat) (x1 : Int) (J : am_J) (r : am_J), f_River_forget_L2 32  n x1 J = some r → am_runs X T_River_forget (2, [(0, am_pv 32), (1, am_iv x1)], [], am_SH, (J, K, am_RF b)) (none, am_SH, (r, K, am_RF b)) := by
  intro n
  induction n with
  | zero =>
    intro x1 J r h
    cases h
  | succ n ih =>
    intro x1 J r h
    rw [f_River_forget_L2.eq_2] at h
    obtain ⟨g10, h⟩ := am_if_some h
    by_cases c11 : x1 < 7
    · rw [if_pos c11] at h
      refine am_r_f (show am_stepn X T_River_forget 3 true (2, [(0, am_pv 32), (1, am_iv x1)], [], am_SH, (J, K, am_RF b)) = some (((decide (am_i32 7) && decide (am_i32 x1)) && true), .inl (bif am_cb .ge x1 7 then 25 else 8, [(0, am_pv 32), (1, am_iv x1)], [], am_SH, (J, K, am_RF b))) from rfl) (am_g2 (by decide) g10 rfl) (am_nd_t c11) ?_
      obtain ⟨g12, h⟩ := am_if_some h
      refine am_r_go (show am_stepn X T_River_forget 9 true (8, [(0, am_pv 32), (1, am_iv x1)], [], am_SH, (J, K, am_RF b)) = some ((am_in x1 7 && (am_in x1 7 && true)), .inl (2, [(0, am_pv 32), (1, am_iv (x1 + 1))], [], am_SH, ((am_up J (32 + 1) x1.toNat (am_first.getD x1.toNat 0)), K, am_RF b))) from rfl) (am_gi g12 (am_gi g12 rfl)) ?_
      exact ih _ _ _ h
    · rw [if_neg c11] at h
      refine am_r_t (show am_stepn X T_River_forget 3 true (2, [(0, am_pv 32), (1, am_iv x1)], [], am_SH, (J, K, am_RF b)) = some (((decide (am_i32 7) && decide (am_i32 x1)) && true), .inl (bif am_cb .ge x1 7 then 25 else 8, [(0, am_pv 32), (1, am_iv x1)], [], am_SH, (J, K, am_RF b))) from rfl) (am_g2 (by decide) g10 rfl) (am_nd_f c11) ?_
      refine am_r_go (show am_stepn X T_River_forget 2 true (25, [(0, am_pv 32), (1, am_iv x1)], [], am_SH, (J, K, am_RF b)) = some (true, .inl (27, [(0, am_pv 32), (1, am_iv 0)], [], am_SH, (J, K, am_RF b))) from rfl) rfl ?_
      exact s_River_forget_L27_32_  _ _ _ _ h
theorem s_River_forget_32_ {X : am_X} {b : Bool} {K : am_K} {J : am_J} {r : am_J} (h : f_River_forget 32 J = some r) : am_runs X T_River_forget (0, [(0, am_pv 32)], [], am_SH, (J, K, am_RF b)) (none, am_SH, (r, K, am_RF b)) := by
  unfold f_River_forget at h
  refine am_r_go (show am_stepn X T_River_forget 2 true (0, [(0, am_pv 32)], [], am_SH, (J, K, am_RF b)) = some (true, .inl (2, [(0, am_pv 32), (1, am_iv 0)], [], am_SH, (J, K, am_RF b))) from rfl) rfl ?_
  exact s_River_forget_L2_32_  _ _ _ _ h
theorem s_River_forget_L98_6_ {X : am_X} {b : Bool} {K : am_K}  : ∀ (n : Nat) (x1 : Int) (J : am_J) (r : am_J), f_River_forget_L98 6  n x1 J = some r → am_runs X T_River_forget (98, [(0, am_pv 6), (1, am_iv x1)], [], am_SH, (J, K, am_RF b)) (none, am_SH, (r, K, am_RF b)) := by
  intro n
  induction n with
  | zero =>
    intro x1 J r h
    cases h
  | succ n ih =>
    intro x1 J r h
    rw [f_River_forget_L98.eq_2] at h
    obtain ⟨g1, h⟩ := am_if_some h
    by_cases c2 : x1 < 72
    · rw [if_pos c2] at h
      refine am_r_f (show am_stepn X T_River_forget 3 true (98, [(0, am_pv 6), (1, am_iv x1)], [], am_SH, (J, K, am_RF b)) = some (((decide (am_i32 72) && decide (am_i32 x1)) && true), .inl (bif am_cb .ge x1 72 then 125 else 104, [(0, am_pv 6), (1, am_iv x1)], [], am_SH, (J, K, am_RF b))) from rfl) (am_g2 (by decide) g1 rfl) (am_nd_t c2) ?_
      obtain ⟨g3, h⟩ := am_if_some h
      refine am_r_go (show am_stepn X T_River_forget 12 true (104, [(0, am_pv 6), (1, am_iv x1)], [], am_SH, (J, K, am_RF b)) = some (((decide ((0 : Int) = 0 ∨ (0 : Int) = 1) && am_in x1 72) && (am_in x1 72 && true)), .inl (98, [(0, am_pv 6), (1, am_iv (x1 + 1))], [], am_SH, ((am_up (am_up J (6 + 8) x1.toNat 20) (6 + 9) x1.toNat 0), K, am_RF b))) from rfl) (am_gz (by decide) g3 (am_gi g3 rfl)) ?_
      exact ih _ _ _ h
    · rw [if_neg c2] at h
      refine am_r_t (show am_stepn X T_River_forget 3 true (98, [(0, am_pv 6), (1, am_iv x1)], [], am_SH, (J, K, am_RF b)) = some (((decide (am_i32 72) && decide (am_i32 x1)) && true), .inl (bif am_cb .ge x1 72 then 125 else 104, [(0, am_pv 6), (1, am_iv x1)], [], am_SH, (J, K, am_RF b))) from rfl) (am_g2 (by decide) g1 rfl) (am_nd_f c2) ?_
      obtain rfl := Option.some.inj h
      exact am_r_ret (show am_stepn X T_River_forget 1 true (125, [(0, am_pv 6), (1, am_iv x1)], [], am_SH, (J, K, am_RF b)) = some (true, .inr (.inr (none, am_SH, (J, K, am_RF b)))) from rfl) rfl
theorem s_River_forget_L55_6_ {X : am_X} {b : Bool} {K : am_K}  : ∀ (n : Nat) (x1 : Int) (J : am_J) (r : am_J), f_River_forget_L55 6  n x1 J = some r → am_runs X T_River_forget (55, [(0, am_pv 6), (1, am_iv x1)], [], am_SH, (J, K, am_RF b)) (none, am_SH, (r, K, am_RF b)) := by
  intro n
  induction n with
  | zero =>
    intro x1 J r h
    cases h
  | succ n ih =>
    intro x1 J r h
    rw [f_River_forget_L55.eq_2] at h
    obtain ⟨g4, h⟩ := am_if_some h
    by_cases c5 : x1 < 8
    · rw [if_pos c5] at h
      refine am_r_f (show am_stepn X T_River_forget 3 true (55, [(0, am_pv 6), (1, am_iv x1)], [], am_SH, (J, K, am_RF b)) = some (((decide (am_i32 8) && decide (am_i32 x1)) && true), .inl (bif am_cb .ge x1 8 then 96 else 61, [(0, am_pv 6), (1, am_iv x1)], [], am_SH, (J, K, am_RF b))) from rfl) (am_g2 (by decide) g4 rfl) (am_nd_t c5) ?_
      obtain ⟨g6, h⟩ := am_if_some h
      refine am_r_go (show am_stepn X T_River_forget 22 true (61, [(0, am_pv 6), (1, am_iv x1)], [], am_SH, (J, K, am_RF b)) = some (((decide ((0 : Int) = 0 ∨ (0 : Int) = 1) && am_in x1 8) && (am_in x1 8 && (am_in x1 8 && (am_in x1 8 && true)))), .inl (55, [(0, am_pv 6), (1, am_iv (x1 + 1))], [], am_SH, ((am_up (am_up (am_up (am_up J (6 + 4) x1.toNat 0) (6 + 5) x1.toNat 8) (6 + 6) x1.toNat 1) (6 + 7) x1.toNat 0), K, am_RF b))) from rfl) (am_gz (by decide) g6 (am_gi g6 (am_gi g6 (am_gi g6 rfl)))) ?_
      exact ih _ _ _ h
    · rw [if_neg c5] at h
      refine am_r_t (show am_stepn X T_River_forget 3 true (55, [(0, am_pv 6), (1, am_iv x1)], [], am_SH, (J, K, am_RF b)) = some (((decide (am_i32 8) && decide (am_i32 x1)) && true), .inl (bif am_cb .ge x1 8 then 96 else 61, [(0, am_pv 6), (1, am_iv x1)], [], am_SH, (J, K, am_RF b))) from rfl) (am_g2 (by decide) g4 rfl) (am_nd_f c5) ?_
      refine am_r_go (show am_stepn X T_River_forget 2 true (96, [(0, am_pv 6), (1, am_iv x1)], [], am_SH, (J, K, am_RF b)) = some (true, .inl (98, [(0, am_pv 6), (1, am_iv 0)], [], am_SH, (J, K, am_RF b))) from rfl) rfl ?_
      exact s_River_forget_L98_6_  _ _ _ _ h
theorem s_River_forget_L27_6_ {X : am_X} {b : Bool} {K : am_K}  : ∀ (n : Nat) (x1 : Int) (J : am_J) (r : am_J), f_River_forget_L27 6  n x1 J = some r → am_runs X T_River_forget (27, [(0, am_pv 6), (1, am_iv x1)], [], am_SH, (J, K, am_RF b)) (none, am_SH, (r, K, am_RF b)) := by
  intro n
  induction n with
  | zero =>
    intro x1 J r h
    cases h
  | succ n ih =>
    intro x1 J r h
    rw [f_River_forget_L27.eq_2] at h
    obtain ⟨g7, h⟩ := am_if_some h
    by_cases c8 : x1 < 12
    · rw [if_pos c8] at h
      refine am_r_f (show am_stepn X T_River_forget 3 true (27, [(0, am_pv 6), (1, am_iv x1)], [], am_SH, (J, K, am_RF b)) = some (((decide (am_i32 12) && decide (am_i32 x1)) && true), .inl (bif am_cb .ge x1 12 then 53 else 33, [(0, am_pv 6), (1, am_iv x1)], [], am_SH, (J, K, am_RF b))) from rfl) (am_g2 (by decide) g7 rfl) (am_nd_t c8) ?_
      obtain ⟨g9, h⟩ := am_if_some h
      refine am_r_go (show am_stepn X T_River_forget 12 true (33, [(0, am_pv 6), (1, am_iv x1)], [], am_SH, (J, K, am_RF b)) = some ((am_in x1 12 && (am_in x1 12 && true)), .inl (27, [(0, am_pv 6), (1, am_iv (x1 + 1))], [], am_SH, ((am_up (am_up J (6 + 2) x1.toNat 0) (6 + 3) x1.toNat 0), K, am_RF b))) from rfl) (am_gi g9 (am_gi g9 rfl)) ?_
      exact ih _ _ _ h
    · rw [if_neg c8] at h
      refine am_r_t (show am_stepn X T_River_forget 3 true (27, [(0, am_pv 6), (1, am_iv x1)], [], am_SH, (J, K, am_RF b)) = some (((decide (am_i32 12) && decide (am_i32 x1)) && true), .inl (bif am_cb .ge x1 12 then 53 else 33, [(0, am_pv 6), (1, am_iv x1)], [], am_SH, (J, K, am_RF b))) from rfl) (am_g2 (by decide) g7 rfl) (am_nd_f c8) ?_
      refine am_r_go (show am_stepn X T_River_forget 2 true (53, [(0, am_pv 6), (1, am_iv x1)], [], am_SH, (J, K, am_RF b)) = some (true, .inl (55, [(0, am_pv 6), (1, am_iv 0)], [], am_SH, (J, K, am_RF b))) from rfl) rfl ?_
      exact s_River_forget_L55_6_  _ _ _ _ h
theorem s_River_forget_L2_6_ {X : am_X} {b : Bool} {K : am_K}  : ∀ (n : Nat) (x1 : Int) (J : am_J) (r : am_J), f_River_forget_L2 6  n x1 J = some r → am_runs X T_River_forget (2, [(0, am_pv 6), (1, am_iv x1)], [], am_SH, (J, K, am_RF b)) (none, am_SH, (r, K, am_RF b)) := by
  intro n
  induction n with
  | zero =>
    intro x1 J r h
    cases h
  | succ n ih =>
    intro x1 J r h
    rw [f_River_forget_L2.eq_2] at h
    obtain ⟨g10, h⟩ := am_if_some h
    by_cases c11 : x1 < 7
    · rw [if_pos c11] at h
      refine am_r_f (show am_stepn X T_River_forget 3 true (2, [(0, am_pv 6), (1, am_iv x1)], [], am_SH, (J, K, am_RF b)) = some (((decide (am_i32 7) && decide (am_i32 x1)) && true), .inl (bif am_cb .ge x1 7 then 25 else 8, [(0, am_pv 6), (1, am_iv x1)], [], am_SH, (J, K, am_RF b))) from rfl) (am_g2 (by decide) g10 rfl) (am_nd_t c11) ?_
      obtain ⟨g12, h⟩ := am_if_some h
      refine am_r_go (show am_stepn X T_River_forget 9 true (8, [(0, am_pv 6), (1, am_iv x1)], [], am_SH, (J, K, am_RF b)) = some ((am_in x1 7 && (am_in x1 7 && true)), .inl (2, [(0, am_pv 6), (1, am_iv (x1 + 1))], [], am_SH, ((am_up J (6 + 1) x1.toNat (am_first.getD x1.toNat 0)), K, am_RF b))) from rfl) (am_gi g12 (am_gi g12 rfl)) ?_
      exact ih _ _ _ h
    · rw [if_neg c11] at h
      refine am_r_t (show am_stepn X T_River_forget 3 true (2, [(0, am_pv 6), (1, am_iv x1)], [], am_SH, (J, K, am_RF b)) = some (((decide (am_i32 7) && decide (am_i32 x1)) && true), .inl (bif am_cb .ge x1 7 then 25 else 8, [(0, am_pv 6), (1, am_iv x1)], [], am_SH, (J, K, am_RF b))) from rfl) (am_g2 (by decide) g10 rfl) (am_nd_f c11) ?_
      refine am_r_go (show am_stepn X T_River_forget 2 true (25, [(0, am_pv 6), (1, am_iv x1)], [], am_SH, (J, K, am_RF b)) = some (true, .inl (27, [(0, am_pv 6), (1, am_iv 0)], [], am_SH, (J, K, am_RF b))) from rfl) rfl ?_
      exact s_River_forget_L27_6_  _ _ _ _ h
theorem s_River_forget_6_ {X : am_X} {b : Bool} {K : am_K} {J : am_J} {r : am_J} (h : f_River_forget 6 J = some r) : am_runs X T_River_forget (0, [(0, am_pv 6)], [], am_SH, (J, K, am_RF b)) (none, am_SH, (r, K, am_RF b)) := by
  unfold f_River_forget at h
  refine am_r_go (show am_stepn X T_River_forget 2 true (0, [(0, am_pv 6)], [], am_SH, (J, K, am_RF b)) = some (true, .inl (2, [(0, am_pv 6), (1, am_iv 0)], [], am_SH, (J, K, am_RF b))) from rfl) rfl ?_
  exact s_River_forget_L2_6_  _ _ _ _ h
theorem s_River_forget {X : am_X} {b : Bool} {o1 : Nat} (ho : o1 = 32 ∨ o1 = 6) {K : am_K} {J : am_J} {r : am_J} (h : f_River_forget o1 J = some r) : am_runs X T_River_forget (0, [(0, am_pv o1)], [], am_SH, (J, K, am_RF b)) (none, am_SH, (r, K, am_RF b)) := by
  rcases ho with rfl | rfl
  · skip
    exact s_River_forget_32_ h
  · skip
    exact s_River_forget_6_ h
theorem s_River_isOpen_32_ {X : am_X} {b : Bool} {J : am_J} {K : am_K} {x1 : Int} {x2 : Int} {r : Int} (h : f_River_isOpen 32 J x1 x2 = some r) : am_runs X T_River_isOpen (0, [(0, am_pv 32), (1, am_iv x1), (2, am_iv x2)], [], am_SH, (J, K, am_RF b)) (some (am_iv r), am_SH, (J, K, am_RF b)) := by
  unfold f_River_isOpen at h
  obtain ⟨g13, h⟩ := am_if_some h
  by_cases c14 : x1 < 0
  · rw [if_pos c14] at h
    refine am_r_t (show am_stepn X T_River_isOpen 2 true (0, [(0, am_pv 32), (1, am_iv x1), (2, am_iv x2)], [], am_SH, (J, K, am_RF b)) = some ((decide (am_i32 x1) && true), .inl (bif am_cb .lt x1 0 then 20 else 4, [(0, am_pv 32), (1, am_iv x1), (2, am_iv x2)], [], am_SH, (J, K, am_RF b))) from rfl) (am_g1 g13 rfl) (decide_eq_true c14) ?_
    obtain rfl := Option.some.inj h
    exact am_r_ret (show am_stepn X T_River_isOpen 2 true (20, [(0, am_pv 32), (1, am_iv x1), (2, am_iv x2)], [], am_SH, (J, K, am_RF b)) = some ((decide ((0 : Int) = 0 ∨ (0 : Int) = 1) && true), .inr (.inr (some (am_iv 0), am_SH, (J, K, am_RF b)))) from rfl) (am_g1 (by decide) rfl)
  · rw [if_neg c14] at h
    refine am_r_f (show am_stepn X T_River_isOpen 2 true (0, [(0, am_pv 32), (1, am_iv x1), (2, am_iv x2)], [], am_SH, (J, K, am_RF b)) = some ((decide (am_i32 x1) && true), .inl (bif am_cb .lt x1 0 then 20 else 4, [(0, am_pv 32), (1, am_iv x1), (2, am_iv x2)], [], am_SH, (J, K, am_RF b))) from rfl) (am_g1 g13 rfl) (decide_eq_false c14) ?_
    by_cases c15 : x1 < 8
    · rw [if_pos c15] at h
      refine am_r_f (show am_stepn X T_River_isOpen 3 true (4, [(0, am_pv 32), (1, am_iv x1), (2, am_iv x2)], [], am_SH, (J, K, am_RF b)) = some (((decide (am_i32 8) && decide (am_i32 x1)) && true), .inl (bif am_cb .ge x1 8 then 20 else 10, [(0, am_pv 32), (1, am_iv x1), (2, am_iv x2)], [], am_SH, (J, K, am_RF b))) from rfl) (am_g2 (by decide) g13 rfl) (am_nd_t c15) ?_
      obtain ⟨g16, h⟩ := am_if_some h
      by_cases c17 : x1 < (J (32 + 1) 0)
      · rw [if_pos c17] at h
        refine am_r_t (show am_stepn X T_River_isOpen 6 true (10, [(0, am_pv 32), (1, am_iv x1), (2, am_iv x2)], [], am_SH, (J, K, am_RF b)) = some (((decide (am_i32 (J (32 + 1) 0)) && decide (am_i32 x1)) && (am_in 0 7 && true)), .inl (bif am_cb .lt x1 (J (32 + 1) 0) then 22 else 20, [(0, am_pv 32), (1, am_iv x1), (2, am_iv x2)], [], am_SH, (J, K, am_RF b))) from rfl) (am_g2 g16 g13 (am_gi (by decide) rfl)) (decide_eq_true c17) ?_
        obtain ⟨g18, h⟩ := am_if_some h
        obtain ⟨g19, h⟩ := am_if_some h
        obtain ⟨g20, h⟩ := am_if_some h
        by_cases c21 : x2 < (J (32 + 4) x1.toNat)
        · rw [if_pos c21] at h
          refine am_r_t (show am_stepn X T_River_isOpen 6 true (22, [(0, am_pv 32), (1, am_iv x1), (2, am_iv x2)], [], am_SH, (J, K, am_RF b)) = some (((decide (am_i32 (J (32 + 4) x1.toNat)) && decide (am_i32 x2)) && (am_in x1 8 && true)), .inl (bif am_cb .lt x2 (J (32 + 4) x1.toNat) then 56 else 32, [(0, am_pv 32), (1, am_iv x1), (2, am_iv x2)], [], am_SH, (J, K, am_RF b))) from rfl) (am_g2 g19 g20 (am_gi g18 rfl)) (decide_eq_true c21) ?_
          obtain rfl := Option.some.inj h
          exact am_r_ret (show am_stepn X T_River_isOpen 2 true (56, [(0, am_pv 32), (1, am_iv x1), (2, am_iv x2)], [], am_SH, (J, K, am_RF b)) = some ((decide ((0 : Int) = 0 ∨ (0 : Int) = 1) && true), .inr (.inr (some (am_iv 0), am_SH, (J, K, am_RF b)))) from rfl) (am_g1 (by decide) rfl)
        · rw [if_neg c21] at h
          refine am_r_f (show am_stepn X T_River_isOpen 6 true (22, [(0, am_pv 32), (1, am_iv x1), (2, am_iv x2)], [], am_SH, (J, K, am_RF b)) = some (((decide (am_i32 (J (32 + 4) x1.toNat)) && decide (am_i32 x2)) && (am_in x1 8 && true)), .inl (bif am_cb .lt x2 (J (32 + 4) x1.toNat) then 56 else 32, [(0, am_pv 32), (1, am_iv x1), (2, am_iv x2)], [], am_SH, (J, K, am_RF b))) from rfl) (am_g2 g19 g20 (am_gi g18 rfl)) (decide_eq_false c21) ?_
          obtain ⟨g22, h⟩ := am_if_some h
          by_cases c23 : (J (32 + 5) x1.toNat) < x2
          · rw [if_pos c23] at h
            refine am_r_t (show am_stepn X T_River_isOpen 6 true (32, [(0, am_pv 32), (1, am_iv x1), (2, am_iv x2)], [], am_SH, (J, K, am_RF b)) = some (((decide (am_i32 (J (32 + 5) x1.toNat)) && decide (am_i32 x2)) && (am_in x1 8 && true)), .inl (bif am_cb .gt x2 (J (32 + 5) x1.toNat) then 56 else 42, [(0, am_pv 32), (1, am_iv x1), (2, am_iv x2)], [], am_SH, (J, K, am_RF b))) from rfl) (am_g2 g22 g20 (am_gi g18 rfl)) (decide_eq_true c23) ?_
            obtain rfl := Option.some.inj h
            exact am_r_ret (show am_stepn X T_River_isOpen 2 true (56, [(0, am_pv 32), (1, am_iv x1), (2, am_iv x2)], [], am_SH, (J, K, am_RF b)) = some ((decide ((0 : Int) = 0 ∨ (0 : Int) = 1) && true), .inr (.inr (some (am_iv 0), am_SH, (J, K, am_RF b)))) from rfl) (am_g1 (by decide) rfl)
          · rw [if_neg c23] at h
            refine am_r_f (show am_stepn X T_River_isOpen 6 true (32, [(0, am_pv 32), (1, am_iv x1), (2, am_iv x2)], [], am_SH, (J, K, am_RF b)) = some (((decide (am_i32 (J (32 + 5) x1.toNat)) && decide (am_i32 x2)) && (am_in x1 8 && true)), .inl (bif am_cb .gt x2 (J (32 + 5) x1.toNat) then 56 else 42, [(0, am_pv 32), (1, am_iv x1), (2, am_iv x2)], [], am_SH, (J, K, am_RF b))) from rfl) (am_g2 g22 g20 (am_gi g18 rfl)) (decide_eq_false c23) ?_
            by_cases c24 : x2 < 0
            · rw [if_pos c24] at h
              refine am_r_t (show am_stepn X T_River_isOpen 2 true (42, [(0, am_pv 32), (1, am_iv x1), (2, am_iv x2)], [], am_SH, (J, K, am_RF b)) = some ((decide (am_i32 x2) && true), .inl (bif am_cb .lt x2 0 then 56 else 46, [(2, am_iv x2)], [], am_SH, (J, K, am_RF b))) from rfl) (am_g1 g20 rfl) (decide_eq_true c24) ?_
              obtain rfl := Option.some.inj h
              exact am_r_ret (show am_stepn X T_River_isOpen 2 true (56, [(2, am_iv x2)], [], am_SH, (J, K, am_RF b)) = some ((decide ((0 : Int) = 0 ∨ (0 : Int) = 1) && true), .inr (.inr (some (am_iv 0), am_SH, (J, K, am_RF b)))) from rfl) (am_g1 (by decide) rfl)
            · rw [if_neg c24] at h
              refine am_r_f (show am_stepn X T_River_isOpen 2 true (42, [(0, am_pv 32), (1, am_iv x1), (2, am_iv x2)], [], am_SH, (J, K, am_RF b)) = some ((decide (am_i32 x2) && true), .inl (bif am_cb .lt x2 0 then 56 else 46, [(2, am_iv x2)], [], am_SH, (J, K, am_RF b))) from rfl) (am_g1 g20 rfl) (decide_eq_false c24) ?_
              by_cases c25 : x2 < 9
              · rw [if_pos c25] at h
                refine am_r_f (show am_stepn X T_River_isOpen 3 true (46, [(2, am_iv x2)], [], am_SH, (J, K, am_RF b)) = some (((decide (am_i32 9) && decide (am_i32 x2)) && true), .inl (bif am_cb .ge x2 9 then 56 else 52, [(2, am_iv x2)], [], am_SH, (J, K, am_RF b))) from rfl) (am_g2 (by decide) g20 rfl) (am_nd_t c25) ?_
                obtain rfl := Option.some.inj h
                exact am_r_ret (show am_stepn X T_River_isOpen 3 true (52, [(2, am_iv x2)], [], am_SH, (J, K, am_RF b)) = some ((decide ((1 : Int) = 0 ∨ (1 : Int) = 1) && true), .inr (.inr (some (am_iv 1), am_SH, (J, K, am_RF b)))) from rfl) (am_g1 (by decide) rfl)
              · rw [if_neg c25] at h
                refine am_r_t (show am_stepn X T_River_isOpen 3 true (46, [(2, am_iv x2)], [], am_SH, (J, K, am_RF b)) = some (((decide (am_i32 9) && decide (am_i32 x2)) && true), .inl (bif am_cb .ge x2 9 then 56 else 52, [(2, am_iv x2)], [], am_SH, (J, K, am_RF b))) from rfl) (am_g2 (by decide) g20 rfl) (am_nd_f c25) ?_
                obtain rfl := Option.some.inj h
                exact am_r_ret (show am_stepn X T_River_isOpen 2 true (56, [(2, am_iv x2)], [], am_SH, (J, K, am_RF b)) = some ((decide ((0 : Int) = 0 ∨ (0 : Int) = 1) && true), .inr (.inr (some (am_iv 0), am_SH, (J, K, am_RF b)))) from rfl) (am_g1 (by decide) rfl)
      · rw [if_neg c17] at h
        refine am_r_f (show am_stepn X T_River_isOpen 6 true (10, [(0, am_pv 32), (1, am_iv x1), (2, am_iv x2)], [], am_SH, (J, K, am_RF b)) = some (((decide (am_i32 (J (32 + 1) 0)) && decide (am_i32 x1)) && (am_in 0 7 && true)), .inl (bif am_cb .lt x1 (J (32 + 1) 0) then 22 else 20, [(0, am_pv 32), (1, am_iv x1), (2, am_iv x2)], [], am_SH, (J, K, am_RF b))) from rfl) (am_g2 g16 g13 (am_gi (by decide) rfl)) (decide_eq_false c17) ?_
        obtain rfl := Option.some.inj h
        exact am_r_ret (show am_stepn X T_River_isOpen 2 true (20, [(0, am_pv 32), (1, am_iv x1), (2, am_iv x2)], [], am_SH, (J, K, am_RF b)) = some ((decide ((0 : Int) = 0 ∨ (0 : Int) = 1) && true), .inr (.inr (some (am_iv 0), am_SH, (J, K, am_RF b)))) from rfl) (am_g1 (by decide) rfl)
    · rw [if_neg c15] at h
      refine am_r_t (show am_stepn X T_River_isOpen 3 true (4, [(0, am_pv 32), (1, am_iv x1), (2, am_iv x2)], [], am_SH, (J, K, am_RF b)) = some (((decide (am_i32 8) && decide (am_i32 x1)) && true), .inl (bif am_cb .ge x1 8 then 20 else 10, [(0, am_pv 32), (1, am_iv x1), (2, am_iv x2)], [], am_SH, (J, K, am_RF b))) from rfl) (am_g2 (by decide) g13 rfl) (am_nd_f c15) ?_
      obtain rfl := Option.some.inj h
      exact am_r_ret (show am_stepn X T_River_isOpen 2 true (20, [(0, am_pv 32), (1, am_iv x1), (2, am_iv x2)], [], am_SH, (J, K, am_RF b)) = some ((decide ((0 : Int) = 0 ∨ (0 : Int) = 1) && true), .inr (.inr (some (am_iv 0), am_SH, (J, K, am_RF b)))) from rfl) (am_g1 (by decide) rfl)
theorem s_River_isOpen_6_ {X : am_X} {b : Bool} {J : am_J} {K : am_K} {x1 : Int} {x2 : Int} {r : Int} (h : f_River_isOpen 6 J x1 x2 = some r) : am_runs X T_River_isOpen (0, [(0, am_pv 6), (1, am_iv x1), (2, am_iv x2)], [], am_SH, (J, K, am_RF b)) (some (am_iv r), am_SH, (J, K, am_RF b)) := by
  unfold f_River_isOpen at h
  obtain ⟨g13, h⟩ := am_if_some h
  by_cases c14 : x1 < 0
  · rw [if_pos c14] at h
    refine am_r_t (show am_stepn X T_River_isOpen 2 true (0, [(0, am_pv 6), (1, am_iv x1), (2, am_iv x2)], [], am_SH, (J, K, am_RF b)) = some ((decide (am_i32 x1) && true), .inl (bif am_cb .lt x1 0 then 20 else 4, [(0, am_pv 6), (1, am_iv x1), (2, am_iv x2)], [], am_SH, (J, K, am_RF b))) from rfl) (am_g1 g13 rfl) (decide_eq_true c14) ?_
    obtain rfl := Option.some.inj h
    exact am_r_ret (show am_stepn X T_River_isOpen 2 true (20, [(0, am_pv 6), (1, am_iv x1), (2, am_iv x2)], [], am_SH, (J, K, am_RF b)) = some ((decide ((0 : Int) = 0 ∨ (0 : Int) = 1) && true), .inr (.inr (some (am_iv 0), am_SH, (J, K, am_RF b)))) from rfl) (am_g1 (by decide) rfl)
  · rw [if_neg c14] at h
    refine am_r_f (show am_stepn X T_River_isOpen 2 true (0, [(0, am_pv 6), (1, am_iv x1), (2, am_iv x2)], [], am_SH, (J, K, am_RF b)) = some ((decide (am_i32 x1) && true), .inl (bif am_cb .lt x1 0 then 20 else 4, [(0, am_pv 6), (1, am_iv x1), (2, am_iv x2)], [], am_SH, (J, K, am_RF b))) from rfl) (am_g1 g13 rfl) (decide_eq_false c14) ?_
    by_cases c15 : x1 < 8
    · rw [if_pos c15] at h
      refine am_r_f (show am_stepn X T_River_isOpen 3 true (4, [(0, am_pv 6), (1, am_iv x1), (2, am_iv x2)], [], am_SH, (J, K, am_RF b)) = some (((decide (am_i32 8) && decide (am_i32 x1)) && true), .inl (bif am_cb .ge x1 8 then 20 else 10, [(0, am_pv 6), (1, am_iv x1), (2, am_iv x2)], [], am_SH, (J, K, am_RF b))) from rfl) (am_g2 (by decide) g13 rfl) (am_nd_t c15) ?_
      obtain ⟨g16, h⟩ := am_if_some h
      by_cases c17 : x1 < (J (6 + 1) 0)
      · rw [if_pos c17] at h
        refine am_r_t (show am_stepn X T_River_isOpen 6 true (10, [(0, am_pv 6), (1, am_iv x1), (2, am_iv x2)], [], am_SH, (J, K, am_RF b)) = some (((decide (am_i32 (J (6 + 1) 0)) && decide (am_i32 x1)) && (am_in 0 7 && true)), .inl (bif am_cb .lt x1 (J (6 + 1) 0) then 22 else 20, [(0, am_pv 6), (1, am_iv x1), (2, am_iv x2)], [], am_SH, (J, K, am_RF b))) from rfl) (am_g2 g16 g13 (am_gi (by decide) rfl)) (decide_eq_true c17) ?_
        obtain ⟨g18, h⟩ := am_if_some h
        obtain ⟨g19, h⟩ := am_if_some h
        obtain ⟨g20, h⟩ := am_if_some h
        by_cases c21 : x2 < (J (6 + 4) x1.toNat)
        · rw [if_pos c21] at h
          refine am_r_t (show am_stepn X T_River_isOpen 6 true (22, [(0, am_pv 6), (1, am_iv x1), (2, am_iv x2)], [], am_SH, (J, K, am_RF b)) = some (((decide (am_i32 (J (6 + 4) x1.toNat)) && decide (am_i32 x2)) && (am_in x1 8 && true)), .inl (bif am_cb .lt x2 (J (6 + 4) x1.toNat) then 56 else 32, [(0, am_pv 6), (1, am_iv x1), (2, am_iv x2)], [], am_SH, (J, K, am_RF b))) from rfl) (am_g2 g19 g20 (am_gi g18 rfl)) (decide_eq_true c21) ?_
          obtain rfl := Option.some.inj h
          exact am_r_ret (show am_stepn X T_River_isOpen 2 true (56, [(0, am_pv 6), (1, am_iv x1), (2, am_iv x2)], [], am_SH, (J, K, am_RF b)) = some ((decide ((0 : Int) = 0 ∨ (0 : Int) = 1) && true), .inr (.inr (some (am_iv 0), am_SH, (J, K, am_RF b)))) from rfl) (am_g1 (by decide) rfl)
        · rw [if_neg c21] at h
          refine am_r_f (show am_stepn X T_River_isOpen 6 true (22, [(0, am_pv 6), (1, am_iv x1), (2, am_iv x2)], [], am_SH, (J, K, am_RF b)) = some (((decide (am_i32 (J (6 + 4) x1.toNat)) && decide (am_i32 x2)) && (am_in x1 8 && true)), .inl (bif am_cb .lt x2 (J (6 + 4) x1.toNat) then 56 else 32, [(0, am_pv 6), (1, am_iv x1), (2, am_iv x2)], [], am_SH, (J, K, am_RF b))) from rfl) (am_g2 g19 g20 (am_gi g18 rfl)) (decide_eq_false c21) ?_
          obtain ⟨g22, h⟩ := am_if_some h
          by_cases c23 : (J (6 + 5) x1.toNat) < x2
          · rw [if_pos c23] at h
            refine am_r_t (show am_stepn X T_River_isOpen 6 true (32, [(0, am_pv 6), (1, am_iv x1), (2, am_iv x2)], [], am_SH, (J, K, am_RF b)) = some (((decide (am_i32 (J (6 + 5) x1.toNat)) && decide (am_i32 x2)) && (am_in x1 8 && true)), .inl (bif am_cb .gt x2 (J (6 + 5) x1.toNat) then 56 else 42, [(0, am_pv 6), (1, am_iv x1), (2, am_iv x2)], [], am_SH, (J, K, am_RF b))) from rfl) (am_g2 g22 g20 (am_gi g18 rfl)) (decide_eq_true c23) ?_
            obtain rfl := Option.some.inj h
            exact am_r_ret (show am_stepn X T_River_isOpen 2 true (56, [(0, am_pv 6), (1, am_iv x1), (2, am_iv x2)], [], am_SH, (J, K, am_RF b)) = some ((decide ((0 : Int) = 0 ∨ (0 : Int) = 1) && true), .inr (.inr (some (am_iv 0), am_SH, (J, K, am_RF b)))) from rfl) (am_g1 (by decide) rfl)
          · rw [if_neg c23] at h
            refine am_r_f (show am_stepn X T_River_isOpen 6 true (32, [(0, am_pv 6), (1, am_iv x1), (2, am_iv x2)], [], am_SH, (J, K, am_RF b)) = some (((decide (am_i32 (J (6 + 5) x1.toNat)) && decide (am_i32 x2)) && (am_in x1 8 && true)), .inl (bif am_cb .gt x2 (J (6 + 5) x1.toNat) then 56 else 42, [(0, am_pv 6), (1, am_iv x1), (2, am_iv x2)], [], am_SH, (J, K, am_RF b))) from rfl) (am_g2 g22 g20 (am_gi g18 rfl)) (decide_eq_false c23) ?_
            by_cases c24 : x2 < 0
            · rw [if_pos c24] at h
              refine am_r_t (show am_stepn X T_River_isOpen 2 true (42, [(0, am_pv 6), (1, am_iv x1), (2, am_iv x2)], [], am_SH, (J, K, am_RF b)) = some ((decide (am_i32 x2) && true), .inl (bif am_cb .lt x2 0 then 56 else 46, [(2, am_iv x2)], [], am_SH, (J, K, am_RF b))) from rfl) (am_g1 g20 rfl) (decide_eq_true c24) ?_
              obtain rfl := Option.some.inj h
              exact am_r_ret (show am_stepn X T_River_isOpen 2 true (56, [(2, am_iv x2)], [], am_SH, (J, K, am_RF b)) = some ((decide ((0 : Int) = 0 ∨ (0 : Int) = 1) && true), .inr (.inr (some (am_iv 0), am_SH, (J, K, am_RF b)))) from rfl) (am_g1 (by decide) rfl)
            · rw [if_neg c24] at h
              refine am_r_f (show am_stepn X T_River_isOpen 2 true (42, [(0, am_pv 6), (1, am_iv x1), (2, am_iv x2)], [], am_SH, (J, K, am_RF b)) = some ((decide (am_i32 x2) && true), .inl (bif am_cb .lt x2 0 then 56 else 46, [(2, am_iv x2)], [], am_SH, (J, K, am_RF b))) from rfl) (am_g1 g20 rfl) (decide_eq_false c24) ?_
              by_cases c25 : x2 < 9
              · rw [if_pos c25] at h
                refine am_r_f (show am_stepn X T_River_isOpen 3 true (46, [(2, am_iv x2)], [], am_SH, (J, K, am_RF b)) = some (((decide (am_i32 9) && decide (am_i32 x2)) && true), .inl (bif am_cb .ge x2 9 then 56 else 52, [(2, am_iv x2)], [], am_SH, (J, K, am_RF b))) from rfl) (am_g2 (by decide) g20 rfl) (am_nd_t c25) ?_
                obtain rfl := Option.some.inj h
                exact am_r_ret (show am_stepn X T_River_isOpen 3 true (52, [(2, am_iv x2)], [], am_SH, (J, K, am_RF b)) = some ((decide ((1 : Int) = 0 ∨ (1 : Int) = 1) && true), .inr (.inr (some (am_iv 1), am_SH, (J, K, am_RF b)))) from rfl) (am_g1 (by decide) rfl)
              · rw [if_neg c25] at h
                refine am_r_t (show am_stepn X T_River_isOpen 3 true (46, [(2, am_iv x2)], [], am_SH, (J, K, am_RF b)) = some (((decide (am_i32 9) && decide (am_i32 x2)) && true), .inl (bif am_cb .ge x2 9 then 56 else 52, [(2, am_iv x2)], [], am_SH, (J, K, am_RF b))) from rfl) (am_g2 (by decide) g20 rfl) (am_nd_f c25) ?_
                obtain rfl := Option.some.inj h
                exact am_r_ret (show am_stepn X T_River_isOpen 2 true (56, [(2, am_iv x2)], [], am_SH, (J, K, am_RF b)) = some ((decide ((0 : Int) = 0 ∨ (0 : Int) = 1) && true), .inr (.inr (some (am_iv 0), am_SH, (J, K, am_RF b)))) from rfl) (am_g1 (by decide) rfl)
      · rw [if_neg c17] at h
        refine am_r_f (show am_stepn X T_River_isOpen 6 true (10, [(0, am_pv 6), (1, am_iv x1), (2, am_iv x2)], [], am_SH, (J, K, am_RF b)) = some (((decide (am_i32 (J (6 + 1) 0)) && decide (am_i32 x1)) && (am_in 0 7 && true)), .inl (bif am_cb .lt x1 (J (6 + 1) 0) then 22 else 20, [(0, am_pv 6), (1, am_iv x1), (2, am_iv x2)], [], am_SH, (J, K, am_RF b))) from rfl) (am_g2 g16 g13 (am_gi (by decide) rfl)) (decide_eq_false c17) ?_
        obtain rfl := Option.some.inj h
        exact am_r_ret (show am_stepn X T_River_isOpen 2 true (20, [(0, am_pv 6), (1, am_iv x1), (2, am_iv x2)], [], am_SH, (J, K, am_RF b)) = some ((decide ((0 : Int) = 0 ∨ (0 : Int) = 1) && true), .inr (.inr (some (am_iv 0), am_SH, (J, K, am_RF b)))) from rfl) (am_g1 (by decide) rfl)
    · rw [if_neg c15] at h
      refine am_r_t (show am_stepn X T_River_isOpen 3 true (4, [(0, am_pv 6), (1, am_iv x1), (2, am_iv x2)], [], am_SH, (J, K, am_RF b)) = some (((decide (am_i32 8) && decide (am_i32 x1)) && true), .inl (bif am_cb .ge x1 8 then 20 else 10, [(0, am_pv 6), (1, am_iv x1), (2, am_iv x2)], [], am_SH, (J, K, am_RF b))) from rfl) (am_g2 (by decide) g13 rfl) (am_nd_f c15) ?_
      obtain rfl := Option.some.inj h
      exact am_r_ret (show am_stepn X T_River_isOpen 2 true (20, [(0, am_pv 6), (1, am_iv x1), (2, am_iv x2)], [], am_SH, (J, K, am_RF b)) = some ((decide ((0 : Int) = 0 ∨ (0 : Int) = 1) && true), .inr (.inr (some (am_iv 0), am_SH, (J, K, am_RF b)))) from rfl) (am_g1 (by decide) rfl)
theorem s_River_isOpen {X : am_X} {b : Bool} {o1 : Nat} (ho : o1 = 32 ∨ o1 = 6) {J : am_J} {K : am_K} {x1 : Int} {x2 : Int} {r : Int} (h : f_River_isOpen o1 J x1 x2 = some r) : am_runs X T_River_isOpen (0, [(0, am_pv o1), (1, am_iv x1), (2, am_iv x2)], [], am_SH, (J, K, am_RF b)) (some (am_iv r), am_SH, (J, K, am_RF b)) := by
  rcases ho with rfl | rfl
  · skip
    exact s_River_isOpen_32_ h
  · skip
    exact s_River_isOpen_6_ h
theorem s_River_bitsAfloat_L5_32_ {X : am_X} {b : Bool} {J : am_J} {K : am_K}  : ∀ (n : Nat) (x1 : Int) (x2 : Int) (y3 : Int64) (x5 : Int) (r : Int64), f_River_bitsAfloat_L5 32 J  n x1 x2 y3 x5 = some r → am_runs X T_River_bitsAfloat (5, [(0, am_pv 32), (1, am_iv x1), (2, am_iv x2), (3, am_jv y3), (5, am_iv x5)], [], am_SH, (J, K, am_RF b)) (some (am_jv r), am_SH, (J, K, am_RF b)) := by
  intro n
  induction n with
  | zero =>
    intro x1 x2 y3 x5 r h
    cases h
  | succ n ih =>
    intro x1 x2 y3 x5 r h
    rw [f_River_bitsAfloat_L5.eq_2] at h
    obtain ⟨g26, h⟩ := am_if_some h
    by_cases c27 : x5 < 8
    · rw [if_pos c27] at h
      refine am_r_f (show am_stepn X T_River_bitsAfloat 3 true (5, [(0, am_pv 32), (1, am_iv x1), (2, am_iv x2), (3, am_jv y3), (5, am_iv x5)], [], am_SH, (J, K, am_RF b)) = some (((decide (am_i32 8) && decide (am_i32 x5)) && true), .inl (bif am_cb .ge x5 8 then 63 else 12, [(0, am_pv 32), (1, am_iv x1), (2, am_iv x2), (3, am_jv y3), (5, am_iv x5)], [], am_SH, (J, K, am_RF b))) from rfl) (am_g2 (by decide) g26 rfl) (am_nd_t c27) ?_
      obtain ⟨q28, e29, h⟩ := am_bind_some h
      refine am_r_call (show am_stepn X T_River_bitsAfloat 4 true (12, [(0, am_pv 32), (1, am_iv x1), (2, am_iv x2), (3, am_jv y3), (5, am_iv x5)], [], am_SH, (J, K, am_RF b)) = some (true, .inr (.inl (7, [am_pv 32, am_iv x5, am_iv x2], 3, 0, 0, 19, [(0, am_pv 32), (1, am_iv x1), (2, am_iv x2), (3, am_jv y3), (5, am_iv x5)], [], am_SH, (J, K, am_RF b)))) from rfl) rfl tb_River_isOpen (s_River_isOpen (by decide) e29) ?_
      obtain ⟨g30, h⟩ := am_if_some h
      by_cases c31 : q28 = 0
      · rw [if_pos c31] at h
        refine am_r_t (show am_stepn X T_River_bitsAfloat 1 true (19, [(0, am_pv 32), (1, am_iv x1), (2, am_iv x2), (3, am_jv y3), (5, am_iv x5)], [am_iv q28], am_SH, (J, K, am_RF b)) = some ((decide (am_i32 q28) && true), .inl (bif am_cb .eq q28 0 then 57 else 22, [(0, am_pv 32), (1, am_iv x1), (2, am_iv x2), (3, am_jv y3), (5, am_iv x5)], [], am_SH, (J, K, am_RF b))) from rfl) (am_g1 g30 rfl) (decide_eq_true c31) ?_
        refine am_r_go (show am_stepn X T_River_bitsAfloat 2 true (57, [(0, am_pv 32), (1, am_iv x1), (2, am_iv x2), (3, am_jv y3), (5, am_iv x5)], [], am_SH, (J, K, am_RF b)) = some (true, .inl (5, [(0, am_pv 32), (1, am_iv x1), (2, am_iv x2), (3, am_jv y3), (5, am_iv (x5 + 1))], [], am_SH, (J, K, am_RF b))) from rfl) rfl ?_
        exact ih _ _ _ _ _ h
      · rw [if_neg c31] at h
        refine am_r_f (show am_stepn X T_River_bitsAfloat 1 true (19, [(0, am_pv 32), (1, am_iv x1), (2, am_iv x2), (3, am_jv y3), (5, am_iv x5)], [am_iv q28], am_SH, (J, K, am_RF b)) = some ((decide (am_i32 q28) && true), .inl (bif am_cb .eq q28 0 then 57 else 22, [(0, am_pv 32), (1, am_iv x1), (2, am_iv x2), (3, am_jv y3), (5, am_iv x5)], [], am_SH, (J, K, am_RF b))) from rfl) (am_g1 g30 rfl) (decide_eq_false c31) ?_
        obtain ⟨g32, h⟩ := am_if_some h
        obtain ⟨g33, h⟩ := am_if_some h
        obtain ⟨g34, h⟩ := am_if_some h
        by_cases c35 : ((J (32 + 8) (((x5 * 9) + x2).toNat)) + x1) < (J (32 + 1) 2)
        · rw [if_pos c35] at h
          refine am_r_t (show am_stepn X T_River_bitsAfloat 15 true (22, [(0, am_pv 32), (1, am_iv x1), (2, am_iv x2), (3, am_jv y3), (5, am_iv x5)], [], am_SH, (J, K, am_RF b)) = some (((decide (am_i32 (J (32 + 1) 2)) && decide (am_i32 ((J (32 + 8) (((x5 * 9) + x2).toNat)) + x1))) && (am_in 2 7 && (am_in ((x5 * 9) + x2) 72 && true))), .inl (bif am_cb .lt ((J (32 + 8) (((x5 * 9) + x2).toNat)) + x1) (J (32 + 1) 2) then 57 else 45, [(0, am_pv 32), (1, am_iv x1), (2, am_iv x2), (3, am_jv y3), (5, am_iv x5)], [], am_SH, (J, K, am_RF b))) from rfl) (am_g2 g33 g34 (am_gi (by decide) (am_gi g32 rfl))) (decide_eq_true c35) ?_
          refine am_r_go (show am_stepn X T_River_bitsAfloat 2 true (57, [(0, am_pv 32), (1, am_iv x1), (2, am_iv x2), (3, am_jv y3), (5, am_iv x5)], [], am_SH, (J, K, am_RF b)) = some (true, .inl (5, [(0, am_pv 32), (1, am_iv x1), (2, am_iv x2), (3, am_jv y3), (5, am_iv (x5 + 1))], [], am_SH, (J, K, am_RF b))) from rfl) rfl ?_
          exact ih _ _ _ _ _ h
        · rw [if_neg c35] at h
          refine am_r_f (show am_stepn X T_River_bitsAfloat 15 true (22, [(0, am_pv 32), (1, am_iv x1), (2, am_iv x2), (3, am_jv y3), (5, am_iv x5)], [], am_SH, (J, K, am_RF b)) = some (((decide (am_i32 (J (32 + 1) 2)) && decide (am_i32 ((J (32 + 8) (((x5 * 9) + x2).toNat)) + x1))) && (am_in 2 7 && (am_in ((x5 * 9) + x2) 72 && true))), .inl (bif am_cb .lt ((J (32 + 8) (((x5 * 9) + x2).toNat)) + x1) (J (32 + 1) 2) then 57 else 45, [(0, am_pv 32), (1, am_iv x1), (2, am_iv x2), (3, am_jv y3), (5, am_iv x5)], [], am_SH, (J, K, am_RF b))) from rfl) (am_g2 g33 g34 (am_gi (by decide) (am_gi g32 rfl))) (decide_eq_false c35) ?_
          refine am_r_go (show am_stepn X T_River_bitsAfloat 10 true (45, [(0, am_pv 32), (1, am_iv x1), (2, am_iv x2), (3, am_jv y3), (5, am_iv x5)], [], am_SH, (J, K, am_RF b)) = some (true, .inl (5, [(0, am_pv 32), (1, am_iv x1), (2, am_iv x2), (3, am_jv (y3 ||| (am_lshl (255 : Int64) (x5 * 8)))), (5, am_iv (x5 + 1))], [], am_SH, (J, K, am_RF b))) from rfl) rfl ?_
          exact ih _ _ _ _ _ h
    · rw [if_neg c27] at h
      refine am_r_t (show am_stepn X T_River_bitsAfloat 3 true (5, [(0, am_pv 32), (1, am_iv x1), (2, am_iv x2), (3, am_jv y3), (5, am_iv x5)], [], am_SH, (J, K, am_RF b)) = some (((decide (am_i32 8) && decide (am_i32 x5)) && true), .inl (bif am_cb .ge x5 8 then 63 else 12, [(0, am_pv 32), (1, am_iv x1), (2, am_iv x2), (3, am_jv y3), (5, am_iv x5)], [], am_SH, (J, K, am_RF b))) from rfl) (am_g2 (by decide) g26 rfl) (am_nd_f c27) ?_
      obtain rfl := Option.some.inj h
      exact am_r_ret (show am_stepn X T_River_bitsAfloat 2 true (63, [(0, am_pv 32), (1, am_iv x1), (2, am_iv x2), (3, am_jv y3), (5, am_iv x5)], [], am_SH, (J, K, am_RF b)) = some (true, .inr (.inr (some (am_jv y3), am_SH, (J, K, am_RF b)))) from rfl) rfl
theorem s_River_bitsAfloat_32_ {X : am_X} {b : Bool} {J : am_J} {K : am_K} {x1 : Int} {x2 : Int} {r : Int64} (h : f_River_bitsAfloat 32 J x1 x2 = some r) : am_runs X T_River_bitsAfloat (0, [(0, am_pv 32), (1, am_iv x1), (2, am_iv x2)], [], am_SH, (J, K, am_RF b)) (some (am_jv r), am_SH, (J, K, am_RF b)) := by
  unfold f_River_bitsAfloat at h
  refine am_r_go (show am_stepn X T_River_bitsAfloat 4 true (0, [(0, am_pv 32), (1, am_iv x1), (2, am_iv x2)], [], am_SH, (J, K, am_RF b)) = some (true, .inl (5, [(0, am_pv 32), (1, am_iv x1), (2, am_iv x2), (3, am_jv (0 : Int64)), (5, am_iv 0)], [], am_SH, (J, K, am_RF b))) from rfl) rfl ?_
  exact s_River_bitsAfloat_L5_32_  _ _ _ _ _ _ h
theorem s_River_bitsAfloat_L5_6_ {X : am_X} {b : Bool} {J : am_J} {K : am_K}  : ∀ (n : Nat) (x1 : Int) (x2 : Int) (y3 : Int64) (x5 : Int) (r : Int64), f_River_bitsAfloat_L5 6 J  n x1 x2 y3 x5 = some r → am_runs X T_River_bitsAfloat (5, [(0, am_pv 6), (1, am_iv x1), (2, am_iv x2), (3, am_jv y3), (5, am_iv x5)], [], am_SH, (J, K, am_RF b)) (some (am_jv r), am_SH, (J, K, am_RF b)) := by
  intro n
  induction n with
  | zero =>
    intro x1 x2 y3 x5 r h
    cases h
  | succ n ih =>
    intro x1 x2 y3 x5 r h
    rw [f_River_bitsAfloat_L5.eq_2] at h
    obtain ⟨g26, h⟩ := am_if_some h
    by_cases c27 : x5 < 8
    · rw [if_pos c27] at h
      refine am_r_f (show am_stepn X T_River_bitsAfloat 3 true (5, [(0, am_pv 6), (1, am_iv x1), (2, am_iv x2), (3, am_jv y3), (5, am_iv x5)], [], am_SH, (J, K, am_RF b)) = some (((decide (am_i32 8) && decide (am_i32 x5)) && true), .inl (bif am_cb .ge x5 8 then 63 else 12, [(0, am_pv 6), (1, am_iv x1), (2, am_iv x2), (3, am_jv y3), (5, am_iv x5)], [], am_SH, (J, K, am_RF b))) from rfl) (am_g2 (by decide) g26 rfl) (am_nd_t c27) ?_
      obtain ⟨q28, e29, h⟩ := am_bind_some h
      refine am_r_call (show am_stepn X T_River_bitsAfloat 4 true (12, [(0, am_pv 6), (1, am_iv x1), (2, am_iv x2), (3, am_jv y3), (5, am_iv x5)], [], am_SH, (J, K, am_RF b)) = some (true, .inr (.inl (7, [am_pv 6, am_iv x5, am_iv x2], 3, 0, 0, 19, [(0, am_pv 6), (1, am_iv x1), (2, am_iv x2), (3, am_jv y3), (5, am_iv x5)], [], am_SH, (J, K, am_RF b)))) from rfl) rfl tb_River_isOpen (s_River_isOpen (by decide) e29) ?_
      obtain ⟨g30, h⟩ := am_if_some h
      by_cases c31 : q28 = 0
      · rw [if_pos c31] at h
        refine am_r_t (show am_stepn X T_River_bitsAfloat 1 true (19, [(0, am_pv 6), (1, am_iv x1), (2, am_iv x2), (3, am_jv y3), (5, am_iv x5)], [am_iv q28], am_SH, (J, K, am_RF b)) = some ((decide (am_i32 q28) && true), .inl (bif am_cb .eq q28 0 then 57 else 22, [(0, am_pv 6), (1, am_iv x1), (2, am_iv x2), (3, am_jv y3), (5, am_iv x5)], [], am_SH, (J, K, am_RF b))) from rfl) (am_g1 g30 rfl) (decide_eq_true c31) ?_
        refine am_r_go (show am_stepn X T_River_bitsAfloat 2 true (57, [(0, am_pv 6), (1, am_iv x1), (2, am_iv x2), (3, am_jv y3), (5, am_iv x5)], [], am_SH, (J, K, am_RF b)) = some (true, .inl (5, [(0, am_pv 6), (1, am_iv x1), (2, am_iv x2), (3, am_jv y3), (5, am_iv (x5 + 1))], [], am_SH, (J, K, am_RF b))) from rfl) rfl ?_
        exact ih _ _ _ _ _ h
      · rw [if_neg c31] at h
        refine am_r_f (show am_stepn X T_River_bitsAfloat 1 true (19, [(0, am_pv 6), (1, am_iv x1), (2, am_iv x2), (3, am_jv y3), (5, am_iv x5)], [am_iv q28], am_SH, (J, K, am_RF b)) = some ((decide (am_i32 q28) && true), .inl (bif am_cb .eq q28 0 then 57 else 22, [(0, am_pv 6), (1, am_iv x1), (2, am_iv x2), (3, am_jv y3), (5, am_iv x5)], [], am_SH, (J, K, am_RF b))) from rfl) (am_g1 g30 rfl) (decide_eq_false c31) ?_
        obtain ⟨g32, h⟩ := am_if_some h
        obtain ⟨g33, h⟩ := am_if_some h
        obtain ⟨g34, h⟩ := am_if_some h
        by_cases c35 : ((J (6 + 8) (((x5 * 9) + x2).toNat)) + x1) < (J (6 + 1) 2)
        · rw [if_pos c35] at h
          refine am_r_t (show am_stepn X T_River_bitsAfloat 15 true (22, [(0, am_pv 6), (1, am_iv x1), (2, am_iv x2), (3, am_jv y3), (5, am_iv x5)], [], am_SH, (J, K, am_RF b)) = some (((decide (am_i32 (J (6 + 1) 2)) && decide (am_i32 ((J (6 + 8) (((x5 * 9) + x2).toNat)) + x1))) && (am_in 2 7 && (am_in ((x5 * 9) + x2) 72 && true))), .inl (bif am_cb .lt ((J (6 + 8) (((x5 * 9) + x2).toNat)) + x1) (J (6 + 1) 2) then 57 else 45, [(0, am_pv 6), (1, am_iv x1), (2, am_iv x2), (3, am_jv y3), (5, am_iv x5)], [], am_SH, (J, K, am_RF b))) from rfl) (am_g2 g33 g34 (am_gi (by decide) (am_gi g32 rfl))) (decide_eq_true c35) ?_
          refine am_r_go (show am_stepn X T_River_bitsAfloat 2 true (57, [(0, am_pv 6), (1, am_iv x1), (2, am_iv x2), (3, am_jv y3), (5, am_iv x5)], [], am_SH, (J, K, am_RF b)) = some (true, .inl (5, [(0, am_pv 6), (1, am_iv x1), (2, am_iv x2), (3, am_jv y3), (5, am_iv (x5 + 1))], [], am_SH, (J, K, am_RF b))) from rfl) rfl ?_
          exact ih _ _ _ _ _ h
        · rw [if_neg c35] at h
          refine am_r_f (show am_stepn X T_River_bitsAfloat 15 true (22, [(0, am_pv 6), (1, am_iv x1), (2, am_iv x2), (3, am_jv y3), (5, am_iv x5)], [], am_SH, (J, K, am_RF b)) = some (((decide (am_i32 (J (6 + 1) 2)) && decide (am_i32 ((J (6 + 8) (((x5 * 9) + x2).toNat)) + x1))) && (am_in 2 7 && (am_in ((x5 * 9) + x2) 72 && true))), .inl (bif am_cb .lt ((J (6 + 8) (((x5 * 9) + x2).toNat)) + x1) (J (6 + 1) 2) then 57 else 45, [(0, am_pv 6), (1, am_iv x1), (2, am_iv x2), (3, am_jv y3), (5, am_iv x5)], [], am_SH, (J, K, am_RF b))) from rfl) (am_g2 g33 g34 (am_gi (by decide) (am_gi g32 rfl))) (decide_eq_false c35) ?_
          refine am_r_go (show am_stepn X T_River_bitsAfloat 10 true (45, [(0, am_pv 6), (1, am_iv x1), (2, am_iv x2), (3, am_jv y3), (5, am_iv x5)], [], am_SH, (J, K, am_RF b)) = some (true, .inl (5, [(0, am_pv 6), (1, am_iv x1), (2, am_iv x2), (3, am_jv (y3 ||| (am_lshl (255 : Int64) (x5 * 8)))), (5, am_iv (x5 + 1))], [], am_SH, (J, K, am_RF b))) from rfl) rfl ?_
          exact ih _ _ _ _ _ h
    · rw [if_neg c27] at h
      refine am_r_t (show am_stepn X T_River_bitsAfloat 3 true (5, [(0, am_pv 6), (1, am_iv x1), (2, am_iv x2), (3, am_jv y3), (5, am_iv x5)], [], am_SH, (J, K, am_RF b)) = some (((decide (am_i32 8) && decide (am_i32 x5)) && true), .inl (bif am_cb .ge x5 8 then 63 else 12, [(0, am_pv 6), (1, am_iv x1), (2, am_iv x2), (3, am_jv y3), (5, am_iv x5)], [], am_SH, (J, K, am_RF b))) from rfl) (am_g2 (by decide) g26 rfl) (am_nd_f c27) ?_
      obtain rfl := Option.some.inj h
      exact am_r_ret (show am_stepn X T_River_bitsAfloat 2 true (63, [(0, am_pv 6), (1, am_iv x1), (2, am_iv x2), (3, am_jv y3), (5, am_iv x5)], [], am_SH, (J, K, am_RF b)) = some (true, .inr (.inr (some (am_jv y3), am_SH, (J, K, am_RF b)))) from rfl) rfl
theorem s_River_bitsAfloat_6_ {X : am_X} {b : Bool} {J : am_J} {K : am_K} {x1 : Int} {x2 : Int} {r : Int64} (h : f_River_bitsAfloat 6 J x1 x2 = some r) : am_runs X T_River_bitsAfloat (0, [(0, am_pv 6), (1, am_iv x1), (2, am_iv x2)], [], am_SH, (J, K, am_RF b)) (some (am_jv r), am_SH, (J, K, am_RF b)) := by
  unfold f_River_bitsAfloat at h
  refine am_r_go (show am_stepn X T_River_bitsAfloat 4 true (0, [(0, am_pv 6), (1, am_iv x1), (2, am_iv x2)], [], am_SH, (J, K, am_RF b)) = some (true, .inl (5, [(0, am_pv 6), (1, am_iv x1), (2, am_iv x2), (3, am_jv (0 : Int64)), (5, am_iv 0)], [], am_SH, (J, K, am_RF b))) from rfl) rfl ?_
  exact s_River_bitsAfloat_L5_6_  _ _ _ _ _ _ h
theorem s_River_bitsAfloat {X : am_X} {b : Bool} {o1 : Nat} (ho : o1 = 32 ∨ o1 = 6) {J : am_J} {K : am_K} {x1 : Int} {x2 : Int} {r : Int64} (h : f_River_bitsAfloat o1 J x1 x2 = some r) : am_runs X T_River_bitsAfloat (0, [(0, am_pv o1), (1, am_iv x1), (2, am_iv x2)], [], am_SH, (J, K, am_RF b)) (some (am_jv r), am_SH, (J, K, am_RF b)) := by
  rcases ho with rfl | rfl
  · skip
    exact s_River_bitsAfloat_32_ h
  · skip
    exact s_River_bitsAfloat_6_ h
theorem s_River_settle_L10_32_ {X : am_X} {b : Bool} {J : am_J} {kb2 : Int → am_K → Option am_K} (hk2 : ∀ (x1 : Int) (K : am_K) (r : am_K), kb2 x1 K = some r → am_runs X T_River_settle (2, [(0, am_pv 32), (1, am_iv x1)], [], am_SH, (J, K, am_RF b)) (none, am_SH, (J, r, am_RF b))) : ∀ (n : Nat) (x1 : Int) (x2 : Int) (K : am_K) (r : am_K), f_River_settle_L10 32 J kb2 n x1 x2 K = some r → am_runs X T_River_settle (10, [(0, am_pv 32), (1, am_iv x1), (2, am_iv x2)], [], am_SH, (J, K, am_RF b)) (none, am_SH, (J, r, am_RF b)) := by
  intro n
  induction n with
  | zero =>
    intro x1 x2 K r h
    cases h
  | succ n ih =>
    intro x1 x2 K r h
    rw [f_River_settle_L10.eq_2] at h
    obtain ⟨g36, h⟩ := am_if_some h
    by_cases c37 : x2 < 9
    · rw [if_pos c37] at h
      refine am_r_f (show am_stepn X T_River_settle 3 true (10, [(0, am_pv 32), (1, am_iv x1), (2, am_iv x2)], [], am_SH, (J, K, am_RF b)) = some (((decide (am_i32 9) && decide (am_i32 x2)) && true), .inl (bif am_cb .ge x2 9 then 39 else 16, [(0, am_pv 32), (1, am_iv x1), (2, am_iv x2)], [], am_SH, (J, K, am_RF b))) from rfl) (am_g2 (by decide) g36 rfl) (am_nd_t c37) ?_
      obtain ⟨q38, e39, h⟩ := am_bind_some h
      refine am_r_call (show am_stepn X T_River_settle 11 true (16, [(0, am_pv 32), (1, am_iv x1), (2, am_iv x2)], [], am_SH, (J, K, am_RF b)) = some (true, .inr (.inl (6, [am_pv 32, am_iv x1, am_iv x2], 6, 0, 0, 32, [(0, am_pv 32), (1, am_iv x1), (2, am_iv x2)], [am_iv ((x1 * 9) + x2), am_pv (32 + 10)], am_SH, (J, K, am_RF b)))) from rfl) rfl tb_River_bitsAfloat (s_River_bitsAfloat (by decide) e39) ?_
      obtain ⟨g40, h⟩ := am_if_some h
      refine am_r_go (show am_stepn X T_River_settle 3 true (32, [(0, am_pv 32), (1, am_iv x1), (2, am_iv x2)], [am_jv q38, am_iv ((x1 * 9) + x2), am_pv (32 + 10)], am_SH, (J, K, am_RF b)) = some ((am_in ((x1 * 9) + x2) 144 && true), .inl (10, [(0, am_pv 32), (1, am_iv x1), (2, am_iv (x2 + 1))], [], am_SH, (J, (am_ul K (32 + 10) (((x1 * 9) + x2).toNat) q38), am_RF b))) from rfl) (am_gi g40 rfl) ?_
      exact ih _ _ _ _ h
    · rw [if_neg c37] at h
      refine am_r_t (show am_stepn X T_River_settle 3 true (10, [(0, am_pv 32), (1, am_iv x1), (2, am_iv x2)], [], am_SH, (J, K, am_RF b)) = some (((decide (am_i32 9) && decide (am_i32 x2)) && true), .inl (bif am_cb .ge x2 9 then 39 else 16, [(0, am_pv 32), (1, am_iv x1), (2, am_iv x2)], [], am_SH, (J, K, am_RF b))) from rfl) (am_g2 (by decide) g36 rfl) (am_nd_f c37) ?_
      refine am_r_go (show am_stepn X T_River_settle 2 true (39, [(0, am_pv 32), (1, am_iv x1), (2, am_iv x2)], [], am_SH, (J, K, am_RF b)) = some (true, .inl (2, [(0, am_pv 32), (1, am_iv (x1 + 1))], [], am_SH, (J, K, am_RF b))) from rfl) rfl ?_
      exact hk2 _ _ _ h
theorem s_River_settle_L2_32_ {X : am_X} {b : Bool} {J : am_J}  : ∀ (n : Nat) (x1 : Int) (K : am_K) (r : am_K), f_River_settle_L2 32 J  n x1 K = some r → am_runs X T_River_settle (2, [(0, am_pv 32), (1, am_iv x1)], [], am_SH, (J, K, am_RF b)) (none, am_SH, (J, r, am_RF b)) := by
  intro n
  induction n with
  | zero =>
    intro x1 K r h
    cases h
  | succ n ih =>
    intro x1 K r h
    rw [f_River_settle_L2.eq_2] at h
    obtain ⟨g41, h⟩ := am_if_some h
    by_cases c42 : x1 < 16
    · rw [if_pos c42] at h
      refine am_r_f (show am_stepn X T_River_settle 3 true (2, [(0, am_pv 32), (1, am_iv x1)], [], am_SH, (J, K, am_RF b)) = some (((decide (am_i32 16) && decide (am_i32 x1)) && true), .inl (bif am_cb .ge x1 16 then 45 else 8, [(0, am_pv 32), (1, am_iv x1)], [], am_SH, (J, K, am_RF b))) from rfl) (am_g2 (by decide) g41 rfl) (am_nd_t c42) ?_
      refine am_r_go (show am_stepn X T_River_settle 2 true (8, [(0, am_pv 32), (1, am_iv x1)], [], am_SH, (J, K, am_RF b)) = some (true, .inl (10, [(0, am_pv 32), (1, am_iv x1), (2, am_iv 0)], [], am_SH, (J, K, am_RF b))) from rfl) rfl ?_
      exact s_River_settle_L10_32_ ih _ _ _ _ _ h
    · rw [if_neg c42] at h
      refine am_r_t (show am_stepn X T_River_settle 3 true (2, [(0, am_pv 32), (1, am_iv x1)], [], am_SH, (J, K, am_RF b)) = some (((decide (am_i32 16) && decide (am_i32 x1)) && true), .inl (bif am_cb .ge x1 16 then 45 else 8, [(0, am_pv 32), (1, am_iv x1)], [], am_SH, (J, K, am_RF b))) from rfl) (am_g2 (by decide) g41 rfl) (am_nd_f c42) ?_
      obtain rfl := Option.some.inj h
      exact am_r_ret (show am_stepn X T_River_settle 1 true (45, [(0, am_pv 32), (1, am_iv x1)], [], am_SH, (J, K, am_RF b)) = some (true, .inr (.inr (none, am_SH, (J, K, am_RF b)))) from rfl) rfl
theorem s_River_settle_32_ {X : am_X} {b : Bool} {J : am_J} {K : am_K} {r : am_K} (h : f_River_settle 32 J K = some r) : am_runs X T_River_settle (0, [(0, am_pv 32)], [], am_SH, (J, K, am_RF b)) (none, am_SH, (J, r, am_RF b)) := by
  unfold f_River_settle at h
  refine am_r_go (show am_stepn X T_River_settle 2 true (0, [(0, am_pv 32)], [], am_SH, (J, K, am_RF b)) = some (true, .inl (2, [(0, am_pv 32), (1, am_iv 0)], [], am_SH, (J, K, am_RF b))) from rfl) rfl ?_
  exact s_River_settle_L2_32_  _ _ _ _ h
theorem s_River_settle_L10_6_ {X : am_X} {b : Bool} {J : am_J} {kb2 : Int → am_K → Option am_K} (hk2 : ∀ (x1 : Int) (K : am_K) (r : am_K), kb2 x1 K = some r → am_runs X T_River_settle (2, [(0, am_pv 6), (1, am_iv x1)], [], am_SH, (J, K, am_RF b)) (none, am_SH, (J, r, am_RF b))) : ∀ (n : Nat) (x1 : Int) (x2 : Int) (K : am_K) (r : am_K), f_River_settle_L10 6 J kb2 n x1 x2 K = some r → am_runs X T_River_settle (10, [(0, am_pv 6), (1, am_iv x1), (2, am_iv x2)], [], am_SH, (J, K, am_RF b)) (none, am_SH, (J, r, am_RF b)) := by
  intro n
  induction n with
  | zero =>
    intro x1 x2 K r h
    cases h
  | succ n ih =>
    intro x1 x2 K r h
    rw [f_River_settle_L10.eq_2] at h
    obtain ⟨g36, h⟩ := am_if_some h
    by_cases c37 : x2 < 9
    · rw [if_pos c37] at h
      refine am_r_f (show am_stepn X T_River_settle 3 true (10, [(0, am_pv 6), (1, am_iv x1), (2, am_iv x2)], [], am_SH, (J, K, am_RF b)) = some (((decide (am_i32 9) && decide (am_i32 x2)) && true), .inl (bif am_cb .ge x2 9 then 39 else 16, [(0, am_pv 6), (1, am_iv x1), (2, am_iv x2)], [], am_SH, (J, K, am_RF b))) from rfl) (am_g2 (by decide) g36 rfl) (am_nd_t c37) ?_
      obtain ⟨q38, e39, h⟩ := am_bind_some h
      refine am_r_call (show am_stepn X T_River_settle 11 true (16, [(0, am_pv 6), (1, am_iv x1), (2, am_iv x2)], [], am_SH, (J, K, am_RF b)) = some (true, .inr (.inl (6, [am_pv 6, am_iv x1, am_iv x2], 6, 0, 0, 32, [(0, am_pv 6), (1, am_iv x1), (2, am_iv x2)], [am_iv ((x1 * 9) + x2), am_pv (6 + 10)], am_SH, (J, K, am_RF b)))) from rfl) rfl tb_River_bitsAfloat (s_River_bitsAfloat (by decide) e39) ?_
      obtain ⟨g40, h⟩ := am_if_some h
      refine am_r_go (show am_stepn X T_River_settle 3 true (32, [(0, am_pv 6), (1, am_iv x1), (2, am_iv x2)], [am_jv q38, am_iv ((x1 * 9) + x2), am_pv (6 + 10)], am_SH, (J, K, am_RF b)) = some ((am_in ((x1 * 9) + x2) 144 && true), .inl (10, [(0, am_pv 6), (1, am_iv x1), (2, am_iv (x2 + 1))], [], am_SH, (J, (am_ul K (6 + 10) (((x1 * 9) + x2).toNat) q38), am_RF b))) from rfl) (am_gi g40 rfl) ?_
      exact ih _ _ _ _ h
    · rw [if_neg c37] at h
      refine am_r_t (show am_stepn X T_River_settle 3 true (10, [(0, am_pv 6), (1, am_iv x1), (2, am_iv x2)], [], am_SH, (J, K, am_RF b)) = some (((decide (am_i32 9) && decide (am_i32 x2)) && true), .inl (bif am_cb .ge x2 9 then 39 else 16, [(0, am_pv 6), (1, am_iv x1), (2, am_iv x2)], [], am_SH, (J, K, am_RF b))) from rfl) (am_g2 (by decide) g36 rfl) (am_nd_f c37) ?_
      refine am_r_go (show am_stepn X T_River_settle 2 true (39, [(0, am_pv 6), (1, am_iv x1), (2, am_iv x2)], [], am_SH, (J, K, am_RF b)) = some (true, .inl (2, [(0, am_pv 6), (1, am_iv (x1 + 1))], [], am_SH, (J, K, am_RF b))) from rfl) rfl ?_
      exact hk2 _ _ _ h
theorem s_River_settle_L2_6_ {X : am_X} {b : Bool} {J : am_J}  : ∀ (n : Nat) (x1 : Int) (K : am_K) (r : am_K), f_River_settle_L2 6 J  n x1 K = some r → am_runs X T_River_settle (2, [(0, am_pv 6), (1, am_iv x1)], [], am_SH, (J, K, am_RF b)) (none, am_SH, (J, r, am_RF b)) := by
  intro n
  induction n with
  | zero =>
    intro x1 K r h
    cases h
  | succ n ih =>
    intro x1 K r h
    rw [f_River_settle_L2.eq_2] at h
    obtain ⟨g41, h⟩ := am_if_some h
    by_cases c42 : x1 < 16
    · rw [if_pos c42] at h
      refine am_r_f (show am_stepn X T_River_settle 3 true (2, [(0, am_pv 6), (1, am_iv x1)], [], am_SH, (J, K, am_RF b)) = some (((decide (am_i32 16) && decide (am_i32 x1)) && true), .inl (bif am_cb .ge x1 16 then 45 else 8, [(0, am_pv 6), (1, am_iv x1)], [], am_SH, (J, K, am_RF b))) from rfl) (am_g2 (by decide) g41 rfl) (am_nd_t c42) ?_
      refine am_r_go (show am_stepn X T_River_settle 2 true (8, [(0, am_pv 6), (1, am_iv x1)], [], am_SH, (J, K, am_RF b)) = some (true, .inl (10, [(0, am_pv 6), (1, am_iv x1), (2, am_iv 0)], [], am_SH, (J, K, am_RF b))) from rfl) rfl ?_
      exact s_River_settle_L10_6_ ih _ _ _ _ _ h
    · rw [if_neg c42] at h
      refine am_r_t (show am_stepn X T_River_settle 3 true (2, [(0, am_pv 6), (1, am_iv x1)], [], am_SH, (J, K, am_RF b)) = some (((decide (am_i32 16) && decide (am_i32 x1)) && true), .inl (bif am_cb .ge x1 16 then 45 else 8, [(0, am_pv 6), (1, am_iv x1)], [], am_SH, (J, K, am_RF b))) from rfl) (am_g2 (by decide) g41 rfl) (am_nd_f c42) ?_
      obtain rfl := Option.some.inj h
      exact am_r_ret (show am_stepn X T_River_settle 1 true (45, [(0, am_pv 6), (1, am_iv x1)], [], am_SH, (J, K, am_RF b)) = some (true, .inr (.inr (none, am_SH, (J, K, am_RF b)))) from rfl) rfl
theorem s_River_settle_6_ {X : am_X} {b : Bool} {J : am_J} {K : am_K} {r : am_K} (h : f_River_settle 6 J K = some r) : am_runs X T_River_settle (0, [(0, am_pv 6)], [], am_SH, (J, K, am_RF b)) (none, am_SH, (J, r, am_RF b)) := by
  unfold f_River_settle at h
  refine am_r_go (show am_stepn X T_River_settle 2 true (0, [(0, am_pv 6)], [], am_SH, (J, K, am_RF b)) = some (true, .inl (2, [(0, am_pv 6), (1, am_iv 0)], [], am_SH, (J, K, am_RF b))) from rfl) rfl ?_
  exact s_River_settle_L2_6_  _ _ _ _ h
theorem s_River_settle {X : am_X} {b : Bool} {o1 : Nat} (ho : o1 = 32 ∨ o1 = 6) {J : am_J} {K : am_K} {r : am_K} (h : f_River_settle o1 J K = some r) : am_runs X T_River_settle (0, [(0, am_pv o1)], [], am_SH, (J, K, am_RF b)) (none, am_SH, (J, r, am_RF b)) := by
  rcases ho with rfl | rfl
  · skip
    exact s_River_settle_32_ h
  · skip
    exact s_River_settle_6_ h
theorem s_Tape_append_L17 {X : am_X} {b : Bool} {K : am_K}  : ∀ (n : Nat) (y1 : Int64) (x3 : Int) (J : am_J) (r : Int × am_J), f_Tape_append_L17   n y1 x3 J = some r → am_runs X T_Tape_append (17, [(0, am_pv 2), (1, am_jv y1), (3, am_iv x3)], [], am_SH, (J, K, am_RF b)) (some (am_iv r.1), am_SH, (r.2, K, am_RF b)) := by
  intro n
  induction n with
  | zero =>
    intro y1 x3 J r h
    cases h
  | succ n ih =>
    intro y1 x3 J r h
    rw [f_Tape_append_L17.eq_2] at h
    obtain ⟨g43, h⟩ := am_if_some h
    by_cases c44 : x3 < 8
    · rw [if_pos c44] at h
      refine am_r_f (show am_stepn X T_Tape_append 3 true (17, [(0, am_pv 2), (1, am_jv y1), (3, am_iv x3)], [], am_SH, (J, K, am_RF b)) = some (((decide (am_i32 8) && decide (am_i32 x3)) && true), .inl (bif am_cb .ge x3 8 then 51 else 23, [(0, am_pv 2), (1, am_jv y1), (3, am_iv x3)], [], am_SH, (J, K, am_RF b))) from rfl) (am_g2 (by decide) g43 rfl) (am_nd_t c44) ?_
      obtain ⟨g45, h⟩ := am_if_some h
      refine am_r_go (show am_stepn X T_Tape_append 18 true (23, [(0, am_pv 2), (1, am_jv y1), (3, am_iv x3)], [], am_SH, (J, K, am_RF b)) = some ((am_in ((J 2 1) + x3) 400 && true), .inl (17, [(0, am_pv 2), (1, am_jv y1), (3, am_iv (x3 + 1))], [], am_SH, ((am_up J 3 (((J 2 1) + x3).toNat) (am_i2b (am_i2b (am_l2i (am_lushr y1 (56 - (8 * x3))))))), K, am_RF b))) from rfl) (am_gi g45 rfl) ?_
      exact ih _ _ _ _ h
    · rw [if_neg c44] at h
      refine am_r_t (show am_stepn X T_Tape_append 3 true (17, [(0, am_pv 2), (1, am_jv y1), (3, am_iv x3)], [], am_SH, (J, K, am_RF b)) = some (((decide (am_i32 8) && decide (am_i32 x3)) && true), .inl (bif am_cb .ge x3 8 then 51 else 23, [(0, am_pv 2), (1, am_jv y1), (3, am_iv x3)], [], am_SH, (J, K, am_RF b))) from rfl) (am_g2 (by decide) g43 rfl) (am_nd_f c44) ?_
      obtain rfl := Option.some.inj h
      exact am_r_ret (show am_stepn X T_Tape_append 8 true (51, [(0, am_pv 2), (1, am_jv y1), (3, am_iv x3)], [], am_SH, (J, K, am_RF b)) = some ((decide ((1 : Int) = 0 ∨ (1 : Int) = 1) && true), .inr (.inr (some (am_iv 1), am_SH, ((am_up J 2 1 ((J 2 1) + 8)), K, am_RF b)))) from rfl) (am_g1 (by decide) rfl)
theorem s_Tape_append {X : am_X} {b : Bool} {K : am_K} {y1 : Int64} {J : am_J} {r : Int × am_J} (h : f_Tape_append  y1 J = some r) : am_runs X T_Tape_append (0, [(0, am_pv 2), (1, am_jv y1)], [], am_SH, (J, K, am_RF b)) (some (am_iv r.1), am_SH, (r.2, K, am_RF b)) := by
  unfold f_Tape_append at h
  obtain ⟨g46, h⟩ := am_if_some h
  by_cases c47 : 400 < ((J 2 1) + 8)
  · rw [if_pos c47] at h
    refine am_r_f (show am_stepn X T_Tape_append 6 true (0, [(0, am_pv 2), (1, am_jv y1)], [], am_SH, (J, K, am_RF b)) = some (((decide (am_i32 400) && decide (am_i32 ((J 2 1) + 8))) && true), .inl (bif am_cb .le ((J 2 1) + 8) 400 then 15 else 13, [(0, am_pv 2), (1, am_jv y1)], [], am_SH, (J, K, am_RF b))) from rfl) (am_g2 (by decide) g46 rfl) (am_nd_t c47) ?_
    obtain rfl := Option.some.inj h
    exact am_r_ret (show am_stepn X T_Tape_append 2 true (13, [(0, am_pv 2), (1, am_jv y1)], [], am_SH, (J, K, am_RF b)) = some ((decide ((0 : Int) = 0 ∨ (0 : Int) = 1) && true), .inr (.inr (some (am_iv 0), am_SH, (J, K, am_RF b)))) from rfl) (am_g1 (by decide) rfl)
  · rw [if_neg c47] at h
    refine am_r_t (show am_stepn X T_Tape_append 6 true (0, [(0, am_pv 2), (1, am_jv y1)], [], am_SH, (J, K, am_RF b)) = some (((decide (am_i32 400) && decide (am_i32 ((J 2 1) + 8))) && true), .inl (bif am_cb .le ((J 2 1) + 8) 400 then 15 else 13, [(0, am_pv 2), (1, am_jv y1)], [], am_SH, (J, K, am_RF b))) from rfl) (am_g2 (by decide) g46 rfl) (am_nd_f c47) ?_
    refine am_r_go (show am_stepn X T_Tape_append 2 true (15, [(0, am_pv 2), (1, am_jv y1)], [], am_SH, (J, K, am_RF b)) = some (true, .inl (17, [(0, am_pv 2), (1, am_jv y1), (3, am_iv 0)], [], am_SH, (J, K, am_RF b))) from rfl) rfl ?_
    exact s_Tape_append_L17  _ _ _ _ _ h
theorem s_UpRiver_feed {X : am_X} {b : Bool} {K : am_K} {y1 : Int64} {J : am_J} {r : Int × am_J} (h : f_UpRiver_feed  y1 J = some r) : am_runs X T_UpRiver_feed (0, [(0, am_pv 0), (1, am_jv y1)], [], am_SH, (J, K, am_RF b)) (some (am_iv r.1), am_SH, (r.2, K, am_RF b)) := by
  unfold f_UpRiver_feed at h
  obtain ⟨q48, e49, h⟩ := am_bind_some h
  refine am_r_call (show am_stepn X T_UpRiver_feed 5 true (0, [(0, am_pv 0), (1, am_jv y1)], [], am_SH, (J, K, am_RF b)) = some (true, .inr (.inl (16, [am_pv 2, am_jv y1], 4, 0, 0, 11, [(0, am_pv 0), (1, am_jv y1)], [], am_SH, (J, K, am_RF b)))) from rfl) rfl tb_Tape_append (s_Tape_append e49) ?_
  obtain ⟨g50, h⟩ := am_if_some h
  by_cases c51 : q48.1 = 0
  · rw [if_pos c51] at h
    refine am_r_t (show am_stepn X T_UpRiver_feed 1 true (11, [(0, am_pv 0), (1, am_jv y1)], [am_iv q48.1], am_SH, (q48.2, K, am_RF b)) = some ((decide (am_i32 q48.1) && true), .inl (bif am_cb .eq q48.1 0 then 27 else 14, [(0, am_pv 0), (1, am_jv y1)], [], am_SH, (q48.2, K, am_RF b))) from rfl) (am_g1 g50 rfl) (decide_eq_true c51) ?_
    obtain rfl := Option.some.inj h
    exact am_r_ret (show am_stepn X T_UpRiver_feed 2 true (27, [(0, am_pv 0), (1, am_jv y1)], [], am_SH, (q48.2, K, am_RF b)) = some (true, .inr (.inr (some (am_iv (-3)), am_SH, (q48.2, K, am_RF b)))) from rfl) rfl
  · rw [if_neg c51] at h
    refine am_r_f (show am_stepn X T_UpRiver_feed 1 true (11, [(0, am_pv 0), (1, am_jv y1)], [am_iv q48.1], am_SH, (q48.2, K, am_RF b)) = some ((decide (am_i32 q48.1) && true), .inl (bif am_cb .eq q48.1 0 then 27 else 14, [(0, am_pv 0), (1, am_jv y1)], [], am_SH, (q48.2, K, am_RF b))) from rfl) (am_g1 g50 rfl) (decide_eq_false c51) ?_
    obtain rfl := Option.some.inj h
    exact am_r_ret (show am_stepn X T_UpRiver_feed 6 true (14, [(0, am_pv 0), (1, am_jv y1)], [], am_SH, (q48.2, K, am_RF b)) = some (true, .inr (.inr (some (am_iv (q48.2 2 1)), am_SH, (q48.2, K, am_RF b)))) from rfl) rfl
theorem s_UpRiver_end {X : am_X} {b : Bool} {K : am_K} {x1 : Int} {J : am_J} {r : Int × am_J} (h : f_UpRiver_end  x1 J = some r) : am_runs X T_UpRiver_end (0, [(0, am_pv 0), (1, am_iv x1)], [], am_SH, (J, K, am_RF b)) (some (am_iv r.1), am_SH, (r.2, K, am_RF b)) := by
  unfold f_UpRiver_end at h
  obtain ⟨g52, h⟩ := am_if_some h
  by_cases c53 : x1 < 0
  · rw [if_pos c53] at h
    refine am_r_t (show am_stepn X T_UpRiver_end 7 true (0, [(0, am_pv 0), (1, am_iv x1)], [], am_SH, (J, K, am_RF b)) = some ((decide (am_i32 x1) && true), .inl (bif am_cb .lt x1 0 then 20 else 15, [(0, am_pv 0), (1, am_iv x1), (2, am_iv (J 2 1))], [], am_SH, (J, K, am_RF b))) from rfl) (am_g1 g52 rfl) (decide_eq_true c53) ?_
    obtain rfl := Option.some.inj h
    exact am_r_ret (show am_stepn X T_UpRiver_end 2 true (20, [(0, am_pv 0), (1, am_iv x1), (2, am_iv (J 2 1))], [], am_SH, (J, K, am_RF b)) = some (true, .inr (.inr (some (am_iv (-1)), am_SH, (J, K, am_RF b)))) from rfl) rfl
  · rw [if_neg c53] at h
    refine am_r_f (show am_stepn X T_UpRiver_end 7 true (0, [(0, am_pv 0), (1, am_iv x1)], [], am_SH, (J, K, am_RF b)) = some ((decide (am_i32 x1) && true), .inl (bif am_cb .lt x1 0 then 20 else 15, [(0, am_pv 0), (1, am_iv x1), (2, am_iv (J 2 1))], [], am_SH, (J, K, am_RF b))) from rfl) (am_g1 g52 rfl) (decide_eq_false c53) ?_
    obtain ⟨g54, h⟩ := am_if_some h
    by_cases c55 : (J 2 1) < x1
    · rw [if_pos c55] at h
      refine am_r_f (show am_stepn X T_UpRiver_end 3 true (15, [(0, am_pv 0), (1, am_iv x1), (2, am_iv (J 2 1))], [], am_SH, (J, K, am_RF b)) = some (((decide (am_i32 (J 2 1)) && decide (am_i32 x1)) && true), .inl (bif am_cb .le x1 (J 2 1) then 22 else 20, [(0, am_pv 0), (1, am_iv x1), (2, am_iv (J 2 1))], [], am_SH, (J, K, am_RF b))) from rfl) (am_g2 g54 g52 rfl) (am_nd_t c55) ?_
      obtain rfl := Option.some.inj h
      exact am_r_ret (show am_stepn X T_UpRiver_end 2 true (20, [(0, am_pv 0), (1, am_iv x1), (2, am_iv (J 2 1))], [], am_SH, (J, K, am_RF b)) = some (true, .inr (.inr (some (am_iv (-1)), am_SH, (J, K, am_RF b)))) from rfl) rfl
    · rw [if_neg c55] at h
      refine am_r_t (show am_stepn X T_UpRiver_end 3 true (15, [(0, am_pv 0), (1, am_iv x1), (2, am_iv (J 2 1))], [], am_SH, (J, K, am_RF b)) = some (((decide (am_i32 (J 2 1)) && decide (am_i32 x1)) && true), .inl (bif am_cb .le x1 (J 2 1) then 22 else 20, [(0, am_pv 0), (1, am_iv x1), (2, am_iv (J 2 1))], [], am_SH, (J, K, am_RF b))) from rfl) (am_g2 g54 g52 rfl) (am_nd_f c55) ?_
      obtain rfl := Option.some.inj h
      exact am_r_ret (show am_stepn X T_UpRiver_end 7 true (22, [(0, am_pv 0), (1, am_iv x1), (2, am_iv (J 2 1))], [], am_SH, (J, K, am_RF b)) = some (true, .inr (.inr (some (am_iv (J 2 1)), am_SH, ((am_up J 2 1 x1), K, am_RF b)))) from rfl) rfl
theorem s_Boat_lieAt_18_ {X : am_X} {b : Bool} {K : am_K} {x1 : Int} {x2 : Int} {x3 : Int} {x4 : Int} {J : am_J} {r : am_J} (h : f_Boat_lieAt 18 x1 x2 x3 x4 J = some r) : am_runs X T_Boat_lieAt (0, [(0, am_pv 18), (1, am_iv x1), (2, am_iv x2), (3, am_iv x3), (4, am_iv x4)], [], am_SH, (J, K, am_RF b)) (none, am_SH, (r, K, am_RF b)) := by
  unfold f_Boat_lieAt at h
  obtain rfl := Option.some.inj h
  exact am_r_ret (show am_stepn X T_Boat_lieAt 19 true (0, [(0, am_pv 18), (1, am_iv x1), (2, am_iv x2), (3, am_iv x3), (4, am_iv x4)], [], am_SH, (J, K, am_RF b)) = some (true, .inr (.inr (none, am_SH, ((am_up (am_up (am_up (am_up (am_up (am_up J 18 0 x1) 18 1 x2) 18 2 x3) 18 3 x4) 18 4 0) 18 5 0), K, am_RF b)))) from rfl) rfl
theorem s_Boat_lieAt_29_ {X : am_X} {b : Bool} {K : am_K} {x1 : Int} {x2 : Int} {x3 : Int} {x4 : Int} {J : am_J} {r : am_J} (h : f_Boat_lieAt 29 x1 x2 x3 x4 J = some r) : am_runs X T_Boat_lieAt (0, [(0, am_pv 29), (1, am_iv x1), (2, am_iv x2), (3, am_iv x3), (4, am_iv x4)], [], am_SH, (J, K, am_RF b)) (none, am_SH, (r, K, am_RF b)) := by
  unfold f_Boat_lieAt at h
  obtain rfl := Option.some.inj h
  exact am_r_ret (show am_stepn X T_Boat_lieAt 19 true (0, [(0, am_pv 29), (1, am_iv x1), (2, am_iv x2), (3, am_iv x3), (4, am_iv x4)], [], am_SH, (J, K, am_RF b)) = some (true, .inr (.inr (none, am_SH, ((am_up (am_up (am_up (am_up (am_up (am_up J 29 0 x1) 29 1 x2) 29 2 x3) 29 3 x4) 29 4 0) 29 5 0), K, am_RF b)))) from rfl) rfl
theorem s_Boat_lieAt_30_ {X : am_X} {b : Bool} {K : am_K} {x1 : Int} {x2 : Int} {x3 : Int} {x4 : Int} {J : am_J} {r : am_J} (h : f_Boat_lieAt 30 x1 x2 x3 x4 J = some r) : am_runs X T_Boat_lieAt (0, [(0, am_pv 30), (1, am_iv x1), (2, am_iv x2), (3, am_iv x3), (4, am_iv x4)], [], am_SH, (J, K, am_RF b)) (none, am_SH, (r, K, am_RF b)) := by
  unfold f_Boat_lieAt at h
  obtain rfl := Option.some.inj h
  exact am_r_ret (show am_stepn X T_Boat_lieAt 19 true (0, [(0, am_pv 30), (1, am_iv x1), (2, am_iv x2), (3, am_iv x3), (4, am_iv x4)], [], am_SH, (J, K, am_RF b)) = some (true, .inr (.inr (none, am_SH, ((am_up (am_up (am_up (am_up (am_up (am_up J 30 0 x1) 30 1 x2) 30 2 x3) 30 3 x4) 30 4 0) 30 5 0), K, am_RF b)))) from rfl) rfl
theorem s_Boat_lieAt_44_ {X : am_X} {b : Bool} {K : am_K} {x1 : Int} {x2 : Int} {x3 : Int} {x4 : Int} {J : am_J} {r : am_J} (h : f_Boat_lieAt 44 x1 x2 x3 x4 J = some r) : am_runs X T_Boat_lieAt (0, [(0, am_pv 44), (1, am_iv x1), (2, am_iv x2), (3, am_iv x3), (4, am_iv x4)], [], am_SH, (J, K, am_RF b)) (none, am_SH, (r, K, am_RF b)) := by
  unfold f_Boat_lieAt at h
  obtain rfl := Option.some.inj h
  exact am_r_ret (show am_stepn X T_Boat_lieAt 19 true (0, [(0, am_pv 44), (1, am_iv x1), (2, am_iv x2), (3, am_iv x3), (4, am_iv x4)], [], am_SH, (J, K, am_RF b)) = some (true, .inr (.inr (none, am_SH, ((am_up (am_up (am_up (am_up (am_up (am_up J 44 0 x1) 44 1 x2) 44 2 x3) 44 3 x4) 44 4 0) 44 5 0), K, am_RF b)))) from rfl) rfl
theorem s_Boat_lieAt_51_ {X : am_X} {b : Bool} {K : am_K} {x1 : Int} {x2 : Int} {x3 : Int} {x4 : Int} {J : am_J} {r : am_J} (h : f_Boat_lieAt 51 x1 x2 x3 x4 J = some r) : am_runs X T_Boat_lieAt (0, [(0, am_pv 51), (1, am_iv x1), (2, am_iv x2), (3, am_iv x3), (4, am_iv x4)], [], am_SH, (J, K, am_RF b)) (none, am_SH, (r, K, am_RF b)) := by
  unfold f_Boat_lieAt at h
  obtain rfl := Option.some.inj h
  exact am_r_ret (show am_stepn X T_Boat_lieAt 19 true (0, [(0, am_pv 51), (1, am_iv x1), (2, am_iv x2), (3, am_iv x3), (4, am_iv x4)], [], am_SH, (J, K, am_RF b)) = some (true, .inr (.inr (none, am_SH, ((am_up (am_up (am_up (am_up (am_up (am_up J 51 0 x1) 51 1 x2) 51 2 x3) 51 3 x4) 51 4 0) 51 5 0), K, am_RF b)))) from rfl) rfl
theorem s_Boat_lieAt {X : am_X} {b : Bool} {o1 : Nat} (ho : o1 = 18 ∨ o1 = 29 ∨ o1 = 30 ∨ o1 = 44 ∨ o1 = 51) {K : am_K} {x1 : Int} {x2 : Int} {x3 : Int} {x4 : Int} {J : am_J} {r : am_J} (h : f_Boat_lieAt o1 x1 x2 x3 x4 J = some r) : am_runs X T_Boat_lieAt (0, [(0, am_pv o1), (1, am_iv x1), (2, am_iv x2), (3, am_iv x3), (4, am_iv x4)], [], am_SH, (J, K, am_RF b)) (none, am_SH, (r, K, am_RF b)) := by
  rcases ho with rfl | rfl | rfl | rfl | rfl
  · skip
    exact s_Boat_lieAt_18_ h
  · skip
    exact s_Boat_lieAt_29_ h
  · skip
    exact s_Boat_lieAt_30_ h
  · skip
    exact s_Boat_lieAt_44_ h
  · skip
    exact s_Boat_lieAt_51_ h
theorem s_Boat_lieAtStart_18_32_ {X : am_X} {b : Bool} {K : am_K} {x2 : Int} {J : am_J} {r : am_J} (h : f_Boat_lieAtStart 18 32 x2 J = some r) : am_runs X T_Boat_lieAtStart (0, [(0, am_pv 18), (1, am_pv 32), (2, am_iv x2)], [], am_SH, (J, K, am_RF b)) (none, am_SH, (r, K, am_RF b)) := by
  unfold f_Boat_lieAtStart at h
  obtain ⟨q56, e57, h⟩ := am_bind_some h
  refine am_r_call (show am_stepn X T_Boat_lieAtStart 9 true (0, [(0, am_pv 18), (1, am_pv 32), (2, am_iv x2)], [], am_SH, (J, K, am_RF b)) = some ((am_in 0 8 && true), .inr (.inl (52, [am_pv 18, am_iv 0, am_iv (J (32 + 4) 0), am_iv 0, am_iv x2], 5, 0, 0, 13, [(0, am_pv 18), (1, am_pv 32), (2, am_iv x2)], [], am_SH, (J, K, am_RF b)))) from rfl) (am_gi (by decide) rfl) tb_Boat_lieAt (s_Boat_lieAt (by decide) e57) ?_
  obtain rfl := Option.some.inj h
  exact am_r_ret (show am_stepn X T_Boat_lieAtStart 1 true (13, [(0, am_pv 18), (1, am_pv 32), (2, am_iv x2)], [], am_SH, (q56, K, am_RF b)) = some (true, .inr (.inr (none, am_SH, (q56, K, am_RF b)))) from rfl) rfl
theorem s_Boat_lieAtStart_18_6_ {X : am_X} {b : Bool} {K : am_K} {x2 : Int} {J : am_J} {r : am_J} (h : f_Boat_lieAtStart 18 6 x2 J = some r) : am_runs X T_Boat_lieAtStart (0, [(0, am_pv 18), (1, am_pv 6), (2, am_iv x2)], [], am_SH, (J, K, am_RF b)) (none, am_SH, (r, K, am_RF b)) := by
  unfold f_Boat_lieAtStart at h
  obtain ⟨q56, e57, h⟩ := am_bind_some h
  refine am_r_call (show am_stepn X T_Boat_lieAtStart 9 true (0, [(0, am_pv 18), (1, am_pv 6), (2, am_iv x2)], [], am_SH, (J, K, am_RF b)) = some ((am_in 0 8 && true), .inr (.inl (52, [am_pv 18, am_iv 0, am_iv (J (6 + 4) 0), am_iv 0, am_iv x2], 5, 0, 0, 13, [(0, am_pv 18), (1, am_pv 6), (2, am_iv x2)], [], am_SH, (J, K, am_RF b)))) from rfl) (am_gi (by decide) rfl) tb_Boat_lieAt (s_Boat_lieAt (by decide) e57) ?_
  obtain rfl := Option.some.inj h
  exact am_r_ret (show am_stepn X T_Boat_lieAtStart 1 true (13, [(0, am_pv 18), (1, am_pv 6), (2, am_iv x2)], [], am_SH, (q56, K, am_RF b)) = some (true, .inr (.inr (none, am_SH, (q56, K, am_RF b)))) from rfl) rfl
theorem s_Boat_lieAtStart_30_32_ {X : am_X} {b : Bool} {K : am_K} {x2 : Int} {J : am_J} {r : am_J} (h : f_Boat_lieAtStart 30 32 x2 J = some r) : am_runs X T_Boat_lieAtStart (0, [(0, am_pv 30), (1, am_pv 32), (2, am_iv x2)], [], am_SH, (J, K, am_RF b)) (none, am_SH, (r, K, am_RF b)) := by
  unfold f_Boat_lieAtStart at h
  obtain ⟨q56, e57, h⟩ := am_bind_some h
  refine am_r_call (show am_stepn X T_Boat_lieAtStart 9 true (0, [(0, am_pv 30), (1, am_pv 32), (2, am_iv x2)], [], am_SH, (J, K, am_RF b)) = some ((am_in 0 8 && true), .inr (.inl (52, [am_pv 30, am_iv 0, am_iv (J (32 + 4) 0), am_iv 0, am_iv x2], 5, 0, 0, 13, [(0, am_pv 30), (1, am_pv 32), (2, am_iv x2)], [], am_SH, (J, K, am_RF b)))) from rfl) (am_gi (by decide) rfl) tb_Boat_lieAt (s_Boat_lieAt (by decide) e57) ?_
  obtain rfl := Option.some.inj h
  exact am_r_ret (show am_stepn X T_Boat_lieAtStart 1 true (13, [(0, am_pv 30), (1, am_pv 32), (2, am_iv x2)], [], am_SH, (q56, K, am_RF b)) = some (true, .inr (.inr (none, am_SH, (q56, K, am_RF b)))) from rfl) rfl
theorem s_Boat_lieAtStart_30_6_ {X : am_X} {b : Bool} {K : am_K} {x2 : Int} {J : am_J} {r : am_J} (h : f_Boat_lieAtStart 30 6 x2 J = some r) : am_runs X T_Boat_lieAtStart (0, [(0, am_pv 30), (1, am_pv 6), (2, am_iv x2)], [], am_SH, (J, K, am_RF b)) (none, am_SH, (r, K, am_RF b)) := by
  unfold f_Boat_lieAtStart at h
  obtain ⟨q56, e57, h⟩ := am_bind_some h
  refine am_r_call (show am_stepn X T_Boat_lieAtStart 9 true (0, [(0, am_pv 30), (1, am_pv 6), (2, am_iv x2)], [], am_SH, (J, K, am_RF b)) = some ((am_in 0 8 && true), .inr (.inl (52, [am_pv 30, am_iv 0, am_iv (J (6 + 4) 0), am_iv 0, am_iv x2], 5, 0, 0, 13, [(0, am_pv 30), (1, am_pv 6), (2, am_iv x2)], [], am_SH, (J, K, am_RF b)))) from rfl) (am_gi (by decide) rfl) tb_Boat_lieAt (s_Boat_lieAt (by decide) e57) ?_
  obtain rfl := Option.some.inj h
  exact am_r_ret (show am_stepn X T_Boat_lieAtStart 1 true (13, [(0, am_pv 30), (1, am_pv 6), (2, am_iv x2)], [], am_SH, (q56, K, am_RF b)) = some (true, .inr (.inr (none, am_SH, (q56, K, am_RF b)))) from rfl) rfl
theorem s_Boat_lieAtStart {X : am_X} {b : Bool} {o1 : Nat} {o2 : Nat} (ho : (o1 = 18 ∧ o2 = 32) ∨ (o1 = 18 ∧ o2 = 6) ∨ (o1 = 30 ∧ o2 = 32) ∨ (o1 = 30 ∧ o2 = 6)) {K : am_K} {x2 : Int} {J : am_J} {r : am_J} (h : f_Boat_lieAtStart o1 o2 x2 J = some r) : am_runs X T_Boat_lieAtStart (0, [(0, am_pv o1), (1, am_pv o2), (2, am_iv x2)], [], am_SH, (J, K, am_RF b)) (none, am_SH, (r, K, am_RF b)) := by
  rcases ho with ⟨rfl, rfl⟩ | ⟨rfl, rfl⟩ | ⟨rfl, rfl⟩ | ⟨rfl, rfl⟩
  · skip
    exact s_Boat_lieAtStart_18_32_ h
  · skip
    exact s_Boat_lieAtStart_18_6_ h
  · skip
    exact s_Boat_lieAtStart_30_32_ h
  · skip
    exact s_Boat_lieAtStart_30_6_ h
theorem s_UpRiver_beginAnew_L61_f {X : am_X} {K : am_K}  : ∀ (n : Nat) (x1 : Int) (J : am_J) (r : am_J), f_UpRiver_beginAnew_L61 false  n x1 J = some r → am_runs X T_UpRiver_beginAnew (61, [(0, am_pv 0), (1, am_iv x1)], [], am_SH, (J, K, am_RF false)) (none, am_SH, (r, K, am_RF false)) := by
  intro n
  induction n with
  | zero =>
    intro x1 J r h
    cases h
  | succ n ih =>
    intro x1 J r h
    rw [f_UpRiver_beginAnew_L61.eq_2] at h
    obtain ⟨g58, h⟩ := am_if_some h
    by_cases c59 : x1 < 2
    · rw [if_pos c59] at h
      refine am_r_f (show am_stepn X T_UpRiver_beginAnew 3 true (61, [(0, am_pv 0), (1, am_iv x1)], [], am_SH, (J, K, am_RF false)) = some (((decide (am_i32 2) && decide (am_i32 x1)) && true), .inl (bif am_cb .ge x1 2 then 82 else 66, [(0, am_pv 0), (1, am_iv x1)], [], am_SH, (J, K, am_RF false))) from rfl) (am_g2 (by decide) g58 rfl) (am_nd_t c59) ?_
      by_cases c60 : x1 = 0
      · rw [if_pos c60] at h
        revert h
        subst c60
        intro h
        refine am_r_go (show am_stepn X T_UpRiver_beginAnew 8 true (66, [(0, am_pv 0), (1, am_iv 0)], [], am_SH, (J, K, am_RF false)) = some ((decide ((0 : Int) = 0 ∨ (0 : Int) = 1) && (am_in 0 2 && true)), .inl (61, [(0, am_pv 0), (1, am_iv (0 + 1))], [], am_SH, ((am_up J 43 3 0), K, am_RF false))) from rfl) (am_g1 (by decide) (am_gi (by decide) rfl)) ?_
        exact ih _ _ _ h
      · rw [if_neg c60] at h
        by_cases c61 : x1 = 1
        · rw [if_pos c61] at h
          revert h
          subst c61
          intro h
          refine am_r_go (show am_stepn X T_UpRiver_beginAnew 8 true (66, [(0, am_pv 0), (1, am_iv 1)], [], am_SH, (J, K, am_RF false)) = some ((decide ((0 : Int) = 0 ∨ (0 : Int) = 1) && (am_in 1 2 && true)), .inl (61, [(0, am_pv 0), (1, am_iv (1 + 1))], [], am_SH, ((am_up J 50 3 0), K, am_RF false))) from rfl) (am_g1 (by decide) (am_gi (by decide) rfl)) ?_
          exact ih _ _ _ h
        · rw [if_neg c61] at h
          cases h
    · rw [if_neg c59] at h
      refine am_r_t (show am_stepn X T_UpRiver_beginAnew 3 true (61, [(0, am_pv 0), (1, am_iv x1)], [], am_SH, (J, K, am_RF false)) = some (((decide (am_i32 2) && decide (am_i32 x1)) && true), .inl (bif am_cb .ge x1 2 then 82 else 66, [(0, am_pv 0), (1, am_iv x1)], [], am_SH, (J, K, am_RF false))) from rfl) (am_g2 (by decide) g58 rfl) (am_nd_f c59) ?_
      obtain rfl := Option.some.inj h
      exact am_r_ret (show am_stepn X T_UpRiver_beginAnew 1 true (82, [(0, am_pv 0), (1, am_iv x1)], [], am_SH, (J, K, am_RF false)) = some (true, .inr (.inr (none, am_SH, (J, K, am_RF false)))) from rfl) rfl
theorem s_UpRiver_beginAnew_L2_f {X : am_X} {K : am_K}  : ∀ (n : Nat) (x1 : Int) (J : am_J) (r : am_J), f_UpRiver_beginAnew_L2 false  n x1 J = some r → am_runs X T_UpRiver_beginAnew (2, [(0, am_pv 0), (1, am_iv x1)], [], am_SH, (J, K, am_RF false)) (none, am_SH, (r, K, am_RF false)) := by
  intro n
  induction n with
  | zero =>
    intro x1 J r h
    cases h
  | succ n ih =>
    intro x1 J r h
    rw [f_UpRiver_beginAnew_L2.eq_2] at h
    obtain ⟨g62, h⟩ := am_if_some h
    by_cases c63 : 300 < x1
    · rw [if_pos c63] at h
      refine am_r_t (show am_stepn X T_UpRiver_beginAnew 3 true (2, [(0, am_pv 0), (1, am_iv x1)], [], am_SH, (J, K, am_RF false)) = some (((decide (am_i32 300) && decide (am_i32 x1)) && true), .inl (bif am_cb .gt x1 300 then 22 else 9, [(0, am_pv 0), (1, am_iv x1)], [], am_SH, (J, K, am_RF false))) from rfl) (am_g2 (by decide) g62 rfl) (decide_eq_true c63) ?_
      obtain ⟨q64, e65, h⟩ := am_bind_some h
      refine am_r_call (show am_stepn X T_UpRiver_beginAnew 7 true (22, [(0, am_pv 0), (1, am_iv x1)], [], am_SH, (J, K, am_RF false)) = some (true, .inr (.inl (51, [am_pv 18, am_pv (am_rv false), am_iv 0], 3, 0, 0, 37, [(0, am_pv 0)], [], am_SH, (J, K, am_RF false)))) from rfl) rfl tb_Boat_lieAtStart (s_Boat_lieAtStart (by decide) e65) ?_
      refine am_r_go (show am_stepn X T_UpRiver_beginAnew 12 true (37, [(0, am_pv 0)], [], am_SH, (q64, K, am_RF false)) = some (true, .inl (61, [(0, am_pv 0), (1, am_iv 0)], [], am_SH, ((am_up (am_up q64 19 2 0) 22 1 0), K, am_RF false))) from rfl) rfl ?_
      exact s_UpRiver_beginAnew_L61_f  _ _ _ _ h
    · rw [if_neg c63] at h
      refine am_r_f (show am_stepn X T_UpRiver_beginAnew 3 true (2, [(0, am_pv 0), (1, am_iv x1)], [], am_SH, (J, K, am_RF false)) = some (((decide (am_i32 300) && decide (am_i32 x1)) && true), .inl (bif am_cb .gt x1 300 then 22 else 9, [(0, am_pv 0), (1, am_iv x1)], [], am_SH, (J, K, am_RF false))) from rfl) (am_g2 (by decide) g62 rfl) (decide_eq_false c63) ?_
      obtain ⟨g66, h⟩ := am_if_some h
      refine am_r_go (show am_stepn X T_UpRiver_beginAnew 7 true (9, [(0, am_pv 0), (1, am_iv x1)], [], am_SH, (J, K, am_RF false)) = some ((am_in x1 301 && true), .inl (2, [(0, am_pv 0), (1, am_iv (x1 + 1))], [], am_SH, ((am_up J 31 x1.toNat 0), K, am_RF false))) from rfl) (am_gi g66 rfl) ?_
      exact ih _ _ _ h
theorem s_UpRiver_beginAnew_f {X : am_X} {K : am_K} {J : am_J} {r : am_J} (h : f_UpRiver_beginAnew false J = some r) : am_runs X T_UpRiver_beginAnew (0, [(0, am_pv 0)], [], am_SH, (J, K, am_RF false)) (none, am_SH, (r, K, am_RF false)) := by
  unfold f_UpRiver_beginAnew at h
  refine am_r_go (show am_stepn X T_UpRiver_beginAnew 2 true (0, [(0, am_pv 0)], [], am_SH, (J, K, am_RF false)) = some (true, .inl (2, [(0, am_pv 0), (1, am_iv 0)], [], am_SH, (J, K, am_RF false))) from rfl) rfl ?_
  exact s_UpRiver_beginAnew_L2_f  _ _ _ _ h
theorem s_UpRiver_beginAnew_L61_t {X : am_X} {K : am_K}  : ∀ (n : Nat) (x1 : Int) (J : am_J) (r : am_J), f_UpRiver_beginAnew_L61 true  n x1 J = some r → am_runs X T_UpRiver_beginAnew (61, [(0, am_pv 0), (1, am_iv x1)], [], am_SH, (J, K, am_RF true)) (none, am_SH, (r, K, am_RF true)) := by
  intro n
  induction n with
  | zero =>
    intro x1 J r h
    cases h
  | succ n ih =>
    intro x1 J r h
    rw [f_UpRiver_beginAnew_L61.eq_2] at h
    obtain ⟨g58, h⟩ := am_if_some h
    by_cases c59 : x1 < 2
    · rw [if_pos c59] at h
      refine am_r_f (show am_stepn X T_UpRiver_beginAnew 3 true (61, [(0, am_pv 0), (1, am_iv x1)], [], am_SH, (J, K, am_RF true)) = some (((decide (am_i32 2) && decide (am_i32 x1)) && true), .inl (bif am_cb .ge x1 2 then 82 else 66, [(0, am_pv 0), (1, am_iv x1)], [], am_SH, (J, K, am_RF true))) from rfl) (am_g2 (by decide) g58 rfl) (am_nd_t c59) ?_
      by_cases c60 : x1 = 0
      · rw [if_pos c60] at h
        revert h
        subst c60
        intro h
        refine am_r_go (show am_stepn X T_UpRiver_beginAnew 8 true (66, [(0, am_pv 0), (1, am_iv 0)], [], am_SH, (J, K, am_RF true)) = some ((decide ((0 : Int) = 0 ∨ (0 : Int) = 1) && (am_in 0 2 && true)), .inl (61, [(0, am_pv 0), (1, am_iv (0 + 1))], [], am_SH, ((am_up J 43 3 0), K, am_RF true))) from rfl) (am_g1 (by decide) (am_gi (by decide) rfl)) ?_
        exact ih _ _ _ h
      · rw [if_neg c60] at h
        by_cases c61 : x1 = 1
        · rw [if_pos c61] at h
          revert h
          subst c61
          intro h
          refine am_r_go (show am_stepn X T_UpRiver_beginAnew 8 true (66, [(0, am_pv 0), (1, am_iv 1)], [], am_SH, (J, K, am_RF true)) = some ((decide ((0 : Int) = 0 ∨ (0 : Int) = 1) && (am_in 1 2 && true)), .inl (61, [(0, am_pv 0), (1, am_iv (1 + 1))], [], am_SH, ((am_up J 50 3 0), K, am_RF true))) from rfl) (am_g1 (by decide) (am_gi (by decide) rfl)) ?_
          exact ih _ _ _ h
        · rw [if_neg c61] at h
          cases h
    · rw [if_neg c59] at h
      refine am_r_t (show am_stepn X T_UpRiver_beginAnew 3 true (61, [(0, am_pv 0), (1, am_iv x1)], [], am_SH, (J, K, am_RF true)) = some (((decide (am_i32 2) && decide (am_i32 x1)) && true), .inl (bif am_cb .ge x1 2 then 82 else 66, [(0, am_pv 0), (1, am_iv x1)], [], am_SH, (J, K, am_RF true))) from rfl) (am_g2 (by decide) g58 rfl) (am_nd_f c59) ?_
      obtain rfl := Option.some.inj h
      exact am_r_ret (show am_stepn X T_UpRiver_beginAnew 1 true (82, [(0, am_pv 0), (1, am_iv x1)], [], am_SH, (J, K, am_RF true)) = some (true, .inr (.inr (none, am_SH, (J, K, am_RF true)))) from rfl) rfl
theorem s_UpRiver_beginAnew_L2_t {X : am_X} {K : am_K}  : ∀ (n : Nat) (x1 : Int) (J : am_J) (r : am_J), f_UpRiver_beginAnew_L2 true  n x1 J = some r → am_runs X T_UpRiver_beginAnew (2, [(0, am_pv 0), (1, am_iv x1)], [], am_SH, (J, K, am_RF true)) (none, am_SH, (r, K, am_RF true)) := by
  intro n
  induction n with
  | zero =>
    intro x1 J r h
    cases h
  | succ n ih =>
    intro x1 J r h
    rw [f_UpRiver_beginAnew_L2.eq_2] at h
    obtain ⟨g62, h⟩ := am_if_some h
    by_cases c63 : 300 < x1
    · rw [if_pos c63] at h
      refine am_r_t (show am_stepn X T_UpRiver_beginAnew 3 true (2, [(0, am_pv 0), (1, am_iv x1)], [], am_SH, (J, K, am_RF true)) = some (((decide (am_i32 300) && decide (am_i32 x1)) && true), .inl (bif am_cb .gt x1 300 then 22 else 9, [(0, am_pv 0), (1, am_iv x1)], [], am_SH, (J, K, am_RF true))) from rfl) (am_g2 (by decide) g62 rfl) (decide_eq_true c63) ?_
      obtain ⟨q64, e65, h⟩ := am_bind_some h
      refine am_r_call (show am_stepn X T_UpRiver_beginAnew 7 true (22, [(0, am_pv 0), (1, am_iv x1)], [], am_SH, (J, K, am_RF true)) = some (true, .inr (.inl (51, [am_pv 18, am_pv (am_rv true), am_iv 0], 3, 0, 0, 37, [(0, am_pv 0)], [], am_SH, (J, K, am_RF true)))) from rfl) rfl tb_Boat_lieAtStart (s_Boat_lieAtStart (by decide) e65) ?_
      refine am_r_go (show am_stepn X T_UpRiver_beginAnew 12 true (37, [(0, am_pv 0)], [], am_SH, (q64, K, am_RF true)) = some (true, .inl (61, [(0, am_pv 0), (1, am_iv 0)], [], am_SH, ((am_up (am_up q64 19 2 0) 22 1 0), K, am_RF true))) from rfl) rfl ?_
      exact s_UpRiver_beginAnew_L61_t  _ _ _ _ h
    · rw [if_neg c63] at h
      refine am_r_f (show am_stepn X T_UpRiver_beginAnew 3 true (2, [(0, am_pv 0), (1, am_iv x1)], [], am_SH, (J, K, am_RF true)) = some (((decide (am_i32 300) && decide (am_i32 x1)) && true), .inl (bif am_cb .gt x1 300 then 22 else 9, [(0, am_pv 0), (1, am_iv x1)], [], am_SH, (J, K, am_RF true))) from rfl) (am_g2 (by decide) g62 rfl) (decide_eq_false c63) ?_
      obtain ⟨g66, h⟩ := am_if_some h
      refine am_r_go (show am_stepn X T_UpRiver_beginAnew 7 true (9, [(0, am_pv 0), (1, am_iv x1)], [], am_SH, (J, K, am_RF true)) = some ((am_in x1 301 && true), .inl (2, [(0, am_pv 0), (1, am_iv (x1 + 1))], [], am_SH, ((am_up J 31 x1.toNat 0), K, am_RF true))) from rfl) (am_gi g66 rfl) ?_
      exact ih _ _ _ h
theorem s_UpRiver_beginAnew_t {X : am_X} {K : am_K} {J : am_J} {r : am_J} (h : f_UpRiver_beginAnew true J = some r) : am_runs X T_UpRiver_beginAnew (0, [(0, am_pv 0)], [], am_SH, (J, K, am_RF true)) (none, am_SH, (r, K, am_RF true)) := by
  unfold f_UpRiver_beginAnew at h
  refine am_r_go (show am_stepn X T_UpRiver_beginAnew 2 true (0, [(0, am_pv 0)], [], am_SH, (J, K, am_RF true)) = some (true, .inl (2, [(0, am_pv 0), (1, am_iv 0)], [], am_SH, (J, K, am_RF true))) from rfl) rfl ?_
  exact s_UpRiver_beginAnew_L2_t  _ _ _ _ h
theorem s_UpRiver_beginAnew {X : am_X} {b : Bool} {K : am_K} {J : am_J} {r : am_J} (h : f_UpRiver_beginAnew b J = some r) : am_runs X T_UpRiver_beginAnew (0, [(0, am_pv 0)], [], am_SH, (J, K, am_RF b)) (none, am_SH, (r, K, am_RF b)) := by
  cases b
  · exact s_UpRiver_beginAnew_f h
  · exact s_UpRiver_beginAnew_t h
theorem s_Reader_fail {X : am_X} {b : Bool} {K : am_K} {x1 : Int} {x2 : Int} {J : am_J} {r : Int × am_J} (h : f_Reader_fail  x1 x2 J = some r) : am_runs X T_Reader_fail (0, [(0, am_pv 1), (1, am_iv x1), (2, am_iv x2)], [], am_SH, (J, K, am_RF b)) (some (am_iv r.1), am_SH, (r.2, K, am_RF b)) := by
  unfold f_Reader_fail at h
  obtain rfl := Option.some.inj h
  exact am_r_ret (show am_stepn X T_Reader_fail 8 true (0, [(0, am_pv 1), (1, am_iv x1), (2, am_iv x2)], [], am_SH, (J, K, am_RF b)) = some ((decide ((0 : Int) = 0 ∨ (0 : Int) = 1) && true), .inr (.inr (some (am_iv 0), am_SH, ((am_up (am_up J 1 10 x1) 1 11 x2), K, am_RF b)))) from rfl) (am_g1 (by decide) rfl)
theorem s_Reader_forget_L27 {X : am_X} {b : Bool} {K : am_K}  : ∀ (n : Nat) (x1 : Int) (J : am_J) (r : am_J), f_Reader_forget_L27   n x1 J = some r → am_runs X T_Reader_forget (27, [(0, am_pv 1), (1, am_iv x1)], [], am_SH, (J, K, am_RF b)) (none, am_SH, (r, K, am_RF b)) := by
  intro n
  induction n with
  | zero =>
    intro x1 J r h
    cases h
  | succ n ih =>
    intro x1 J r h
    rw [f_Reader_forget_L27.eq_2] at h
    obtain ⟨g67, h⟩ := am_if_some h
    by_cases c68 : x1 < 182
    · rw [if_pos c68] at h
      refine am_r_f (show am_stepn X T_Reader_forget 3 true (27, [(0, am_pv 1), (1, am_iv x1)], [], am_SH, (J, K, am_RF b)) = some (((decide (am_i32 182) && decide (am_i32 x1)) && true), .inl (bif am_cb .ge x1 182 then 47 else 34, [(0, am_pv 1), (1, am_iv x1)], [], am_SH, (J, K, am_RF b))) from rfl) (am_g2 (by decide) g67 rfl) (am_nd_t c68) ?_
      obtain ⟨g69, h⟩ := am_if_some h
      refine am_r_go (show am_stepn X T_Reader_forget 7 true (34, [(0, am_pv 1), (1, am_iv x1)], [], am_SH, (J, K, am_RF b)) = some (((decide ((0 : Int) = 0 ∨ (0 : Int) = 1) && am_in x1 182) && true), .inl (27, [(0, am_pv 1), (1, am_iv (x1 + 1))], [], am_SH, ((am_up J 4 x1.toNat 0), K, am_RF b))) from rfl) (am_gz (by decide) g69 rfl) ?_
      exact ih _ _ _ h
    · rw [if_neg c68] at h
      refine am_r_t (show am_stepn X T_Reader_forget 3 true (27, [(0, am_pv 1), (1, am_iv x1)], [], am_SH, (J, K, am_RF b)) = some (((decide (am_i32 182) && decide (am_i32 x1)) && true), .inl (bif am_cb .ge x1 182 then 47 else 34, [(0, am_pv 1), (1, am_iv x1)], [], am_SH, (J, K, am_RF b))) from rfl) (am_g2 (by decide) g67 rfl) (am_nd_f c68) ?_
      obtain rfl := Option.some.inj h
      exact am_r_ret (show am_stepn X T_Reader_forget 1 true (47, [(0, am_pv 1), (1, am_iv x1)], [], am_SH, (J, K, am_RF b)) = some (true, .inr (.inr (none, am_SH, (J, K, am_RF b)))) from rfl) rfl
theorem s_Reader_forget {X : am_X} {b : Bool} {K : am_K} {J : am_J} {r : am_J} (h : f_Reader_forget  J = some r) : am_runs X T_Reader_forget (0, [(0, am_pv 1)], [], am_SH, (J, K, am_RF b)) (none, am_SH, (r, K, am_RF b)) := by
  unfold f_Reader_forget at h
  refine am_r_go (show am_stepn X T_Reader_forget 17 true (0, [(0, am_pv 1)], [], am_SH, (J, K, am_RF b)) = some (true, .inl (27, [(0, am_pv 1), (1, am_iv 0)], [], am_SH, ((am_up (am_up (am_up (am_up (am_up J 1 4 0) 1 8 0) 1 9 (-1)) 1 10 0) 1 11 0), K, am_RF b))) from rfl) rfl ?_
  exact s_Reader_forget_L27  _ _ _ _ h
theorem s_Reader_isFigure {X : am_X} {b : Bool} {J : am_J} {K : am_K} {x0 : Int} {r : Int} (h : f_Reader_isFigure  x0 = some r) : am_runs X T_Reader_isFigure (0, [(0, am_iv x0)], [], am_SH, (J, K, am_RF b)) (some (am_iv r), am_SH, (J, K, am_RF b)) := by
  unfold f_Reader_isFigure at h
  obtain ⟨g70, h⟩ := am_if_some h
  by_cases c71 : x0 < 48
  · rw [if_pos c71] at h
    refine am_r_t (show am_stepn X T_Reader_isFigure 3 true (0, [(0, am_iv x0)], [], am_SH, (J, K, am_RF b)) = some (((decide (am_i32 48) && decide (am_i32 x0)) && true), .inl (bif am_cb .lt x0 48 then 16 else 6, [(0, am_iv x0)], [], am_SH, (J, K, am_RF b))) from rfl) (am_g2 (by decide) g70 rfl) (decide_eq_true c71) ?_
    obtain rfl := Option.some.inj h
    exact am_r_ret (show am_stepn X T_Reader_isFigure 2 true (16, [(0, am_iv x0)], [], am_SH, (J, K, am_RF b)) = some ((decide ((0 : Int) = 0 ∨ (0 : Int) = 1) && true), .inr (.inr (some (am_iv 0), am_SH, (J, K, am_RF b)))) from rfl) (am_g1 (by decide) rfl)
  · rw [if_neg c71] at h
    refine am_r_f (show am_stepn X T_Reader_isFigure 3 true (0, [(0, am_iv x0)], [], am_SH, (J, K, am_RF b)) = some (((decide (am_i32 48) && decide (am_i32 x0)) && true), .inl (bif am_cb .lt x0 48 then 16 else 6, [(0, am_iv x0)], [], am_SH, (J, K, am_RF b))) from rfl) (am_g2 (by decide) g70 rfl) (decide_eq_false c71) ?_
    by_cases c72 : 57 < x0
    · rw [if_pos c72] at h
      refine am_r_t (show am_stepn X T_Reader_isFigure 3 true (6, [(0, am_iv x0)], [], am_SH, (J, K, am_RF b)) = some (((decide (am_i32 57) && decide (am_i32 x0)) && true), .inl (bif am_cb .gt x0 57 then 16 else 12, [(0, am_iv x0)], [], am_SH, (J, K, am_RF b))) from rfl) (am_g2 (by decide) g70 rfl) (decide_eq_true c72) ?_
      obtain rfl := Option.some.inj h
      exact am_r_ret (show am_stepn X T_Reader_isFigure 2 true (16, [(0, am_iv x0)], [], am_SH, (J, K, am_RF b)) = some ((decide ((0 : Int) = 0 ∨ (0 : Int) = 1) && true), .inr (.inr (some (am_iv 0), am_SH, (J, K, am_RF b)))) from rfl) (am_g1 (by decide) rfl)
    · rw [if_neg c72] at h
      refine am_r_f (show am_stepn X T_Reader_isFigure 3 true (6, [(0, am_iv x0)], [], am_SH, (J, K, am_RF b)) = some (((decide (am_i32 57) && decide (am_i32 x0)) && true), .inl (bif am_cb .gt x0 57 then 16 else 12, [(0, am_iv x0)], [], am_SH, (J, K, am_RF b))) from rfl) (am_g2 (by decide) g70 rfl) (decide_eq_false c72) ?_
      obtain rfl := Option.some.inj h
      exact am_r_ret (show am_stepn X T_Reader_isFigure 3 true (12, [(0, am_iv x0)], [], am_SH, (J, K, am_RF b)) = some ((decide ((1 : Int) = 0 ∨ (1 : Int) = 1) && true), .inr (.inr (some (am_iv 1), am_SH, (J, K, am_RF b)))) from rfl) (am_g1 (by decide) rfl)
theorem s_Reader_isLetter {X : am_X} {b : Bool} {J : am_J} {K : am_K} {x0 : Int} {r : Int} (h : f_Reader_isLetter  x0 = some r) : am_runs X T_Reader_isLetter (0, [(0, am_iv x0)], [], am_SH, (J, K, am_RF b)) (some (am_iv r), am_SH, (J, K, am_RF b)) := by
  unfold f_Reader_isLetter at h
  obtain ⟨g73, h⟩ := am_if_some h
  by_cases c74 : x0 < 97
  · rw [if_pos c74] at h
    refine am_r_t (show am_stepn X T_Reader_isLetter 3 true (0, [(0, am_iv x0)], [], am_SH, (J, K, am_RF b)) = some (((decide (am_i32 97) && decide (am_i32 x0)) && true), .inl (bif am_cb .lt x0 97 then 16 else 6, [(0, am_iv x0)], [], am_SH, (J, K, am_RF b))) from rfl) (am_g2 (by decide) g73 rfl) (decide_eq_true c74) ?_
    obtain rfl := Option.some.inj h
    exact am_r_ret (show am_stepn X T_Reader_isLetter 2 true (16, [(0, am_iv x0)], [], am_SH, (J, K, am_RF b)) = some ((decide ((0 : Int) = 0 ∨ (0 : Int) = 1) && true), .inr (.inr (some (am_iv 0), am_SH, (J, K, am_RF b)))) from rfl) (am_g1 (by decide) rfl)
  · rw [if_neg c74] at h
    refine am_r_f (show am_stepn X T_Reader_isLetter 3 true (0, [(0, am_iv x0)], [], am_SH, (J, K, am_RF b)) = some (((decide (am_i32 97) && decide (am_i32 x0)) && true), .inl (bif am_cb .lt x0 97 then 16 else 6, [(0, am_iv x0)], [], am_SH, (J, K, am_RF b))) from rfl) (am_g2 (by decide) g73 rfl) (decide_eq_false c74) ?_
    by_cases c75 : 122 < x0
    · rw [if_pos c75] at h
      refine am_r_t (show am_stepn X T_Reader_isLetter 3 true (6, [(0, am_iv x0)], [], am_SH, (J, K, am_RF b)) = some (((decide (am_i32 122) && decide (am_i32 x0)) && true), .inl (bif am_cb .gt x0 122 then 16 else 12, [(0, am_iv x0)], [], am_SH, (J, K, am_RF b))) from rfl) (am_g2 (by decide) g73 rfl) (decide_eq_true c75) ?_
      obtain rfl := Option.some.inj h
      exact am_r_ret (show am_stepn X T_Reader_isLetter 2 true (16, [(0, am_iv x0)], [], am_SH, (J, K, am_RF b)) = some ((decide ((0 : Int) = 0 ∨ (0 : Int) = 1) && true), .inr (.inr (some (am_iv 0), am_SH, (J, K, am_RF b)))) from rfl) (am_g1 (by decide) rfl)
    · rw [if_neg c75] at h
      refine am_r_f (show am_stepn X T_Reader_isLetter 3 true (6, [(0, am_iv x0)], [], am_SH, (J, K, am_RF b)) = some (((decide (am_i32 122) && decide (am_i32 x0)) && true), .inl (bif am_cb .gt x0 122 then 16 else 12, [(0, am_iv x0)], [], am_SH, (J, K, am_RF b))) from rfl) (am_g2 (by decide) g73 rfl) (decide_eq_false c75) ?_
      obtain rfl := Option.some.inj h
      exact am_r_ret (show am_stepn X T_Reader_isLetter 3 true (12, [(0, am_iv x0)], [], am_SH, (J, K, am_RF b)) = some ((decide ((1 : Int) = 0 ∨ (1 : Int) = 1) && true), .inr (.inr (some (am_iv 1), am_SH, (J, K, am_RF b)))) from rfl) (am_g1 (by decide) rfl)
theorem s_Tape_at {X : am_X} {b : Bool} {J : am_J} {K : am_K} {x1 : Int} {r : Int} (h : f_Tape_at J x1 = some r) : am_runs X T_Tape_at (0, [(0, am_pv 2), (1, am_iv x1)], [], am_SH, (J, K, am_RF b)) (some (am_iv r), am_SH, (J, K, am_RF b)) := by
  unfold f_Tape_at at h
  obtain ⟨g76, h⟩ := am_if_some h
  by_cases c77 : x1 < 0
  · rw [if_pos c77] at h
    refine am_r_t (show am_stepn X T_Tape_at 2 true (0, [(0, am_pv 2), (1, am_iv x1)], [], am_SH, (J, K, am_RF b)) = some ((decide (am_i32 x1) && true), .inl (bif am_cb .lt x1 0 then 25 else 4, [(0, am_pv 2), (1, am_iv x1)], [], am_SH, (J, K, am_RF b))) from rfl) (am_g1 g76 rfl) (decide_eq_true c77) ?_
    obtain rfl := Option.some.inj h
    exact am_r_ret (show am_stepn X T_Tape_at 2 true (25, [(0, am_pv 2), (1, am_iv x1)], [], am_SH, (J, K, am_RF b)) = some (true, .inr (.inr (some (am_iv 0), am_SH, (J, K, am_RF b)))) from rfl) rfl
  · rw [if_neg c77] at h
    refine am_r_f (show am_stepn X T_Tape_at 2 true (0, [(0, am_pv 2), (1, am_iv x1)], [], am_SH, (J, K, am_RF b)) = some ((decide (am_i32 x1) && true), .inl (bif am_cb .lt x1 0 then 25 else 4, [(0, am_pv 2), (1, am_iv x1)], [], am_SH, (J, K, am_RF b))) from rfl) (am_g1 g76 rfl) (decide_eq_false c77) ?_
    obtain ⟨g78, h⟩ := am_if_some h
    by_cases c79 : x1 < (J 2 1)
    · rw [if_pos c79] at h
      refine am_r_f (show am_stepn X T_Tape_at 4 true (4, [(0, am_pv 2), (1, am_iv x1)], [], am_SH, (J, K, am_RF b)) = some (((decide (am_i32 (J 2 1)) && decide (am_i32 x1)) && true), .inl (bif am_cb .ge x1 (J 2 1) then 25 else 12, [(0, am_pv 2), (1, am_iv x1)], [], am_SH, (J, K, am_RF b))) from rfl) (am_g2 g78 g76 rfl) (am_nd_t c79) ?_
      obtain ⟨g80, h⟩ := am_if_some h
      obtain rfl := Option.some.inj h
      exact am_r_ret (show am_stepn X T_Tape_at 8 true (12, [(0, am_pv 2), (1, am_iv x1)], [], am_SH, (J, K, am_RF b)) = some ((am_in x1 400 && true), .inr (.inr (some (am_iv (am_and (J 3 x1.toNat) 255)), am_SH, (J, K, am_RF b)))) from rfl) (am_gi g80 rfl)
    · rw [if_neg c79] at h
      refine am_r_t (show am_stepn X T_Tape_at 4 true (4, [(0, am_pv 2), (1, am_iv x1)], [], am_SH, (J, K, am_RF b)) = some (((decide (am_i32 (J 2 1)) && decide (am_i32 x1)) && true), .inl (bif am_cb .ge x1 (J 2 1) then 25 else 12, [(0, am_pv 2), (1, am_iv x1)], [], am_SH, (J, K, am_RF b))) from rfl) (am_g2 g78 g76 rfl) (am_nd_f c79) ?_
      obtain rfl := Option.some.inj h
      exact am_r_ret (show am_stepn X T_Tape_at 2 true (25, [(0, am_pv 2), (1, am_iv x1)], [], am_SH, (J, K, am_RF b)) = some (true, .inr (.inr (some (am_iv 0), am_SH, (J, K, am_RF b)))) from rfl) rfl
theorem s_Reader_skipName_L0 {X : am_X} {b : Bool} {K : am_K}  : ∀ (n : Nat) (J : am_J) (r : am_J), f_Reader_skipName_L0   n J = some r → am_runs X T_Reader_skipName (0, [(0, am_pv 1)], [], am_SH, (J, K, am_RF b)) (none, am_SH, (r, K, am_RF b)) := by
  intro n
  induction n with
  | zero =>
    intro J r h
    cases h
  | succ n ih =>
    intro J r h
    rw [f_Reader_skipName_L0.eq_2] at h
    obtain ⟨g81, h⟩ := am_if_some h
    obtain ⟨g82, h⟩ := am_if_some h
    by_cases c83 : (J 1 4) < (J 2 1)
    · rw [if_pos c83] at h
      refine am_r_f (show am_stepn X T_Reader_skipName 6 true (0, [(0, am_pv 1)], [], am_SH, (J, K, am_RF b)) = some (((decide (am_i32 (J 2 1)) && decide (am_i32 (J 1 4))) && true), .inl (bif am_cb .ge (J 1 4) (J 2 1) then 44 else 14, [(0, am_pv 1)], [], am_SH, (J, K, am_RF b))) from rfl) (am_g2 g81 g82 rfl) (am_nd_t c83) ?_
      obtain ⟨q84, e85, h⟩ := am_bind_some h
      refine am_r_call (show am_stepn X T_Reader_skipName 5 true (14, [(0, am_pv 1)], [], am_SH, (J, K, am_RF b)) = some (true, .inr (.inl (22, [am_pv 2, am_iv (J 1 4)], 2, 0, 0, 25, [(0, am_pv 1)], [], am_SH, (J, K, am_RF b)))) from rfl) rfl tb_Tape_at (s_Tape_at e85) ?_
      obtain ⟨q86, e87, h⟩ := am_bind_some h
      refine am_r_call (show am_stepn X T_Reader_skipName 1 true (25, [(0, am_pv 1)], [am_iv q84], am_SH, (J, K, am_RF b)) = some (true, .inr (.inl (23, [am_iv q84], 1, 0, 0, 28, [(0, am_pv 1)], [], am_SH, (J, K, am_RF b)))) from rfl) rfl tb_Reader_isLetter (s_Reader_isLetter e87) ?_
      obtain ⟨g88, h⟩ := am_if_some h
      by_cases c89 : q86 = 0
      · rw [if_pos c89] at h
        refine am_r_t (show am_stepn X T_Reader_skipName 1 true (28, [(0, am_pv 1)], [am_iv q86], am_SH, (J, K, am_RF b)) = some ((decide (am_i32 q86) && true), .inl (bif am_cb .eq q86 0 then 44 else 31, [(0, am_pv 1)], [], am_SH, (J, K, am_RF b))) from rfl) (am_g1 g88 rfl) (decide_eq_true c89) ?_
        obtain rfl := Option.some.inj h
        exact am_r_ret (show am_stepn X T_Reader_skipName 1 true (44, [(0, am_pv 1)], [], am_SH, (J, K, am_RF b)) = some (true, .inr (.inr (none, am_SH, (J, K, am_RF b)))) from rfl) rfl
      · rw [if_neg c89] at h
        refine am_r_f (show am_stepn X T_Reader_skipName 1 true (28, [(0, am_pv 1)], [am_iv q86], am_SH, (J, K, am_RF b)) = some ((decide (am_i32 q86) && true), .inl (bif am_cb .eq q86 0 then 44 else 31, [(0, am_pv 1)], [], am_SH, (J, K, am_RF b))) from rfl) (am_g1 g88 rfl) (decide_eq_false c89) ?_
        refine am_r_go (show am_stepn X T_Reader_skipName 7 true (31, [(0, am_pv 1)], [], am_SH, (J, K, am_RF b)) = some (true, .inl (0, [(0, am_pv 1)], [], am_SH, ((am_up J 1 4 ((J 1 4) + 1)), K, am_RF b))) from rfl) rfl ?_
        exact ih _ _ h
    · rw [if_neg c83] at h
      refine am_r_t (show am_stepn X T_Reader_skipName 6 true (0, [(0, am_pv 1)], [], am_SH, (J, K, am_RF b)) = some (((decide (am_i32 (J 2 1)) && decide (am_i32 (J 1 4))) && true), .inl (bif am_cb .ge (J 1 4) (J 2 1) then 44 else 14, [(0, am_pv 1)], [], am_SH, (J, K, am_RF b))) from rfl) (am_g2 g81 g82 rfl) (am_nd_f c83) ?_
      obtain rfl := Option.some.inj h
      exact am_r_ret (show am_stepn X T_Reader_skipName 1 true (44, [(0, am_pv 1)], [], am_SH, (J, K, am_RF b)) = some (true, .inr (.inr (none, am_SH, (J, K, am_RF b)))) from rfl) rfl
theorem s_Reader_skipName {X : am_X} {b : Bool} {K : am_K} {J : am_J} {r : am_J} (h : f_Reader_skipName  J = some r) : am_runs X T_Reader_skipName (0, [(0, am_pv 1)], [], am_SH, (J, K, am_RF b)) (none, am_SH, (r, K, am_RF b)) := by
  unfold f_Reader_skipName at h
  exact s_Reader_skipName_L0  _ _ _ h
theorem s_Reader_takeNumber_L5 {X : am_X} {b : Bool} {K : am_K}  : ∀ (n : Nat) (J : am_J) (r : Int × am_J), f_Reader_takeNumber_L5   n J = some r → am_runs X T_Reader_takeNumber (5, [(0, am_pv 1)], [], am_SH, (J, K, am_RF b)) (some (am_iv r.1), am_SH, (r.2, K, am_RF b)) := by
  intro n
  induction n with
  | zero =>
    intro J r h
    cases h
  | succ n ih =>
    intro J r h
    rw [f_Reader_takeNumber_L5.eq_2] at h
    obtain ⟨g90, h⟩ := am_if_some h
    obtain ⟨g91, h⟩ := am_if_some h
    by_cases c92 : (J 1 4) < (J 2 1)
    · rw [if_pos c92] at h
      refine am_r_f (show am_stepn X T_Reader_takeNumber 6 true (5, [(0, am_pv 1)], [], am_SH, (J, K, am_RF b)) = some (((decide (am_i32 (J 2 1)) && decide (am_i32 (J 1 4))) && true), .inl (bif am_cb .ge (J 1 4) (J 2 1) then 98 else 19, [(0, am_pv 1)], [], am_SH, (J, K, am_RF b))) from rfl) (am_g2 g90 g91 rfl) (am_nd_t c92) ?_
      obtain ⟨q93, e94, h⟩ := am_bind_some h
      refine am_r_call (show am_stepn X T_Reader_takeNumber 5 true (19, [(0, am_pv 1)], [], am_SH, (J, K, am_RF b)) = some (true, .inr (.inl (22, [am_pv 2, am_iv (J 1 4)], 2, 0, 0, 30, [(0, am_pv 1)], [], am_SH, (J, K, am_RF b)))) from rfl) rfl tb_Tape_at (s_Tape_at e94) ?_
      obtain ⟨q95, e96, h⟩ := am_bind_some h
      refine am_r_call (show am_stepn X T_Reader_takeNumber 1 true (30, [(0, am_pv 1)], [am_iv q93], am_SH, (J, K, am_RF b)) = some (true, .inr (.inl (25, [am_iv q93], 1, 0, 0, 33, [(0, am_pv 1)], [], am_SH, (J, K, am_RF b)))) from rfl) rfl tb_Reader_isFigure (s_Reader_isFigure e96) ?_
      obtain ⟨g97, h⟩ := am_if_some h
      by_cases c98 : q95 = 0
      · rw [if_pos c98] at h
        refine am_r_t (show am_stepn X T_Reader_takeNumber 1 true (33, [(0, am_pv 1)], [am_iv q95], am_SH, (J, K, am_RF b)) = some ((decide (am_i32 q95) && true), .inl (bif am_cb .eq q95 0 then 98 else 36, [(0, am_pv 1)], [], am_SH, (J, K, am_RF b))) from rfl) (am_g1 g97 rfl) (decide_eq_true c98) ?_
        obtain rfl := Option.some.inj h
        exact am_r_ret (show am_stepn X T_Reader_takeNumber 2 true (98, [(0, am_pv 1)], [], am_SH, (J, K, am_RF b)) = some ((decide ((1 : Int) = 0 ∨ (1 : Int) = 1) && true), .inr (.inr (some (am_iv 1), am_SH, (J, K, am_RF b)))) from rfl) (am_g1 (by decide) rfl)
      · rw [if_neg c98] at h
        refine am_r_f (show am_stepn X T_Reader_takeNumber 1 true (33, [(0, am_pv 1)], [am_iv q95], am_SH, (J, K, am_RF b)) = some ((decide (am_i32 q95) && true), .inl (bif am_cb .eq q95 0 then 98 else 36, [(0, am_pv 1)], [], am_SH, (J, K, am_RF b))) from rfl) (am_g1 g97 rfl) (decide_eq_false c98) ?_
        obtain ⟨g99, h⟩ := am_if_some h
        by_cases c100 : ((J 1 4) - (J 1 6)) < 3
        · rw [if_pos c100] at h
          refine am_r_t (show am_stepn X T_Reader_takeNumber 7 true (36, [(0, am_pv 1)], [], am_SH, (J, K, am_RF b)) = some (((decide (am_i32 3) && decide (am_i32 ((J 1 4) - (J 1 6)))) && true), .inl (bif am_cb .lt ((J 1 4) - (J 1 6)) 3 then 59 else 49, [(0, am_pv 1)], [], am_SH, (J, K, am_RF b))) from rfl) (am_g2 (by decide) g99 rfl) (decide_eq_true c100) ?_
          obtain ⟨q101, e102, h⟩ := am_bind_some h
          refine am_r_call (show am_stepn X T_Reader_takeNumber 10 true (59, [(0, am_pv 1)], [], am_SH, (J, K, am_RF b)) = some (true, .inr (.inl (22, [am_pv 2, am_iv (J 1 4)], 2, 0, 0, 78, [(0, am_pv 1)], [am_iv ((J 1 7) * 10), am_pv 1], am_SH, (J, K, am_RF b)))) from rfl) rfl tb_Tape_at (s_Tape_at e102) ?_
          refine am_r_go (show am_stepn X T_Reader_takeNumber 11 true (78, [(0, am_pv 1)], [am_iv q101, am_iv ((J 1 7) * 10), am_pv 1], am_SH, (J, K, am_RF b)) = some (true, .inl (5, [(0, am_pv 1)], [], am_SH, ((am_up (am_up J 1 7 ((((J 1 7) * 10) + q101) - 48)) 1 4 ((J 1 4) + 1)), K, am_RF b))) from rfl) rfl ?_
          exact ih _ _ h
        · rw [if_neg c100] at h
          refine am_r_f (show am_stepn X T_Reader_takeNumber 7 true (36, [(0, am_pv 1)], [], am_SH, (J, K, am_RF b)) = some (((decide (am_i32 3) && decide (am_i32 ((J 1 4) - (J 1 6)))) && true), .inl (bif am_cb .lt ((J 1 4) - (J 1 6)) 3 then 59 else 49, [(0, am_pv 1)], [], am_SH, (J, K, am_RF b))) from rfl) (am_g2 (by decide) g99 rfl) (decide_eq_false c100) ?_
          obtain ⟨q103, e104, h⟩ := am_bind_some h
          refine am_r_call (show am_stepn X T_Reader_takeNumber 5 true (49, [(0, am_pv 1)], [], am_SH, (J, K, am_RF b)) = some (true, .inr (.inl (27, [am_pv 1, am_iv 1, am_iv (J 1 6)], 3, 0, 0, 58, [(0, am_pv 1)], [], am_SH, (J, K, am_RF b)))) from rfl) rfl tb_Reader_fail (s_Reader_fail e104) ?_
          obtain ⟨g105, h⟩ := am_if_some h
          obtain rfl := Option.some.inj h
          exact am_r_ret (show am_stepn X T_Reader_takeNumber 1 true (58, [(0, am_pv 1)], [am_iv q103.1], am_SH, (q103.2, K, am_RF b)) = some ((decide ((q103.1 : Int) = 0 ∨ (q103.1 : Int) = 1) && true), .inr (.inr (some (am_iv q103.1), am_SH, (q103.2, K, am_RF b)))) from rfl) (am_g1 g105 rfl)
    · rw [if_neg c92] at h
      refine am_r_t (show am_stepn X T_Reader_takeNumber 6 true (5, [(0, am_pv 1)], [], am_SH, (J, K, am_RF b)) = some (((decide (am_i32 (J 2 1)) && decide (am_i32 (J 1 4))) && true), .inl (bif am_cb .ge (J 1 4) (J 2 1) then 98 else 19, [(0, am_pv 1)], [], am_SH, (J, K, am_RF b))) from rfl) (am_g2 g90 g91 rfl) (am_nd_f c92) ?_
      obtain rfl := Option.some.inj h
      exact am_r_ret (show am_stepn X T_Reader_takeNumber 2 true (98, [(0, am_pv 1)], [], am_SH, (J, K, am_RF b)) = some ((decide ((1 : Int) = 0 ∨ (1 : Int) = 1) && true), .inr (.inr (some (am_iv 1), am_SH, (J, K, am_RF b)))) from rfl) (am_g1 (by decide) rfl)
theorem s_Reader_takeNumber {X : am_X} {b : Bool} {K : am_K} {J : am_J} {r : Int × am_J} (h : f_Reader_takeNumber  J = some r) : am_runs X T_Reader_takeNumber (0, [(0, am_pv 1)], [], am_SH, (J, K, am_RF b)) (some (am_iv r.1), am_SH, (r.2, K, am_RF b)) := by
  unfold f_Reader_takeNumber at h
  refine am_r_go (show am_stepn X T_Reader_takeNumber 3 true (0, [(0, am_pv 1)], [], am_SH, (J, K, am_RF b)) = some (true, .inl (5, [(0, am_pv 1)], [], am_SH, ((am_up J 1 7 0), K, am_RF b))) from rfl) rfl ?_
  exact s_Reader_takeNumber_L5  _ _ _ h
theorem s_Reader_nextToken_L43 {X : am_X} {b : Bool} {K : am_K}  : ∀ (J : am_J) (r : Int × am_J), f_Reader_nextToken_L43    J = some r → am_runs X T_Reader_nextToken (43, [(0, am_pv 1)], [], am_SH, (J, K, am_RF b)) (some (am_iv r.1), am_SH, (r.2, K, am_RF b)) := by
  intro J r h
  unfold f_Reader_nextToken_L43 at h
  obtain ⟨g106, h⟩ := am_if_some h
  obtain ⟨g107, h⟩ := am_if_some h
  by_cases c108 : (J 1 4) < (J 2 1)
  · rw [if_pos c108] at h
    refine am_r_t (show am_stepn X T_Reader_nextToken 10 true (43, [(0, am_pv 1)], [], am_SH, (J, K, am_RF b)) = some (((decide (am_i32 (J 2 1)) && decide (am_i32 (J 1 4))) && true), .inl (bif am_cb .lt (J 1 4) (J 2 1) then 72 else 65, [(0, am_pv 1)], [], am_SH, ((am_up J 1 6 (J 1 4)), K, am_RF b))) from rfl) (am_g2 g106 g107 rfl) (decide_eq_true c108) ?_
    obtain ⟨q109, e110, h⟩ := am_bind_some h
    refine am_r_call (show am_stepn X T_Reader_nextToken 5 true (72, [(0, am_pv 1)], [], am_SH, ((am_up J 1 6 (J 1 4)), K, am_RF b)) = some (true, .inr (.inl (22, [am_pv 2, am_iv (J 1 4)], 2, 0, 0, 83, [(0, am_pv 1)], [], am_SH, ((am_up J 1 6 (J 1 4)), K, am_RF b)))) from rfl) rfl tb_Tape_at (s_Tape_at e110) ?_
    obtain ⟨q111, e112, h⟩ := am_bind_some h
    refine am_r_call (show am_stepn X T_Reader_nextToken 3 true (83, [(0, am_pv 1)], [am_iv q109], am_SH, ((am_up J 1 6 (J 1 4)), K, am_RF b)) = some (true, .inr (.inl (23, [am_iv q109], 1, 0, 0, 88, [(0, am_pv 1), (1, am_iv q109)], [], am_SH, ((am_up J 1 6 (J 1 4)), K, am_RF b)))) from rfl) rfl tb_Reader_isLetter (s_Reader_isLetter e112) ?_
    obtain ⟨g113, h⟩ := am_if_some h
    by_cases c114 : q111 = 0
    · rw [if_pos c114] at h
      refine am_r_t (show am_stepn X T_Reader_nextToken 1 true (88, [(0, am_pv 1), (1, am_iv q109)], [am_iv q111], am_SH, ((am_up J 1 6 (J 1 4)), K, am_RF b)) = some ((decide (am_i32 q111) && true), .inl (bif am_cb .eq q111 0 then 102 else 91, [(0, am_pv 1), (1, am_iv q109)], [], am_SH, ((am_up J 1 6 (J 1 4)), K, am_RF b))) from rfl) (am_g1 g113 rfl) (decide_eq_true c114) ?_
      obtain ⟨q115, e116, h⟩ := am_bind_some h
      refine am_r_call (show am_stepn X T_Reader_nextToken 2 true (102, [(0, am_pv 1), (1, am_iv q109)], [], am_SH, ((am_up J 1 6 (J 1 4)), K, am_RF b)) = some (true, .inr (.inl (25, [am_iv q109], 1, 0, 0, 106, [(0, am_pv 1), (1, am_iv q109)], [], am_SH, ((am_up J 1 6 (J 1 4)), K, am_RF b)))) from rfl) rfl tb_Reader_isFigure (s_Reader_isFigure e116) ?_
      obtain ⟨g117, h⟩ := am_if_some h
      by_cases c118 : q115 = 0
      · rw [if_pos c118] at h
        refine am_r_t (show am_stepn X T_Reader_nextToken 1 true (106, [(0, am_pv 1), (1, am_iv q109)], [am_iv q115], am_SH, ((am_up J 1 6 (J 1 4)), K, am_RF b)) = some ((decide (am_i32 q115) && true), .inl (bif am_cb .eq q115 0 then 119 else 109, [(0, am_pv 1), (1, am_iv q109)], [], am_SH, ((am_up J 1 6 (J 1 4)), K, am_RF b))) from rfl) (am_g1 g117 rfl) (decide_eq_true c118) ?_
        obtain ⟨g119, h⟩ := am_if_some h
        by_cases c120 : q109 = 59
        · rw [if_pos c120] at h
          refine am_r_t (show am_stepn X T_Reader_nextToken 12 true (119, [(0, am_pv 1), (1, am_iv q109)], [], am_SH, ((am_up J 1 6 (J 1 4)), K, am_RF b)) = some (((decide (am_i32 59) && decide (am_i32 q109)) && true), .inl (bif am_cb .eq q109 59 then 152 else 140, [(0, am_pv 1), (1, am_iv q109)], [], am_SH, ((am_up (am_up (am_up J 1 6 (J 1 4)) 1 5 3) 1 4 ((J 1 4) + 1)), K, am_RF b))) from rfl) (am_g2 (by decide) g119 rfl) (decide_eq_true c120) ?_
          obtain rfl := Option.some.inj h
          exact am_r_ret (show am_stepn X T_Reader_nextToken 3 true (152, [(0, am_pv 1), (1, am_iv q109)], [], am_SH, ((am_up (am_up (am_up J 1 6 (J 1 4)) 1 5 3) 1 4 ((J 1 4) + 1)), K, am_RF b)) = some ((decide ((1 : Int) = 0 ∨ (1 : Int) = 1) && true), .inr (.inr (some (am_iv 1), am_SH, ((am_up (am_up (am_up J 1 6 (J 1 4)) 1 5 3) 1 4 ((J 1 4) + 1)), K, am_RF b)))) from rfl) (am_g1 (by decide) rfl)
        · rw [if_neg c120] at h
          refine am_r_f (show am_stepn X T_Reader_nextToken 12 true (119, [(0, am_pv 1), (1, am_iv q109)], [], am_SH, ((am_up J 1 6 (J 1 4)), K, am_RF b)) = some (((decide (am_i32 59) && decide (am_i32 q109)) && true), .inl (bif am_cb .eq q109 59 then 152 else 140, [(0, am_pv 1), (1, am_iv q109)], [], am_SH, ((am_up (am_up (am_up J 1 6 (J 1 4)) 1 5 3) 1 4 ((J 1 4) + 1)), K, am_RF b))) from rfl) (am_g2 (by decide) g119 rfl) (decide_eq_false c120) ?_
          obtain ⟨q121, e122, h⟩ := am_bind_some h
          refine am_r_call (show am_stepn X T_Reader_nextToken 5 true (140, [(0, am_pv 1), (1, am_iv q109)], [], am_SH, ((am_up (am_up (am_up J 1 6 (J 1 4)) 1 5 3) 1 4 ((J 1 4) + 1)), K, am_RF b)) = some (true, .inr (.inl (27, [am_pv 1, am_iv 1, am_iv (J 1 4)], 3, 0, 0, 149, [(0, am_pv 1)], [], am_SH, ((am_up (am_up (am_up J 1 6 (J 1 4)) 1 5 3) 1 4 ((J 1 4) + 1)), K, am_RF b)))) from rfl) rfl tb_Reader_fail (s_Reader_fail e122) ?_
          obtain ⟨g123, h⟩ := am_if_some h
          by_cases c124 : q121.1 = 0
          · rw [if_pos c124] at h
            refine am_r_t (show am_stepn X T_Reader_nextToken 1 true (149, [(0, am_pv 1)], [am_iv q121.1], am_SH, (q121.2, K, am_RF b)) = some ((decide (am_i32 q121.1) && true), .inl (bif am_cb .eq q121.1 0 then 156 else 152, [(0, am_pv 1)], [], am_SH, (q121.2, K, am_RF b))) from rfl) (am_g1 g123 rfl) (decide_eq_true c124) ?_
            obtain rfl := Option.some.inj h
            exact am_r_ret (show am_stepn X T_Reader_nextToken 2 true (156, [(0, am_pv 1)], [], am_SH, (q121.2, K, am_RF b)) = some ((decide ((0 : Int) = 0 ∨ (0 : Int) = 1) && true), .inr (.inr (some (am_iv 0), am_SH, (q121.2, K, am_RF b)))) from rfl) (am_g1 (by decide) rfl)
          · rw [if_neg c124] at h
            refine am_r_f (show am_stepn X T_Reader_nextToken 1 true (149, [(0, am_pv 1)], [am_iv q121.1], am_SH, (q121.2, K, am_RF b)) = some ((decide (am_i32 q121.1) && true), .inl (bif am_cb .eq q121.1 0 then 156 else 152, [(0, am_pv 1)], [], am_SH, (q121.2, K, am_RF b))) from rfl) (am_g1 g123 rfl) (decide_eq_false c124) ?_
            obtain rfl := Option.some.inj h
            exact am_r_ret (show am_stepn X T_Reader_nextToken 3 true (152, [(0, am_pv 1)], [], am_SH, (q121.2, K, am_RF b)) = some ((decide ((1 : Int) = 0 ∨ (1 : Int) = 1) && true), .inr (.inr (some (am_iv 1), am_SH, (q121.2, K, am_RF b)))) from rfl) (am_g1 (by decide) rfl)
      · rw [if_neg c118] at h
        refine am_r_f (show am_stepn X T_Reader_nextToken 1 true (106, [(0, am_pv 1), (1, am_iv q109)], [am_iv q115], am_SH, ((am_up J 1 6 (J 1 4)), K, am_RF b)) = some ((decide (am_i32 q115) && true), .inl (bif am_cb .eq q115 0 then 119 else 109, [(0, am_pv 1), (1, am_iv q109)], [], am_SH, ((am_up J 1 6 (J 1 4)), K, am_RF b))) from rfl) (am_g1 g117 rfl) (decide_eq_false c118) ?_
        obtain ⟨q125, e126, h⟩ := am_bind_some h
        refine am_r_call (show am_stepn X T_Reader_nextToken 5 true (109, [(0, am_pv 1), (1, am_iv q109)], [], am_SH, ((am_up J 1 6 (J 1 4)), K, am_RF b)) = some (true, .inr (.inl (26, [am_pv 1], 1, 0, 0, 118, [(0, am_pv 1)], [], am_SH, ((am_up (am_up J 1 6 (J 1 4)) 1 5 2), K, am_RF b)))) from rfl) rfl tb_Reader_takeNumber (s_Reader_takeNumber e126) ?_
        obtain ⟨g127, h⟩ := am_if_some h
        obtain rfl := Option.some.inj h
        exact am_r_ret (show am_stepn X T_Reader_nextToken 1 true (118, [(0, am_pv 1)], [am_iv q125.1], am_SH, (q125.2, K, am_RF b)) = some ((decide ((q125.1 : Int) = 0 ∨ (q125.1 : Int) = 1) && true), .inr (.inr (some (am_iv q125.1), am_SH, (q125.2, K, am_RF b)))) from rfl) (am_g1 g127 rfl)
    · rw [if_neg c114] at h
      refine am_r_f (show am_stepn X T_Reader_nextToken 1 true (88, [(0, am_pv 1), (1, am_iv q109)], [am_iv q111], am_SH, ((am_up J 1 6 (J 1 4)), K, am_RF b)) = some ((decide (am_i32 q111) && true), .inl (bif am_cb .eq q111 0 then 102 else 91, [(0, am_pv 1), (1, am_iv q109)], [], am_SH, ((am_up J 1 6 (J 1 4)), K, am_RF b))) from rfl) (am_g1 g113 rfl) (decide_eq_false c114) ?_
      obtain ⟨q128, e129, h⟩ := am_bind_some h
      refine am_r_call (show am_stepn X T_Reader_nextToken 5 true (91, [(0, am_pv 1), (1, am_iv q109)], [], am_SH, ((am_up J 1 6 (J 1 4)), K, am_RF b)) = some (true, .inr (.inl (24, [am_pv 1], 1, 0, 0, 100, [(0, am_pv 1)], [], am_SH, ((am_up (am_up J 1 6 (J 1 4)) 1 5 1), K, am_RF b)))) from rfl) rfl tb_Reader_skipName (s_Reader_skipName e129) ?_
      obtain rfl := Option.some.inj h
      exact am_r_ret (show am_stepn X T_Reader_nextToken 2 true (100, [(0, am_pv 1)], [], am_SH, (q128, K, am_RF b)) = some ((decide ((1 : Int) = 0 ∨ (1 : Int) = 1) && true), .inr (.inr (some (am_iv 1), am_SH, (q128, K, am_RF b)))) from rfl) (am_g1 (by decide) rfl)
  · rw [if_neg c108] at h
    refine am_r_f (show am_stepn X T_Reader_nextToken 10 true (43, [(0, am_pv 1)], [], am_SH, (J, K, am_RF b)) = some (((decide (am_i32 (J 2 1)) && decide (am_i32 (J 1 4))) && true), .inl (bif am_cb .lt (J 1 4) (J 2 1) then 72 else 65, [(0, am_pv 1)], [], am_SH, ((am_up J 1 6 (J 1 4)), K, am_RF b))) from rfl) (am_g2 g106 g107 rfl) (decide_eq_false c108) ?_
    obtain rfl := Option.some.inj h
    exact am_r_ret (show am_stepn X T_Reader_nextToken 5 true (65, [(0, am_pv 1)], [], am_SH, ((am_up J 1 6 (J 1 4)), K, am_RF b)) = some ((decide ((1 : Int) = 0 ∨ (1 : Int) = 1) && true), .inr (.inr (some (am_iv 1), am_SH, ((am_up (am_up J 1 6 (J 1 4)) 1 5 4), K, am_RF b)))) from rfl) (am_g1 (by decide) rfl)
theorem s_Reader_nextToken_L0 {X : am_X} {b : Bool} {K : am_K}  : ∀ (n : Nat) (J : am_J) (r : Int × am_J), f_Reader_nextToken_L0   n J = some r → am_runs X T_Reader_nextToken (0, [(0, am_pv 1)], [], am_SH, (J, K, am_RF b)) (some (am_iv r.1), am_SH, (r.2, K, am_RF b)) := by
  intro n
  induction n with
  | zero =>
    intro J r h
    cases h
  | succ n ih =>
    intro J r h
    rw [f_Reader_nextToken_L0.eq_2] at h
    obtain ⟨g130, h⟩ := am_if_some h
    obtain ⟨g131, h⟩ := am_if_some h
    by_cases c132 : (J 1 4) < (J 2 1)
    · rw [if_pos c132] at h
      refine am_r_f (show am_stepn X T_Reader_nextToken 6 true (0, [(0, am_pv 1)], [], am_SH, (J, K, am_RF b)) = some (((decide (am_i32 (J 2 1)) && decide (am_i32 (J 1 4))) && true), .inl (bif am_cb .ge (J 1 4) (J 2 1) then 43 else 14, [(0, am_pv 1)], [], am_SH, (J, K, am_RF b))) from rfl) (am_g2 g130 g131 rfl) (am_nd_t c132) ?_
      obtain ⟨q133, e134, h⟩ := am_bind_some h
      refine am_r_call (show am_stepn X T_Reader_nextToken 5 true (14, [(0, am_pv 1)], [], am_SH, (J, K, am_RF b)) = some (true, .inr (.inl (22, [am_pv 2, am_iv (J 1 4)], 2, 0, 0, 25, [(0, am_pv 1)], [], am_SH, (J, K, am_RF b)))) from rfl) rfl tb_Tape_at (s_Tape_at e134) ?_
      obtain ⟨g135, h⟩ := am_if_some h
      by_cases c136 : q133 = 32
      · rw [if_pos c136] at h
        refine am_r_f (show am_stepn X T_Reader_nextToken 2 true (25, [(0, am_pv 1)], [am_iv q133], am_SH, (J, K, am_RF b)) = some (((decide (am_i32 32) && decide (am_i32 q133)) && true), .inl (bif am_cb .ne q133 32 then 43 else 30, [(0, am_pv 1)], [], am_SH, (J, K, am_RF b))) from rfl) (am_g2 (by decide) g135 rfl) (am_nd_t c136) ?_
        refine am_r_go (show am_stepn X T_Reader_nextToken 7 true (30, [(0, am_pv 1)], [], am_SH, (J, K, am_RF b)) = some (true, .inl (0, [(0, am_pv 1)], [], am_SH, ((am_up J 1 4 ((J 1 4) + 1)), K, am_RF b))) from rfl) rfl ?_
        exact ih _ _ h
      · rw [if_neg c136] at h
        refine am_r_t (show am_stepn X T_Reader_nextToken 2 true (25, [(0, am_pv 1)], [am_iv q133], am_SH, (J, K, am_RF b)) = some (((decide (am_i32 32) && decide (am_i32 q133)) && true), .inl (bif am_cb .ne q133 32 then 43 else 30, [(0, am_pv 1)], [], am_SH, (J, K, am_RF b))) from rfl) (am_g2 (by decide) g135 rfl) (am_nd_f c136) ?_
        exact s_Reader_nextToken_L43  _ _ h
    · rw [if_neg c132] at h
      refine am_r_t (show am_stepn X T_Reader_nextToken 6 true (0, [(0, am_pv 1)], [], am_SH, (J, K, am_RF b)) = some (((decide (am_i32 (J 2 1)) && decide (am_i32 (J 1 4))) && true), .inl (bif am_cb .ge (J 1 4) (J 2 1) then 43 else 14, [(0, am_pv 1)], [], am_SH, (J, K, am_RF b))) from rfl) (am_g2 g130 g131 rfl) (am_nd_f c132) ?_
      exact s_Reader_nextToken_L43  _ _ h
theorem s_Reader_nextToken {X : am_X} {b : Bool} {K : am_K} {J : am_J} {r : Int × am_J} (h : f_Reader_nextToken  J = some r) : am_runs X T_Reader_nextToken (0, [(0, am_pv 1)], [], am_SH, (J, K, am_RF b)) (some (am_iv r.1), am_SH, (r.2, K, am_RF b)) := by
  unfold f_Reader_nextToken at h
  exact s_Reader_nextToken_L0  _ _ _ h
theorem s_JString_isLatin1_2000_ {X : am_X} {b : Bool} {J : am_J} {K : am_K}  {r : Int} (h : f_JString_isLatin1 2000  = some r) : am_runs X T_JString_isLatin1 (0, [(0, am_pv 2000)], [], am_SH, (J, K, am_RF b)) (some (am_iv r), am_SH, (J, K, am_RF b)) := by
  unfold f_JString_isLatin1 at h
  by_cases c137 : 1 = 0
  · rw [if_pos c137] at h
    refine am_r_t (show am_stepn X T_JString_isLatin1 2 true (0, [(0, am_pv 2000)], [], am_SH, (J, K, am_RF b)) = some ((decide (am_i32 1) && true), .inl (bif am_cb .eq 1 0 then 17 else 6, [(0, am_pv 2000)], [], am_SH, (J, K, am_RF b))) from rfl) (am_g1 (by decide) rfl) (decide_eq_true c137) ?_
    obtain rfl := Option.some.inj h
    exact am_r_ret (show am_stepn X T_JString_isLatin1 2 true (17, [(0, am_pv 2000)], [], am_SH, (J, K, am_RF b)) = some ((decide ((0 : Int) = 0 ∨ (0 : Int) = 1) && true), .inr (.inr (some (am_iv 0), am_SH, (J, K, am_RF b)))) from rfl) (am_g1 (by decide) rfl)
  · rw [if_neg c137] at h
    refine am_r_f (show am_stepn X T_JString_isLatin1 2 true (0, [(0, am_pv 2000)], [], am_SH, (J, K, am_RF b)) = some ((decide (am_i32 1) && true), .inl (bif am_cb .eq 1 0 then 17 else 6, [(0, am_pv 2000)], [], am_SH, (J, K, am_RF b))) from rfl) (am_g1 (by decide) rfl) (decide_eq_false c137) ?_
    by_cases c138 : 0 = 0
    · rw [if_pos c138] at h
      refine am_r_f (show am_stepn X T_JString_isLatin1 3 true (6, [(0, am_pv 2000)], [], am_SH, (J, K, am_RF b)) = some ((decide (am_i32 0) && true), .inl (bif am_cb .ne 0 0 then 17 else 13, [(0, am_pv 2000)], [], am_SH, (J, K, am_RF b))) from rfl) (am_g1 (by decide) rfl) (am_nd_t c138) ?_
      obtain rfl := Option.some.inj h
      exact am_r_ret (show am_stepn X T_JString_isLatin1 3 true (13, [(0, am_pv 2000)], [], am_SH, (J, K, am_RF b)) = some ((decide ((1 : Int) = 0 ∨ (1 : Int) = 1) && true), .inr (.inr (some (am_iv 1), am_SH, (J, K, am_RF b)))) from rfl) (am_g1 (by decide) rfl)
    · rw [if_neg c138] at h
      refine am_r_t (show am_stepn X T_JString_isLatin1 3 true (6, [(0, am_pv 2000)], [], am_SH, (J, K, am_RF b)) = some ((decide (am_i32 0) && true), .inl (bif am_cb .ne 0 0 then 17 else 13, [(0, am_pv 2000)], [], am_SH, (J, K, am_RF b))) from rfl) (am_g1 (by decide) rfl) (am_nd_f c138) ?_
      obtain rfl := Option.some.inj h
      exact am_r_ret (show am_stepn X T_JString_isLatin1 2 true (17, [(0, am_pv 2000)], [], am_SH, (J, K, am_RF b)) = some ((decide ((0 : Int) = 0 ∨ (0 : Int) = 1) && true), .inr (.inr (some (am_iv 0), am_SH, (J, K, am_RF b)))) from rfl) (am_g1 (by decide) rfl)
theorem s_JString_isLatin1_2001_ {X : am_X} {b : Bool} {J : am_J} {K : am_K}  {r : Int} (h : f_JString_isLatin1 2001  = some r) : am_runs X T_JString_isLatin1 (0, [(0, am_pv 2001)], [], am_SH, (J, K, am_RF b)) (some (am_iv r), am_SH, (J, K, am_RF b)) := by
  unfold f_JString_isLatin1 at h
  by_cases c137 : 1 = 0
  · rw [if_pos c137] at h
    refine am_r_t (show am_stepn X T_JString_isLatin1 2 true (0, [(0, am_pv 2001)], [], am_SH, (J, K, am_RF b)) = some ((decide (am_i32 1) && true), .inl (bif am_cb .eq 1 0 then 17 else 6, [(0, am_pv 2001)], [], am_SH, (J, K, am_RF b))) from rfl) (am_g1 (by decide) rfl) (decide_eq_true c137) ?_
    obtain rfl := Option.some.inj h
    exact am_r_ret (show am_stepn X T_JString_isLatin1 2 true (17, [(0, am_pv 2001)], [], am_SH, (J, K, am_RF b)) = some ((decide ((0 : Int) = 0 ∨ (0 : Int) = 1) && true), .inr (.inr (some (am_iv 0), am_SH, (J, K, am_RF b)))) from rfl) (am_g1 (by decide) rfl)
  · rw [if_neg c137] at h
    refine am_r_f (show am_stepn X T_JString_isLatin1 2 true (0, [(0, am_pv 2001)], [], am_SH, (J, K, am_RF b)) = some ((decide (am_i32 1) && true), .inl (bif am_cb .eq 1 0 then 17 else 6, [(0, am_pv 2001)], [], am_SH, (J, K, am_RF b))) from rfl) (am_g1 (by decide) rfl) (decide_eq_false c137) ?_
    by_cases c138 : 0 = 0
    · rw [if_pos c138] at h
      refine am_r_f (show am_stepn X T_JString_isLatin1 3 true (6, [(0, am_pv 2001)], [], am_SH, (J, K, am_RF b)) = some ((decide (am_i32 0) && true), .inl (bif am_cb .ne 0 0 then 17 else 13, [(0, am_pv 2001)], [], am_SH, (J, K, am_RF b))) from rfl) (am_g1 (by decide) rfl) (am_nd_t c138) ?_
      obtain rfl := Option.some.inj h
      exact am_r_ret (show am_stepn X T_JString_isLatin1 3 true (13, [(0, am_pv 2001)], [], am_SH, (J, K, am_RF b)) = some ((decide ((1 : Int) = 0 ∨ (1 : Int) = 1) && true), .inr (.inr (some (am_iv 1), am_SH, (J, K, am_RF b)))) from rfl) (am_g1 (by decide) rfl)
    · rw [if_neg c138] at h
      refine am_r_t (show am_stepn X T_JString_isLatin1 3 true (6, [(0, am_pv 2001)], [], am_SH, (J, K, am_RF b)) = some ((decide (am_i32 0) && true), .inl (bif am_cb .ne 0 0 then 17 else 13, [(0, am_pv 2001)], [], am_SH, (J, K, am_RF b))) from rfl) (am_g1 (by decide) rfl) (am_nd_f c138) ?_
      obtain rfl := Option.some.inj h
      exact am_r_ret (show am_stepn X T_JString_isLatin1 2 true (17, [(0, am_pv 2001)], [], am_SH, (J, K, am_RF b)) = some ((decide ((0 : Int) = 0 ∨ (0 : Int) = 1) && true), .inr (.inr (some (am_iv 0), am_SH, (J, K, am_RF b)))) from rfl) (am_g1 (by decide) rfl)
theorem s_JString_isLatin1_2002_ {X : am_X} {b : Bool} {J : am_J} {K : am_K}  {r : Int} (h : f_JString_isLatin1 2002  = some r) : am_runs X T_JString_isLatin1 (0, [(0, am_pv 2002)], [], am_SH, (J, K, am_RF b)) (some (am_iv r), am_SH, (J, K, am_RF b)) := by
  unfold f_JString_isLatin1 at h
  by_cases c137 : 1 = 0
  · rw [if_pos c137] at h
    refine am_r_t (show am_stepn X T_JString_isLatin1 2 true (0, [(0, am_pv 2002)], [], am_SH, (J, K, am_RF b)) = some ((decide (am_i32 1) && true), .inl (bif am_cb .eq 1 0 then 17 else 6, [(0, am_pv 2002)], [], am_SH, (J, K, am_RF b))) from rfl) (am_g1 (by decide) rfl) (decide_eq_true c137) ?_
    obtain rfl := Option.some.inj h
    exact am_r_ret (show am_stepn X T_JString_isLatin1 2 true (17, [(0, am_pv 2002)], [], am_SH, (J, K, am_RF b)) = some ((decide ((0 : Int) = 0 ∨ (0 : Int) = 1) && true), .inr (.inr (some (am_iv 0), am_SH, (J, K, am_RF b)))) from rfl) (am_g1 (by decide) rfl)
  · rw [if_neg c137] at h
    refine am_r_f (show am_stepn X T_JString_isLatin1 2 true (0, [(0, am_pv 2002)], [], am_SH, (J, K, am_RF b)) = some ((decide (am_i32 1) && true), .inl (bif am_cb .eq 1 0 then 17 else 6, [(0, am_pv 2002)], [], am_SH, (J, K, am_RF b))) from rfl) (am_g1 (by decide) rfl) (decide_eq_false c137) ?_
    by_cases c138 : 0 = 0
    · rw [if_pos c138] at h
      refine am_r_f (show am_stepn X T_JString_isLatin1 3 true (6, [(0, am_pv 2002)], [], am_SH, (J, K, am_RF b)) = some ((decide (am_i32 0) && true), .inl (bif am_cb .ne 0 0 then 17 else 13, [(0, am_pv 2002)], [], am_SH, (J, K, am_RF b))) from rfl) (am_g1 (by decide) rfl) (am_nd_t c138) ?_
      obtain rfl := Option.some.inj h
      exact am_r_ret (show am_stepn X T_JString_isLatin1 3 true (13, [(0, am_pv 2002)], [], am_SH, (J, K, am_RF b)) = some ((decide ((1 : Int) = 0 ∨ (1 : Int) = 1) && true), .inr (.inr (some (am_iv 1), am_SH, (J, K, am_RF b)))) from rfl) (am_g1 (by decide) rfl)
    · rw [if_neg c138] at h
      refine am_r_t (show am_stepn X T_JString_isLatin1 3 true (6, [(0, am_pv 2002)], [], am_SH, (J, K, am_RF b)) = some ((decide (am_i32 0) && true), .inl (bif am_cb .ne 0 0 then 17 else 13, [(0, am_pv 2002)], [], am_SH, (J, K, am_RF b))) from rfl) (am_g1 (by decide) rfl) (am_nd_f c138) ?_
      obtain rfl := Option.some.inj h
      exact am_r_ret (show am_stepn X T_JString_isLatin1 2 true (17, [(0, am_pv 2002)], [], am_SH, (J, K, am_RF b)) = some ((decide ((0 : Int) = 0 ∨ (0 : Int) = 1) && true), .inr (.inr (some (am_iv 0), am_SH, (J, K, am_RF b)))) from rfl) (am_g1 (by decide) rfl)
theorem s_JString_isLatin1_2003_ {X : am_X} {b : Bool} {J : am_J} {K : am_K}  {r : Int} (h : f_JString_isLatin1 2003  = some r) : am_runs X T_JString_isLatin1 (0, [(0, am_pv 2003)], [], am_SH, (J, K, am_RF b)) (some (am_iv r), am_SH, (J, K, am_RF b)) := by
  unfold f_JString_isLatin1 at h
  by_cases c137 : 1 = 0
  · rw [if_pos c137] at h
    refine am_r_t (show am_stepn X T_JString_isLatin1 2 true (0, [(0, am_pv 2003)], [], am_SH, (J, K, am_RF b)) = some ((decide (am_i32 1) && true), .inl (bif am_cb .eq 1 0 then 17 else 6, [(0, am_pv 2003)], [], am_SH, (J, K, am_RF b))) from rfl) (am_g1 (by decide) rfl) (decide_eq_true c137) ?_
    obtain rfl := Option.some.inj h
    exact am_r_ret (show am_stepn X T_JString_isLatin1 2 true (17, [(0, am_pv 2003)], [], am_SH, (J, K, am_RF b)) = some ((decide ((0 : Int) = 0 ∨ (0 : Int) = 1) && true), .inr (.inr (some (am_iv 0), am_SH, (J, K, am_RF b)))) from rfl) (am_g1 (by decide) rfl)
  · rw [if_neg c137] at h
    refine am_r_f (show am_stepn X T_JString_isLatin1 2 true (0, [(0, am_pv 2003)], [], am_SH, (J, K, am_RF b)) = some ((decide (am_i32 1) && true), .inl (bif am_cb .eq 1 0 then 17 else 6, [(0, am_pv 2003)], [], am_SH, (J, K, am_RF b))) from rfl) (am_g1 (by decide) rfl) (decide_eq_false c137) ?_
    by_cases c138 : 0 = 0
    · rw [if_pos c138] at h
      refine am_r_f (show am_stepn X T_JString_isLatin1 3 true (6, [(0, am_pv 2003)], [], am_SH, (J, K, am_RF b)) = some ((decide (am_i32 0) && true), .inl (bif am_cb .ne 0 0 then 17 else 13, [(0, am_pv 2003)], [], am_SH, (J, K, am_RF b))) from rfl) (am_g1 (by decide) rfl) (am_nd_t c138) ?_
      obtain rfl := Option.some.inj h
      exact am_r_ret (show am_stepn X T_JString_isLatin1 3 true (13, [(0, am_pv 2003)], [], am_SH, (J, K, am_RF b)) = some ((decide ((1 : Int) = 0 ∨ (1 : Int) = 1) && true), .inr (.inr (some (am_iv 1), am_SH, (J, K, am_RF b)))) from rfl) (am_g1 (by decide) rfl)
    · rw [if_neg c138] at h
      refine am_r_t (show am_stepn X T_JString_isLatin1 3 true (6, [(0, am_pv 2003)], [], am_SH, (J, K, am_RF b)) = some ((decide (am_i32 0) && true), .inl (bif am_cb .ne 0 0 then 17 else 13, [(0, am_pv 2003)], [], am_SH, (J, K, am_RF b))) from rfl) (am_g1 (by decide) rfl) (am_nd_f c138) ?_
      obtain rfl := Option.some.inj h
      exact am_r_ret (show am_stepn X T_JString_isLatin1 2 true (17, [(0, am_pv 2003)], [], am_SH, (J, K, am_RF b)) = some ((decide ((0 : Int) = 0 ∨ (0 : Int) = 1) && true), .inr (.inr (some (am_iv 0), am_SH, (J, K, am_RF b)))) from rfl) (am_g1 (by decide) rfl)
theorem s_JString_isLatin1_2004_ {X : am_X} {b : Bool} {J : am_J} {K : am_K}  {r : Int} (h : f_JString_isLatin1 2004  = some r) : am_runs X T_JString_isLatin1 (0, [(0, am_pv 2004)], [], am_SH, (J, K, am_RF b)) (some (am_iv r), am_SH, (J, K, am_RF b)) := by
  unfold f_JString_isLatin1 at h
  by_cases c137 : 1 = 0
  · rw [if_pos c137] at h
    refine am_r_t (show am_stepn X T_JString_isLatin1 2 true (0, [(0, am_pv 2004)], [], am_SH, (J, K, am_RF b)) = some ((decide (am_i32 1) && true), .inl (bif am_cb .eq 1 0 then 17 else 6, [(0, am_pv 2004)], [], am_SH, (J, K, am_RF b))) from rfl) (am_g1 (by decide) rfl) (decide_eq_true c137) ?_
    obtain rfl := Option.some.inj h
    exact am_r_ret (show am_stepn X T_JString_isLatin1 2 true (17, [(0, am_pv 2004)], [], am_SH, (J, K, am_RF b)) = some ((decide ((0 : Int) = 0 ∨ (0 : Int) = 1) && true), .inr (.inr (some (am_iv 0), am_SH, (J, K, am_RF b)))) from rfl) (am_g1 (by decide) rfl)
  · rw [if_neg c137] at h
    refine am_r_f (show am_stepn X T_JString_isLatin1 2 true (0, [(0, am_pv 2004)], [], am_SH, (J, K, am_RF b)) = some ((decide (am_i32 1) && true), .inl (bif am_cb .eq 1 0 then 17 else 6, [(0, am_pv 2004)], [], am_SH, (J, K, am_RF b))) from rfl) (am_g1 (by decide) rfl) (decide_eq_false c137) ?_
    by_cases c138 : 0 = 0
    · rw [if_pos c138] at h
      refine am_r_f (show am_stepn X T_JString_isLatin1 3 true (6, [(0, am_pv 2004)], [], am_SH, (J, K, am_RF b)) = some ((decide (am_i32 0) && true), .inl (bif am_cb .ne 0 0 then 17 else 13, [(0, am_pv 2004)], [], am_SH, (J, K, am_RF b))) from rfl) (am_g1 (by decide) rfl) (am_nd_t c138) ?_
      obtain rfl := Option.some.inj h
      exact am_r_ret (show am_stepn X T_JString_isLatin1 3 true (13, [(0, am_pv 2004)], [], am_SH, (J, K, am_RF b)) = some ((decide ((1 : Int) = 0 ∨ (1 : Int) = 1) && true), .inr (.inr (some (am_iv 1), am_SH, (J, K, am_RF b)))) from rfl) (am_g1 (by decide) rfl)
    · rw [if_neg c138] at h
      refine am_r_t (show am_stepn X T_JString_isLatin1 3 true (6, [(0, am_pv 2004)], [], am_SH, (J, K, am_RF b)) = some ((decide (am_i32 0) && true), .inl (bif am_cb .ne 0 0 then 17 else 13, [(0, am_pv 2004)], [], am_SH, (J, K, am_RF b))) from rfl) (am_g1 (by decide) rfl) (am_nd_f c138) ?_
      obtain rfl := Option.some.inj h
      exact am_r_ret (show am_stepn X T_JString_isLatin1 2 true (17, [(0, am_pv 2004)], [], am_SH, (J, K, am_RF b)) = some ((decide ((0 : Int) = 0 ∨ (0 : Int) = 1) && true), .inr (.inr (some (am_iv 0), am_SH, (J, K, am_RF b)))) from rfl) (am_g1 (by decide) rfl)
theorem s_JString_isLatin1_2005_ {X : am_X} {b : Bool} {J : am_J} {K : am_K}  {r : Int} (h : f_JString_isLatin1 2005  = some r) : am_runs X T_JString_isLatin1 (0, [(0, am_pv 2005)], [], am_SH, (J, K, am_RF b)) (some (am_iv r), am_SH, (J, K, am_RF b)) := by
  unfold f_JString_isLatin1 at h
  by_cases c137 : 1 = 0
  · rw [if_pos c137] at h
    refine am_r_t (show am_stepn X T_JString_isLatin1 2 true (0, [(0, am_pv 2005)], [], am_SH, (J, K, am_RF b)) = some ((decide (am_i32 1) && true), .inl (bif am_cb .eq 1 0 then 17 else 6, [(0, am_pv 2005)], [], am_SH, (J, K, am_RF b))) from rfl) (am_g1 (by decide) rfl) (decide_eq_true c137) ?_
    obtain rfl := Option.some.inj h
    exact am_r_ret (show am_stepn X T_JString_isLatin1 2 true (17, [(0, am_pv 2005)], [], am_SH, (J, K, am_RF b)) = some ((decide ((0 : Int) = 0 ∨ (0 : Int) = 1) && true), .inr (.inr (some (am_iv 0), am_SH, (J, K, am_RF b)))) from rfl) (am_g1 (by decide) rfl)
  · rw [if_neg c137] at h
    refine am_r_f (show am_stepn X T_JString_isLatin1 2 true (0, [(0, am_pv 2005)], [], am_SH, (J, K, am_RF b)) = some ((decide (am_i32 1) && true), .inl (bif am_cb .eq 1 0 then 17 else 6, [(0, am_pv 2005)], [], am_SH, (J, K, am_RF b))) from rfl) (am_g1 (by decide) rfl) (decide_eq_false c137) ?_
    by_cases c138 : 0 = 0
    · rw [if_pos c138] at h
      refine am_r_f (show am_stepn X T_JString_isLatin1 3 true (6, [(0, am_pv 2005)], [], am_SH, (J, K, am_RF b)) = some ((decide (am_i32 0) && true), .inl (bif am_cb .ne 0 0 then 17 else 13, [(0, am_pv 2005)], [], am_SH, (J, K, am_RF b))) from rfl) (am_g1 (by decide) rfl) (am_nd_t c138) ?_
      obtain rfl := Option.some.inj h
      exact am_r_ret (show am_stepn X T_JString_isLatin1 3 true (13, [(0, am_pv 2005)], [], am_SH, (J, K, am_RF b)) = some ((decide ((1 : Int) = 0 ∨ (1 : Int) = 1) && true), .inr (.inr (some (am_iv 1), am_SH, (J, K, am_RF b)))) from rfl) (am_g1 (by decide) rfl)
    · rw [if_neg c138] at h
      refine am_r_t (show am_stepn X T_JString_isLatin1 3 true (6, [(0, am_pv 2005)], [], am_SH, (J, K, am_RF b)) = some ((decide (am_i32 0) && true), .inl (bif am_cb .ne 0 0 then 17 else 13, [(0, am_pv 2005)], [], am_SH, (J, K, am_RF b))) from rfl) (am_g1 (by decide) rfl) (am_nd_f c138) ?_
      obtain rfl := Option.some.inj h
      exact am_r_ret (show am_stepn X T_JString_isLatin1 2 true (17, [(0, am_pv 2005)], [], am_SH, (J, K, am_RF b)) = some ((decide ((0 : Int) = 0 ∨ (0 : Int) = 1) && true), .inr (.inr (some (am_iv 0), am_SH, (J, K, am_RF b)))) from rfl) (am_g1 (by decide) rfl)
theorem s_JString_isLatin1_2006_ {X : am_X} {b : Bool} {J : am_J} {K : am_K}  {r : Int} (h : f_JString_isLatin1 2006  = some r) : am_runs X T_JString_isLatin1 (0, [(0, am_pv 2006)], [], am_SH, (J, K, am_RF b)) (some (am_iv r), am_SH, (J, K, am_RF b)) := by
  unfold f_JString_isLatin1 at h
  by_cases c137 : 1 = 0
  · rw [if_pos c137] at h
    refine am_r_t (show am_stepn X T_JString_isLatin1 2 true (0, [(0, am_pv 2006)], [], am_SH, (J, K, am_RF b)) = some ((decide (am_i32 1) && true), .inl (bif am_cb .eq 1 0 then 17 else 6, [(0, am_pv 2006)], [], am_SH, (J, K, am_RF b))) from rfl) (am_g1 (by decide) rfl) (decide_eq_true c137) ?_
    obtain rfl := Option.some.inj h
    exact am_r_ret (show am_stepn X T_JString_isLatin1 2 true (17, [(0, am_pv 2006)], [], am_SH, (J, K, am_RF b)) = some ((decide ((0 : Int) = 0 ∨ (0 : Int) = 1) && true), .inr (.inr (some (am_iv 0), am_SH, (J, K, am_RF b)))) from rfl) (am_g1 (by decide) rfl)
  · rw [if_neg c137] at h
    refine am_r_f (show am_stepn X T_JString_isLatin1 2 true (0, [(0, am_pv 2006)], [], am_SH, (J, K, am_RF b)) = some ((decide (am_i32 1) && true), .inl (bif am_cb .eq 1 0 then 17 else 6, [(0, am_pv 2006)], [], am_SH, (J, K, am_RF b))) from rfl) (am_g1 (by decide) rfl) (decide_eq_false c137) ?_
    by_cases c138 : 0 = 0
    · rw [if_pos c138] at h
      refine am_r_f (show am_stepn X T_JString_isLatin1 3 true (6, [(0, am_pv 2006)], [], am_SH, (J, K, am_RF b)) = some ((decide (am_i32 0) && true), .inl (bif am_cb .ne 0 0 then 17 else 13, [(0, am_pv 2006)], [], am_SH, (J, K, am_RF b))) from rfl) (am_g1 (by decide) rfl) (am_nd_t c138) ?_
      obtain rfl := Option.some.inj h
      exact am_r_ret (show am_stepn X T_JString_isLatin1 3 true (13, [(0, am_pv 2006)], [], am_SH, (J, K, am_RF b)) = some ((decide ((1 : Int) = 0 ∨ (1 : Int) = 1) && true), .inr (.inr (some (am_iv 1), am_SH, (J, K, am_RF b)))) from rfl) (am_g1 (by decide) rfl)
    · rw [if_neg c138] at h
      refine am_r_t (show am_stepn X T_JString_isLatin1 3 true (6, [(0, am_pv 2006)], [], am_SH, (J, K, am_RF b)) = some ((decide (am_i32 0) && true), .inl (bif am_cb .ne 0 0 then 17 else 13, [(0, am_pv 2006)], [], am_SH, (J, K, am_RF b))) from rfl) (am_g1 (by decide) rfl) (am_nd_f c138) ?_
      obtain rfl := Option.some.inj h
      exact am_r_ret (show am_stepn X T_JString_isLatin1 2 true (17, [(0, am_pv 2006)], [], am_SH, (J, K, am_RF b)) = some ((decide ((0 : Int) = 0 ∨ (0 : Int) = 1) && true), .inr (.inr (some (am_iv 0), am_SH, (J, K, am_RF b)))) from rfl) (am_g1 (by decide) rfl)
theorem s_JString_isLatin1_2007_ {X : am_X} {b : Bool} {J : am_J} {K : am_K}  {r : Int} (h : f_JString_isLatin1 2007  = some r) : am_runs X T_JString_isLatin1 (0, [(0, am_pv 2007)], [], am_SH, (J, K, am_RF b)) (some (am_iv r), am_SH, (J, K, am_RF b)) := by
  unfold f_JString_isLatin1 at h
  by_cases c137 : 1 = 0
  · rw [if_pos c137] at h
    refine am_r_t (show am_stepn X T_JString_isLatin1 2 true (0, [(0, am_pv 2007)], [], am_SH, (J, K, am_RF b)) = some ((decide (am_i32 1) && true), .inl (bif am_cb .eq 1 0 then 17 else 6, [(0, am_pv 2007)], [], am_SH, (J, K, am_RF b))) from rfl) (am_g1 (by decide) rfl) (decide_eq_true c137) ?_
    obtain rfl := Option.some.inj h
    exact am_r_ret (show am_stepn X T_JString_isLatin1 2 true (17, [(0, am_pv 2007)], [], am_SH, (J, K, am_RF b)) = some ((decide ((0 : Int) = 0 ∨ (0 : Int) = 1) && true), .inr (.inr (some (am_iv 0), am_SH, (J, K, am_RF b)))) from rfl) (am_g1 (by decide) rfl)
  · rw [if_neg c137] at h
    refine am_r_f (show am_stepn X T_JString_isLatin1 2 true (0, [(0, am_pv 2007)], [], am_SH, (J, K, am_RF b)) = some ((decide (am_i32 1) && true), .inl (bif am_cb .eq 1 0 then 17 else 6, [(0, am_pv 2007)], [], am_SH, (J, K, am_RF b))) from rfl) (am_g1 (by decide) rfl) (decide_eq_false c137) ?_
    by_cases c138 : 0 = 0
    · rw [if_pos c138] at h
      refine am_r_f (show am_stepn X T_JString_isLatin1 3 true (6, [(0, am_pv 2007)], [], am_SH, (J, K, am_RF b)) = some ((decide (am_i32 0) && true), .inl (bif am_cb .ne 0 0 then 17 else 13, [(0, am_pv 2007)], [], am_SH, (J, K, am_RF b))) from rfl) (am_g1 (by decide) rfl) (am_nd_t c138) ?_
      obtain rfl := Option.some.inj h
      exact am_r_ret (show am_stepn X T_JString_isLatin1 3 true (13, [(0, am_pv 2007)], [], am_SH, (J, K, am_RF b)) = some ((decide ((1 : Int) = 0 ∨ (1 : Int) = 1) && true), .inr (.inr (some (am_iv 1), am_SH, (J, K, am_RF b)))) from rfl) (am_g1 (by decide) rfl)
    · rw [if_neg c138] at h
      refine am_r_t (show am_stepn X T_JString_isLatin1 3 true (6, [(0, am_pv 2007)], [], am_SH, (J, K, am_RF b)) = some ((decide (am_i32 0) && true), .inl (bif am_cb .ne 0 0 then 17 else 13, [(0, am_pv 2007)], [], am_SH, (J, K, am_RF b))) from rfl) (am_g1 (by decide) rfl) (am_nd_f c138) ?_
      obtain rfl := Option.some.inj h
      exact am_r_ret (show am_stepn X T_JString_isLatin1 2 true (17, [(0, am_pv 2007)], [], am_SH, (J, K, am_RF b)) = some ((decide ((0 : Int) = 0 ∨ (0 : Int) = 1) && true), .inr (.inr (some (am_iv 0), am_SH, (J, K, am_RF b)))) from rfl) (am_g1 (by decide) rfl)
theorem s_JString_isLatin1_2008_ {X : am_X} {b : Bool} {J : am_J} {K : am_K}  {r : Int} (h : f_JString_isLatin1 2008  = some r) : am_runs X T_JString_isLatin1 (0, [(0, am_pv 2008)], [], am_SH, (J, K, am_RF b)) (some (am_iv r), am_SH, (J, K, am_RF b)) := by
  unfold f_JString_isLatin1 at h
  by_cases c137 : 1 = 0
  · rw [if_pos c137] at h
    refine am_r_t (show am_stepn X T_JString_isLatin1 2 true (0, [(0, am_pv 2008)], [], am_SH, (J, K, am_RF b)) = some ((decide (am_i32 1) && true), .inl (bif am_cb .eq 1 0 then 17 else 6, [(0, am_pv 2008)], [], am_SH, (J, K, am_RF b))) from rfl) (am_g1 (by decide) rfl) (decide_eq_true c137) ?_
    obtain rfl := Option.some.inj h
    exact am_r_ret (show am_stepn X T_JString_isLatin1 2 true (17, [(0, am_pv 2008)], [], am_SH, (J, K, am_RF b)) = some ((decide ((0 : Int) = 0 ∨ (0 : Int) = 1) && true), .inr (.inr (some (am_iv 0), am_SH, (J, K, am_RF b)))) from rfl) (am_g1 (by decide) rfl)
  · rw [if_neg c137] at h
    refine am_r_f (show am_stepn X T_JString_isLatin1 2 true (0, [(0, am_pv 2008)], [], am_SH, (J, K, am_RF b)) = some ((decide (am_i32 1) && true), .inl (bif am_cb .eq 1 0 then 17 else 6, [(0, am_pv 2008)], [], am_SH, (J, K, am_RF b))) from rfl) (am_g1 (by decide) rfl) (decide_eq_false c137) ?_
    by_cases c138 : 0 = 0
    · rw [if_pos c138] at h
      refine am_r_f (show am_stepn X T_JString_isLatin1 3 true (6, [(0, am_pv 2008)], [], am_SH, (J, K, am_RF b)) = some ((decide (am_i32 0) && true), .inl (bif am_cb .ne 0 0 then 17 else 13, [(0, am_pv 2008)], [], am_SH, (J, K, am_RF b))) from rfl) (am_g1 (by decide) rfl) (am_nd_t c138) ?_
      obtain rfl := Option.some.inj h
      exact am_r_ret (show am_stepn X T_JString_isLatin1 3 true (13, [(0, am_pv 2008)], [], am_SH, (J, K, am_RF b)) = some ((decide ((1 : Int) = 0 ∨ (1 : Int) = 1) && true), .inr (.inr (some (am_iv 1), am_SH, (J, K, am_RF b)))) from rfl) (am_g1 (by decide) rfl)
    · rw [if_neg c138] at h
      refine am_r_t (show am_stepn X T_JString_isLatin1 3 true (6, [(0, am_pv 2008)], [], am_SH, (J, K, am_RF b)) = some ((decide (am_i32 0) && true), .inl (bif am_cb .ne 0 0 then 17 else 13, [(0, am_pv 2008)], [], am_SH, (J, K, am_RF b))) from rfl) (am_g1 (by decide) rfl) (am_nd_f c138) ?_
      obtain rfl := Option.some.inj h
      exact am_r_ret (show am_stepn X T_JString_isLatin1 2 true (17, [(0, am_pv 2008)], [], am_SH, (J, K, am_RF b)) = some ((decide ((0 : Int) = 0 ∨ (0 : Int) = 1) && true), .inr (.inr (some (am_iv 0), am_SH, (J, K, am_RF b)))) from rfl) (am_g1 (by decide) rfl)
theorem s_JString_isLatin1_2009_ {X : am_X} {b : Bool} {J : am_J} {K : am_K}  {r : Int} (h : f_JString_isLatin1 2009  = some r) : am_runs X T_JString_isLatin1 (0, [(0, am_pv 2009)], [], am_SH, (J, K, am_RF b)) (some (am_iv r), am_SH, (J, K, am_RF b)) := by
  unfold f_JString_isLatin1 at h
  by_cases c137 : 1 = 0
  · rw [if_pos c137] at h
    refine am_r_t (show am_stepn X T_JString_isLatin1 2 true (0, [(0, am_pv 2009)], [], am_SH, (J, K, am_RF b)) = some ((decide (am_i32 1) && true), .inl (bif am_cb .eq 1 0 then 17 else 6, [(0, am_pv 2009)], [], am_SH, (J, K, am_RF b))) from rfl) (am_g1 (by decide) rfl) (decide_eq_true c137) ?_
    obtain rfl := Option.some.inj h
    exact am_r_ret (show am_stepn X T_JString_isLatin1 2 true (17, [(0, am_pv 2009)], [], am_SH, (J, K, am_RF b)) = some ((decide ((0 : Int) = 0 ∨ (0 : Int) = 1) && true), .inr (.inr (some (am_iv 0), am_SH, (J, K, am_RF b)))) from rfl) (am_g1 (by decide) rfl)
  · rw [if_neg c137] at h
    refine am_r_f (show am_stepn X T_JString_isLatin1 2 true (0, [(0, am_pv 2009)], [], am_SH, (J, K, am_RF b)) = some ((decide (am_i32 1) && true), .inl (bif am_cb .eq 1 0 then 17 else 6, [(0, am_pv 2009)], [], am_SH, (J, K, am_RF b))) from rfl) (am_g1 (by decide) rfl) (decide_eq_false c137) ?_
    by_cases c138 : 0 = 0
    · rw [if_pos c138] at h
      refine am_r_f (show am_stepn X T_JString_isLatin1 3 true (6, [(0, am_pv 2009)], [], am_SH, (J, K, am_RF b)) = some ((decide (am_i32 0) && true), .inl (bif am_cb .ne 0 0 then 17 else 13, [(0, am_pv 2009)], [], am_SH, (J, K, am_RF b))) from rfl) (am_g1 (by decide) rfl) (am_nd_t c138) ?_
      obtain rfl := Option.some.inj h
      exact am_r_ret (show am_stepn X T_JString_isLatin1 3 true (13, [(0, am_pv 2009)], [], am_SH, (J, K, am_RF b)) = some ((decide ((1 : Int) = 0 ∨ (1 : Int) = 1) && true), .inr (.inr (some (am_iv 1), am_SH, (J, K, am_RF b)))) from rfl) (am_g1 (by decide) rfl)
    · rw [if_neg c138] at h
      refine am_r_t (show am_stepn X T_JString_isLatin1 3 true (6, [(0, am_pv 2009)], [], am_SH, (J, K, am_RF b)) = some ((decide (am_i32 0) && true), .inl (bif am_cb .ne 0 0 then 17 else 13, [(0, am_pv 2009)], [], am_SH, (J, K, am_RF b))) from rfl) (am_g1 (by decide) rfl) (am_nd_f c138) ?_
      obtain rfl := Option.some.inj h
      exact am_r_ret (show am_stepn X T_JString_isLatin1 2 true (17, [(0, am_pv 2009)], [], am_SH, (J, K, am_RF b)) = some ((decide ((0 : Int) = 0 ∨ (0 : Int) = 1) && true), .inr (.inr (some (am_iv 0), am_SH, (J, K, am_RF b)))) from rfl) (am_g1 (by decide) rfl)
theorem s_JString_isLatin1_2010_ {X : am_X} {b : Bool} {J : am_J} {K : am_K}  {r : Int} (h : f_JString_isLatin1 2010  = some r) : am_runs X T_JString_isLatin1 (0, [(0, am_pv 2010)], [], am_SH, (J, K, am_RF b)) (some (am_iv r), am_SH, (J, K, am_RF b)) := by
  unfold f_JString_isLatin1 at h
  by_cases c137 : 1 = 0
  · rw [if_pos c137] at h
    refine am_r_t (show am_stepn X T_JString_isLatin1 2 true (0, [(0, am_pv 2010)], [], am_SH, (J, K, am_RF b)) = some ((decide (am_i32 1) && true), .inl (bif am_cb .eq 1 0 then 17 else 6, [(0, am_pv 2010)], [], am_SH, (J, K, am_RF b))) from rfl) (am_g1 (by decide) rfl) (decide_eq_true c137) ?_
    obtain rfl := Option.some.inj h
    exact am_r_ret (show am_stepn X T_JString_isLatin1 2 true (17, [(0, am_pv 2010)], [], am_SH, (J, K, am_RF b)) = some ((decide ((0 : Int) = 0 ∨ (0 : Int) = 1) && true), .inr (.inr (some (am_iv 0), am_SH, (J, K, am_RF b)))) from rfl) (am_g1 (by decide) rfl)
  · rw [if_neg c137] at h
    refine am_r_f (show am_stepn X T_JString_isLatin1 2 true (0, [(0, am_pv 2010)], [], am_SH, (J, K, am_RF b)) = some ((decide (am_i32 1) && true), .inl (bif am_cb .eq 1 0 then 17 else 6, [(0, am_pv 2010)], [], am_SH, (J, K, am_RF b))) from rfl) (am_g1 (by decide) rfl) (decide_eq_false c137) ?_
    by_cases c138 : 0 = 0
    · rw [if_pos c138] at h
      refine am_r_f (show am_stepn X T_JString_isLatin1 3 true (6, [(0, am_pv 2010)], [], am_SH, (J, K, am_RF b)) = some ((decide (am_i32 0) && true), .inl (bif am_cb .ne 0 0 then 17 else 13, [(0, am_pv 2010)], [], am_SH, (J, K, am_RF b))) from rfl) (am_g1 (by decide) rfl) (am_nd_t c138) ?_
      obtain rfl := Option.some.inj h
      exact am_r_ret (show am_stepn X T_JString_isLatin1 3 true (13, [(0, am_pv 2010)], [], am_SH, (J, K, am_RF b)) = some ((decide ((1 : Int) = 0 ∨ (1 : Int) = 1) && true), .inr (.inr (some (am_iv 1), am_SH, (J, K, am_RF b)))) from rfl) (am_g1 (by decide) rfl)
    · rw [if_neg c138] at h
      refine am_r_t (show am_stepn X T_JString_isLatin1 3 true (6, [(0, am_pv 2010)], [], am_SH, (J, K, am_RF b)) = some ((decide (am_i32 0) && true), .inl (bif am_cb .ne 0 0 then 17 else 13, [(0, am_pv 2010)], [], am_SH, (J, K, am_RF b))) from rfl) (am_g1 (by decide) rfl) (am_nd_f c138) ?_
      obtain rfl := Option.some.inj h
      exact am_r_ret (show am_stepn X T_JString_isLatin1 2 true (17, [(0, am_pv 2010)], [], am_SH, (J, K, am_RF b)) = some ((decide ((0 : Int) = 0 ∨ (0 : Int) = 1) && true), .inr (.inr (some (am_iv 0), am_SH, (J, K, am_RF b)))) from rfl) (am_g1 (by decide) rfl)
theorem s_JString_isLatin1_2011_ {X : am_X} {b : Bool} {J : am_J} {K : am_K}  {r : Int} (h : f_JString_isLatin1 2011  = some r) : am_runs X T_JString_isLatin1 (0, [(0, am_pv 2011)], [], am_SH, (J, K, am_RF b)) (some (am_iv r), am_SH, (J, K, am_RF b)) := by
  unfold f_JString_isLatin1 at h
  by_cases c137 : 1 = 0
  · rw [if_pos c137] at h
    refine am_r_t (show am_stepn X T_JString_isLatin1 2 true (0, [(0, am_pv 2011)], [], am_SH, (J, K, am_RF b)) = some ((decide (am_i32 1) && true), .inl (bif am_cb .eq 1 0 then 17 else 6, [(0, am_pv 2011)], [], am_SH, (J, K, am_RF b))) from rfl) (am_g1 (by decide) rfl) (decide_eq_true c137) ?_
    obtain rfl := Option.some.inj h
    exact am_r_ret (show am_stepn X T_JString_isLatin1 2 true (17, [(0, am_pv 2011)], [], am_SH, (J, K, am_RF b)) = some ((decide ((0 : Int) = 0 ∨ (0 : Int) = 1) && true), .inr (.inr (some (am_iv 0), am_SH, (J, K, am_RF b)))) from rfl) (am_g1 (by decide) rfl)
  · rw [if_neg c137] at h
    refine am_r_f (show am_stepn X T_JString_isLatin1 2 true (0, [(0, am_pv 2011)], [], am_SH, (J, K, am_RF b)) = some ((decide (am_i32 1) && true), .inl (bif am_cb .eq 1 0 then 17 else 6, [(0, am_pv 2011)], [], am_SH, (J, K, am_RF b))) from rfl) (am_g1 (by decide) rfl) (decide_eq_false c137) ?_
    by_cases c138 : 0 = 0
    · rw [if_pos c138] at h
      refine am_r_f (show am_stepn X T_JString_isLatin1 3 true (6, [(0, am_pv 2011)], [], am_SH, (J, K, am_RF b)) = some ((decide (am_i32 0) && true), .inl (bif am_cb .ne 0 0 then 17 else 13, [(0, am_pv 2011)], [], am_SH, (J, K, am_RF b))) from rfl) (am_g1 (by decide) rfl) (am_nd_t c138) ?_
      obtain rfl := Option.some.inj h
      exact am_r_ret (show am_stepn X T_JString_isLatin1 3 true (13, [(0, am_pv 2011)], [], am_SH, (J, K, am_RF b)) = some ((decide ((1 : Int) = 0 ∨ (1 : Int) = 1) && true), .inr (.inr (some (am_iv 1), am_SH, (J, K, am_RF b)))) from rfl) (am_g1 (by decide) rfl)
    · rw [if_neg c138] at h
      refine am_r_t (show am_stepn X T_JString_isLatin1 3 true (6, [(0, am_pv 2011)], [], am_SH, (J, K, am_RF b)) = some ((decide (am_i32 0) && true), .inl (bif am_cb .ne 0 0 then 17 else 13, [(0, am_pv 2011)], [], am_SH, (J, K, am_RF b))) from rfl) (am_g1 (by decide) rfl) (am_nd_f c138) ?_
      obtain rfl := Option.some.inj h
      exact am_r_ret (show am_stepn X T_JString_isLatin1 2 true (17, [(0, am_pv 2011)], [], am_SH, (J, K, am_RF b)) = some ((decide ((0 : Int) = 0 ∨ (0 : Int) = 1) && true), .inr (.inr (some (am_iv 0), am_SH, (J, K, am_RF b)))) from rfl) (am_g1 (by decide) rfl)
theorem s_JString_isLatin1_2012_ {X : am_X} {b : Bool} {J : am_J} {K : am_K}  {r : Int} (h : f_JString_isLatin1 2012  = some r) : am_runs X T_JString_isLatin1 (0, [(0, am_pv 2012)], [], am_SH, (J, K, am_RF b)) (some (am_iv r), am_SH, (J, K, am_RF b)) := by
  unfold f_JString_isLatin1 at h
  by_cases c137 : 1 = 0
  · rw [if_pos c137] at h
    refine am_r_t (show am_stepn X T_JString_isLatin1 2 true (0, [(0, am_pv 2012)], [], am_SH, (J, K, am_RF b)) = some ((decide (am_i32 1) && true), .inl (bif am_cb .eq 1 0 then 17 else 6, [(0, am_pv 2012)], [], am_SH, (J, K, am_RF b))) from rfl) (am_g1 (by decide) rfl) (decide_eq_true c137) ?_
    obtain rfl := Option.some.inj h
    exact am_r_ret (show am_stepn X T_JString_isLatin1 2 true (17, [(0, am_pv 2012)], [], am_SH, (J, K, am_RF b)) = some ((decide ((0 : Int) = 0 ∨ (0 : Int) = 1) && true), .inr (.inr (some (am_iv 0), am_SH, (J, K, am_RF b)))) from rfl) (am_g1 (by decide) rfl)
  · rw [if_neg c137] at h
    refine am_r_f (show am_stepn X T_JString_isLatin1 2 true (0, [(0, am_pv 2012)], [], am_SH, (J, K, am_RF b)) = some ((decide (am_i32 1) && true), .inl (bif am_cb .eq 1 0 then 17 else 6, [(0, am_pv 2012)], [], am_SH, (J, K, am_RF b))) from rfl) (am_g1 (by decide) rfl) (decide_eq_false c137) ?_
    by_cases c138 : 0 = 0
    · rw [if_pos c138] at h
      refine am_r_f (show am_stepn X T_JString_isLatin1 3 true (6, [(0, am_pv 2012)], [], am_SH, (J, K, am_RF b)) = some ((decide (am_i32 0) && true), .inl (bif am_cb .ne 0 0 then 17 else 13, [(0, am_pv 2012)], [], am_SH, (J, K, am_RF b))) from rfl) (am_g1 (by decide) rfl) (am_nd_t c138) ?_
      obtain rfl := Option.some.inj h
      exact am_r_ret (show am_stepn X T_JString_isLatin1 3 true (13, [(0, am_pv 2012)], [], am_SH, (J, K, am_RF b)) = some ((decide ((1 : Int) = 0 ∨ (1 : Int) = 1) && true), .inr (.inr (some (am_iv 1), am_SH, (J, K, am_RF b)))) from rfl) (am_g1 (by decide) rfl)
    · rw [if_neg c138] at h
      refine am_r_t (show am_stepn X T_JString_isLatin1 3 true (6, [(0, am_pv 2012)], [], am_SH, (J, K, am_RF b)) = some ((decide (am_i32 0) && true), .inl (bif am_cb .ne 0 0 then 17 else 13, [(0, am_pv 2012)], [], am_SH, (J, K, am_RF b))) from rfl) (am_g1 (by decide) rfl) (am_nd_f c138) ?_
      obtain rfl := Option.some.inj h
      exact am_r_ret (show am_stepn X T_JString_isLatin1 2 true (17, [(0, am_pv 2012)], [], am_SH, (J, K, am_RF b)) = some ((decide ((0 : Int) = 0 ∨ (0 : Int) = 1) && true), .inr (.inr (some (am_iv 0), am_SH, (J, K, am_RF b)))) from rfl) (am_g1 (by decide) rfl)
theorem s_JString_isLatin1_2013_ {X : am_X} {b : Bool} {J : am_J} {K : am_K}  {r : Int} (h : f_JString_isLatin1 2013  = some r) : am_runs X T_JString_isLatin1 (0, [(0, am_pv 2013)], [], am_SH, (J, K, am_RF b)) (some (am_iv r), am_SH, (J, K, am_RF b)) := by
  unfold f_JString_isLatin1 at h
  by_cases c137 : 1 = 0
  · rw [if_pos c137] at h
    refine am_r_t (show am_stepn X T_JString_isLatin1 2 true (0, [(0, am_pv 2013)], [], am_SH, (J, K, am_RF b)) = some ((decide (am_i32 1) && true), .inl (bif am_cb .eq 1 0 then 17 else 6, [(0, am_pv 2013)], [], am_SH, (J, K, am_RF b))) from rfl) (am_g1 (by decide) rfl) (decide_eq_true c137) ?_
    obtain rfl := Option.some.inj h
    exact am_r_ret (show am_stepn X T_JString_isLatin1 2 true (17, [(0, am_pv 2013)], [], am_SH, (J, K, am_RF b)) = some ((decide ((0 : Int) = 0 ∨ (0 : Int) = 1) && true), .inr (.inr (some (am_iv 0), am_SH, (J, K, am_RF b)))) from rfl) (am_g1 (by decide) rfl)
  · rw [if_neg c137] at h
    refine am_r_f (show am_stepn X T_JString_isLatin1 2 true (0, [(0, am_pv 2013)], [], am_SH, (J, K, am_RF b)) = some ((decide (am_i32 1) && true), .inl (bif am_cb .eq 1 0 then 17 else 6, [(0, am_pv 2013)], [], am_SH, (J, K, am_RF b))) from rfl) (am_g1 (by decide) rfl) (decide_eq_false c137) ?_
    by_cases c138 : 0 = 0
    · rw [if_pos c138] at h
      refine am_r_f (show am_stepn X T_JString_isLatin1 3 true (6, [(0, am_pv 2013)], [], am_SH, (J, K, am_RF b)) = some ((decide (am_i32 0) && true), .inl (bif am_cb .ne 0 0 then 17 else 13, [(0, am_pv 2013)], [], am_SH, (J, K, am_RF b))) from rfl) (am_g1 (by decide) rfl) (am_nd_t c138) ?_
      obtain rfl := Option.some.inj h
      exact am_r_ret (show am_stepn X T_JString_isLatin1 3 true (13, [(0, am_pv 2013)], [], am_SH, (J, K, am_RF b)) = some ((decide ((1 : Int) = 0 ∨ (1 : Int) = 1) && true), .inr (.inr (some (am_iv 1), am_SH, (J, K, am_RF b)))) from rfl) (am_g1 (by decide) rfl)
    · rw [if_neg c138] at h
      refine am_r_t (show am_stepn X T_JString_isLatin1 3 true (6, [(0, am_pv 2013)], [], am_SH, (J, K, am_RF b)) = some ((decide (am_i32 0) && true), .inl (bif am_cb .ne 0 0 then 17 else 13, [(0, am_pv 2013)], [], am_SH, (J, K, am_RF b))) from rfl) (am_g1 (by decide) rfl) (am_nd_f c138) ?_
      obtain rfl := Option.some.inj h
      exact am_r_ret (show am_stepn X T_JString_isLatin1 2 true (17, [(0, am_pv 2013)], [], am_SH, (J, K, am_RF b)) = some ((decide ((0 : Int) = 0 ∨ (0 : Int) = 1) && true), .inr (.inr (some (am_iv 0), am_SH, (J, K, am_RF b)))) from rfl) (am_g1 (by decide) rfl)
theorem s_JString_isLatin1 {X : am_X} {b : Bool} {o1 : Nat} (ho : o1 = 2000 ∨ o1 = 2001 ∨ o1 = 2002 ∨ o1 = 2003 ∨ o1 = 2004 ∨ o1 = 2005 ∨ o1 = 2006 ∨ o1 = 2007 ∨ o1 = 2008 ∨ o1 = 2009 ∨ o1 = 2010 ∨ o1 = 2011 ∨ o1 = 2012 ∨ o1 = 2013) {J : am_J} {K : am_K}  {r : Int} (h : f_JString_isLatin1 o1  = some r) : am_runs X T_JString_isLatin1 (0, [(0, am_pv o1)], [], am_SH, (J, K, am_RF b)) (some (am_iv r), am_SH, (J, K, am_RF b)) := by
  rcases ho with rfl | rfl | rfl | rfl | rfl | rfl | rfl | rfl | rfl | rfl | rfl | rfl | rfl | rfl
  · skip
    exact s_JString_isLatin1_2000_ h
  · skip
    exact s_JString_isLatin1_2001_ h
  · skip
    exact s_JString_isLatin1_2002_ h
  · skip
    exact s_JString_isLatin1_2003_ h
  · skip
    exact s_JString_isLatin1_2004_ h
  · skip
    exact s_JString_isLatin1_2005_ h
  · skip
    exact s_JString_isLatin1_2006_ h
  · skip
    exact s_JString_isLatin1_2007_ h
  · skip
    exact s_JString_isLatin1_2008_ h
  · skip
    exact s_JString_isLatin1_2009_ h
  · skip
    exact s_JString_isLatin1_2010_ h
  · skip
    exact s_JString_isLatin1_2011_ h
  · skip
    exact s_JString_isLatin1_2012_ h
  · skip
    exact s_JString_isLatin1_2013_ h
theorem s_JPreconditions_checkIndex {X : am_X} {b : Bool} {J : am_J} {K : am_K} {x0 : Int} {x1 : Int} {r : Int} (h : f_JPreconditions_checkIndex  x0 x1 = some r) : am_runs X T_JPreconditions_checkIndex (0, [(0, am_iv x0), (1, am_iv x1), (2, (.inr (.inr (bif X.2.2 then none else some 3000))))], [], am_SH, (J, K, am_RF b)) (some (am_iv r), am_SH, (J, K, am_RF b)) := by
  unfold f_JPreconditions_checkIndex at h
  obtain ⟨g139, h⟩ := am_if_some h
  by_cases c140 : x0 < 0
  · rw [if_pos c140] at h
    refine am_r_t (show am_stepn X T_JPreconditions_checkIndex 2 true (0, [(0, am_iv x0), (1, am_iv x1), (2, (.inr (.inr (bif X.2.2 then none else some 3000))))], [], am_SH, (J, K, am_RF b)) = some ((decide (am_i32 x0) && true), .inl (bif am_cb .lt x0 0 then 9 else 4, [(0, am_iv x0), (1, am_iv x1), (2, (.inr (.inr (bif X.2.2 then none else some 3000))))], [], am_SH, (J, K, am_RF b))) from rfl) (am_g1 g139 rfl) (decide_eq_true c140) ?_
    cases h
  · rw [if_neg c140] at h
    refine am_r_f (show am_stepn X T_JPreconditions_checkIndex 2 true (0, [(0, am_iv x0), (1, am_iv x1), (2, (.inr (.inr (bif X.2.2 then none else some 3000))))], [], am_SH, (J, K, am_RF b)) = some ((decide (am_i32 x0) && true), .inl (bif am_cb .lt x0 0 then 9 else 4, [(0, am_iv x0), (1, am_iv x1), (2, (.inr (.inr (bif X.2.2 then none else some 3000))))], [], am_SH, (J, K, am_RF b))) from rfl) (am_g1 g139 rfl) (decide_eq_false c140) ?_
    obtain ⟨g141, h⟩ := am_if_some h
    by_cases c142 : x0 < x1
    · rw [if_pos c142] at h
      refine am_r_t (show am_stepn X T_JPreconditions_checkIndex 3 true (4, [(0, am_iv x0), (1, am_iv x1), (2, (.inr (.inr (bif X.2.2 then none else some 3000))))], [], am_SH, (J, K, am_RF b)) = some (((decide (am_i32 x1) && decide (am_i32 x0)) && true), .inl (bif am_cb .lt x0 x1 then 16 else 9, [(0, am_iv x0), (1, am_iv x1), (2, (.inr (.inr (bif X.2.2 then none else some 3000))))], [], am_SH, (J, K, am_RF b))) from rfl) (am_g2 g141 g139 rfl) (decide_eq_true c142) ?_
      obtain rfl := Option.some.inj h
      exact am_r_ret (show am_stepn X T_JPreconditions_checkIndex 2 true (16, [(0, am_iv x0), (1, am_iv x1), (2, (.inr (.inr (bif X.2.2 then none else some 3000))))], [], am_SH, (J, K, am_RF b)) = some (true, .inr (.inr (some (am_iv x0), am_SH, (J, K, am_RF b)))) from rfl) rfl
    · rw [if_neg c142] at h
      refine am_r_f (show am_stepn X T_JPreconditions_checkIndex 3 true (4, [(0, am_iv x0), (1, am_iv x1), (2, (.inr (.inr (bif X.2.2 then none else some 3000))))], [], am_SH, (J, K, am_RF b)) = some (((decide (am_i32 x1) && decide (am_i32 x0)) && true), .inl (bif am_cb .lt x0 x1 then 16 else 9, [(0, am_iv x0), (1, am_iv x1), (2, (.inr (.inr (bif X.2.2 then none else some 3000))))], [], am_SH, (J, K, am_RF b))) from rfl) (am_g2 g141 g139 rfl) (decide_eq_false c142) ?_
      cases h
theorem s_JString_checkIndex {X : am_X} {b : Bool} {J : am_J} {K : am_K} {x0 : Int} {x1 : Int} {r : Unit} (h : f_JString_checkIndex  x0 x1 = some r) : am_runs X T_JString_checkIndex (0, [(0, am_iv x0), (1, am_iv x1)], [], am_SH, (J, K, am_RF b)) (none, am_SH, (J, K, am_RF b)) := by
  unfold f_JString_checkIndex at h
  obtain ⟨q143, e144, h⟩ := am_bind_some h
  refine am_r_call (show am_stepn X T_JString_checkIndex 4 true (0, [(0, am_iv x0), (1, am_iv x1)], [], am_SH, (J, K, am_RF b)) = some (true, .inr (.inl (38, [am_iv x0, am_iv x1, (.inr (.inr (bif X.2.2 then none else some 3000)))], 3, 0, 0, 8, [(0, am_iv x0), (1, am_iv x1)], [], am_SH, (J, K, am_RF b)))) from rfl) rfl tb_JPreconditions_checkIndex (s_JPreconditions_checkIndex e144) ?_
  obtain rfl := Option.some.inj h
  exact am_r_ret (show am_stepn X T_JString_checkIndex 2 true (8, [(0, am_iv x0), (1, am_iv x1)], [am_iv q143], am_SH, (J, K, am_RF b)) = some (true, .inr (.inr (none, am_SH, (J, K, am_RF b)))) from rfl) rfl
theorem s_JStringLatin1_charAt_2100_ {X : am_X} {b : Bool} {J : am_J} {K : am_K} {x1 : Int} {r : Int} (h : f_JStringLatin1_charAt 2100 x1 = some r) : am_runs X T_JStringLatin1_charAt (0, [(0, am_pv 2100), (1, am_iv x1)], [], am_SH, (J, K, am_RF b)) (some (am_iv r), am_SH, (J, K, am_RF b)) := by
  unfold f_JStringLatin1_charAt at h
  obtain ⟨q145, e146, h⟩ := am_bind_some h
  refine am_r_call (show am_stepn X T_JStringLatin1_charAt 4 true (0, [(0, am_pv 2100), (1, am_iv x1)], [], am_SH, (J, K, am_RF b)) = some (true, .inr (.inl (37, [am_iv x1, am_iv (am_wln 2100)], 2, 0, 0, 6, [(0, am_pv 2100), (1, am_iv x1)], [], am_SH, (J, K, am_RF b)))) from rfl) rfl tb_JString_checkIndex (s_JString_checkIndex e146) ?_
  obtain ⟨g147, h⟩ := am_if_some h
  obtain ⟨g148, h⟩ := am_if_some h
  obtain rfl := Option.some.inj h
  exact am_r_ret (show am_stepn X T_JStringLatin1_charAt 7 true (6, [(0, am_pv 2100), (1, am_iv x1)], [], am_SH, (J, K, am_RF b)) = some ((decide (0 ≤ (am_i2c (am_and (am_wc 2100 x1) 255) : Int) ∧ (am_i2c (am_and (am_wc 2100 x1) 255) : Int) < 128) && (am_in x1 (am_words.getD (2100 - 2100) []).length && true)), .inr (.inr (some (am_iv (am_i2c (am_and (am_wc 2100 x1) 255))), am_SH, (J, K, am_RF b)))) from rfl) (am_g1 g148 (am_gi g147 rfl))
theorem s_JStringLatin1_charAt_2101_ {X : am_X} {b : Bool} {J : am_J} {K : am_K} {x1 : Int} {r : Int} (h : f_JStringLatin1_charAt 2101 x1 = some r) : am_runs X T_JStringLatin1_charAt (0, [(0, am_pv 2101), (1, am_iv x1)], [], am_SH, (J, K, am_RF b)) (some (am_iv r), am_SH, (J, K, am_RF b)) := by
  unfold f_JStringLatin1_charAt at h
  obtain ⟨q145, e146, h⟩ := am_bind_some h
  refine am_r_call (show am_stepn X T_JStringLatin1_charAt 4 true (0, [(0, am_pv 2101), (1, am_iv x1)], [], am_SH, (J, K, am_RF b)) = some (true, .inr (.inl (37, [am_iv x1, am_iv (am_wln 2101)], 2, 0, 0, 6, [(0, am_pv 2101), (1, am_iv x1)], [], am_SH, (J, K, am_RF b)))) from rfl) rfl tb_JString_checkIndex (s_JString_checkIndex e146) ?_
  obtain ⟨g147, h⟩ := am_if_some h
  obtain ⟨g148, h⟩ := am_if_some h
  obtain rfl := Option.some.inj h
  exact am_r_ret (show am_stepn X T_JStringLatin1_charAt 7 true (6, [(0, am_pv 2101), (1, am_iv x1)], [], am_SH, (J, K, am_RF b)) = some ((decide (0 ≤ (am_i2c (am_and (am_wc 2101 x1) 255) : Int) ∧ (am_i2c (am_and (am_wc 2101 x1) 255) : Int) < 128) && (am_in x1 (am_words.getD (2101 - 2100) []).length && true)), .inr (.inr (some (am_iv (am_i2c (am_and (am_wc 2101 x1) 255))), am_SH, (J, K, am_RF b)))) from rfl) (am_g1 g148 (am_gi g147 rfl))
theorem s_JStringLatin1_charAt_2102_ {X : am_X} {b : Bool} {J : am_J} {K : am_K} {x1 : Int} {r : Int} (h : f_JStringLatin1_charAt 2102 x1 = some r) : am_runs X T_JStringLatin1_charAt (0, [(0, am_pv 2102), (1, am_iv x1)], [], am_SH, (J, K, am_RF b)) (some (am_iv r), am_SH, (J, K, am_RF b)) := by
  unfold f_JStringLatin1_charAt at h
  obtain ⟨q145, e146, h⟩ := am_bind_some h
  refine am_r_call (show am_stepn X T_JStringLatin1_charAt 4 true (0, [(0, am_pv 2102), (1, am_iv x1)], [], am_SH, (J, K, am_RF b)) = some (true, .inr (.inl (37, [am_iv x1, am_iv (am_wln 2102)], 2, 0, 0, 6, [(0, am_pv 2102), (1, am_iv x1)], [], am_SH, (J, K, am_RF b)))) from rfl) rfl tb_JString_checkIndex (s_JString_checkIndex e146) ?_
  obtain ⟨g147, h⟩ := am_if_some h
  obtain ⟨g148, h⟩ := am_if_some h
  obtain rfl := Option.some.inj h
  exact am_r_ret (show am_stepn X T_JStringLatin1_charAt 7 true (6, [(0, am_pv 2102), (1, am_iv x1)], [], am_SH, (J, K, am_RF b)) = some ((decide (0 ≤ (am_i2c (am_and (am_wc 2102 x1) 255) : Int) ∧ (am_i2c (am_and (am_wc 2102 x1) 255) : Int) < 128) && (am_in x1 (am_words.getD (2102 - 2100) []).length && true)), .inr (.inr (some (am_iv (am_i2c (am_and (am_wc 2102 x1) 255))), am_SH, (J, K, am_RF b)))) from rfl) (am_g1 g148 (am_gi g147 rfl))
theorem s_JStringLatin1_charAt_2103_ {X : am_X} {b : Bool} {J : am_J} {K : am_K} {x1 : Int} {r : Int} (h : f_JStringLatin1_charAt 2103 x1 = some r) : am_runs X T_JStringLatin1_charAt (0, [(0, am_pv 2103), (1, am_iv x1)], [], am_SH, (J, K, am_RF b)) (some (am_iv r), am_SH, (J, K, am_RF b)) := by
  unfold f_JStringLatin1_charAt at h
  obtain ⟨q145, e146, h⟩ := am_bind_some h
  refine am_r_call (show am_stepn X T_JStringLatin1_charAt 4 true (0, [(0, am_pv 2103), (1, am_iv x1)], [], am_SH, (J, K, am_RF b)) = some (true, .inr (.inl (37, [am_iv x1, am_iv (am_wln 2103)], 2, 0, 0, 6, [(0, am_pv 2103), (1, am_iv x1)], [], am_SH, (J, K, am_RF b)))) from rfl) rfl tb_JString_checkIndex (s_JString_checkIndex e146) ?_
  obtain ⟨g147, h⟩ := am_if_some h
  obtain ⟨g148, h⟩ := am_if_some h
  obtain rfl := Option.some.inj h
  exact am_r_ret (show am_stepn X T_JStringLatin1_charAt 7 true (6, [(0, am_pv 2103), (1, am_iv x1)], [], am_SH, (J, K, am_RF b)) = some ((decide (0 ≤ (am_i2c (am_and (am_wc 2103 x1) 255) : Int) ∧ (am_i2c (am_and (am_wc 2103 x1) 255) : Int) < 128) && (am_in x1 (am_words.getD (2103 - 2100) []).length && true)), .inr (.inr (some (am_iv (am_i2c (am_and (am_wc 2103 x1) 255))), am_SH, (J, K, am_RF b)))) from rfl) (am_g1 g148 (am_gi g147 rfl))
theorem s_JStringLatin1_charAt_2104_ {X : am_X} {b : Bool} {J : am_J} {K : am_K} {x1 : Int} {r : Int} (h : f_JStringLatin1_charAt 2104 x1 = some r) : am_runs X T_JStringLatin1_charAt (0, [(0, am_pv 2104), (1, am_iv x1)], [], am_SH, (J, K, am_RF b)) (some (am_iv r), am_SH, (J, K, am_RF b)) := by
  unfold f_JStringLatin1_charAt at h
  obtain ⟨q145, e146, h⟩ := am_bind_some h
  refine am_r_call (show am_stepn X T_JStringLatin1_charAt 4 true (0, [(0, am_pv 2104), (1, am_iv x1)], [], am_SH, (J, K, am_RF b)) = some (true, .inr (.inl (37, [am_iv x1, am_iv (am_wln 2104)], 2, 0, 0, 6, [(0, am_pv 2104), (1, am_iv x1)], [], am_SH, (J, K, am_RF b)))) from rfl) rfl tb_JString_checkIndex (s_JString_checkIndex e146) ?_
  obtain ⟨g147, h⟩ := am_if_some h
  obtain ⟨g148, h⟩ := am_if_some h
  obtain rfl := Option.some.inj h
  exact am_r_ret (show am_stepn X T_JStringLatin1_charAt 7 true (6, [(0, am_pv 2104), (1, am_iv x1)], [], am_SH, (J, K, am_RF b)) = some ((decide (0 ≤ (am_i2c (am_and (am_wc 2104 x1) 255) : Int) ∧ (am_i2c (am_and (am_wc 2104 x1) 255) : Int) < 128) && (am_in x1 (am_words.getD (2104 - 2100) []).length && true)), .inr (.inr (some (am_iv (am_i2c (am_and (am_wc 2104 x1) 255))), am_SH, (J, K, am_RF b)))) from rfl) (am_g1 g148 (am_gi g147 rfl))
theorem s_JStringLatin1_charAt_2105_ {X : am_X} {b : Bool} {J : am_J} {K : am_K} {x1 : Int} {r : Int} (h : f_JStringLatin1_charAt 2105 x1 = some r) : am_runs X T_JStringLatin1_charAt (0, [(0, am_pv 2105), (1, am_iv x1)], [], am_SH, (J, K, am_RF b)) (some (am_iv r), am_SH, (J, K, am_RF b)) := by
  unfold f_JStringLatin1_charAt at h
  obtain ⟨q145, e146, h⟩ := am_bind_some h
  refine am_r_call (show am_stepn X T_JStringLatin1_charAt 4 true (0, [(0, am_pv 2105), (1, am_iv x1)], [], am_SH, (J, K, am_RF b)) = some (true, .inr (.inl (37, [am_iv x1, am_iv (am_wln 2105)], 2, 0, 0, 6, [(0, am_pv 2105), (1, am_iv x1)], [], am_SH, (J, K, am_RF b)))) from rfl) rfl tb_JString_checkIndex (s_JString_checkIndex e146) ?_
  obtain ⟨g147, h⟩ := am_if_some h
  obtain ⟨g148, h⟩ := am_if_some h
  obtain rfl := Option.some.inj h
  exact am_r_ret (show am_stepn X T_JStringLatin1_charAt 7 true (6, [(0, am_pv 2105), (1, am_iv x1)], [], am_SH, (J, K, am_RF b)) = some ((decide (0 ≤ (am_i2c (am_and (am_wc 2105 x1) 255) : Int) ∧ (am_i2c (am_and (am_wc 2105 x1) 255) : Int) < 128) && (am_in x1 (am_words.getD (2105 - 2100) []).length && true)), .inr (.inr (some (am_iv (am_i2c (am_and (am_wc 2105 x1) 255))), am_SH, (J, K, am_RF b)))) from rfl) (am_g1 g148 (am_gi g147 rfl))
theorem s_JStringLatin1_charAt_2106_ {X : am_X} {b : Bool} {J : am_J} {K : am_K} {x1 : Int} {r : Int} (h : f_JStringLatin1_charAt 2106 x1 = some r) : am_runs X T_JStringLatin1_charAt (0, [(0, am_pv 2106), (1, am_iv x1)], [], am_SH, (J, K, am_RF b)) (some (am_iv r), am_SH, (J, K, am_RF b)) := by
  unfold f_JStringLatin1_charAt at h
  obtain ⟨q145, e146, h⟩ := am_bind_some h
  refine am_r_call (show am_stepn X T_JStringLatin1_charAt 4 true (0, [(0, am_pv 2106), (1, am_iv x1)], [], am_SH, (J, K, am_RF b)) = some (true, .inr (.inl (37, [am_iv x1, am_iv (am_wln 2106)], 2, 0, 0, 6, [(0, am_pv 2106), (1, am_iv x1)], [], am_SH, (J, K, am_RF b)))) from rfl) rfl tb_JString_checkIndex (s_JString_checkIndex e146) ?_
  obtain ⟨g147, h⟩ := am_if_some h
  obtain ⟨g148, h⟩ := am_if_some h
  obtain rfl := Option.some.inj h
  exact am_r_ret (show am_stepn X T_JStringLatin1_charAt 7 true (6, [(0, am_pv 2106), (1, am_iv x1)], [], am_SH, (J, K, am_RF b)) = some ((decide (0 ≤ (am_i2c (am_and (am_wc 2106 x1) 255) : Int) ∧ (am_i2c (am_and (am_wc 2106 x1) 255) : Int) < 128) && (am_in x1 (am_words.getD (2106 - 2100) []).length && true)), .inr (.inr (some (am_iv (am_i2c (am_and (am_wc 2106 x1) 255))), am_SH, (J, K, am_RF b)))) from rfl) (am_g1 g148 (am_gi g147 rfl))
theorem s_JStringLatin1_charAt_2107_ {X : am_X} {b : Bool} {J : am_J} {K : am_K} {x1 : Int} {r : Int} (h : f_JStringLatin1_charAt 2107 x1 = some r) : am_runs X T_JStringLatin1_charAt (0, [(0, am_pv 2107), (1, am_iv x1)], [], am_SH, (J, K, am_RF b)) (some (am_iv r), am_SH, (J, K, am_RF b)) := by
  unfold f_JStringLatin1_charAt at h
  obtain ⟨q145, e146, h⟩ := am_bind_some h
  refine am_r_call (show am_stepn X T_JStringLatin1_charAt 4 true (0, [(0, am_pv 2107), (1, am_iv x1)], [], am_SH, (J, K, am_RF b)) = some (true, .inr (.inl (37, [am_iv x1, am_iv (am_wln 2107)], 2, 0, 0, 6, [(0, am_pv 2107), (1, am_iv x1)], [], am_SH, (J, K, am_RF b)))) from rfl) rfl tb_JString_checkIndex (s_JString_checkIndex e146) ?_
  obtain ⟨g147, h⟩ := am_if_some h
  obtain ⟨g148, h⟩ := am_if_some h
  obtain rfl := Option.some.inj h
  exact am_r_ret (show am_stepn X T_JStringLatin1_charAt 7 true (6, [(0, am_pv 2107), (1, am_iv x1)], [], am_SH, (J, K, am_RF b)) = some ((decide (0 ≤ (am_i2c (am_and (am_wc 2107 x1) 255) : Int) ∧ (am_i2c (am_and (am_wc 2107 x1) 255) : Int) < 128) && (am_in x1 (am_words.getD (2107 - 2100) []).length && true)), .inr (.inr (some (am_iv (am_i2c (am_and (am_wc 2107 x1) 255))), am_SH, (J, K, am_RF b)))) from rfl) (am_g1 g148 (am_gi g147 rfl))
theorem s_JStringLatin1_charAt_2108_ {X : am_X} {b : Bool} {J : am_J} {K : am_K} {x1 : Int} {r : Int} (h : f_JStringLatin1_charAt 2108 x1 = some r) : am_runs X T_JStringLatin1_charAt (0, [(0, am_pv 2108), (1, am_iv x1)], [], am_SH, (J, K, am_RF b)) (some (am_iv r), am_SH, (J, K, am_RF b)) := by
  unfold f_JStringLatin1_charAt at h
  obtain ⟨q145, e146, h⟩ := am_bind_some h
  refine am_r_call (show am_stepn X T_JStringLatin1_charAt 4 true (0, [(0, am_pv 2108), (1, am_iv x1)], [], am_SH, (J, K, am_RF b)) = some (true, .inr (.inl (37, [am_iv x1, am_iv (am_wln 2108)], 2, 0, 0, 6, [(0, am_pv 2108), (1, am_iv x1)], [], am_SH, (J, K, am_RF b)))) from rfl) rfl tb_JString_checkIndex (s_JString_checkIndex e146) ?_
  obtain ⟨g147, h⟩ := am_if_some h
  obtain ⟨g148, h⟩ := am_if_some h
  obtain rfl := Option.some.inj h
  exact am_r_ret (show am_stepn X T_JStringLatin1_charAt 7 true (6, [(0, am_pv 2108), (1, am_iv x1)], [], am_SH, (J, K, am_RF b)) = some ((decide (0 ≤ (am_i2c (am_and (am_wc 2108 x1) 255) : Int) ∧ (am_i2c (am_and (am_wc 2108 x1) 255) : Int) < 128) && (am_in x1 (am_words.getD (2108 - 2100) []).length && true)), .inr (.inr (some (am_iv (am_i2c (am_and (am_wc 2108 x1) 255))), am_SH, (J, K, am_RF b)))) from rfl) (am_g1 g148 (am_gi g147 rfl))
theorem s_JStringLatin1_charAt_2109_ {X : am_X} {b : Bool} {J : am_J} {K : am_K} {x1 : Int} {r : Int} (h : f_JStringLatin1_charAt 2109 x1 = some r) : am_runs X T_JStringLatin1_charAt (0, [(0, am_pv 2109), (1, am_iv x1)], [], am_SH, (J, K, am_RF b)) (some (am_iv r), am_SH, (J, K, am_RF b)) := by
  unfold f_JStringLatin1_charAt at h
  obtain ⟨q145, e146, h⟩ := am_bind_some h
  refine am_r_call (show am_stepn X T_JStringLatin1_charAt 4 true (0, [(0, am_pv 2109), (1, am_iv x1)], [], am_SH, (J, K, am_RF b)) = some (true, .inr (.inl (37, [am_iv x1, am_iv (am_wln 2109)], 2, 0, 0, 6, [(0, am_pv 2109), (1, am_iv x1)], [], am_SH, (J, K, am_RF b)))) from rfl) rfl tb_JString_checkIndex (s_JString_checkIndex e146) ?_
  obtain ⟨g147, h⟩ := am_if_some h
  obtain ⟨g148, h⟩ := am_if_some h
  obtain rfl := Option.some.inj h
  exact am_r_ret (show am_stepn X T_JStringLatin1_charAt 7 true (6, [(0, am_pv 2109), (1, am_iv x1)], [], am_SH, (J, K, am_RF b)) = some ((decide (0 ≤ (am_i2c (am_and (am_wc 2109 x1) 255) : Int) ∧ (am_i2c (am_and (am_wc 2109 x1) 255) : Int) < 128) && (am_in x1 (am_words.getD (2109 - 2100) []).length && true)), .inr (.inr (some (am_iv (am_i2c (am_and (am_wc 2109 x1) 255))), am_SH, (J, K, am_RF b)))) from rfl) (am_g1 g148 (am_gi g147 rfl))
theorem s_JStringLatin1_charAt_2110_ {X : am_X} {b : Bool} {J : am_J} {K : am_K} {x1 : Int} {r : Int} (h : f_JStringLatin1_charAt 2110 x1 = some r) : am_runs X T_JStringLatin1_charAt (0, [(0, am_pv 2110), (1, am_iv x1)], [], am_SH, (J, K, am_RF b)) (some (am_iv r), am_SH, (J, K, am_RF b)) := by
  unfold f_JStringLatin1_charAt at h
  obtain ⟨q145, e146, h⟩ := am_bind_some h
  refine am_r_call (show am_stepn X T_JStringLatin1_charAt 4 true (0, [(0, am_pv 2110), (1, am_iv x1)], [], am_SH, (J, K, am_RF b)) = some (true, .inr (.inl (37, [am_iv x1, am_iv (am_wln 2110)], 2, 0, 0, 6, [(0, am_pv 2110), (1, am_iv x1)], [], am_SH, (J, K, am_RF b)))) from rfl) rfl tb_JString_checkIndex (s_JString_checkIndex e146) ?_
  obtain ⟨g147, h⟩ := am_if_some h
  obtain ⟨g148, h⟩ := am_if_some h
  obtain rfl := Option.some.inj h
  exact am_r_ret (show am_stepn X T_JStringLatin1_charAt 7 true (6, [(0, am_pv 2110), (1, am_iv x1)], [], am_SH, (J, K, am_RF b)) = some ((decide (0 ≤ (am_i2c (am_and (am_wc 2110 x1) 255) : Int) ∧ (am_i2c (am_and (am_wc 2110 x1) 255) : Int) < 128) && (am_in x1 (am_words.getD (2110 - 2100) []).length && true)), .inr (.inr (some (am_iv (am_i2c (am_and (am_wc 2110 x1) 255))), am_SH, (J, K, am_RF b)))) from rfl) (am_g1 g148 (am_gi g147 rfl))
theorem s_JStringLatin1_charAt_2111_ {X : am_X} {b : Bool} {J : am_J} {K : am_K} {x1 : Int} {r : Int} (h : f_JStringLatin1_charAt 2111 x1 = some r) : am_runs X T_JStringLatin1_charAt (0, [(0, am_pv 2111), (1, am_iv x1)], [], am_SH, (J, K, am_RF b)) (some (am_iv r), am_SH, (J, K, am_RF b)) := by
  unfold f_JStringLatin1_charAt at h
  obtain ⟨q145, e146, h⟩ := am_bind_some h
  refine am_r_call (show am_stepn X T_JStringLatin1_charAt 4 true (0, [(0, am_pv 2111), (1, am_iv x1)], [], am_SH, (J, K, am_RF b)) = some (true, .inr (.inl (37, [am_iv x1, am_iv (am_wln 2111)], 2, 0, 0, 6, [(0, am_pv 2111), (1, am_iv x1)], [], am_SH, (J, K, am_RF b)))) from rfl) rfl tb_JString_checkIndex (s_JString_checkIndex e146) ?_
  obtain ⟨g147, h⟩ := am_if_some h
  obtain ⟨g148, h⟩ := am_if_some h
  obtain rfl := Option.some.inj h
  exact am_r_ret (show am_stepn X T_JStringLatin1_charAt 7 true (6, [(0, am_pv 2111), (1, am_iv x1)], [], am_SH, (J, K, am_RF b)) = some ((decide (0 ≤ (am_i2c (am_and (am_wc 2111 x1) 255) : Int) ∧ (am_i2c (am_and (am_wc 2111 x1) 255) : Int) < 128) && (am_in x1 (am_words.getD (2111 - 2100) []).length && true)), .inr (.inr (some (am_iv (am_i2c (am_and (am_wc 2111 x1) 255))), am_SH, (J, K, am_RF b)))) from rfl) (am_g1 g148 (am_gi g147 rfl))
theorem s_JStringLatin1_charAt_2112_ {X : am_X} {b : Bool} {J : am_J} {K : am_K} {x1 : Int} {r : Int} (h : f_JStringLatin1_charAt 2112 x1 = some r) : am_runs X T_JStringLatin1_charAt (0, [(0, am_pv 2112), (1, am_iv x1)], [], am_SH, (J, K, am_RF b)) (some (am_iv r), am_SH, (J, K, am_RF b)) := by
  unfold f_JStringLatin1_charAt at h
  obtain ⟨q145, e146, h⟩ := am_bind_some h
  refine am_r_call (show am_stepn X T_JStringLatin1_charAt 4 true (0, [(0, am_pv 2112), (1, am_iv x1)], [], am_SH, (J, K, am_RF b)) = some (true, .inr (.inl (37, [am_iv x1, am_iv (am_wln 2112)], 2, 0, 0, 6, [(0, am_pv 2112), (1, am_iv x1)], [], am_SH, (J, K, am_RF b)))) from rfl) rfl tb_JString_checkIndex (s_JString_checkIndex e146) ?_
  obtain ⟨g147, h⟩ := am_if_some h
  obtain ⟨g148, h⟩ := am_if_some h
  obtain rfl := Option.some.inj h
  exact am_r_ret (show am_stepn X T_JStringLatin1_charAt 7 true (6, [(0, am_pv 2112), (1, am_iv x1)], [], am_SH, (J, K, am_RF b)) = some ((decide (0 ≤ (am_i2c (am_and (am_wc 2112 x1) 255) : Int) ∧ (am_i2c (am_and (am_wc 2112 x1) 255) : Int) < 128) && (am_in x1 (am_words.getD (2112 - 2100) []).length && true)), .inr (.inr (some (am_iv (am_i2c (am_and (am_wc 2112 x1) 255))), am_SH, (J, K, am_RF b)))) from rfl) (am_g1 g148 (am_gi g147 rfl))
theorem s_JStringLatin1_charAt_2113_ {X : am_X} {b : Bool} {J : am_J} {K : am_K} {x1 : Int} {r : Int} (h : f_JStringLatin1_charAt 2113 x1 = some r) : am_runs X T_JStringLatin1_charAt (0, [(0, am_pv 2113), (1, am_iv x1)], [], am_SH, (J, K, am_RF b)) (some (am_iv r), am_SH, (J, K, am_RF b)) := by
  unfold f_JStringLatin1_charAt at h
  obtain ⟨q145, e146, h⟩ := am_bind_some h
  refine am_r_call (show am_stepn X T_JStringLatin1_charAt 4 true (0, [(0, am_pv 2113), (1, am_iv x1)], [], am_SH, (J, K, am_RF b)) = some (true, .inr (.inl (37, [am_iv x1, am_iv (am_wln 2113)], 2, 0, 0, 6, [(0, am_pv 2113), (1, am_iv x1)], [], am_SH, (J, K, am_RF b)))) from rfl) rfl tb_JString_checkIndex (s_JString_checkIndex e146) ?_
  obtain ⟨g147, h⟩ := am_if_some h
  obtain ⟨g148, h⟩ := am_if_some h
  obtain rfl := Option.some.inj h
  exact am_r_ret (show am_stepn X T_JStringLatin1_charAt 7 true (6, [(0, am_pv 2113), (1, am_iv x1)], [], am_SH, (J, K, am_RF b)) = some ((decide (0 ≤ (am_i2c (am_and (am_wc 2113 x1) 255) : Int) ∧ (am_i2c (am_and (am_wc 2113 x1) 255) : Int) < 128) && (am_in x1 (am_words.getD (2113 - 2100) []).length && true)), .inr (.inr (some (am_iv (am_i2c (am_and (am_wc 2113 x1) 255))), am_SH, (J, K, am_RF b)))) from rfl) (am_g1 g148 (am_gi g147 rfl))
theorem s_JStringLatin1_charAt {X : am_X} {b : Bool} {o1 : Nat} (ho : o1 = 2100 ∨ o1 = 2101 ∨ o1 = 2102 ∨ o1 = 2103 ∨ o1 = 2104 ∨ o1 = 2105 ∨ o1 = 2106 ∨ o1 = 2107 ∨ o1 = 2108 ∨ o1 = 2109 ∨ o1 = 2110 ∨ o1 = 2111 ∨ o1 = 2112 ∨ o1 = 2113) {J : am_J} {K : am_K} {x1 : Int} {r : Int} (h : f_JStringLatin1_charAt o1 x1 = some r) : am_runs X T_JStringLatin1_charAt (0, [(0, am_pv o1), (1, am_iv x1)], [], am_SH, (J, K, am_RF b)) (some (am_iv r), am_SH, (J, K, am_RF b)) := by
  rcases ho with rfl | rfl | rfl | rfl | rfl | rfl | rfl | rfl | rfl | rfl | rfl | rfl | rfl | rfl
  · skip
    exact s_JStringLatin1_charAt_2100_ h
  · skip
    exact s_JStringLatin1_charAt_2101_ h
  · skip
    exact s_JStringLatin1_charAt_2102_ h
  · skip
    exact s_JStringLatin1_charAt_2103_ h
  · skip
    exact s_JStringLatin1_charAt_2104_ h
  · skip
    exact s_JStringLatin1_charAt_2105_ h
  · skip
    exact s_JStringLatin1_charAt_2106_ h
  · skip
    exact s_JStringLatin1_charAt_2107_ h
  · skip
    exact s_JStringLatin1_charAt_2108_ h
  · skip
    exact s_JStringLatin1_charAt_2109_ h
  · skip
    exact s_JStringLatin1_charAt_2110_ h
  · skip
    exact s_JStringLatin1_charAt_2111_ h
  · skip
    exact s_JStringLatin1_charAt_2112_ h
  · skip
    exact s_JStringLatin1_charAt_2113_ h
