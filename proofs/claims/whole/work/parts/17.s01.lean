theorem s_JString_charAt_2000_ {X : am_X} {b : Bool} {J : am_J} {K : am_K} {x1 : Int} {r : Int} (h : f_JString_charAt 2000 x1 = some r) : am_runs X T_JString_charAt (0, [(0, am_pv 2000), (1, am_iv x1)], [], am_SH, (J, K, am_RF b)) (some (am_iv r), am_SH, (J, K, am_RF b)) := by
  unfold f_JString_charAt at h
  obtain ⟨q149, e150, h⟩ := am_bind_some h
  refine am_r_call (show am_stepn X T_JString_charAt 2 true (0, [(0, am_pv 2000), (1, am_iv x1)], [], am_SH, (J, K, am_RF b)) = some (true, .inr (.inl (35, [am_pv 2000], 1, 0, 0, 4, [(0, am_pv 2000), (1, am_iv x1)], [], am_SH, (J, K, am_RF b)))) from rfl) rfl tb_JString_isLatin1 (s_JString_isLatin1 (by decide) e150) ?_
  obtain ⟨g151, h⟩ := am_if_some h
  by_cases c152 : q149 = 0
  · rw [if_pos c152] at h
    refine am_r_t (show am_stepn X T_JString_charAt 1 true (4, [(0, am_pv 2000), (1, am_iv x1)], [am_iv q149], am_SH, (J, K, am_RF b)) = some ((decide (am_i32 q149) && true), .inl (bif am_cb .eq q149 0 then 16 else 7, [(0, am_pv 2000), (1, am_iv x1)], [], am_SH, (J, K, am_RF b))) from rfl) (am_g1 g151 rfl) (decide_eq_true c152) ?_
    cases h
  · rw [if_neg c152] at h
    refine am_r_f (show am_stepn X T_JString_charAt 1 true (4, [(0, am_pv 2000), (1, am_iv x1)], [am_iv q149], am_SH, (J, K, am_RF b)) = some ((decide (am_i32 q149) && true), .inl (bif am_cb .eq q149 0 then 16 else 7, [(0, am_pv 2000), (1, am_iv x1)], [], am_SH, (J, K, am_RF b))) from rfl) (am_g1 g151 rfl) (decide_eq_false c152) ?_
    obtain ⟨q153, e154, h⟩ := am_bind_some h
    refine am_r_call (show am_stepn X T_JString_charAt 4 true (7, [(0, am_pv 2000), (1, am_iv x1)], [], am_SH, (J, K, am_RF b)) = some (true, .inr (.inl (36, [am_pv (2000 + 100), am_iv x1], 2, 0, 0, 15, [(0, am_pv 2000), (1, am_iv x1)], [], am_SH, (J, K, am_RF b)))) from rfl) rfl tb_JStringLatin1_charAt (s_JStringLatin1_charAt (by decide) e154) ?_
    obtain ⟨g155, h⟩ := am_if_some h
    obtain rfl := Option.some.inj h
    exact am_r_ret (show am_stepn X T_JString_charAt 1 true (15, [(0, am_pv 2000), (1, am_iv x1)], [am_iv q153], am_SH, (J, K, am_RF b)) = some ((decide (0 ≤ (q153 : Int) ∧ (q153 : Int) < 128) && true), .inr (.inr (some (am_iv q153), am_SH, (J, K, am_RF b)))) from rfl) (am_g1 g155 rfl)
theorem s_JString_charAt_2001_ {X : am_X} {b : Bool} {J : am_J} {K : am_K} {x1 : Int} {r : Int} (h : f_JString_charAt 2001 x1 = some r) : am_runs X T_JString_charAt (0, [(0, am_pv 2001), (1, am_iv x1)], [], am_SH, (J, K, am_RF b)) (some (am_iv r), am_SH, (J, K, am_RF b)) := by
  unfold f_JString_charAt at h
  obtain ⟨q149, e150, h⟩ := am_bind_some h
  refine am_r_call (show am_stepn X T_JString_charAt 2 true (0, [(0, am_pv 2001), (1, am_iv x1)], [], am_SH, (J, K, am_RF b)) = some (true, .inr (.inl (35, [am_pv 2001], 1, 0, 0, 4, [(0, am_pv 2001), (1, am_iv x1)], [], am_SH, (J, K, am_RF b)))) from rfl) rfl tb_JString_isLatin1 (s_JString_isLatin1 (by decide) e150) ?_
  obtain ⟨g151, h⟩ := am_if_some h
  by_cases c152 : q149 = 0
  · rw [if_pos c152] at h
    refine am_r_t (show am_stepn X T_JString_charAt 1 true (4, [(0, am_pv 2001), (1, am_iv x1)], [am_iv q149], am_SH, (J, K, am_RF b)) = some ((decide (am_i32 q149) && true), .inl (bif am_cb .eq q149 0 then 16 else 7, [(0, am_pv 2001), (1, am_iv x1)], [], am_SH, (J, K, am_RF b))) from rfl) (am_g1 g151 rfl) (decide_eq_true c152) ?_
    cases h
  · rw [if_neg c152] at h
    refine am_r_f (show am_stepn X T_JString_charAt 1 true (4, [(0, am_pv 2001), (1, am_iv x1)], [am_iv q149], am_SH, (J, K, am_RF b)) = some ((decide (am_i32 q149) && true), .inl (bif am_cb .eq q149 0 then 16 else 7, [(0, am_pv 2001), (1, am_iv x1)], [], am_SH, (J, K, am_RF b))) from rfl) (am_g1 g151 rfl) (decide_eq_false c152) ?_
    obtain ⟨q153, e154, h⟩ := am_bind_some h
    refine am_r_call (show am_stepn X T_JString_charAt 4 true (7, [(0, am_pv 2001), (1, am_iv x1)], [], am_SH, (J, K, am_RF b)) = some (true, .inr (.inl (36, [am_pv (2001 + 100), am_iv x1], 2, 0, 0, 15, [(0, am_pv 2001), (1, am_iv x1)], [], am_SH, (J, K, am_RF b)))) from rfl) rfl tb_JStringLatin1_charAt (s_JStringLatin1_charAt (by decide) e154) ?_
    obtain ⟨g155, h⟩ := am_if_some h
    obtain rfl := Option.some.inj h
    exact am_r_ret (show am_stepn X T_JString_charAt 1 true (15, [(0, am_pv 2001), (1, am_iv x1)], [am_iv q153], am_SH, (J, K, am_RF b)) = some ((decide (0 ≤ (q153 : Int) ∧ (q153 : Int) < 128) && true), .inr (.inr (some (am_iv q153), am_SH, (J, K, am_RF b)))) from rfl) (am_g1 g155 rfl)
theorem s_JString_charAt_2002_ {X : am_X} {b : Bool} {J : am_J} {K : am_K} {x1 : Int} {r : Int} (h : f_JString_charAt 2002 x1 = some r) : am_runs X T_JString_charAt (0, [(0, am_pv 2002), (1, am_iv x1)], [], am_SH, (J, K, am_RF b)) (some (am_iv r), am_SH, (J, K, am_RF b)) := by
  unfold f_JString_charAt at h
  obtain ⟨q149, e150, h⟩ := am_bind_some h
  refine am_r_call (show am_stepn X T_JString_charAt 2 true (0, [(0, am_pv 2002), (1, am_iv x1)], [], am_SH, (J, K, am_RF b)) = some (true, .inr (.inl (35, [am_pv 2002], 1, 0, 0, 4, [(0, am_pv 2002), (1, am_iv x1)], [], am_SH, (J, K, am_RF b)))) from rfl) rfl tb_JString_isLatin1 (s_JString_isLatin1 (by decide) e150) ?_
  obtain ⟨g151, h⟩ := am_if_some h
  by_cases c152 : q149 = 0
  · rw [if_pos c152] at h
    refine am_r_t (show am_stepn X T_JString_charAt 1 true (4, [(0, am_pv 2002), (1, am_iv x1)], [am_iv q149], am_SH, (J, K, am_RF b)) = some ((decide (am_i32 q149) && true), .inl (bif am_cb .eq q149 0 then 16 else 7, [(0, am_pv 2002), (1, am_iv x1)], [], am_SH, (J, K, am_RF b))) from rfl) (am_g1 g151 rfl) (decide_eq_true c152) ?_
    cases h
  · rw [if_neg c152] at h
    refine am_r_f (show am_stepn X T_JString_charAt 1 true (4, [(0, am_pv 2002), (1, am_iv x1)], [am_iv q149], am_SH, (J, K, am_RF b)) = some ((decide (am_i32 q149) && true), .inl (bif am_cb .eq q149 0 then 16 else 7, [(0, am_pv 2002), (1, am_iv x1)], [], am_SH, (J, K, am_RF b))) from rfl) (am_g1 g151 rfl) (decide_eq_false c152) ?_
    obtain ⟨q153, e154, h⟩ := am_bind_some h
    refine am_r_call (show am_stepn X T_JString_charAt 4 true (7, [(0, am_pv 2002), (1, am_iv x1)], [], am_SH, (J, K, am_RF b)) = some (true, .inr (.inl (36, [am_pv (2002 + 100), am_iv x1], 2, 0, 0, 15, [(0, am_pv 2002), (1, am_iv x1)], [], am_SH, (J, K, am_RF b)))) from rfl) rfl tb_JStringLatin1_charAt (s_JStringLatin1_charAt (by decide) e154) ?_
    obtain ⟨g155, h⟩ := am_if_some h
    obtain rfl := Option.some.inj h
    exact am_r_ret (show am_stepn X T_JString_charAt 1 true (15, [(0, am_pv 2002), (1, am_iv x1)], [am_iv q153], am_SH, (J, K, am_RF b)) = some ((decide (0 ≤ (q153 : Int) ∧ (q153 : Int) < 128) && true), .inr (.inr (some (am_iv q153), am_SH, (J, K, am_RF b)))) from rfl) (am_g1 g155 rfl)
theorem s_JString_charAt_2003_ {X : am_X} {b : Bool} {J : am_J} {K : am_K} {x1 : Int} {r : Int} (h : f_JString_charAt 2003 x1 = some r) : am_runs X T_JString_charAt (0, [(0, am_pv 2003), (1, am_iv x1)], [], am_SH, (J, K, am_RF b)) (some (am_iv r), am_SH, (J, K, am_RF b)) := by
  unfold f_JString_charAt at h
  obtain ⟨q149, e150, h⟩ := am_bind_some h
  refine am_r_call (show am_stepn X T_JString_charAt 2 true (0, [(0, am_pv 2003), (1, am_iv x1)], [], am_SH, (J, K, am_RF b)) = some (true, .inr (.inl (35, [am_pv 2003], 1, 0, 0, 4, [(0, am_pv 2003), (1, am_iv x1)], [], am_SH, (J, K, am_RF b)))) from rfl) rfl tb_JString_isLatin1 (s_JString_isLatin1 (by decide) e150) ?_
  obtain ⟨g151, h⟩ := am_if_some h
  by_cases c152 : q149 = 0
  · rw [if_pos c152] at h
    refine am_r_t (show am_stepn X T_JString_charAt 1 true (4, [(0, am_pv 2003), (1, am_iv x1)], [am_iv q149], am_SH, (J, K, am_RF b)) = some ((decide (am_i32 q149) && true), .inl (bif am_cb .eq q149 0 then 16 else 7, [(0, am_pv 2003), (1, am_iv x1)], [], am_SH, (J, K, am_RF b))) from rfl) (am_g1 g151 rfl) (decide_eq_true c152) ?_
    cases h
  · rw [if_neg c152] at h
    refine am_r_f (show am_stepn X T_JString_charAt 1 true (4, [(0, am_pv 2003), (1, am_iv x1)], [am_iv q149], am_SH, (J, K, am_RF b)) = some ((decide (am_i32 q149) && true), .inl (bif am_cb .eq q149 0 then 16 else 7, [(0, am_pv 2003), (1, am_iv x1)], [], am_SH, (J, K, am_RF b))) from rfl) (am_g1 g151 rfl) (decide_eq_false c152) ?_
    obtain ⟨q153, e154, h⟩ := am_bind_some h
    refine am_r_call (show am_stepn X T_JString_charAt 4 true (7, [(0, am_pv 2003), (1, am_iv x1)], [], am_SH, (J, K, am_RF b)) = some (true, .inr (.inl (36, [am_pv (2003 + 100), am_iv x1], 2, 0, 0, 15, [(0, am_pv 2003), (1, am_iv x1)], [], am_SH, (J, K, am_RF b)))) from rfl) rfl tb_JStringLatin1_charAt (s_JStringLatin1_charAt (by decide) e154) ?_
    obtain ⟨g155, h⟩ := am_if_some h
    obtain rfl := Option.some.inj h
    exact am_r_ret (show am_stepn X T_JString_charAt 1 true (15, [(0, am_pv 2003), (1, am_iv x1)], [am_iv q153], am_SH, (J, K, am_RF b)) = some ((decide (0 ≤ (q153 : Int) ∧ (q153 : Int) < 128) && true), .inr (.inr (some (am_iv q153), am_SH, (J, K, am_RF b)))) from rfl) (am_g1 g155 rfl)
theorem s_JString_charAt_2004_ {X : am_X} {b : Bool} {J : am_J} {K : am_K} {x1 : Int} {r : Int} (h : f_JString_charAt 2004 x1 = some r) : am_runs X T_JString_charAt (0, [(0, am_pv 2004), (1, am_iv x1)], [], am_SH, (J, K, am_RF b)) (some (am_iv r), am_SH, (J, K, am_RF b)) := by
  unfold f_JString_charAt at h
  obtain ⟨q149, e150, h⟩ := am_bind_some h
  refine am_r_call (show am_stepn X T_JString_charAt 2 true (0, [(0, am_pv 2004), (1, am_iv x1)], [], am_SH, (J, K, am_RF b)) = some (true, .inr (.inl (35, [am_pv 2004], 1, 0, 0, 4, [(0, am_pv 2004), (1, am_iv x1)], [], am_SH, (J, K, am_RF b)))) from rfl) rfl tb_JString_isLatin1 (s_JString_isLatin1 (by decide) e150) ?_
  obtain ⟨g151, h⟩ := am_if_some h
  by_cases c152 : q149 = 0
  · rw [if_pos c152] at h
    refine am_r_t (show am_stepn X T_JString_charAt 1 true (4, [(0, am_pv 2004), (1, am_iv x1)], [am_iv q149], am_SH, (J, K, am_RF b)) = some ((decide (am_i32 q149) && true), .inl (bif am_cb .eq q149 0 then 16 else 7, [(0, am_pv 2004), (1, am_iv x1)], [], am_SH, (J, K, am_RF b))) from rfl) (am_g1 g151 rfl) (decide_eq_true c152) ?_
    cases h
  · rw [if_neg c152] at h
    refine am_r_f (show am_stepn X T_JString_charAt 1 true (4, [(0, am_pv 2004), (1, am_iv x1)], [am_iv q149], am_SH, (J, K, am_RF b)) = some ((decide (am_i32 q149) && true), .inl (bif am_cb .eq q149 0 then 16 else 7, [(0, am_pv 2004), (1, am_iv x1)], [], am_SH, (J, K, am_RF b))) from rfl) (am_g1 g151 rfl) (decide_eq_false c152) ?_
    obtain ⟨q153, e154, h⟩ := am_bind_some h
    refine am_r_call (show am_stepn X T_JString_charAt 4 true (7, [(0, am_pv 2004), (1, am_iv x1)], [], am_SH, (J, K, am_RF b)) = some (true, .inr (.inl (36, [am_pv (2004 + 100), am_iv x1], 2, 0, 0, 15, [(0, am_pv 2004), (1, am_iv x1)], [], am_SH, (J, K, am_RF b)))) from rfl) rfl tb_JStringLatin1_charAt (s_JStringLatin1_charAt (by decide) e154) ?_
    obtain ⟨g155, h⟩ := am_if_some h
    obtain rfl := Option.some.inj h
    exact am_r_ret (show am_stepn X T_JString_charAt 1 true (15, [(0, am_pv 2004), (1, am_iv x1)], [am_iv q153], am_SH, (J, K, am_RF b)) = some ((decide (0 ≤ (q153 : Int) ∧ (q153 : Int) < 128) && true), .inr (.inr (some (am_iv q153), am_SH, (J, K, am_RF b)))) from rfl) (am_g1 g155 rfl)
theorem s_JString_charAt_2005_ {X : am_X} {b : Bool} {J : am_J} {K : am_K} {x1 : Int} {r : Int} (h : f_JString_charAt 2005 x1 = some r) : am_runs X T_JString_charAt (0, [(0, am_pv 2005), (1, am_iv x1)], [], am_SH, (J, K, am_RF b)) (some (am_iv r), am_SH, (J, K, am_RF b)) := by
  unfold f_JString_charAt at h
  obtain ⟨q149, e150, h⟩ := am_bind_some h
  refine am_r_call (show am_stepn X T_JString_charAt 2 true (0, [(0, am_pv 2005), (1, am_iv x1)], [], am_SH, (J, K, am_RF b)) = some (true, .inr (.inl (35, [am_pv 2005], 1, 0, 0, 4, [(0, am_pv 2005), (1, am_iv x1)], [], am_SH, (J, K, am_RF b)))) from rfl) rfl tb_JString_isLatin1 (s_JString_isLatin1 (by decide) e150) ?_
  obtain ⟨g151, h⟩ := am_if_some h
  by_cases c152 : q149 = 0
  · rw [if_pos c152] at h
    refine am_r_t (show am_stepn X T_JString_charAt 1 true (4, [(0, am_pv 2005), (1, am_iv x1)], [am_iv q149], am_SH, (J, K, am_RF b)) = some ((decide (am_i32 q149) && true), .inl (bif am_cb .eq q149 0 then 16 else 7, [(0, am_pv 2005), (1, am_iv x1)], [], am_SH, (J, K, am_RF b))) from rfl) (am_g1 g151 rfl) (decide_eq_true c152) ?_
    cases h
  · rw [if_neg c152] at h
    refine am_r_f (show am_stepn X T_JString_charAt 1 true (4, [(0, am_pv 2005), (1, am_iv x1)], [am_iv q149], am_SH, (J, K, am_RF b)) = some ((decide (am_i32 q149) && true), .inl (bif am_cb .eq q149 0 then 16 else 7, [(0, am_pv 2005), (1, am_iv x1)], [], am_SH, (J, K, am_RF b))) from rfl) (am_g1 g151 rfl) (decide_eq_false c152) ?_
    obtain ⟨q153, e154, h⟩ := am_bind_some h
    refine am_r_call (show am_stepn X T_JString_charAt 4 true (7, [(0, am_pv 2005), (1, am_iv x1)], [], am_SH, (J, K, am_RF b)) = some (true, .inr (.inl (36, [am_pv (2005 + 100), am_iv x1], 2, 0, 0, 15, [(0, am_pv 2005), (1, am_iv x1)], [], am_SH, (J, K, am_RF b)))) from rfl) rfl tb_JStringLatin1_charAt (s_JStringLatin1_charAt (by decide) e154) ?_
    obtain ⟨g155, h⟩ := am_if_some h
    obtain rfl := Option.some.inj h
    exact am_r_ret (show am_stepn X T_JString_charAt 1 true (15, [(0, am_pv 2005), (1, am_iv x1)], [am_iv q153], am_SH, (J, K, am_RF b)) = some ((decide (0 ≤ (q153 : Int) ∧ (q153 : Int) < 128) && true), .inr (.inr (some (am_iv q153), am_SH, (J, K, am_RF b)))) from rfl) (am_g1 g155 rfl)
theorem s_JString_charAt_2006_ {X : am_X} {b : Bool} {J : am_J} {K : am_K} {x1 : Int} {r : Int} (h : f_JString_charAt 2006 x1 = some r) : am_runs X T_JString_charAt (0, [(0, am_pv 2006), (1, am_iv x1)], [], am_SH, (J, K, am_RF b)) (some (am_iv r), am_SH, (J, K, am_RF b)) := by
  unfold f_JString_charAt at h
  obtain ⟨q149, e150, h⟩ := am_bind_some h
  refine am_r_call (show am_stepn X T_JString_charAt 2 true (0, [(0, am_pv 2006), (1, am_iv x1)], [], am_SH, (J, K, am_RF b)) = some (true, .inr (.inl (35, [am_pv 2006], 1, 0, 0, 4, [(0, am_pv 2006), (1, am_iv x1)], [], am_SH, (J, K, am_RF b)))) from rfl) rfl tb_JString_isLatin1 (s_JString_isLatin1 (by decide) e150) ?_
  obtain ⟨g151, h⟩ := am_if_some h
  by_cases c152 : q149 = 0
  · rw [if_pos c152] at h
    refine am_r_t (show am_stepn X T_JString_charAt 1 true (4, [(0, am_pv 2006), (1, am_iv x1)], [am_iv q149], am_SH, (J, K, am_RF b)) = some ((decide (am_i32 q149) && true), .inl (bif am_cb .eq q149 0 then 16 else 7, [(0, am_pv 2006), (1, am_iv x1)], [], am_SH, (J, K, am_RF b))) from rfl) (am_g1 g151 rfl) (decide_eq_true c152) ?_
    cases h
  · rw [if_neg c152] at h
    refine am_r_f (show am_stepn X T_JString_charAt 1 true (4, [(0, am_pv 2006), (1, am_iv x1)], [am_iv q149], am_SH, (J, K, am_RF b)) = some ((decide (am_i32 q149) && true), .inl (bif am_cb .eq q149 0 then 16 else 7, [(0, am_pv 2006), (1, am_iv x1)], [], am_SH, (J, K, am_RF b))) from rfl) (am_g1 g151 rfl) (decide_eq_false c152) ?_
    obtain ⟨q153, e154, h⟩ := am_bind_some h
    refine am_r_call (show am_stepn X T_JString_charAt 4 true (7, [(0, am_pv 2006), (1, am_iv x1)], [], am_SH, (J, K, am_RF b)) = some (true, .inr (.inl (36, [am_pv (2006 + 100), am_iv x1], 2, 0, 0, 15, [(0, am_pv 2006), (1, am_iv x1)], [], am_SH, (J, K, am_RF b)))) from rfl) rfl tb_JStringLatin1_charAt (s_JStringLatin1_charAt (by decide) e154) ?_
    obtain ⟨g155, h⟩ := am_if_some h
    obtain rfl := Option.some.inj h
    exact am_r_ret (show am_stepn X T_JString_charAt 1 true (15, [(0, am_pv 2006), (1, am_iv x1)], [am_iv q153], am_SH, (J, K, am_RF b)) = some ((decide (0 ≤ (q153 : Int) ∧ (q153 : Int) < 128) && true), .inr (.inr (some (am_iv q153), am_SH, (J, K, am_RF b)))) from rfl) (am_g1 g155 rfl)
theorem s_JString_charAt_2007_ {X : am_X} {b : Bool} {J : am_J} {K : am_K} {x1 : Int} {r : Int} (h : f_JString_charAt 2007 x1 = some r) : am_runs X T_JString_charAt (0, [(0, am_pv 2007), (1, am_iv x1)], [], am_SH, (J, K, am_RF b)) (some (am_iv r), am_SH, (J, K, am_RF b)) := by
  unfold f_JString_charAt at h
  obtain ⟨q149, e150, h⟩ := am_bind_some h
  refine am_r_call (show am_stepn X T_JString_charAt 2 true (0, [(0, am_pv 2007), (1, am_iv x1)], [], am_SH, (J, K, am_RF b)) = some (true, .inr (.inl (35, [am_pv 2007], 1, 0, 0, 4, [(0, am_pv 2007), (1, am_iv x1)], [], am_SH, (J, K, am_RF b)))) from rfl) rfl tb_JString_isLatin1 (s_JString_isLatin1 (by decide) e150) ?_
  obtain ⟨g151, h⟩ := am_if_some h
  by_cases c152 : q149 = 0
  · rw [if_pos c152] at h
    refine am_r_t (show am_stepn X T_JString_charAt 1 true (4, [(0, am_pv 2007), (1, am_iv x1)], [am_iv q149], am_SH, (J, K, am_RF b)) = some ((decide (am_i32 q149) && true), .inl (bif am_cb .eq q149 0 then 16 else 7, [(0, am_pv 2007), (1, am_iv x1)], [], am_SH, (J, K, am_RF b))) from rfl) (am_g1 g151 rfl) (decide_eq_true c152) ?_
    cases h
  · rw [if_neg c152] at h
    refine am_r_f (show am_stepn X T_JString_charAt 1 true (4, [(0, am_pv 2007), (1, am_iv x1)], [am_iv q149], am_SH, (J, K, am_RF b)) = some ((decide (am_i32 q149) && true), .inl (bif am_cb .eq q149 0 then 16 else 7, [(0, am_pv 2007), (1, am_iv x1)], [], am_SH, (J, K, am_RF b))) from rfl) (am_g1 g151 rfl) (decide_eq_false c152) ?_
    obtain ⟨q153, e154, h⟩ := am_bind_some h
    refine am_r_call (show am_stepn X T_JString_charAt 4 true (7, [(0, am_pv 2007), (1, am_iv x1)], [], am_SH, (J, K, am_RF b)) = some (true, .inr (.inl (36, [am_pv (2007 + 100), am_iv x1], 2, 0, 0, 15, [(0, am_pv 2007), (1, am_iv x1)], [], am_SH, (J, K, am_RF b)))) from rfl) rfl tb_JStringLatin1_charAt (s_JStringLatin1_charAt (by decide) e154) ?_
    obtain ⟨g155, h⟩ := am_if_some h
    obtain rfl := Option.some.inj h
    exact am_r_ret (show am_stepn X T_JString_charAt 1 true (15, [(0, am_pv 2007), (1, am_iv x1)], [am_iv q153], am_SH, (J, K, am_RF b)) = some ((decide (0 ≤ (q153 : Int) ∧ (q153 : Int) < 128) && true), .inr (.inr (some (am_iv q153), am_SH, (J, K, am_RF b)))) from rfl) (am_g1 g155 rfl)
theorem s_JString_charAt_2008_ {X : am_X} {b : Bool} {J : am_J} {K : am_K} {x1 : Int} {r : Int} (h : f_JString_charAt 2008 x1 = some r) : am_runs X T_JString_charAt (0, [(0, am_pv 2008), (1, am_iv x1)], [], am_SH, (J, K, am_RF b)) (some (am_iv r), am_SH, (J, K, am_RF b)) := by
  unfold f_JString_charAt at h
  obtain ⟨q149, e150, h⟩ := am_bind_some h
  refine am_r_call (show am_stepn X T_JString_charAt 2 true (0, [(0, am_pv 2008), (1, am_iv x1)], [], am_SH, (J, K, am_RF b)) = some (true, .inr (.inl (35, [am_pv 2008], 1, 0, 0, 4, [(0, am_pv 2008), (1, am_iv x1)], [], am_SH, (J, K, am_RF b)))) from rfl) rfl tb_JString_isLatin1 (s_JString_isLatin1 (by decide) e150) ?_
  obtain ⟨g151, h⟩ := am_if_some h
  by_cases c152 : q149 = 0
  · rw [if_pos c152] at h
    refine am_r_t (show am_stepn X T_JString_charAt 1 true (4, [(0, am_pv 2008), (1, am_iv x1)], [am_iv q149], am_SH, (J, K, am_RF b)) = some ((decide (am_i32 q149) && true), .inl (bif am_cb .eq q149 0 then 16 else 7, [(0, am_pv 2008), (1, am_iv x1)], [], am_SH, (J, K, am_RF b))) from rfl) (am_g1 g151 rfl) (decide_eq_true c152) ?_
    cases h
  · rw [if_neg c152] at h
    refine am_r_f (show am_stepn X T_JString_charAt 1 true (4, [(0, am_pv 2008), (1, am_iv x1)], [am_iv q149], am_SH, (J, K, am_RF b)) = some ((decide (am_i32 q149) && true), .inl (bif am_cb .eq q149 0 then 16 else 7, [(0, am_pv 2008), (1, am_iv x1)], [], am_SH, (J, K, am_RF b))) from rfl) (am_g1 g151 rfl) (decide_eq_false c152) ?_
    obtain ⟨q153, e154, h⟩ := am_bind_some h
    refine am_r_call (show am_stepn X T_JString_charAt 4 true (7, [(0, am_pv 2008), (1, am_iv x1)], [], am_SH, (J, K, am_RF b)) = some (true, .inr (.inl (36, [am_pv (2008 + 100), am_iv x1], 2, 0, 0, 15, [(0, am_pv 2008), (1, am_iv x1)], [], am_SH, (J, K, am_RF b)))) from rfl) rfl tb_JStringLatin1_charAt (s_JStringLatin1_charAt (by decide) e154) ?_
    obtain ⟨g155, h⟩ := am_if_some h
    obtain rfl := Option.some.inj h
    exact am_r_ret (show am_stepn X T_JString_charAt 1 true (15, [(0, am_pv 2008), (1, am_iv x1)], [am_iv q153], am_SH, (J, K, am_RF b)) = some ((decide (0 ≤ (q153 : Int) ∧ (q153 : Int) < 128) && true), .inr (.inr (some (am_iv q153), am_SH, (J, K, am_RF b)))) from rfl) (am_g1 g155 rfl)
theorem s_JString_charAt_2009_ {X : am_X} {b : Bool} {J : am_J} {K : am_K} {x1 : Int} {r : Int} (h : f_JString_charAt 2009 x1 = some r) : am_runs X T_JString_charAt (0, [(0, am_pv 2009), (1, am_iv x1)], [], am_SH, (J, K, am_RF b)) (some (am_iv r), am_SH, (J, K, am_RF b)) := by
  unfold f_JString_charAt at h
  obtain ⟨q149, e150, h⟩ := am_bind_some h
  refine am_r_call (show am_stepn X T_JString_charAt 2 true (0, [(0, am_pv 2009), (1, am_iv x1)], [], am_SH, (J, K, am_RF b)) = some (true, .inr (.inl (35, [am_pv 2009], 1, 0, 0, 4, [(0, am_pv 2009), (1, am_iv x1)], [], am_SH, (J, K, am_RF b)))) from rfl) rfl tb_JString_isLatin1 (s_JString_isLatin1 (by decide) e150) ?_
  obtain ⟨g151, h⟩ := am_if_some h
  by_cases c152 : q149 = 0
  · rw [if_pos c152] at h
    refine am_r_t (show am_stepn X T_JString_charAt 1 true (4, [(0, am_pv 2009), (1, am_iv x1)], [am_iv q149], am_SH, (J, K, am_RF b)) = some ((decide (am_i32 q149) && true), .inl (bif am_cb .eq q149 0 then 16 else 7, [(0, am_pv 2009), (1, am_iv x1)], [], am_SH, (J, K, am_RF b))) from rfl) (am_g1 g151 rfl) (decide_eq_true c152) ?_
    cases h
  · rw [if_neg c152] at h
    refine am_r_f (show am_stepn X T_JString_charAt 1 true (4, [(0, am_pv 2009), (1, am_iv x1)], [am_iv q149], am_SH, (J, K, am_RF b)) = some ((decide (am_i32 q149) && true), .inl (bif am_cb .eq q149 0 then 16 else 7, [(0, am_pv 2009), (1, am_iv x1)], [], am_SH, (J, K, am_RF b))) from rfl) (am_g1 g151 rfl) (decide_eq_false c152) ?_
    obtain ⟨q153, e154, h⟩ := am_bind_some h
    refine am_r_call (show am_stepn X T_JString_charAt 4 true (7, [(0, am_pv 2009), (1, am_iv x1)], [], am_SH, (J, K, am_RF b)) = some (true, .inr (.inl (36, [am_pv (2009 + 100), am_iv x1], 2, 0, 0, 15, [(0, am_pv 2009), (1, am_iv x1)], [], am_SH, (J, K, am_RF b)))) from rfl) rfl tb_JStringLatin1_charAt (s_JStringLatin1_charAt (by decide) e154) ?_
    obtain ⟨g155, h⟩ := am_if_some h
    obtain rfl := Option.some.inj h
    exact am_r_ret (show am_stepn X T_JString_charAt 1 true (15, [(0, am_pv 2009), (1, am_iv x1)], [am_iv q153], am_SH, (J, K, am_RF b)) = some ((decide (0 ≤ (q153 : Int) ∧ (q153 : Int) < 128) && true), .inr (.inr (some (am_iv q153), am_SH, (J, K, am_RF b)))) from rfl) (am_g1 g155 rfl)
theorem s_JString_charAt_2010_ {X : am_X} {b : Bool} {J : am_J} {K : am_K} {x1 : Int} {r : Int} (h : f_JString_charAt 2010 x1 = some r) : am_runs X T_JString_charAt (0, [(0, am_pv 2010), (1, am_iv x1)], [], am_SH, (J, K, am_RF b)) (some (am_iv r), am_SH, (J, K, am_RF b)) := by
  unfold f_JString_charAt at h
  obtain ⟨q149, e150, h⟩ := am_bind_some h
  refine am_r_call (show am_stepn X T_JString_charAt 2 true (0, [(0, am_pv 2010), (1, am_iv x1)], [], am_SH, (J, K, am_RF b)) = some (true, .inr (.inl (35, [am_pv 2010], 1, 0, 0, 4, [(0, am_pv 2010), (1, am_iv x1)], [], am_SH, (J, K, am_RF b)))) from rfl) rfl tb_JString_isLatin1 (s_JString_isLatin1 (by decide) e150) ?_
  obtain ⟨g151, h⟩ := am_if_some h
  by_cases c152 : q149 = 0
  · rw [if_pos c152] at h
    refine am_r_t (show am_stepn X T_JString_charAt 1 true (4, [(0, am_pv 2010), (1, am_iv x1)], [am_iv q149], am_SH, (J, K, am_RF b)) = some ((decide (am_i32 q149) && true), .inl (bif am_cb .eq q149 0 then 16 else 7, [(0, am_pv 2010), (1, am_iv x1)], [], am_SH, (J, K, am_RF b))) from rfl) (am_g1 g151 rfl) (decide_eq_true c152) ?_
    cases h
  · rw [if_neg c152] at h
    refine am_r_f (show am_stepn X T_JString_charAt 1 true (4, [(0, am_pv 2010), (1, am_iv x1)], [am_iv q149], am_SH, (J, K, am_RF b)) = some ((decide (am_i32 q149) && true), .inl (bif am_cb .eq q149 0 then 16 else 7, [(0, am_pv 2010), (1, am_iv x1)], [], am_SH, (J, K, am_RF b))) from rfl) (am_g1 g151 rfl) (decide_eq_false c152) ?_
    obtain ⟨q153, e154, h⟩ := am_bind_some h
    refine am_r_call (show am_stepn X T_JString_charAt 4 true (7, [(0, am_pv 2010), (1, am_iv x1)], [], am_SH, (J, K, am_RF b)) = some (true, .inr (.inl (36, [am_pv (2010 + 100), am_iv x1], 2, 0, 0, 15, [(0, am_pv 2010), (1, am_iv x1)], [], am_SH, (J, K, am_RF b)))) from rfl) rfl tb_JStringLatin1_charAt (s_JStringLatin1_charAt (by decide) e154) ?_
    obtain ⟨g155, h⟩ := am_if_some h
    obtain rfl := Option.some.inj h
    exact am_r_ret (show am_stepn X T_JString_charAt 1 true (15, [(0, am_pv 2010), (1, am_iv x1)], [am_iv q153], am_SH, (J, K, am_RF b)) = some ((decide (0 ≤ (q153 : Int) ∧ (q153 : Int) < 128) && true), .inr (.inr (some (am_iv q153), am_SH, (J, K, am_RF b)))) from rfl) (am_g1 g155 rfl)
theorem s_JString_charAt_2011_ {X : am_X} {b : Bool} {J : am_J} {K : am_K} {x1 : Int} {r : Int} (h : f_JString_charAt 2011 x1 = some r) : am_runs X T_JString_charAt (0, [(0, am_pv 2011), (1, am_iv x1)], [], am_SH, (J, K, am_RF b)) (some (am_iv r), am_SH, (J, K, am_RF b)) := by
  unfold f_JString_charAt at h
  obtain ⟨q149, e150, h⟩ := am_bind_some h
  refine am_r_call (show am_stepn X T_JString_charAt 2 true (0, [(0, am_pv 2011), (1, am_iv x1)], [], am_SH, (J, K, am_RF b)) = some (true, .inr (.inl (35, [am_pv 2011], 1, 0, 0, 4, [(0, am_pv 2011), (1, am_iv x1)], [], am_SH, (J, K, am_RF b)))) from rfl) rfl tb_JString_isLatin1 (s_JString_isLatin1 (by decide) e150) ?_
  obtain ⟨g151, h⟩ := am_if_some h
  by_cases c152 : q149 = 0
  · rw [if_pos c152] at h
    refine am_r_t (show am_stepn X T_JString_charAt 1 true (4, [(0, am_pv 2011), (1, am_iv x1)], [am_iv q149], am_SH, (J, K, am_RF b)) = some ((decide (am_i32 q149) && true), .inl (bif am_cb .eq q149 0 then 16 else 7, [(0, am_pv 2011), (1, am_iv x1)], [], am_SH, (J, K, am_RF b))) from rfl) (am_g1 g151 rfl) (decide_eq_true c152) ?_
    cases h
  · rw [if_neg c152] at h
    refine am_r_f (show am_stepn X T_JString_charAt 1 true (4, [(0, am_pv 2011), (1, am_iv x1)], [am_iv q149], am_SH, (J, K, am_RF b)) = some ((decide (am_i32 q149) && true), .inl (bif am_cb .eq q149 0 then 16 else 7, [(0, am_pv 2011), (1, am_iv x1)], [], am_SH, (J, K, am_RF b))) from rfl) (am_g1 g151 rfl) (decide_eq_false c152) ?_
    obtain ⟨q153, e154, h⟩ := am_bind_some h
    refine am_r_call (show am_stepn X T_JString_charAt 4 true (7, [(0, am_pv 2011), (1, am_iv x1)], [], am_SH, (J, K, am_RF b)) = some (true, .inr (.inl (36, [am_pv (2011 + 100), am_iv x1], 2, 0, 0, 15, [(0, am_pv 2011), (1, am_iv x1)], [], am_SH, (J, K, am_RF b)))) from rfl) rfl tb_JStringLatin1_charAt (s_JStringLatin1_charAt (by decide) e154) ?_
    obtain ⟨g155, h⟩ := am_if_some h
    obtain rfl := Option.some.inj h
    exact am_r_ret (show am_stepn X T_JString_charAt 1 true (15, [(0, am_pv 2011), (1, am_iv x1)], [am_iv q153], am_SH, (J, K, am_RF b)) = some ((decide (0 ≤ (q153 : Int) ∧ (q153 : Int) < 128) && true), .inr (.inr (some (am_iv q153), am_SH, (J, K, am_RF b)))) from rfl) (am_g1 g155 rfl)
theorem s_JString_charAt_2012_ {X : am_X} {b : Bool} {J : am_J} {K : am_K} {x1 : Int} {r : Int} (h : f_JString_charAt 2012 x1 = some r) : am_runs X T_JString_charAt (0, [(0, am_pv 2012), (1, am_iv x1)], [], am_SH, (J, K, am_RF b)) (some (am_iv r), am_SH, (J, K, am_RF b)) := by
  unfold f_JString_charAt at h
  obtain ⟨q149, e150, h⟩ := am_bind_some h
  refine am_r_call (show am_stepn X T_JString_charAt 2 true (0, [(0, am_pv 2012), (1, am_iv x1)], [], am_SH, (J, K, am_RF b)) = some (true, .inr (.inl (35, [am_pv 2012], 1, 0, 0, 4, [(0, am_pv 2012), (1, am_iv x1)], [], am_SH, (J, K, am_RF b)))) from rfl) rfl tb_JString_isLatin1 (s_JString_isLatin1 (by decide) e150) ?_
  obtain ⟨g151, h⟩ := am_if_some h
  by_cases c152 : q149 = 0
  · rw [if_pos c152] at h
    refine am_r_t (show am_stepn X T_JString_charAt 1 true (4, [(0, am_pv 2012), (1, am_iv x1)], [am_iv q149], am_SH, (J, K, am_RF b)) = some ((decide (am_i32 q149) && true), .inl (bif am_cb .eq q149 0 then 16 else 7, [(0, am_pv 2012), (1, am_iv x1)], [], am_SH, (J, K, am_RF b))) from rfl) (am_g1 g151 rfl) (decide_eq_true c152) ?_
    cases h
  · rw [if_neg c152] at h
    refine am_r_f (show am_stepn X T_JString_charAt 1 true (4, [(0, am_pv 2012), (1, am_iv x1)], [am_iv q149], am_SH, (J, K, am_RF b)) = some ((decide (am_i32 q149) && true), .inl (bif am_cb .eq q149 0 then 16 else 7, [(0, am_pv 2012), (1, am_iv x1)], [], am_SH, (J, K, am_RF b))) from rfl) (am_g1 g151 rfl) (decide_eq_false c152) ?_
    obtain ⟨q153, e154, h⟩ := am_bind_some h
    refine am_r_call (show am_stepn X T_JString_charAt 4 true (7, [(0, am_pv 2012), (1, am_iv x1)], [], am_SH, (J, K, am_RF b)) = some (true, .inr (.inl (36, [am_pv (2012 + 100), am_iv x1], 2, 0, 0, 15, [(0, am_pv 2012), (1, am_iv x1)], [], am_SH, (J, K, am_RF b)))) from rfl) rfl tb_JStringLatin1_charAt (s_JStringLatin1_charAt (by decide) e154) ?_
    obtain ⟨g155, h⟩ := am_if_some h
    obtain rfl := Option.some.inj h
    exact am_r_ret (show am_stepn X T_JString_charAt 1 true (15, [(0, am_pv 2012), (1, am_iv x1)], [am_iv q153], am_SH, (J, K, am_RF b)) = some ((decide (0 ≤ (q153 : Int) ∧ (q153 : Int) < 128) && true), .inr (.inr (some (am_iv q153), am_SH, (J, K, am_RF b)))) from rfl) (am_g1 g155 rfl)
theorem s_JString_charAt_2013_ {X : am_X} {b : Bool} {J : am_J} {K : am_K} {x1 : Int} {r : Int} (h : f_JString_charAt 2013 x1 = some r) : am_runs X T_JString_charAt (0, [(0, am_pv 2013), (1, am_iv x1)], [], am_SH, (J, K, am_RF b)) (some (am_iv r), am_SH, (J, K, am_RF b)) := by
  unfold f_JString_charAt at h
  obtain ⟨q149, e150, h⟩ := am_bind_some h
  refine am_r_call (show am_stepn X T_JString_charAt 2 true (0, [(0, am_pv 2013), (1, am_iv x1)], [], am_SH, (J, K, am_RF b)) = some (true, .inr (.inl (35, [am_pv 2013], 1, 0, 0, 4, [(0, am_pv 2013), (1, am_iv x1)], [], am_SH, (J, K, am_RF b)))) from rfl) rfl tb_JString_isLatin1 (s_JString_isLatin1 (by decide) e150) ?_
  obtain ⟨g151, h⟩ := am_if_some h
  by_cases c152 : q149 = 0
  · rw [if_pos c152] at h
    refine am_r_t (show am_stepn X T_JString_charAt 1 true (4, [(0, am_pv 2013), (1, am_iv x1)], [am_iv q149], am_SH, (J, K, am_RF b)) = some ((decide (am_i32 q149) && true), .inl (bif am_cb .eq q149 0 then 16 else 7, [(0, am_pv 2013), (1, am_iv x1)], [], am_SH, (J, K, am_RF b))) from rfl) (am_g1 g151 rfl) (decide_eq_true c152) ?_
    cases h
  · rw [if_neg c152] at h
    refine am_r_f (show am_stepn X T_JString_charAt 1 true (4, [(0, am_pv 2013), (1, am_iv x1)], [am_iv q149], am_SH, (J, K, am_RF b)) = some ((decide (am_i32 q149) && true), .inl (bif am_cb .eq q149 0 then 16 else 7, [(0, am_pv 2013), (1, am_iv x1)], [], am_SH, (J, K, am_RF b))) from rfl) (am_g1 g151 rfl) (decide_eq_false c152) ?_
    obtain ⟨q153, e154, h⟩ := am_bind_some h
    refine am_r_call (show am_stepn X T_JString_charAt 4 true (7, [(0, am_pv 2013), (1, am_iv x1)], [], am_SH, (J, K, am_RF b)) = some (true, .inr (.inl (36, [am_pv (2013 + 100), am_iv x1], 2, 0, 0, 15, [(0, am_pv 2013), (1, am_iv x1)], [], am_SH, (J, K, am_RF b)))) from rfl) rfl tb_JStringLatin1_charAt (s_JStringLatin1_charAt (by decide) e154) ?_
    obtain ⟨g155, h⟩ := am_if_some h
    obtain rfl := Option.some.inj h
    exact am_r_ret (show am_stepn X T_JString_charAt 1 true (15, [(0, am_pv 2013), (1, am_iv x1)], [am_iv q153], am_SH, (J, K, am_RF b)) = some ((decide (0 ≤ (q153 : Int) ∧ (q153 : Int) < 128) && true), .inr (.inr (some (am_iv q153), am_SH, (J, K, am_RF b)))) from rfl) (am_g1 g155 rfl)
theorem s_JString_charAt {X : am_X} {b : Bool} {o1 : Nat} (ho : o1 = 2000 ∨ o1 = 2001 ∨ o1 = 2002 ∨ o1 = 2003 ∨ o1 = 2004 ∨ o1 = 2005 ∨ o1 = 2006 ∨ o1 = 2007 ∨ o1 = 2008 ∨ o1 = 2009 ∨ o1 = 2010 ∨ o1 = 2011 ∨ o1 = 2012 ∨ o1 = 2013) {J : am_J} {K : am_K} {x1 : Int} {r : Int} (h : f_JString_charAt o1 x1 = some r) : am_runs X T_JString_charAt (0, [(0, am_pv o1), (1, am_iv x1)], [], am_SH, (J, K, am_RF b)) (some (am_iv r), am_SH, (J, K, am_RF b)) := by
  rcases ho with rfl | rfl | rfl | rfl | rfl | rfl | rfl | rfl | rfl | rfl | rfl | rfl | rfl | rfl
  · skip
    exact s_JString_charAt_2000_ h
  · skip
    exact s_JString_charAt_2001_ h
  · skip
    exact s_JString_charAt_2002_ h
  · skip
    exact s_JString_charAt_2003_ h
  · skip
    exact s_JString_charAt_2004_ h
  · skip
    exact s_JString_charAt_2005_ h
  · skip
    exact s_JString_charAt_2006_ h
  · skip
    exact s_JString_charAt_2007_ h
  · skip
    exact s_JString_charAt_2008_ h
  · skip
    exact s_JString_charAt_2009_ h
  · skip
    exact s_JString_charAt_2010_ h
  · skip
    exact s_JString_charAt_2011_ h
  · skip
    exact s_JString_charAt_2012_ h
  · skip
    exact s_JString_charAt_2013_ h
theorem s_JString_coder_2000_ {X : am_X} {b : Bool} {J : am_J} {K : am_K}  {r : Int} (h : f_JString_coder 2000  = some r) : am_runs X T_JString_coder (0, [(0, am_pv 2000)], [], am_SH, (J, K, am_RF b)) (some (am_iv r), am_SH, (J, K, am_RF b)) := by
  unfold f_JString_coder at h
  by_cases c156 : 1 = 0
  · rw [if_pos c156] at h
    refine am_r_t (show am_stepn X T_JString_coder 2 true (0, [(0, am_pv 2000)], [], am_SH, (J, K, am_RF b)) = some ((decide (am_i32 1) && true), .inl (bif am_cb .eq 1 0 then 13 else 6, [(0, am_pv 2000)], [], am_SH, (J, K, am_RF b))) from rfl) (am_g1 (by decide) rfl) (decide_eq_true c156) ?_
    obtain rfl := Option.some.inj h
    exact am_r_ret (show am_stepn X T_JString_coder 2 true (13, [(0, am_pv 2000)], [], am_SH, (J, K, am_RF b)) = some ((decide (0 ≤ (1 : Int) ∧ (1 : Int) < 128) && true), .inr (.inr (some (am_iv 1), am_SH, (J, K, am_RF b)))) from rfl) (am_g1 (by decide) rfl)
  · rw [if_neg c156] at h
    refine am_r_f (show am_stepn X T_JString_coder 2 true (0, [(0, am_pv 2000)], [], am_SH, (J, K, am_RF b)) = some ((decide (am_i32 1) && true), .inl (bif am_cb .eq 1 0 then 13 else 6, [(0, am_pv 2000)], [], am_SH, (J, K, am_RF b))) from rfl) (am_g1 (by decide) rfl) (decide_eq_false c156) ?_
    obtain rfl := Option.some.inj h
    exact am_r_ret (show am_stepn X T_JString_coder 4 true (6, [(0, am_pv 2000)], [], am_SH, (J, K, am_RF b)) = some ((decide (0 ≤ (0 : Int) ∧ (0 : Int) < 128) && true), .inr (.inr (some (am_iv 0), am_SH, (J, K, am_RF b)))) from rfl) (am_g1 (by decide) rfl)
theorem s_JString_coder_2001_ {X : am_X} {b : Bool} {J : am_J} {K : am_K}  {r : Int} (h : f_JString_coder 2001  = some r) : am_runs X T_JString_coder (0, [(0, am_pv 2001)], [], am_SH, (J, K, am_RF b)) (some (am_iv r), am_SH, (J, K, am_RF b)) := by
  unfold f_JString_coder at h
  by_cases c156 : 1 = 0
  · rw [if_pos c156] at h
    refine am_r_t (show am_stepn X T_JString_coder 2 true (0, [(0, am_pv 2001)], [], am_SH, (J, K, am_RF b)) = some ((decide (am_i32 1) && true), .inl (bif am_cb .eq 1 0 then 13 else 6, [(0, am_pv 2001)], [], am_SH, (J, K, am_RF b))) from rfl) (am_g1 (by decide) rfl) (decide_eq_true c156) ?_
    obtain rfl := Option.some.inj h
    exact am_r_ret (show am_stepn X T_JString_coder 2 true (13, [(0, am_pv 2001)], [], am_SH, (J, K, am_RF b)) = some ((decide (0 ≤ (1 : Int) ∧ (1 : Int) < 128) && true), .inr (.inr (some (am_iv 1), am_SH, (J, K, am_RF b)))) from rfl) (am_g1 (by decide) rfl)
  · rw [if_neg c156] at h
    refine am_r_f (show am_stepn X T_JString_coder 2 true (0, [(0, am_pv 2001)], [], am_SH, (J, K, am_RF b)) = some ((decide (am_i32 1) && true), .inl (bif am_cb .eq 1 0 then 13 else 6, [(0, am_pv 2001)], [], am_SH, (J, K, am_RF b))) from rfl) (am_g1 (by decide) rfl) (decide_eq_false c156) ?_
    obtain rfl := Option.some.inj h
    exact am_r_ret (show am_stepn X T_JString_coder 4 true (6, [(0, am_pv 2001)], [], am_SH, (J, K, am_RF b)) = some ((decide (0 ≤ (0 : Int) ∧ (0 : Int) < 128) && true), .inr (.inr (some (am_iv 0), am_SH, (J, K, am_RF b)))) from rfl) (am_g1 (by decide) rfl)
theorem s_JString_coder_2002_ {X : am_X} {b : Bool} {J : am_J} {K : am_K}  {r : Int} (h : f_JString_coder 2002  = some r) : am_runs X T_JString_coder (0, [(0, am_pv 2002)], [], am_SH, (J, K, am_RF b)) (some (am_iv r), am_SH, (J, K, am_RF b)) := by
  unfold f_JString_coder at h
  by_cases c156 : 1 = 0
  · rw [if_pos c156] at h
    refine am_r_t (show am_stepn X T_JString_coder 2 true (0, [(0, am_pv 2002)], [], am_SH, (J, K, am_RF b)) = some ((decide (am_i32 1) && true), .inl (bif am_cb .eq 1 0 then 13 else 6, [(0, am_pv 2002)], [], am_SH, (J, K, am_RF b))) from rfl) (am_g1 (by decide) rfl) (decide_eq_true c156) ?_
    obtain rfl := Option.some.inj h
    exact am_r_ret (show am_stepn X T_JString_coder 2 true (13, [(0, am_pv 2002)], [], am_SH, (J, K, am_RF b)) = some ((decide (0 ≤ (1 : Int) ∧ (1 : Int) < 128) && true), .inr (.inr (some (am_iv 1), am_SH, (J, K, am_RF b)))) from rfl) (am_g1 (by decide) rfl)
  · rw [if_neg c156] at h
    refine am_r_f (show am_stepn X T_JString_coder 2 true (0, [(0, am_pv 2002)], [], am_SH, (J, K, am_RF b)) = some ((decide (am_i32 1) && true), .inl (bif am_cb .eq 1 0 then 13 else 6, [(0, am_pv 2002)], [], am_SH, (J, K, am_RF b))) from rfl) (am_g1 (by decide) rfl) (decide_eq_false c156) ?_
    obtain rfl := Option.some.inj h
    exact am_r_ret (show am_stepn X T_JString_coder 4 true (6, [(0, am_pv 2002)], [], am_SH, (J, K, am_RF b)) = some ((decide (0 ≤ (0 : Int) ∧ (0 : Int) < 128) && true), .inr (.inr (some (am_iv 0), am_SH, (J, K, am_RF b)))) from rfl) (am_g1 (by decide) rfl)
theorem s_JString_coder_2003_ {X : am_X} {b : Bool} {J : am_J} {K : am_K}  {r : Int} (h : f_JString_coder 2003  = some r) : am_runs X T_JString_coder (0, [(0, am_pv 2003)], [], am_SH, (J, K, am_RF b)) (some (am_iv r), am_SH, (J, K, am_RF b)) := by
  unfold f_JString_coder at h
  by_cases c156 : 1 = 0
  · rw [if_pos c156] at h
    refine am_r_t (show am_stepn X T_JString_coder 2 true (0, [(0, am_pv 2003)], [], am_SH, (J, K, am_RF b)) = some ((decide (am_i32 1) && true), .inl (bif am_cb .eq 1 0 then 13 else 6, [(0, am_pv 2003)], [], am_SH, (J, K, am_RF b))) from rfl) (am_g1 (by decide) rfl) (decide_eq_true c156) ?_
    obtain rfl := Option.some.inj h
    exact am_r_ret (show am_stepn X T_JString_coder 2 true (13, [(0, am_pv 2003)], [], am_SH, (J, K, am_RF b)) = some ((decide (0 ≤ (1 : Int) ∧ (1 : Int) < 128) && true), .inr (.inr (some (am_iv 1), am_SH, (J, K, am_RF b)))) from rfl) (am_g1 (by decide) rfl)
  · rw [if_neg c156] at h
    refine am_r_f (show am_stepn X T_JString_coder 2 true (0, [(0, am_pv 2003)], [], am_SH, (J, K, am_RF b)) = some ((decide (am_i32 1) && true), .inl (bif am_cb .eq 1 0 then 13 else 6, [(0, am_pv 2003)], [], am_SH, (J, K, am_RF b))) from rfl) (am_g1 (by decide) rfl) (decide_eq_false c156) ?_
    obtain rfl := Option.some.inj h
    exact am_r_ret (show am_stepn X T_JString_coder 4 true (6, [(0, am_pv 2003)], [], am_SH, (J, K, am_RF b)) = some ((decide (0 ≤ (0 : Int) ∧ (0 : Int) < 128) && true), .inr (.inr (some (am_iv 0), am_SH, (J, K, am_RF b)))) from rfl) (am_g1 (by decide) rfl)
theorem s_JString_coder_2004_ {X : am_X} {b : Bool} {J : am_J} {K : am_K}  {r : Int} (h : f_JString_coder 2004  = some r) : am_runs X T_JString_coder (0, [(0, am_pv 2004)], [], am_SH, (J, K, am_RF b)) (some (am_iv r), am_SH, (J, K, am_RF b)) := by
  unfold f_JString_coder at h
  by_cases c156 : 1 = 0
  · rw [if_pos c156] at h
    refine am_r_t (show am_stepn X T_JString_coder 2 true (0, [(0, am_pv 2004)], [], am_SH, (J, K, am_RF b)) = some ((decide (am_i32 1) && true), .inl (bif am_cb .eq 1 0 then 13 else 6, [(0, am_pv 2004)], [], am_SH, (J, K, am_RF b))) from rfl) (am_g1 (by decide) rfl) (decide_eq_true c156) ?_
    obtain rfl := Option.some.inj h
    exact am_r_ret (show am_stepn X T_JString_coder 2 true (13, [(0, am_pv 2004)], [], am_SH, (J, K, am_RF b)) = some ((decide (0 ≤ (1 : Int) ∧ (1 : Int) < 128) && true), .inr (.inr (some (am_iv 1), am_SH, (J, K, am_RF b)))) from rfl) (am_g1 (by decide) rfl)
  · rw [if_neg c156] at h
    refine am_r_f (show am_stepn X T_JString_coder 2 true (0, [(0, am_pv 2004)], [], am_SH, (J, K, am_RF b)) = some ((decide (am_i32 1) && true), .inl (bif am_cb .eq 1 0 then 13 else 6, [(0, am_pv 2004)], [], am_SH, (J, K, am_RF b))) from rfl) (am_g1 (by decide) rfl) (decide_eq_false c156) ?_
    obtain rfl := Option.some.inj h
    exact am_r_ret (show am_stepn X T_JString_coder 4 true (6, [(0, am_pv 2004)], [], am_SH, (J, K, am_RF b)) = some ((decide (0 ≤ (0 : Int) ∧ (0 : Int) < 128) && true), .inr (.inr (some (am_iv 0), am_SH, (J, K, am_RF b)))) from rfl) (am_g1 (by decide) rfl)
theorem s_JString_coder_2005_ {X : am_X} {b : Bool} {J : am_J} {K : am_K}  {r : Int} (h : f_JString_coder 2005  = some r) : am_runs X T_JString_coder (0, [(0, am_pv 2005)], [], am_SH, (J, K, am_RF b)) (some (am_iv r), am_SH, (J, K, am_RF b)) := by
  unfold f_JString_coder at h
  by_cases c156 : 1 = 0
  · rw [if_pos c156] at h
    refine am_r_t (show am_stepn X T_JString_coder 2 true (0, [(0, am_pv 2005)], [], am_SH, (J, K, am_RF b)) = some ((decide (am_i32 1) && true), .inl (bif am_cb .eq 1 0 then 13 else 6, [(0, am_pv 2005)], [], am_SH, (J, K, am_RF b))) from rfl) (am_g1 (by decide) rfl) (decide_eq_true c156) ?_
    obtain rfl := Option.some.inj h
    exact am_r_ret (show am_stepn X T_JString_coder 2 true (13, [(0, am_pv 2005)], [], am_SH, (J, K, am_RF b)) = some ((decide (0 ≤ (1 : Int) ∧ (1 : Int) < 128) && true), .inr (.inr (some (am_iv 1), am_SH, (J, K, am_RF b)))) from rfl) (am_g1 (by decide) rfl)
  · rw [if_neg c156] at h
    refine am_r_f (show am_stepn X T_JString_coder 2 true (0, [(0, am_pv 2005)], [], am_SH, (J, K, am_RF b)) = some ((decide (am_i32 1) && true), .inl (bif am_cb .eq 1 0 then 13 else 6, [(0, am_pv 2005)], [], am_SH, (J, K, am_RF b))) from rfl) (am_g1 (by decide) rfl) (decide_eq_false c156) ?_
    obtain rfl := Option.some.inj h
    exact am_r_ret (show am_stepn X T_JString_coder 4 true (6, [(0, am_pv 2005)], [], am_SH, (J, K, am_RF b)) = some ((decide (0 ≤ (0 : Int) ∧ (0 : Int) < 128) && true), .inr (.inr (some (am_iv 0), am_SH, (J, K, am_RF b)))) from rfl) (am_g1 (by decide) rfl)
theorem s_JString_coder_2006_ {X : am_X} {b : Bool} {J : am_J} {K : am_K}  {r : Int} (h : f_JString_coder 2006  = some r) : am_runs X T_JString_coder (0, [(0, am_pv 2006)], [], am_SH, (J, K, am_RF b)) (some (am_iv r), am_SH, (J, K, am_RF b)) := by
  unfold f_JString_coder at h
  by_cases c156 : 1 = 0
  · rw [if_pos c156] at h
    refine am_r_t (show am_stepn X T_JString_coder 2 true (0, [(0, am_pv 2006)], [], am_SH, (J, K, am_RF b)) = some ((decide (am_i32 1) && true), .inl (bif am_cb .eq 1 0 then 13 else 6, [(0, am_pv 2006)], [], am_SH, (J, K, am_RF b))) from rfl) (am_g1 (by decide) rfl) (decide_eq_true c156) ?_
    obtain rfl := Option.some.inj h
    exact am_r_ret (show am_stepn X T_JString_coder 2 true (13, [(0, am_pv 2006)], [], am_SH, (J, K, am_RF b)) = some ((decide (0 ≤ (1 : Int) ∧ (1 : Int) < 128) && true), .inr (.inr (some (am_iv 1), am_SH, (J, K, am_RF b)))) from rfl) (am_g1 (by decide) rfl)
  · rw [if_neg c156] at h
    refine am_r_f (show am_stepn X T_JString_coder 2 true (0, [(0, am_pv 2006)], [], am_SH, (J, K, am_RF b)) = some ((decide (am_i32 1) && true), .inl (bif am_cb .eq 1 0 then 13 else 6, [(0, am_pv 2006)], [], am_SH, (J, K, am_RF b))) from rfl) (am_g1 (by decide) rfl) (decide_eq_false c156) ?_
    obtain rfl := Option.some.inj h
    exact am_r_ret (show am_stepn X T_JString_coder 4 true (6, [(0, am_pv 2006)], [], am_SH, (J, K, am_RF b)) = some ((decide (0 ≤ (0 : Int) ∧ (0 : Int) < 128) && true), .inr (.inr (some (am_iv 0), am_SH, (J, K, am_RF b)))) from rfl) (am_g1 (by decide) rfl)
theorem s_JString_coder_2007_ {X : am_X} {b : Bool} {J : am_J} {K : am_K}  {r : Int} (h : f_JString_coder 2007  = some r) : am_runs X T_JString_coder (0, [(0, am_pv 2007)], [], am_SH, (J, K, am_RF b)) (some (am_iv r), am_SH, (J, K, am_RF b)) := by
  unfold f_JString_coder at h
  by_cases c156 : 1 = 0
  · rw [if_pos c156] at h
    refine am_r_t (show am_stepn X T_JString_coder 2 true (0, [(0, am_pv 2007)], [], am_SH, (J, K, am_RF b)) = some ((decide (am_i32 1) && true), .inl (bif am_cb .eq 1 0 then 13 else 6, [(0, am_pv 2007)], [], am_SH, (J, K, am_RF b))) from rfl) (am_g1 (by decide) rfl) (decide_eq_true c156) ?_
    obtain rfl := Option.some.inj h
    exact am_r_ret (show am_stepn X T_JString_coder 2 true (13, [(0, am_pv 2007)], [], am_SH, (J, K, am_RF b)) = some ((decide (0 ≤ (1 : Int) ∧ (1 : Int) < 128) && true), .inr (.inr (some (am_iv 1), am_SH, (J, K, am_RF b)))) from rfl) (am_g1 (by decide) rfl)
  · rw [if_neg c156] at h
    refine am_r_f (show am_stepn X T_JString_coder 2 true (0, [(0, am_pv 2007)], [], am_SH, (J, K, am_RF b)) = some ((decide (am_i32 1) && true), .inl (bif am_cb .eq 1 0 then 13 else 6, [(0, am_pv 2007)], [], am_SH, (J, K, am_RF b))) from rfl) (am_g1 (by decide) rfl) (decide_eq_false c156) ?_
    obtain rfl := Option.some.inj h
    exact am_r_ret (show am_stepn X T_JString_coder 4 true (6, [(0, am_pv 2007)], [], am_SH, (J, K, am_RF b)) = some ((decide (0 ≤ (0 : Int) ∧ (0 : Int) < 128) && true), .inr (.inr (some (am_iv 0), am_SH, (J, K, am_RF b)))) from rfl) (am_g1 (by decide) rfl)
theorem s_JString_coder_2008_ {X : am_X} {b : Bool} {J : am_J} {K : am_K}  {r : Int} (h : f_JString_coder 2008  = some r) : am_runs X T_JString_coder (0, [(0, am_pv 2008)], [], am_SH, (J, K, am_RF b)) (some (am_iv r), am_SH, (J, K, am_RF b)) := by
  unfold f_JString_coder at h
  by_cases c156 : 1 = 0
  · rw [if_pos c156] at h
    refine am_r_t (show am_stepn X T_JString_coder 2 true (0, [(0, am_pv 2008)], [], am_SH, (J, K, am_RF b)) = some ((decide (am_i32 1) && true), .inl (bif am_cb .eq 1 0 then 13 else 6, [(0, am_pv 2008)], [], am_SH, (J, K, am_RF b))) from rfl) (am_g1 (by decide) rfl) (decide_eq_true c156) ?_
    obtain rfl := Option.some.inj h
    exact am_r_ret (show am_stepn X T_JString_coder 2 true (13, [(0, am_pv 2008)], [], am_SH, (J, K, am_RF b)) = some ((decide (0 ≤ (1 : Int) ∧ (1 : Int) < 128) && true), .inr (.inr (some (am_iv 1), am_SH, (J, K, am_RF b)))) from rfl) (am_g1 (by decide) rfl)
  · rw [if_neg c156] at h
    refine am_r_f (show am_stepn X T_JString_coder 2 true (0, [(0, am_pv 2008)], [], am_SH, (J, K, am_RF b)) = some ((decide (am_i32 1) && true), .inl (bif am_cb .eq 1 0 then 13 else 6, [(0, am_pv 2008)], [], am_SH, (J, K, am_RF b))) from rfl) (am_g1 (by decide) rfl) (decide_eq_false c156) ?_
    obtain rfl := Option.some.inj h
    exact am_r_ret (show am_stepn X T_JString_coder 4 true (6, [(0, am_pv 2008)], [], am_SH, (J, K, am_RF b)) = some ((decide (0 ≤ (0 : Int) ∧ (0 : Int) < 128) && true), .inr (.inr (some (am_iv 0), am_SH, (J, K, am_RF b)))) from rfl) (am_g1 (by decide) rfl)
theorem s_JString_coder_2009_ {X : am_X} {b : Bool} {J : am_J} {K : am_K}  {r : Int} (h : f_JString_coder 2009  = some r) : am_runs X T_JString_coder (0, [(0, am_pv 2009)], [], am_SH, (J, K, am_RF b)) (some (am_iv r), am_SH, (J, K, am_RF b)) := by
  unfold f_JString_coder at h
  by_cases c156 : 1 = 0
  · rw [if_pos c156] at h
    refine am_r_t (show am_stepn X T_JString_coder 2 true (0, [(0, am_pv 2009)], [], am_SH, (J, K, am_RF b)) = some ((decide (am_i32 1) && true), .inl (bif am_cb .eq 1 0 then 13 else 6, [(0, am_pv 2009)], [], am_SH, (J, K, am_RF b))) from rfl) (am_g1 (by decide) rfl) (decide_eq_true c156) ?_
    obtain rfl := Option.some.inj h
    exact am_r_ret (show am_stepn X T_JString_coder 2 true (13, [(0, am_pv 2009)], [], am_SH, (J, K, am_RF b)) = some ((decide (0 ≤ (1 : Int) ∧ (1 : Int) < 128) && true), .inr (.inr (some (am_iv 1), am_SH, (J, K, am_RF b)))) from rfl) (am_g1 (by decide) rfl)
  · rw [if_neg c156] at h
    refine am_r_f (show am_stepn X T_JString_coder 2 true (0, [(0, am_pv 2009)], [], am_SH, (J, K, am_RF b)) = some ((decide (am_i32 1) && true), .inl (bif am_cb .eq 1 0 then 13 else 6, [(0, am_pv 2009)], [], am_SH, (J, K, am_RF b))) from rfl) (am_g1 (by decide) rfl) (decide_eq_false c156) ?_
    obtain rfl := Option.some.inj h
    exact am_r_ret (show am_stepn X T_JString_coder 4 true (6, [(0, am_pv 2009)], [], am_SH, (J, K, am_RF b)) = some ((decide (0 ≤ (0 : Int) ∧ (0 : Int) < 128) && true), .inr (.inr (some (am_iv 0), am_SH, (J, K, am_RF b)))) from rfl) (am_g1 (by decide) rfl)
theorem s_JString_coder_2010_ {X : am_X} {b : Bool} {J : am_J} {K : am_K}  {r : Int} (h : f_JString_coder 2010  = some r) : am_runs X T_JString_coder (0, [(0, am_pv 2010)], [], am_SH, (J, K, am_RF b)) (some (am_iv r), am_SH, (J, K, am_RF b)) := by
  unfold f_JString_coder at h
  by_cases c156 : 1 = 0
  · rw [if_pos c156] at h
    refine am_r_t (show am_stepn X T_JString_coder 2 true (0, [(0, am_pv 2010)], [], am_SH, (J, K, am_RF b)) = some ((decide (am_i32 1) && true), .inl (bif am_cb .eq 1 0 then 13 else 6, [(0, am_pv 2010)], [], am_SH, (J, K, am_RF b))) from rfl) (am_g1 (by decide) rfl) (decide_eq_true c156) ?_
    obtain rfl := Option.some.inj h
    exact am_r_ret (show am_stepn X T_JString_coder 2 true (13, [(0, am_pv 2010)], [], am_SH, (J, K, am_RF b)) = some ((decide (0 ≤ (1 : Int) ∧ (1 : Int) < 128) && true), .inr (.inr (some (am_iv 1), am_SH, (J, K, am_RF b)))) from rfl) (am_g1 (by decide) rfl)
  · rw [if_neg c156] at h
    refine am_r_f (show am_stepn X T_JString_coder 2 true (0, [(0, am_pv 2010)], [], am_SH, (J, K, am_RF b)) = some ((decide (am_i32 1) && true), .inl (bif am_cb .eq 1 0 then 13 else 6, [(0, am_pv 2010)], [], am_SH, (J, K, am_RF b))) from rfl) (am_g1 (by decide) rfl) (decide_eq_false c156) ?_
    obtain rfl := Option.some.inj h
    exact am_r_ret (show am_stepn X T_JString_coder 4 true (6, [(0, am_pv 2010)], [], am_SH, (J, K, am_RF b)) = some ((decide (0 ≤ (0 : Int) ∧ (0 : Int) < 128) && true), .inr (.inr (some (am_iv 0), am_SH, (J, K, am_RF b)))) from rfl) (am_g1 (by decide) rfl)
theorem s_JString_coder_2011_ {X : am_X} {b : Bool} {J : am_J} {K : am_K}  {r : Int} (h : f_JString_coder 2011  = some r) : am_runs X T_JString_coder (0, [(0, am_pv 2011)], [], am_SH, (J, K, am_RF b)) (some (am_iv r), am_SH, (J, K, am_RF b)) := by
  unfold f_JString_coder at h
  by_cases c156 : 1 = 0
  · rw [if_pos c156] at h
    refine am_r_t (show am_stepn X T_JString_coder 2 true (0, [(0, am_pv 2011)], [], am_SH, (J, K, am_RF b)) = some ((decide (am_i32 1) && true), .inl (bif am_cb .eq 1 0 then 13 else 6, [(0, am_pv 2011)], [], am_SH, (J, K, am_RF b))) from rfl) (am_g1 (by decide) rfl) (decide_eq_true c156) ?_
    obtain rfl := Option.some.inj h
    exact am_r_ret (show am_stepn X T_JString_coder 2 true (13, [(0, am_pv 2011)], [], am_SH, (J, K, am_RF b)) = some ((decide (0 ≤ (1 : Int) ∧ (1 : Int) < 128) && true), .inr (.inr (some (am_iv 1), am_SH, (J, K, am_RF b)))) from rfl) (am_g1 (by decide) rfl)
  · rw [if_neg c156] at h
    refine am_r_f (show am_stepn X T_JString_coder 2 true (0, [(0, am_pv 2011)], [], am_SH, (J, K, am_RF b)) = some ((decide (am_i32 1) && true), .inl (bif am_cb .eq 1 0 then 13 else 6, [(0, am_pv 2011)], [], am_SH, (J, K, am_RF b))) from rfl) (am_g1 (by decide) rfl) (decide_eq_false c156) ?_
    obtain rfl := Option.some.inj h
    exact am_r_ret (show am_stepn X T_JString_coder 4 true (6, [(0, am_pv 2011)], [], am_SH, (J, K, am_RF b)) = some ((decide (0 ≤ (0 : Int) ∧ (0 : Int) < 128) && true), .inr (.inr (some (am_iv 0), am_SH, (J, K, am_RF b)))) from rfl) (am_g1 (by decide) rfl)
theorem s_JString_coder_2012_ {X : am_X} {b : Bool} {J : am_J} {K : am_K}  {r : Int} (h : f_JString_coder 2012  = some r) : am_runs X T_JString_coder (0, [(0, am_pv 2012)], [], am_SH, (J, K, am_RF b)) (some (am_iv r), am_SH, (J, K, am_RF b)) := by
  unfold f_JString_coder at h
  by_cases c156 : 1 = 0
  · rw [if_pos c156] at h
    refine am_r_t (show am_stepn X T_JString_coder 2 true (0, [(0, am_pv 2012)], [], am_SH, (J, K, am_RF b)) = some ((decide (am_i32 1) && true), .inl (bif am_cb .eq 1 0 then 13 else 6, [(0, am_pv 2012)], [], am_SH, (J, K, am_RF b))) from rfl) (am_g1 (by decide) rfl) (decide_eq_true c156) ?_
    obtain rfl := Option.some.inj h
    exact am_r_ret (show am_stepn X T_JString_coder 2 true (13, [(0, am_pv 2012)], [], am_SH, (J, K, am_RF b)) = some ((decide (0 ≤ (1 : Int) ∧ (1 : Int) < 128) && true), .inr (.inr (some (am_iv 1), am_SH, (J, K, am_RF b)))) from rfl) (am_g1 (by decide) rfl)
  · rw [if_neg c156] at h
    refine am_r_f (show am_stepn X T_JString_coder 2 true (0, [(0, am_pv 2012)], [], am_SH, (J, K, am_RF b)) = some ((decide (am_i32 1) && true), .inl (bif am_cb .eq 1 0 then 13 else 6, [(0, am_pv 2012)], [], am_SH, (J, K, am_RF b))) from rfl) (am_g1 (by decide) rfl) (decide_eq_false c156) ?_
    obtain rfl := Option.some.inj h
    exact am_r_ret (show am_stepn X T_JString_coder 4 true (6, [(0, am_pv 2012)], [], am_SH, (J, K, am_RF b)) = some ((decide (0 ≤ (0 : Int) ∧ (0 : Int) < 128) && true), .inr (.inr (some (am_iv 0), am_SH, (J, K, am_RF b)))) from rfl) (am_g1 (by decide) rfl)
theorem s_JString_coder_2013_ {X : am_X} {b : Bool} {J : am_J} {K : am_K}  {r : Int} (h : f_JString_coder 2013  = some r) : am_runs X T_JString_coder (0, [(0, am_pv 2013)], [], am_SH, (J, K, am_RF b)) (some (am_iv r), am_SH, (J, K, am_RF b)) := by
  unfold f_JString_coder at h
  by_cases c156 : 1 = 0
  · rw [if_pos c156] at h
    refine am_r_t (show am_stepn X T_JString_coder 2 true (0, [(0, am_pv 2013)], [], am_SH, (J, K, am_RF b)) = some ((decide (am_i32 1) && true), .inl (bif am_cb .eq 1 0 then 13 else 6, [(0, am_pv 2013)], [], am_SH, (J, K, am_RF b))) from rfl) (am_g1 (by decide) rfl) (decide_eq_true c156) ?_
    obtain rfl := Option.some.inj h
    exact am_r_ret (show am_stepn X T_JString_coder 2 true (13, [(0, am_pv 2013)], [], am_SH, (J, K, am_RF b)) = some ((decide (0 ≤ (1 : Int) ∧ (1 : Int) < 128) && true), .inr (.inr (some (am_iv 1), am_SH, (J, K, am_RF b)))) from rfl) (am_g1 (by decide) rfl)
  · rw [if_neg c156] at h
    refine am_r_f (show am_stepn X T_JString_coder 2 true (0, [(0, am_pv 2013)], [], am_SH, (J, K, am_RF b)) = some ((decide (am_i32 1) && true), .inl (bif am_cb .eq 1 0 then 13 else 6, [(0, am_pv 2013)], [], am_SH, (J, K, am_RF b))) from rfl) (am_g1 (by decide) rfl) (decide_eq_false c156) ?_
    obtain rfl := Option.some.inj h
    exact am_r_ret (show am_stepn X T_JString_coder 4 true (6, [(0, am_pv 2013)], [], am_SH, (J, K, am_RF b)) = some ((decide (0 ≤ (0 : Int) ∧ (0 : Int) < 128) && true), .inr (.inr (some (am_iv 0), am_SH, (J, K, am_RF b)))) from rfl) (am_g1 (by decide) rfl)
theorem s_JString_coder {X : am_X} {b : Bool} {o1 : Nat} (ho : o1 = 2000 ∨ o1 = 2001 ∨ o1 = 2002 ∨ o1 = 2003 ∨ o1 = 2004 ∨ o1 = 2005 ∨ o1 = 2006 ∨ o1 = 2007 ∨ o1 = 2008 ∨ o1 = 2009 ∨ o1 = 2010 ∨ o1 = 2011 ∨ o1 = 2012 ∨ o1 = 2013) {J : am_J} {K : am_K}  {r : Int} (h : f_JString_coder o1  = some r) : am_runs X T_JString_coder (0, [(0, am_pv o1)], [], am_SH, (J, K, am_RF b)) (some (am_iv r), am_SH, (J, K, am_RF b)) := by
  rcases ho with rfl | rfl | rfl | rfl | rfl | rfl | rfl | rfl | rfl | rfl | rfl | rfl | rfl | rfl
  · skip
    exact s_JString_coder_2000_ h
  · skip
    exact s_JString_coder_2001_ h
  · skip
    exact s_JString_coder_2002_ h
  · skip
    exact s_JString_coder_2003_ h
  · skip
    exact s_JString_coder_2004_ h
  · skip
    exact s_JString_coder_2005_ h
  · skip
    exact s_JString_coder_2006_ h
  · skip
    exact s_JString_coder_2007_ h
  · skip
    exact s_JString_coder_2008_ h
  · skip
    exact s_JString_coder_2009_ h
  · skip
    exact s_JString_coder_2010_ h
  · skip
    exact s_JString_coder_2011_ h
  · skip
    exact s_JString_coder_2012_ h
  · skip
    exact s_JString_coder_2013_ h
theorem s_JString_length_2000_ {X : am_X} {b : Bool} {J : am_J} {K : am_K}  {r : Int} (h : f_JString_length 2000  = some r) : am_runs X T_JString_length (0, [(0, am_pv 2000)], [], am_SH, (J, K, am_RF b)) (some (am_iv r), am_SH, (J, K, am_RF b)) := by
  unfold f_JString_length at h
  obtain ⟨q157, e158, h⟩ := am_bind_some h
  refine am_r_call (show am_stepn X T_JString_length 5 true (0, [(0, am_pv 2000)], [], am_SH, (J, K, am_RF b)) = some (true, .inr (.inl (33, [am_pv 2000], 1, 0, 0, 9, [(0, am_pv 2000)], [am_iv (am_wln (2000 + 100))], am_SH, (J, K, am_RF b)))) from rfl) rfl tb_JString_coder (s_JString_coder (by decide) e158) ?_
  obtain rfl := Option.some.inj h
  exact am_r_ret (show am_stepn X T_JString_length 2 true (9, [(0, am_pv 2000)], [am_iv q157, am_iv (am_wln (2000 + 100))], am_SH, (J, K, am_RF b)) = some (true, .inr (.inr (some (am_iv (am_shr (am_wln (2000 + 100)) q157)), am_SH, (J, K, am_RF b)))) from rfl) rfl
theorem s_JString_length_2001_ {X : am_X} {b : Bool} {J : am_J} {K : am_K}  {r : Int} (h : f_JString_length 2001  = some r) : am_runs X T_JString_length (0, [(0, am_pv 2001)], [], am_SH, (J, K, am_RF b)) (some (am_iv r), am_SH, (J, K, am_RF b)) := by
  unfold f_JString_length at h
  obtain ⟨q157, e158, h⟩ := am_bind_some h
  refine am_r_call (show am_stepn X T_JString_length 5 true (0, [(0, am_pv 2001)], [], am_SH, (J, K, am_RF b)) = some (true, .inr (.inl (33, [am_pv 2001], 1, 0, 0, 9, [(0, am_pv 2001)], [am_iv (am_wln (2001 + 100))], am_SH, (J, K, am_RF b)))) from rfl) rfl tb_JString_coder (s_JString_coder (by decide) e158) ?_
  obtain rfl := Option.some.inj h
  exact am_r_ret (show am_stepn X T_JString_length 2 true (9, [(0, am_pv 2001)], [am_iv q157, am_iv (am_wln (2001 + 100))], am_SH, (J, K, am_RF b)) = some (true, .inr (.inr (some (am_iv (am_shr (am_wln (2001 + 100)) q157)), am_SH, (J, K, am_RF b)))) from rfl) rfl
theorem s_JString_length_2002_ {X : am_X} {b : Bool} {J : am_J} {K : am_K}  {r : Int} (h : f_JString_length 2002  = some r) : am_runs X T_JString_length (0, [(0, am_pv 2002)], [], am_SH, (J, K, am_RF b)) (some (am_iv r), am_SH, (J, K, am_RF b)) := by
  unfold f_JString_length at h
  obtain ⟨q157, e158, h⟩ := am_bind_some h
  refine am_r_call (show am_stepn X T_JString_length 5 true (0, [(0, am_pv 2002)], [], am_SH, (J, K, am_RF b)) = some (true, .inr (.inl (33, [am_pv 2002], 1, 0, 0, 9, [(0, am_pv 2002)], [am_iv (am_wln (2002 + 100))], am_SH, (J, K, am_RF b)))) from rfl) rfl tb_JString_coder (s_JString_coder (by decide) e158) ?_
  obtain rfl := Option.some.inj h
  exact am_r_ret (show am_stepn X T_JString_length 2 true (9, [(0, am_pv 2002)], [am_iv q157, am_iv (am_wln (2002 + 100))], am_SH, (J, K, am_RF b)) = some (true, .inr (.inr (some (am_iv (am_shr (am_wln (2002 + 100)) q157)), am_SH, (J, K, am_RF b)))) from rfl) rfl
theorem s_JString_length_2003_ {X : am_X} {b : Bool} {J : am_J} {K : am_K}  {r : Int} (h : f_JString_length 2003  = some r) : am_runs X T_JString_length (0, [(0, am_pv 2003)], [], am_SH, (J, K, am_RF b)) (some (am_iv r), am_SH, (J, K, am_RF b)) := by
  unfold f_JString_length at h
  obtain ⟨q157, e158, h⟩ := am_bind_some h
  refine am_r_call (show am_stepn X T_JString_length 5 true (0, [(0, am_pv 2003)], [], am_SH, (J, K, am_RF b)) = some (true, .inr (.inl (33, [am_pv 2003], 1, 0, 0, 9, [(0, am_pv 2003)], [am_iv (am_wln (2003 + 100))], am_SH, (J, K, am_RF b)))) from rfl) rfl tb_JString_coder (s_JString_coder (by decide) e158) ?_
  obtain rfl := Option.some.inj h
  exact am_r_ret (show am_stepn X T_JString_length 2 true (9, [(0, am_pv 2003)], [am_iv q157, am_iv (am_wln (2003 + 100))], am_SH, (J, K, am_RF b)) = some (true, .inr (.inr (some (am_iv (am_shr (am_wln (2003 + 100)) q157)), am_SH, (J, K, am_RF b)))) from rfl) rfl
theorem s_JString_length_2004_ {X : am_X} {b : Bool} {J : am_J} {K : am_K}  {r : Int} (h : f_JString_length 2004  = some r) : am_runs X T_JString_length (0, [(0, am_pv 2004)], [], am_SH, (J, K, am_RF b)) (some (am_iv r), am_SH, (J, K, am_RF b)) := by
  unfold f_JString_length at h
  obtain ⟨q157, e158, h⟩ := am_bind_some h
  refine am_r_call (show am_stepn X T_JString_length 5 true (0, [(0, am_pv 2004)], [], am_SH, (J, K, am_RF b)) = some (true, .inr (.inl (33, [am_pv 2004], 1, 0, 0, 9, [(0, am_pv 2004)], [am_iv (am_wln (2004 + 100))], am_SH, (J, K, am_RF b)))) from rfl) rfl tb_JString_coder (s_JString_coder (by decide) e158) ?_
  obtain rfl := Option.some.inj h
  exact am_r_ret (show am_stepn X T_JString_length 2 true (9, [(0, am_pv 2004)], [am_iv q157, am_iv (am_wln (2004 + 100))], am_SH, (J, K, am_RF b)) = some (true, .inr (.inr (some (am_iv (am_shr (am_wln (2004 + 100)) q157)), am_SH, (J, K, am_RF b)))) from rfl) rfl
theorem s_JString_length_2005_ {X : am_X} {b : Bool} {J : am_J} {K : am_K}  {r : Int} (h : f_JString_length 2005  = some r) : am_runs X T_JString_length (0, [(0, am_pv 2005)], [], am_SH, (J, K, am_RF b)) (some (am_iv r), am_SH, (J, K, am_RF b)) := by
  unfold f_JString_length at h
  obtain ⟨q157, e158, h⟩ := am_bind_some h
  refine am_r_call (show am_stepn X T_JString_length 5 true (0, [(0, am_pv 2005)], [], am_SH, (J, K, am_RF b)) = some (true, .inr (.inl (33, [am_pv 2005], 1, 0, 0, 9, [(0, am_pv 2005)], [am_iv (am_wln (2005 + 100))], am_SH, (J, K, am_RF b)))) from rfl) rfl tb_JString_coder (s_JString_coder (by decide) e158) ?_
  obtain rfl := Option.some.inj h
  exact am_r_ret (show am_stepn X T_JString_length 2 true (9, [(0, am_pv 2005)], [am_iv q157, am_iv (am_wln (2005 + 100))], am_SH, (J, K, am_RF b)) = some (true, .inr (.inr (some (am_iv (am_shr (am_wln (2005 + 100)) q157)), am_SH, (J, K, am_RF b)))) from rfl) rfl
theorem s_JString_length_2006_ {X : am_X} {b : Bool} {J : am_J} {K : am_K}  {r : Int} (h : f_JString_length 2006  = some r) : am_runs X T_JString_length (0, [(0, am_pv 2006)], [], am_SH, (J, K, am_RF b)) (some (am_iv r), am_SH, (J, K, am_RF b)) := by
  unfold f_JString_length at h
  obtain ⟨q157, e158, h⟩ := am_bind_some h
  refine am_r_call (show am_stepn X T_JString_length 5 true (0, [(0, am_pv 2006)], [], am_SH, (J, K, am_RF b)) = some (true, .inr (.inl (33, [am_pv 2006], 1, 0, 0, 9, [(0, am_pv 2006)], [am_iv (am_wln (2006 + 100))], am_SH, (J, K, am_RF b)))) from rfl) rfl tb_JString_coder (s_JString_coder (by decide) e158) ?_
  obtain rfl := Option.some.inj h
  exact am_r_ret (show am_stepn X T_JString_length 2 true (9, [(0, am_pv 2006)], [am_iv q157, am_iv (am_wln (2006 + 100))], am_SH, (J, K, am_RF b)) = some (true, .inr (.inr (some (am_iv (am_shr (am_wln (2006 + 100)) q157)), am_SH, (J, K, am_RF b)))) from rfl) rfl
theorem s_JString_length_2007_ {X : am_X} {b : Bool} {J : am_J} {K : am_K}  {r : Int} (h : f_JString_length 2007  = some r) : am_runs X T_JString_length (0, [(0, am_pv 2007)], [], am_SH, (J, K, am_RF b)) (some (am_iv r), am_SH, (J, K, am_RF b)) := by
  unfold f_JString_length at h
  obtain ⟨q157, e158, h⟩ := am_bind_some h
  refine am_r_call (show am_stepn X T_JString_length 5 true (0, [(0, am_pv 2007)], [], am_SH, (J, K, am_RF b)) = some (true, .inr (.inl (33, [am_pv 2007], 1, 0, 0, 9, [(0, am_pv 2007)], [am_iv (am_wln (2007 + 100))], am_SH, (J, K, am_RF b)))) from rfl) rfl tb_JString_coder (s_JString_coder (by decide) e158) ?_
  obtain rfl := Option.some.inj h
  exact am_r_ret (show am_stepn X T_JString_length 2 true (9, [(0, am_pv 2007)], [am_iv q157, am_iv (am_wln (2007 + 100))], am_SH, (J, K, am_RF b)) = some (true, .inr (.inr (some (am_iv (am_shr (am_wln (2007 + 100)) q157)), am_SH, (J, K, am_RF b)))) from rfl) rfl
theorem s_JString_length_2008_ {X : am_X} {b : Bool} {J : am_J} {K : am_K}  {r : Int} (h : f_JString_length 2008  = some r) : am_runs X T_JString_length (0, [(0, am_pv 2008)], [], am_SH, (J, K, am_RF b)) (some (am_iv r), am_SH, (J, K, am_RF b)) := by
  unfold f_JString_length at h
  obtain ⟨q157, e158, h⟩ := am_bind_some h
  refine am_r_call (show am_stepn X T_JString_length 5 true (0, [(0, am_pv 2008)], [], am_SH, (J, K, am_RF b)) = some (true, .inr (.inl (33, [am_pv 2008], 1, 0, 0, 9, [(0, am_pv 2008)], [am_iv (am_wln (2008 + 100))], am_SH, (J, K, am_RF b)))) from rfl) rfl tb_JString_coder (s_JString_coder (by decide) e158) ?_
  obtain rfl := Option.some.inj h
  exact am_r_ret (show am_stepn X T_JString_length 2 true (9, [(0, am_pv 2008)], [am_iv q157, am_iv (am_wln (2008 + 100))], am_SH, (J, K, am_RF b)) = some (true, .inr (.inr (some (am_iv (am_shr (am_wln (2008 + 100)) q157)), am_SH, (J, K, am_RF b)))) from rfl) rfl
theorem s_JString_length_2009_ {X : am_X} {b : Bool} {J : am_J} {K : am_K}  {r : Int} (h : f_JString_length 2009  = some r) : am_runs X T_JString_length (0, [(0, am_pv 2009)], [], am_SH, (J, K, am_RF b)) (some (am_iv r), am_SH, (J, K, am_RF b)) := by
  unfold f_JString_length at h
  obtain ⟨q157, e158, h⟩ := am_bind_some h
  refine am_r_call (show am_stepn X T_JString_length 5 true (0, [(0, am_pv 2009)], [], am_SH, (J, K, am_RF b)) = some (true, .inr (.inl (33, [am_pv 2009], 1, 0, 0, 9, [(0, am_pv 2009)], [am_iv (am_wln (2009 + 100))], am_SH, (J, K, am_RF b)))) from rfl) rfl tb_JString_coder (s_JString_coder (by decide) e158) ?_
  obtain rfl := Option.some.inj h
  exact am_r_ret (show am_stepn X T_JString_length 2 true (9, [(0, am_pv 2009)], [am_iv q157, am_iv (am_wln (2009 + 100))], am_SH, (J, K, am_RF b)) = some (true, .inr (.inr (some (am_iv (am_shr (am_wln (2009 + 100)) q157)), am_SH, (J, K, am_RF b)))) from rfl) rfl
theorem s_JString_length_2010_ {X : am_X} {b : Bool} {J : am_J} {K : am_K}  {r : Int} (h : f_JString_length 2010  = some r) : am_runs X T_JString_length (0, [(0, am_pv 2010)], [], am_SH, (J, K, am_RF b)) (some (am_iv r), am_SH, (J, K, am_RF b)) := by
  unfold f_JString_length at h
  obtain ⟨q157, e158, h⟩ := am_bind_some h
  refine am_r_call (show am_stepn X T_JString_length 5 true (0, [(0, am_pv 2010)], [], am_SH, (J, K, am_RF b)) = some (true, .inr (.inl (33, [am_pv 2010], 1, 0, 0, 9, [(0, am_pv 2010)], [am_iv (am_wln (2010 + 100))], am_SH, (J, K, am_RF b)))) from rfl) rfl tb_JString_coder (s_JString_coder (by decide) e158) ?_
  obtain rfl := Option.some.inj h
  exact am_r_ret (show am_stepn X T_JString_length 2 true (9, [(0, am_pv 2010)], [am_iv q157, am_iv (am_wln (2010 + 100))], am_SH, (J, K, am_RF b)) = some (true, .inr (.inr (some (am_iv (am_shr (am_wln (2010 + 100)) q157)), am_SH, (J, K, am_RF b)))) from rfl) rfl
theorem s_JString_length_2011_ {X : am_X} {b : Bool} {J : am_J} {K : am_K}  {r : Int} (h : f_JString_length 2011  = some r) : am_runs X T_JString_length (0, [(0, am_pv 2011)], [], am_SH, (J, K, am_RF b)) (some (am_iv r), am_SH, (J, K, am_RF b)) := by
  unfold f_JString_length at h
  obtain ⟨q157, e158, h⟩ := am_bind_some h
  refine am_r_call (show am_stepn X T_JString_length 5 true (0, [(0, am_pv 2011)], [], am_SH, (J, K, am_RF b)) = some (true, .inr (.inl (33, [am_pv 2011], 1, 0, 0, 9, [(0, am_pv 2011)], [am_iv (am_wln (2011 + 100))], am_SH, (J, K, am_RF b)))) from rfl) rfl tb_JString_coder (s_JString_coder (by decide) e158) ?_
  obtain rfl := Option.some.inj h
  exact am_r_ret (show am_stepn X T_JString_length 2 true (9, [(0, am_pv 2011)], [am_iv q157, am_iv (am_wln (2011 + 100))], am_SH, (J, K, am_RF b)) = some (true, .inr (.inr (some (am_iv (am_shr (am_wln (2011 + 100)) q157)), am_SH, (J, K, am_RF b)))) from rfl) rfl
theorem s_JString_length_2012_ {X : am_X} {b : Bool} {J : am_J} {K : am_K}  {r : Int} (h : f_JString_length 2012  = some r) : am_runs X T_JString_length (0, [(0, am_pv 2012)], [], am_SH, (J, K, am_RF b)) (some (am_iv r), am_SH, (J, K, am_RF b)) := by
  unfold f_JString_length at h
  obtain ⟨q157, e158, h⟩ := am_bind_some h
  refine am_r_call (show am_stepn X T_JString_length 5 true (0, [(0, am_pv 2012)], [], am_SH, (J, K, am_RF b)) = some (true, .inr (.inl (33, [am_pv 2012], 1, 0, 0, 9, [(0, am_pv 2012)], [am_iv (am_wln (2012 + 100))], am_SH, (J, K, am_RF b)))) from rfl) rfl tb_JString_coder (s_JString_coder (by decide) e158) ?_
  obtain rfl := Option.some.inj h
  exact am_r_ret (show am_stepn X T_JString_length 2 true (9, [(0, am_pv 2012)], [am_iv q157, am_iv (am_wln (2012 + 100))], am_SH, (J, K, am_RF b)) = some (true, .inr (.inr (some (am_iv (am_shr (am_wln (2012 + 100)) q157)), am_SH, (J, K, am_RF b)))) from rfl) rfl
theorem s_JString_length_2013_ {X : am_X} {b : Bool} {J : am_J} {K : am_K}  {r : Int} (h : f_JString_length 2013  = some r) : am_runs X T_JString_length (0, [(0, am_pv 2013)], [], am_SH, (J, K, am_RF b)) (some (am_iv r), am_SH, (J, K, am_RF b)) := by
  unfold f_JString_length at h
  obtain ⟨q157, e158, h⟩ := am_bind_some h
  refine am_r_call (show am_stepn X T_JString_length 5 true (0, [(0, am_pv 2013)], [], am_SH, (J, K, am_RF b)) = some (true, .inr (.inl (33, [am_pv 2013], 1, 0, 0, 9, [(0, am_pv 2013)], [am_iv (am_wln (2013 + 100))], am_SH, (J, K, am_RF b)))) from rfl) rfl tb_JString_coder (s_JString_coder (by decide) e158) ?_
  obtain rfl := Option.some.inj h
  exact am_r_ret (show am_stepn X T_JString_length 2 true (9, [(0, am_pv 2013)], [am_iv q157, am_iv (am_wln (2013 + 100))], am_SH, (J, K, am_RF b)) = some (true, .inr (.inr (some (am_iv (am_shr (am_wln (2013 + 100)) q157)), am_SH, (J, K, am_RF b)))) from rfl) rfl
theorem s_JString_length {X : am_X} {b : Bool} {o1 : Nat} (ho : o1 = 2000 ∨ o1 = 2001 ∨ o1 = 2002 ∨ o1 = 2003 ∨ o1 = 2004 ∨ o1 = 2005 ∨ o1 = 2006 ∨ o1 = 2007 ∨ o1 = 2008 ∨ o1 = 2009 ∨ o1 = 2010 ∨ o1 = 2011 ∨ o1 = 2012 ∨ o1 = 2013) {J : am_J} {K : am_K}  {r : Int} (h : f_JString_length o1  = some r) : am_runs X T_JString_length (0, [(0, am_pv o1)], [], am_SH, (J, K, am_RF b)) (some (am_iv r), am_SH, (J, K, am_RF b)) := by
  rcases ho with rfl | rfl | rfl | rfl | rfl | rfl | rfl | rfl | rfl | rfl | rfl | rfl | rfl | rfl
  · skip
    exact s_JString_length_2000_ h
  · skip
    exact s_JString_length_2001_ h
  · skip
    exact s_JString_length_2002_ h
  · skip
    exact s_JString_length_2003_ h
  · skip
    exact s_JString_length_2004_ h
  · skip
    exact s_JString_length_2005_ h
  · skip
    exact s_JString_length_2006_ h
  · skip
    exact s_JString_length_2007_ h
  · skip
    exact s_JString_length_2008_ h
  · skip
    exact s_JString_length_2009_ h
  · skip
    exact s_JString_length_2010_ h
  · skip
    exact s_JString_length_2011_ h
  · skip
    exact s_JString_length_2012_ h
  · skip
    exact s_JString_length_2013_ h
theorem s_Reader_isWord_L20_2000_ {X : am_X} {b : Bool} {J : am_J} {K : am_K}  : ∀ (n : Nat) (x2 : Int) (r : Int), f_Reader_isWord_L20 2000 J  n x2 = some r → am_runs X T_Reader_isWord (20, [(0, am_pv 1), (1, am_pv 2000), (2, am_iv x2)], [], am_SH, (J, K, am_RF b)) (some (am_iv r), am_SH, (J, K, am_RF b)) := by
  intro n
  induction n with
  | zero =>
    intro x2 r h
    cases h
  | succ n ih =>
    intro x2 r h
    rw [f_Reader_isWord_L20.eq_2] at h
    obtain ⟨q159, e160, h⟩ := am_bind_some h
    refine am_r_call (show am_stepn X T_Reader_isWord 3 true (20, [(0, am_pv 1), (1, am_pv 2000), (2, am_iv x2)], [], am_SH, (J, K, am_RF b)) = some (true, .inr (.inl (32, [am_pv 2000], 1, 0, 0, 25, [(0, am_pv 1), (1, am_pv 2000), (2, am_iv x2)], [am_iv x2], am_SH, (J, K, am_RF b)))) from rfl) rfl tb_JString_length (s_JString_length (by decide) e160) ?_
    obtain ⟨g161, h⟩ := am_if_some h
    obtain ⟨g162, h⟩ := am_if_some h
    by_cases c163 : x2 < q159
    · rw [if_pos c163] at h
      refine am_r_f (show am_stepn X T_Reader_isWord 1 true (25, [(0, am_pv 1), (1, am_pv 2000), (2, am_iv x2)], [am_iv q159, am_iv x2], am_SH, (J, K, am_RF b)) = some (((decide (am_i32 q159) && decide (am_i32 x2)) && true), .inl (bif am_cb .ge x2 q159 then 57 else 28, [(0, am_pv 1), (1, am_pv 2000), (2, am_iv x2)], [], am_SH, (J, K, am_RF b))) from rfl) (am_g2 g161 g162 rfl) (am_nd_t c163) ?_
      obtain ⟨q164, e165, h⟩ := am_bind_some h
      refine am_r_call (show am_stepn X T_Reader_isWord 3 true (28, [(0, am_pv 1), (1, am_pv 2000), (2, am_iv x2)], [], am_SH, (J, K, am_RF b)) = some (true, .inr (.inl (34, [am_pv 2000, am_iv x2], 2, 0, 0, 33, [(0, am_pv 1), (1, am_pv 2000), (2, am_iv x2)], [], am_SH, (J, K, am_RF b)))) from rfl) rfl tb_JString_charAt (s_JString_charAt (by decide) e165) ?_
      obtain ⟨q166, e167, h⟩ := am_bind_some h
      refine am_r_call (show am_stepn X T_Reader_isWord 7 true (33, [(0, am_pv 1), (1, am_pv 2000), (2, am_iv x2)], [am_iv q164], am_SH, (J, K, am_RF b)) = some (true, .inr (.inl (22, [am_pv 2, am_iv ((J 1 6) + x2)], 2, 0, 0, 46, [(0, am_pv 1), (1, am_pv 2000), (2, am_iv x2)], [am_iv q164], am_SH, (J, K, am_RF b)))) from rfl) rfl tb_Tape_at (s_Tape_at e167) ?_
      obtain ⟨g168, h⟩ := am_if_some h
      obtain ⟨g169, h⟩ := am_if_some h
      by_cases c170 : q164 = q166
      · rw [if_pos c170] at h
        refine am_r_t (show am_stepn X T_Reader_isWord 1 true (46, [(0, am_pv 1), (1, am_pv 2000), (2, am_iv x2)], [am_iv q166, am_iv q164], am_SH, (J, K, am_RF b)) = some (((decide (am_i32 q166) && decide (am_i32 q164)) && true), .inl (bif am_cb .eq q164 q166 then 51 else 49, [(0, am_pv 1), (1, am_pv 2000), (2, am_iv x2)], [], am_SH, (J, K, am_RF b))) from rfl) (am_g2 g168 g169 rfl) (decide_eq_true c170) ?_
        refine am_r_go (show am_stepn X T_Reader_isWord 2 true (51, [(0, am_pv 1), (1, am_pv 2000), (2, am_iv x2)], [], am_SH, (J, K, am_RF b)) = some (true, .inl (20, [(0, am_pv 1), (1, am_pv 2000), (2, am_iv (x2 + 1))], [], am_SH, (J, K, am_RF b))) from rfl) rfl ?_
        exact ih _ _ h
      · rw [if_neg c170] at h
        refine am_r_f (show am_stepn X T_Reader_isWord 1 true (46, [(0, am_pv 1), (1, am_pv 2000), (2, am_iv x2)], [am_iv q166, am_iv q164], am_SH, (J, K, am_RF b)) = some (((decide (am_i32 q166) && decide (am_i32 q164)) && true), .inl (bif am_cb .eq q164 q166 then 51 else 49, [(0, am_pv 1), (1, am_pv 2000), (2, am_iv x2)], [], am_SH, (J, K, am_RF b))) from rfl) (am_g2 g168 g169 rfl) (decide_eq_false c170) ?_
        obtain rfl := Option.some.inj h
        exact am_r_ret (show am_stepn X T_Reader_isWord 2 true (49, [(0, am_pv 1), (1, am_pv 2000), (2, am_iv x2)], [], am_SH, (J, K, am_RF b)) = some ((decide ((0 : Int) = 0 ∨ (0 : Int) = 1) && true), .inr (.inr (some (am_iv 0), am_SH, (J, K, am_RF b)))) from rfl) (am_g1 (by decide) rfl)
    · rw [if_neg c163] at h
      refine am_r_t (show am_stepn X T_Reader_isWord 1 true (25, [(0, am_pv 1), (1, am_pv 2000), (2, am_iv x2)], [am_iv q159, am_iv x2], am_SH, (J, K, am_RF b)) = some (((decide (am_i32 q159) && decide (am_i32 x2)) && true), .inl (bif am_cb .ge x2 q159 then 57 else 28, [(0, am_pv 1), (1, am_pv 2000), (2, am_iv x2)], [], am_SH, (J, K, am_RF b))) from rfl) (am_g2 g161 g162 rfl) (am_nd_f c163) ?_
      obtain rfl := Option.some.inj h
      exact am_r_ret (show am_stepn X T_Reader_isWord 2 true (57, [(0, am_pv 1), (1, am_pv 2000), (2, am_iv x2)], [], am_SH, (J, K, am_RF b)) = some ((decide ((1 : Int) = 0 ∨ (1 : Int) = 1) && true), .inr (.inr (some (am_iv 1), am_SH, (J, K, am_RF b)))) from rfl) (am_g1 (by decide) rfl)
theorem s_Reader_isWord_2000_ {X : am_X} {b : Bool} {J : am_J} {K : am_K}  {r : Int} (h : f_Reader_isWord 2000 J  = some r) : am_runs X T_Reader_isWord (0, [(0, am_pv 1), (1, am_pv 2000)], [], am_SH, (J, K, am_RF b)) (some (am_iv r), am_SH, (J, K, am_RF b)) := by
  unfold f_Reader_isWord at h
  obtain ⟨q171, e172, h⟩ := am_bind_some h
  refine am_r_call (show am_stepn X T_Reader_isWord 2 true (0, [(0, am_pv 1), (1, am_pv 2000)], [], am_SH, (J, K, am_RF b)) = some (true, .inr (.inl (32, [am_pv 2000], 1, 0, 0, 4, [(0, am_pv 1), (1, am_pv 2000)], [], am_SH, (J, K, am_RF b)))) from rfl) rfl tb_JString_length (s_JString_length (by decide) e172) ?_
  obtain ⟨g173, h⟩ := am_if_some h
  obtain ⟨g174, h⟩ := am_if_some h
  by_cases c175 : q171 = ((J 1 4) - (J 1 6))
  · rw [if_pos c175] at h
    refine am_r_t (show am_stepn X T_Reader_isWord 6 true (4, [(0, am_pv 1), (1, am_pv 2000)], [am_iv q171], am_SH, (J, K, am_RF b)) = some (((decide (am_i32 ((J 1 4) - (J 1 6))) && decide (am_i32 q171)) && true), .inl (bif am_cb .eq q171 ((J 1 4) - (J 1 6)) then 18 else 16, [(0, am_pv 1), (1, am_pv 2000)], [], am_SH, (J, K, am_RF b))) from rfl) (am_g2 g173 g174 rfl) (decide_eq_true c175) ?_
    refine am_r_go (show am_stepn X T_Reader_isWord 2 true (18, [(0, am_pv 1), (1, am_pv 2000)], [], am_SH, (J, K, am_RF b)) = some (true, .inl (20, [(0, am_pv 1), (1, am_pv 2000), (2, am_iv 0)], [], am_SH, (J, K, am_RF b))) from rfl) rfl ?_
    exact s_Reader_isWord_L20_2000_  _ _ _ h
  · rw [if_neg c175] at h
    refine am_r_f (show am_stepn X T_Reader_isWord 6 true (4, [(0, am_pv 1), (1, am_pv 2000)], [am_iv q171], am_SH, (J, K, am_RF b)) = some (((decide (am_i32 ((J 1 4) - (J 1 6))) && decide (am_i32 q171)) && true), .inl (bif am_cb .eq q171 ((J 1 4) - (J 1 6)) then 18 else 16, [(0, am_pv 1), (1, am_pv 2000)], [], am_SH, (J, K, am_RF b))) from rfl) (am_g2 g173 g174 rfl) (decide_eq_false c175) ?_
    obtain rfl := Option.some.inj h
    exact am_r_ret (show am_stepn X T_Reader_isWord 2 true (16, [(0, am_pv 1), (1, am_pv 2000)], [], am_SH, (J, K, am_RF b)) = some ((decide ((0 : Int) = 0 ∨ (0 : Int) = 1) && true), .inr (.inr (some (am_iv 0), am_SH, (J, K, am_RF b)))) from rfl) (am_g1 (by decide) rfl)
theorem s_Reader_isWord_L20_2001_ {X : am_X} {b : Bool} {J : am_J} {K : am_K}  : ∀ (n : Nat) (x2 : Int) (r : Int), f_Reader_isWord_L20 2001 J  n x2 = some r → am_runs X T_Reader_isWord (20, [(0, am_pv 1), (1, am_pv 2001), (2, am_iv x2)], [], am_SH, (J, K, am_RF b)) (some (am_iv r), am_SH, (J, K, am_RF b)) := by
  intro n
  induction n with
  | zero =>
    intro x2 r h
    cases h
  | succ n ih =>
    intro x2 r h
    rw [f_Reader_isWord_L20.eq_2] at h
    obtain ⟨q159, e160, h⟩ := am_bind_some h
    refine am_r_call (show am_stepn X T_Reader_isWord 3 true (20, [(0, am_pv 1), (1, am_pv 2001), (2, am_iv x2)], [], am_SH, (J, K, am_RF b)) = some (true, .inr (.inl (32, [am_pv 2001], 1, 0, 0, 25, [(0, am_pv 1), (1, am_pv 2001), (2, am_iv x2)], [am_iv x2], am_SH, (J, K, am_RF b)))) from rfl) rfl tb_JString_length (s_JString_length (by decide) e160) ?_
    obtain ⟨g161, h⟩ := am_if_some h
    obtain ⟨g162, h⟩ := am_if_some h
    by_cases c163 : x2 < q159
    · rw [if_pos c163] at h
      refine am_r_f (show am_stepn X T_Reader_isWord 1 true (25, [(0, am_pv 1), (1, am_pv 2001), (2, am_iv x2)], [am_iv q159, am_iv x2], am_SH, (J, K, am_RF b)) = some (((decide (am_i32 q159) && decide (am_i32 x2)) && true), .inl (bif am_cb .ge x2 q159 then 57 else 28, [(0, am_pv 1), (1, am_pv 2001), (2, am_iv x2)], [], am_SH, (J, K, am_RF b))) from rfl) (am_g2 g161 g162 rfl) (am_nd_t c163) ?_
      obtain ⟨q164, e165, h⟩ := am_bind_some h
      refine am_r_call (show am_stepn X T_Reader_isWord 3 true (28, [(0, am_pv 1), (1, am_pv 2001), (2, am_iv x2)], [], am_SH, (J, K, am_RF b)) = some (true, .inr (.inl (34, [am_pv 2001, am_iv x2], 2, 0, 0, 33, [(0, am_pv 1), (1, am_pv 2001), (2, am_iv x2)], [], am_SH, (J, K, am_RF b)))) from rfl) rfl tb_JString_charAt (s_JString_charAt (by decide) e165) ?_
      obtain ⟨q166, e167, h⟩ := am_bind_some h
      refine am_r_call (show am_stepn X T_Reader_isWord 7 true (33, [(0, am_pv 1), (1, am_pv 2001), (2, am_iv x2)], [am_iv q164], am_SH, (J, K, am_RF b)) = some (true, .inr (.inl (22, [am_pv 2, am_iv ((J 1 6) + x2)], 2, 0, 0, 46, [(0, am_pv 1), (1, am_pv 2001), (2, am_iv x2)], [am_iv q164], am_SH, (J, K, am_RF b)))) from rfl) rfl tb_Tape_at (s_Tape_at e167) ?_
      obtain ⟨g168, h⟩ := am_if_some h
      obtain ⟨g169, h⟩ := am_if_some h
      by_cases c170 : q164 = q166
      · rw [if_pos c170] at h
        refine am_r_t (show am_stepn X T_Reader_isWord 1 true (46, [(0, am_pv 1), (1, am_pv 2001), (2, am_iv x2)], [am_iv q166, am_iv q164], am_SH, (J, K, am_RF b)) = some (((decide (am_i32 q166) && decide (am_i32 q164)) && true), .inl (bif am_cb .eq q164 q166 then 51 else 49, [(0, am_pv 1), (1, am_pv 2001), (2, am_iv x2)], [], am_SH, (J, K, am_RF b))) from rfl) (am_g2 g168 g169 rfl) (decide_eq_true c170) ?_
        refine am_r_go (show am_stepn X T_Reader_isWord 2 true (51, [(0, am_pv 1), (1, am_pv 2001), (2, am_iv x2)], [], am_SH, (J, K, am_RF b)) = some (true, .inl (20, [(0, am_pv 1), (1, am_pv 2001), (2, am_iv (x2 + 1))], [], am_SH, (J, K, am_RF b))) from rfl) rfl ?_
        exact ih _ _ h
      · rw [if_neg c170] at h
        refine am_r_f (show am_stepn X T_Reader_isWord 1 true (46, [(0, am_pv 1), (1, am_pv 2001), (2, am_iv x2)], [am_iv q166, am_iv q164], am_SH, (J, K, am_RF b)) = some (((decide (am_i32 q166) && decide (am_i32 q164)) && true), .inl (bif am_cb .eq q164 q166 then 51 else 49, [(0, am_pv 1), (1, am_pv 2001), (2, am_iv x2)], [], am_SH, (J, K, am_RF b))) from rfl) (am_g2 g168 g169 rfl) (decide_eq_false c170) ?_
        obtain rfl := Option.some.inj h
        exact am_r_ret (show am_stepn X T_Reader_isWord 2 true (49, [(0, am_pv 1), (1, am_pv 2001), (2, am_iv x2)], [], am_SH, (J, K, am_RF b)) = some ((decide ((0 : Int) = 0 ∨ (0 : Int) = 1) && true), .inr (.inr (some (am_iv 0), am_SH, (J, K, am_RF b)))) from rfl) (am_g1 (by decide) rfl)
    · rw [if_neg c163] at h
      refine am_r_t (show am_stepn X T_Reader_isWord 1 true (25, [(0, am_pv 1), (1, am_pv 2001), (2, am_iv x2)], [am_iv q159, am_iv x2], am_SH, (J, K, am_RF b)) = some (((decide (am_i32 q159) && decide (am_i32 x2)) && true), .inl (bif am_cb .ge x2 q159 then 57 else 28, [(0, am_pv 1), (1, am_pv 2001), (2, am_iv x2)], [], am_SH, (J, K, am_RF b))) from rfl) (am_g2 g161 g162 rfl) (am_nd_f c163) ?_
      obtain rfl := Option.some.inj h
      exact am_r_ret (show am_stepn X T_Reader_isWord 2 true (57, [(0, am_pv 1), (1, am_pv 2001), (2, am_iv x2)], [], am_SH, (J, K, am_RF b)) = some ((decide ((1 : Int) = 0 ∨ (1 : Int) = 1) && true), .inr (.inr (some (am_iv 1), am_SH, (J, K, am_RF b)))) from rfl) (am_g1 (by decide) rfl)
theorem s_Reader_isWord_2001_ {X : am_X} {b : Bool} {J : am_J} {K : am_K}  {r : Int} (h : f_Reader_isWord 2001 J  = some r) : am_runs X T_Reader_isWord (0, [(0, am_pv 1), (1, am_pv 2001)], [], am_SH, (J, K, am_RF b)) (some (am_iv r), am_SH, (J, K, am_RF b)) := by
  unfold f_Reader_isWord at h
  obtain ⟨q171, e172, h⟩ := am_bind_some h
  refine am_r_call (show am_stepn X T_Reader_isWord 2 true (0, [(0, am_pv 1), (1, am_pv 2001)], [], am_SH, (J, K, am_RF b)) = some (true, .inr (.inl (32, [am_pv 2001], 1, 0, 0, 4, [(0, am_pv 1), (1, am_pv 2001)], [], am_SH, (J, K, am_RF b)))) from rfl) rfl tb_JString_length (s_JString_length (by decide) e172) ?_
  obtain ⟨g173, h⟩ := am_if_some h
  obtain ⟨g174, h⟩ := am_if_some h
  by_cases c175 : q171 = ((J 1 4) - (J 1 6))
  · rw [if_pos c175] at h
    refine am_r_t (show am_stepn X T_Reader_isWord 6 true (4, [(0, am_pv 1), (1, am_pv 2001)], [am_iv q171], am_SH, (J, K, am_RF b)) = some (((decide (am_i32 ((J 1 4) - (J 1 6))) && decide (am_i32 q171)) && true), .inl (bif am_cb .eq q171 ((J 1 4) - (J 1 6)) then 18 else 16, [(0, am_pv 1), (1, am_pv 2001)], [], am_SH, (J, K, am_RF b))) from rfl) (am_g2 g173 g174 rfl) (decide_eq_true c175) ?_
    refine am_r_go (show am_stepn X T_Reader_isWord 2 true (18, [(0, am_pv 1), (1, am_pv 2001)], [], am_SH, (J, K, am_RF b)) = some (true, .inl (20, [(0, am_pv 1), (1, am_pv 2001), (2, am_iv 0)], [], am_SH, (J, K, am_RF b))) from rfl) rfl ?_
    exact s_Reader_isWord_L20_2001_  _ _ _ h
  · rw [if_neg c175] at h
    refine am_r_f (show am_stepn X T_Reader_isWord 6 true (4, [(0, am_pv 1), (1, am_pv 2001)], [am_iv q171], am_SH, (J, K, am_RF b)) = some (((decide (am_i32 ((J 1 4) - (J 1 6))) && decide (am_i32 q171)) && true), .inl (bif am_cb .eq q171 ((J 1 4) - (J 1 6)) then 18 else 16, [(0, am_pv 1), (1, am_pv 2001)], [], am_SH, (J, K, am_RF b))) from rfl) (am_g2 g173 g174 rfl) (decide_eq_false c175) ?_
    obtain rfl := Option.some.inj h
    exact am_r_ret (show am_stepn X T_Reader_isWord 2 true (16, [(0, am_pv 1), (1, am_pv 2001)], [], am_SH, (J, K, am_RF b)) = some ((decide ((0 : Int) = 0 ∨ (0 : Int) = 1) && true), .inr (.inr (some (am_iv 0), am_SH, (J, K, am_RF b)))) from rfl) (am_g1 (by decide) rfl)
theorem s_Reader_isWord_L20_2002_ {X : am_X} {b : Bool} {J : am_J} {K : am_K}  : ∀ (n : Nat) (x2 : Int) (r : Int), f_Reader_isWord_L20 2002 J  n x2 = some r → am_runs X T_Reader_isWord (20, [(0, am_pv 1), (1, am_pv 2002), (2, am_iv x2)], [], am_SH, (J, K, am_RF b)) (some (am_iv r), am_SH, (J, K, am_RF b)) := by
  intro n
  induction n with
  | zero =>
    intro x2 r h
    cases h
  | succ n ih =>
    intro x2 r h
    rw [f_Reader_isWord_L20.eq_2] at h
    obtain ⟨q159, e160, h⟩ := am_bind_some h
    refine am_r_call (show am_stepn X T_Reader_isWord 3 true (20, [(0, am_pv 1), (1, am_pv 2002), (2, am_iv x2)], [], am_SH, (J, K, am_RF b)) = some (true, .inr (.inl (32, [am_pv 2002], 1, 0, 0, 25, [(0, am_pv 1), (1, am_pv 2002), (2, am_iv x2)], [am_iv x2], am_SH, (J, K, am_RF b)))) from rfl) rfl tb_JString_length (s_JString_length (by decide) e160) ?_
    obtain ⟨g161, h⟩ := am_if_some h
    obtain ⟨g162, h⟩ := am_if_some h
    by_cases c163 : x2 < q159
    · rw [if_pos c163] at h
      refine am_r_f (show am_stepn X T_Reader_isWord 1 true (25, [(0, am_pv 1), (1, am_pv 2002), (2, am_iv x2)], [am_iv q159, am_iv x2], am_SH, (J, K, am_RF b)) = some (((decide (am_i32 q159) && decide (am_i32 x2)) && true), .inl (bif am_cb .ge x2 q159 then 57 else 28, [(0, am_pv 1), (1, am_pv 2002), (2, am_iv x2)], [], am_SH, (J, K, am_RF b))) from rfl) (am_g2 g161 g162 rfl) (am_nd_t c163) ?_
      obtain ⟨q164, e165, h⟩ := am_bind_some h
      refine am_r_call (show am_stepn X T_Reader_isWord 3 true (28, [(0, am_pv 1), (1, am_pv 2002), (2, am_iv x2)], [], am_SH, (J, K, am_RF b)) = some (true, .inr (.inl (34, [am_pv 2002, am_iv x2], 2, 0, 0, 33, [(0, am_pv 1), (1, am_pv 2002), (2, am_iv x2)], [], am_SH, (J, K, am_RF b)))) from rfl) rfl tb_JString_charAt (s_JString_charAt (by decide) e165) ?_
      obtain ⟨q166, e167, h⟩ := am_bind_some h
      refine am_r_call (show am_stepn X T_Reader_isWord 7 true (33, [(0, am_pv 1), (1, am_pv 2002), (2, am_iv x2)], [am_iv q164], am_SH, (J, K, am_RF b)) = some (true, .inr (.inl (22, [am_pv 2, am_iv ((J 1 6) + x2)], 2, 0, 0, 46, [(0, am_pv 1), (1, am_pv 2002), (2, am_iv x2)], [am_iv q164], am_SH, (J, K, am_RF b)))) from rfl) rfl tb_Tape_at (s_Tape_at e167) ?_
      obtain ⟨g168, h⟩ := am_if_some h
      obtain ⟨g169, h⟩ := am_if_some h
      by_cases c170 : q164 = q166
      · rw [if_pos c170] at h
        refine am_r_t (show am_stepn X T_Reader_isWord 1 true (46, [(0, am_pv 1), (1, am_pv 2002), (2, am_iv x2)], [am_iv q166, am_iv q164], am_SH, (J, K, am_RF b)) = some (((decide (am_i32 q166) && decide (am_i32 q164)) && true), .inl (bif am_cb .eq q164 q166 then 51 else 49, [(0, am_pv 1), (1, am_pv 2002), (2, am_iv x2)], [], am_SH, (J, K, am_RF b))) from rfl) (am_g2 g168 g169 rfl) (decide_eq_true c170) ?_
        refine am_r_go (show am_stepn X T_Reader_isWord 2 true (51, [(0, am_pv 1), (1, am_pv 2002), (2, am_iv x2)], [], am_SH, (J, K, am_RF b)) = some (true, .inl (20, [(0, am_pv 1), (1, am_pv 2002), (2, am_iv (x2 + 1))], [], am_SH, (J, K, am_RF b))) from rfl) rfl ?_
        exact ih _ _ h
      · rw [if_neg c170] at h
        refine am_r_f (show am_stepn X T_Reader_isWord 1 true (46, [(0, am_pv 1), (1, am_pv 2002), (2, am_iv x2)], [am_iv q166, am_iv q164], am_SH, (J, K, am_RF b)) = some (((decide (am_i32 q166) && decide (am_i32 q164)) && true), .inl (bif am_cb .eq q164 q166 then 51 else 49, [(0, am_pv 1), (1, am_pv 2002), (2, am_iv x2)], [], am_SH, (J, K, am_RF b))) from rfl) (am_g2 g168 g169 rfl) (decide_eq_false c170) ?_
        obtain rfl := Option.some.inj h
        exact am_r_ret (show am_stepn X T_Reader_isWord 2 true (49, [(0, am_pv 1), (1, am_pv 2002), (2, am_iv x2)], [], am_SH, (J, K, am_RF b)) = some ((decide ((0 : Int) = 0 ∨ (0 : Int) = 1) && true), .inr (.inr (some (am_iv 0), am_SH, (J, K, am_RF b)))) from rfl) (am_g1 (by decide) rfl)
    · rw [if_neg c163] at h
      refine am_r_t (show am_stepn X T_Reader_isWord 1 true (25, [(0, am_pv 1), (1, am_pv 2002), (2, am_iv x2)], [am_iv q159, am_iv x2], am_SH, (J, K, am_RF b)) = some (((decide (am_i32 q159) && decide (am_i32 x2)) && true), .inl (bif am_cb .ge x2 q159 then 57 else 28, [(0, am_pv 1), (1, am_pv 2002), (2, am_iv x2)], [], am_SH, (J, K, am_RF b))) from rfl) (am_g2 g161 g162 rfl) (am_nd_f c163) ?_
      obtain rfl := Option.some.inj h
      exact am_r_ret (show am_stepn X T_Reader_isWord 2 true (57, [(0, am_pv 1), (1, am_pv 2002), (2, am_iv x2)], [], am_SH, (J, K, am_RF b)) = some ((decide ((1 : Int) = 0 ∨ (1 : Int) = 1) && true), .inr (.inr (some (am_iv 1), am_SH, (J, K, am_RF b)))) from rfl) (am_g1 (by decide) rfl)
theorem s_Reader_isWord_2002_ {X : am_X} {b : Bool} {J : am_J} {K : am_K}  {r : Int} (h : f_Reader_isWord 2002 J  = some r) : am_runs X T_Reader_isWord (0, [(0, am_pv 1), (1, am_pv 2002)], [], am_SH, (J, K, am_RF b)) (some (am_iv r), am_SH, (J, K, am_RF b)) := by
  unfold f_Reader_isWord at h
  obtain ⟨q171, e172, h⟩ := am_bind_some h
  refine am_r_call (show am_stepn X T_Reader_isWord 2 true (0, [(0, am_pv 1), (1, am_pv 2002)], [], am_SH, (J, K, am_RF b)) = some (true, .inr (.inl (32, [am_pv 2002], 1, 0, 0, 4, [(0, am_pv 1), (1, am_pv 2002)], [], am_SH, (J, K, am_RF b)))) from rfl) rfl tb_JString_length (s_JString_length (by decide) e172) ?_
  obtain ⟨g173, h⟩ := am_if_some h
  obtain ⟨g174, h⟩ := am_if_some h
  by_cases c175 : q171 = ((J 1 4) - (J 1 6))
  · rw [if_pos c175] at h
    refine am_r_t (show am_stepn X T_Reader_isWord 6 true (4, [(0, am_pv 1), (1, am_pv 2002)], [am_iv q171], am_SH, (J, K, am_RF b)) = some (((decide (am_i32 ((J 1 4) - (J 1 6))) && decide (am_i32 q171)) && true), .inl (bif am_cb .eq q171 ((J 1 4) - (J 1 6)) then 18 else 16, [(0, am_pv 1), (1, am_pv 2002)], [], am_SH, (J, K, am_RF b))) from rfl) (am_g2 g173 g174 rfl) (decide_eq_true c175) ?_
    refine am_r_go (show am_stepn X T_Reader_isWord 2 true (18, [(0, am_pv 1), (1, am_pv 2002)], [], am_SH, (J, K, am_RF b)) = some (true, .inl (20, [(0, am_pv 1), (1, am_pv 2002), (2, am_iv 0)], [], am_SH, (J, K, am_RF b))) from rfl) rfl ?_
    exact s_Reader_isWord_L20_2002_  _ _ _ h
  · rw [if_neg c175] at h
    refine am_r_f (show am_stepn X T_Reader_isWord 6 true (4, [(0, am_pv 1), (1, am_pv 2002)], [am_iv q171], am_SH, (J, K, am_RF b)) = some (((decide (am_i32 ((J 1 4) - (J 1 6))) && decide (am_i32 q171)) && true), .inl (bif am_cb .eq q171 ((J 1 4) - (J 1 6)) then 18 else 16, [(0, am_pv 1), (1, am_pv 2002)], [], am_SH, (J, K, am_RF b))) from rfl) (am_g2 g173 g174 rfl) (decide_eq_false c175) ?_
    obtain rfl := Option.some.inj h
    exact am_r_ret (show am_stepn X T_Reader_isWord 2 true (16, [(0, am_pv 1), (1, am_pv 2002)], [], am_SH, (J, K, am_RF b)) = some ((decide ((0 : Int) = 0 ∨ (0 : Int) = 1) && true), .inr (.inr (some (am_iv 0), am_SH, (J, K, am_RF b)))) from rfl) (am_g1 (by decide) rfl)
theorem s_Reader_isWord_L20_2003_ {X : am_X} {b : Bool} {J : am_J} {K : am_K}  : ∀ (n : Nat) (x2 : Int) (r : Int), f_Reader_isWord_L20 2003 J  n x2 = some r → am_runs X T_Reader_isWord (20, [(0, am_pv 1), (1, am_pv 2003), (2, am_iv x2)], [], am_SH, (J, K, am_RF b)) (some (am_iv r), am_SH, (J, K, am_RF b)) := by
  intro n
  induction n with
  | zero =>
    intro x2 r h
    cases h
  | succ n ih =>
    intro x2 r h
    rw [f_Reader_isWord_L20.eq_2] at h
    obtain ⟨q159, e160, h⟩ := am_bind_some h
    refine am_r_call (show am_stepn X T_Reader_isWord 3 true (20, [(0, am_pv 1), (1, am_pv 2003), (2, am_iv x2)], [], am_SH, (J, K, am_RF b)) = some (true, .inr (.inl (32, [am_pv 2003], 1, 0, 0, 25, [(0, am_pv 1), (1, am_pv 2003), (2, am_iv x2)], [am_iv x2], am_SH, (J, K, am_RF b)))) from rfl) rfl tb_JString_length (s_JString_length (by decide) e160) ?_
    obtain ⟨g161, h⟩ := am_if_some h
    obtain ⟨g162, h⟩ := am_if_some h
    by_cases c163 : x2 < q159
    · rw [if_pos c163] at h
      refine am_r_f (show am_stepn X T_Reader_isWord 1 true (25, [(0, am_pv 1), (1, am_pv 2003), (2, am_iv x2)], [am_iv q159, am_iv x2], am_SH, (J, K, am_RF b)) = some (((decide (am_i32 q159) && decide (am_i32 x2)) && true), .inl (bif am_cb .ge x2 q159 then 57 else 28, [(0, am_pv 1), (1, am_pv 2003), (2, am_iv x2)], [], am_SH, (J, K, am_RF b))) from rfl) (am_g2 g161 g162 rfl) (am_nd_t c163) ?_
      obtain ⟨q164, e165, h⟩ := am_bind_some h
      refine am_r_call (show am_stepn X T_Reader_isWord 3 true (28, [(0, am_pv 1), (1, am_pv 2003), (2, am_iv x2)], [], am_SH, (J, K, am_RF b)) = some (true, .inr (.inl (34, [am_pv 2003, am_iv x2], 2, 0, 0, 33, [(0, am_pv 1), (1, am_pv 2003), (2, am_iv x2)], [], am_SH, (J, K, am_RF b)))) from rfl) rfl tb_JString_charAt (s_JString_charAt (by decide) e165) ?_
      obtain ⟨q166, e167, h⟩ := am_bind_some h
      refine am_r_call (show am_stepn X T_Reader_isWord 7 true (33, [(0, am_pv 1), (1, am_pv 2003), (2, am_iv x2)], [am_iv q164], am_SH, (J, K, am_RF b)) = some (true, .inr (.inl (22, [am_pv 2, am_iv ((J 1 6) + x2)], 2, 0, 0, 46, [(0, am_pv 1), (1, am_pv 2003), (2, am_iv x2)], [am_iv q164], am_SH, (J, K, am_RF b)))) from rfl) rfl tb_Tape_at (s_Tape_at e167) ?_
      obtain ⟨g168, h⟩ := am_if_some h
      obtain ⟨g169, h⟩ := am_if_some h
      by_cases c170 : q164 = q166
      · rw [if_pos c170] at h
        refine am_r_t (show am_stepn X T_Reader_isWord 1 true (46, [(0, am_pv 1), (1, am_pv 2003), (2, am_iv x2)], [am_iv q166, am_iv q164], am_SH, (J, K, am_RF b)) = some (((decide (am_i32 q166) && decide (am_i32 q164)) && true), .inl (bif am_cb .eq q164 q166 then 51 else 49, [(0, am_pv 1), (1, am_pv 2003), (2, am_iv x2)], [], am_SH, (J, K, am_RF b))) from rfl) (am_g2 g168 g169 rfl) (decide_eq_true c170) ?_
        refine am_r_go (show am_stepn X T_Reader_isWord 2 true (51, [(0, am_pv 1), (1, am_pv 2003), (2, am_iv x2)], [], am_SH, (J, K, am_RF b)) = some (true, .inl (20, [(0, am_pv 1), (1, am_pv 2003), (2, am_iv (x2 + 1))], [], am_SH, (J, K, am_RF b))) from rfl) rfl ?_
        exact ih _ _ h
      · rw [if_neg c170] at h
        refine am_r_f (show am_stepn X T_Reader_isWord 1 true (46, [(0, am_pv 1), (1, am_pv 2003), (2, am_iv x2)], [am_iv q166, am_iv q164], am_SH, (J, K, am_RF b)) = some (((decide (am_i32 q166) && decide (am_i32 q164)) && true), .inl (bif am_cb .eq q164 q166 then 51 else 49, [(0, am_pv 1), (1, am_pv 2003), (2, am_iv x2)], [], am_SH, (J, K, am_RF b))) from rfl) (am_g2 g168 g169 rfl) (decide_eq_false c170) ?_
        obtain rfl := Option.some.inj h
        exact am_r_ret (show am_stepn X T_Reader_isWord 2 true (49, [(0, am_pv 1), (1, am_pv 2003), (2, am_iv x2)], [], am_SH, (J, K, am_RF b)) = some ((decide ((0 : Int) = 0 ∨ (0 : Int) = 1) && true), .inr (.inr (some (am_iv 0), am_SH, (J, K, am_RF b)))) from rfl) (am_g1 (by decide) rfl)
    · rw [if_neg c163] at h
      refine am_r_t (show am_stepn X T_Reader_isWord 1 true (25, [(0, am_pv 1), (1, am_pv 2003), (2, am_iv x2)], [am_iv q159, am_iv x2], am_SH, (J, K, am_RF b)) = some (((decide (am_i32 q159) && decide (am_i32 x2)) && true), .inl (bif am_cb .ge x2 q159 then 57 else 28, [(0, am_pv 1), (1, am_pv 2003), (2, am_iv x2)], [], am_SH, (J, K, am_RF b))) from rfl) (am_g2 g161 g162 rfl) (am_nd_f c163) ?_
      obtain rfl := Option.some.inj h
      exact am_r_ret (show am_stepn X T_Reader_isWord 2 true (57, [(0, am_pv 1), (1, am_pv 2003), (2, am_iv x2)], [], am_SH, (J, K, am_RF b)) = some ((decide ((1 : Int) = 0 ∨ (1 : Int) = 1) && true), .inr (.inr (some (am_iv 1), am_SH, (J, K, am_RF b)))) from rfl) (am_g1 (by decide) rfl)
theorem s_Reader_isWord_2003_ {X : am_X} {b : Bool} {J : am_J} {K : am_K}  {r : Int} (h : f_Reader_isWord 2003 J  = some r) : am_runs X T_Reader_isWord (0, [(0, am_pv 1), (1, am_pv 2003)], [], am_SH, (J, K, am_RF b)) (some (am_iv r), am_SH, (J, K, am_RF b)) := by
  unfold f_Reader_isWord at h
  obtain ⟨q171, e172, h⟩ := am_bind_some h
  refine am_r_call (show am_stepn X T_Reader_isWord 2 true (0, [(0, am_pv 1), (1, am_pv 2003)], [], am_SH, (J, K, am_RF b)) = some (true, .inr (.inl (32, [am_pv 2003], 1, 0, 0, 4, [(0, am_pv 1), (1, am_pv 2003)], [], am_SH, (J, K, am_RF b)))) from rfl) rfl tb_JString_length (s_JString_length (by decide) e172) ?_
  obtain ⟨g173, h⟩ := am_if_some h
  obtain ⟨g174, h⟩ := am_if_some h
  by_cases c175 : q171 = ((J 1 4) - (J 1 6))
  · rw [if_pos c175] at h
    refine am_r_t (show am_stepn X T_Reader_isWord 6 true (4, [(0, am_pv 1), (1, am_pv 2003)], [am_iv q171], am_SH, (J, K, am_RF b)) = some (((decide (am_i32 ((J 1 4) - (J 1 6))) && decide (am_i32 q171)) && true), .inl (bif am_cb .eq q171 ((J 1 4) - (J 1 6)) then 18 else 16, [(0, am_pv 1), (1, am_pv 2003)], [], am_SH, (J, K, am_RF b))) from rfl) (am_g2 g173 g174 rfl) (decide_eq_true c175) ?_
    refine am_r_go (show am_stepn X T_Reader_isWord 2 true (18, [(0, am_pv 1), (1, am_pv 2003)], [], am_SH, (J, K, am_RF b)) = some (true, .inl (20, [(0, am_pv 1), (1, am_pv 2003), (2, am_iv 0)], [], am_SH, (J, K, am_RF b))) from rfl) rfl ?_
    exact s_Reader_isWord_L20_2003_  _ _ _ h
  · rw [if_neg c175] at h
    refine am_r_f (show am_stepn X T_Reader_isWord 6 true (4, [(0, am_pv 1), (1, am_pv 2003)], [am_iv q171], am_SH, (J, K, am_RF b)) = some (((decide (am_i32 ((J 1 4) - (J 1 6))) && decide (am_i32 q171)) && true), .inl (bif am_cb .eq q171 ((J 1 4) - (J 1 6)) then 18 else 16, [(0, am_pv 1), (1, am_pv 2003)], [], am_SH, (J, K, am_RF b))) from rfl) (am_g2 g173 g174 rfl) (decide_eq_false c175) ?_
    obtain rfl := Option.some.inj h
    exact am_r_ret (show am_stepn X T_Reader_isWord 2 true (16, [(0, am_pv 1), (1, am_pv 2003)], [], am_SH, (J, K, am_RF b)) = some ((decide ((0 : Int) = 0 ∨ (0 : Int) = 1) && true), .inr (.inr (some (am_iv 0), am_SH, (J, K, am_RF b)))) from rfl) (am_g1 (by decide) rfl)
theorem s_Reader_isWord_L20_2004_ {X : am_X} {b : Bool} {J : am_J} {K : am_K}  : ∀ (n : Nat) (x2 : Int) (r : Int), f_Reader_isWord_L20 2004 J  n x2 = some r → am_runs X T_Reader_isWord (20, [(0, am_pv 1), (1, am_pv 2004), (2, am_iv x2)], [], am_SH, (J, K, am_RF b)) (some (am_iv r), am_SH, (J, K, am_RF b)) := by
  intro n
  induction n with
  | zero =>
    intro x2 r h
    cases h
  | succ n ih =>
    intro x2 r h
    rw [f_Reader_isWord_L20.eq_2] at h
    obtain ⟨q159, e160, h⟩ := am_bind_some h
    refine am_r_call (show am_stepn X T_Reader_isWord 3 true (20, [(0, am_pv 1), (1, am_pv 2004), (2, am_iv x2)], [], am_SH, (J, K, am_RF b)) = some (true, .inr (.inl (32, [am_pv 2004], 1, 0, 0, 25, [(0, am_pv 1), (1, am_pv 2004), (2, am_iv x2)], [am_iv x2], am_SH, (J, K, am_RF b)))) from rfl) rfl tb_JString_length (s_JString_length (by decide) e160) ?_
    obtain ⟨g161, h⟩ := am_if_some h
    obtain ⟨g162, h⟩ := am_if_some h
    by_cases c163 : x2 < q159
    · rw [if_pos c163] at h
      refine am_r_f (show am_stepn X T_Reader_isWord 1 true (25, [(0, am_pv 1), (1, am_pv 2004), (2, am_iv x2)], [am_iv q159, am_iv x2], am_SH, (J, K, am_RF b)) = some (((decide (am_i32 q159) && decide (am_i32 x2)) && true), .inl (bif am_cb .ge x2 q159 then 57 else 28, [(0, am_pv 1), (1, am_pv 2004), (2, am_iv x2)], [], am_SH, (J, K, am_RF b))) from rfl) (am_g2 g161 g162 rfl) (am_nd_t c163) ?_
      obtain ⟨q164, e165, h⟩ := am_bind_some h
      refine am_r_call (show am_stepn X T_Reader_isWord 3 true (28, [(0, am_pv 1), (1, am_pv 2004), (2, am_iv x2)], [], am_SH, (J, K, am_RF b)) = some (true, .inr (.inl (34, [am_pv 2004, am_iv x2], 2, 0, 0, 33, [(0, am_pv 1), (1, am_pv 2004), (2, am_iv x2)], [], am_SH, (J, K, am_RF b)))) from rfl) rfl tb_JString_charAt (s_JString_charAt (by decide) e165) ?_
      obtain ⟨q166, e167, h⟩ := am_bind_some h
      refine am_r_call (show am_stepn X T_Reader_isWord 7 true (33, [(0, am_pv 1), (1, am_pv 2004), (2, am_iv x2)], [am_iv q164], am_SH, (J, K, am_RF b)) = some (true, .inr (.inl (22, [am_pv 2, am_iv ((J 1 6) + x2)], 2, 0, 0, 46, [(0, am_pv 1), (1, am_pv 2004), (2, am_iv x2)], [am_iv q164], am_SH, (J, K, am_RF b)))) from rfl) rfl tb_Tape_at (s_Tape_at e167) ?_
      obtain ⟨g168, h⟩ := am_if_some h
      obtain ⟨g169, h⟩ := am_if_some h
      by_cases c170 : q164 = q166
      · rw [if_pos c170] at h
        refine am_r_t (show am_stepn X T_Reader_isWord 1 true (46, [(0, am_pv 1), (1, am_pv 2004), (2, am_iv x2)], [am_iv q166, am_iv q164], am_SH, (J, K, am_RF b)) = some (((decide (am_i32 q166) && decide (am_i32 q164)) && true), .inl (bif am_cb .eq q164 q166 then 51 else 49, [(0, am_pv 1), (1, am_pv 2004), (2, am_iv x2)], [], am_SH, (J, K, am_RF b))) from rfl) (am_g2 g168 g169 rfl) (decide_eq_true c170) ?_
        refine am_r_go (show am_stepn X T_Reader_isWord 2 true (51, [(0, am_pv 1), (1, am_pv 2004), (2, am_iv x2)], [], am_SH, (J, K, am_RF b)) = some (true, .inl (20, [(0, am_pv 1), (1, am_pv 2004), (2, am_iv (x2 + 1))], [], am_SH, (J, K, am_RF b))) from rfl) rfl ?_
        exact ih _ _ h
      · rw [if_neg c170] at h
        refine am_r_f (show am_stepn X T_Reader_isWord 1 true (46, [(0, am_pv 1), (1, am_pv 2004), (2, am_iv x2)], [am_iv q166, am_iv q164], am_SH, (J, K, am_RF b)) = some (((decide (am_i32 q166) && decide (am_i32 q164)) && true), .inl (bif am_cb .eq q164 q166 then 51 else 49, [(0, am_pv 1), (1, am_pv 2004), (2, am_iv x2)], [], am_SH, (J, K, am_RF b))) from rfl) (am_g2 g168 g169 rfl) (decide_eq_false c170) ?_
        obtain rfl := Option.some.inj h
        exact am_r_ret (show am_stepn X T_Reader_isWord 2 true (49, [(0, am_pv 1), (1, am_pv 2004), (2, am_iv x2)], [], am_SH, (J, K, am_RF b)) = some ((decide ((0 : Int) = 0 ∨ (0 : Int) = 1) && true), .inr (.inr (some (am_iv 0), am_SH, (J, K, am_RF b)))) from rfl) (am_g1 (by decide) rfl)
    · rw [if_neg c163] at h
      refine am_r_t (show am_stepn X T_Reader_isWord 1 true (25, [(0, am_pv 1), (1, am_pv 2004), (2, am_iv x2)], [am_iv q159, am_iv x2], am_SH, (J, K, am_RF b)) = some (((decide (am_i32 q159) && decide (am_i32 x2)) && true), .inl (bif am_cb .ge x2 q159 then 57 else 28, [(0, am_pv 1), (1, am_pv 2004), (2, am_iv x2)], [], am_SH, (J, K, am_RF b))) from rfl) (am_g2 g161 g162 rfl) (am_nd_f c163) ?_
      obtain rfl := Option.some.inj h
      exact am_r_ret (show am_stepn X T_Reader_isWord 2 true (57, [(0, am_pv 1), (1, am_pv 2004), (2, am_iv x2)], [], am_SH, (J, K, am_RF b)) = some ((decide ((1 : Int) = 0 ∨ (1 : Int) = 1) && true), .inr (.inr (some (am_iv 1), am_SH, (J, K, am_RF b)))) from rfl) (am_g1 (by decide) rfl)
theorem s_Reader_isWord_2004_ {X : am_X} {b : Bool} {J : am_J} {K : am_K}  {r : Int} (h : f_Reader_isWord 2004 J  = some r) : am_runs X T_Reader_isWord (0, [(0, am_pv 1), (1, am_pv 2004)], [], am_SH, (J, K, am_RF b)) (some (am_iv r), am_SH, (J, K, am_RF b)) := by
  unfold f_Reader_isWord at h
  obtain ⟨q171, e172, h⟩ := am_bind_some h
  refine am_r_call (show am_stepn X T_Reader_isWord 2 true (0, [(0, am_pv 1), (1, am_pv 2004)], [], am_SH, (J, K, am_RF b)) = some (true, .inr (.inl (32, [am_pv 2004], 1, 0, 0, 4, [(0, am_pv 1), (1, am_pv 2004)], [], am_SH, (J, K, am_RF b)))) from rfl) rfl tb_JString_length (s_JString_length (by decide) e172) ?_
  obtain ⟨g173, h⟩ := am_if_some h
  obtain ⟨g174, h⟩ := am_if_some h
  by_cases c175 : q171 = ((J 1 4) - (J 1 6))
  · rw [if_pos c175] at h
    refine am_r_t (show am_stepn X T_Reader_isWord 6 true (4, [(0, am_pv 1), (1, am_pv 2004)], [am_iv q171], am_SH, (J, K, am_RF b)) = some (((decide (am_i32 ((J 1 4) - (J 1 6))) && decide (am_i32 q171)) && true), .inl (bif am_cb .eq q171 ((J 1 4) - (J 1 6)) then 18 else 16, [(0, am_pv 1), (1, am_pv 2004)], [], am_SH, (J, K, am_RF b))) from rfl) (am_g2 g173 g174 rfl) (decide_eq_true c175) ?_
    refine am_r_go (show am_stepn X T_Reader_isWord 2 true (18, [(0, am_pv 1), (1, am_pv 2004)], [], am_SH, (J, K, am_RF b)) = some (true, .inl (20, [(0, am_pv 1), (1, am_pv 2004), (2, am_iv 0)], [], am_SH, (J, K, am_RF b))) from rfl) rfl ?_
    exact s_Reader_isWord_L20_2004_  _ _ _ h
  · rw [if_neg c175] at h
    refine am_r_f (show am_stepn X T_Reader_isWord 6 true (4, [(0, am_pv 1), (1, am_pv 2004)], [am_iv q171], am_SH, (J, K, am_RF b)) = some (((decide (am_i32 ((J 1 4) - (J 1 6))) && decide (am_i32 q171)) && true), .inl (bif am_cb .eq q171 ((J 1 4) - (J 1 6)) then 18 else 16, [(0, am_pv 1), (1, am_pv 2004)], [], am_SH, (J, K, am_RF b))) from rfl) (am_g2 g173 g174 rfl) (decide_eq_false c175) ?_
    obtain rfl := Option.some.inj h
    exact am_r_ret (show am_stepn X T_Reader_isWord 2 true (16, [(0, am_pv 1), (1, am_pv 2004)], [], am_SH, (J, K, am_RF b)) = some ((decide ((0 : Int) = 0 ∨ (0 : Int) = 1) && true), .inr (.inr (some (am_iv 0), am_SH, (J, K, am_RF b)))) from rfl) (am_g1 (by decide) rfl)
theorem s_Reader_isWord_L20_2005_ {X : am_X} {b : Bool} {J : am_J} {K : am_K}  : ∀ (n : Nat) (x2 : Int) (r : Int), f_Reader_isWord_L20 2005 J  n x2 = some r → am_runs X T_Reader_isWord (20, [(0, am_pv 1), (1, am_pv 2005), (2, am_iv x2)], [], am_SH, (J, K, am_RF b)) (some (am_iv r), am_SH, (J, K, am_RF b)) := by
  intro n
  induction n with
  | zero =>
    intro x2 r h
    cases h
  | succ n ih =>
    intro x2 r h
    rw [f_Reader_isWord_L20.eq_2] at h
    obtain ⟨q159, e160, h⟩ := am_bind_some h
    refine am_r_call (show am_stepn X T_Reader_isWord 3 true (20, [(0, am_pv 1), (1, am_pv 2005), (2, am_iv x2)], [], am_SH, (J, K, am_RF b)) = some (true, .inr (.inl (32, [am_pv 2005], 1, 0, 0, 25, [(0, am_pv 1), (1, am_pv 2005), (2, am_iv x2)], [am_iv x2], am_SH, (J, K, am_RF b)))) from rfl) rfl tb_JString_length (s_JString_length (by decide) e160) ?_
    obtain ⟨g161, h⟩ := am_if_some h
    obtain ⟨g162, h⟩ := am_if_some h
    by_cases c163 : x2 < q159
    · rw [if_pos c163] at h
      refine am_r_f (show am_stepn X T_Reader_isWord 1 true (25, [(0, am_pv 1), (1, am_pv 2005), (2, am_iv x2)], [am_iv q159, am_iv x2], am_SH, (J, K, am_RF b)) = some (((decide (am_i32 q159) && decide (am_i32 x2)) && true), .inl (bif am_cb .ge x2 q159 then 57 else 28, [(0, am_pv 1), (1, am_pv 2005), (2, am_iv x2)], [], am_SH, (J, K, am_RF b))) from rfl) (am_g2 g161 g162 rfl) (am_nd_t c163) ?_
      obtain ⟨q164, e165, h⟩ := am_bind_some h
      refine am_r_call (show am_stepn X T_Reader_isWord 3 true (28, [(0, am_pv 1), (1, am_pv 2005), (2, am_iv x2)], [], am_SH, (J, K, am_RF b)) = some (true, .inr (.inl (34, [am_pv 2005, am_iv x2], 2, 0, 0, 33, [(0, am_pv 1), (1, am_pv 2005), (2, am_iv x2)], [], am_SH, (J, K, am_RF b)))) from rfl) rfl tb_JString_charAt (s_JString_charAt (by decide) e165) ?_
      obtain ⟨q166, e167, h⟩ := am_bind_some h
      refine am_r_call (show am_stepn X T_Reader_isWord 7 true (33, [(0, am_pv 1), (1, am_pv 2005), (2, am_iv x2)], [am_iv q164], am_SH, (J, K, am_RF b)) = some (true, .inr (.inl (22, [am_pv 2, am_iv ((J 1 6) + x2)], 2, 0, 0, 46, [(0, am_pv 1), (1, am_pv 2005), (2, am_iv x2)], [am_iv q164], am_SH, (J, K, am_RF b)))) from rfl) rfl tb_Tape_at (s_Tape_at e167) ?_
      obtain ⟨g168, h⟩ := am_if_some h
      obtain ⟨g169, h⟩ := am_if_some h
      by_cases c170 : q164 = q166
      · rw [if_pos c170] at h
        refine am_r_t (show am_stepn X T_Reader_isWord 1 true (46, [(0, am_pv 1), (1, am_pv 2005), (2, am_iv x2)], [am_iv q166, am_iv q164], am_SH, (J, K, am_RF b)) = some (((decide (am_i32 q166) && decide (am_i32 q164)) && true), .inl (bif am_cb .eq q164 q166 then 51 else 49, [(0, am_pv 1), (1, am_pv 2005), (2, am_iv x2)], [], am_SH, (J, K, am_RF b))) from rfl) (am_g2 g168 g169 rfl) (decide_eq_true c170) ?_
        refine am_r_go (show am_stepn X T_Reader_isWord 2 true (51, [(0, am_pv 1), (1, am_pv 2005), (2, am_iv x2)], [], am_SH, (J, K, am_RF b)) = some (true, .inl (20, [(0, am_pv 1), (1, am_pv 2005), (2, am_iv (x2 + 1))], [], am_SH, (J, K, am_RF b))) from rfl) rfl ?_
        exact ih _ _ h
      · rw [if_neg c170] at h
        refine am_r_f (show am_stepn X T_Reader_isWord 1 true (46, [(0, am_pv 1), (1, am_pv 2005), (2, am_iv x2)], [am_iv q166, am_iv q164], am_SH, (J, K, am_RF b)) = some (((decide (am_i32 q166) && decide (am_i32 q164)) && true), .inl (bif am_cb .eq q164 q166 then 51 else 49, [(0, am_pv 1), (1, am_pv 2005), (2, am_iv x2)], [], am_SH, (J, K, am_RF b))) from rfl) (am_g2 g168 g169 rfl) (decide_eq_false c170) ?_
        obtain rfl := Option.some.inj h
        exact am_r_ret (show am_stepn X T_Reader_isWord 2 true (49, [(0, am_pv 1), (1, am_pv 2005), (2, am_iv x2)], [], am_SH, (J, K, am_RF b)) = some ((decide ((0 : Int) = 0 ∨ (0 : Int) = 1) && true), .inr (.inr (some (am_iv 0), am_SH, (J, K, am_RF b)))) from rfl) (am_g1 (by decide) rfl)
    · rw [if_neg c163] at h
      refine am_r_t (show am_stepn X T_Reader_isWord 1 true (25, [(0, am_pv 1), (1, am_pv 2005), (2, am_iv x2)], [am_iv q159, am_iv x2], am_SH, (J, K, am_RF b)) = some (((decide (am_i32 q159) && decide (am_i32 x2)) && true), .inl (bif am_cb .ge x2 q159 then 57 else 28, [(0, am_pv 1), (1, am_pv 2005), (2, am_iv x2)], [], am_SH, (J, K, am_RF b))) from rfl) (am_g2 g161 g162 rfl) (am_nd_f c163) ?_
      obtain rfl := Option.some.inj h
      exact am_r_ret (show am_stepn X T_Reader_isWord 2 true (57, [(0, am_pv 1), (1, am_pv 2005), (2, am_iv x2)], [], am_SH, (J, K, am_RF b)) = some ((decide ((1 : Int) = 0 ∨ (1 : Int) = 1) && true), .inr (.inr (some (am_iv 1), am_SH, (J, K, am_RF b)))) from rfl) (am_g1 (by decide) rfl)
theorem s_Reader_isWord_2005_ {X : am_X} {b : Bool} {J : am_J} {K : am_K}  {r : Int} (h : f_Reader_isWord 2005 J  = some r) : am_runs X T_Reader_isWord (0, [(0, am_pv 1), (1, am_pv 2005)], [], am_SH, (J, K, am_RF b)) (some (am_iv r), am_SH, (J, K, am_RF b)) := by
  unfold f_Reader_isWord at h
  obtain ⟨q171, e172, h⟩ := am_bind_some h
  refine am_r_call (show am_stepn X T_Reader_isWord 2 true (0, [(0, am_pv 1), (1, am_pv 2005)], [], am_SH, (J, K, am_RF b)) = some (true, .inr (.inl (32, [am_pv 2005], 1, 0, 0, 4, [(0, am_pv 1), (1, am_pv 2005)], [], am_SH, (J, K, am_RF b)))) from rfl) rfl tb_JString_length (s_JString_length (by decide) e172) ?_
  obtain ⟨g173, h⟩ := am_if_some h
  obtain ⟨g174, h⟩ := am_if_some h
  by_cases c175 : q171 = ((J 1 4) - (J 1 6))
  · rw [if_pos c175] at h
    refine am_r_t (show am_stepn X T_Reader_isWord 6 true (4, [(0, am_pv 1), (1, am_pv 2005)], [am_iv q171], am_SH, (J, K, am_RF b)) = some (((decide (am_i32 ((J 1 4) - (J 1 6))) && decide (am_i32 q171)) && true), .inl (bif am_cb .eq q171 ((J 1 4) - (J 1 6)) then 18 else 16, [(0, am_pv 1), (1, am_pv 2005)], [], am_SH, (J, K, am_RF b))) from rfl) (am_g2 g173 g174 rfl) (decide_eq_true c175) ?_
    refine am_r_go (show am_stepn X T_Reader_isWord 2 true (18, [(0, am_pv 1), (1, am_pv 2005)], [], am_SH, (J, K, am_RF b)) = some (true, .inl (20, [(0, am_pv 1), (1, am_pv 2005), (2, am_iv 0)], [], am_SH, (J, K, am_RF b))) from rfl) rfl ?_
    exact s_Reader_isWord_L20_2005_  _ _ _ h
  · rw [if_neg c175] at h
    refine am_r_f (show am_stepn X T_Reader_isWord 6 true (4, [(0, am_pv 1), (1, am_pv 2005)], [am_iv q171], am_SH, (J, K, am_RF b)) = some (((decide (am_i32 ((J 1 4) - (J 1 6))) && decide (am_i32 q171)) && true), .inl (bif am_cb .eq q171 ((J 1 4) - (J 1 6)) then 18 else 16, [(0, am_pv 1), (1, am_pv 2005)], [], am_SH, (J, K, am_RF b))) from rfl) (am_g2 g173 g174 rfl) (decide_eq_false c175) ?_
    obtain rfl := Option.some.inj h
    exact am_r_ret (show am_stepn X T_Reader_isWord 2 true (16, [(0, am_pv 1), (1, am_pv 2005)], [], am_SH, (J, K, am_RF b)) = some ((decide ((0 : Int) = 0 ∨ (0 : Int) = 1) && true), .inr (.inr (some (am_iv 0), am_SH, (J, K, am_RF b)))) from rfl) (am_g1 (by decide) rfl)
theorem s_Reader_isWord_L20_2006_ {X : am_X} {b : Bool} {J : am_J} {K : am_K}  : ∀ (n : Nat) (x2 : Int) (r : Int), f_Reader_isWord_L20 2006 J  n x2 = some r → am_runs X T_Reader_isWord (20, [(0, am_pv 1), (1, am_pv 2006), (2, am_iv x2)], [], am_SH, (J, K, am_RF b)) (some (am_iv r), am_SH, (J, K, am_RF b)) := by
  intro n
  induction n with
  | zero =>
    intro x2 r h
    cases h
  | succ n ih =>
    intro x2 r h
    rw [f_Reader_isWord_L20.eq_2] at h
    obtain ⟨q159, e160, h⟩ := am_bind_some h
    refine am_r_call (show am_stepn X T_Reader_isWord 3 true (20, [(0, am_pv 1), (1, am_pv 2006), (2, am_iv x2)], [], am_SH, (J, K, am_RF b)) = some (true, .inr (.inl (32, [am_pv 2006], 1, 0, 0, 25, [(0, am_pv 1), (1, am_pv 2006), (2, am_iv x2)], [am_iv x2], am_SH, (J, K, am_RF b)))) from rfl) rfl tb_JString_length (s_JString_length (by decide) e160) ?_
    obtain ⟨g161, h⟩ := am_if_some h
    obtain ⟨g162, h⟩ := am_if_some h
    by_cases c163 : x2 < q159
    · rw [if_pos c163] at h
      refine am_r_f (show am_stepn X T_Reader_isWord 1 true (25, [(0, am_pv 1), (1, am_pv 2006), (2, am_iv x2)], [am_iv q159, am_iv x2], am_SH, (J, K, am_RF b)) = some (((decide (am_i32 q159) && decide (am_i32 x2)) && true), .inl (bif am_cb .ge x2 q159 then 57 else 28, [(0, am_pv 1), (1, am_pv 2006), (2, am_iv x2)], [], am_SH, (J, K, am_RF b))) from rfl) (am_g2 g161 g162 rfl) (am_nd_t c163) ?_
      obtain ⟨q164, e165, h⟩ := am_bind_some h
      refine am_r_call (show am_stepn X T_Reader_isWord 3 true (28, [(0, am_pv 1), (1, am_pv 2006), (2, am_iv x2)], [], am_SH, (J, K, am_RF b)) = some (true, .inr (.inl (34, [am_pv 2006, am_iv x2], 2, 0, 0, 33, [(0, am_pv 1), (1, am_pv 2006), (2, am_iv x2)], [], am_SH, (J, K, am_RF b)))) from rfl) rfl tb_JString_charAt (s_JString_charAt (by decide) e165) ?_
      obtain ⟨q166, e167, h⟩ := am_bind_some h
      refine am_r_call (show am_stepn X T_Reader_isWord 7 true (33, [(0, am_pv 1), (1, am_pv 2006), (2, am_iv x2)], [am_iv q164], am_SH, (J, K, am_RF b)) = some (true, .inr (.inl (22, [am_pv 2, am_iv ((J 1 6) + x2)], 2, 0, 0, 46, [(0, am_pv 1), (1, am_pv 2006), (2, am_iv x2)], [am_iv q164], am_SH, (J, K, am_RF b)))) from rfl) rfl tb_Tape_at (s_Tape_at e167) ?_
      obtain ⟨g168, h⟩ := am_if_some h
      obtain ⟨g169, h⟩ := am_if_some h
      by_cases c170 : q164 = q166
      · rw [if_pos c170] at h
        refine am_r_t (show am_stepn X T_Reader_isWord 1 true (46, [(0, am_pv 1), (1, am_pv 2006), (2, am_iv x2)], [am_iv q166, am_iv q164], am_SH, (J, K, am_RF b)) = some (((decide (am_i32 q166) && decide (am_i32 q164)) && true), .inl (bif am_cb .eq q164 q166 then 51 else 49, [(0, am_pv 1), (1, am_pv 2006), (2, am_iv x2)], [], am_SH, (J, K, am_RF b))) from rfl) (am_g2 g168 g169 rfl) (decide_eq_true c170) ?_
        refine am_r_go (show am_stepn X T_Reader_isWord 2 true (51, [(0, am_pv 1), (1, am_pv 2006), (2, am_iv x2)], [], am_SH, (J, K, am_RF b)) = some (true, .inl (20, [(0, am_pv 1), (1, am_pv 2006), (2, am_iv (x2 + 1))], [], am_SH, (J, K, am_RF b))) from rfl) rfl ?_
        exact ih _ _ h
      · rw [if_neg c170] at h
        refine am_r_f (show am_stepn X T_Reader_isWord 1 true (46, [(0, am_pv 1), (1, am_pv 2006), (2, am_iv x2)], [am_iv q166, am_iv q164], am_SH, (J, K, am_RF b)) = some (((decide (am_i32 q166) && decide (am_i32 q164)) && true), .inl (bif am_cb .eq q164 q166 then 51 else 49, [(0, am_pv 1), (1, am_pv 2006), (2, am_iv x2)], [], am_SH, (J, K, am_RF b))) from rfl) (am_g2 g168 g169 rfl) (decide_eq_false c170) ?_
        obtain rfl := Option.some.inj h
        exact am_r_ret (show am_stepn X T_Reader_isWord 2 true (49, [(0, am_pv 1), (1, am_pv 2006), (2, am_iv x2)], [], am_SH, (J, K, am_RF b)) = some ((decide ((0 : Int) = 0 ∨ (0 : Int) = 1) && true), .inr (.inr (some (am_iv 0), am_SH, (J, K, am_RF b)))) from rfl) (am_g1 (by decide) rfl)
    · rw [if_neg c163] at h
      refine am_r_t (show am_stepn X T_Reader_isWord 1 true (25, [(0, am_pv 1), (1, am_pv 2006), (2, am_iv x2)], [am_iv q159, am_iv x2], am_SH, (J, K, am_RF b)) = some (((decide (am_i32 q159) && decide (am_i32 x2)) && true), .inl (bif am_cb .ge x2 q159 then 57 else 28, [(0, am_pv 1), (1, am_pv 2006), (2, am_iv x2)], [], am_SH, (J, K, am_RF b))) from rfl) (am_g2 g161 g162 rfl) (am_nd_f c163) ?_
      obtain rfl := Option.some.inj h
      exact am_r_ret (show am_stepn X T_Reader_isWord 2 true (57, [(0, am_pv 1), (1, am_pv 2006), (2, am_iv x2)], [], am_SH, (J, K, am_RF b)) = some ((decide ((1 : Int) = 0 ∨ (1 : Int) = 1) && true), .inr (.inr (some (am_iv 1), am_SH, (J, K, am_RF b)))) from rfl) (am_g1 (by decide) rfl)
theorem s_Reader_isWord_2006_ {X : am_X} {b : Bool} {J : am_J} {K : am_K}  {r : Int} (h : f_Reader_isWord 2006 J  = some r) : am_runs X T_Reader_isWord (0, [(0, am_pv 1), (1, am_pv 2006)], [], am_SH, (J, K, am_RF b)) (some (am_iv r), am_SH, (J, K, am_RF b)) := by
  unfold f_Reader_isWord at h
  obtain ⟨q171, e172, h⟩ := am_bind_some h
  refine am_r_call (show am_stepn X T_Reader_isWord 2 true (0, [(0, am_pv 1), (1, am_pv 2006)], [], am_SH, (J, K, am_RF b)) = some (true, .inr (.inl (32, [am_pv 2006], 1, 0, 0, 4, [(0, am_pv 1), (1, am_pv 2006)], [], am_SH, (J, K, am_RF b)))) from rfl) rfl tb_JString_length (s_JString_length (by decide) e172) ?_
  obtain ⟨g173, h⟩ := am_if_some h
  obtain ⟨g174, h⟩ := am_if_some h
  by_cases c175 : q171 = ((J 1 4) - (J 1 6))
  · rw [if_pos c175] at h
    refine am_r_t (show am_stepn X T_Reader_isWord 6 true (4, [(0, am_pv 1), (1, am_pv 2006)], [am_iv q171], am_SH, (J, K, am_RF b)) = some (((decide (am_i32 ((J 1 4) - (J 1 6))) && decide (am_i32 q171)) && true), .inl (bif am_cb .eq q171 ((J 1 4) - (J 1 6)) then 18 else 16, [(0, am_pv 1), (1, am_pv 2006)], [], am_SH, (J, K, am_RF b))) from rfl) (am_g2 g173 g174 rfl) (decide_eq_true c175) ?_
    refine am_r_go (show am_stepn X T_Reader_isWord 2 true (18, [(0, am_pv 1), (1, am_pv 2006)], [], am_SH, (J, K, am_RF b)) = some (true, .inl (20, [(0, am_pv 1), (1, am_pv 2006), (2, am_iv 0)], [], am_SH, (J, K, am_RF b))) from rfl) rfl ?_
    exact s_Reader_isWord_L20_2006_  _ _ _ h
  · rw [if_neg c175] at h
    refine am_r_f (show am_stepn X T_Reader_isWord 6 true (4, [(0, am_pv 1), (1, am_pv 2006)], [am_iv q171], am_SH, (J, K, am_RF b)) = some (((decide (am_i32 ((J 1 4) - (J 1 6))) && decide (am_i32 q171)) && true), .inl (bif am_cb .eq q171 ((J 1 4) - (J 1 6)) then 18 else 16, [(0, am_pv 1), (1, am_pv 2006)], [], am_SH, (J, K, am_RF b))) from rfl) (am_g2 g173 g174 rfl) (decide_eq_false c175) ?_
    obtain rfl := Option.some.inj h
    exact am_r_ret (show am_stepn X T_Reader_isWord 2 true (16, [(0, am_pv 1), (1, am_pv 2006)], [], am_SH, (J, K, am_RF b)) = some ((decide ((0 : Int) = 0 ∨ (0 : Int) = 1) && true), .inr (.inr (some (am_iv 0), am_SH, (J, K, am_RF b)))) from rfl) (am_g1 (by decide) rfl)
theorem s_Reader_isWord_L20_2007_ {X : am_X} {b : Bool} {J : am_J} {K : am_K}  : ∀ (n : Nat) (x2 : Int) (r : Int), f_Reader_isWord_L20 2007 J  n x2 = some r → am_runs X T_Reader_isWord (20, [(0, am_pv 1), (1, am_pv 2007), (2, am_iv x2)], [], am_SH, (J, K, am_RF b)) (some (am_iv r), am_SH, (J, K, am_RF b)) := by
  intro n
  induction n with
  | zero =>
    intro x2 r h
    cases h
  | succ n ih =>
    intro x2 r h
    rw [f_Reader_isWord_L20.eq_2] at h
    obtain ⟨q159, e160, h⟩ := am_bind_some h
    refine am_r_call (show am_stepn X T_Reader_isWord 3 true (20, [(0, am_pv 1), (1, am_pv 2007), (2, am_iv x2)], [], am_SH, (J, K, am_RF b)) = some (true, .inr (.inl (32, [am_pv 2007], 1, 0, 0, 25, [(0, am_pv 1), (1, am_pv 2007), (2, am_iv x2)], [am_iv x2], am_SH, (J, K, am_RF b)))) from rfl) rfl tb_JString_length (s_JString_length (by decide) e160) ?_
    obtain ⟨g161, h⟩ := am_if_some h
    obtain ⟨g162, h⟩ := am_if_some h
    by_cases c163 : x2 < q159
    · rw [if_pos c163] at h
      refine am_r_f (show am_stepn X T_Reader_isWord 1 true (25, [(0, am_pv 1), (1, am_pv 2007), (2, am_iv x2)], [am_iv q159, am_iv x2], am_SH, (J, K, am_RF b)) = some (((decide (am_i32 q159) && decide (am_i32 x2)) && true), .inl (bif am_cb .ge x2 q159 then 57 else 28, [(0, am_pv 1), (1, am_pv 2007), (2, am_iv x2)], [], am_SH, (J, K, am_RF b))) from rfl) (am_g2 g161 g162 rfl) (am_nd_t c163) ?_
      obtain ⟨q164, e165, h⟩ := am_bind_some h
      refine am_r_call (show am_stepn X T_Reader_isWord 3 true (28, [(0, am_pv 1), (1, am_pv 2007), (2, am_iv x2)], [], am_SH, (J, K, am_RF b)) = some (true, .inr (.inl (34, [am_pv 2007, am_iv x2], 2, 0, 0, 33, [(0, am_pv 1), (1, am_pv 2007), (2, am_iv x2)], [], am_SH, (J, K, am_RF b)))) from rfl) rfl tb_JString_charAt (s_JString_charAt (by decide) e165) ?_
      obtain ⟨q166, e167, h⟩ := am_bind_some h
      refine am_r_call (show am_stepn X T_Reader_isWord 7 true (33, [(0, am_pv 1), (1, am_pv 2007), (2, am_iv x2)], [am_iv q164], am_SH, (J, K, am_RF b)) = some (true, .inr (.inl (22, [am_pv 2, am_iv ((J 1 6) + x2)], 2, 0, 0, 46, [(0, am_pv 1), (1, am_pv 2007), (2, am_iv x2)], [am_iv q164], am_SH, (J, K, am_RF b)))) from rfl) rfl tb_Tape_at (s_Tape_at e167) ?_
      obtain ⟨g168, h⟩ := am_if_some h
      obtain ⟨g169, h⟩ := am_if_some h
      by_cases c170 : q164 = q166
      · rw [if_pos c170] at h
        refine am_r_t (show am_stepn X T_Reader_isWord 1 true (46, [(0, am_pv 1), (1, am_pv 2007), (2, am_iv x2)], [am_iv q166, am_iv q164], am_SH, (J, K, am_RF b)) = some (((decide (am_i32 q166) && decide (am_i32 q164)) && true), .inl (bif am_cb .eq q164 q166 then 51 else 49, [(0, am_pv 1), (1, am_pv 2007), (2, am_iv x2)], [], am_SH, (J, K, am_RF b))) from rfl) (am_g2 g168 g169 rfl) (decide_eq_true c170) ?_
        refine am_r_go (show am_stepn X T_Reader_isWord 2 true (51, [(0, am_pv 1), (1, am_pv 2007), (2, am_iv x2)], [], am_SH, (J, K, am_RF b)) = some (true, .inl (20, [(0, am_pv 1), (1, am_pv 2007), (2, am_iv (x2 + 1))], [], am_SH, (J, K, am_RF b))) from rfl) rfl ?_
        exact ih _ _ h
      · rw [if_neg c170] at h
        refine am_r_f (show am_stepn X T_Reader_isWord 1 true (46, [(0, am_pv 1), (1, am_pv 2007), (2, am_iv x2)], [am_iv q166, am_iv q164], am_SH, (J, K, am_RF b)) = some (((decide (am_i32 q166) && decide (am_i32 q164)) && true), .inl (bif am_cb .eq q164 q166 then 51 else 49, [(0, am_pv 1), (1, am_pv 2007), (2, am_iv x2)], [], am_SH, (J, K, am_RF b))) from rfl) (am_g2 g168 g169 rfl) (decide_eq_false c170) ?_
        obtain rfl := Option.some.inj h
        exact am_r_ret (show am_stepn X T_Reader_isWord 2 true (49, [(0, am_pv 1), (1, am_pv 2007), (2, am_iv x2)], [], am_SH, (J, K, am_RF b)) = some ((decide ((0 : Int) = 0 ∨ (0 : Int) = 1) && true), .inr (.inr (some (am_iv 0), am_SH, (J, K, am_RF b)))) from rfl) (am_g1 (by decide) rfl)
    · rw [if_neg c163] at h
      refine am_r_t (show am_stepn X T_Reader_isWord 1 true (25, [(0, am_pv 1), (1, am_pv 2007), (2, am_iv x2)], [am_iv q159, am_iv x2], am_SH, (J, K, am_RF b)) = some (((decide (am_i32 q159) && decide (am_i32 x2)) && true), .inl (bif am_cb .ge x2 q159 then 57 else 28, [(0, am_pv 1), (1, am_pv 2007), (2, am_iv x2)], [], am_SH, (J, K, am_RF b))) from rfl) (am_g2 g161 g162 rfl) (am_nd_f c163) ?_
      obtain rfl := Option.some.inj h
      exact am_r_ret (show am_stepn X T_Reader_isWord 2 true (57, [(0, am_pv 1), (1, am_pv 2007), (2, am_iv x2)], [], am_SH, (J, K, am_RF b)) = some ((decide ((1 : Int) = 0 ∨ (1 : Int) = 1) && true), .inr (.inr (some (am_iv 1), am_SH, (J, K, am_RF b)))) from rfl) (am_g1 (by decide) rfl)
theorem s_Reader_isWord_2007_ {X : am_X} {b : Bool} {J : am_J} {K : am_K}  {r : Int} (h : f_Reader_isWord 2007 J  = some r) : am_runs X T_Reader_isWord (0, [(0, am_pv 1), (1, am_pv 2007)], [], am_SH, (J, K, am_RF b)) (some (am_iv r), am_SH, (J, K, am_RF b)) := by
  unfold f_Reader_isWord at h
  obtain ⟨q171, e172, h⟩ := am_bind_some h
  refine am_r_call (show am_stepn X T_Reader_isWord 2 true (0, [(0, am_pv 1), (1, am_pv 2007)], [], am_SH, (J, K, am_RF b)) = some (true, .inr (.inl (32, [am_pv 2007], 1, 0, 0, 4, [(0, am_pv 1), (1, am_pv 2007)], [], am_SH, (J, K, am_RF b)))) from rfl) rfl tb_JString_length (s_JString_length (by decide) e172) ?_
  obtain ⟨g173, h⟩ := am_if_some h
  obtain ⟨g174, h⟩ := am_if_some h
  by_cases c175 : q171 = ((J 1 4) - (J 1 6))
  · rw [if_pos c175] at h
    refine am_r_t (show am_stepn X T_Reader_isWord 6 true (4, [(0, am_pv 1), (1, am_pv 2007)], [am_iv q171], am_SH, (J, K, am_RF b)) = some (((decide (am_i32 ((J 1 4) - (J 1 6))) && decide (am_i32 q171)) && true), .inl (bif am_cb .eq q171 ((J 1 4) - (J 1 6)) then 18 else 16, [(0, am_pv 1), (1, am_pv 2007)], [], am_SH, (J, K, am_RF b))) from rfl) (am_g2 g173 g174 rfl) (decide_eq_true c175) ?_
    refine am_r_go (show am_stepn X T_Reader_isWord 2 true (18, [(0, am_pv 1), (1, am_pv 2007)], [], am_SH, (J, K, am_RF b)) = some (true, .inl (20, [(0, am_pv 1), (1, am_pv 2007), (2, am_iv 0)], [], am_SH, (J, K, am_RF b))) from rfl) rfl ?_
    exact s_Reader_isWord_L20_2007_  _ _ _ h
  · rw [if_neg c175] at h
    refine am_r_f (show am_stepn X T_Reader_isWord 6 true (4, [(0, am_pv 1), (1, am_pv 2007)], [am_iv q171], am_SH, (J, K, am_RF b)) = some (((decide (am_i32 ((J 1 4) - (J 1 6))) && decide (am_i32 q171)) && true), .inl (bif am_cb .eq q171 ((J 1 4) - (J 1 6)) then 18 else 16, [(0, am_pv 1), (1, am_pv 2007)], [], am_SH, (J, K, am_RF b))) from rfl) (am_g2 g173 g174 rfl) (decide_eq_false c175) ?_
    obtain rfl := Option.some.inj h
    exact am_r_ret (show am_stepn X T_Reader_isWord 2 true (16, [(0, am_pv 1), (1, am_pv 2007)], [], am_SH, (J, K, am_RF b)) = some ((decide ((0 : Int) = 0 ∨ (0 : Int) = 1) && true), .inr (.inr (some (am_iv 0), am_SH, (J, K, am_RF b)))) from rfl) (am_g1 (by decide) rfl)
theorem s_Reader_isWord_L20_2008_ {X : am_X} {b : Bool} {J : am_J} {K : am_K}  : ∀ (n : Nat) (x2 : Int) (r : Int), f_Reader_isWord_L20 2008 J  n x2 = some r → am_runs X T_Reader_isWord (20, [(0, am_pv 1), (1, am_pv 2008), (2, am_iv x2)], [], am_SH, (J, K, am_RF b)) (some (am_iv r), am_SH, (J, K, am_RF b)) := by
  intro n
  induction n with
  | zero =>
    intro x2 r h
    cases h
  | succ n ih =>
    intro x2 r h
    rw [f_Reader_isWord_L20.eq_2] at h
    obtain ⟨q159, e160, h⟩ := am_bind_some h
    refine am_r_call (show am_stepn X T_Reader_isWord 3 true (20, [(0, am_pv 1), (1, am_pv 2008), (2, am_iv x2)], [], am_SH, (J, K, am_RF b)) = some (true, .inr (.inl (32, [am_pv 2008], 1, 0, 0, 25, [(0, am_pv 1), (1, am_pv 2008), (2, am_iv x2)], [am_iv x2], am_SH, (J, K, am_RF b)))) from rfl) rfl tb_JString_length (s_JString_length (by decide) e160) ?_
    obtain ⟨g161, h⟩ := am_if_some h
    obtain ⟨g162, h⟩ := am_if_some h
    by_cases c163 : x2 < q159
    · rw [if_pos c163] at h
      refine am_r_f (show am_stepn X T_Reader_isWord 1 true (25, [(0, am_pv 1), (1, am_pv 2008), (2, am_iv x2)], [am_iv q159, am_iv x2], am_SH, (J, K, am_RF b)) = some (((decide (am_i32 q159) && decide (am_i32 x2)) && true), .inl (bif am_cb .ge x2 q159 then 57 else 28, [(0, am_pv 1), (1, am_pv 2008), (2, am_iv x2)], [], am_SH, (J, K, am_RF b))) from rfl) (am_g2 g161 g162 rfl) (am_nd_t c163) ?_
      obtain ⟨q164, e165, h⟩ := am_bind_some h
      refine am_r_call (show am_stepn X T_Reader_isWord 3 true (28, [(0, am_pv 1), (1, am_pv 2008), (2, am_iv x2)], [], am_SH, (J, K, am_RF b)) = some (true, .inr (.inl (34, [am_pv 2008, am_iv x2], 2, 0, 0, 33, [(0, am_pv 1), (1, am_pv 2008), (2, am_iv x2)], [], am_SH, (J, K, am_RF b)))) from rfl) rfl tb_JString_charAt (s_JString_charAt (by decide) e165) ?_
      obtain ⟨q166, e167, h⟩ := am_bind_some h
      refine am_r_call (show am_stepn X T_Reader_isWord 7 true (33, [(0, am_pv 1), (1, am_pv 2008), (2, am_iv x2)], [am_iv q164], am_SH, (J, K, am_RF b)) = some (true, .inr (.inl (22, [am_pv 2, am_iv ((J 1 6) + x2)], 2, 0, 0, 46, [(0, am_pv 1), (1, am_pv 2008), (2, am_iv x2)], [am_iv q164], am_SH, (J, K, am_RF b)))) from rfl) rfl tb_Tape_at (s_Tape_at e167) ?_
      obtain ⟨g168, h⟩ := am_if_some h
      obtain ⟨g169, h⟩ := am_if_some h
      by_cases c170 : q164 = q166
      · rw [if_pos c170] at h
        refine am_r_t (show am_stepn X T_Reader_isWord 1 true (46, [(0, am_pv 1), (1, am_pv 2008), (2, am_iv x2)], [am_iv q166, am_iv q164], am_SH, (J, K, am_RF b)) = some (((decide (am_i32 q166) && decide (am_i32 q164)) && true), .inl (bif am_cb .eq q164 q166 then 51 else 49, [(0, am_pv 1), (1, am_pv 2008), (2, am_iv x2)], [], am_SH, (J, K, am_RF b))) from rfl) (am_g2 g168 g169 rfl) (decide_eq_true c170) ?_
        refine am_r_go (show am_stepn X T_Reader_isWord 2 true (51, [(0, am_pv 1), (1, am_pv 2008), (2, am_iv x2)], [], am_SH, (J, K, am_RF b)) = some (true, .inl (20, [(0, am_pv 1), (1, am_pv 2008), (2, am_iv (x2 + 1))], [], am_SH, (J, K, am_RF b))) from rfl) rfl ?_
        exact ih _ _ h
      · rw [if_neg c170] at h
        refine am_r_f (show am_stepn X T_Reader_isWord 1 true (46, [(0, am_pv 1), (1, am_pv 2008), (2, am_iv x2)], [am_iv q166, am_iv q164], am_SH, (J, K, am_RF b)) = some (((decide (am_i32 q166) && decide (am_i32 q164)) && true), .inl (bif am_cb .eq q164 q166 then 51 else 49, [(0, am_pv 1), (1, am_pv 2008), (2, am_iv x2)], [], am_SH, (J, K, am_RF b))) from rfl) (am_g2 g168 g169 rfl) (decide_eq_false c170) ?_
        obtain rfl := Option.some.inj h
        exact am_r_ret (show am_stepn X T_Reader_isWord 2 true (49, [(0, am_pv 1), (1, am_pv 2008), (2, am_iv x2)], [], am_SH, (J, K, am_RF b)) = some ((decide ((0 : Int) = 0 ∨ (0 : Int) = 1) && true), .inr (.inr (some (am_iv 0), am_SH, (J, K, am_RF b)))) from rfl) (am_g1 (by decide) rfl)
    · rw [if_neg c163] at h
      refine am_r_t (show am_stepn X T_Reader_isWord 1 true (25, [(0, am_pv 1), (1, am_pv 2008), (2, am_iv x2)], [am_iv q159, am_iv x2], am_SH, (J, K, am_RF b)) = some (((decide (am_i32 q159) && decide (am_i32 x2)) && true), .inl (bif am_cb .ge x2 q159 then 57 else 28, [(0, am_pv 1), (1, am_pv 2008), (2, am_iv x2)], [], am_SH, (J, K, am_RF b))) from rfl) (am_g2 g161 g162 rfl) (am_nd_f c163) ?_
      obtain rfl := Option.some.inj h
      exact am_r_ret (show am_stepn X T_Reader_isWord 2 true (57, [(0, am_pv 1), (1, am_pv 2008), (2, am_iv x2)], [], am_SH, (J, K, am_RF b)) = some ((decide ((1 : Int) = 0 ∨ (1 : Int) = 1) && true), .inr (.inr (some (am_iv 1), am_SH, (J, K, am_RF b)))) from rfl) (am_g1 (by decide) rfl)
theorem s_Reader_isWord_2008_ {X : am_X} {b : Bool} {J : am_J} {K : am_K}  {r : Int} (h : f_Reader_isWord 2008 J  = some r) : am_runs X T_Reader_isWord (0, [(0, am_pv 1), (1, am_pv 2008)], [], am_SH, (J, K, am_RF b)) (some (am_iv r), am_SH, (J, K, am_RF b)) := by
  unfold f_Reader_isWord at h
  obtain ⟨q171, e172, h⟩ := am_bind_some h
  refine am_r_call (show am_stepn X T_Reader_isWord 2 true (0, [(0, am_pv 1), (1, am_pv 2008)], [], am_SH, (J, K, am_RF b)) = some (true, .inr (.inl (32, [am_pv 2008], 1, 0, 0, 4, [(0, am_pv 1), (1, am_pv 2008)], [], am_SH, (J, K, am_RF b)))) from rfl) rfl tb_JString_length (s_JString_length (by decide) e172) ?_
  obtain ⟨g173, h⟩ := am_if_some h
  obtain ⟨g174, h⟩ := am_if_some h
  by_cases c175 : q171 = ((J 1 4) - (J 1 6))
  · rw [if_pos c175] at h
    refine am_r_t (show am_stepn X T_Reader_isWord 6 true (4, [(0, am_pv 1), (1, am_pv 2008)], [am_iv q171], am_SH, (J, K, am_RF b)) = some (((decide (am_i32 ((J 1 4) - (J 1 6))) && decide (am_i32 q171)) && true), .inl (bif am_cb .eq q171 ((J 1 4) - (J 1 6)) then 18 else 16, [(0, am_pv 1), (1, am_pv 2008)], [], am_SH, (J, K, am_RF b))) from rfl) (am_g2 g173 g174 rfl) (decide_eq_true c175) ?_
    refine am_r_go (show am_stepn X T_Reader_isWord 2 true (18, [(0, am_pv 1), (1, am_pv 2008)], [], am_SH, (J, K, am_RF b)) = some (true, .inl (20, [(0, am_pv 1), (1, am_pv 2008), (2, am_iv 0)], [], am_SH, (J, K, am_RF b))) from rfl) rfl ?_
    exact s_Reader_isWord_L20_2008_  _ _ _ h
  · rw [if_neg c175] at h
    refine am_r_f (show am_stepn X T_Reader_isWord 6 true (4, [(0, am_pv 1), (1, am_pv 2008)], [am_iv q171], am_SH, (J, K, am_RF b)) = some (((decide (am_i32 ((J 1 4) - (J 1 6))) && decide (am_i32 q171)) && true), .inl (bif am_cb .eq q171 ((J 1 4) - (J 1 6)) then 18 else 16, [(0, am_pv 1), (1, am_pv 2008)], [], am_SH, (J, K, am_RF b))) from rfl) (am_g2 g173 g174 rfl) (decide_eq_false c175) ?_
    obtain rfl := Option.some.inj h
    exact am_r_ret (show am_stepn X T_Reader_isWord 2 true (16, [(0, am_pv 1), (1, am_pv 2008)], [], am_SH, (J, K, am_RF b)) = some ((decide ((0 : Int) = 0 ∨ (0 : Int) = 1) && true), .inr (.inr (some (am_iv 0), am_SH, (J, K, am_RF b)))) from rfl) (am_g1 (by decide) rfl)
theorem s_Reader_isWord_L20_2009_ {X : am_X} {b : Bool} {J : am_J} {K : am_K}  : ∀ (n : Nat) (x2 : Int) (r : Int), f_Reader_isWord_L20 2009 J  n x2 = some r → am_runs X T_Reader_isWord (20, [(0, am_pv 1), (1, am_pv 2009), (2, am_iv x2)], [], am_SH, (J, K, am_RF b)) (some (am_iv r), am_SH, (J, K, am_RF b)) := by
  intro n
  induction n with
  | zero =>
    intro x2 r h
    cases h
  | succ n ih =>
    intro x2 r h
    rw [f_Reader_isWord_L20.eq_2] at h
    obtain ⟨q159, e160, h⟩ := am_bind_some h
    refine am_r_call (show am_stepn X T_Reader_isWord 3 true (20, [(0, am_pv 1), (1, am_pv 2009), (2, am_iv x2)], [], am_SH, (J, K, am_RF b)) = some (true, .inr (.inl (32, [am_pv 2009], 1, 0, 0, 25, [(0, am_pv 1), (1, am_pv 2009), (2, am_iv x2)], [am_iv x2], am_SH, (J, K, am_RF b)))) from rfl) rfl tb_JString_length (s_JString_length (by decide) e160) ?_
    obtain ⟨g161, h⟩ := am_if_some h
    obtain ⟨g162, h⟩ := am_if_some h
    by_cases c163 : x2 < q159
    · rw [if_pos c163] at h
      refine am_r_f (show am_stepn X T_Reader_isWord 1 true (25, [(0, am_pv 1), (1, am_pv 2009), (2, am_iv x2)], [am_iv q159, am_iv x2], am_SH, (J, K, am_RF b)) = some (((decide (am_i32 q159) && decide (am_i32 x2)) && true), .inl (bif am_cb .ge x2 q159 then 57 else 28, [(0, am_pv 1), (1, am_pv 2009), (2, am_iv x2)], [], am_SH, (J, K, am_RF b))) from rfl) (am_g2 g161 g162 rfl) (am_nd_t c163) ?_
      obtain ⟨q164, e165, h⟩ := am_bind_some h
      refine am_r_call (show am_stepn X T_Reader_isWord 3 true (28, [(0, am_pv 1), (1, am_pv 2009), (2, am_iv x2)], [], am_SH, (J, K, am_RF b)) = some (true, .inr (.inl (34, [am_pv 2009, am_iv x2], 2, 0, 0, 33, [(0, am_pv 1), (1, am_pv 2009), (2, am_iv x2)], [], am_SH, (J, K, am_RF b)))) from rfl) rfl tb_JString_charAt (s_JString_charAt (by decide) e165) ?_
      obtain ⟨q166, e167, h⟩ := am_bind_some h
      refine am_r_call (show am_stepn X T_Reader_isWord 7 true (33, [(0, am_pv 1), (1, am_pv 2009), (2, am_iv x2)], [am_iv q164], am_SH, (J, K, am_RF b)) = some (true, .inr (.inl (22, [am_pv 2, am_iv ((J 1 6) + x2)], 2, 0, 0, 46, [(0, am_pv 1), (1, am_pv 2009), (2, am_iv x2)], [am_iv q164], am_SH, (J, K, am_RF b)))) from rfl) rfl tb_Tape_at (s_Tape_at e167) ?_
      obtain ⟨g168, h⟩ := am_if_some h
      obtain ⟨g169, h⟩ := am_if_some h
      by_cases c170 : q164 = q166
      · rw [if_pos c170] at h
        refine am_r_t (show am_stepn X T_Reader_isWord 1 true (46, [(0, am_pv 1), (1, am_pv 2009), (2, am_iv x2)], [am_iv q166, am_iv q164], am_SH, (J, K, am_RF b)) = some (((decide (am_i32 q166) && decide (am_i32 q164)) && true), .inl (bif am_cb .eq q164 q166 then 51 else 49, [(0, am_pv 1), (1, am_pv 2009), (2, am_iv x2)], [], am_SH, (J, K, am_RF b))) from rfl) (am_g2 g168 g169 rfl) (decide_eq_true c170) ?_
        refine am_r_go (show am_stepn X T_Reader_isWord 2 true (51, [(0, am_pv 1), (1, am_pv 2009), (2, am_iv x2)], [], am_SH, (J, K, am_RF b)) = some (true, .inl (20, [(0, am_pv 1), (1, am_pv 2009), (2, am_iv (x2 + 1))], [], am_SH, (J, K, am_RF b))) from rfl) rfl ?_
        exact ih _ _ h
      · rw [if_neg c170] at h
        refine am_r_f (show am_stepn X T_Reader_isWord 1 true (46, [(0, am_pv 1), (1, am_pv 2009), (2, am_iv x2)], [am_iv q166, am_iv q164], am_SH, (J, K, am_RF b)) = some (((decide (am_i32 q166) && decide (am_i32 q164)) && true), .inl (bif am_cb .eq q164 q166 then 51 else 49, [(0, am_pv 1), (1, am_pv 2009), (2, am_iv x2)], [], am_SH, (J, K, am_RF b))) from rfl) (am_g2 g168 g169 rfl) (decide_eq_false c170) ?_
        obtain rfl := Option.some.inj h
        exact am_r_ret (show am_stepn X T_Reader_isWord 2 true (49, [(0, am_pv 1), (1, am_pv 2009), (2, am_iv x2)], [], am_SH, (J, K, am_RF b)) = some ((decide ((0 : Int) = 0 ∨ (0 : Int) = 1) && true), .inr (.inr (some (am_iv 0), am_SH, (J, K, am_RF b)))) from rfl) (am_g1 (by decide) rfl)
    · rw [if_neg c163] at h
      refine am_r_t (show am_stepn X T_Reader_isWord 1 true (25, [(0, am_pv 1), (1, am_pv 2009), (2, am_iv x2)], [am_iv q159, am_iv x2], am_SH, (J, K, am_RF b)) = some (((decide (am_i32 q159) && decide (am_i32 x2)) && true), .inl (bif am_cb .ge x2 q159 then 57 else 28, [(0, am_pv 1), (1, am_pv 2009), (2, am_iv x2)], [], am_SH, (J, K, am_RF b))) from rfl) (am_g2 g161 g162 rfl) (am_nd_f c163) ?_
      obtain rfl := Option.some.inj h
      exact am_r_ret (show am_stepn X T_Reader_isWord 2 true (57, [(0, am_pv 1), (1, am_pv 2009), (2, am_iv x2)], [], am_SH, (J, K, am_RF b)) = some ((decide ((1 : Int) = 0 ∨ (1 : Int) = 1) && true), .inr (.inr (some (am_iv 1), am_SH, (J, K, am_RF b)))) from rfl) (am_g1 (by decide) rfl)
theorem s_Reader_isWord_2009_ {X : am_X} {b : Bool} {J : am_J} {K : am_K}  {r : Int} (h : f_Reader_isWord 2009 J  = some r) : am_runs X T_Reader_isWord (0, [(0, am_pv 1), (1, am_pv 2009)], [], am_SH, (J, K, am_RF b)) (some (am_iv r), am_SH, (J, K, am_RF b)) := by
  unfold f_Reader_isWord at h
  obtain ⟨q171, e172, h⟩ := am_bind_some h
  refine am_r_call (show am_stepn X T_Reader_isWord 2 true (0, [(0, am_pv 1), (1, am_pv 2009)], [], am_SH, (J, K, am_RF b)) = some (true, .inr (.inl (32, [am_pv 2009], 1, 0, 0, 4, [(0, am_pv 1), (1, am_pv 2009)], [], am_SH, (J, K, am_RF b)))) from rfl) rfl tb_JString_length (s_JString_length (by decide) e172) ?_
  obtain ⟨g173, h⟩ := am_if_some h
  obtain ⟨g174, h⟩ := am_if_some h
  by_cases c175 : q171 = ((J 1 4) - (J 1 6))
  · rw [if_pos c175] at h
    refine am_r_t (show am_stepn X T_Reader_isWord 6 true (4, [(0, am_pv 1), (1, am_pv 2009)], [am_iv q171], am_SH, (J, K, am_RF b)) = some (((decide (am_i32 ((J 1 4) - (J 1 6))) && decide (am_i32 q171)) && true), .inl (bif am_cb .eq q171 ((J 1 4) - (J 1 6)) then 18 else 16, [(0, am_pv 1), (1, am_pv 2009)], [], am_SH, (J, K, am_RF b))) from rfl) (am_g2 g173 g174 rfl) (decide_eq_true c175) ?_
    refine am_r_go (show am_stepn X T_Reader_isWord 2 true (18, [(0, am_pv 1), (1, am_pv 2009)], [], am_SH, (J, K, am_RF b)) = some (true, .inl (20, [(0, am_pv 1), (1, am_pv 2009), (2, am_iv 0)], [], am_SH, (J, K, am_RF b))) from rfl) rfl ?_
    exact s_Reader_isWord_L20_2009_  _ _ _ h
  · rw [if_neg c175] at h
    refine am_r_f (show am_stepn X T_Reader_isWord 6 true (4, [(0, am_pv 1), (1, am_pv 2009)], [am_iv q171], am_SH, (J, K, am_RF b)) = some (((decide (am_i32 ((J 1 4) - (J 1 6))) && decide (am_i32 q171)) && true), .inl (bif am_cb .eq q171 ((J 1 4) - (J 1 6)) then 18 else 16, [(0, am_pv 1), (1, am_pv 2009)], [], am_SH, (J, K, am_RF b))) from rfl) (am_g2 g173 g174 rfl) (decide_eq_false c175) ?_
    obtain rfl := Option.some.inj h
    exact am_r_ret (show am_stepn X T_Reader_isWord 2 true (16, [(0, am_pv 1), (1, am_pv 2009)], [], am_SH, (J, K, am_RF b)) = some ((decide ((0 : Int) = 0 ∨ (0 : Int) = 1) && true), .inr (.inr (some (am_iv 0), am_SH, (J, K, am_RF b)))) from rfl) (am_g1 (by decide) rfl)
theorem s_Reader_isWord_L20_2010_ {X : am_X} {b : Bool} {J : am_J} {K : am_K}  : ∀ (n : Nat) (x2 : Int) (r : Int), f_Reader_isWord_L20 2010 J  n x2 = some r → am_runs X T_Reader_isWord (20, [(0, am_pv 1), (1, am_pv 2010), (2, am_iv x2)], [], am_SH, (J, K, am_RF b)) (some (am_iv r), am_SH, (J, K, am_RF b)) := by
  intro n
  induction n with
  | zero =>
    intro x2 r h
    cases h
  | succ n ih =>
    intro x2 r h
    rw [f_Reader_isWord_L20.eq_2] at h
    obtain ⟨q159, e160, h⟩ := am_bind_some h
    refine am_r_call (show am_stepn X T_Reader_isWord 3 true (20, [(0, am_pv 1), (1, am_pv 2010), (2, am_iv x2)], [], am_SH, (J, K, am_RF b)) = some (true, .inr (.inl (32, [am_pv 2010], 1, 0, 0, 25, [(0, am_pv 1), (1, am_pv 2010), (2, am_iv x2)], [am_iv x2], am_SH, (J, K, am_RF b)))) from rfl) rfl tb_JString_length (s_JString_length (by decide) e160) ?_
    obtain ⟨g161, h⟩ := am_if_some h
    obtain ⟨g162, h⟩ := am_if_some h
    by_cases c163 : x2 < q159
    · rw [if_pos c163] at h
      refine am_r_f (show am_stepn X T_Reader_isWord 1 true (25, [(0, am_pv 1), (1, am_pv 2010), (2, am_iv x2)], [am_iv q159, am_iv x2], am_SH, (J, K, am_RF b)) = some (((decide (am_i32 q159) && decide (am_i32 x2)) && true), .inl (bif am_cb .ge x2 q159 then 57 else 28, [(0, am_pv 1), (1, am_pv 2010), (2, am_iv x2)], [], am_SH, (J, K, am_RF b))) from rfl) (am_g2 g161 g162 rfl) (am_nd_t c163) ?_
      obtain ⟨q164, e165, h⟩ := am_bind_some h
      refine am_r_call (show am_stepn X T_Reader_isWord 3 true (28, [(0, am_pv 1), (1, am_pv 2010), (2, am_iv x2)], [], am_SH, (J, K, am_RF b)) = some (true, .inr (.inl (34, [am_pv 2010, am_iv x2], 2, 0, 0, 33, [(0, am_pv 1), (1, am_pv 2010), (2, am_iv x2)], [], am_SH, (J, K, am_RF b)))) from rfl) rfl tb_JString_charAt (s_JString_charAt (by decide) e165) ?_
      obtain ⟨q166, e167, h⟩ := am_bind_some h
      refine am_r_call (show am_stepn X T_Reader_isWord 7 true (33, [(0, am_pv 1), (1, am_pv 2010), (2, am_iv x2)], [am_iv q164], am_SH, (J, K, am_RF b)) = some (true, .inr (.inl (22, [am_pv 2, am_iv ((J 1 6) + x2)], 2, 0, 0, 46, [(0, am_pv 1), (1, am_pv 2010), (2, am_iv x2)], [am_iv q164], am_SH, (J, K, am_RF b)))) from rfl) rfl tb_Tape_at (s_Tape_at e167) ?_
      obtain ⟨g168, h⟩ := am_if_some h
      obtain ⟨g169, h⟩ := am_if_some h
      by_cases c170 : q164 = q166
      · rw [if_pos c170] at h
        refine am_r_t (show am_stepn X T_Reader_isWord 1 true (46, [(0, am_pv 1), (1, am_pv 2010), (2, am_iv x2)], [am_iv q166, am_iv q164], am_SH, (J, K, am_RF b)) = some (((decide (am_i32 q166) && decide (am_i32 q164)) && true), .inl (bif am_cb .eq q164 q166 then 51 else 49, [(0, am_pv 1), (1, am_pv 2010), (2, am_iv x2)], [], am_SH, (J, K, am_RF b))) from rfl) (am_g2 g168 g169 rfl) (decide_eq_true c170) ?_
        refine am_r_go (show am_stepn X T_Reader_isWord 2 true (51, [(0, am_pv 1), (1, am_pv 2010), (2, am_iv x2)], [], am_SH, (J, K, am_RF b)) = some (true, .inl (20, [(0, am_pv 1), (1, am_pv 2010), (2, am_iv (x2 + 1))], [], am_SH, (J, K, am_RF b))) from rfl) rfl ?_
        exact ih _ _ h
      · rw [if_neg c170] at h
        refine am_r_f (show am_stepn X T_Reader_isWord 1 true (46, [(0, am_pv 1), (1, am_pv 2010), (2, am_iv x2)], [am_iv q166, am_iv q164], am_SH, (J, K, am_RF b)) = some (((decide (am_i32 q166) && decide (am_i32 q164)) && true), .inl (bif am_cb .eq q164 q166 then 51 else 49, [(0, am_pv 1), (1, am_pv 2010), (2, am_iv x2)], [], am_SH, (J, K, am_RF b))) from rfl) (am_g2 g168 g169 rfl) (decide_eq_false c170) ?_
        obtain rfl := Option.some.inj h
        exact am_r_ret (show am_stepn X T_Reader_isWord 2 true (49, [(0, am_pv 1), (1, am_pv 2010), (2, am_iv x2)], [], am_SH, (J, K, am_RF b)) = some ((decide ((0 : Int) = 0 ∨ (0 : Int) = 1) && true), .inr (.inr (some (am_iv 0), am_SH, (J, K, am_RF b)))) from rfl) (am_g1 (by decide) rfl)
    · rw [if_neg c163] at h
      refine am_r_t (show am_stepn X T_Reader_isWord 1 true (25, [(0, am_pv 1), (1, am_pv 2010), (2, am_iv x2)], [am_iv q159, am_iv x2], am_SH, (J, K, am_RF b)) = some (((decide (am_i32 q159) && decide (am_i32 x2)) && true), .inl (bif am_cb .ge x2 q159 then 57 else 28, [(0, am_pv 1), (1, am_pv 2010), (2, am_iv x2)], [], am_SH, (J, K, am_RF b))) from rfl) (am_g2 g161 g162 rfl) (am_nd_f c163) ?_
      obtain rfl := Option.some.inj h
      exact am_r_ret (show am_stepn X T_Reader_isWord 2 true (57, [(0, am_pv 1), (1, am_pv 2010), (2, am_iv x2)], [], am_SH, (J, K, am_RF b)) = some ((decide ((1 : Int) = 0 ∨ (1 : Int) = 1) && true), .inr (.inr (some (am_iv 1), am_SH, (J, K, am_RF b)))) from rfl) (am_g1 (by decide) rfl)
theorem s_Reader_isWord_2010_ {X : am_X} {b : Bool} {J : am_J} {K : am_K}  {r : Int} (h : f_Reader_isWord 2010 J  = some r) : am_runs X T_Reader_isWord (0, [(0, am_pv 1), (1, am_pv 2010)], [], am_SH, (J, K, am_RF b)) (some (am_iv r), am_SH, (J, K, am_RF b)) := by
  unfold f_Reader_isWord at h
  obtain ⟨q171, e172, h⟩ := am_bind_some h
  refine am_r_call (show am_stepn X T_Reader_isWord 2 true (0, [(0, am_pv 1), (1, am_pv 2010)], [], am_SH, (J, K, am_RF b)) = some (true, .inr (.inl (32, [am_pv 2010], 1, 0, 0, 4, [(0, am_pv 1), (1, am_pv 2010)], [], am_SH, (J, K, am_RF b)))) from rfl) rfl tb_JString_length (s_JString_length (by decide) e172) ?_
  obtain ⟨g173, h⟩ := am_if_some h
  obtain ⟨g174, h⟩ := am_if_some h
  by_cases c175 : q171 = ((J 1 4) - (J 1 6))
  · rw [if_pos c175] at h
    refine am_r_t (show am_stepn X T_Reader_isWord 6 true (4, [(0, am_pv 1), (1, am_pv 2010)], [am_iv q171], am_SH, (J, K, am_RF b)) = some (((decide (am_i32 ((J 1 4) - (J 1 6))) && decide (am_i32 q171)) && true), .inl (bif am_cb .eq q171 ((J 1 4) - (J 1 6)) then 18 else 16, [(0, am_pv 1), (1, am_pv 2010)], [], am_SH, (J, K, am_RF b))) from rfl) (am_g2 g173 g174 rfl) (decide_eq_true c175) ?_
    refine am_r_go (show am_stepn X T_Reader_isWord 2 true (18, [(0, am_pv 1), (1, am_pv 2010)], [], am_SH, (J, K, am_RF b)) = some (true, .inl (20, [(0, am_pv 1), (1, am_pv 2010), (2, am_iv 0)], [], am_SH, (J, K, am_RF b))) from rfl) rfl ?_
    exact s_Reader_isWord_L20_2010_  _ _ _ h
  · rw [if_neg c175] at h
    refine am_r_f (show am_stepn X T_Reader_isWord 6 true (4, [(0, am_pv 1), (1, am_pv 2010)], [am_iv q171], am_SH, (J, K, am_RF b)) = some (((decide (am_i32 ((J 1 4) - (J 1 6))) && decide (am_i32 q171)) && true), .inl (bif am_cb .eq q171 ((J 1 4) - (J 1 6)) then 18 else 16, [(0, am_pv 1), (1, am_pv 2010)], [], am_SH, (J, K, am_RF b))) from rfl) (am_g2 g173 g174 rfl) (decide_eq_false c175) ?_
    obtain rfl := Option.some.inj h
    exact am_r_ret (show am_stepn X T_Reader_isWord 2 true (16, [(0, am_pv 1), (1, am_pv 2010)], [], am_SH, (J, K, am_RF b)) = some ((decide ((0 : Int) = 0 ∨ (0 : Int) = 1) && true), .inr (.inr (some (am_iv 0), am_SH, (J, K, am_RF b)))) from rfl) (am_g1 (by decide) rfl)
theorem s_Reader_isWord_L20_2011_ {X : am_X} {b : Bool} {J : am_J} {K : am_K}  : ∀ (n : Nat) (x2 : Int) (r : Int), f_Reader_isWord_L20 2011 J  n x2 = some r → am_runs X T_Reader_isWord (20, [(0, am_pv 1), (1, am_pv 2011), (2, am_iv x2)], [], am_SH, (J, K, am_RF b)) (some (am_iv r), am_SH, (J, K, am_RF b)) := by
  intro n
  induction n with
  | zero =>
    intro x2 r h
    cases h
  | succ n ih =>
    intro x2 r h
    rw [f_Reader_isWord_L20.eq_2] at h
    obtain ⟨q159, e160, h⟩ := am_bind_some h
    refine am_r_call (show am_stepn X T_Reader_isWord 3 true (20, [(0, am_pv 1), (1, am_pv 2011), (2, am_iv x2)], [], am_SH, (J, K, am_RF b)) = some (true, .inr (.inl (32, [am_pv 2011], 1, 0, 0, 25, [(0, am_pv 1), (1, am_pv 2011), (2, am_iv x2)], [am_iv x2], am_SH, (J, K, am_RF b)))) from rfl) rfl tb_JString_length (s_JString_length (by decide) e160) ?_
    obtain ⟨g161, h⟩ := am_if_some h
    obtain ⟨g162, h⟩ := am_if_some h
    by_cases c163 : x2 < q159
    · rw [if_pos c163] at h
      refine am_r_f (show am_stepn X T_Reader_isWord 1 true (25, [(0, am_pv 1), (1, am_pv 2011), (2, am_iv x2)], [am_iv q159, am_iv x2], am_SH, (J, K, am_RF b)) = some (((decide (am_i32 q159) && decide (am_i32 x2)) && true), .inl (bif am_cb .ge x2 q159 then 57 else 28, [(0, am_pv 1), (1, am_pv 2011), (2, am_iv x2)], [], am_SH, (J, K, am_RF b))) from rfl) (am_g2 g161 g162 rfl) (am_nd_t c163) ?_
      obtain ⟨q164, e165, h⟩ := am_bind_some h
      refine am_r_call (show am_stepn X T_Reader_isWord 3 true (28, [(0, am_pv 1), (1, am_pv 2011), (2, am_iv x2)], [], am_SH, (J, K, am_RF b)) = some (true, .inr (.inl (34, [am_pv 2011, am_iv x2], 2, 0, 0, 33, [(0, am_pv 1), (1, am_pv 2011), (2, am_iv x2)], [], am_SH, (J, K, am_RF b)))) from rfl) rfl tb_JString_charAt (s_JString_charAt (by decide) e165) ?_
      obtain ⟨q166, e167, h⟩ := am_bind_some h
      refine am_r_call (show am_stepn X T_Reader_isWord 7 true (33, [(0, am_pv 1), (1, am_pv 2011), (2, am_iv x2)], [am_iv q164], am_SH, (J, K, am_RF b)) = some (true, .inr (.inl (22, [am_pv 2, am_iv ((J 1 6) + x2)], 2, 0, 0, 46, [(0, am_pv 1), (1, am_pv 2011), (2, am_iv x2)], [am_iv q164], am_SH, (J, K, am_RF b)))) from rfl) rfl tb_Tape_at (s_Tape_at e167) ?_
      obtain ⟨g168, h⟩ := am_if_some h
      obtain ⟨g169, h⟩ := am_if_some h
      by_cases c170 : q164 = q166
      · rw [if_pos c170] at h
        refine am_r_t (show am_stepn X T_Reader_isWord 1 true (46, [(0, am_pv 1), (1, am_pv 2011), (2, am_iv x2)], [am_iv q166, am_iv q164], am_SH, (J, K, am_RF b)) = some (((decide (am_i32 q166) && decide (am_i32 q164)) && true), .inl (bif am_cb .eq q164 q166 then 51 else 49, [(0, am_pv 1), (1, am_pv 2011), (2, am_iv x2)], [], am_SH, (J, K, am_RF b))) from rfl) (am_g2 g168 g169 rfl) (decide_eq_true c170) ?_
        refine am_r_go (show am_stepn X T_Reader_isWord 2 true (51, [(0, am_pv 1), (1, am_pv 2011), (2, am_iv x2)], [], am_SH, (J, K, am_RF b)) = some (true, .inl (20, [(0, am_pv 1), (1, am_pv 2011), (2, am_iv (x2 + 1))], [], am_SH, (J, K, am_RF b))) from rfl) rfl ?_
        exact ih _ _ h
      · rw [if_neg c170] at h
        refine am_r_f (show am_stepn X T_Reader_isWord 1 true (46, [(0, am_pv 1), (1, am_pv 2011), (2, am_iv x2)], [am_iv q166, am_iv q164], am_SH, (J, K, am_RF b)) = some (((decide (am_i32 q166) && decide (am_i32 q164)) && true), .inl (bif am_cb .eq q164 q166 then 51 else 49, [(0, am_pv 1), (1, am_pv 2011), (2, am_iv x2)], [], am_SH, (J, K, am_RF b))) from rfl) (am_g2 g168 g169 rfl) (decide_eq_false c170) ?_
        obtain rfl := Option.some.inj h
        exact am_r_ret (show am_stepn X T_Reader_isWord 2 true (49, [(0, am_pv 1), (1, am_pv 2011), (2, am_iv x2)], [], am_SH, (J, K, am_RF b)) = some ((decide ((0 : Int) = 0 ∨ (0 : Int) = 1) && true), .inr (.inr (some (am_iv 0), am_SH, (J, K, am_RF b)))) from rfl) (am_g1 (by decide) rfl)
    · rw [if_neg c163] at h
      refine am_r_t (show am_stepn X T_Reader_isWord 1 true (25, [(0, am_pv 1), (1, am_pv 2011), (2, am_iv x2)], [am_iv q159, am_iv x2], am_SH, (J, K, am_RF b)) = some (((decide (am_i32 q159) && decide (am_i32 x2)) && true), .inl (bif am_cb .ge x2 q159 then 57 else 28, [(0, am_pv 1), (1, am_pv 2011), (2, am_iv x2)], [], am_SH, (J, K, am_RF b))) from rfl) (am_g2 g161 g162 rfl) (am_nd_f c163) ?_
      obtain rfl := Option.some.inj h
      exact am_r_ret (show am_stepn X T_Reader_isWord 2 true (57, [(0, am_pv 1), (1, am_pv 2011), (2, am_iv x2)], [], am_SH, (J, K, am_RF b)) = some ((decide ((1 : Int) = 0 ∨ (1 : Int) = 1) && true), .inr (.inr (some (am_iv 1), am_SH, (J, K, am_RF b)))) from rfl) (am_g1 (by decide) rfl)
theorem s_Reader_isWord_2011_ {X : am_X} {b : Bool} {J : am_J} {K : am_K}  {r : Int} (h : f_Reader_isWord 2011 J  = some r) : am_runs X T_Reader_isWord (0, [(0, am_pv 1), (1, am_pv 2011)], [], am_SH, (J, K, am_RF b)) (some (am_iv r), am_SH, (J, K, am_RF b)) := by
  unfold f_Reader_isWord at h
  obtain ⟨q171, e172, h⟩ := am_bind_some h
  refine am_r_call (show am_stepn X T_Reader_isWord 2 true (0, [(0, am_pv 1), (1, am_pv 2011)], [], am_SH, (J, K, am_RF b)) = some (true, .inr (.inl (32, [am_pv 2011], 1, 0, 0, 4, [(0, am_pv 1), (1, am_pv 2011)], [], am_SH, (J, K, am_RF b)))) from rfl) rfl tb_JString_length (s_JString_length (by decide) e172) ?_
  obtain ⟨g173, h⟩ := am_if_some h
  obtain ⟨g174, h⟩ := am_if_some h
  by_cases c175 : q171 = ((J 1 4) - (J 1 6))
  · rw [if_pos c175] at h
    refine am_r_t (show am_stepn X T_Reader_isWord 6 true (4, [(0, am_pv 1), (1, am_pv 2011)], [am_iv q171], am_SH, (J, K, am_RF b)) = some (((decide (am_i32 ((J 1 4) - (J 1 6))) && decide (am_i32 q171)) && true), .inl (bif am_cb .eq q171 ((J 1 4) - (J 1 6)) then 18 else 16, [(0, am_pv 1), (1, am_pv 2011)], [], am_SH, (J, K, am_RF b))) from rfl) (am_g2 g173 g174 rfl) (decide_eq_true c175) ?_
    refine am_r_go (show am_stepn X T_Reader_isWord 2 true (18, [(0, am_pv 1), (1, am_pv 2011)], [], am_SH, (J, K, am_RF b)) = some (true, .inl (20, [(0, am_pv 1), (1, am_pv 2011), (2, am_iv 0)], [], am_SH, (J, K, am_RF b))) from rfl) rfl ?_
    exact s_Reader_isWord_L20_2011_  _ _ _ h
  · rw [if_neg c175] at h
    refine am_r_f (show am_stepn X T_Reader_isWord 6 true (4, [(0, am_pv 1), (1, am_pv 2011)], [am_iv q171], am_SH, (J, K, am_RF b)) = some (((decide (am_i32 ((J 1 4) - (J 1 6))) && decide (am_i32 q171)) && true), .inl (bif am_cb .eq q171 ((J 1 4) - (J 1 6)) then 18 else 16, [(0, am_pv 1), (1, am_pv 2011)], [], am_SH, (J, K, am_RF b))) from rfl) (am_g2 g173 g174 rfl) (decide_eq_false c175) ?_
    obtain rfl := Option.some.inj h
    exact am_r_ret (show am_stepn X T_Reader_isWord 2 true (16, [(0, am_pv 1), (1, am_pv 2011)], [], am_SH, (J, K, am_RF b)) = some ((decide ((0 : Int) = 0 ∨ (0 : Int) = 1) && true), .inr (.inr (some (am_iv 0), am_SH, (J, K, am_RF b)))) from rfl) (am_g1 (by decide) rfl)
theorem s_Reader_isWord_L20_2012_ {X : am_X} {b : Bool} {J : am_J} {K : am_K}  : ∀ (n : Nat) (x2 : Int) (r : Int), f_Reader_isWord_L20 2012 J  n x2 = some r → am_runs X T_Reader_isWord (20, [(0, am_pv 1), (1, am_pv 2012), (2, am_iv x2)], [], am_SH, (J, K, am_RF b)) (some (am_iv r), am_SH, (J, K, am_RF b)) := by
  intro n
  induction n with
  | zero =>
    intro x2 r h
    cases h
  | succ n ih =>
    intro x2 r h
    rw [f_Reader_isWord_L20.eq_2] at h
    obtain ⟨q159, e160, h⟩ := am_bind_some h
    refine am_r_call (show am_stepn X T_Reader_isWord 3 true (20, [(0, am_pv 1), (1, am_pv 2012), (2, am_iv x2)], [], am_SH, (J, K, am_RF b)) = some (true, .inr (.inl (32, [am_pv 2012], 1, 0, 0, 25, [(0, am_pv 1), (1, am_pv 2012), (2, am_iv x2)], [am_iv x2], am_SH, (J, K, am_RF b)))) from rfl) rfl tb_JString_length (s_JString_length (by decide) e160) ?_
    obtain ⟨g161, h⟩ := am_if_some h
    obtain ⟨g162, h⟩ := am_if_some h
    by_cases c163 : x2 < q159
    · rw [if_pos c163] at h
      refine am_r_f (show am_stepn X T_Reader_isWord 1 true (25, [(0, am_pv 1), (1, am_pv 2012), (2, am_iv x2)], [am_iv q159, am_iv x2], am_SH, (J, K, am_RF b)) = some (((decide (am_i32 q159) && decide (am_i32 x2)) && true), .inl (bif am_cb .ge x2 q159 then 57 else 28, [(0, am_pv 1), (1, am_pv 2012), (2, am_iv x2)], [], am_SH, (J, K, am_RF b))) from rfl) (am_g2 g161 g162 rfl) (am_nd_t c163) ?_
      obtain ⟨q164, e165, h⟩ := am_bind_some h
      refine am_r_call (show am_stepn X T_Reader_isWord 3 true (28, [(0, am_pv 1), (1, am_pv 2012), (2, am_iv x2)], [], am_SH, (J, K, am_RF b)) = some (true, .inr (.inl (34, [am_pv 2012, am_iv x2], 2, 0, 0, 33, [(0, am_pv 1), (1, am_pv 2012), (2, am_iv x2)], [], am_SH, (J, K, am_RF b)))) from rfl) rfl tb_JString_charAt (s_JString_charAt (by decide) e165) ?_
      obtain ⟨q166, e167, h⟩ := am_bind_some h
      refine am_r_call (show am_stepn X T_Reader_isWord 7 true (33, [(0, am_pv 1), (1, am_pv 2012), (2, am_iv x2)], [am_iv q164], am_SH, (J, K, am_RF b)) = some (true, .inr (.inl (22, [am_pv 2, am_iv ((J 1 6) + x2)], 2, 0, 0, 46, [(0, am_pv 1), (1, am_pv 2012), (2, am_iv x2)], [am_iv q164], am_SH, (J, K, am_RF b)))) from rfl) rfl tb_Tape_at (s_Tape_at e167) ?_
      obtain ⟨g168, h⟩ := am_if_some h
      obtain ⟨g169, h⟩ := am_if_some h
      by_cases c170 : q164 = q166
      · rw [if_pos c170] at h
        refine am_r_t (show am_stepn X T_Reader_isWord 1 true (46, [(0, am_pv 1), (1, am_pv 2012), (2, am_iv x2)], [am_iv q166, am_iv q164], am_SH, (J, K, am_RF b)) = some (((decide (am_i32 q166) && decide (am_i32 q164)) && true), .inl (bif am_cb .eq q164 q166 then 51 else 49, [(0, am_pv 1), (1, am_pv 2012), (2, am_iv x2)], [], am_SH, (J, K, am_RF b))) from rfl) (am_g2 g168 g169 rfl) (decide_eq_true c170) ?_
        refine am_r_go (show am_stepn X T_Reader_isWord 2 true (51, [(0, am_pv 1), (1, am_pv 2012), (2, am_iv x2)], [], am_SH, (J, K, am_RF b)) = some (true, .inl (20, [(0, am_pv 1), (1, am_pv 2012), (2, am_iv (x2 + 1))], [], am_SH, (J, K, am_RF b))) from rfl) rfl ?_
        exact ih _ _ h
      · rw [if_neg c170] at h
        refine am_r_f (show am_stepn X T_Reader_isWord 1 true (46, [(0, am_pv 1), (1, am_pv 2012), (2, am_iv x2)], [am_iv q166, am_iv q164], am_SH, (J, K, am_RF b)) = some (((decide (am_i32 q166) && decide (am_i32 q164)) && true), .inl (bif am_cb .eq q164 q166 then 51 else 49, [(0, am_pv 1), (1, am_pv 2012), (2, am_iv x2)], [], am_SH, (J, K, am_RF b))) from rfl) (am_g2 g168 g169 rfl) (decide_eq_false c170) ?_
        obtain rfl := Option.some.inj h
        exact am_r_ret (show am_stepn X T_Reader_isWord 2 true (49, [(0, am_pv 1), (1, am_pv 2012), (2, am_iv x2)], [], am_SH, (J, K, am_RF b)) = some ((decide ((0 : Int) = 0 ∨ (0 : Int) = 1) && true), .inr (.inr (some (am_iv 0), am_SH, (J, K, am_RF b)))) from rfl) (am_g1 (by decide) rfl)
    · rw [if_neg c163] at h
      refine am_r_t (show am_stepn X T_Reader_isWord 1 true (25, [(0, am_pv 1), (1, am_pv 2012), (2, am_iv x2)], [am_iv q159, am_iv x2], am_SH, (J, K, am_RF b)) = some (((decide (am_i32 q159) && decide (am_i32 x2)) && true), .inl (bif am_cb .ge x2 q159 then 57 else 28, [(0, am_pv 1), (1, am_pv 2012), (2, am_iv x2)], [], am_SH, (J, K, am_RF b))) from rfl) (am_g2 g161 g162 rfl) (am_nd_f c163) ?_
      obtain rfl := Option.some.inj h
      exact am_r_ret (show am_stepn X T_Reader_isWord 2 true (57, [(0, am_pv 1), (1, am_pv 2012), (2, am_iv x2)], [], am_SH, (J, K, am_RF b)) = some ((decide ((1 : Int) = 0 ∨ (1 : Int) = 1) && true), .inr (.inr (some (am_iv 1), am_SH, (J, K, am_RF b)))) from rfl) (am_g1 (by decide) rfl)
theorem s_Reader_isWord_2012_ {X : am_X} {b : Bool} {J : am_J} {K : am_K}  {r : Int} (h : f_Reader_isWord 2012 J  = some r) : am_runs X T_Reader_isWord (0, [(0, am_pv 1), (1, am_pv 2012)], [], am_SH, (J, K, am_RF b)) (some (am_iv r), am_SH, (J, K, am_RF b)) := by
  unfold f_Reader_isWord at h
  obtain ⟨q171, e172, h⟩ := am_bind_some h
  refine am_r_call (show am_stepn X T_Reader_isWord 2 true (0, [(0, am_pv 1), (1, am_pv 2012)], [], am_SH, (J, K, am_RF b)) = some (true, .inr (.inl (32, [am_pv 2012], 1, 0, 0, 4, [(0, am_pv 1), (1, am_pv 2012)], [], am_SH, (J, K, am_RF b)))) from rfl) rfl tb_JString_length (s_JString_length (by decide) e172) ?_
  obtain ⟨g173, h⟩ := am_if_some h
  obtain ⟨g174, h⟩ := am_if_some h
  by_cases c175 : q171 = ((J 1 4) - (J 1 6))
  · rw [if_pos c175] at h
    refine am_r_t (show am_stepn X T_Reader_isWord 6 true (4, [(0, am_pv 1), (1, am_pv 2012)], [am_iv q171], am_SH, (J, K, am_RF b)) = some (((decide (am_i32 ((J 1 4) - (J 1 6))) && decide (am_i32 q171)) && true), .inl (bif am_cb .eq q171 ((J 1 4) - (J 1 6)) then 18 else 16, [(0, am_pv 1), (1, am_pv 2012)], [], am_SH, (J, K, am_RF b))) from rfl) (am_g2 g173 g174 rfl) (decide_eq_true c175) ?_
    refine am_r_go (show am_stepn X T_Reader_isWord 2 true (18, [(0, am_pv 1), (1, am_pv 2012)], [], am_SH, (J, K, am_RF b)) = some (true, .inl (20, [(0, am_pv 1), (1, am_pv 2012), (2, am_iv 0)], [], am_SH, (J, K, am_RF b))) from rfl) rfl ?_
    exact s_Reader_isWord_L20_2012_  _ _ _ h
  · rw [if_neg c175] at h
    refine am_r_f (show am_stepn X T_Reader_isWord 6 true (4, [(0, am_pv 1), (1, am_pv 2012)], [am_iv q171], am_SH, (J, K, am_RF b)) = some (((decide (am_i32 ((J 1 4) - (J 1 6))) && decide (am_i32 q171)) && true), .inl (bif am_cb .eq q171 ((J 1 4) - (J 1 6)) then 18 else 16, [(0, am_pv 1), (1, am_pv 2012)], [], am_SH, (J, K, am_RF b))) from rfl) (am_g2 g173 g174 rfl) (decide_eq_false c175) ?_
    obtain rfl := Option.some.inj h
    exact am_r_ret (show am_stepn X T_Reader_isWord 2 true (16, [(0, am_pv 1), (1, am_pv 2012)], [], am_SH, (J, K, am_RF b)) = some ((decide ((0 : Int) = 0 ∨ (0 : Int) = 1) && true), .inr (.inr (some (am_iv 0), am_SH, (J, K, am_RF b)))) from rfl) (am_g1 (by decide) rfl)
theorem s_Reader_isWord_L20_2013_ {X : am_X} {b : Bool} {J : am_J} {K : am_K}  : ∀ (n : Nat) (x2 : Int) (r : Int), f_Reader_isWord_L20 2013 J  n x2 = some r → am_runs X T_Reader_isWord (20, [(0, am_pv 1), (1, am_pv 2013), (2, am_iv x2)], [], am_SH, (J, K, am_RF b)) (some (am_iv r), am_SH, (J, K, am_RF b)) := by
  intro n
  induction n with
  | zero =>
    intro x2 r h
    cases h
  | succ n ih =>
    intro x2 r h
    rw [f_Reader_isWord_L20.eq_2] at h
    obtain ⟨q159, e160, h⟩ := am_bind_some h
    refine am_r_call (show am_stepn X T_Reader_isWord 3 true (20, [(0, am_pv 1), (1, am_pv 2013), (2, am_iv x2)], [], am_SH, (J, K, am_RF b)) = some (true, .inr (.inl (32, [am_pv 2013], 1, 0, 0, 25, [(0, am_pv 1), (1, am_pv 2013), (2, am_iv x2)], [am_iv x2], am_SH, (J, K, am_RF b)))) from rfl) rfl tb_JString_length (s_JString_length (by decide) e160) ?_
    obtain ⟨g161, h⟩ := am_if_some h
    obtain ⟨g162, h⟩ := am_if_some h
    by_cases c163 : x2 < q159
    · rw [if_pos c163] at h
      refine am_r_f (show am_stepn X T_Reader_isWord 1 true (25, [(0, am_pv 1), (1, am_pv 2013), (2, am_iv x2)], [am_iv q159, am_iv x2], am_SH, (J, K, am_RF b)) = some (((decide (am_i32 q159) && decide (am_i32 x2)) && true), .inl (bif am_cb .ge x2 q159 then 57 else 28, [(0, am_pv 1), (1, am_pv 2013), (2, am_iv x2)], [], am_SH, (J, K, am_RF b))) from rfl) (am_g2 g161 g162 rfl) (am_nd_t c163) ?_
      obtain ⟨q164, e165, h⟩ := am_bind_some h
      refine am_r_call (show am_stepn X T_Reader_isWord 3 true (28, [(0, am_pv 1), (1, am_pv 2013), (2, am_iv x2)], [], am_SH, (J, K, am_RF b)) = some (true, .inr (.inl (34, [am_pv 2013, am_iv x2], 2, 0, 0, 33, [(0, am_pv 1), (1, am_pv 2013), (2, am_iv x2)], [], am_SH, (J, K, am_RF b)))) from rfl) rfl tb_JString_charAt (s_JString_charAt (by decide) e165) ?_
      obtain ⟨q166, e167, h⟩ := am_bind_some h
      refine am_r_call (show am_stepn X T_Reader_isWord 7 true (33, [(0, am_pv 1), (1, am_pv 2013), (2, am_iv x2)], [am_iv q164], am_SH, (J, K, am_RF b)) = some (true, .inr (.inl (22, [am_pv 2, am_iv ((J 1 6) + x2)], 2, 0, 0, 46, [(0, am_pv 1), (1, am_pv 2013), (2, am_iv x2)], [am_iv q164], am_SH, (J, K, am_RF b)))) from rfl) rfl tb_Tape_at (s_Tape_at e167) ?_
      obtain ⟨g168, h⟩ := am_if_some h
      obtain ⟨g169, h⟩ := am_if_some h
      by_cases c170 : q164 = q166
      · rw [if_pos c170] at h
        refine am_r_t (show am_stepn X T_Reader_isWord 1 true (46, [(0, am_pv 1), (1, am_pv 2013), (2, am_iv x2)], [am_iv q166, am_iv q164], am_SH, (J, K, am_RF b)) = some (((decide (am_i32 q166) && decide (am_i32 q164)) && true), .inl (bif am_cb .eq q164 q166 then 51 else 49, [(0, am_pv 1), (1, am_pv 2013), (2, am_iv x2)], [], am_SH, (J, K, am_RF b))) from rfl) (am_g2 g168 g169 rfl) (decide_eq_true c170) ?_
        refine am_r_go (show am_stepn X T_Reader_isWord 2 true (51, [(0, am_pv 1), (1, am_pv 2013), (2, am_iv x2)], [], am_SH, (J, K, am_RF b)) = some (true, .inl (20, [(0, am_pv 1), (1, am_pv 2013), (2, am_iv (x2 + 1))], [], am_SH, (J, K, am_RF b))) from rfl) rfl ?_
        exact ih _ _ h
      · rw [if_neg c170] at h
        refine am_r_f (show am_stepn X T_Reader_isWord 1 true (46, [(0, am_pv 1), (1, am_pv 2013), (2, am_iv x2)], [am_iv q166, am_iv q164], am_SH, (J, K, am_RF b)) = some (((decide (am_i32 q166) && decide (am_i32 q164)) && true), .inl (bif am_cb .eq q164 q166 then 51 else 49, [(0, am_pv 1), (1, am_pv 2013), (2, am_iv x2)], [], am_SH, (J, K, am_RF b))) from rfl) (am_g2 g168 g169 rfl) (decide_eq_false c170) ?_
        obtain rfl := Option.some.inj h
        exact am_r_ret (show am_stepn X T_Reader_isWord 2 true (49, [(0, am_pv 1), (1, am_pv 2013), (2, am_iv x2)], [], am_SH, (J, K, am_RF b)) = some ((decide ((0 : Int) = 0 ∨ (0 : Int) = 1) && true), .inr (.inr (some (am_iv 0), am_SH, (J, K, am_RF b)))) from rfl) (am_g1 (by decide) rfl)
    · rw [if_neg c163] at h
      refine am_r_t (show am_stepn X T_Reader_isWord 1 true (25, [(0, am_pv 1), (1, am_pv 2013), (2, am_iv x2)], [am_iv q159, am_iv x2], am_SH, (J, K, am_RF b)) = some (((decide (am_i32 q159) && decide (am_i32 x2)) && true), .inl (bif am_cb .ge x2 q159 then 57 else 28, [(0, am_pv 1), (1, am_pv 2013), (2, am_iv x2)], [], am_SH, (J, K, am_RF b))) from rfl) (am_g2 g161 g162 rfl) (am_nd_f c163) ?_
      obtain rfl := Option.some.inj h
      exact am_r_ret (show am_stepn X T_Reader_isWord 2 true (57, [(0, am_pv 1), (1, am_pv 2013), (2, am_iv x2)], [], am_SH, (J, K, am_RF b)) = some ((decide ((1 : Int) = 0 ∨ (1 : Int) = 1) && true), .inr (.inr (some (am_iv 1), am_SH, (J, K, am_RF b)))) from rfl) (am_g1 (by decide) rfl)
theorem s_Reader_isWord_2013_ {X : am_X} {b : Bool} {J : am_J} {K : am_K}  {r : Int} (h : f_Reader_isWord 2013 J  = some r) : am_runs X T_Reader_isWord (0, [(0, am_pv 1), (1, am_pv 2013)], [], am_SH, (J, K, am_RF b)) (some (am_iv r), am_SH, (J, K, am_RF b)) := by
  unfold f_Reader_isWord at h
  obtain ⟨q171, e172, h⟩ := am_bind_some h
  refine am_r_call (show am_stepn X T_Reader_isWord 2 true (0, [(0, am_pv 1), (1, am_pv 2013)], [], am_SH, (J, K, am_RF b)) = some (true, .inr (.inl (32, [am_pv 2013], 1, 0, 0, 4, [(0, am_pv 1), (1, am_pv 2013)], [], am_SH, (J, K, am_RF b)))) from rfl) rfl tb_JString_length (s_JString_length (by decide) e172) ?_
  obtain ⟨g173, h⟩ := am_if_some h
  obtain ⟨g174, h⟩ := am_if_some h
  by_cases c175 : q171 = ((J 1 4) - (J 1 6))
  · rw [if_pos c175] at h
    refine am_r_t (show am_stepn X T_Reader_isWord 6 true (4, [(0, am_pv 1), (1, am_pv 2013)], [am_iv q171], am_SH, (J, K, am_RF b)) = some (((decide (am_i32 ((J 1 4) - (J 1 6))) && decide (am_i32 q171)) && true), .inl (bif am_cb .eq q171 ((J 1 4) - (J 1 6)) then 18 else 16, [(0, am_pv 1), (1, am_pv 2013)], [], am_SH, (J, K, am_RF b))) from rfl) (am_g2 g173 g174 rfl) (decide_eq_true c175) ?_
    refine am_r_go (show am_stepn X T_Reader_isWord 2 true (18, [(0, am_pv 1), (1, am_pv 2013)], [], am_SH, (J, K, am_RF b)) = some (true, .inl (20, [(0, am_pv 1), (1, am_pv 2013), (2, am_iv 0)], [], am_SH, (J, K, am_RF b))) from rfl) rfl ?_
    exact s_Reader_isWord_L20_2013_  _ _ _ h
  · rw [if_neg c175] at h
    refine am_r_f (show am_stepn X T_Reader_isWord 6 true (4, [(0, am_pv 1), (1, am_pv 2013)], [am_iv q171], am_SH, (J, K, am_RF b)) = some (((decide (am_i32 ((J 1 4) - (J 1 6))) && decide (am_i32 q171)) && true), .inl (bif am_cb .eq q171 ((J 1 4) - (J 1 6)) then 18 else 16, [(0, am_pv 1), (1, am_pv 2013)], [], am_SH, (J, K, am_RF b))) from rfl) (am_g2 g173 g174 rfl) (decide_eq_false c175) ?_
    obtain rfl := Option.some.inj h
    exact am_r_ret (show am_stepn X T_Reader_isWord 2 true (16, [(0, am_pv 1), (1, am_pv 2013)], [], am_SH, (J, K, am_RF b)) = some ((decide ((0 : Int) = 0 ∨ (0 : Int) = 1) && true), .inr (.inr (some (am_iv 0), am_SH, (J, K, am_RF b)))) from rfl) (am_g1 (by decide) rfl)
theorem s_Reader_isWord {X : am_X} {b : Bool} {o1 : Nat} (ho : o1 = 2000 ∨ o1 = 2001 ∨ o1 = 2002 ∨ o1 = 2003 ∨ o1 = 2004 ∨ o1 = 2005 ∨ o1 = 2006 ∨ o1 = 2007 ∨ o1 = 2008 ∨ o1 = 2009 ∨ o1 = 2010 ∨ o1 = 2011 ∨ o1 = 2012 ∨ o1 = 2013) {J : am_J} {K : am_K}  {r : Int} (h : f_Reader_isWord o1 J  = some r) : am_runs X T_Reader_isWord (0, [(0, am_pv 1), (1, am_pv o1)], [], am_SH, (J, K, am_RF b)) (some (am_iv r), am_SH, (J, K, am_RF b)) := by
  rcases ho with rfl | rfl | rfl | rfl | rfl | rfl | rfl | rfl | rfl | rfl | rfl | rfl | rfl | rfl
  · skip
    exact s_Reader_isWord_2000_ h
  · skip
    exact s_Reader_isWord_2001_ h
  · skip
    exact s_Reader_isWord_2002_ h
  · skip
    exact s_Reader_isWord_2003_ h
  · skip
    exact s_Reader_isWord_2004_ h
  · skip
    exact s_Reader_isWord_2005_ h
  · skip
    exact s_Reader_isWord_2006_ h
  · skip
    exact s_Reader_isWord_2007_ h
  · skip
    exact s_Reader_isWord_2008_ h
  · skip
    exact s_Reader_isWord_2009_ h
  · skip
    exact s_Reader_isWord_2010_ h
  · skip
    exact s_Reader_isWord_2011_ h
  · skip
    exact s_Reader_isWord_2012_ h
  · skip
    exact s_Reader_isWord_2013_ h
theorem s_Reader_wordOf {X : am_X} {b : Bool} {J : am_J} {K : am_K} {x0 : Int} {r : Nat} (h : f_Reader_wordOf  x0 = some r) : am_runs X T_Reader_wordOf (0, [(0, am_iv x0)], [], am_SH, (J, K, am_RF b)) (some (am_pv r), am_SH, (J, K, am_RF b)) := by
  unfold f_Reader_wordOf at h
  obtain ⟨g176, h⟩ := am_if_some h
  by_cases c177 : x0 = 0
  · rw [if_pos c177] at h
    refine am_r_sw (show am_stepn X T_Reader_wordOf 2 true (0, [(0, am_iv x0)], [], am_SH, (J, K, am_RF b)) = some ((decide (am_i32 x0) && true), .inl (am_sw 0 12 [107, 68, 71, 74, 77, 80, 83, 86, 89, 92, 95, 98, 101, 104] x0, [(0, am_iv x0)], [], am_SH, (J, K, am_RF b))) from rfl) (am_g1 g176 rfl) (p := 68) (by rw [c177]; rfl) ?_
    obtain rfl := Option.some.inj h
    exact am_r_ret (show am_stepn X T_Reader_wordOf 2 true (68, [(0, am_iv x0)], [], am_SH, (J, K, am_RF b)) = some (true, .inr (.inr (some (am_pv 2000), am_SH, (J, K, am_RF b)))) from rfl) rfl
  · rw [if_neg c177] at h
    by_cases c178 : x0 = 1
    · rw [if_pos c178] at h
      refine am_r_sw (show am_stepn X T_Reader_wordOf 2 true (0, [(0, am_iv x0)], [], am_SH, (J, K, am_RF b)) = some ((decide (am_i32 x0) && true), .inl (am_sw 0 12 [107, 68, 71, 74, 77, 80, 83, 86, 89, 92, 95, 98, 101, 104] x0, [(0, am_iv x0)], [], am_SH, (J, K, am_RF b))) from rfl) (am_g1 g176 rfl) (p := 71) (by rw [c178]; rfl) ?_
      obtain rfl := Option.some.inj h
      exact am_r_ret (show am_stepn X T_Reader_wordOf 2 true (71, [(0, am_iv x0)], [], am_SH, (J, K, am_RF b)) = some (true, .inr (.inr (some (am_pv 2001), am_SH, (J, K, am_RF b)))) from rfl) rfl
    · rw [if_neg c178] at h
      by_cases c179 : x0 = 2
      · rw [if_pos c179] at h
        refine am_r_sw (show am_stepn X T_Reader_wordOf 2 true (0, [(0, am_iv x0)], [], am_SH, (J, K, am_RF b)) = some ((decide (am_i32 x0) && true), .inl (am_sw 0 12 [107, 68, 71, 74, 77, 80, 83, 86, 89, 92, 95, 98, 101, 104] x0, [(0, am_iv x0)], [], am_SH, (J, K, am_RF b))) from rfl) (am_g1 g176 rfl) (p := 74) (by rw [c179]; rfl) ?_
        obtain rfl := Option.some.inj h
        exact am_r_ret (show am_stepn X T_Reader_wordOf 2 true (74, [(0, am_iv x0)], [], am_SH, (J, K, am_RF b)) = some (true, .inr (.inr (some (am_pv 2002), am_SH, (J, K, am_RF b)))) from rfl) rfl
      · rw [if_neg c179] at h
        by_cases c180 : x0 = 3
        · rw [if_pos c180] at h
          refine am_r_sw (show am_stepn X T_Reader_wordOf 2 true (0, [(0, am_iv x0)], [], am_SH, (J, K, am_RF b)) = some ((decide (am_i32 x0) && true), .inl (am_sw 0 12 [107, 68, 71, 74, 77, 80, 83, 86, 89, 92, 95, 98, 101, 104] x0, [(0, am_iv x0)], [], am_SH, (J, K, am_RF b))) from rfl) (am_g1 g176 rfl) (p := 77) (by rw [c180]; rfl) ?_
          obtain rfl := Option.some.inj h
          exact am_r_ret (show am_stepn X T_Reader_wordOf 2 true (77, [(0, am_iv x0)], [], am_SH, (J, K, am_RF b)) = some (true, .inr (.inr (some (am_pv 2003), am_SH, (J, K, am_RF b)))) from rfl) rfl
        · rw [if_neg c180] at h
          by_cases c181 : x0 = 4
          · rw [if_pos c181] at h
            refine am_r_sw (show am_stepn X T_Reader_wordOf 2 true (0, [(0, am_iv x0)], [], am_SH, (J, K, am_RF b)) = some ((decide (am_i32 x0) && true), .inl (am_sw 0 12 [107, 68, 71, 74, 77, 80, 83, 86, 89, 92, 95, 98, 101, 104] x0, [(0, am_iv x0)], [], am_SH, (J, K, am_RF b))) from rfl) (am_g1 g176 rfl) (p := 80) (by rw [c181]; rfl) ?_
            obtain rfl := Option.some.inj h
            exact am_r_ret (show am_stepn X T_Reader_wordOf 2 true (80, [(0, am_iv x0)], [], am_SH, (J, K, am_RF b)) = some (true, .inr (.inr (some (am_pv 2004), am_SH, (J, K, am_RF b)))) from rfl) rfl
          · rw [if_neg c181] at h
            by_cases c182 : x0 = 5
            · rw [if_pos c182] at h
              refine am_r_sw (show am_stepn X T_Reader_wordOf 2 true (0, [(0, am_iv x0)], [], am_SH, (J, K, am_RF b)) = some ((decide (am_i32 x0) && true), .inl (am_sw 0 12 [107, 68, 71, 74, 77, 80, 83, 86, 89, 92, 95, 98, 101, 104] x0, [(0, am_iv x0)], [], am_SH, (J, K, am_RF b))) from rfl) (am_g1 g176 rfl) (p := 83) (by rw [c182]; rfl) ?_
              obtain rfl := Option.some.inj h
              exact am_r_ret (show am_stepn X T_Reader_wordOf 2 true (83, [(0, am_iv x0)], [], am_SH, (J, K, am_RF b)) = some (true, .inr (.inr (some (am_pv 2005), am_SH, (J, K, am_RF b)))) from rfl) rfl
            · rw [if_neg c182] at h
              by_cases c183 : x0 = 6
              · rw [if_pos c183] at h
                refine am_r_sw (show am_stepn X T_Reader_wordOf 2 true (0, [(0, am_iv x0)], [], am_SH, (J, K, am_RF b)) = some ((decide (am_i32 x0) && true), .inl (am_sw 0 12 [107, 68, 71, 74, 77, 80, 83, 86, 89, 92, 95, 98, 101, 104] x0, [(0, am_iv x0)], [], am_SH, (J, K, am_RF b))) from rfl) (am_g1 g176 rfl) (p := 86) (by rw [c183]; rfl) ?_
                obtain rfl := Option.some.inj h
                exact am_r_ret (show am_stepn X T_Reader_wordOf 2 true (86, [(0, am_iv x0)], [], am_SH, (J, K, am_RF b)) = some (true, .inr (.inr (some (am_pv 2006), am_SH, (J, K, am_RF b)))) from rfl) rfl
              · rw [if_neg c183] at h
                by_cases c184 : x0 = 7
                · rw [if_pos c184] at h
                  refine am_r_sw (show am_stepn X T_Reader_wordOf 2 true (0, [(0, am_iv x0)], [], am_SH, (J, K, am_RF b)) = some ((decide (am_i32 x0) && true), .inl (am_sw 0 12 [107, 68, 71, 74, 77, 80, 83, 86, 89, 92, 95, 98, 101, 104] x0, [(0, am_iv x0)], [], am_SH, (J, K, am_RF b))) from rfl) (am_g1 g176 rfl) (p := 89) (by rw [c184]; rfl) ?_
                  obtain rfl := Option.some.inj h
                  exact am_r_ret (show am_stepn X T_Reader_wordOf 2 true (89, [(0, am_iv x0)], [], am_SH, (J, K, am_RF b)) = some (true, .inr (.inr (some (am_pv 2007), am_SH, (J, K, am_RF b)))) from rfl) rfl
                · rw [if_neg c184] at h
                  by_cases c185 : x0 = 8
                  · rw [if_pos c185] at h
                    refine am_r_sw (show am_stepn X T_Reader_wordOf 2 true (0, [(0, am_iv x0)], [], am_SH, (J, K, am_RF b)) = some ((decide (am_i32 x0) && true), .inl (am_sw 0 12 [107, 68, 71, 74, 77, 80, 83, 86, 89, 92, 95, 98, 101, 104] x0, [(0, am_iv x0)], [], am_SH, (J, K, am_RF b))) from rfl) (am_g1 g176 rfl) (p := 92) (by rw [c185]; rfl) ?_
                    obtain rfl := Option.some.inj h
                    exact am_r_ret (show am_stepn X T_Reader_wordOf 2 true (92, [(0, am_iv x0)], [], am_SH, (J, K, am_RF b)) = some (true, .inr (.inr (some (am_pv 2008), am_SH, (J, K, am_RF b)))) from rfl) rfl
                  · rw [if_neg c185] at h
                    by_cases c186 : x0 = 9
                    · rw [if_pos c186] at h
                      refine am_r_sw (show am_stepn X T_Reader_wordOf 2 true (0, [(0, am_iv x0)], [], am_SH, (J, K, am_RF b)) = some ((decide (am_i32 x0) && true), .inl (am_sw 0 12 [107, 68, 71, 74, 77, 80, 83, 86, 89, 92, 95, 98, 101, 104] x0, [(0, am_iv x0)], [], am_SH, (J, K, am_RF b))) from rfl) (am_g1 g176 rfl) (p := 95) (by rw [c186]; rfl) ?_
                      obtain rfl := Option.some.inj h
                      exact am_r_ret (show am_stepn X T_Reader_wordOf 2 true (95, [(0, am_iv x0)], [], am_SH, (J, K, am_RF b)) = some (true, .inr (.inr (some (am_pv 2009), am_SH, (J, K, am_RF b)))) from rfl) rfl
                    · rw [if_neg c186] at h
                      by_cases c187 : x0 = 10
                      · rw [if_pos c187] at h
                        refine am_r_sw (show am_stepn X T_Reader_wordOf 2 true (0, [(0, am_iv x0)], [], am_SH, (J, K, am_RF b)) = some ((decide (am_i32 x0) && true), .inl (am_sw 0 12 [107, 68, 71, 74, 77, 80, 83, 86, 89, 92, 95, 98, 101, 104] x0, [(0, am_iv x0)], [], am_SH, (J, K, am_RF b))) from rfl) (am_g1 g176 rfl) (p := 98) (by rw [c187]; rfl) ?_
                        obtain rfl := Option.some.inj h
                        exact am_r_ret (show am_stepn X T_Reader_wordOf 2 true (98, [(0, am_iv x0)], [], am_SH, (J, K, am_RF b)) = some (true, .inr (.inr (some (am_pv 2010), am_SH, (J, K, am_RF b)))) from rfl) rfl
                      · rw [if_neg c187] at h
                        by_cases c188 : x0 = 11
                        · rw [if_pos c188] at h
                          refine am_r_sw (show am_stepn X T_Reader_wordOf 2 true (0, [(0, am_iv x0)], [], am_SH, (J, K, am_RF b)) = some ((decide (am_i32 x0) && true), .inl (am_sw 0 12 [107, 68, 71, 74, 77, 80, 83, 86, 89, 92, 95, 98, 101, 104] x0, [(0, am_iv x0)], [], am_SH, (J, K, am_RF b))) from rfl) (am_g1 g176 rfl) (p := 101) (by rw [c188]; rfl) ?_
                          obtain rfl := Option.some.inj h
                          exact am_r_ret (show am_stepn X T_Reader_wordOf 2 true (101, [(0, am_iv x0)], [], am_SH, (J, K, am_RF b)) = some (true, .inr (.inr (some (am_pv 2011), am_SH, (J, K, am_RF b)))) from rfl) rfl
                        · rw [if_neg c188] at h
                          by_cases c189 : x0 = 12
                          · rw [if_pos c189] at h
                            refine am_r_sw (show am_stepn X T_Reader_wordOf 2 true (0, [(0, am_iv x0)], [], am_SH, (J, K, am_RF b)) = some ((decide (am_i32 x0) && true), .inl (am_sw 0 12 [107, 68, 71, 74, 77, 80, 83, 86, 89, 92, 95, 98, 101, 104] x0, [(0, am_iv x0)], [], am_SH, (J, K, am_RF b))) from rfl) (am_g1 g176 rfl) (p := 104) (by rw [c189]; rfl) ?_
                            obtain rfl := Option.some.inj h
                            exact am_r_ret (show am_stepn X T_Reader_wordOf 2 true (104, [(0, am_iv x0)], [], am_SH, (J, K, am_RF b)) = some (true, .inr (.inr (some (am_pv 2012), am_SH, (J, K, am_RF b)))) from rfl) rfl
                          · rw [if_neg c189] at h
                            refine am_r_sw (show am_stepn X T_Reader_wordOf 2 true (0, [(0, am_iv x0)], [], am_SH, (J, K, am_RF b)) = some ((decide (am_i32 x0) && true), .inl (am_sw 0 12 [107, 68, 71, 74, 77, 80, 83, 86, 89, 92, 95, 98, 101, 104] x0, [(0, am_iv x0)], [], am_SH, (J, K, am_RF b))) from rfl) (am_g1 g176 rfl) (p := 107) (am_sw_out (by omega)) ?_
                            obtain rfl := Option.some.inj h
                            exact am_r_ret (show am_stepn X T_Reader_wordOf 2 true (107, [(0, am_iv x0)], [], am_SH, (J, K, am_RF b)) = some (true, .inr (.inr (some (am_pv 2013), am_SH, (J, K, am_RF b)))) from rfl) rfl
theorem dom_wordOf {x : Int} {r : Nat} (h : f_Reader_wordOf x = some r) : r = 2000 ∨ r = 2001 ∨ r = 2002 ∨ r = 2003 ∨ r = 2004 ∨ r = 2005 ∨ r = 2006 ∨ r = 2007 ∨ r = 2008 ∨ r = 2009 ∨ r = 2010 ∨ r = 2011 ∨ r = 2012 ∨ r = 2013 := by
  unfold f_Reader_wordOf at h
  obtain ⟨-, h⟩ := am_if_some h
  by_cases c0 : x = 0
  · rw [if_pos c0] at h
    cases h
    decide
  rw [if_neg c0] at h
  by_cases c1 : x = 1
  · rw [if_pos c1] at h
    cases h
    decide
  rw [if_neg c1] at h
  by_cases c2 : x = 2
  · rw [if_pos c2] at h
    cases h
    decide
  rw [if_neg c2] at h
  by_cases c3 : x = 3
  · rw [if_pos c3] at h
    cases h
    decide
  rw [if_neg c3] at h
  by_cases c4 : x = 4
  · rw [if_pos c4] at h
    cases h
    decide
  rw [if_neg c4] at h
  by_cases c5 : x = 5
  · rw [if_pos c5] at h
    cases h
    decide
  rw [if_neg c5] at h
  by_cases c6 : x = 6
  · rw [if_pos c6] at h
    cases h
    decide
  rw [if_neg c6] at h
  by_cases c7 : x = 7
  · rw [if_pos c7] at h
    cases h
    decide
  rw [if_neg c7] at h
  by_cases c8 : x = 8
  · rw [if_pos c8] at h
    cases h
    decide
  rw [if_neg c8] at h
  by_cases c9 : x = 9
  · rw [if_pos c9] at h
    cases h
    decide
  rw [if_neg c9] at h
  by_cases c10 : x = 10
  · rw [if_pos c10] at h
    cases h
    decide
  rw [if_neg c10] at h
  by_cases c11 : x = 11
  · rw [if_pos c11] at h
    cases h
    decide
  rw [if_neg c11] at h
  by_cases c12 : x = 12
  · rw [if_pos c12] at h
    cases h
    decide
  rw [if_neg c12] at h
  cases h
  decide
theorem s_Reader_kindOfName_L2 {X : am_X} {b : Bool} {J : am_J} {K : am_K}  : ∀ (n : Nat) (x1 : Int) (r : Int), f_Reader_kindOfName_L2 J  n x1 = some r → am_runs X T_Reader_kindOfName (2, [(0, am_pv 1), (1, am_iv x1)], [], am_SH, (J, K, am_RF b)) (some (am_iv r), am_SH, (J, K, am_RF b)) := by
  intro n
  induction n with
  | zero =>
    intro x1 r h
    cases h
  | succ n ih =>
    intro x1 r h
    rw [f_Reader_kindOfName_L2.eq_2] at h
    obtain ⟨g190, h⟩ := am_if_some h
    by_cases c191 : x1 < 14
    · rw [if_pos c191] at h
      refine am_r_f (show am_stepn X T_Reader_kindOfName 3 true (2, [(0, am_pv 1), (1, am_iv x1)], [], am_SH, (J, K, am_RF b)) = some (((decide (am_i32 14) && decide (am_i32 x1)) && true), .inl (bif am_cb .ge x1 14 then 27 else 8, [(0, am_pv 1), (1, am_iv x1)], [], am_SH, (J, K, am_RF b))) from rfl) (am_g2 (by decide) g190 rfl) (am_nd_t c191) ?_
      obtain ⟨q192, e193, h⟩ := am_bind_some h
      refine am_r_call (show am_stepn X T_Reader_kindOfName 3 true (8, [(0, am_pv 1), (1, am_iv x1)], [], am_SH, (J, K, am_RF b)) = some (true, .inr (.inl (30, [am_iv x1], 1, 0, 0, 13, [(0, am_pv 1), (1, am_iv x1)], [am_pv 1], am_SH, (J, K, am_RF b)))) from rfl) rfl tb_Reader_wordOf (s_Reader_wordOf e193) ?_
      obtain ⟨q194, e195, h⟩ := am_bind_some h
      refine am_r_call (show am_stepn X T_Reader_kindOfName 1 true (13, [(0, am_pv 1), (1, am_iv x1)], [am_pv q192, am_pv 1], am_SH, (J, K, am_RF b)) = some (true, .inr (.inl (31, [am_pv 1, am_pv q192], 3, 0, 0, 16, [(0, am_pv 1), (1, am_iv x1)], [], am_SH, (J, K, am_RF b)))) from rfl) rfl tb_Reader_isWord (s_Reader_isWord (dom_wordOf e193) e195) ?_
      obtain ⟨g196, h⟩ := am_if_some h
      by_cases c197 : q194 = 0
      · rw [if_pos c197] at h
        refine am_r_t (show am_stepn X T_Reader_kindOfName 1 true (16, [(0, am_pv 1), (1, am_iv x1)], [am_iv q194], am_SH, (J, K, am_RF b)) = some ((decide (am_i32 q194) && true), .inl (bif am_cb .eq q194 0 then 21 else 19, [(0, am_pv 1), (1, am_iv x1)], [], am_SH, (J, K, am_RF b))) from rfl) (am_g1 g196 rfl) (decide_eq_true c197) ?_
        refine am_r_go (show am_stepn X T_Reader_kindOfName 2 true (21, [(0, am_pv 1), (1, am_iv x1)], [], am_SH, (J, K, am_RF b)) = some (true, .inl (2, [(0, am_pv 1), (1, am_iv (x1 + 1))], [], am_SH, (J, K, am_RF b))) from rfl) rfl ?_
        exact ih _ _ h
      · rw [if_neg c197] at h
        refine am_r_f (show am_stepn X T_Reader_kindOfName 1 true (16, [(0, am_pv 1), (1, am_iv x1)], [am_iv q194], am_SH, (J, K, am_RF b)) = some ((decide (am_i32 q194) && true), .inl (bif am_cb .eq q194 0 then 21 else 19, [(0, am_pv 1), (1, am_iv x1)], [], am_SH, (J, K, am_RF b))) from rfl) (am_g1 g196 rfl) (decide_eq_false c197) ?_
        obtain rfl := Option.some.inj h
        exact am_r_ret (show am_stepn X T_Reader_kindOfName 2 true (19, [(0, am_pv 1), (1, am_iv x1)], [], am_SH, (J, K, am_RF b)) = some (true, .inr (.inr (some (am_iv x1), am_SH, (J, K, am_RF b)))) from rfl) rfl
    · rw [if_neg c191] at h
      refine am_r_t (show am_stepn X T_Reader_kindOfName 3 true (2, [(0, am_pv 1), (1, am_iv x1)], [], am_SH, (J, K, am_RF b)) = some (((decide (am_i32 14) && decide (am_i32 x1)) && true), .inl (bif am_cb .ge x1 14 then 27 else 8, [(0, am_pv 1), (1, am_iv x1)], [], am_SH, (J, K, am_RF b))) from rfl) (am_g2 (by decide) g190 rfl) (am_nd_f c191) ?_
      obtain rfl := Option.some.inj h
      exact am_r_ret (show am_stepn X T_Reader_kindOfName 2 true (27, [(0, am_pv 1), (1, am_iv x1)], [], am_SH, (J, K, am_RF b)) = some (true, .inr (.inr (some (am_iv 14), am_SH, (J, K, am_RF b)))) from rfl) rfl
theorem s_Reader_kindOfName {X : am_X} {b : Bool} {J : am_J} {K : am_K}  {r : Int} (h : f_Reader_kindOfName J  = some r) : am_runs X T_Reader_kindOfName (0, [(0, am_pv 1)], [], am_SH, (J, K, am_RF b)) (some (am_iv r), am_SH, (J, K, am_RF b)) := by
  unfold f_Reader_kindOfName at h
  refine am_r_go (show am_stepn X T_Reader_kindOfName 2 true (0, [(0, am_pv 1)], [], am_SH, (J, K, am_RF b)) = some (true, .inl (2, [(0, am_pv 1), (1, am_iv 0)], [], am_SH, (J, K, am_RF b))) from rfl) rfl ?_
  exact s_Reader_kindOfName_L2  _ _ _ h
theorem s_Reader_leastOf {X : am_X} {b : Bool} {J : am_J} {K : am_K} {x1 : Int} {x2 : Int} {r : Int} (h : f_Reader_leastOf J x1 x2 = some r) : am_runs X T_Reader_leastOf (0, [(0, am_pv 1), (1, am_iv x1), (2, am_iv x2)], [], am_SH, (J, K, am_RF b)) (some (am_iv r), am_SH, (J, K, am_RF b)) := by
  unfold f_Reader_leastOf at h
  obtain ⟨g198, h⟩ := am_if_some h
  by_cases c199 : x1 < 7
  · rw [if_pos c199] at h
    refine am_r_f (show am_stepn X T_Reader_leastOf 3 true (0, [(0, am_pv 1), (1, am_iv x1), (2, am_iv x2)], [], am_SH, (J, K, am_RF b)) = some (((decide (am_i32 7) && decide (am_i32 x1)) && true), .inl (bif am_cb .ge x1 7 then 12 else 6, [(0, am_pv 1), (1, am_iv x1), (2, am_iv x2)], [], am_SH, (J, K, am_RF b))) from rfl) (am_g2 (by decide) g198 rfl) (am_nd_t c199) ?_
    obtain ⟨g200, h⟩ := am_if_some h
    obtain rfl := Option.some.inj h
    exact am_r_ret (show am_stepn X T_Reader_leastOf 4 true (6, [(0, am_pv 1), (1, am_iv x1), (2, am_iv x2)], [], am_SH, (J, K, am_RF b)) = some ((am_in x1 7 && true), .inr (.inr (some (am_iv (am_least.getD x1.toNat 0)), am_SH, (J, K, am_RF b)))) from rfl) (am_gi g200 rfl)
  · rw [if_neg c199] at h
    refine am_r_t (show am_stepn X T_Reader_leastOf 3 true (0, [(0, am_pv 1), (1, am_iv x1), (2, am_iv x2)], [], am_SH, (J, K, am_RF b)) = some (((decide (am_i32 7) && decide (am_i32 x1)) && true), .inl (bif am_cb .ge x1 7 then 12 else 6, [(0, am_pv 1), (1, am_iv x1), (2, am_iv x2)], [], am_SH, (J, K, am_RF b))) from rfl) (am_g2 (by decide) g198 rfl) (am_nd_f c199) ?_
    by_cases c201 : x1 = 7
    · rw [if_pos c201] at h
      refine am_r_f (show am_stepn X T_Reader_leastOf 3 true (12, [(0, am_pv 1), (1, am_iv x1), (2, am_iv x2)], [], am_SH, (J, K, am_RF b)) = some (((decide (am_i32 7) && decide (am_i32 x1)) && true), .inl (bif am_cb .ne x1 7 then 32 else 18, [(0, am_pv 1), (1, am_iv x1), (2, am_iv x2)], [], am_SH, (J, K, am_RF b))) from rfl) (am_g2 (by decide) g198 rfl) (am_nd_t c201) ?_
      obtain ⟨g202, h⟩ := am_if_some h
      by_cases c203 : x2 = 2
      · rw [if_pos c203] at h
        refine am_r_f (show am_stepn X T_Reader_leastOf 3 true (18, [(0, am_pv 1), (1, am_iv x1), (2, am_iv x2)], [], am_SH, (J, K, am_RF b)) = some (((decide (am_i32 2) && decide (am_i32 x2)) && true), .inl (bif am_cb .ne x2 2 then 32 else 23, [(0, am_pv 1), (2, am_iv x2)], [], am_SH, (J, K, am_RF b))) from rfl) (am_g2 (by decide) g202 rfl) (am_nd_t c203) ?_
        obtain rfl := Option.some.inj h
        exact am_r_ret (show am_stepn X T_Reader_leastOf 6 true (23, [(0, am_pv 1), (2, am_iv x2)], [], am_SH, (J, K, am_RF b)) = some ((am_in 1 12 && true), .inr (.inr (some (am_iv (J 5 1)), am_SH, (J, K, am_RF b)))) from rfl) (am_gi (by decide) rfl)
      · rw [if_neg c203] at h
        refine am_r_t (show am_stepn X T_Reader_leastOf 3 true (18, [(0, am_pv 1), (1, am_iv x1), (2, am_iv x2)], [], am_SH, (J, K, am_RF b)) = some (((decide (am_i32 2) && decide (am_i32 x2)) && true), .inl (bif am_cb .ne x2 2 then 32 else 23, [(0, am_pv 1), (2, am_iv x2)], [], am_SH, (J, K, am_RF b))) from rfl) (am_g2 (by decide) g202 rfl) (am_nd_f c203) ?_
        obtain rfl := Option.some.inj h
        exact am_r_ret (show am_stepn X T_Reader_leastOf 2 true (32, [(0, am_pv 1), (2, am_iv x2)], [], am_SH, (J, K, am_RF b)) = some (true, .inr (.inr (some (am_iv 0), am_SH, (J, K, am_RF b)))) from rfl) rfl
    · rw [if_neg c201] at h
      refine am_r_t (show am_stepn X T_Reader_leastOf 3 true (12, [(0, am_pv 1), (1, am_iv x1), (2, am_iv x2)], [], am_SH, (J, K, am_RF b)) = some (((decide (am_i32 7) && decide (am_i32 x1)) && true), .inl (bif am_cb .ne x1 7 then 32 else 18, [(0, am_pv 1), (1, am_iv x1), (2, am_iv x2)], [], am_SH, (J, K, am_RF b))) from rfl) (am_g2 (by decide) g198 rfl) (am_nd_f c201) ?_
      obtain rfl := Option.some.inj h
      exact am_r_ret (show am_stepn X T_Reader_leastOf 2 true (32, [(0, am_pv 1), (1, am_iv x1), (2, am_iv x2)], [], am_SH, (J, K, am_RF b)) = some (true, .inr (.inr (some (am_iv 0), am_SH, (J, K, am_RF b)))) from rfl) rfl
