theorem s_UpRiverModel_text_L63 {X : am_X} {b : Bool} {K : am_K}  : ∀ (x1 : Int) (s1 : Int) (J : am_J) (r : Int × am_J), f_UpRiverModel_text_L63    x1 s1 J = some r → am_runs X T_UpRiverModel_text (63, [(0, am_pv 65), (1, am_iv x1)], [am_iv s1, am_pv 65], am_SH, (J, K, am_RF b)) (some (am_iv r.1), am_SH, (r.2, K, am_RF b)) := by
  intro x1 s1 J r h
  unfold f_UpRiverModel_text_L63 at h
  obtain ⟨q1869, e1870, h⟩ := am_bind_some h
  refine am_r_call (show am_stepn X T_UpRiverModel_text 2 true (63, [(0, am_pv 65), (1, am_iv x1)], [am_iv s1, am_pv 65], am_SH, (J, K, am_RF b)) = some (true, .inr (.inl (157, [am_pv 65, am_iv s1, am_iv 5], 3, 0, 0, 67, [(0, am_pv 65), (1, am_iv x1)], [], am_SH, (J, K, am_RF b)))) from rfl) rfl tb_UpRiverModel_needs (s_UpRiverModel_needs e1870) ?_
  obtain ⟨g1871, h⟩ := am_if_some h
  by_cases c1872 : 0 < (q1869 65 13)
  · rw [if_pos c1872] at h
    refine am_r_f (show am_stepn X T_UpRiverModel_text 6 true (67, [(0, am_pv 65), (1, am_iv x1)], [], am_SH, (q1869, K, am_RF b)) = some ((decide (am_i32 (q1869 65 13)) && true), .inl (bif am_cb .le (q1869 65 13) 0 then 87 else 79, [(0, am_pv 65), (1, am_iv x1)], [], am_SH, ((am_up q1869 65 8 0), K, am_RF b))) from rfl) (am_g1 g1871 rfl) (am_nd_t c1872) ?_
    obtain rfl := Option.some.inj h
    exact am_r_ret (show am_stepn X T_UpRiverModel_text 5 true (79, [(0, am_pv 65), (1, am_iv x1)], [], am_SH, ((am_up q1869 65 8 0), K, am_RF b)) = some (true, .inr (.inr (some (am_iv ((-10) - (q1869 65 14))), am_SH, ((am_up q1869 65 8 0), K, am_RF b)))) from rfl) rfl
  · rw [if_neg c1872] at h
    refine am_r_t (show am_stepn X T_UpRiverModel_text 6 true (67, [(0, am_pv 65), (1, am_iv x1)], [], am_SH, (q1869, K, am_RF b)) = some ((decide (am_i32 (q1869 65 13)) && true), .inl (bif am_cb .le (q1869 65 13) 0 then 87 else 79, [(0, am_pv 65), (1, am_iv x1)], [], am_SH, ((am_up q1869 65 8 0), K, am_RF b))) from rfl) (am_g1 g1871 rfl) (am_nd_f c1872) ?_
    obtain ⟨q1873, e1874, h⟩ := am_bind_some h
    refine am_r_call (show am_stepn X T_UpRiverModel_text 2 true (87, [(0, am_pv 65), (1, am_iv x1)], [], am_SH, ((am_up q1869 65 8 0), K, am_RF b)) = some (true, .inr (.inl (151, [am_pv 65], 2, 0, 0, 91, [(0, am_pv 65), (1, am_iv x1)], [], am_SH, ((am_up q1869 65 8 0), K, am_RF b)))) from rfl) rfl tb_UpRiverModel_keepDraft (s_UpRiverModel_keepDraft e1874) ?_
    obtain rfl := Option.some.inj h
    exact am_r_ret (show am_stepn X T_UpRiverModel_text 2 true (91, [(0, am_pv 65), (1, am_iv x1)], [], am_SH, (q1873, K, am_RF b)) = some (true, .inr (.inr (some (am_iv x1), am_SH, (q1873, K, am_RF b)))) from rfl) rfl
theorem s_UpRiverModel_text_L44 {X : am_X} {b : Bool} {K : am_K}  : ∀ (x1 : Int) (J : am_J) (r : Int × am_J), f_UpRiverModel_text_L44    x1 J = some r → am_runs X T_UpRiverModel_text (44, [(0, am_pv 65), (1, am_iv x1)], [], am_SH, (J, K, am_RF b)) (some (am_iv r.1), am_SH, (r.2, K, am_RF b)) := by
  intro x1 J r h
  unfold f_UpRiverModel_text_L44 at h
  obtain ⟨g1875, h⟩ := am_if_some h
  obtain ⟨g1876, h⟩ := am_if_some h
  by_cases c1877 : (J 65 6) < (J 67 0)
  · rw [if_pos c1877] at h
    refine am_r_f (show am_stepn X T_UpRiverModel_text 8 true (44, [(0, am_pv 65), (1, am_iv x1)], [], am_SH, (J, K, am_RF b)) = some (((decide (am_i32 (J 67 0)) && decide (am_i32 (J 65 6))) && (am_in 0 295 && true)), .inl (bif am_cb .ge (J 65 6) (J 67 0) then 62 else 58, [(0, am_pv 65), (1, am_iv x1)], [am_pv 65], am_SH, (J, K, am_RF b))) from rfl) (am_g2 g1875 g1876 (am_gi (by decide) rfl)) (am_nd_t c1877) ?_
    refine am_r_go (show am_stepn X T_UpRiverModel_text 2 true (58, [(0, am_pv 65), (1, am_iv x1)], [am_pv 65], am_SH, (J, K, am_RF b)) = some (true, .inl (63, [(0, am_pv 65), (1, am_iv x1)], [am_iv 1, am_pv 65], am_SH, (J, K, am_RF b))) from rfl) rfl ?_
    exact s_UpRiverModel_text_L63  _ _ _ _ h
  · rw [if_neg c1877] at h
    refine am_r_t (show am_stepn X T_UpRiverModel_text 8 true (44, [(0, am_pv 65), (1, am_iv x1)], [], am_SH, (J, K, am_RF b)) = some (((decide (am_i32 (J 67 0)) && decide (am_i32 (J 65 6))) && (am_in 0 295 && true)), .inl (bif am_cb .ge (J 65 6) (J 67 0) then 62 else 58, [(0, am_pv 65), (1, am_iv x1)], [am_pv 65], am_SH, (J, K, am_RF b))) from rfl) (am_g2 g1875 g1876 (am_gi (by decide) rfl)) (am_nd_f c1877) ?_
    refine am_r_go (show am_stepn X T_UpRiverModel_text 1 true (62, [(0, am_pv 65), (1, am_iv x1)], [am_pv 65], am_SH, (J, K, am_RF b)) = some (true, .inl (63, [(0, am_pv 65), (1, am_iv x1)], [am_iv 0, am_pv 65], am_SH, (J, K, am_RF b))) from rfl) rfl ?_
    exact s_UpRiverModel_text_L63  _ _ _ _ h
theorem s_UpRiverModel_text_L20 {X : am_X} {b : Bool} {K : am_K}  : ∀ (n : Nat) (x1 : Int) (J : am_J) (r : Int × am_J), f_UpRiverModel_text_L20   n x1 J = some r → am_runs X T_UpRiverModel_text (20, [(0, am_pv 65), (1, am_iv x1)], [], am_SH, (J, K, am_RF b)) (some (am_iv r.1), am_SH, (r.2, K, am_RF b)) := by
  intro n
  induction n with
  | zero =>
    intro x1 J r h
    cases h
  | succ n ih =>
    intro x1 J r h
    rw [f_UpRiverModel_text_L20.eq_2] at h
    obtain ⟨g1878, h⟩ := am_if_some h
    by_cases c1879 : (J 65 13) = 0
    · rw [if_pos c1879] at h
      refine am_r_f (show am_stepn X T_UpRiverModel_text 3 true (20, [(0, am_pv 65), (1, am_iv x1)], [], am_SH, (J, K, am_RF b)) = some ((decide (am_i32 (J 65 13)) && true), .inl (bif am_cb .ne (J 65 13) 0 then 44 else 27, [(0, am_pv 65), (1, am_iv x1)], [], am_SH, (J, K, am_RF b))) from rfl) (am_g1 g1878 rfl) (am_nd_t c1879) ?_
      obtain ⟨g1880, h⟩ := am_if_some h
      by_cases c1881 : (J 65 11) = 0
      · rw [if_pos c1881] at h
        refine am_r_t (show am_stepn X T_UpRiverModel_text 3 true (27, [(0, am_pv 65), (1, am_iv x1)], [], am_SH, (J, K, am_RF b)) = some ((decide (am_i32 (J 65 11)) && true), .inl (bif am_cb .eq (J 65 11) 0 then 44 else 34, [(0, am_pv 65), (1, am_iv x1)], [], am_SH, (J, K, am_RF b))) from rfl) (am_g1 g1880 rfl) (decide_eq_true c1881) ?_
        exact s_UpRiverModel_text_L44  _ _ _ h
      · rw [if_neg c1881] at h
        refine am_r_f (show am_stepn X T_UpRiverModel_text 3 true (27, [(0, am_pv 65), (1, am_iv x1)], [], am_SH, (J, K, am_RF b)) = some ((decide (am_i32 (J 65 11)) && true), .inl (bif am_cb .eq (J 65 11) 0 then 44 else 34, [(0, am_pv 65), (1, am_iv x1)], [], am_SH, (J, K, am_RF b))) from rfl) (am_g1 g1880 rfl) (decide_eq_false c1881) ?_
        obtain ⟨q1882, e1883, h⟩ := am_bind_some h
        refine am_r_call (show am_stepn X T_UpRiverModel_text 2 true (34, [(0, am_pv 65), (1, am_iv x1)], [], am_SH, (J, K, am_RF b)) = some (true, .inr (.inl (158, [am_pv 65], 2, 0, 0, 38, [(0, am_pv 65), (1, am_iv x1)], [], am_SH, (J, K, am_RF b)))) from rfl) rfl tb_UpRiverModel_readLine (s_UpRiverModel_readLine e1883) ?_
        refine am_r_go (show am_stepn X T_UpRiverModel_text 2 true (38, [(0, am_pv 65), (1, am_iv x1)], [], am_SH, (q1882, K, am_RF b)) = some (true, .inl (20, [(0, am_pv 65), (1, am_iv (x1 + 1))], [], am_SH, (q1882, K, am_RF b))) from rfl) rfl ?_
        exact ih _ _ _ h
    · rw [if_neg c1879] at h
      refine am_r_t (show am_stepn X T_UpRiverModel_text 3 true (20, [(0, am_pv 65), (1, am_iv x1)], [], am_SH, (J, K, am_RF b)) = some ((decide (am_i32 (J 65 13)) && true), .inl (bif am_cb .ne (J 65 13) 0 then 44 else 27, [(0, am_pv 65), (1, am_iv x1)], [], am_SH, (J, K, am_RF b))) from rfl) (am_g1 g1878 rfl) (am_nd_f c1879) ?_
      exact s_UpRiverModel_text_L44  _ _ _ h
theorem s_UpRiverModel_text {X : am_X} {b : Bool} {K : am_K} {J : am_J} {r : Int × am_J} (h : f_UpRiverModel_text  J = some r) : am_runs X T_UpRiverModel_text (0, [(0, am_pv 65)], [], am_SH, (J, K, am_RF b)) (some (am_iv r.1), am_SH, (r.2, K, am_RF b)) := by
  unfold f_UpRiverModel_text at h
  obtain ⟨q1884, e1885, h⟩ := am_bind_some h
  refine am_r_call (show am_stepn X T_UpRiverModel_text 10 true (0, [(0, am_pv 65)], [], am_SH, (J, K, am_RF b)) = some (true, .inr (.inl (149, [am_pv 65], 2, 0, 0, 16, [(0, am_pv 65), (1, am_iv 0)], [], am_SH, ((am_up (am_up J 65 13 0) 65 9 0), K, am_RF b)))) from rfl) rfl tb_UpRiverModel_firstDraft (s_UpRiverModel_firstDraft e1885) ?_
  obtain ⟨q1886, e1887, h⟩ := am_bind_some h
  refine am_r_call (show am_stepn X T_UpRiverModel_text 2 true (16, [(0, am_pv 65), (1, am_iv 0)], [], am_SH, (q1884, K, am_RF b)) = some (true, .inr (.inl (155, [am_pv 65], 2, 0, 0, 20, [(0, am_pv 65), (1, am_iv 0)], [], am_SH, (q1884, K, am_RF b)))) from rfl) rfl tb_UpRiverModel_next (s_UpRiverModel_next e1887) ?_
  exact s_UpRiverModel_text_L20  _ _ _ _ h
theorem s_UpRiverModel_fault {X : am_X} {b : Bool} {J : am_J} {K : am_K}  {r : Int} (h : f_UpRiverModel_fault J  = some r) : am_runs X T_UpRiverModel_fault (0, [(0, am_pv 65)], [], am_SH, (J, K, am_RF b)) (some (am_iv r), am_SH, (J, K, am_RF b)) := by
  unfold f_UpRiverModel_fault at h
  obtain rfl := Option.some.inj h
  exact am_r_ret (show am_stepn X T_UpRiverModel_fault 3 true (0, [(0, am_pv 65)], [], am_SH, (J, K, am_RF b)) = some (true, .inr (.inr (some (am_iv (J 65 13)), am_SH, (J, K, am_RF b)))) from rfl) rfl
theorem s_UpRiverModel_rule {X : am_X} {b : Bool} {J : am_J} {K : am_K} {x1 : Int} {r : Int} (h : f_UpRiverModel_rule J x1 = some r) : am_runs X T_UpRiverModel_rule (0, [(0, am_pv 65), (1, am_iv x1)], [], am_SH, (J, K, am_RF b)) (some (am_iv r), am_SH, (J, K, am_RF b)) := by
  unfold f_UpRiverModel_rule at h
  obtain ⟨q1888, e1889, h⟩ := am_bind_some h
  refine am_r_call (show am_stepn X T_UpRiverModel_rule 5 true (0, [(0, am_pv 65), (1, am_iv x1)], [], am_SH, (J, K, am_RF b)) = some (true, .inr (.inl (150, [am_jv (am_i2l x1), am_jv (0 : Int64), am_jv (6 : Int64)], 6, 0, 0, 9, [(0, am_pv 65), (1, am_iv x1)], [], am_SH, (J, K, am_RF b)))) from rfl) rfl tb_UpRiverModel_in (s_UpRiverModel_in e1889) ?_
  obtain ⟨g1890, h⟩ := am_if_some h
  by_cases c1891 : q1888 = 0
  · rw [if_pos c1891] at h
    refine am_r_t (show am_stepn X T_UpRiverModel_rule 1 true (9, [(0, am_pv 65), (1, am_iv x1)], [am_iv q1888], am_SH, (J, K, am_RF b)) = some ((decide (am_i32 q1888) && true), .inl (bif am_cb .eq q1888 0 then 21 else 12, [(0, am_pv 65), (1, am_iv x1)], [], am_SH, (J, K, am_RF b))) from rfl) (am_g1 g1890 rfl) (decide_eq_true c1891) ?_
    obtain ⟨q1892, e1893, h⟩ := am_bind_some h
    refine am_r_call (show am_stepn X T_UpRiverModel_rule 5 true (21, [(0, am_pv 65), (1, am_iv x1)], [], am_SH, (J, K, am_RF b)) = some (true, .inr (.inl (150, [am_jv (am_i2l x1), am_jv (10 : Int64), am_jv (21 : Int64)], 6, 0, 0, 32, [(0, am_pv 65), (1, am_iv x1)], [], am_SH, (J, K, am_RF b)))) from rfl) rfl tb_UpRiverModel_in (s_UpRiverModel_in e1893) ?_
    obtain ⟨g1894, h⟩ := am_if_some h
    by_cases c1895 : q1892 = 0
    · rw [if_pos c1895] at h
      refine am_r_t (show am_stepn X T_UpRiverModel_rule 1 true (32, [(0, am_pv 65), (1, am_iv x1)], [am_iv q1892], am_SH, (J, K, am_RF b)) = some ((decide (am_i32 q1892) && true), .inl (bif am_cb .eq q1892 0 then 51 else 35, [(0, am_pv 65), (1, am_iv x1)], [], am_SH, (J, K, am_RF b))) from rfl) (am_g1 g1894 rfl) (decide_eq_true c1895) ?_
      obtain ⟨q1896, e1897, h⟩ := am_bind_some h
      refine am_r_call (show am_stepn X T_UpRiverModel_rule 5 true (51, [(0, am_pv 65), (1, am_iv x1)], [], am_SH, (J, K, am_RF b)) = some (true, .inr (.inl (150, [am_jv (am_i2l x1), am_jv (30 : Int64), am_jv (41 : Int64)], 6, 0, 0, 62, [(0, am_pv 65), (1, am_iv x1)], [], am_SH, (J, K, am_RF b)))) from rfl) rfl tb_UpRiverModel_in (s_UpRiverModel_in e1897) ?_
      obtain ⟨g1898, h⟩ := am_if_some h
      by_cases c1899 : q1896 = 0
      · rw [if_pos c1899] at h
        refine am_r_t (show am_stepn X T_UpRiverModel_rule 1 true (62, [(0, am_pv 65), (1, am_iv x1)], [am_iv q1896], am_SH, (J, K, am_RF b)) = some ((decide (am_i32 q1896) && true), .inl (bif am_cb .eq q1896 0 then 81 else 65, [(0, am_pv 65), (1, am_iv x1)], [], am_SH, (J, K, am_RF b))) from rfl) (am_g1 g1898 rfl) (decide_eq_true c1899) ?_
        obtain rfl := Option.some.inj h
        exact am_r_ret (show am_stepn X T_UpRiverModel_rule 2 true (81, [(0, am_pv 65), (1, am_iv x1)], [], am_SH, (J, K, am_RF b)) = some (true, .inr (.inr (some (am_iv (-1)), am_SH, (J, K, am_RF b)))) from rfl) rfl
      · rw [if_neg c1899] at h
        refine am_r_f (show am_stepn X T_UpRiverModel_rule 1 true (62, [(0, am_pv 65), (1, am_iv x1)], [am_iv q1896], am_SH, (J, K, am_RF b)) = some ((decide (am_i32 q1896) && true), .inl (bif am_cb .eq q1896 0 then 81 else 65, [(0, am_pv 65), (1, am_iv x1)], [], am_SH, (J, K, am_RF b))) from rfl) (am_g1 g1898 rfl) (decide_eq_false c1899) ?_
        obtain ⟨g1900, h⟩ := am_if_some h
        obtain rfl := Option.some.inj h
        exact am_r_ret (show am_stepn X T_UpRiverModel_rule 10 true (65, [(0, am_pv 65), (1, am_iv x1)], [], am_SH, (J, K, am_RF b)) = some ((am_in ((283 + x1) - 30) 295 && true), .inr (.inr (some (am_iv (J 66 (((283 + x1) - 30).toNat))), am_SH, (J, K, am_RF b)))) from rfl) (am_gi g1900 rfl)
    · rw [if_neg c1895] at h
      refine am_r_f (show am_stepn X T_UpRiverModel_rule 1 true (32, [(0, am_pv 65), (1, am_iv x1)], [am_iv q1892], am_SH, (J, K, am_RF b)) = some ((decide (am_i32 q1892) && true), .inl (bif am_cb .eq q1892 0 then 51 else 35, [(0, am_pv 65), (1, am_iv x1)], [], am_SH, (J, K, am_RF b))) from rfl) (am_g1 g1894 rfl) (decide_eq_false c1895) ?_
      obtain ⟨g1901, h⟩ := am_if_some h
      obtain rfl := Option.some.inj h
      exact am_r_ret (show am_stepn X T_UpRiverModel_rule 10 true (35, [(0, am_pv 65), (1, am_iv x1)], [], am_SH, (J, K, am_RF b)) = some ((am_in ((271 + x1) - 10) 295 && true), .inr (.inr (some (am_iv (J 66 (((271 + x1) - 10).toNat))), am_SH, (J, K, am_RF b)))) from rfl) (am_gi g1901 rfl)
  · rw [if_neg c1891] at h
    refine am_r_f (show am_stepn X T_UpRiverModel_rule 1 true (9, [(0, am_pv 65), (1, am_iv x1)], [am_iv q1888], am_SH, (J, K, am_RF b)) = some ((decide (am_i32 q1888) && true), .inl (bif am_cb .eq q1888 0 then 21 else 12, [(0, am_pv 65), (1, am_iv x1)], [], am_SH, (J, K, am_RF b))) from rfl) (am_g1 g1890 rfl) (decide_eq_false c1891) ?_
    obtain ⟨g1902, h⟩ := am_if_some h
    obtain rfl := Option.some.inj h
    exact am_r_ret (show am_stepn X T_UpRiverModel_rule 6 true (12, [(0, am_pv 65), (1, am_iv x1)], [], am_SH, (J, K, am_RF b)) = some ((am_in x1 295 && true), .inr (.inr (some (am_iv (J 66 x1.toNat)), am_SH, (J, K, am_RF b)))) from rfl) (am_gi g1902 rfl)
theorem s_UpRiverModel_isReach {X : am_X} {b : Bool} {J : am_J} {K : am_K} {x1 : Int} {r : Int} (h : f_UpRiverModel_isReach J x1 = some r) : am_runs X T_UpRiverModel_isReach (0, [(0, am_pv 65), (1, am_iv x1)], [], am_SH, (J, K, am_RF b)) (some (am_iv r), am_SH, (J, K, am_RF b)) := by
  unfold f_UpRiverModel_isReach at h
  obtain ⟨q1903, e1904, h⟩ := am_bind_some h
  refine am_r_call (show am_stepn X T_UpRiverModel_isReach 11 true (0, [(0, am_pv 65), (1, am_iv x1)], [], am_SH, (J, K, am_RF b)) = some ((am_in 0 295 && true), .inr (.inl (150, [am_jv (am_i2l x1), am_jv (0 : Int64), am_jv (am_i2l ((J 66 0) - 1))], 6, 0, 0, 15, [(0, am_pv 65), (1, am_iv x1)], [], am_SH, (J, K, am_RF b)))) from rfl) (am_gi (by decide) rfl) tb_UpRiverModel_in (s_UpRiverModel_in e1904) ?_
  obtain ⟨g1905, h⟩ := am_if_some h
  obtain rfl := Option.some.inj h
  exact am_r_ret (show am_stepn X T_UpRiverModel_isReach 1 true (15, [(0, am_pv 65), (1, am_iv x1)], [am_iv q1903], am_SH, (J, K, am_RF b)) = some ((decide ((q1903 : Int) = 0 ∨ (q1903 : Int) = 1) && true), .inr (.inr (some (am_iv q1903), am_SH, (J, K, am_RF b)))) from rfl) (am_g1 g1905 rfl)
theorem s_UpRiverModel_wayOf {X : am_X} {b : Bool} {J : am_J} {K : am_K} {x1 : Int} {x2 : Int} {r : Int} (h : f_UpRiverModel_wayOf J x1 x2 = some r) : am_runs X T_UpRiverModel_wayOf (0, [(0, am_pv 65), (1, am_iv x1), (2, am_iv x2)], [], am_SH, (J, K, am_RF b)) (some (am_iv r), am_SH, (J, K, am_RF b)) := by
  unfold f_UpRiverModel_wayOf at h
  obtain ⟨g1906, h⟩ := am_if_some h
  obtain ⟨g1907, h⟩ := am_if_some h
  by_cases c1908 : (J 66 ((31 + x1).toNat)) = 1
  · rw [if_pos c1908] at h
    refine am_r_f (show am_stepn X T_UpRiverModel_wayOf 8 true (0, [(0, am_pv 65), (1, am_iv x1), (2, am_iv x2)], [], am_SH, (J, K, am_RF b)) = some (((decide (am_i32 1) && decide (am_i32 (J 66 ((31 + x1).toNat)))) && (am_in (31 + x1) 295 && true)), .inl (bif am_cb .ne (J 66 ((31 + x1).toNat)) 1 then 15 else 13, [(0, am_pv 65), (1, am_iv x1), (2, am_iv x2)], [], am_SH, (J, K, am_RF b))) from rfl) (am_g2 (by decide) g1907 (am_gi g1906 rfl)) (am_nd_t c1908) ?_
    obtain rfl := Option.some.inj h
    exact am_r_ret (show am_stepn X T_UpRiverModel_wayOf 2 true (13, [(0, am_pv 65), (1, am_iv x1), (2, am_iv x2)], [], am_SH, (J, K, am_RF b)) = some (true, .inr (.inr (some (am_iv 1), am_SH, (J, K, am_RF b)))) from rfl) rfl
  · rw [if_neg c1908] at h
    refine am_r_t (show am_stepn X T_UpRiverModel_wayOf 8 true (0, [(0, am_pv 65), (1, am_iv x1), (2, am_iv x2)], [], am_SH, (J, K, am_RF b)) = some (((decide (am_i32 1) && decide (am_i32 (J 66 ((31 + x1).toNat)))) && (am_in (31 + x1) 295 && true)), .inl (bif am_cb .ne (J 66 ((31 + x1).toNat)) 1 then 15 else 13, [(0, am_pv 65), (1, am_iv x1), (2, am_iv x2)], [], am_SH, (J, K, am_RF b))) from rfl) (am_g2 (by decide) g1907 (am_gi g1906 rfl)) (am_nd_f c1908) ?_
    obtain ⟨g1909, h⟩ := am_if_some h
    obtain ⟨g1910, h⟩ := am_if_some h
    by_cases c1911 : x2 = 0
    · rw [if_pos c1911] at h
      refine am_r_f (show am_stepn X T_UpRiverModel_wayOf 20 true (15, [(0, am_pv 65), (1, am_iv x1), (2, am_iv x2)], [], am_SH, (J, K, am_RF b)) = some ((decide (am_i32 x2) && (am_in 3 295 && (am_in 4 295 && (am_in (43 + x1) 295 && true)))), .inl (bif am_cb .ne x2 0 then 48 else 44, [(0, am_pv 65), (1, am_iv x1), (2, am_iv x2), (3, am_iv (((J 66 ((43 + x1).toNat)) - 1) * (J 66 4)))], [am_iv (J 66 3)], am_SH, (J, K, am_RF b))) from rfl) (am_g1 g1910 (am_gi (by decide) (am_gi (by decide) (am_gi g1909 rfl)))) (am_nd_t c1911) ?_
      obtain rfl := Option.some.inj h
      exact am_r_ret (show am_stepn X T_UpRiverModel_wayOf 4 true (44, [(0, am_pv 65), (1, am_iv x1), (2, am_iv x2), (3, am_iv (((J 66 ((43 + x1).toNat)) - 1) * (J 66 4)))], [am_iv (J 66 3)], am_SH, (J, K, am_RF b)) = some (true, .inr (.inr (some (am_iv ((J 66 3) + (((J 66 ((43 + x1).toNat)) - 1) * (J 66 4)))), am_SH, (J, K, am_RF b)))) from rfl) rfl
    · rw [if_neg c1911] at h
      refine am_r_t (show am_stepn X T_UpRiverModel_wayOf 20 true (15, [(0, am_pv 65), (1, am_iv x1), (2, am_iv x2)], [], am_SH, (J, K, am_RF b)) = some ((decide (am_i32 x2) && (am_in 3 295 && (am_in 4 295 && (am_in (43 + x1) 295 && true)))), .inl (bif am_cb .ne x2 0 then 48 else 44, [(0, am_pv 65), (1, am_iv x1), (2, am_iv x2), (3, am_iv (((J 66 ((43 + x1).toNat)) - 1) * (J 66 4)))], [am_iv (J 66 3)], am_SH, (J, K, am_RF b))) from rfl) (am_g1 g1910 (am_gi (by decide) (am_gi (by decide) (am_gi g1909 rfl)))) (am_nd_f c1911) ?_
      obtain rfl := Option.some.inj h
      exact am_r_ret (show am_stepn X T_UpRiverModel_wayOf 4 true (48, [(0, am_pv 65), (1, am_iv x1), (2, am_iv x2), (3, am_iv (((J 66 ((43 + x1).toNat)) - 1) * (J 66 4)))], [am_iv (J 66 3)], am_SH, (J, K, am_RF b)) = some (true, .inr (.inr (some (am_iv ((J 66 3) + (-(((J 66 ((43 + x1).toNat)) - 1) * (J 66 4))))), am_SH, (J, K, am_RF b)))) from rfl) rfl
theorem s_UpRiverModel_reach {X : am_X} {b : Bool} {J : am_J} {K : am_K} {x1 : Int} {x2 : Int} {r : Int} (h : f_UpRiverModel_reach J x1 x2 = some r) : am_runs X T_UpRiverModel_reach (0, [(0, am_pv 65), (1, am_iv x1), (2, am_iv x2)], [], am_SH, (J, K, am_RF b)) (some (am_iv r), am_SH, (J, K, am_RF b)) := by
  unfold f_UpRiverModel_reach at h
  obtain ⟨q1912, e1913, h⟩ := am_bind_some h
  refine am_r_call (show am_stepn X T_UpRiverModel_reach 3 true (0, [(0, am_pv 65), (1, am_iv x1), (2, am_iv x2)], [], am_SH, (J, K, am_RF b)) = some (true, .inr (.inl (173, [am_pv 65, am_iv x1], 2, 0, 0, 5, [(0, am_pv 65), (1, am_iv x1), (2, am_iv x2)], [], am_SH, (J, K, am_RF b)))) from rfl) rfl tb_UpRiverModel_isReach (s_UpRiverModel_isReach e1913) ?_
  obtain ⟨g1914, h⟩ := am_if_some h
  by_cases c1915 : q1912 = 0
  · rw [if_pos c1915] at h
    refine am_r_f (show am_stepn X T_UpRiverModel_reach 1 true (5, [(0, am_pv 65), (1, am_iv x1), (2, am_iv x2)], [am_iv q1912], am_SH, (J, K, am_RF b)) = some ((decide (am_i32 q1912) && true), .inl (bif am_cb .ne q1912 0 then 10 else 8, [(0, am_pv 65), (1, am_iv x1), (2, am_iv x2)], [], am_SH, (J, K, am_RF b))) from rfl) (am_g1 g1914 rfl) (am_nd_t c1915) ?_
    obtain rfl := Option.some.inj h
    exact am_r_ret (show am_stepn X T_UpRiverModel_reach 2 true (8, [(0, am_pv 65), (1, am_iv x1), (2, am_iv x2)], [], am_SH, (J, K, am_RF b)) = some (true, .inr (.inr (some (am_iv (-1)), am_SH, (J, K, am_RF b)))) from rfl) rfl
  · rw [if_neg c1915] at h
    refine am_r_t (show am_stepn X T_UpRiverModel_reach 1 true (5, [(0, am_pv 65), (1, am_iv x1), (2, am_iv x2)], [am_iv q1912], am_SH, (J, K, am_RF b)) = some ((decide (am_i32 q1912) && true), .inl (bif am_cb .ne q1912 0 then 10 else 8, [(0, am_pv 65), (1, am_iv x1), (2, am_iv x2)], [], am_SH, (J, K, am_RF b))) from rfl) (am_g1 g1914 rfl) (am_nd_f c1915) ?_
    obtain ⟨g1916, h⟩ := am_if_some h
    by_cases c1917 : x2 = 0
    · rw [if_pos c1917] at h
      refine am_r_sw (show am_stepn X T_UpRiverModel_reach 2 true (10, [(0, am_pv 65), (1, am_iv x1), (2, am_iv x2)], [], am_SH, (J, K, am_RF b)) = some ((decide (am_i32 x2) && true), .inl (am_sw 0 5 [102, 48, 58, 68, 78, 88, 95] x2, [(0, am_pv 65), (1, am_iv x1), (2, am_iv x2)], [], am_SH, (J, K, am_RF b))) from rfl) (am_g1 g1916 rfl) (p := 48) (by rw [c1917]; rfl) ?_
      obtain ⟨g1918, h⟩ := am_if_some h
      obtain rfl := Option.some.inj h
      exact am_r_ret (show am_stepn X T_UpRiverModel_reach 7 true (48, [(0, am_pv 65), (1, am_iv x1), (2, am_iv x2)], [], am_SH, (J, K, am_RF b)) = some ((am_in (7 + x1) 295 && true), .inr (.inr (some (am_iv (J 66 ((7 + x1).toNat))), am_SH, (J, K, am_RF b)))) from rfl) (am_gi g1918 rfl)
    · rw [if_neg c1917] at h
      by_cases c1919 : x2 = 1
      · rw [if_pos c1919] at h
        refine am_r_sw (show am_stepn X T_UpRiverModel_reach 2 true (10, [(0, am_pv 65), (1, am_iv x1), (2, am_iv x2)], [], am_SH, (J, K, am_RF b)) = some ((decide (am_i32 x2) && true), .inl (am_sw 0 5 [102, 48, 58, 68, 78, 88, 95] x2, [(0, am_pv 65), (1, am_iv x1), (2, am_iv x2)], [], am_SH, (J, K, am_RF b))) from rfl) (am_g1 g1916 rfl) (p := 58) (by rw [c1919]; rfl) ?_
        obtain ⟨g1920, h⟩ := am_if_some h
        obtain rfl := Option.some.inj h
        exact am_r_ret (show am_stepn X T_UpRiverModel_reach 7 true (58, [(0, am_pv 65), (1, am_iv x1), (2, am_iv x2)], [], am_SH, (J, K, am_RF b)) = some ((am_in (19 + x1) 295 && true), .inr (.inr (some (am_iv (J 66 ((19 + x1).toNat))), am_SH, (J, K, am_RF b)))) from rfl) (am_gi g1920 rfl)
      · rw [if_neg c1919] at h
        by_cases c1921 : x2 = 2
        · rw [if_pos c1921] at h
          refine am_r_sw (show am_stepn X T_UpRiverModel_reach 2 true (10, [(0, am_pv 65), (1, am_iv x1), (2, am_iv x2)], [], am_SH, (J, K, am_RF b)) = some ((decide (am_i32 x2) && true), .inl (am_sw 0 5 [102, 48, 58, 68, 78, 88, 95] x2, [(0, am_pv 65), (1, am_iv x1), (2, am_iv x2)], [], am_SH, (J, K, am_RF b))) from rfl) (am_g1 g1916 rfl) (p := 68) (by rw [c1921]; rfl) ?_
          obtain ⟨g1922, h⟩ := am_if_some h
          obtain rfl := Option.some.inj h
          exact am_r_ret (show am_stepn X T_UpRiverModel_reach 7 true (68, [(0, am_pv 65), (1, am_iv x1), (2, am_iv x2)], [], am_SH, (J, K, am_RF b)) = some ((am_in (31 + x1) 295 && true), .inr (.inr (some (am_iv (J 66 ((31 + x1).toNat))), am_SH, (J, K, am_RF b)))) from rfl) (am_gi g1922 rfl)
        · rw [if_neg c1921] at h
          by_cases c1923 : x2 = 3
          · rw [if_pos c1923] at h
            refine am_r_sw (show am_stepn X T_UpRiverModel_reach 2 true (10, [(0, am_pv 65), (1, am_iv x1), (2, am_iv x2)], [], am_SH, (J, K, am_RF b)) = some ((decide (am_i32 x2) && true), .inl (am_sw 0 5 [102, 48, 58, 68, 78, 88, 95] x2, [(0, am_pv 65), (1, am_iv x1), (2, am_iv x2)], [], am_SH, (J, K, am_RF b))) from rfl) (am_g1 g1916 rfl) (p := 78) (by rw [c1923]; rfl) ?_
            obtain ⟨g1924, h⟩ := am_if_some h
            obtain rfl := Option.some.inj h
            exact am_r_ret (show am_stepn X T_UpRiverModel_reach 7 true (78, [(0, am_pv 65), (1, am_iv x1), (2, am_iv x2)], [], am_SH, (J, K, am_RF b)) = some ((am_in (43 + x1) 295 && true), .inr (.inr (some (am_iv (J 66 ((43 + x1).toNat))), am_SH, (J, K, am_RF b)))) from rfl) (am_gi g1924 rfl)
          · rw [if_neg c1923] at h
            by_cases c1925 : x2 = 4
            · rw [if_pos c1925] at h
              refine am_r_sw (show am_stepn X T_UpRiverModel_reach 2 true (10, [(0, am_pv 65), (1, am_iv x1), (2, am_iv x2)], [], am_SH, (J, K, am_RF b)) = some ((decide (am_i32 x2) && true), .inl (am_sw 0 5 [102, 48, 58, 68, 78, 88, 95] x2, [(0, am_pv 65), (1, am_iv x1), (2, am_iv x2)], [], am_SH, (J, K, am_RF b))) from rfl) (am_g1 g1916 rfl) (p := 88) (by rw [c1925]; rfl) ?_
              obtain ⟨q1926, e1927, h⟩ := am_bind_some h
              refine am_r_call (show am_stepn X T_UpRiverModel_reach 4 true (88, [(0, am_pv 65), (1, am_iv x1), (2, am_iv x2)], [], am_SH, (J, K, am_RF b)) = some (true, .inr (.inl (174, [am_pv 65, am_iv x1, am_iv 0], 4, 0, 0, 94, [(0, am_pv 65), (1, am_iv x1)], [], am_SH, (J, K, am_RF b)))) from rfl) rfl tb_UpRiverModel_wayOf (s_UpRiverModel_wayOf e1927) ?_
              obtain rfl := Option.some.inj h
              exact am_r_ret (show am_stepn X T_UpRiverModel_reach 1 true (94, [(0, am_pv 65), (1, am_iv x1)], [am_iv q1926], am_SH, (J, K, am_RF b)) = some (true, .inr (.inr (some (am_iv q1926), am_SH, (J, K, am_RF b)))) from rfl) rfl
            · rw [if_neg c1925] at h
              by_cases c1928 : x2 = 5
              · rw [if_pos c1928] at h
                refine am_r_sw (show am_stepn X T_UpRiverModel_reach 2 true (10, [(0, am_pv 65), (1, am_iv x1), (2, am_iv x2)], [], am_SH, (J, K, am_RF b)) = some ((decide (am_i32 x2) && true), .inl (am_sw 0 5 [102, 48, 58, 68, 78, 88, 95] x2, [(0, am_pv 65), (1, am_iv x1), (2, am_iv x2)], [], am_SH, (J, K, am_RF b))) from rfl) (am_g1 g1916 rfl) (p := 95) (by rw [c1928]; rfl) ?_
                obtain ⟨q1929, e1930, h⟩ := am_bind_some h
                refine am_r_call (show am_stepn X T_UpRiverModel_reach 4 true (95, [(0, am_pv 65), (1, am_iv x1), (2, am_iv x2)], [], am_SH, (J, K, am_RF b)) = some (true, .inr (.inl (174, [am_pv 65, am_iv x1, am_iv 1], 4, 0, 0, 101, [(0, am_pv 65), (1, am_iv x1)], [], am_SH, (J, K, am_RF b)))) from rfl) rfl tb_UpRiverModel_wayOf (s_UpRiverModel_wayOf e1930) ?_
                obtain rfl := Option.some.inj h
                exact am_r_ret (show am_stepn X T_UpRiverModel_reach 1 true (101, [(0, am_pv 65), (1, am_iv x1)], [am_iv q1929], am_SH, (J, K, am_RF b)) = some (true, .inr (.inr (some (am_iv q1929), am_SH, (J, K, am_RF b)))) from rfl) rfl
              · rw [if_neg c1928] at h
                refine am_r_sw (show am_stepn X T_UpRiverModel_reach 2 true (10, [(0, am_pv 65), (1, am_iv x1), (2, am_iv x2)], [], am_SH, (J, K, am_RF b)) = some ((decide (am_i32 x2) && true), .inl (am_sw 0 5 [102, 48, 58, 68, 78, 88, 95] x2, [(0, am_pv 65), (1, am_iv x1), (2, am_iv x2)], [], am_SH, (J, K, am_RF b))) from rfl) (am_g1 g1916 rfl) (p := 102) (am_sw_out (by omega)) ?_
                obtain ⟨q1931, e1932, h⟩ := am_bind_some h
                refine am_r_call (show am_stepn X T_UpRiverModel_reach 5 true (102, [(0, am_pv 65), (1, am_iv x1), (2, am_iv x2)], [], am_SH, (J, K, am_RF b)) = some (true, .inr (.inl (150, [am_jv (am_i2l x2), am_jv (10 : Int64), am_jv (18 : Int64)], 6, 0, 0, 113, [(0, am_pv 65), (1, am_iv x1), (2, am_iv x2)], [], am_SH, (J, K, am_RF b)))) from rfl) rfl tb_UpRiverModel_in (s_UpRiverModel_in e1932) ?_
                obtain ⟨g1933, h⟩ := am_if_some h
                by_cases c1934 : q1931 = 0
                · rw [if_pos c1934] at h
                  refine am_r_t (show am_stepn X T_UpRiverModel_reach 1 true (113, [(0, am_pv 65), (1, am_iv x1), (2, am_iv x2)], [am_iv q1931], am_SH, (J, K, am_RF b)) = some ((decide (am_i32 q1931) && true), .inl (bif am_cb .eq q1931 0 then 136 else 116, [(0, am_pv 65), (1, am_iv x1), (2, am_iv x2)], [], am_SH, (J, K, am_RF b))) from rfl) (am_g1 g1933 rfl) (decide_eq_true c1934) ?_
                  obtain ⟨q1935, e1936, h⟩ := am_bind_some h
                  refine am_r_call (show am_stepn X T_UpRiverModel_reach 5 true (136, [(0, am_pv 65), (1, am_iv x1), (2, am_iv x2)], [], am_SH, (J, K, am_RF b)) = some (true, .inr (.inl (150, [am_jv (am_i2l x2), am_jv (20 : Int64), am_jv (28 : Int64)], 6, 0, 0, 147, [(0, am_pv 65), (1, am_iv x1), (2, am_iv x2)], [], am_SH, (J, K, am_RF b)))) from rfl) rfl tb_UpRiverModel_in (s_UpRiverModel_in e1936) ?_
                  obtain ⟨g1937, h⟩ := am_if_some h
                  by_cases c1938 : q1935 = 0
                  · rw [if_pos c1938] at h
                    refine am_r_t (show am_stepn X T_UpRiverModel_reach 1 true (147, [(0, am_pv 65), (1, am_iv x1), (2, am_iv x2)], [am_iv q1935], am_SH, (J, K, am_RF b)) = some ((decide (am_i32 q1935) && true), .inl (bif am_cb .eq q1935 0 then 171 else 150, [(0, am_pv 65), (1, am_iv x1), (2, am_iv x2)], [], am_SH, (J, K, am_RF b))) from rfl) (am_g1 g1937 rfl) (decide_eq_true c1938) ?_
                    obtain rfl := Option.some.inj h
                    exact am_r_ret (show am_stepn X T_UpRiverModel_reach 2 true (171, [(0, am_pv 65), (1, am_iv x1), (2, am_iv x2)], [], am_SH, (J, K, am_RF b)) = some (true, .inr (.inr (some (am_iv (-1)), am_SH, (J, K, am_RF b)))) from rfl) rfl
                  · rw [if_neg c1938] at h
                    refine am_r_f (show am_stepn X T_UpRiverModel_reach 1 true (147, [(0, am_pv 65), (1, am_iv x1), (2, am_iv x2)], [am_iv q1935], am_SH, (J, K, am_RF b)) = some ((decide (am_i32 q1935) && true), .inl (bif am_cb .eq q1935 0 then 171 else 150, [(0, am_pv 65), (1, am_iv x1), (2, am_iv x2)], [], am_SH, (J, K, am_RF b))) from rfl) (am_g1 g1937 rfl) (decide_eq_false c1938) ?_
                    obtain ⟨g1939, h⟩ := am_if_some h
                    obtain rfl := Option.some.inj h
                    exact am_r_ret (show am_stepn X T_UpRiverModel_reach 14 true (150, [(0, am_pv 65), (1, am_iv x1), (2, am_iv x2)], [], am_SH, (J, K, am_RF b)) = some ((am_in (((163 + (9 * x1)) + x2) - 20) 295 && true), .inr (.inr (some (am_iv (J 66 ((((163 + (9 * x1)) + x2) - 20).toNat))), am_SH, (J, K, am_RF b)))) from rfl) (am_gi g1939 rfl)
                · rw [if_neg c1934] at h
                  refine am_r_f (show am_stepn X T_UpRiverModel_reach 1 true (113, [(0, am_pv 65), (1, am_iv x1), (2, am_iv x2)], [am_iv q1931], am_SH, (J, K, am_RF b)) = some ((decide (am_i32 q1931) && true), .inl (bif am_cb .eq q1931 0 then 136 else 116, [(0, am_pv 65), (1, am_iv x1), (2, am_iv x2)], [], am_SH, (J, K, am_RF b))) from rfl) (am_g1 g1933 rfl) (decide_eq_false c1934) ?_
                  obtain ⟨g1940, h⟩ := am_if_some h
                  obtain rfl := Option.some.inj h
                  exact am_r_ret (show am_stepn X T_UpRiverModel_reach 14 true (116, [(0, am_pv 65), (1, am_iv x1), (2, am_iv x2)], [], am_SH, (J, K, am_RF b)) = some ((am_in (((55 + (9 * x1)) + x2) - 10) 295 && true), .inr (.inr (some (am_iv (J 66 ((((55 + (9 * x1)) + x2) - 10).toNat))), am_SH, (J, K, am_RF b)))) from rfl) (am_gi g1940 rfl)
theorem s_UpRiverModel_phase {X : am_X} {b : Bool} {J : am_J} {K : am_K} {x1 : Int} {r : Int} (h : f_UpRiverModel_phase J x1 = some r) : am_runs X T_UpRiverModel_phase (0, [(0, am_pv 65), (1, am_iv x1)], [], am_SH, (J, K, am_RF b)) (some (am_iv r), am_SH, (J, K, am_RF b)) := by
  unfold f_UpRiverModel_phase at h
  obtain ⟨g1941, h⟩ := am_if_some h
  obtain ⟨g1942, h⟩ := am_if_some h
  obtain ⟨g1943, h⟩ := am_if_some h
  by_cases c1944 : (am_rm (x1 - (J 65 15)) (12 * (J 66 1))) < 0
  · rw [if_pos c1944] at h
    refine am_r_f (show am_stepn X T_UpRiverModel_phase 16 true (0, [(0, am_pv 65), (1, am_iv x1)], [], am_SH, (J, K, am_RF b)) = some ((decide (am_i32 (am_rm (x1 - (J 65 15)) (12 * (J 66 1)))) && ((decide (0 < (12 * (J 66 1) : Int) ∧ am_i32 (12 * (J 66 1))) && decide (am_i32 (x1 - (J 65 15)))) && (am_in 1 295 && true))), .inl (bif am_cb .ge (am_rm (x1 - (J 65 15)) (12 * (J 66 1))) 0 then 29 else 23, [(0, am_pv 65), (1, am_iv x1), (2, am_iv (12 * (J 66 1))), (3, am_iv (am_rm (x1 - (J 65 15)) (12 * (J 66 1))))], [], am_SH, (J, K, am_RF b))) from rfl) (am_g1 g1943 (am_g2 g1941 g1942 (am_gi (by decide) rfl))) (am_nd_t c1944) ?_
    obtain ⟨g1945, h⟩ := am_if_some h
    obtain ⟨g1946, h⟩ := am_if_some h
    obtain rfl := Option.some.inj h
    exact am_r_ret (show am_stepn X T_UpRiverModel_phase 10 true (23, [(0, am_pv 65), (1, am_iv x1), (2, am_iv (12 * (J 66 1))), (3, am_iv (am_rm (x1 - (J 65 15)) (12 * (J 66 1))))], [], am_SH, (J, K, am_RF b)) = some (((decide (0 < (J 66 1 : Int) ∧ am_i32 (J 66 1)) && decide (am_i32 ((am_rm (x1 - (J 65 15)) (12 * (J 66 1))) + (12 * (J 66 1))))) && (am_in 1 295 && true)), .inr (.inr (some (am_iv (am_dv ((am_rm (x1 - (J 65 15)) (12 * (J 66 1))) + (12 * (J 66 1))) (J 66 1))), am_SH, (J, K, am_RF b)))) from rfl) (am_g2 g1945 g1946 (am_gi (by decide) rfl))
  · rw [if_neg c1944] at h
    refine am_r_t (show am_stepn X T_UpRiverModel_phase 16 true (0, [(0, am_pv 65), (1, am_iv x1)], [], am_SH, (J, K, am_RF b)) = some ((decide (am_i32 (am_rm (x1 - (J 65 15)) (12 * (J 66 1)))) && ((decide (0 < (12 * (J 66 1) : Int) ∧ am_i32 (12 * (J 66 1))) && decide (am_i32 (x1 - (J 65 15)))) && (am_in 1 295 && true))), .inl (bif am_cb .ge (am_rm (x1 - (J 65 15)) (12 * (J 66 1))) 0 then 29 else 23, [(0, am_pv 65), (1, am_iv x1), (2, am_iv (12 * (J 66 1))), (3, am_iv (am_rm (x1 - (J 65 15)) (12 * (J 66 1))))], [], am_SH, (J, K, am_RF b))) from rfl) (am_g1 g1943 (am_g2 g1941 g1942 (am_gi (by decide) rfl))) (am_nd_f c1944) ?_
    obtain ⟨g1947, h⟩ := am_if_some h
    obtain rfl := Option.some.inj h
    exact am_r_ret (show am_stepn X T_UpRiverModel_phase 7 true (29, [(0, am_pv 65), (1, am_iv x1), (2, am_iv (12 * (J 66 1))), (3, am_iv (am_rm (x1 - (J 65 15)) (12 * (J 66 1))))], [], am_SH, (J, K, am_RF b)) = some (((decide (0 < (J 66 1 : Int) ∧ am_i32 (J 66 1)) && decide (am_i32 (am_rm (x1 - (J 65 15)) (12 * (J 66 1))))) && (am_in 1 295 && true)), .inr (.inr (some (am_iv (am_dv (am_rm (x1 - (J 65 15)) (12 * (J 66 1))) (J 66 1))), am_SH, (J, K, am_RF b)))) from rfl) (am_g2 g1947 g1943 (am_gi (by decide) rfl))
theorem s_UpRiverModel_flowAt_L70 {X : am_X} {b : Bool} {J : am_J} {K : am_K}  : ∀ (x1 : Int) (x2 : Int) (s0 : Int) (r : Int), f_UpRiverModel_flowAt_L70 J   x1 x2 s0 = some r → am_runs X T_UpRiverModel_flowAt (70, [(0, am_pv 65), (1, am_iv x1), (2, am_iv x2)], [am_iv s0], am_SH, (J, K, am_RF b)) (some (am_iv r), am_SH, (J, K, am_RF b)) := by
  intro x1 x2 s0 r h
  unfold f_UpRiverModel_flowAt_L70 at h
  obtain ⟨g1948, h⟩ := am_if_some h
  obtain ⟨g1949, h⟩ := am_if_some h
  by_cases c1950 : (J 66 (((163 + (9 * x1)) + x2).toNat)) = 1
  · rw [if_pos c1950] at h
    refine am_r_f (show am_stepn X T_UpRiverModel_flowAt 13 true (70, [(0, am_pv 65), (1, am_iv x1), (2, am_iv x2)], [am_iv s0], am_SH, (J, K, am_RF b)) = some (((decide (am_i32 1) && decide (am_i32 (J 66 (((163 + (9 * x1)) + x2).toNat)))) && (am_in ((163 + (9 * x1)) + x2) 295 && true)), .inl (bif am_cb .ne (J 66 (((163 + (9 * x1)) + x2).toNat)) 1 then 97 else 91, [(0, am_pv 65), (1, am_iv x1), (2, am_iv x2), (4, am_iv s0)], [], am_SH, (J, K, am_RF b))) from rfl) (am_g2 (by decide) g1949 (am_gi g1948 rfl)) (am_nd_t c1950) ?_
    obtain rfl := Option.some.inj h
    exact am_r_ret (show am_stepn X T_UpRiverModel_flowAt 4 true (91, [(0, am_pv 65), (1, am_iv x1), (2, am_iv x2), (4, am_iv s0)], [], am_SH, (J, K, am_RF b)) = some (true, .inr (.inr (some (am_iv (-s0)), am_SH, (J, K, am_RF b)))) from rfl) rfl
  · rw [if_neg c1950] at h
    refine am_r_t (show am_stepn X T_UpRiverModel_flowAt 13 true (70, [(0, am_pv 65), (1, am_iv x1), (2, am_iv x2)], [am_iv s0], am_SH, (J, K, am_RF b)) = some (((decide (am_i32 1) && decide (am_i32 (J 66 (((163 + (9 * x1)) + x2).toNat)))) && (am_in ((163 + (9 * x1)) + x2) 295 && true)), .inl (bif am_cb .ne (J 66 (((163 + (9 * x1)) + x2).toNat)) 1 then 97 else 91, [(0, am_pv 65), (1, am_iv x1), (2, am_iv x2), (4, am_iv s0)], [], am_SH, (J, K, am_RF b))) from rfl) (am_g2 (by decide) g1949 (am_gi g1948 rfl)) (am_nd_f c1950) ?_
    obtain rfl := Option.some.inj h
    exact am_r_ret (show am_stepn X T_UpRiverModel_flowAt 2 true (97, [(0, am_pv 65), (1, am_iv x1), (2, am_iv x2), (4, am_iv s0)], [], am_SH, (J, K, am_RF b)) = some (true, .inr (.inr (some (am_iv s0), am_SH, (J, K, am_RF b)))) from rfl) rfl
theorem s_UpRiverModel_flowAt_L54 {X : am_X} {b : Bool} {J : am_J} {K : am_K}  : ∀ (x1 : Int) (x2 : Int) (x4 : Int) (s0 : Int) (r : Int), f_UpRiverModel_flowAt_L54 J   x1 x2 x4 s0 = some r → am_runs X T_UpRiverModel_flowAt (54, [(0, am_pv 65), (1, am_iv x1), (2, am_iv x2), (4, am_iv x4)], [am_iv s0], am_SH, (J, K, am_RF b)) (some (am_iv r), am_SH, (J, K, am_RF b)) := by
  intro x1 x2 x4 s0 r h
  unfold f_UpRiverModel_flowAt_L54 at h
  obtain ⟨g1951, h⟩ := am_if_some h
  by_cases c1952 : s0 = 0
  · rw [if_pos c1952] at h
    refine am_r_t (show am_stepn X T_UpRiverModel_flowAt 3 true (54, [(0, am_pv 65), (1, am_iv x1), (2, am_iv x2), (4, am_iv x4)], [am_iv s0], am_SH, (J, K, am_RF b)) = some ((decide (am_i32 s0) && true), .inl (bif am_cb .eq s0 0 then 68 else 61, [(0, am_pv 65), (1, am_iv x1), (2, am_iv x2), (4, am_iv x4), (5, am_iv s0)], [], am_SH, (J, K, am_RF b))) from rfl) (am_g1 g1951 rfl) (decide_eq_true c1952) ?_
    refine am_r_go (show am_stepn X T_UpRiverModel_flowAt 1 true (68, [(0, am_pv 65), (1, am_iv x1), (2, am_iv x2), (4, am_iv x4), (5, am_iv s0)], [], am_SH, (J, K, am_RF b)) = some (true, .inl (70, [(0, am_pv 65), (1, am_iv x1), (2, am_iv x2), (4, am_iv x4)], [am_iv x4], am_SH, (J, K, am_RF b))) from rfl) rfl ?_
    refine am_r_eq (σ' := (70, [(0, am_pv 65), (1, am_iv x1), (2, am_iv x2)], [am_iv x4], am_SH, (J, K, am_RF b))) rfl ?_
    exact s_UpRiverModel_flowAt_L70  _ _ _ _ h
  · rw [if_neg c1952] at h
    refine am_r_f (show am_stepn X T_UpRiverModel_flowAt 3 true (54, [(0, am_pv 65), (1, am_iv x1), (2, am_iv x2), (4, am_iv x4)], [am_iv s0], am_SH, (J, K, am_RF b)) = some ((decide (am_i32 s0) && true), .inl (bif am_cb .eq s0 0 then 68 else 61, [(0, am_pv 65), (1, am_iv x1), (2, am_iv x2), (4, am_iv x4), (5, am_iv s0)], [], am_SH, (J, K, am_RF b))) from rfl) (am_g1 g1951 rfl) (decide_eq_false c1952) ?_
    obtain ⟨g1953, h⟩ := am_if_some h
    refine am_r_go (show am_stepn X T_UpRiverModel_flowAt 4 true (61, [(0, am_pv 65), (1, am_iv x1), (2, am_iv x2), (4, am_iv x4), (5, am_iv s0)], [], am_SH, (J, K, am_RF b)) = some (((decide (0 < (2 : Int) ∧ am_i32 2) && decide (am_i32 x4)) && true), .inl (70, [(0, am_pv 65), (1, am_iv x1), (2, am_iv x2), (4, am_iv x4)], [am_iv (am_dv x4 2)], am_SH, (J, K, am_RF b))) from rfl) (am_g2 (by decide) g1953 rfl) ?_
    refine am_r_eq (σ' := (70, [(0, am_pv 65), (1, am_iv x1), (2, am_iv x2)], [am_iv (am_dv x4 2)], am_SH, (J, K, am_RF b))) rfl ?_
    exact s_UpRiverModel_flowAt_L70  _ _ _ _ h
theorem s_UpRiverModel_flowAt {X : am_X} {b : Bool} {J : am_J} {K : am_K} {x1 : Int} {x2 : Int} {x3 : Int} {r : Int} (h : f_UpRiverModel_flowAt J x1 x2 x3 = some r) : am_runs X T_UpRiverModel_flowAt (0, [(0, am_pv 65), (1, am_iv x1), (2, am_iv x2), (3, am_iv x3)], [], am_SH, (J, K, am_RF b)) (some (am_iv r), am_SH, (J, K, am_RF b)) := by
  unfold f_UpRiverModel_flowAt at h
  obtain ⟨q1954, e1955, h⟩ := am_bind_some h
  refine am_r_call (show am_stepn X T_UpRiverModel_flowAt 6 true (0, [(0, am_pv 65), (1, am_iv x1), (2, am_iv x2), (3, am_iv x3)], [], am_SH, (J, K, am_RF b)) = some (true, .inr (.inl (179, [am_pv 65, am_iv x3], 4, 0, 0, 12, [(0, am_pv 65), (1, am_iv x1), (2, am_iv x2), (3, am_iv x3)], [am_iv 271, am_pv 66], am_SH, (J, K, am_RF b)))) from rfl) rfl tb_UpRiverModel_phase (s_UpRiverModel_phase e1955) ?_
  obtain ⟨g1956, h⟩ := am_if_some h
  obtain ⟨g1957, h⟩ := am_if_some h
  obtain ⟨g1958, h⟩ := am_if_some h
  by_cases c1959 : 1 < (x2 - (J 66 ((7 + x1).toNat)))
  · rw [if_pos c1959] at h
    refine am_r_f (show am_stepn X T_UpRiverModel_flowAt 15 true (12, [(0, am_pv 65), (1, am_iv x1), (2, am_iv x2), (3, am_iv x3)], [am_iv q1954, am_iv 271, am_pv 66], am_SH, (J, K, am_RF b)) = some (((decide (am_i32 1) && decide (am_i32 (x2 - (J 66 ((7 + x1).toNat))))) && (am_in (7 + x1) 295 && (am_in (271 + q1954) 295 && true))), .inl (bif am_cb .le (x2 - (J 66 ((7 + x1).toNat))) 1 then 49 else 34, [(0, am_pv 65), (1, am_iv x1), (2, am_iv x2), (3, am_iv x3), (4, am_iv ((J 66 ((271 + q1954).toNat)) - 9))], [], am_SH, (J, K, am_RF b))) from rfl) (am_g2 (by decide) g1958 (am_gi g1957 (am_gi g1956 rfl))) (am_nd_t c1959) ?_
    obtain ⟨g1960, h⟩ := am_if_some h
    obtain ⟨g1961, h⟩ := am_if_some h
    by_cases c1962 : 1 < ((J 66 ((19 + x1).toNat)) - x2)
    · rw [if_pos c1962] at h
      refine am_r_t (show am_stepn X T_UpRiverModel_flowAt 10 true (34, [(0, am_pv 65), (1, am_iv x1), (2, am_iv x2), (3, am_iv x3), (4, am_iv ((J 66 ((271 + q1954).toNat)) - 9))], [], am_SH, (J, K, am_RF b)) = some (((decide (am_i32 1) && decide (am_i32 ((J 66 ((19 + x1).toNat)) - x2))) && (am_in (19 + x1) 295 && true)), .inl (bif am_cb .gt ((J 66 ((19 + x1).toNat)) - x2) 1 then 53 else 49, [(0, am_pv 65), (1, am_iv x1), (2, am_iv x2), (4, am_iv ((J 66 ((271 + q1954).toNat)) - 9))], [], am_SH, (J, K, am_RF b))) from rfl) (am_g2 (by decide) g1961 (am_gi g1960 rfl)) (decide_eq_true c1962) ?_
      refine am_r_go (show am_stepn X T_UpRiverModel_flowAt 1 true (53, [(0, am_pv 65), (1, am_iv x1), (2, am_iv x2), (4, am_iv ((J 66 ((271 + q1954).toNat)) - 9))], [], am_SH, (J, K, am_RF b)) = some (true, .inl (54, [(0, am_pv 65), (1, am_iv x1), (2, am_iv x2), (4, am_iv ((J 66 ((271 + q1954).toNat)) - 9))], [am_iv 0], am_SH, (J, K, am_RF b))) from rfl) rfl ?_
      exact s_UpRiverModel_flowAt_L54  _ _ _ _ _ h
    · rw [if_neg c1962] at h
      refine am_r_f (show am_stepn X T_UpRiverModel_flowAt 10 true (34, [(0, am_pv 65), (1, am_iv x1), (2, am_iv x2), (3, am_iv x3), (4, am_iv ((J 66 ((271 + q1954).toNat)) - 9))], [], am_SH, (J, K, am_RF b)) = some (((decide (am_i32 1) && decide (am_i32 ((J 66 ((19 + x1).toNat)) - x2))) && (am_in (19 + x1) 295 && true)), .inl (bif am_cb .gt ((J 66 ((19 + x1).toNat)) - x2) 1 then 53 else 49, [(0, am_pv 65), (1, am_iv x1), (2, am_iv x2), (4, am_iv ((J 66 ((271 + q1954).toNat)) - 9))], [], am_SH, (J, K, am_RF b))) from rfl) (am_g2 (by decide) g1961 (am_gi g1960 rfl)) (decide_eq_false c1962) ?_
      refine am_r_go (show am_stepn X T_UpRiverModel_flowAt 2 true (49, [(0, am_pv 65), (1, am_iv x1), (2, am_iv x2), (4, am_iv ((J 66 ((271 + q1954).toNat)) - 9))], [], am_SH, (J, K, am_RF b)) = some (true, .inl (54, [(0, am_pv 65), (1, am_iv x1), (2, am_iv x2), (4, am_iv ((J 66 ((271 + q1954).toNat)) - 9))], [am_iv 1], am_SH, (J, K, am_RF b))) from rfl) rfl ?_
      exact s_UpRiverModel_flowAt_L54  _ _ _ _ _ h
  · rw [if_neg c1959] at h
    refine am_r_t (show am_stepn X T_UpRiverModel_flowAt 15 true (12, [(0, am_pv 65), (1, am_iv x1), (2, am_iv x2), (3, am_iv x3)], [am_iv q1954, am_iv 271, am_pv 66], am_SH, (J, K, am_RF b)) = some (((decide (am_i32 1) && decide (am_i32 (x2 - (J 66 ((7 + x1).toNat))))) && (am_in (7 + x1) 295 && (am_in (271 + q1954) 295 && true))), .inl (bif am_cb .le (x2 - (J 66 ((7 + x1).toNat))) 1 then 49 else 34, [(0, am_pv 65), (1, am_iv x1), (2, am_iv x2), (3, am_iv x3), (4, am_iv ((J 66 ((271 + q1954).toNat)) - 9))], [], am_SH, (J, K, am_RF b))) from rfl) (am_g2 (by decide) g1958 (am_gi g1957 (am_gi g1956 rfl))) (am_nd_f c1959) ?_
    refine am_r_go (show am_stepn X T_UpRiverModel_flowAt 2 true (49, [(0, am_pv 65), (1, am_iv x1), (2, am_iv x2), (3, am_iv x3), (4, am_iv ((J 66 ((271 + q1954).toNat)) - 9))], [], am_SH, (J, K, am_RF b)) = some (true, .inl (54, [(0, am_pv 65), (1, am_iv x1), (2, am_iv x2), (4, am_iv ((J 66 ((271 + q1954).toNat)) - 9))], [am_iv 1], am_SH, (J, K, am_RF b))) from rfl) rfl ?_
    exact s_UpRiverModel_flowAt_L54  _ _ _ _ _ h
theorem s_UpRiverModel_isMinute {X : am_X} {b : Bool} {J : am_J} {K : am_K} {x0 : Int} {r : Int} (h : f_UpRiverModel_isMinute  x0 = some r) : am_runs X T_UpRiverModel_isMinute (0, [(0, am_iv x0)], [], am_SH, (J, K, am_RF b)) (some (am_iv r), am_SH, (J, K, am_RF b)) := by
  unfold f_UpRiverModel_isMinute at h
  obtain ⟨q1963, e1964, h⟩ := am_bind_some h
  refine am_r_call (show am_stepn X T_UpRiverModel_isMinute 5 true (0, [(0, am_iv x0)], [], am_SH, (J, K, am_RF b)) = some (true, .inr (.inl (150, [am_jv (am_i2l x0), am_jv (0 : Int64), am_jv (300 : Int64)], 6, 0, 0, 9, [(0, am_iv x0)], [], am_SH, (J, K, am_RF b)))) from rfl) rfl tb_UpRiverModel_in (s_UpRiverModel_in e1964) ?_
  obtain ⟨g1965, h⟩ := am_if_some h
  obtain rfl := Option.some.inj h
  exact am_r_ret (show am_stepn X T_UpRiverModel_isMinute 1 true (9, [(0, am_iv x0)], [am_iv q1963], am_SH, (J, K, am_RF b)) = some ((decide ((q1963 : Int) = 0 ∨ (q1963 : Int) = 1) && true), .inr (.inr (some (am_iv q1963), am_SH, (J, K, am_RF b)))) from rfl) (am_g1 g1965 rfl)
theorem s_UpRiverModel_isOpen {X : am_X} {b : Bool} {J : am_J} {K : am_K} {x1 : Int} {x2 : Int} {r : Int} (h : f_UpRiverModel_isOpen J x1 x2 = some r) : am_runs X T_UpRiverModel_isOpen (0, [(0, am_pv 65), (1, am_iv x1), (2, am_iv x2)], [], am_SH, (J, K, am_RF b)) (some (am_iv r), am_SH, (J, K, am_RF b)) := by
  unfold f_UpRiverModel_isOpen at h
  obtain ⟨g1966, h⟩ := am_if_some h
  obtain ⟨g1967, h⟩ := am_if_some h
  obtain ⟨q1968, e1969, h⟩ := am_bind_some h
  refine am_r_call (show am_stepn X T_UpRiverModel_isOpen 17 true (0, [(0, am_pv 65), (1, am_iv x1), (2, am_iv x2)], [], am_SH, (J, K, am_RF b)) = some ((am_in (19 + x1) 295 && (am_in (7 + x1) 295 && true)), .inr (.inl (150, [am_jv (am_i2l x2), am_jv (am_i2l (J 66 ((7 + x1).toNat))), am_jv (am_i2l (J 66 ((19 + x1).toNat)))], 6, 0, 0, 25, [(0, am_pv 65), (1, am_iv x1), (2, am_iv x2)], [], am_SH, (J, K, am_RF b)))) from rfl) (am_gi g1967 (am_gi g1966 rfl)) tb_UpRiverModel_in (s_UpRiverModel_in e1969) ?_
  obtain ⟨g1970, h⟩ := am_if_some h
  obtain rfl := Option.some.inj h
  exact am_r_ret (show am_stepn X T_UpRiverModel_isOpen 1 true (25, [(0, am_pv 65), (1, am_iv x1), (2, am_iv x2)], [am_iv q1968], am_SH, (J, K, am_RF b)) = some ((decide ((q1968 : Int) = 0 ∨ (q1968 : Int) = 1) && true), .inr (.inr (some (am_iv q1968), am_SH, (J, K, am_RF b)))) from rfl) (am_g1 g1970 rfl)
theorem s_UpRiverModel_flow {X : am_X} {b : Bool} {J : am_J} {K : am_K} {x1 : Int} {x2 : Int} {x3 : Int} {r : Int} (h : f_UpRiverModel_flow J x1 x2 x3 = some r) : am_runs X T_UpRiverModel_flow (0, [(0, am_pv 65), (1, am_iv x1), (2, am_iv x2), (3, am_iv x3)], [], am_SH, (J, K, am_RF b)) (some (am_iv r), am_SH, (J, K, am_RF b)) := by
  unfold f_UpRiverModel_flow at h
  obtain ⟨q1971, e1972, h⟩ := am_bind_some h
  refine am_r_call (show am_stepn X T_UpRiverModel_flow 3 true (0, [(0, am_pv 65), (1, am_iv x1), (2, am_iv x2), (3, am_iv x3)], [], am_SH, (J, K, am_RF b)) = some (true, .inr (.inl (173, [am_pv 65, am_iv x1], 2, 0, 0, 5, [(0, am_pv 65), (1, am_iv x1), (2, am_iv x2), (3, am_iv x3)], [], am_SH, (J, K, am_RF b)))) from rfl) rfl tb_UpRiverModel_isReach (s_UpRiverModel_isReach e1972) ?_
  obtain ⟨g1973, h⟩ := am_if_some h
  by_cases c1974 : q1971 = 0
  · rw [if_pos c1974] at h
    refine am_r_t (show am_stepn X T_UpRiverModel_flow 1 true (5, [(0, am_pv 65), (1, am_iv x1), (2, am_iv x2), (3, am_iv x3)], [am_iv q1971], am_SH, (J, K, am_RF b)) = some ((decide (am_i32 q1971) && true), .inl (bif am_cb .eq q1971 0 then 34 else 8, [(0, am_pv 65), (1, am_iv x1), (2, am_iv x2), (3, am_iv x3)], [], am_SH, (J, K, am_RF b))) from rfl) (am_g1 g1973 rfl) (decide_eq_true c1974) ?_
    obtain rfl := Option.some.inj h
    exact am_r_ret (show am_stepn X T_UpRiverModel_flow 2 true (34, [(0, am_pv 65), (1, am_iv x1), (2, am_iv x2), (3, am_iv x3)], [], am_SH, (J, K, am_RF b)) = some (true, .inr (.inr (some (am_iv (-1000)), am_SH, (J, K, am_RF b)))) from rfl) rfl
  · rw [if_neg c1974] at h
    refine am_r_f (show am_stepn X T_UpRiverModel_flow 1 true (5, [(0, am_pv 65), (1, am_iv x1), (2, am_iv x2), (3, am_iv x3)], [am_iv q1971], am_SH, (J, K, am_RF b)) = some ((decide (am_i32 q1971) && true), .inl (bif am_cb .eq q1971 0 then 34 else 8, [(0, am_pv 65), (1, am_iv x1), (2, am_iv x2), (3, am_iv x3)], [], am_SH, (J, K, am_RF b))) from rfl) (am_g1 g1973 rfl) (decide_eq_false c1974) ?_
    obtain ⟨q1975, e1976, h⟩ := am_bind_some h
    refine am_r_call (show am_stepn X T_UpRiverModel_flow 4 true (8, [(0, am_pv 65), (1, am_iv x1), (2, am_iv x2), (3, am_iv x3)], [], am_SH, (J, K, am_RF b)) = some (true, .inr (.inl (176, [am_pv 65, am_iv x1, am_iv x2], 3, 0, 0, 14, [(0, am_pv 65), (1, am_iv x1), (2, am_iv x2), (3, am_iv x3)], [], am_SH, (J, K, am_RF b)))) from rfl) rfl tb_UpRiverModel_isOpen (s_UpRiverModel_isOpen e1976) ?_
    obtain ⟨g1977, h⟩ := am_if_some h
    by_cases c1978 : q1975 = 0
    · rw [if_pos c1978] at h
      refine am_r_t (show am_stepn X T_UpRiverModel_flow 1 true (14, [(0, am_pv 65), (1, am_iv x1), (2, am_iv x2), (3, am_iv x3)], [am_iv q1975], am_SH, (J, K, am_RF b)) = some ((decide (am_i32 q1975) && true), .inl (bif am_cb .eq q1975 0 then 34 else 17, [(0, am_pv 65), (1, am_iv x1), (2, am_iv x2), (3, am_iv x3)], [], am_SH, (J, K, am_RF b))) from rfl) (am_g1 g1977 rfl) (decide_eq_true c1978) ?_
      obtain rfl := Option.some.inj h
      exact am_r_ret (show am_stepn X T_UpRiverModel_flow 2 true (34, [(0, am_pv 65), (1, am_iv x1), (2, am_iv x2), (3, am_iv x3)], [], am_SH, (J, K, am_RF b)) = some (true, .inr (.inr (some (am_iv (-1000)), am_SH, (J, K, am_RF b)))) from rfl) rfl
    · rw [if_neg c1978] at h
      refine am_r_f (show am_stepn X T_UpRiverModel_flow 1 true (14, [(0, am_pv 65), (1, am_iv x1), (2, am_iv x2), (3, am_iv x3)], [am_iv q1975], am_SH, (J, K, am_RF b)) = some ((decide (am_i32 q1975) && true), .inl (bif am_cb .eq q1975 0 then 34 else 17, [(0, am_pv 65), (1, am_iv x1), (2, am_iv x2), (3, am_iv x3)], [], am_SH, (J, K, am_RF b))) from rfl) (am_g1 g1977 rfl) (decide_eq_false c1978) ?_
      obtain ⟨q1979, e1980, h⟩ := am_bind_some h
      refine am_r_call (show am_stepn X T_UpRiverModel_flow 2 true (17, [(0, am_pv 65), (1, am_iv x1), (2, am_iv x2), (3, am_iv x3)], [], am_SH, (J, K, am_RF b)) = some (true, .inr (.inl (177, [am_iv x3], 1, 0, 0, 21, [(0, am_pv 65), (1, am_iv x1), (2, am_iv x2), (3, am_iv x3)], [], am_SH, (J, K, am_RF b)))) from rfl) rfl tb_UpRiverModel_isMinute (s_UpRiverModel_isMinute e1980) ?_
      obtain ⟨g1981, h⟩ := am_if_some h
      by_cases c1982 : q1979 = 0
      · rw [if_pos c1982] at h
        refine am_r_t (show am_stepn X T_UpRiverModel_flow 1 true (21, [(0, am_pv 65), (1, am_iv x1), (2, am_iv x2), (3, am_iv x3)], [am_iv q1979], am_SH, (J, K, am_RF b)) = some ((decide (am_i32 q1979) && true), .inl (bif am_cb .eq q1979 0 then 34 else 24, [(0, am_pv 65), (1, am_iv x1), (2, am_iv x2), (3, am_iv x3)], [], am_SH, (J, K, am_RF b))) from rfl) (am_g1 g1981 rfl) (decide_eq_true c1982) ?_
        obtain rfl := Option.some.inj h
        exact am_r_ret (show am_stepn X T_UpRiverModel_flow 2 true (34, [(0, am_pv 65), (1, am_iv x1), (2, am_iv x2), (3, am_iv x3)], [], am_SH, (J, K, am_RF b)) = some (true, .inr (.inr (some (am_iv (-1000)), am_SH, (J, K, am_RF b)))) from rfl) rfl
      · rw [if_neg c1982] at h
        refine am_r_f (show am_stepn X T_UpRiverModel_flow 1 true (21, [(0, am_pv 65), (1, am_iv x1), (2, am_iv x2), (3, am_iv x3)], [am_iv q1979], am_SH, (J, K, am_RF b)) = some ((decide (am_i32 q1979) && true), .inl (bif am_cb .eq q1979 0 then 34 else 24, [(0, am_pv 65), (1, am_iv x1), (2, am_iv x2), (3, am_iv x3)], [], am_SH, (J, K, am_RF b))) from rfl) (am_g1 g1981 rfl) (decide_eq_false c1982) ?_
        obtain ⟨q1983, e1984, h⟩ := am_bind_some h
        refine am_r_call (show am_stepn X T_UpRiverModel_flow 5 true (24, [(0, am_pv 65), (1, am_iv x1), (2, am_iv x2), (3, am_iv x3)], [], am_SH, (J, K, am_RF b)) = some (true, .inr (.inl (178, [am_pv 65, am_iv x1, am_iv x2, am_iv x3], 6, 0, 0, 31, [(0, am_pv 65), (1, am_iv x1), (2, am_iv x2), (3, am_iv x3)], [], am_SH, (J, K, am_RF b)))) from rfl) rfl tb_UpRiverModel_flowAt (s_UpRiverModel_flowAt e1984) ?_
        obtain rfl := Option.some.inj h
        exact am_r_ret (show am_stepn X T_UpRiverModel_flow 2 true (31, [(0, am_pv 65), (1, am_iv x1), (2, am_iv x2), (3, am_iv x3)], [am_iv q1983], am_SH, (J, K, am_RF b)) = some (true, .inr (.inr (some (am_iv q1983), am_SH, (J, K, am_RF b)))) from rfl) rfl
theorem s_UpRiverModel_waterAt {X : am_X} {b : Bool} {J : am_J} {K : am_K} {x1 : Int} {x2 : Int} {x3 : Int} {r : Int} (h : f_UpRiverModel_waterAt J x1 x2 x3 = some r) : am_runs X T_UpRiverModel_waterAt (0, [(0, am_pv 65), (1, am_iv x1), (2, am_iv x2), (3, am_iv x3)], [], am_SH, (J, K, am_RF b)) (some (am_iv r), am_SH, (J, K, am_RF b)) := by
  unfold f_UpRiverModel_waterAt at h
  obtain ⟨g1985, h⟩ := am_if_some h
  obtain ⟨q1986, e1987, h⟩ := am_bind_some h
  refine am_r_call (show am_stepn X T_UpRiverModel_waterAt 16 true (0, [(0, am_pv 65), (1, am_iv x1), (2, am_iv x2), (3, am_iv x3)], [], am_SH, (J, K, am_RF b)) = some ((am_in ((55 + (9 * x1)) + x2) 295 && true), .inr (.inl (179, [am_pv 65, am_iv x3], 4, 0, 0, 26, [(0, am_pv 65), (1, am_iv x1), (2, am_iv x2), (3, am_iv x3)], [am_iv 283, am_pv 66, am_iv (J 66 (((55 + (9 * x1)) + x2).toNat))], am_SH, (J, K, am_RF b)))) from rfl) (am_gi g1985 rfl) tb_UpRiverModel_phase (s_UpRiverModel_phase e1987) ?_
  obtain ⟨g1988, h⟩ := am_if_some h
  obtain rfl := Option.some.inj h
  exact am_r_ret (show am_stepn X T_UpRiverModel_waterAt 4 true (26, [(0, am_pv 65), (1, am_iv x1), (2, am_iv x2), (3, am_iv x3)], [am_iv q1986, am_iv 283, am_pv 66, am_iv (J 66 (((55 + (9 * x1)) + x2).toNat))], am_SH, (J, K, am_RF b)) = some ((am_in (283 + q1986) 295 && true), .inr (.inr (some (am_iv ((J 66 (((55 + (9 * x1)) + x2).toNat)) + (J 66 ((283 + q1986).toNat)))), am_SH, (J, K, am_RF b)))) from rfl) (am_gi g1988 rfl)
theorem s_UpRiverModel_isAfloat {X : am_X} {b : Bool} {J : am_J} {K : am_K} {x1 : Int} {x2 : Int} {x3 : Int} {r : Int} (h : f_UpRiverModel_isAfloat J x1 x2 x3 = some r) : am_runs X T_UpRiverModel_isAfloat (0, [(0, am_pv 65), (1, am_iv x1), (2, am_iv x2), (3, am_iv x3)], [], am_SH, (J, K, am_RF b)) (some (am_iv r), am_SH, (J, K, am_RF b)) := by
  unfold f_UpRiverModel_isAfloat at h
  obtain ⟨q1989, e1990, h⟩ := am_bind_some h
  refine am_r_call (show am_stepn X T_UpRiverModel_isAfloat 4 true (0, [(0, am_pv 65), (1, am_iv x1), (2, am_iv x2), (3, am_iv x3)], [], am_SH, (J, K, am_RF b)) = some (true, .inr (.inl (176, [am_pv 65, am_iv x1, am_iv x2], 3, 0, 0, 6, [(0, am_pv 65), (1, am_iv x1), (2, am_iv x2), (3, am_iv x3)], [], am_SH, (J, K, am_RF b)))) from rfl) rfl tb_UpRiverModel_isOpen (s_UpRiverModel_isOpen e1990) ?_
  obtain ⟨g1991, h⟩ := am_if_some h
  by_cases c1992 : q1989 = 0
  · rw [if_pos c1992] at h
    refine am_r_t (show am_stepn X T_UpRiverModel_isAfloat 1 true (6, [(0, am_pv 65), (1, am_iv x1), (2, am_iv x2), (3, am_iv x3)], [am_iv q1989], am_SH, (J, K, am_RF b)) = some ((decide (am_i32 q1989) && true), .inl (bif am_cb .eq q1989 0 then 29 else 9, [(0, am_pv 65), (1, am_iv x1), (2, am_iv x2), (3, am_iv x3)], [], am_SH, (J, K, am_RF b))) from rfl) (am_g1 g1991 rfl) (decide_eq_true c1992) ?_
    obtain rfl := Option.some.inj h
    exact am_r_ret (show am_stepn X T_UpRiverModel_isAfloat 2 true (29, [(0, am_pv 65), (1, am_iv x1), (2, am_iv x2), (3, am_iv x3)], [], am_SH, (J, K, am_RF b)) = some ((decide ((0 : Int) = 0 ∨ (0 : Int) = 1) && true), .inr (.inr (some (am_iv 0), am_SH, (J, K, am_RF b)))) from rfl) (am_g1 (by decide) rfl)
  · rw [if_neg c1992] at h
    refine am_r_f (show am_stepn X T_UpRiverModel_isAfloat 1 true (6, [(0, am_pv 65), (1, am_iv x1), (2, am_iv x2), (3, am_iv x3)], [am_iv q1989], am_SH, (J, K, am_RF b)) = some ((decide (am_i32 q1989) && true), .inl (bif am_cb .eq q1989 0 then 29 else 9, [(0, am_pv 65), (1, am_iv x1), (2, am_iv x2), (3, am_iv x3)], [], am_SH, (J, K, am_RF b))) from rfl) (am_g1 g1991 rfl) (decide_eq_false c1992) ?_
    obtain ⟨q1993, e1994, h⟩ := am_bind_some h
    refine am_r_call (show am_stepn X T_UpRiverModel_isAfloat 5 true (9, [(0, am_pv 65), (1, am_iv x1), (2, am_iv x2), (3, am_iv x3)], [], am_SH, (J, K, am_RF b)) = some (true, .inr (.inl (183, [am_pv 65, am_iv x1, am_iv x2, am_iv x3], 4, 0, 0, 16, [(0, am_pv 65), (1, am_iv x1), (2, am_iv x2), (3, am_iv x3)], [], am_SH, (J, K, am_RF b)))) from rfl) rfl tb_UpRiverModel_waterAt (s_UpRiverModel_waterAt e1994) ?_
    obtain ⟨g1995, h⟩ := am_if_some h
    obtain ⟨g1996, h⟩ := am_if_some h
    by_cases c1997 : q1993 < (J 66 2)
    · rw [if_pos c1997] at h
      refine am_r_t (show am_stepn X T_UpRiverModel_isAfloat 5 true (16, [(0, am_pv 65), (1, am_iv x1), (2, am_iv x2), (3, am_iv x3)], [am_iv q1993], am_SH, (J, K, am_RF b)) = some (((decide (am_i32 (J 66 2)) && decide (am_i32 q1993)) && (am_in 2 295 && true)), .inl (bif am_cb .lt q1993 (J 66 2) then 29 else 25, [(0, am_pv 65), (1, am_iv x1), (2, am_iv x2), (3, am_iv x3)], [], am_SH, (J, K, am_RF b))) from rfl) (am_g2 g1995 g1996 (am_gi (by decide) rfl)) (decide_eq_true c1997) ?_
      obtain rfl := Option.some.inj h
      exact am_r_ret (show am_stepn X T_UpRiverModel_isAfloat 2 true (29, [(0, am_pv 65), (1, am_iv x1), (2, am_iv x2), (3, am_iv x3)], [], am_SH, (J, K, am_RF b)) = some ((decide ((0 : Int) = 0 ∨ (0 : Int) = 1) && true), .inr (.inr (some (am_iv 0), am_SH, (J, K, am_RF b)))) from rfl) (am_g1 (by decide) rfl)
    · rw [if_neg c1997] at h
      refine am_r_f (show am_stepn X T_UpRiverModel_isAfloat 5 true (16, [(0, am_pv 65), (1, am_iv x1), (2, am_iv x2), (3, am_iv x3)], [am_iv q1993], am_SH, (J, K, am_RF b)) = some (((decide (am_i32 (J 66 2)) && decide (am_i32 q1993)) && (am_in 2 295 && true)), .inl (bif am_cb .lt q1993 (J 66 2) then 29 else 25, [(0, am_pv 65), (1, am_iv x1), (2, am_iv x2), (3, am_iv x3)], [], am_SH, (J, K, am_RF b))) from rfl) (am_g2 g1995 g1996 (am_gi (by decide) rfl)) (decide_eq_false c1997) ?_
      obtain rfl := Option.some.inj h
      exact am_r_ret (show am_stepn X T_UpRiverModel_isAfloat 3 true (25, [(0, am_pv 65), (1, am_iv x1), (2, am_iv x2), (3, am_iv x3)], [], am_SH, (J, K, am_RF b)) = some ((decide ((1 : Int) = 0 ∨ (1 : Int) = 1) && true), .inr (.inr (some (am_iv 1), am_SH, (J, K, am_RF b)))) from rfl) (am_g1 (by decide) rfl)
theorem s_UpRiverModel_isLane {X : am_X} {b : Bool} {J : am_J} {K : am_K} {x0 : Int} {r : Int} (h : f_UpRiverModel_isLane  x0 = some r) : am_runs X T_UpRiverModel_isLane (0, [(0, am_iv x0)], [], am_SH, (J, K, am_RF b)) (some (am_iv r), am_SH, (J, K, am_RF b)) := by
  unfold f_UpRiverModel_isLane at h
  obtain ⟨q1998, e1999, h⟩ := am_bind_some h
  refine am_r_call (show am_stepn X T_UpRiverModel_isLane 5 true (0, [(0, am_iv x0)], [], am_SH, (J, K, am_RF b)) = some (true, .inr (.inl (150, [am_jv (am_i2l x0), am_jv (0 : Int64), am_jv (8 : Int64)], 6, 0, 0, 9, [(0, am_iv x0)], [], am_SH, (J, K, am_RF b)))) from rfl) rfl tb_UpRiverModel_in (s_UpRiverModel_in e1999) ?_
  obtain ⟨g2000, h⟩ := am_if_some h
  obtain rfl := Option.some.inj h
  exact am_r_ret (show am_stepn X T_UpRiverModel_isLane 1 true (9, [(0, am_iv x0)], [am_iv q1998], am_SH, (J, K, am_RF b)) = some ((decide ((q1998 : Int) = 0 ∨ (q1998 : Int) = 1) && true), .inr (.inr (some (am_iv q1998), am_SH, (J, K, am_RF b)))) from rfl) (am_g1 g2000 rfl)
theorem s_UpRiverModel_afloat_L64 {X : am_X} {b : Bool} {J : am_J} {K : am_K} {kb38 : Int → Int → Int → Int → Option Int} (hk38 : ∀ (x1 : Int) (x2 : Int) (x4 : Int) (x5 : Int) (r : Int), kb38 x1 x2 x4 x5 = some r → am_runs X T_UpRiverModel_afloat (38, [(0, am_pv 65), (1, am_iv x1), (2, am_iv x2), (4, am_iv x4), (5, am_iv x5)], [], am_SH, (J, K, am_RF b)) (some (am_iv r), am_SH, (J, K, am_RF b))) : ∀ (x1 : Int) (x2 : Int) (x4 : Int) (x5 : Int) (s0 : Int) (s1 : Int) (r : Int), f_UpRiverModel_afloat_L64 J kb38  x1 x2 x4 x5 s0 s1 = some r → am_runs X T_UpRiverModel_afloat (64, [(0, am_pv 65), (1, am_iv x1), (2, am_iv x2), (4, am_iv x4), (5, am_iv x5)], [am_iv s1, am_iv s0], am_SH, (J, K, am_RF b)) (some (am_iv r), am_SH, (J, K, am_RF b)) := by
  intro x1 x2 x4 x5 s0 s1 r h
  unfold f_UpRiverModel_afloat_L64 at h
  obtain ⟨g2001, h⟩ := am_if_some h
  obtain ⟨g2002, h⟩ := am_if_some h
  by_cases c2003 : s0 = s1
  · rw [if_pos c2003] at h
    refine am_r_f (show am_stepn X T_UpRiverModel_afloat 1 true (64, [(0, am_pv 65), (1, am_iv x1), (2, am_iv x2), (4, am_iv x4), (5, am_iv x5)], [am_iv s1, am_iv s0], am_SH, (J, K, am_RF b)) = some (((decide (am_i32 s1) && decide (am_i32 s0)) && true), .inl (bif am_cb .ne s0 s1 then 70 else 67, [(0, am_pv 65), (1, am_iv x1), (2, am_iv x2), (4, am_iv x4), (5, am_iv x5)], [], am_SH, (J, K, am_RF b))) from rfl) (am_g2 g2001 g2002 rfl) (am_nd_t c2003) ?_
    obtain rfl := Option.some.inj h
    exact am_r_ret (show am_stepn X T_UpRiverModel_afloat 2 true (67, [(0, am_pv 65), (1, am_iv x1), (2, am_iv x2), (4, am_iv x4), (5, am_iv x5)], [], am_SH, (J, K, am_RF b)) = some (true, .inr (.inr (some (am_iv x5), am_SH, (J, K, am_RF b)))) from rfl) rfl
  · rw [if_neg c2003] at h
    refine am_r_t (show am_stepn X T_UpRiverModel_afloat 1 true (64, [(0, am_pv 65), (1, am_iv x1), (2, am_iv x2), (4, am_iv x4), (5, am_iv x5)], [am_iv s1, am_iv s0], am_SH, (J, K, am_RF b)) = some (((decide (am_i32 s1) && decide (am_i32 s0)) && true), .inl (bif am_cb .ne s0 s1 then 70 else 67, [(0, am_pv 65), (1, am_iv x1), (2, am_iv x2), (4, am_iv x4), (5, am_iv x5)], [], am_SH, (J, K, am_RF b))) from rfl) (am_g2 g2001 g2002 rfl) (am_nd_f c2003) ?_
    refine am_r_go (show am_stepn X T_UpRiverModel_afloat 2 true (70, [(0, am_pv 65), (1, am_iv x1), (2, am_iv x2), (4, am_iv x4), (5, am_iv x5)], [], am_SH, (J, K, am_RF b)) = some (true, .inl (38, [(0, am_pv 65), (1, am_iv x1), (2, am_iv x2), (4, am_iv x4), (5, am_iv (x5 + 1))], [], am_SH, (J, K, am_RF b))) from rfl) rfl ?_
    exact hk38 _ _ _ _ _ h
theorem s_UpRiverModel_afloat_L38 {X : am_X} {b : Bool} {J : am_J} {K : am_K}  : ∀ (n : Nat) (x1 : Int) (x2 : Int) (x4 : Int) (x5 : Int) (r : Int), f_UpRiverModel_afloat_L38 J  n x1 x2 x4 x5 = some r → am_runs X T_UpRiverModel_afloat (38, [(0, am_pv 65), (1, am_iv x1), (2, am_iv x2), (4, am_iv x4), (5, am_iv x5)], [], am_SH, (J, K, am_RF b)) (some (am_iv r), am_SH, (J, K, am_RF b)) := by
  intro n
  induction n with
  | zero =>
    intro x1 x2 x4 x5 r h
    cases h
  | succ n ih =>
    intro x1 x2 x4 x5 r h
    rw [f_UpRiverModel_afloat_L38.eq_2] at h
    obtain ⟨g2004, h⟩ := am_if_some h
    by_cases c2005 : 300 < x5
    · rw [if_pos c2005] at h
      refine am_r_t (show am_stepn X T_UpRiverModel_afloat 3 true (38, [(0, am_pv 65), (1, am_iv x1), (2, am_iv x2), (4, am_iv x4), (5, am_iv x5)], [], am_SH, (J, K, am_RF b)) = some (((decide (am_i32 300) && decide (am_i32 x5)) && true), .inl (bif am_cb .gt x5 300 then 76 else 46, [(0, am_pv 65), (1, am_iv x1), (2, am_iv x2), (4, am_iv x4), (5, am_iv x5)], [], am_SH, (J, K, am_RF b))) from rfl) (am_g2 (by decide) g2004 rfl) (decide_eq_true c2005) ?_
      obtain rfl := Option.some.inj h
      exact am_r_ret (show am_stepn X T_UpRiverModel_afloat 2 true (76, [(0, am_pv 65), (1, am_iv x1), (2, am_iv x2), (4, am_iv x4), (5, am_iv x5)], [], am_SH, (J, K, am_RF b)) = some (true, .inr (.inr (some (am_iv (-4)), am_SH, (J, K, am_RF b)))) from rfl) rfl
    · rw [if_neg c2005] at h
      refine am_r_f (show am_stepn X T_UpRiverModel_afloat 3 true (38, [(0, am_pv 65), (1, am_iv x1), (2, am_iv x2), (4, am_iv x4), (5, am_iv x5)], [], am_SH, (J, K, am_RF b)) = some (((decide (am_i32 300) && decide (am_i32 x5)) && true), .inl (bif am_cb .gt x5 300 then 76 else 46, [(0, am_pv 65), (1, am_iv x1), (2, am_iv x2), (4, am_iv x4), (5, am_iv x5)], [], am_SH, (J, K, am_RF b))) from rfl) (am_g2 (by decide) g2004 rfl) (decide_eq_false c2005) ?_
      obtain ⟨q2006, e2007, h⟩ := am_bind_some h
      refine am_r_call (show am_stepn X T_UpRiverModel_afloat 5 true (46, [(0, am_pv 65), (1, am_iv x1), (2, am_iv x2), (4, am_iv x4), (5, am_iv x5)], [], am_SH, (J, K, am_RF b)) = some (true, .inr (.inl (182, [am_pv 65, am_iv x1, am_iv x2, am_iv x5], 4, 0, 0, 54, [(0, am_pv 65), (1, am_iv x1), (2, am_iv x2), (4, am_iv x4), (5, am_iv x5)], [], am_SH, (J, K, am_RF b)))) from rfl) rfl tb_UpRiverModel_isAfloat (s_UpRiverModel_isAfloat e2007) ?_
      obtain ⟨g2008, h⟩ := am_if_some h
      by_cases c2009 : x4 = 0
      · rw [if_pos c2009] at h
        refine am_r_f (show am_stepn X T_UpRiverModel_afloat 2 true (54, [(0, am_pv 65), (1, am_iv x1), (2, am_iv x2), (4, am_iv x4), (5, am_iv x5)], [am_iv q2006], am_SH, (J, K, am_RF b)) = some ((decide (am_i32 x4) && true), .inl (bif am_cb .ne x4 0 then 63 else 59, [(0, am_pv 65), (1, am_iv x1), (2, am_iv x2), (4, am_iv x4), (5, am_iv x5)], [am_iv q2006], am_SH, (J, K, am_RF b))) from rfl) (am_g1 g2008 rfl) (am_nd_t c2009) ?_
        refine am_r_go (show am_stepn X T_UpRiverModel_afloat 2 true (59, [(0, am_pv 65), (1, am_iv x1), (2, am_iv x2), (4, am_iv x4), (5, am_iv x5)], [am_iv q2006], am_SH, (J, K, am_RF b)) = some (true, .inl (64, [(0, am_pv 65), (1, am_iv x1), (2, am_iv x2), (4, am_iv x4), (5, am_iv x5)], [am_iv 1, am_iv q2006], am_SH, (J, K, am_RF b))) from rfl) rfl ?_
        exact s_UpRiverModel_afloat_L64 ih _ _ _ _ _ _ _ h
      · rw [if_neg c2009] at h
        refine am_r_t (show am_stepn X T_UpRiverModel_afloat 2 true (54, [(0, am_pv 65), (1, am_iv x1), (2, am_iv x2), (4, am_iv x4), (5, am_iv x5)], [am_iv q2006], am_SH, (J, K, am_RF b)) = some ((decide (am_i32 x4) && true), .inl (bif am_cb .ne x4 0 then 63 else 59, [(0, am_pv 65), (1, am_iv x1), (2, am_iv x2), (4, am_iv x4), (5, am_iv x5)], [am_iv q2006], am_SH, (J, K, am_RF b))) from rfl) (am_g1 g2008 rfl) (am_nd_f c2009) ?_
        refine am_r_go (show am_stepn X T_UpRiverModel_afloat 1 true (63, [(0, am_pv 65), (1, am_iv x1), (2, am_iv x2), (4, am_iv x4), (5, am_iv x5)], [am_iv q2006], am_SH, (J, K, am_RF b)) = some (true, .inl (64, [(0, am_pv 65), (1, am_iv x1), (2, am_iv x2), (4, am_iv x4), (5, am_iv x5)], [am_iv 0, am_iv q2006], am_SH, (J, K, am_RF b))) from rfl) rfl ?_
        exact s_UpRiverModel_afloat_L64 ih _ _ _ _ _ _ _ h
theorem s_UpRiverModel_afloat {X : am_X} {b : Bool} {J : am_J} {K : am_K} {x1 : Int} {x2 : Int} {x3 : Int} {x4 : Int} {r : Int} (h : f_UpRiverModel_afloat J x1 x2 x3 x4 = some r) : am_runs X T_UpRiverModel_afloat (0, [(0, am_pv 65), (1, am_iv x1), (2, am_iv x2), (3, am_iv x3), (4, am_iv x4)], [], am_SH, (J, K, am_RF b)) (some (am_iv r), am_SH, (J, K, am_RF b)) := by
  unfold f_UpRiverModel_afloat at h
  obtain ⟨q2010, e2011, h⟩ := am_bind_some h
  refine am_r_call (show am_stepn X T_UpRiverModel_afloat 3 true (0, [(0, am_pv 65), (1, am_iv x1), (2, am_iv x2), (3, am_iv x3), (4, am_iv x4)], [], am_SH, (J, K, am_RF b)) = some (true, .inr (.inl (173, [am_pv 65, am_iv x1], 2, 0, 0, 5, [(0, am_pv 65), (1, am_iv x1), (2, am_iv x2), (3, am_iv x3), (4, am_iv x4)], [], am_SH, (J, K, am_RF b)))) from rfl) rfl tb_UpRiverModel_isReach (s_UpRiverModel_isReach e2011) ?_
  obtain ⟨g2012, h⟩ := am_if_some h
  by_cases c2013 : q2010 = 0
  · rw [if_pos c2013] at h
    refine am_r_t (show am_stepn X T_UpRiverModel_afloat 1 true (5, [(0, am_pv 65), (1, am_iv x1), (2, am_iv x2), (3, am_iv x3), (4, am_iv x4)], [am_iv q2010], am_SH, (J, K, am_RF b)) = some ((decide (am_i32 q2010) && true), .inl (bif am_cb .eq q2010 0 then 33 else 8, [(0, am_pv 65), (1, am_iv x1), (2, am_iv x2), (3, am_iv x3), (4, am_iv x4)], [], am_SH, (J, K, am_RF b))) from rfl) (am_g1 g2012 rfl) (decide_eq_true c2013) ?_
    obtain rfl := Option.some.inj h
    exact am_r_ret (show am_stepn X T_UpRiverModel_afloat 2 true (33, [(0, am_pv 65), (1, am_iv x1), (2, am_iv x2), (3, am_iv x3), (4, am_iv x4)], [], am_SH, (J, K, am_RF b)) = some (true, .inr (.inr (some (am_iv (-1)), am_SH, (J, K, am_RF b)))) from rfl) rfl
  · rw [if_neg c2013] at h
    refine am_r_f (show am_stepn X T_UpRiverModel_afloat 1 true (5, [(0, am_pv 65), (1, am_iv x1), (2, am_iv x2), (3, am_iv x3), (4, am_iv x4)], [am_iv q2010], am_SH, (J, K, am_RF b)) = some ((decide (am_i32 q2010) && true), .inl (bif am_cb .eq q2010 0 then 33 else 8, [(0, am_pv 65), (1, am_iv x1), (2, am_iv x2), (3, am_iv x3), (4, am_iv x4)], [], am_SH, (J, K, am_RF b))) from rfl) (am_g1 g2012 rfl) (decide_eq_false c2013) ?_
    obtain ⟨q2014, e2015, h⟩ := am_bind_some h
    refine am_r_call (show am_stepn X T_UpRiverModel_afloat 2 true (8, [(0, am_pv 65), (1, am_iv x1), (2, am_iv x2), (3, am_iv x3), (4, am_iv x4)], [], am_SH, (J, K, am_RF b)) = some (true, .inr (.inl (181, [am_iv x2], 1, 0, 0, 12, [(0, am_pv 65), (1, am_iv x1), (2, am_iv x2), (3, am_iv x3), (4, am_iv x4)], [], am_SH, (J, K, am_RF b)))) from rfl) rfl tb_UpRiverModel_isLane (s_UpRiverModel_isLane e2015) ?_
    obtain ⟨g2016, h⟩ := am_if_some h
    by_cases c2017 : q2014 = 0
    · rw [if_pos c2017] at h
      refine am_r_t (show am_stepn X T_UpRiverModel_afloat 1 true (12, [(0, am_pv 65), (1, am_iv x1), (2, am_iv x2), (3, am_iv x3), (4, am_iv x4)], [am_iv q2014], am_SH, (J, K, am_RF b)) = some ((decide (am_i32 q2014) && true), .inl (bif am_cb .eq q2014 0 then 33 else 15, [(0, am_pv 65), (1, am_iv x1), (2, am_iv x2), (3, am_iv x3), (4, am_iv x4)], [], am_SH, (J, K, am_RF b))) from rfl) (am_g1 g2016 rfl) (decide_eq_true c2017) ?_
      obtain rfl := Option.some.inj h
      exact am_r_ret (show am_stepn X T_UpRiverModel_afloat 2 true (33, [(0, am_pv 65), (1, am_iv x1), (2, am_iv x2), (3, am_iv x3), (4, am_iv x4)], [], am_SH, (J, K, am_RF b)) = some (true, .inr (.inr (some (am_iv (-1)), am_SH, (J, K, am_RF b)))) from rfl) rfl
    · rw [if_neg c2017] at h
      refine am_r_f (show am_stepn X T_UpRiverModel_afloat 1 true (12, [(0, am_pv 65), (1, am_iv x1), (2, am_iv x2), (3, am_iv x3), (4, am_iv x4)], [am_iv q2014], am_SH, (J, K, am_RF b)) = some ((decide (am_i32 q2014) && true), .inl (bif am_cb .eq q2014 0 then 33 else 15, [(0, am_pv 65), (1, am_iv x1), (2, am_iv x2), (3, am_iv x3), (4, am_iv x4)], [], am_SH, (J, K, am_RF b))) from rfl) (am_g1 g2016 rfl) (decide_eq_false c2017) ?_
      obtain ⟨q2018, e2019, h⟩ := am_bind_some h
      refine am_r_call (show am_stepn X T_UpRiverModel_afloat 2 true (15, [(0, am_pv 65), (1, am_iv x1), (2, am_iv x2), (3, am_iv x3), (4, am_iv x4)], [], am_SH, (J, K, am_RF b)) = some (true, .inr (.inl (177, [am_iv x3], 1, 0, 0, 19, [(0, am_pv 65), (1, am_iv x1), (2, am_iv x2), (3, am_iv x3), (4, am_iv x4)], [], am_SH, (J, K, am_RF b)))) from rfl) rfl tb_UpRiverModel_isMinute (s_UpRiverModel_isMinute e2019) ?_
      obtain ⟨g2020, h⟩ := am_if_some h
      by_cases c2021 : q2018 = 0
      · rw [if_pos c2021] at h
        refine am_r_t (show am_stepn X T_UpRiverModel_afloat 1 true (19, [(0, am_pv 65), (1, am_iv x1), (2, am_iv x2), (3, am_iv x3), (4, am_iv x4)], [am_iv q2018], am_SH, (J, K, am_RF b)) = some ((decide (am_i32 q2018) && true), .inl (bif am_cb .eq q2018 0 then 33 else 22, [(0, am_pv 65), (1, am_iv x1), (2, am_iv x2), (3, am_iv x3), (4, am_iv x4)], [], am_SH, (J, K, am_RF b))) from rfl) (am_g1 g2020 rfl) (decide_eq_true c2021) ?_
        obtain rfl := Option.some.inj h
        exact am_r_ret (show am_stepn X T_UpRiverModel_afloat 2 true (33, [(0, am_pv 65), (1, am_iv x1), (2, am_iv x2), (3, am_iv x3), (4, am_iv x4)], [], am_SH, (J, K, am_RF b)) = some (true, .inr (.inr (some (am_iv (-1)), am_SH, (J, K, am_RF b)))) from rfl) rfl
      · rw [if_neg c2021] at h
        refine am_r_f (show am_stepn X T_UpRiverModel_afloat 1 true (19, [(0, am_pv 65), (1, am_iv x1), (2, am_iv x2), (3, am_iv x3), (4, am_iv x4)], [am_iv q2018], am_SH, (J, K, am_RF b)) = some ((decide (am_i32 q2018) && true), .inl (bif am_cb .eq q2018 0 then 33 else 22, [(0, am_pv 65), (1, am_iv x1), (2, am_iv x2), (3, am_iv x3), (4, am_iv x4)], [], am_SH, (J, K, am_RF b))) from rfl) (am_g1 g2020 rfl) (decide_eq_false c2021) ?_
        obtain ⟨q2022, e2023, h⟩ := am_bind_some h
        refine am_r_call (show am_stepn X T_UpRiverModel_afloat 5 true (22, [(0, am_pv 65), (1, am_iv x1), (2, am_iv x2), (3, am_iv x3), (4, am_iv x4)], [], am_SH, (J, K, am_RF b)) = some (true, .inr (.inl (150, [am_jv (am_i2l x4), am_jv (0 : Int64), am_jv (1 : Int64)], 6, 0, 0, 30, [(0, am_pv 65), (1, am_iv x1), (2, am_iv x2), (3, am_iv x3), (4, am_iv x4)], [], am_SH, (J, K, am_RF b)))) from rfl) rfl tb_UpRiverModel_in (s_UpRiverModel_in e2023) ?_
        obtain ⟨g2024, h⟩ := am_if_some h
        by_cases c2025 : q2022 = 0
        · rw [if_pos c2025] at h
          refine am_r_f (show am_stepn X T_UpRiverModel_afloat 1 true (30, [(0, am_pv 65), (1, am_iv x1), (2, am_iv x2), (3, am_iv x3), (4, am_iv x4)], [am_iv q2022], am_SH, (J, K, am_RF b)) = some ((decide (am_i32 q2022) && true), .inl (bif am_cb .ne q2022 0 then 35 else 33, [(0, am_pv 65), (1, am_iv x1), (2, am_iv x2), (3, am_iv x3), (4, am_iv x4)], [], am_SH, (J, K, am_RF b))) from rfl) (am_g1 g2024 rfl) (am_nd_t c2025) ?_
          obtain rfl := Option.some.inj h
          exact am_r_ret (show am_stepn X T_UpRiverModel_afloat 2 true (33, [(0, am_pv 65), (1, am_iv x1), (2, am_iv x2), (3, am_iv x3), (4, am_iv x4)], [], am_SH, (J, K, am_RF b)) = some (true, .inr (.inr (some (am_iv (-1)), am_SH, (J, K, am_RF b)))) from rfl) rfl
        · rw [if_neg c2025] at h
          refine am_r_t (show am_stepn X T_UpRiverModel_afloat 1 true (30, [(0, am_pv 65), (1, am_iv x1), (2, am_iv x2), (3, am_iv x3), (4, am_iv x4)], [am_iv q2022], am_SH, (J, K, am_RF b)) = some ((decide (am_i32 q2022) && true), .inl (bif am_cb .ne q2022 0 then 35 else 33, [(0, am_pv 65), (1, am_iv x1), (2, am_iv x2), (3, am_iv x3), (4, am_iv x4)], [], am_SH, (J, K, am_RF b))) from rfl) (am_g1 g2024 rfl) (am_nd_f c2025) ?_
          refine am_r_go (show am_stepn X T_UpRiverModel_afloat 2 true (35, [(0, am_pv 65), (1, am_iv x1), (2, am_iv x2), (3, am_iv x3), (4, am_iv x4)], [], am_SH, (J, K, am_RF b)) = some (true, .inl (38, [(0, am_pv 65), (1, am_iv x1), (2, am_iv x2), (3, am_iv x3), (4, am_iv x4), (5, am_iv x3)], [], am_SH, (J, K, am_RF b))) from rfl) rfl ?_
          refine am_r_eq (σ' := (38, [(0, am_pv 65), (1, am_iv x1), (2, am_iv x2), (4, am_iv x4), (5, am_iv x3)], [], am_SH, (J, K, am_RF b))) rfl ?_
          exact s_UpRiverModel_afloat_L38  _ _ _ _ _ _ h
theorem s_UpRiverModel_goesThere {X : am_X} {b : Bool} {K : am_K} {J : am_J} {r : am_J} (h : f_UpRiverModel_goesThere  J = some r) : am_runs X T_UpRiverModel_goesThere (0, [(0, am_pv 65)], [], am_SH, (J, K, am_RF b)) (none, am_SH, (r, K, am_RF b)) := by
  unfold f_UpRiverModel_goesThere at h
  obtain rfl := Option.some.inj h
  exact am_r_ret (show am_stepn X T_UpRiverModel_goesThere 25 true (0, [(0, am_pv 65)], [], am_SH, (J, K, am_RF b)) = some ((am_in 0 216 && (am_in 3 216 && (am_in 2 216 && (am_in 1 216 && true)))), .inr (.inr (none, am_SH, ((am_up (am_up (am_up (am_up J 68 1 (J 65 16)) 68 2 (J 65 17)) 68 3 (J 65 18)) 68 0 (J 65 19)), K, am_RF b)))) from rfl) (am_gi (by decide) (am_gi (by decide) (am_gi (by decide) (am_gi (by decide) rfl))))
theorem s_UpRiverModel_top {X : am_X} {b : Bool} {J : am_J} {K : am_K}  {r : Int} (h : f_UpRiverModel_top J  = some r) : am_runs X T_UpRiverModel_top (0, [(0, am_pv 65)], [], am_SH, (J, K, am_RF b)) (some (am_iv r), am_SH, (J, K, am_RF b)) := by
  unfold f_UpRiverModel_top at h
  obtain rfl := Option.some.inj h
  exact am_r_ret (show am_stepn X T_UpRiverModel_top 7 true (0, [(0, am_pv 65)], [], am_SH, (J, K, am_RF b)) = some ((am_in 0 295 && true), .inr (.inr (some (am_iv (8 * (J 66 0))), am_SH, (J, K, am_RF b)))) from rfl) (am_gi (by decide) rfl)
theorem s_UpRiverModel_isUp {X : am_X} {b : Bool} {J : am_J} {K : am_K}  {r : Int} (h : f_UpRiverModel_isUp J  = some r) : am_runs X T_UpRiverModel_isUp (0, [(0, am_pv 65)], [], am_SH, (J, K, am_RF b)) (some (am_iv r), am_SH, (J, K, am_RF b)) := by
  unfold f_UpRiverModel_isUp at h
  obtain ⟨q2026, e2027, h⟩ := am_bind_some h
  refine am_r_call (show am_stepn X T_UpRiverModel_isUp 6 true (0, [(0, am_pv 65)], [], am_SH, (J, K, am_RF b)) = some ((am_in 1 216 && true), .inr (.inl (186, [am_pv 65], 1, 0, 0, 10, [(0, am_pv 65)], [am_iv (J 68 1)], am_SH, (J, K, am_RF b)))) from rfl) (am_gi (by decide) rfl) tb_UpRiverModel_top (s_UpRiverModel_top e2027) ?_
  obtain ⟨g2028, h⟩ := am_if_some h
  obtain ⟨g2029, h⟩ := am_if_some h
  by_cases c2030 : (J 68 1) < q2026
  · rw [if_pos c2030] at h
    refine am_r_t (show am_stepn X T_UpRiverModel_isUp 1 true (10, [(0, am_pv 65)], [am_iv q2026, am_iv (J 68 1)], am_SH, (J, K, am_RF b)) = some (((decide (am_i32 q2026) && decide (am_i32 (J 68 1))) && true), .inl (bif am_cb .lt (J 68 1) q2026 then 17 else 13, [(0, am_pv 65)], [], am_SH, (J, K, am_RF b))) from rfl) (am_g2 g2028 g2029 rfl) (decide_eq_true c2030) ?_
    obtain rfl := Option.some.inj h
    exact am_r_ret (show am_stepn X T_UpRiverModel_isUp 2 true (17, [(0, am_pv 65)], [], am_SH, (J, K, am_RF b)) = some ((decide ((0 : Int) = 0 ∨ (0 : Int) = 1) && true), .inr (.inr (some (am_iv 0), am_SH, (J, K, am_RF b)))) from rfl) (am_g1 (by decide) rfl)
  · rw [if_neg c2030] at h
    refine am_r_f (show am_stepn X T_UpRiverModel_isUp 1 true (10, [(0, am_pv 65)], [am_iv q2026, am_iv (J 68 1)], am_SH, (J, K, am_RF b)) = some (((decide (am_i32 q2026) && decide (am_i32 (J 68 1))) && true), .inl (bif am_cb .lt (J 68 1) q2026 then 17 else 13, [(0, am_pv 65)], [], am_SH, (J, K, am_RF b))) from rfl) (am_g2 g2028 g2029 rfl) (decide_eq_false c2030) ?_
    obtain rfl := Option.some.inj h
    exact am_r_ret (show am_stepn X T_UpRiverModel_isUp 3 true (13, [(0, am_pv 65)], [], am_SH, (J, K, am_RF b)) = some ((decide ((1 : Int) = 0 ∨ (1 : Int) = 1) && true), .inr (.inr (some (am_iv 1), am_SH, (J, K, am_RF b)))) from rfl) (am_g1 (by decide) rfl)
theorem s_UpRiverModel_isFloating {X : am_X} {b : Bool} {J : am_J} {K : am_K}  {r : Int} (h : f_UpRiverModel_isFloating J  = some r) : am_runs X T_UpRiverModel_isFloating (0, [(0, am_pv 65)], [], am_SH, (J, K, am_RF b)) (some (am_iv r), am_SH, (J, K, am_RF b)) := by
  unfold f_UpRiverModel_isFloating at h
  obtain ⟨q2031, e2032, h⟩ := am_bind_some h
  refine am_r_call (show am_stepn X T_UpRiverModel_isFloating 2 true (0, [(0, am_pv 65)], [], am_SH, (J, K, am_RF b)) = some (true, .inr (.inl (185, [am_pv 65], 1, 0, 0, 4, [(0, am_pv 65)], [], am_SH, (J, K, am_RF b)))) from rfl) rfl tb_UpRiverModel_isUp (s_UpRiverModel_isUp e2032) ?_
  obtain ⟨g2033, h⟩ := am_if_some h
  by_cases c2034 : q2031 = 0
  · rw [if_pos c2034] at h
    refine am_r_f (show am_stepn X T_UpRiverModel_isFloating 1 true (4, [(0, am_pv 65)], [am_iv q2031], am_SH, (J, K, am_RF b)) = some ((decide (am_i32 q2031) && true), .inl (bif am_cb .ne q2031 0 then 35 else 7, [(0, am_pv 65)], [], am_SH, (J, K, am_RF b))) from rfl) (am_g1 g2033 rfl) (am_nd_t c2034) ?_
    obtain ⟨g2035, h⟩ := am_if_some h
    obtain ⟨q2036, e2037, h⟩ := am_bind_some h
    refine am_r_call (show am_stepn X T_UpRiverModel_isFloating 16 true (7, [(0, am_pv 65)], [], am_SH, (J, K, am_RF b)) = some ((am_in 0 216 && (am_in 2 216 && ((decide (0 < (8 : Int) ∧ am_i32 8) && decide (am_i32 (J 68 1))) && (am_in 1 216 && true)))), .inr (.inl (182, [am_pv 65, am_iv (am_dv (J 68 1) 8), am_iv (J 68 2), am_iv (J 68 0)], 4, 0, 0, 32, [(0, am_pv 65)], [], am_SH, (J, K, am_RF b)))) from rfl) (am_gi (by decide) (am_gi (by decide) (am_g2 (by decide) g2035 (am_gi (by decide) rfl)))) tb_UpRiverModel_isAfloat (s_UpRiverModel_isAfloat e2037) ?_
    obtain ⟨g2038, h⟩ := am_if_some h
    by_cases c2039 : q2036 = 0
    · rw [if_pos c2039] at h
      refine am_r_t (show am_stepn X T_UpRiverModel_isFloating 1 true (32, [(0, am_pv 65)], [am_iv q2036], am_SH, (J, K, am_RF b)) = some ((decide (am_i32 q2036) && true), .inl (bif am_cb .eq q2036 0 then 39 else 35, [(0, am_pv 65)], [], am_SH, (J, K, am_RF b))) from rfl) (am_g1 g2038 rfl) (decide_eq_true c2039) ?_
      obtain rfl := Option.some.inj h
      exact am_r_ret (show am_stepn X T_UpRiverModel_isFloating 2 true (39, [(0, am_pv 65)], [], am_SH, (J, K, am_RF b)) = some ((decide ((0 : Int) = 0 ∨ (0 : Int) = 1) && true), .inr (.inr (some (am_iv 0), am_SH, (J, K, am_RF b)))) from rfl) (am_g1 (by decide) rfl)
    · rw [if_neg c2039] at h
      refine am_r_f (show am_stepn X T_UpRiverModel_isFloating 1 true (32, [(0, am_pv 65)], [am_iv q2036], am_SH, (J, K, am_RF b)) = some ((decide (am_i32 q2036) && true), .inl (bif am_cb .eq q2036 0 then 39 else 35, [(0, am_pv 65)], [], am_SH, (J, K, am_RF b))) from rfl) (am_g1 g2038 rfl) (decide_eq_false c2039) ?_
      obtain rfl := Option.some.inj h
      exact am_r_ret (show am_stepn X T_UpRiverModel_isFloating 3 true (35, [(0, am_pv 65)], [], am_SH, (J, K, am_RF b)) = some ((decide ((1 : Int) = 0 ∨ (1 : Int) = 1) && true), .inr (.inr (some (am_iv 1), am_SH, (J, K, am_RF b)))) from rfl) (am_g1 (by decide) rfl)
  · rw [if_neg c2034] at h
    refine am_r_t (show am_stepn X T_UpRiverModel_isFloating 1 true (4, [(0, am_pv 65)], [am_iv q2031], am_SH, (J, K, am_RF b)) = some ((decide (am_i32 q2031) && true), .inl (bif am_cb .ne q2031 0 then 35 else 7, [(0, am_pv 65)], [], am_SH, (J, K, am_RF b))) from rfl) (am_g1 g2033 rfl) (am_nd_f c2034) ?_
    obtain rfl := Option.some.inj h
    exact am_r_ret (show am_stepn X T_UpRiverModel_isFloating 3 true (35, [(0, am_pv 65)], [], am_SH, (J, K, am_RF b)) = some ((decide ((1 : Int) = 0 ∨ (1 : Int) = 1) && true), .inr (.inr (some (am_iv 1), am_SH, (J, K, am_RF b)))) from rfl) (am_g1 (by decide) rfl)
theorem s_UpRiverModel_isThere {X : am_X} {b : Bool} {J : am_J} {K : am_K}  {r : Int} (h : f_UpRiverModel_isThere J  = some r) : am_runs X T_UpRiverModel_isThere (0, [(0, am_pv 65)], [], am_SH, (J, K, am_RF b)) (some (am_iv r), am_SH, (J, K, am_RF b)) := by
  unfold f_UpRiverModel_isThere at h
  obtain ⟨q2040, e2041, h⟩ := am_bind_some h
  refine am_r_call (show am_stepn X T_UpRiverModel_isThere 4 true (0, [(0, am_pv 65)], [], am_SH, (J, K, am_RF b)) = some (true, .inr (.inl (186, [am_pv 65], 1, 0, 0, 8, [(0, am_pv 65)], [am_iv (J 65 16)], am_SH, (J, K, am_RF b)))) from rfl) rfl tb_UpRiverModel_top (s_UpRiverModel_top e2041) ?_
  obtain ⟨g2042, h⟩ := am_if_some h
  obtain ⟨g2043, h⟩ := am_if_some h
  by_cases c2044 : (J 65 16) < q2040
  · rw [if_pos c2044] at h
    refine am_r_f (show am_stepn X T_UpRiverModel_isThere 1 true (8, [(0, am_pv 65)], [am_iv q2040, am_iv (J 65 16)], am_SH, (J, K, am_RF b)) = some (((decide (am_i32 q2040) && decide (am_i32 (J 65 16))) && true), .inl (bif am_cb .ge (J 65 16) q2040 then 33 else 11, [(0, am_pv 65)], [], am_SH, (J, K, am_RF b))) from rfl) (am_g2 g2042 g2043 rfl) (am_nd_t c2044) ?_
    obtain ⟨q2045, e2046, h⟩ := am_bind_some h
    refine am_r_call (show am_stepn X T_UpRiverModel_isThere 10 true (11, [(0, am_pv 65)], [], am_SH, (J, K, am_RF b)) = some (((decide (0 < (8 : Int) ∧ am_i32 8) && decide (am_i32 (J 65 16))) && true), .inr (.inl (182, [am_pv 65, am_iv (am_dv (J 65 16) 8), am_iv (J 65 17), am_iv (J 65 19)], 4, 0, 0, 30, [(0, am_pv 65)], [], am_SH, (J, K, am_RF b)))) from rfl) (am_g2 (by decide) g2043 rfl) tb_UpRiverModel_isAfloat (s_UpRiverModel_isAfloat e2046) ?_
    obtain ⟨g2047, h⟩ := am_if_some h
    by_cases c2048 : q2045 = 0
    · rw [if_pos c2048] at h
      refine am_r_t (show am_stepn X T_UpRiverModel_isThere 1 true (30, [(0, am_pv 65)], [am_iv q2045], am_SH, (J, K, am_RF b)) = some ((decide (am_i32 q2045) && true), .inl (bif am_cb .eq q2045 0 then 37 else 33, [(0, am_pv 65)], [], am_SH, (J, K, am_RF b))) from rfl) (am_g1 g2047 rfl) (decide_eq_true c2048) ?_
      obtain rfl := Option.some.inj h
      exact am_r_ret (show am_stepn X T_UpRiverModel_isThere 2 true (37, [(0, am_pv 65)], [], am_SH, (J, K, am_RF b)) = some ((decide ((0 : Int) = 0 ∨ (0 : Int) = 1) && true), .inr (.inr (some (am_iv 0), am_SH, (J, K, am_RF b)))) from rfl) (am_g1 (by decide) rfl)
    · rw [if_neg c2048] at h
      refine am_r_f (show am_stepn X T_UpRiverModel_isThere 1 true (30, [(0, am_pv 65)], [am_iv q2045], am_SH, (J, K, am_RF b)) = some ((decide (am_i32 q2045) && true), .inl (bif am_cb .eq q2045 0 then 37 else 33, [(0, am_pv 65)], [], am_SH, (J, K, am_RF b))) from rfl) (am_g1 g2047 rfl) (decide_eq_false c2048) ?_
      obtain rfl := Option.some.inj h
      exact am_r_ret (show am_stepn X T_UpRiverModel_isThere 3 true (33, [(0, am_pv 65)], [], am_SH, (J, K, am_RF b)) = some ((decide ((1 : Int) = 0 ∨ (1 : Int) = 1) && true), .inr (.inr (some (am_iv 1), am_SH, (J, K, am_RF b)))) from rfl) (am_g1 (by decide) rfl)
  · rw [if_neg c2044] at h
    refine am_r_t (show am_stepn X T_UpRiverModel_isThere 1 true (8, [(0, am_pv 65)], [am_iv q2040, am_iv (J 65 16)], am_SH, (J, K, am_RF b)) = some (((decide (am_i32 q2040) && decide (am_i32 (J 65 16))) && true), .inl (bif am_cb .ge (J 65 16) q2040 then 33 else 11, [(0, am_pv 65)], [], am_SH, (J, K, am_RF b))) from rfl) (am_g2 g2042 g2043 rfl) (am_nd_f c2044) ?_
    obtain rfl := Option.some.inj h
    exact am_r_ret (show am_stepn X T_UpRiverModel_isThere 3 true (33, [(0, am_pv 65)], [], am_SH, (J, K, am_RF b)) = some ((decide ((1 : Int) = 0 ∨ (1 : Int) = 1) && true), .inr (.inr (some (am_iv 1), am_SH, (J, K, am_RF b)))) from rfl) (am_g1 (by decide) rfl)
theorem s_UpRiverModel_sails_L77 {X : am_X} {b : Bool} {K : am_K}  : ∀ (x3 : Int) (x4 : Int) (s1 : Int) (J : am_J) (r : Int × am_J), f_UpRiverModel_sails_L77    x3 x4 s1 J = some r → am_runs X T_UpRiverModel_sails (77, [(0, am_pv 65), (3, am_iv x3), (4, am_iv x4)], [am_iv s1, am_pv 65], am_SH, (J, K, am_RF b)) (some (am_iv r.1), am_SH, (r.2, K, am_RF b)) := by
  intro x3 x4 s1 J r h
  unfold f_UpRiverModel_sails_L77 at h
  obtain ⟨q2049, e2050, h⟩ := am_bind_some h
  refine am_r_call (show am_stepn X T_UpRiverModel_sails 11 true (77, [(0, am_pv 65), (3, am_iv x3), (4, am_iv x4)], [am_iv s1, am_pv 65], am_SH, (J, K, am_RF b)) = some (true, .inr (.inl (189, [am_pv 65], 1, 0, 0, 97, [(0, am_pv 65), (3, am_iv x3), (4, am_iv x4)], [], am_SH, ((am_up (am_up (am_up J 65 17 s1) 65 18 x3) 65 19 (x4 + 1)), K, am_RF b)))) from rfl) rfl tb_UpRiverModel_isThere (s_UpRiverModel_isThere e2050) ?_
  obtain ⟨g2051, h⟩ := am_if_some h
  obtain rfl := Option.some.inj h
  exact am_r_ret (show am_stepn X T_UpRiverModel_sails 1 true (97, [(0, am_pv 65), (3, am_iv x3), (4, am_iv x4)], [am_iv q2049], am_SH, ((am_up (am_up (am_up J 65 17 s1) 65 18 x3) 65 19 (x4 + 1)), K, am_RF b)) = some ((decide ((q2049 : Int) = 0 ∨ (q2049 : Int) = 1) && true), .inr (.inr (some (am_iv q2049), am_SH, ((am_up (am_up (am_up J 65 17 s1) 65 18 x3) 65 19 (x4 + 1)), K, am_RF b)))) from rfl) (am_g1 g2051 rfl)
theorem s_UpRiverModel_sails_L45 {X : am_X} {b : Bool} {K : am_K}  : ∀ (x2 : Int) (x3 : Int) (x4 : Int) (s1 : Int) (J : am_J) (r : Int × am_J), f_UpRiverModel_sails_L45    x2 x3 x4 s1 J = some r → am_runs X T_UpRiverModel_sails (45, [(0, am_pv 65), (2, am_iv x2), (3, am_iv x3), (4, am_iv x4)], [am_iv s1, am_pv 65], am_SH, (J, K, am_RF b)) (some (am_iv r.1), am_SH, (r.2, K, am_RF b)) := by
  intro x2 x3 x4 s1 J r h
  unfold f_UpRiverModel_sails_L45 at h
  obtain ⟨q2052, e2053, h⟩ := am_bind_some h
  refine am_r_call (show am_stepn X T_UpRiverModel_sails 6 true (45, [(0, am_pv 65), (2, am_iv x2), (3, am_iv x3), (4, am_iv x4)], [am_iv s1, am_pv 65], am_SH, (J, K, am_RF b)) = some (true, .inr (.inl (186, [am_pv 65], 1, 0, 0, 57, [(0, am_pv 65), (2, am_iv x2), (3, am_iv x3), (4, am_iv x4)], [am_iv s1, am_pv 65], am_SH, ((am_up J 65 16 s1), K, am_RF b)))) from rfl) rfl tb_UpRiverModel_top (s_UpRiverModel_top e2053) ?_
  obtain ⟨g2054, h⟩ := am_if_some h
  obtain ⟨g2055, h⟩ := am_if_some h
  by_cases c2056 : s1 < q2052
  · rw [if_pos c2056] at h
    refine am_r_t (show am_stepn X T_UpRiverModel_sails 1 true (57, [(0, am_pv 65), (2, am_iv x2), (3, am_iv x3), (4, am_iv x4)], [am_iv q2052, am_iv s1, am_pv 65], am_SH, ((am_up J 65 16 s1), K, am_RF b)) = some (((decide (am_i32 q2052) && decide (am_i32 s1)) && true), .inl (bif am_cb .lt s1 q2052 then 64 else 60, [(0, am_pv 65), (2, am_iv x2), (3, am_iv x3), (4, am_iv x4)], [am_pv 65], am_SH, ((am_up J 65 16 s1), K, am_RF b))) from rfl) (am_g2 g2054 g2055 rfl) (decide_eq_true c2056) ?_
    obtain ⟨g2057, h⟩ := am_if_some h
    by_cases c2058 : x3 = 0
    · rw [if_pos c2058] at h
      refine am_r_f (show am_stepn X T_UpRiverModel_sails 2 true (64, [(0, am_pv 65), (2, am_iv x2), (3, am_iv x3), (4, am_iv x4)], [am_pv 65], am_SH, ((am_up J 65 16 s1), K, am_RF b)) = some ((decide (am_i32 x3) && true), .inl (bif am_cb .ne x3 0 then 74 else 68, [(0, am_pv 65), (2, am_iv x2), (3, am_iv x3), (4, am_iv x4)], [am_pv 65], am_SH, ((am_up J 65 16 s1), K, am_RF b))) from rfl) (am_g1 g2057 rfl) (am_nd_t c2058) ?_
      refine am_r_go (show am_stepn X T_UpRiverModel_sails 4 true (68, [(0, am_pv 65), (2, am_iv x2), (3, am_iv x3), (4, am_iv x4)], [am_pv 65], am_SH, ((am_up J 65 16 s1), K, am_RF b)) = some (true, .inl (77, [(0, am_pv 65), (2, am_iv x2), (3, am_iv x3), (4, am_iv x4)], [am_iv (x2 + 1), am_pv 65], am_SH, ((am_up J 65 16 s1), K, am_RF b))) from rfl) rfl ?_
      refine am_r_eq (σ' := (77, [(0, am_pv 65), (3, am_iv x3), (4, am_iv x4)], [am_iv (x2 + 1), am_pv 65], am_SH, ((am_up J 65 16 s1), K, am_RF b))) rfl ?_
      exact s_UpRiverModel_sails_L77  _ _ _ _ _ h
    · rw [if_neg c2058] at h
      refine am_r_t (show am_stepn X T_UpRiverModel_sails 2 true (64, [(0, am_pv 65), (2, am_iv x2), (3, am_iv x3), (4, am_iv x4)], [am_pv 65], am_SH, ((am_up J 65 16 s1), K, am_RF b)) = some ((decide (am_i32 x3) && true), .inl (bif am_cb .ne x3 0 then 74 else 68, [(0, am_pv 65), (2, am_iv x2), (3, am_iv x3), (4, am_iv x4)], [am_pv 65], am_SH, ((am_up J 65 16 s1), K, am_RF b))) from rfl) (am_g1 g2057 rfl) (am_nd_f c2058) ?_
      refine am_r_go (show am_stepn X T_UpRiverModel_sails 3 true (74, [(0, am_pv 65), (2, am_iv x2), (3, am_iv x3), (4, am_iv x4)], [am_pv 65], am_SH, ((am_up J 65 16 s1), K, am_RF b)) = some (true, .inl (77, [(0, am_pv 65), (2, am_iv x2), (3, am_iv x3), (4, am_iv x4)], [am_iv (x2 - 1), am_pv 65], am_SH, ((am_up J 65 16 s1), K, am_RF b))) from rfl) rfl ?_
      refine am_r_eq (σ' := (77, [(0, am_pv 65), (3, am_iv x3), (4, am_iv x4)], [am_iv (x2 - 1), am_pv 65], am_SH, ((am_up J 65 16 s1), K, am_RF b))) rfl ?_
      exact s_UpRiverModel_sails_L77  _ _ _ _ _ h
  · rw [if_neg c2056] at h
    refine am_r_f (show am_stepn X T_UpRiverModel_sails 1 true (57, [(0, am_pv 65), (2, am_iv x2), (3, am_iv x3), (4, am_iv x4)], [am_iv q2052, am_iv s1, am_pv 65], am_SH, ((am_up J 65 16 s1), K, am_RF b)) = some (((decide (am_i32 q2052) && decide (am_i32 s1)) && true), .inl (bif am_cb .lt s1 q2052 then 64 else 60, [(0, am_pv 65), (2, am_iv x2), (3, am_iv x3), (4, am_iv x4)], [am_pv 65], am_SH, ((am_up J 65 16 s1), K, am_RF b))) from rfl) (am_g2 g2054 g2055 rfl) (decide_eq_false c2056) ?_
    refine am_r_go (show am_stepn X T_UpRiverModel_sails 2 true (60, [(0, am_pv 65), (2, am_iv x2), (3, am_iv x3), (4, am_iv x4)], [am_pv 65], am_SH, ((am_up J 65 16 s1), K, am_RF b)) = some (true, .inl (77, [(0, am_pv 65), (2, am_iv x2), (3, am_iv x3), (4, am_iv x4)], [am_iv x2, am_pv 65], am_SH, ((am_up J 65 16 s1), K, am_RF b))) from rfl) rfl ?_
    refine am_r_eq (σ' := (77, [(0, am_pv 65), (3, am_iv x3), (4, am_iv x4)], [am_iv x2, am_pv 65], am_SH, ((am_up J 65 16 s1), K, am_RF b))) rfl ?_
    exact s_UpRiverModel_sails_L77  _ _ _ _ _ h
theorem s_UpRiverModel_sails {X : am_X} {b : Bool} {K : am_K} {x1 : Int} {x2 : Int} {x3 : Int} {x4 : Int} {J : am_J} {r : Int × am_J} (h : f_UpRiverModel_sails  x1 x2 x3 x4 J = some r) : am_runs X T_UpRiverModel_sails (0, [(0, am_pv 65), (1, am_iv x1), (2, am_iv x2), (3, am_iv x3), (4, am_iv x4)], [], am_SH, (J, K, am_RF b)) (some (am_iv r.1), am_SH, (r.2, K, am_RF b)) := by
  unfold f_UpRiverModel_sails at h
  obtain ⟨g2059, h⟩ := am_if_some h
  obtain ⟨q2060, e2061, h⟩ := am_bind_some h
  refine am_r_call (show am_stepn X T_UpRiverModel_sails 10 true (0, [(0, am_pv 65), (1, am_iv x1), (2, am_iv x2), (3, am_iv x3), (4, am_iv x4)], [], am_SH, (J, K, am_RF b)) = some (((decide (0 < (8 : Int) ∧ am_i32 8) && decide (am_i32 x1)) && true), .inr (.inl (174, [am_pv 65, am_iv (am_dv x1 8), am_iv x3], 4, 0, 0, 15, [(0, am_pv 65), (1, am_iv x1), (2, am_iv x2), (3, am_iv x3), (4, am_iv x4), (5, am_iv (am_dv x1 8))], [am_iv x1, am_pv 65], am_SH, (J, K, am_RF b)))) from rfl) (am_g2 (by decide) g2059 rfl) tb_UpRiverModel_wayOf (s_UpRiverModel_wayOf e2061) ?_
  obtain ⟨q2062, e2063, h⟩ := am_bind_some h
  refine am_r_call (show am_stepn X T_UpRiverModel_sails 6 true (15, [(0, am_pv 65), (1, am_iv x1), (2, am_iv x2), (3, am_iv x3), (4, am_iv x4), (5, am_iv (am_dv x1 8))], [am_iv q2060, am_iv x1, am_pv 65], am_SH, (J, K, am_RF b)) = some (true, .inr (.inl (178, [am_pv 65, am_iv (am_dv x1 8), am_iv x2, am_iv x4], 6, 0, 0, 25, [(0, am_pv 65), (1, am_iv x1), (2, am_iv x2), (3, am_iv x3), (4, am_iv x4), (5, am_iv (am_dv x1 8))], [am_iv (x1 + q2060), am_pv 65], am_SH, (J, K, am_RF b)))) from rfl) rfl tb_UpRiverModel_flowAt (s_UpRiverModel_flowAt e2063) ?_
  obtain ⟨g2064, h⟩ := am_if_some h
  by_cases c2065 : ((x1 + q2060) + q2062) < 0
  · rw [if_pos c2065] at h
    refine am_r_f (show am_stepn X T_UpRiverModel_sails 6 true (25, [(0, am_pv 65), (1, am_iv x1), (2, am_iv x2), (3, am_iv x3), (4, am_iv x4), (5, am_iv (am_dv x1 8))], [am_iv q2062, am_iv (x1 + q2060), am_pv 65], am_SH, (J, K, am_RF b)) = some ((decide (am_i32 ((x1 + q2060) + q2062)) && true), .inl (bif am_cb .ge ((x1 + q2060) + q2062) 0 then 41 else 37, [(0, am_pv 65), (1, am_iv x1), (2, am_iv x2), (3, am_iv x3), (4, am_iv x4), (5, am_iv (am_dv x1 8))], [am_pv 65], am_SH, ((am_up J 65 16 ((x1 + q2060) + q2062)), K, am_RF b))) from rfl) (am_g1 g2064 rfl) (am_nd_t c2065) ?_
    refine am_r_go (show am_stepn X T_UpRiverModel_sails 2 true (37, [(0, am_pv 65), (1, am_iv x1), (2, am_iv x2), (3, am_iv x3), (4, am_iv x4), (5, am_iv (am_dv x1 8))], [am_pv 65], am_SH, ((am_up J 65 16 ((x1 + q2060) + q2062)), K, am_RF b)) = some (true, .inl (45, [(0, am_pv 65), (2, am_iv x2), (3, am_iv x3), (4, am_iv x4)], [am_iv 0, am_pv 65], am_SH, ((am_up J 65 16 ((x1 + q2060) + q2062)), K, am_RF b))) from rfl) rfl ?_
    exact s_UpRiverModel_sails_L45  _ _ _ _ _ _ h
  · rw [if_neg c2065] at h
    refine am_r_t (show am_stepn X T_UpRiverModel_sails 6 true (25, [(0, am_pv 65), (1, am_iv x1), (2, am_iv x2), (3, am_iv x3), (4, am_iv x4), (5, am_iv (am_dv x1 8))], [am_iv q2062, am_iv (x1 + q2060), am_pv 65], am_SH, (J, K, am_RF b)) = some ((decide (am_i32 ((x1 + q2060) + q2062)) && true), .inl (bif am_cb .ge ((x1 + q2060) + q2062) 0 then 41 else 37, [(0, am_pv 65), (1, am_iv x1), (2, am_iv x2), (3, am_iv x3), (4, am_iv x4), (5, am_iv (am_dv x1 8))], [am_pv 65], am_SH, ((am_up J 65 16 ((x1 + q2060) + q2062)), K, am_RF b))) from rfl) (am_g1 g2064 rfl) (am_nd_f c2065) ?_
    refine am_r_go (show am_stepn X T_UpRiverModel_sails 2 true (41, [(0, am_pv 65), (1, am_iv x1), (2, am_iv x2), (3, am_iv x3), (4, am_iv x4), (5, am_iv (am_dv x1 8))], [am_pv 65], am_SH, ((am_up J 65 16 ((x1 + q2060) + q2062)), K, am_RF b)) = some (true, .inl (45, [(0, am_pv 65), (2, am_iv x2), (3, am_iv x3), (4, am_iv x4)], [am_iv ((x1 + q2060) + q2062), am_pv 65], am_SH, ((am_up J 65 16 ((x1 + q2060) + q2062)), K, am_RF b))) from rfl) rfl ?_
    exact s_UpRiverModel_sails_L45  _ _ _ _ _ _ h
theorem s_UpRiverModel_sail_L105 {X : am_X} {b : Bool} {K : am_K} {kb45 : Int → Int → Int → am_J → Option (Int × am_J)} (hk45 : ∀ (x1 : Int) (x2 : Int) (x3 : Int) (J : am_J) (r : Int × am_J), kb45 x1 x2 x3 J = some r → am_runs X T_UpRiverModel_sail (45, [(0, am_pv 65), (1, am_iv x1), (2, am_iv x2), (3, am_iv x3)], [], am_SH, (J, K, am_RF b)) (some (am_iv r.1), am_SH, (r.2, K, am_RF b))) : ∀ (x1 : Int) (x2 : Int) (x3 : Int) (J : am_J) (r : Int × am_J), f_UpRiverModel_sail_L105  kb45  x1 x2 x3 J = some r → am_runs X T_UpRiverModel_sail (105, [(0, am_pv 65), (1, am_iv x1), (2, am_iv x2), (3, am_iv x3)], [], am_SH, (J, K, am_RF b)) (some (am_iv r.1), am_SH, (r.2, K, am_RF b)) := by
  intro x1 x2 x3 J r h
  unfold f_UpRiverModel_sail_L105 at h
  refine am_r_go (show am_stepn X T_UpRiverModel_sail 10 true (105, [(0, am_pv 65), (1, am_iv x1), (2, am_iv x2), (3, am_iv x3)], [], am_SH, (J, K, am_RF b)) = some ((am_in 0 216 && (am_in 0 216 && true)), .inl (45, [(0, am_pv 65), (1, am_iv x1), (2, am_iv x2), (3, am_iv (x3 + 1))], [], am_SH, ((am_up J 68 0 ((J 68 0) + 1)), K, am_RF b))) from rfl) (am_gi (by decide) (am_gi (by decide) rfl)) ?_
  exact hk45 _ _ _ _ _ h
theorem s_UpRiverModel_sail_L45 {X : am_X} {b : Bool} {K : am_K}  : ∀ (n : Nat) (x1 : Int) (x2 : Int) (x3 : Int) (J : am_J) (r : Int × am_J), f_UpRiverModel_sail_L45   n x1 x2 x3 J = some r → am_runs X T_UpRiverModel_sail (45, [(0, am_pv 65), (1, am_iv x1), (2, am_iv x2), (3, am_iv x3)], [], am_SH, (J, K, am_RF b)) (some (am_iv r.1), am_SH, (r.2, K, am_RF b)) := by
  intro n
  induction n with
  | zero =>
    intro x1 x2 x3 J r h
    cases h
  | succ n ih =>
    intro x1 x2 x3 J r h
    rw [f_UpRiverModel_sail_L45.eq_2] at h
    obtain ⟨g2066, h⟩ := am_if_some h
    obtain ⟨g2067, h⟩ := am_if_some h
    by_cases c2068 : x3 < x1
    · rw [if_pos c2068] at h
      refine am_r_f (show am_stepn X T_UpRiverModel_sail 3 true (45, [(0, am_pv 65), (1, am_iv x1), (2, am_iv x2), (3, am_iv x3)], [], am_SH, (J, K, am_RF b)) = some (((decide (am_i32 x1) && decide (am_i32 x3)) && true), .inl (bif am_cb .ge x3 x1 then 121 else 50, [(0, am_pv 65), (1, am_iv x1), (2, am_iv x2), (3, am_iv x3)], [], am_SH, (J, K, am_RF b))) from rfl) (am_g2 g2066 g2067 rfl) (am_nd_t c2068) ?_
      obtain ⟨q2069, e2070, h⟩ := am_bind_some h
      refine am_r_call (show am_stepn X T_UpRiverModel_sail 2 true (50, [(0, am_pv 65), (1, am_iv x1), (2, am_iv x2), (3, am_iv x3)], [], am_SH, (J, K, am_RF b)) = some (true, .inr (.inl (185, [am_pv 65], 1, 0, 0, 54, [(0, am_pv 65), (1, am_iv x1), (2, am_iv x2), (3, am_iv x3)], [], am_SH, (J, K, am_RF b)))) from rfl) rfl tb_UpRiverModel_isUp (s_UpRiverModel_isUp e2070) ?_
      obtain ⟨g2071, h⟩ := am_if_some h
      by_cases c2072 : q2069 = 0
      · rw [if_pos c2072] at h
        refine am_r_f (show am_stepn X T_UpRiverModel_sail 1 true (54, [(0, am_pv 65), (1, am_iv x1), (2, am_iv x2), (3, am_iv x3)], [am_iv q2069], am_SH, (J, K, am_RF b)) = some ((decide (am_i32 q2069) && true), .inl (bif am_cb .ne q2069 0 then 121 else 57, [(0, am_pv 65), (1, am_iv x1), (2, am_iv x2), (3, am_iv x3)], [], am_SH, (J, K, am_RF b))) from rfl) (am_g1 g2071 rfl) (am_nd_t c2072) ?_
        obtain ⟨q2073, e2074, h⟩ := am_bind_some h
        refine am_r_call (show am_stepn X T_UpRiverModel_sail 2 true (57, [(0, am_pv 65), (1, am_iv x1), (2, am_iv x2), (3, am_iv x3)], [], am_SH, (J, K, am_RF b)) = some (true, .inr (.inl (187, [am_pv 65], 1, 0, 0, 61, [(0, am_pv 65), (1, am_iv x1), (2, am_iv x2), (3, am_iv x3)], [], am_SH, (J, K, am_RF b)))) from rfl) rfl tb_UpRiverModel_isFloating (s_UpRiverModel_isFloating e2074) ?_
        obtain ⟨g2075, h⟩ := am_if_some h
        by_cases c2076 : q2073 = 0
        · rw [if_pos c2076] at h
          refine am_r_t (show am_stepn X T_UpRiverModel_sail 1 true (61, [(0, am_pv 65), (1, am_iv x1), (2, am_iv x2), (3, am_iv x3)], [am_iv q2073], am_SH, (J, K, am_RF b)) = some ((decide (am_i32 q2073) && true), .inl (bif am_cb .eq q2073 0 then 105 else 64, [(0, am_pv 65), (1, am_iv x1), (2, am_iv x2), (3, am_iv x3)], [], am_SH, (J, K, am_RF b))) from rfl) (am_g1 g2075 rfl) (decide_eq_true c2076) ?_
          exact s_UpRiverModel_sail_L105 ih _ _ _ _ _ h
        · rw [if_neg c2076] at h
          refine am_r_f (show am_stepn X T_UpRiverModel_sail 1 true (61, [(0, am_pv 65), (1, am_iv x1), (2, am_iv x2), (3, am_iv x3)], [am_iv q2073], am_SH, (J, K, am_RF b)) = some ((decide (am_i32 q2073) && true), .inl (bif am_cb .eq q2073 0 then 105 else 64, [(0, am_pv 65), (1, am_iv x1), (2, am_iv x2), (3, am_iv x3)], [], am_SH, (J, K, am_RF b))) from rfl) (am_g1 g2075 rfl) (decide_eq_false c2076) ?_
          obtain ⟨q2077, e2078, h⟩ := am_bind_some h
          refine am_r_call (show am_stepn X T_UpRiverModel_sail 18 true (64, [(0, am_pv 65), (1, am_iv x1), (2, am_iv x2), (3, am_iv x3)], [], am_SH, (J, K, am_RF b)) = some ((am_in 0 216 && (am_in 3 216 && (am_in 2 216 && (am_in 1 216 && true)))), .inr (.inl (188, [am_pv 65, am_iv (J 68 1), am_iv (J 68 2), am_iv (J 68 3), am_iv (J 68 0)], 6, 0, 0, 92, [(0, am_pv 65), (1, am_iv x1), (2, am_iv x2), (3, am_iv x3)], [], am_SH, (J, K, am_RF b)))) from rfl) (am_gi (by decide) (am_gi (by decide) (am_gi (by decide) (am_gi (by decide) rfl)))) tb_UpRiverModel_sails (s_UpRiverModel_sails e2078) ?_
          obtain ⟨g2079, h⟩ := am_if_some h
          by_cases c2080 : q2077.1 = 0
          · rw [if_pos c2080] at h
            refine am_r_t (show am_stepn X T_UpRiverModel_sail 1 true (92, [(0, am_pv 65), (1, am_iv x1), (2, am_iv x2), (3, am_iv x3)], [am_iv q2077.1], am_SH, (q2077.2, K, am_RF b)) = some ((decide (am_i32 q2077.1) && true), .inl (bif am_cb .eq q2077.1 0 then 105 else 95, [(0, am_pv 65), (1, am_iv x1), (2, am_iv x2), (3, am_iv x3)], [], am_SH, (q2077.2, K, am_RF b))) from rfl) (am_g1 g2079 rfl) (decide_eq_true c2080) ?_
            exact s_UpRiverModel_sail_L105 ih _ _ _ _ _ h
          · rw [if_neg c2080] at h
            refine am_r_f (show am_stepn X T_UpRiverModel_sail 1 true (92, [(0, am_pv 65), (1, am_iv x1), (2, am_iv x2), (3, am_iv x3)], [am_iv q2077.1], am_SH, (q2077.2, K, am_RF b)) = some ((decide (am_i32 q2077.1) && true), .inl (bif am_cb .eq q2077.1 0 then 105 else 95, [(0, am_pv 65), (1, am_iv x1), (2, am_iv x2), (3, am_iv x3)], [], am_SH, (q2077.2, K, am_RF b))) from rfl) (am_g1 g2079 rfl) (decide_eq_false c2080) ?_
            obtain ⟨q2081, e2082, h⟩ := am_bind_some h
            refine am_r_call (show am_stepn X T_UpRiverModel_sail 2 true (95, [(0, am_pv 65), (1, am_iv x1), (2, am_iv x2), (3, am_iv x3)], [], am_SH, (q2077.2, K, am_RF b)) = some (true, .inr (.inl (190, [am_pv 65], 1, 0, 0, 99, [(0, am_pv 65), (1, am_iv x1), (2, am_iv x2), (3, am_iv x3)], [], am_SH, (q2077.2, K, am_RF b)))) from rfl) rfl tb_UpRiverModel_goesThere (s_UpRiverModel_goesThere e2082) ?_
            refine am_r_go (show am_stepn X T_UpRiverModel_sail 4 true (99, [(0, am_pv 65), (1, am_iv x1), (2, am_iv x2), (3, am_iv x3)], [], am_SH, (q2081, K, am_RF b)) = some (true, .inl (45, [(0, am_pv 65), (1, am_iv x1), (2, am_iv (x2 + 1)), (3, am_iv (x3 + 1))], [], am_SH, (q2081, K, am_RF b))) from rfl) rfl ?_
            exact ih _ _ _ _ _ h
      · rw [if_neg c2072] at h
        refine am_r_t (show am_stepn X T_UpRiverModel_sail 1 true (54, [(0, am_pv 65), (1, am_iv x1), (2, am_iv x2), (3, am_iv x3)], [am_iv q2069], am_SH, (J, K, am_RF b)) = some ((decide (am_i32 q2069) && true), .inl (bif am_cb .ne q2069 0 then 121 else 57, [(0, am_pv 65), (1, am_iv x1), (2, am_iv x2), (3, am_iv x3)], [], am_SH, (J, K, am_RF b))) from rfl) (am_g1 g2071 rfl) (am_nd_f c2072) ?_
        obtain rfl := Option.some.inj h
        exact am_r_ret (show am_stepn X T_UpRiverModel_sail 10 true (121, [(0, am_pv 65), (1, am_iv x1), (2, am_iv x2), (3, am_iv x3)], [], am_SH, (J, K, am_RF b)) = some ((am_in 5 216 && (am_in 5 216 && true)), .inr (.inr (some (am_iv x2), am_SH, ((am_up J 68 5 ((J 68 5) + x2)), K, am_RF b)))) from rfl) (am_gi (by decide) (am_gi (by decide) rfl))
    · rw [if_neg c2068] at h
      refine am_r_t (show am_stepn X T_UpRiverModel_sail 3 true (45, [(0, am_pv 65), (1, am_iv x1), (2, am_iv x2), (3, am_iv x3)], [], am_SH, (J, K, am_RF b)) = some (((decide (am_i32 x1) && decide (am_i32 x3)) && true), .inl (bif am_cb .ge x3 x1 then 121 else 50, [(0, am_pv 65), (1, am_iv x1), (2, am_iv x2), (3, am_iv x3)], [], am_SH, (J, K, am_RF b))) from rfl) (am_g2 g2066 g2067 rfl) (am_nd_f c2068) ?_
      obtain rfl := Option.some.inj h
      exact am_r_ret (show am_stepn X T_UpRiverModel_sail 10 true (121, [(0, am_pv 65), (1, am_iv x1), (2, am_iv x2), (3, am_iv x3)], [], am_SH, (J, K, am_RF b)) = some ((am_in 5 216 && (am_in 5 216 && true)), .inr (.inr (some (am_iv x2), am_SH, ((am_up J 68 5 ((J 68 5) + x2)), K, am_RF b)))) from rfl) (am_gi (by decide) (am_gi (by decide) rfl))
theorem s_UpRiverModel_sail {X : am_X} {b : Bool} {K : am_K} {x1 : Int} {J : am_J} {r : Int × am_J} (h : f_UpRiverModel_sail  x1 J = some r) : am_runs X T_UpRiverModel_sail (0, [(0, am_pv 65), (1, am_iv x1)], [], am_SH, (J, K, am_RF b)) (some (am_iv r.1), am_SH, (r.2, K, am_RF b)) := by
  unfold f_UpRiverModel_sail at h
  obtain ⟨q2083, e2084, h⟩ := am_bind_some h
  refine am_r_call (show am_stepn X T_UpRiverModel_sail 5 true (0, [(0, am_pv 65), (1, am_iv x1)], [], am_SH, (J, K, am_RF b)) = some (true, .inr (.inl (150, [am_jv (am_i2l x1), am_jv (1 : Int64), am_jv (99 : Int64)], 6, 0, 0, 9, [(0, am_pv 65), (1, am_iv x1)], [], am_SH, (J, K, am_RF b)))) from rfl) rfl tb_UpRiverModel_in (s_UpRiverModel_in e2084) ?_
  obtain ⟨g2085, h⟩ := am_if_some h
  by_cases c2086 : q2083 = 0
  · rw [if_pos c2086] at h
    refine am_r_f (show am_stepn X T_UpRiverModel_sail 1 true (9, [(0, am_pv 65), (1, am_iv x1)], [am_iv q2083], am_SH, (J, K, am_RF b)) = some ((decide (am_i32 q2083) && true), .inl (bif am_cb .ne q2083 0 then 14 else 12, [(0, am_pv 65), (1, am_iv x1)], [], am_SH, (J, K, am_RF b))) from rfl) (am_g1 g2085 rfl) (am_nd_t c2086) ?_
    obtain rfl := Option.some.inj h
    exact am_r_ret (show am_stepn X T_UpRiverModel_sail 2 true (12, [(0, am_pv 65), (1, am_iv x1)], [], am_SH, (J, K, am_RF b)) = some (true, .inr (.inr (some (am_iv (-1)), am_SH, (J, K, am_RF b)))) from rfl) rfl
  · rw [if_neg c2086] at h
    refine am_r_t (show am_stepn X T_UpRiverModel_sail 1 true (9, [(0, am_pv 65), (1, am_iv x1)], [am_iv q2083], am_SH, (J, K, am_RF b)) = some ((decide (am_i32 q2083) && true), .inl (bif am_cb .ne q2083 0 then 14 else 12, [(0, am_pv 65), (1, am_iv x1)], [], am_SH, (J, K, am_RF b))) from rfl) (am_g1 g2085 rfl) (am_nd_f c2086) ?_
    obtain ⟨q2087, e2088, h⟩ := am_bind_some h
    refine am_r_call (show am_stepn X T_UpRiverModel_sail 2 true (14, [(0, am_pv 65), (1, am_iv x1)], [], am_SH, (J, K, am_RF b)) = some (true, .inr (.inl (185, [am_pv 65], 1, 0, 0, 18, [(0, am_pv 65), (1, am_iv x1)], [], am_SH, (J, K, am_RF b)))) from rfl) rfl tb_UpRiverModel_isUp (s_UpRiverModel_isUp e2088) ?_
    obtain ⟨g2089, h⟩ := am_if_some h
    by_cases c2090 : q2087 = 0
    · rw [if_pos c2090] at h
      refine am_r_t (show am_stepn X T_UpRiverModel_sail 1 true (18, [(0, am_pv 65), (1, am_iv x1)], [am_iv q2087], am_SH, (J, K, am_RF b)) = some ((decide (am_i32 q2087) && true), .inl (bif am_cb .eq q2087 0 then 24 else 21, [(0, am_pv 65), (1, am_iv x1)], [], am_SH, (J, K, am_RF b))) from rfl) (am_g1 g2089 rfl) (decide_eq_true c2090) ?_
      obtain ⟨g2091, h⟩ := am_if_some h
      by_cases c2092 : 300 < ((J 68 0) + x1)
      · rw [if_pos c2092] at h
        refine am_r_f (show am_stepn X T_UpRiverModel_sail 8 true (24, [(0, am_pv 65), (1, am_iv x1)], [], am_SH, (J, K, am_RF b)) = some (((decide (am_i32 300) && decide (am_i32 ((J 68 0) + x1))) && (am_in 0 216 && true)), .inl (bif am_cb .le ((J 68 0) + x1) 300 then 41 else 38, [(0, am_pv 65), (1, am_iv x1)], [], am_SH, (J, K, am_RF b))) from rfl) (am_g2 (by decide) g2091 (am_gi (by decide) rfl)) (am_nd_t c2092) ?_
        obtain rfl := Option.some.inj h
        exact am_r_ret (show am_stepn X T_UpRiverModel_sail 2 true (38, [(0, am_pv 65), (1, am_iv x1)], [], am_SH, (J, K, am_RF b)) = some (true, .inr (.inr (some (am_iv (-3)), am_SH, (J, K, am_RF b)))) from rfl) rfl
      · rw [if_neg c2092] at h
        refine am_r_t (show am_stepn X T_UpRiverModel_sail 8 true (24, [(0, am_pv 65), (1, am_iv x1)], [], am_SH, (J, K, am_RF b)) = some (((decide (am_i32 300) && decide (am_i32 ((J 68 0) + x1))) && (am_in 0 216 && true)), .inl (bif am_cb .le ((J 68 0) + x1) 300 then 41 else 38, [(0, am_pv 65), (1, am_iv x1)], [], am_SH, (J, K, am_RF b))) from rfl) (am_g2 (by decide) g2091 (am_gi (by decide) rfl)) (am_nd_f c2092) ?_
        refine am_r_go (show am_stepn X T_UpRiverModel_sail 4 true (41, [(0, am_pv 65), (1, am_iv x1)], [], am_SH, (J, K, am_RF b)) = some (true, .inl (45, [(0, am_pv 65), (1, am_iv x1), (2, am_iv 0), (3, am_iv 0)], [], am_SH, (J, K, am_RF b))) from rfl) rfl ?_
        exact s_UpRiverModel_sail_L45  _ _ _ _ _ _ h
    · rw [if_neg c2090] at h
      refine am_r_f (show am_stepn X T_UpRiverModel_sail 1 true (18, [(0, am_pv 65), (1, am_iv x1)], [am_iv q2087], am_SH, (J, K, am_RF b)) = some ((decide (am_i32 q2087) && true), .inl (bif am_cb .eq q2087 0 then 24 else 21, [(0, am_pv 65), (1, am_iv x1)], [], am_SH, (J, K, am_RF b))) from rfl) (am_g1 g2089 rfl) (decide_eq_false c2090) ?_
      obtain rfl := Option.some.inj h
      exact am_r_ret (show am_stepn X T_UpRiverModel_sail 2 true (21, [(0, am_pv 65), (1, am_iv x1)], [], am_SH, (J, K, am_RF b)) = some (true, .inr (.inr (some (am_iv (-2)), am_SH, (J, K, am_RF b)))) from rfl) rfl
theorem s_UpRiverModel_turns_L40 {X : am_X} {b : Bool} {K : am_K}  : ∀ (x2 : Int) (x3 : Int) (x4 : Int) (s1 : Int) (J : am_J) (r : Int × am_J), f_UpRiverModel_turns_L40    x2 x3 x4 s1 J = some r → am_runs X T_UpRiverModel_turns (40, [(0, am_pv 65), (2, am_iv x2), (3, am_iv x3), (4, am_iv x4)], [am_iv s1, am_pv 65], am_SH, (J, K, am_RF b)) (some (am_iv r.1), am_SH, (r.2, K, am_RF b)) := by
  intro x2 x3 x4 s1 J r h
  unfold f_UpRiverModel_turns_L40 at h
  obtain ⟨q2093, e2094, h⟩ := am_bind_some h
  refine am_r_call (show am_stepn X T_UpRiverModel_turns 19 true (40, [(0, am_pv 65), (2, am_iv x2), (3, am_iv x3), (4, am_iv x4)], [am_iv s1, am_pv 65], am_SH, (J, K, am_RF b)) = some ((am_in 5 295 && true), .inr (.inl (189, [am_pv 65], 1, 0, 0, 72, [(0, am_pv 65), (2, am_iv x2), (3, am_iv x3), (4, am_iv x4)], [], am_SH, ((am_up (am_up (am_up (am_up J 65 16 s1) 65 17 x2) 65 18 (1 - x3)) 65 19 (x4 + (J 66 5))), K, am_RF b)))) from rfl) (am_gi (by decide) rfl) tb_UpRiverModel_isThere (s_UpRiverModel_isThere e2094) ?_
  obtain ⟨g2095, h⟩ := am_if_some h
  obtain rfl := Option.some.inj h
  exact am_r_ret (show am_stepn X T_UpRiverModel_turns 1 true (72, [(0, am_pv 65), (2, am_iv x2), (3, am_iv x3), (4, am_iv x4)], [am_iv q2093], am_SH, ((am_up (am_up (am_up (am_up J 65 16 s1) 65 17 x2) 65 18 (1 - x3)) 65 19 (x4 + (J 66 5))), K, am_RF b)) = some ((decide ((q2093 : Int) = 0 ∨ (q2093 : Int) = 1) && true), .inr (.inr (some (am_iv q2093), am_SH, ((am_up (am_up (am_up (am_up J 65 16 s1) 65 17 x2) 65 18 (1 - x3)) 65 19 (x4 + (J 66 5))), K, am_RF b)))) from rfl) (am_g1 g2095 rfl)
theorem s_UpRiverModel_turns {X : am_X} {b : Bool} {K : am_K} {x1 : Int} {x2 : Int} {x3 : Int} {x4 : Int} {J : am_J} {r : Int × am_J} (h : f_UpRiverModel_turns  x1 x2 x3 x4 J = some r) : am_runs X T_UpRiverModel_turns (0, [(0, am_pv 65), (1, am_iv x1), (2, am_iv x2), (3, am_iv x3), (4, am_iv x4)], [], am_SH, (J, K, am_RF b)) (some (am_iv r.1), am_SH, (r.2, K, am_RF b)) := by
  unfold f_UpRiverModel_turns at h
  obtain ⟨g2096, h⟩ := am_if_some h
  obtain ⟨q2097, e2098, h⟩ := am_bind_some h
  refine am_r_call (show am_stepn X T_UpRiverModel_turns 13 true (0, [(0, am_pv 65), (1, am_iv x1), (2, am_iv x2), (3, am_iv x3), (4, am_iv x4)], [], am_SH, (J, K, am_RF b)) = some (((decide (0 < (8 : Int) ∧ am_i32 8) && decide (am_i32 x1)) && (am_in 5 295 && true)), .inr (.inl (178, [am_pv 65, am_iv (am_dv x1 8), am_iv x2, am_iv x4], 6, 0, 0, 19, [(0, am_pv 65), (1, am_iv x1), (2, am_iv x2), (3, am_iv x3), (4, am_iv x4)], [am_iv (J 66 5), am_iv x1, am_pv 65], am_SH, (J, K, am_RF b)))) from rfl) (am_g2 (by decide) g2096 (am_gi (by decide) rfl)) tb_UpRiverModel_flowAt (s_UpRiverModel_flowAt e2098) ?_
  obtain ⟨g2099, h⟩ := am_if_some h
  by_cases c2100 : (x1 + ((J 66 5) * q2097)) < 0
  · rw [if_pos c2100] at h
    refine am_r_f (show am_stepn X T_UpRiverModel_turns 7 true (19, [(0, am_pv 65), (1, am_iv x1), (2, am_iv x2), (3, am_iv x3), (4, am_iv x4)], [am_iv q2097, am_iv (J 66 5), am_iv x1, am_pv 65], am_SH, (J, K, am_RF b)) = some ((decide (am_i32 (x1 + ((J 66 5) * q2097))) && true), .inl (bif am_cb .ge (x1 + ((J 66 5) * q2097)) 0 then 36 else 32, [(0, am_pv 65), (1, am_iv x1), (2, am_iv x2), (3, am_iv x3), (4, am_iv x4)], [am_pv 65], am_SH, ((am_up J 65 16 (x1 + ((J 66 5) * q2097))), K, am_RF b))) from rfl) (am_g1 g2099 rfl) (am_nd_t c2100) ?_
    refine am_r_go (show am_stepn X T_UpRiverModel_turns 2 true (32, [(0, am_pv 65), (1, am_iv x1), (2, am_iv x2), (3, am_iv x3), (4, am_iv x4)], [am_pv 65], am_SH, ((am_up J 65 16 (x1 + ((J 66 5) * q2097))), K, am_RF b)) = some (true, .inl (40, [(0, am_pv 65), (2, am_iv x2), (3, am_iv x3), (4, am_iv x4)], [am_iv 0, am_pv 65], am_SH, ((am_up J 65 16 (x1 + ((J 66 5) * q2097))), K, am_RF b))) from rfl) rfl ?_
    exact s_UpRiverModel_turns_L40  _ _ _ _ _ _ h
  · rw [if_neg c2100] at h
    refine am_r_t (show am_stepn X T_UpRiverModel_turns 7 true (19, [(0, am_pv 65), (1, am_iv x1), (2, am_iv x2), (3, am_iv x3), (4, am_iv x4)], [am_iv q2097, am_iv (J 66 5), am_iv x1, am_pv 65], am_SH, (J, K, am_RF b)) = some ((decide (am_i32 (x1 + ((J 66 5) * q2097))) && true), .inl (bif am_cb .ge (x1 + ((J 66 5) * q2097)) 0 then 36 else 32, [(0, am_pv 65), (1, am_iv x1), (2, am_iv x2), (3, am_iv x3), (4, am_iv x4)], [am_pv 65], am_SH, ((am_up J 65 16 (x1 + ((J 66 5) * q2097))), K, am_RF b))) from rfl) (am_g1 g2099 rfl) (am_nd_f c2100) ?_
    refine am_r_go (show am_stepn X T_UpRiverModel_turns 2 true (36, [(0, am_pv 65), (1, am_iv x1), (2, am_iv x2), (3, am_iv x3), (4, am_iv x4)], [am_pv 65], am_SH, ((am_up J 65 16 (x1 + ((J 66 5) * q2097))), K, am_RF b)) = some (true, .inl (40, [(0, am_pv 65), (2, am_iv x2), (3, am_iv x3), (4, am_iv x4)], [am_iv (x1 + ((J 66 5) * q2097)), am_pv 65], am_SH, ((am_up J 65 16 (x1 + ((J 66 5) * q2097))), K, am_RF b))) from rfl) rfl ?_
    exact s_UpRiverModel_turns_L40  _ _ _ _ _ _ h
theorem s_UpRiverModel_turn {X : am_X} {b : Bool} {K : am_K} {J : am_J} {r : Int × am_J} (h : f_UpRiverModel_turn  J = some r) : am_runs X T_UpRiverModel_turn (0, [(0, am_pv 65)], [], am_SH, (J, K, am_RF b)) (some (am_iv r.1), am_SH, (r.2, K, am_RF b)) := by
  unfold f_UpRiverModel_turn at h
  obtain ⟨q2101, e2102, h⟩ := am_bind_some h
  refine am_r_call (show am_stepn X T_UpRiverModel_turn 2 true (0, [(0, am_pv 65)], [], am_SH, (J, K, am_RF b)) = some (true, .inr (.inl (185, [am_pv 65], 1, 0, 0, 4, [(0, am_pv 65)], [], am_SH, (J, K, am_RF b)))) from rfl) rfl tb_UpRiverModel_isUp (s_UpRiverModel_isUp e2102) ?_
  obtain ⟨g2103, h⟩ := am_if_some h
  by_cases c2104 : q2101 = 0
  · rw [if_pos c2104] at h
    refine am_r_t (show am_stepn X T_UpRiverModel_turn 1 true (4, [(0, am_pv 65)], [am_iv q2101], am_SH, (J, K, am_RF b)) = some ((decide (am_i32 q2101) && true), .inl (bif am_cb .eq q2101 0 then 10 else 7, [(0, am_pv 65)], [], am_SH, (J, K, am_RF b))) from rfl) (am_g1 g2103 rfl) (decide_eq_true c2104) ?_
    obtain ⟨g2105, h⟩ := am_if_some h
    by_cases c2106 : 300 < ((J 68 0) + (J 66 5))
    · rw [if_pos c2106] at h
      refine am_r_f (show am_stepn X T_UpRiverModel_turn 11 true (10, [(0, am_pv 65)], [], am_SH, (J, K, am_RF b)) = some (((decide (am_i32 300) && decide (am_i32 ((J 68 0) + (J 66 5)))) && (am_in 5 295 && (am_in 0 216 && true))), .inl (bif am_cb .le ((J 68 0) + (J 66 5)) 300 then 32 else 29, [(0, am_pv 65)], [], am_SH, (J, K, am_RF b))) from rfl) (am_g2 (by decide) g2105 (am_gi (by decide) (am_gi (by decide) rfl))) (am_nd_t c2106) ?_
      obtain rfl := Option.some.inj h
      exact am_r_ret (show am_stepn X T_UpRiverModel_turn 2 true (29, [(0, am_pv 65)], [], am_SH, (J, K, am_RF b)) = some (true, .inr (.inr (some (am_iv (-3)), am_SH, (J, K, am_RF b)))) from rfl) rfl
    · rw [if_neg c2106] at h
      refine am_r_t (show am_stepn X T_UpRiverModel_turn 11 true (10, [(0, am_pv 65)], [], am_SH, (J, K, am_RF b)) = some (((decide (am_i32 300) && decide (am_i32 ((J 68 0) + (J 66 5)))) && (am_in 5 295 && (am_in 0 216 && true))), .inl (bif am_cb .le ((J 68 0) + (J 66 5)) 300 then 32 else 29, [(0, am_pv 65)], [], am_SH, (J, K, am_RF b))) from rfl) (am_g2 (by decide) g2105 (am_gi (by decide) (am_gi (by decide) rfl))) (am_nd_f c2106) ?_
      obtain ⟨q2107, e2108, h⟩ := am_bind_some h
      refine am_r_call (show am_stepn X T_UpRiverModel_turn 2 true (32, [(0, am_pv 65)], [], am_SH, (J, K, am_RF b)) = some (true, .inr (.inl (187, [am_pv 65], 1, 0, 0, 36, [(0, am_pv 65)], [], am_SH, (J, K, am_RF b)))) from rfl) rfl tb_UpRiverModel_isFloating (s_UpRiverModel_isFloating e2108) ?_
      obtain ⟨g2109, h⟩ := am_if_some h
      by_cases c2110 : q2107 = 0
      · rw [if_pos c2110] at h
        refine am_r_t (show am_stepn X T_UpRiverModel_turn 1 true (36, [(0, am_pv 65)], [am_iv q2107], am_SH, (J, K, am_RF b)) = some ((decide (am_i32 q2107) && true), .inl (bif am_cb .eq q2107 0 then 70 else 39, [(0, am_pv 65)], [], am_SH, (J, K, am_RF b))) from rfl) (am_g1 g2109 rfl) (decide_eq_true c2110) ?_
        obtain rfl := Option.some.inj h
        exact am_r_ret (show am_stepn X T_UpRiverModel_turn 10 true (70, [(0, am_pv 65)], [], am_SH, (J, K, am_RF b)) = some ((am_in 0 216 && (am_in 0 216 && true)), .inr (.inr (some (am_iv 0), am_SH, ((am_up J 68 0 ((J 68 0) + 1)), K, am_RF b)))) from rfl) (am_gi (by decide) (am_gi (by decide) rfl))
      · rw [if_neg c2110] at h
        refine am_r_f (show am_stepn X T_UpRiverModel_turn 1 true (36, [(0, am_pv 65)], [am_iv q2107], am_SH, (J, K, am_RF b)) = some ((decide (am_i32 q2107) && true), .inl (bif am_cb .eq q2107 0 then 70 else 39, [(0, am_pv 65)], [], am_SH, (J, K, am_RF b))) from rfl) (am_g1 g2109 rfl) (decide_eq_false c2110) ?_
        obtain ⟨q2111, e2112, h⟩ := am_bind_some h
        refine am_r_call (show am_stepn X T_UpRiverModel_turn 18 true (39, [(0, am_pv 65)], [], am_SH, (J, K, am_RF b)) = some ((am_in 0 216 && (am_in 3 216 && (am_in 2 216 && (am_in 1 216 && true)))), .inr (.inl (192, [am_pv 65, am_iv (J 68 1), am_iv (J 68 2), am_iv (J 68 3), am_iv (J 68 0)], 5, 0, 0, 67, [(0, am_pv 65)], [], am_SH, (J, K, am_RF b)))) from rfl) (am_gi (by decide) (am_gi (by decide) (am_gi (by decide) (am_gi (by decide) rfl)))) tb_UpRiverModel_turns (s_UpRiverModel_turns e2112) ?_
        obtain ⟨g2113, h⟩ := am_if_some h
        by_cases c2114 : q2111.1 = 0
        · rw [if_pos c2114] at h
          refine am_r_f (show am_stepn X T_UpRiverModel_turn 1 true (67, [(0, am_pv 65)], [am_iv q2111.1], am_SH, (q2111.2, K, am_RF b)) = some ((decide (am_i32 q2111.1) && true), .inl (bif am_cb .ne q2111.1 0 then 82 else 70, [(0, am_pv 65)], [], am_SH, (q2111.2, K, am_RF b))) from rfl) (am_g1 g2113 rfl) (am_nd_t c2114) ?_
          obtain rfl := Option.some.inj h
          exact am_r_ret (show am_stepn X T_UpRiverModel_turn 10 true (70, [(0, am_pv 65)], [], am_SH, (q2111.2, K, am_RF b)) = some ((am_in 0 216 && (am_in 0 216 && true)), .inr (.inr (some (am_iv 0), am_SH, ((am_up q2111.2 68 0 ((q2111.2 68 0) + 1)), K, am_RF b)))) from rfl) (am_gi (by decide) (am_gi (by decide) rfl))
        · rw [if_neg c2114] at h
          refine am_r_t (show am_stepn X T_UpRiverModel_turn 1 true (67, [(0, am_pv 65)], [am_iv q2111.1], am_SH, (q2111.2, K, am_RF b)) = some ((decide (am_i32 q2111.1) && true), .inl (bif am_cb .ne q2111.1 0 then 82 else 70, [(0, am_pv 65)], [], am_SH, (q2111.2, K, am_RF b))) from rfl) (am_g1 g2113 rfl) (am_nd_f c2114) ?_
          obtain ⟨q2115, e2116, h⟩ := am_bind_some h
          refine am_r_call (show am_stepn X T_UpRiverModel_turn 2 true (82, [(0, am_pv 65)], [], am_SH, (q2111.2, K, am_RF b)) = some (true, .inr (.inl (190, [am_pv 65], 1, 0, 0, 86, [(0, am_pv 65)], [], am_SH, (q2111.2, K, am_RF b)))) from rfl) rfl tb_UpRiverModel_goesThere (s_UpRiverModel_goesThere e2116) ?_
          obtain rfl := Option.some.inj h
          exact am_r_ret (show am_stepn X T_UpRiverModel_turn 10 true (86, [(0, am_pv 65)], [], am_SH, (q2115, K, am_RF b)) = some ((am_in 4 216 && (am_in 4 216 && true)), .inr (.inr (some (am_iv 1), am_SH, ((am_up q2115 68 4 ((q2115 68 4) + 1)), K, am_RF b)))) from rfl) (am_gi (by decide) (am_gi (by decide) rfl))
  · rw [if_neg c2104] at h
    refine am_r_f (show am_stepn X T_UpRiverModel_turn 1 true (4, [(0, am_pv 65)], [am_iv q2101], am_SH, (J, K, am_RF b)) = some ((decide (am_i32 q2101) && true), .inl (bif am_cb .eq q2101 0 then 10 else 7, [(0, am_pv 65)], [], am_SH, (J, K, am_RF b))) from rfl) (am_g1 g2103 rfl) (decide_eq_false c2104) ?_
    obtain rfl := Option.some.inj h
    exact am_r_ret (show am_stepn X T_UpRiverModel_turn 2 true (7, [(0, am_pv 65)], [], am_SH, (J, K, am_RF b)) = some (true, .inr (.inr (some (am_iv (-2)), am_SH, (J, K, am_RF b)))) from rfl) rfl
theorem s_UpRiverModel_anchor {X : am_X} {b : Bool} {K : am_K} {x1 : Int} {J : am_J} {r : Int × am_J} (h : f_UpRiverModel_anchor  x1 J = some r) : am_runs X T_UpRiverModel_anchor (0, [(0, am_pv 65), (1, am_iv x1)], [], am_SH, (J, K, am_RF b)) (some (am_iv r.1), am_SH, (r.2, K, am_RF b)) := by
  unfold f_UpRiverModel_anchor at h
  obtain ⟨q2117, e2118, h⟩ := am_bind_some h
  refine am_r_call (show am_stepn X T_UpRiverModel_anchor 5 true (0, [(0, am_pv 65), (1, am_iv x1)], [], am_SH, (J, K, am_RF b)) = some (true, .inr (.inl (150, [am_jv (am_i2l x1), am_jv (1 : Int64), am_jv (300 : Int64)], 6, 0, 0, 9, [(0, am_pv 65), (1, am_iv x1)], [], am_SH, (J, K, am_RF b)))) from rfl) rfl tb_UpRiverModel_in (s_UpRiverModel_in e2118) ?_
  obtain ⟨g2119, h⟩ := am_if_some h
  by_cases c2120 : q2117 = 0
  · rw [if_pos c2120] at h
    refine am_r_f (show am_stepn X T_UpRiverModel_anchor 1 true (9, [(0, am_pv 65), (1, am_iv x1)], [am_iv q2117], am_SH, (J, K, am_RF b)) = some ((decide (am_i32 q2117) && true), .inl (bif am_cb .ne q2117 0 then 14 else 12, [(0, am_pv 65), (1, am_iv x1)], [], am_SH, (J, K, am_RF b))) from rfl) (am_g1 g2119 rfl) (am_nd_t c2120) ?_
    obtain rfl := Option.some.inj h
    exact am_r_ret (show am_stepn X T_UpRiverModel_anchor 2 true (12, [(0, am_pv 65), (1, am_iv x1)], [], am_SH, (J, K, am_RF b)) = some (true, .inr (.inr (some (am_iv (-1)), am_SH, (J, K, am_RF b)))) from rfl) rfl
  · rw [if_neg c2120] at h
    refine am_r_t (show am_stepn X T_UpRiverModel_anchor 1 true (9, [(0, am_pv 65), (1, am_iv x1)], [am_iv q2117], am_SH, (J, K, am_RF b)) = some ((decide (am_i32 q2117) && true), .inl (bif am_cb .ne q2117 0 then 14 else 12, [(0, am_pv 65), (1, am_iv x1)], [], am_SH, (J, K, am_RF b))) from rfl) (am_g1 g2119 rfl) (am_nd_f c2120) ?_
    obtain ⟨g2121, h⟩ := am_if_some h
    by_cases c2122 : 300 < ((J 68 0) + x1)
    · rw [if_pos c2122] at h
      refine am_r_f (show am_stepn X T_UpRiverModel_anchor 8 true (14, [(0, am_pv 65), (1, am_iv x1)], [], am_SH, (J, K, am_RF b)) = some (((decide (am_i32 300) && decide (am_i32 ((J 68 0) + x1))) && (am_in 0 216 && true)), .inl (bif am_cb .le ((J 68 0) + x1) 300 then 31 else 28, [(0, am_pv 65), (1, am_iv x1)], [], am_SH, (J, K, am_RF b))) from rfl) (am_g2 (by decide) g2121 (am_gi (by decide) rfl)) (am_nd_t c2122) ?_
      obtain rfl := Option.some.inj h
      exact am_r_ret (show am_stepn X T_UpRiverModel_anchor 2 true (28, [(0, am_pv 65), (1, am_iv x1)], [], am_SH, (J, K, am_RF b)) = some (true, .inr (.inr (some (am_iv (-3)), am_SH, (J, K, am_RF b)))) from rfl) rfl
    · rw [if_neg c2122] at h
      refine am_r_t (show am_stepn X T_UpRiverModel_anchor 8 true (14, [(0, am_pv 65), (1, am_iv x1)], [], am_SH, (J, K, am_RF b)) = some (((decide (am_i32 300) && decide (am_i32 ((J 68 0) + x1))) && (am_in 0 216 && true)), .inl (bif am_cb .le ((J 68 0) + x1) 300 then 31 else 28, [(0, am_pv 65), (1, am_iv x1)], [], am_SH, (J, K, am_RF b))) from rfl) (am_g2 (by decide) g2121 (am_gi (by decide) rfl)) (am_nd_f c2122) ?_
      obtain rfl := Option.some.inj h
      exact am_r_ret (show am_stepn X T_UpRiverModel_anchor 13 true (31, [(0, am_pv 65), (1, am_iv x1)], [], am_SH, (J, K, am_RF b)) = some ((am_in 0 216 && (am_in 0 216 && (am_in 0 216 && true))), .inr (.inr (some (am_iv ((J 68 0) + x1)), am_SH, ((am_up J 68 0 ((J 68 0) + x1)), K, am_RF b)))) from rfl) (am_gi (by decide) (am_gi (by decide) (am_gi (by decide) rfl)))
theorem s_UpRiverModel_flag {X : am_X} {b : Bool} {J : am_J} {K : am_K} {x0 : Int} {r : Int} (h : f_UpRiverModel_flag  x0 = some r) : am_runs X T_UpRiverModel_flag (0, [(0, am_iv x0)], [], am_SH, (J, K, am_RF b)) (some (am_iv r), am_SH, (J, K, am_RF b)) := by
  unfold f_UpRiverModel_flag at h
  obtain ⟨g2123, h⟩ := am_if_some h
  by_cases c2124 : x0 = 0
  · rw [if_pos c2124] at h
    refine am_r_t (show am_stepn X T_UpRiverModel_flag 2 true (0, [(0, am_iv x0)], [], am_SH, (J, K, am_RF b)) = some ((decide (am_i32 x0) && true), .inl (bif am_cb .eq x0 0 then 8 else 4, [(0, am_iv x0)], [], am_SH, (J, K, am_RF b))) from rfl) (am_g1 g2123 rfl) (decide_eq_true c2124) ?_
    obtain rfl := Option.some.inj h
    exact am_r_ret (show am_stepn X T_UpRiverModel_flag 2 true (8, [(0, am_iv x0)], [], am_SH, (J, K, am_RF b)) = some (true, .inr (.inr (some (am_iv 0), am_SH, (J, K, am_RF b)))) from rfl) rfl
  · rw [if_neg c2124] at h
    refine am_r_f (show am_stepn X T_UpRiverModel_flag 2 true (0, [(0, am_iv x0)], [], am_SH, (J, K, am_RF b)) = some ((decide (am_i32 x0) && true), .inl (bif am_cb .eq x0 0 then 8 else 4, [(0, am_iv x0)], [], am_SH, (J, K, am_RF b))) from rfl) (am_g1 g2123 rfl) (decide_eq_false c2124) ?_
    obtain rfl := Option.some.inj h
    exact am_r_ret (show am_stepn X T_UpRiverModel_flag 3 true (4, [(0, am_iv x0)], [], am_SH, (J, K, am_RF b)) = some (true, .inr (.inr (some (am_iv 1), am_SH, (J, K, am_RF b)))) from rfl) rfl
theorem s_UpRiverModel_now {X : am_X} {b : Bool} {J : am_J} {K : am_K} {x1 : Int} {r : Int} (h : f_UpRiverModel_now J x1 = some r) : am_runs X T_UpRiverModel_now (0, [(0, am_pv 65), (1, am_iv x1)], [], am_SH, (J, K, am_RF b)) (some (am_iv r), am_SH, (J, K, am_RF b)) := by
  unfold f_UpRiverModel_now at h
  obtain ⟨g2125, h⟩ := am_if_some h
  by_cases c2126 : x1 = 0
  · rw [if_pos c2126] at h
    refine am_r_sw (show am_stepn X T_UpRiverModel_now 2 true (0, [(0, am_pv 65), (1, am_iv x1)], [], am_SH, (J, K, am_RF b)) = some ((decide (am_i32 x1) && true), .inl (am_sw 0 7 [85, 48, 48, 48, 48, 55, 63, 71, 78] x1, [(0, am_pv 65), (1, am_iv x1)], [], am_SH, (J, K, am_RF b))) from rfl) (am_g1 g2125 rfl) (p := 48) (by rw [c2126]; rfl) ?_
    obtain ⟨g2127, h⟩ := am_if_some h
    obtain rfl := Option.some.inj h
    exact am_r_ret (show am_stepn X T_UpRiverModel_now 5 true (48, [(0, am_pv 65), (1, am_iv x1)], [], am_SH, (J, K, am_RF b)) = some ((am_in x1 216 && true), .inr (.inr (some (am_iv (J 68 x1.toNat)), am_SH, (J, K, am_RF b)))) from rfl) (am_gi g2127 rfl)
  · rw [if_neg c2126] at h
    by_cases c2128 : x1 = 1
    · rw [if_pos c2128] at h
      refine am_r_sw (show am_stepn X T_UpRiverModel_now 2 true (0, [(0, am_pv 65), (1, am_iv x1)], [], am_SH, (J, K, am_RF b)) = some ((decide (am_i32 x1) && true), .inl (am_sw 0 7 [85, 48, 48, 48, 48, 55, 63, 71, 78] x1, [(0, am_pv 65), (1, am_iv x1)], [], am_SH, (J, K, am_RF b))) from rfl) (am_g1 g2125 rfl) (p := 48) (by rw [c2128]; rfl) ?_
      obtain ⟨g2129, h⟩ := am_if_some h
      obtain rfl := Option.some.inj h
      exact am_r_ret (show am_stepn X T_UpRiverModel_now 5 true (48, [(0, am_pv 65), (1, am_iv x1)], [], am_SH, (J, K, am_RF b)) = some ((am_in x1 216 && true), .inr (.inr (some (am_iv (J 68 x1.toNat)), am_SH, (J, K, am_RF b)))) from rfl) (am_gi g2129 rfl)
    · rw [if_neg c2128] at h
      by_cases c2130 : x1 = 2
      · rw [if_pos c2130] at h
        refine am_r_sw (show am_stepn X T_UpRiverModel_now 2 true (0, [(0, am_pv 65), (1, am_iv x1)], [], am_SH, (J, K, am_RF b)) = some ((decide (am_i32 x1) && true), .inl (am_sw 0 7 [85, 48, 48, 48, 48, 55, 63, 71, 78] x1, [(0, am_pv 65), (1, am_iv x1)], [], am_SH, (J, K, am_RF b))) from rfl) (am_g1 g2125 rfl) (p := 48) (by rw [c2130]; rfl) ?_
        obtain ⟨g2131, h⟩ := am_if_some h
        obtain rfl := Option.some.inj h
        exact am_r_ret (show am_stepn X T_UpRiverModel_now 5 true (48, [(0, am_pv 65), (1, am_iv x1)], [], am_SH, (J, K, am_RF b)) = some ((am_in x1 216 && true), .inr (.inr (some (am_iv (J 68 x1.toNat)), am_SH, (J, K, am_RF b)))) from rfl) (am_gi g2131 rfl)
      · rw [if_neg c2130] at h
        by_cases c2132 : x1 = 3
        · rw [if_pos c2132] at h
          refine am_r_sw (show am_stepn X T_UpRiverModel_now 2 true (0, [(0, am_pv 65), (1, am_iv x1)], [], am_SH, (J, K, am_RF b)) = some ((decide (am_i32 x1) && true), .inl (am_sw 0 7 [85, 48, 48, 48, 48, 55, 63, 71, 78] x1, [(0, am_pv 65), (1, am_iv x1)], [], am_SH, (J, K, am_RF b))) from rfl) (am_g1 g2125 rfl) (p := 48) (by rw [c2132]; rfl) ?_
          obtain ⟨g2133, h⟩ := am_if_some h
          obtain rfl := Option.some.inj h
          exact am_r_ret (show am_stepn X T_UpRiverModel_now 5 true (48, [(0, am_pv 65), (1, am_iv x1)], [], am_SH, (J, K, am_RF b)) = some ((am_in x1 216 && true), .inr (.inr (some (am_iv (J 68 x1.toNat)), am_SH, (J, K, am_RF b)))) from rfl) (am_gi g2133 rfl)
        · rw [if_neg c2132] at h
          by_cases c2134 : x1 = 4
          · rw [if_pos c2134] at h
            refine am_r_sw (show am_stepn X T_UpRiverModel_now 2 true (0, [(0, am_pv 65), (1, am_iv x1)], [], am_SH, (J, K, am_RF b)) = some ((decide (am_i32 x1) && true), .inl (am_sw 0 7 [85, 48, 48, 48, 48, 55, 63, 71, 78] x1, [(0, am_pv 65), (1, am_iv x1)], [], am_SH, (J, K, am_RF b))) from rfl) (am_g1 g2125 rfl) (p := 55) (by rw [c2134]; rfl) ?_
            obtain ⟨q2135, e2136, h⟩ := am_bind_some h
            refine am_r_call (show am_stepn X T_UpRiverModel_now 2 true (55, [(0, am_pv 65), (1, am_iv x1)], [], am_SH, (J, K, am_RF b)) = some (true, .inr (.inl (187, [am_pv 65], 1, 0, 0, 59, [(0, am_pv 65)], [], am_SH, (J, K, am_RF b)))) from rfl) rfl tb_UpRiverModel_isFloating (s_UpRiverModel_isFloating e2136) ?_
            obtain ⟨q2137, e2138, h⟩ := am_bind_some h
            refine am_r_call (show am_stepn X T_UpRiverModel_now 1 true (59, [(0, am_pv 65)], [am_iv q2135], am_SH, (J, K, am_RF b)) = some (true, .inr (.inl (195, [am_iv q2135], 1, 0, 0, 62, [(0, am_pv 65)], [], am_SH, (J, K, am_RF b)))) from rfl) rfl tb_UpRiverModel_flag (s_UpRiverModel_flag e2138) ?_
            obtain rfl := Option.some.inj h
            exact am_r_ret (show am_stepn X T_UpRiverModel_now 1 true (62, [(0, am_pv 65)], [am_iv q2137], am_SH, (J, K, am_RF b)) = some (true, .inr (.inr (some (am_iv q2137), am_SH, (J, K, am_RF b)))) from rfl) rfl
          · rw [if_neg c2134] at h
            by_cases c2139 : x1 = 5
            · rw [if_pos c2139] at h
              refine am_r_sw (show am_stepn X T_UpRiverModel_now 2 true (0, [(0, am_pv 65), (1, am_iv x1)], [], am_SH, (J, K, am_RF b)) = some ((decide (am_i32 x1) && true), .inl (am_sw 0 7 [85, 48, 48, 48, 48, 55, 63, 71, 78] x1, [(0, am_pv 65), (1, am_iv x1)], [], am_SH, (J, K, am_RF b))) from rfl) (am_g1 g2125 rfl) (p := 63) (by rw [c2139]; rfl) ?_
              obtain ⟨q2140, e2141, h⟩ := am_bind_some h
              refine am_r_call (show am_stepn X T_UpRiverModel_now 2 true (63, [(0, am_pv 65), (1, am_iv x1)], [], am_SH, (J, K, am_RF b)) = some (true, .inr (.inl (185, [am_pv 65], 1, 0, 0, 67, [(0, am_pv 65)], [], am_SH, (J, K, am_RF b)))) from rfl) rfl tb_UpRiverModel_isUp (s_UpRiverModel_isUp e2141) ?_
              obtain ⟨q2142, e2143, h⟩ := am_bind_some h
              refine am_r_call (show am_stepn X T_UpRiverModel_now 1 true (67, [(0, am_pv 65)], [am_iv q2140], am_SH, (J, K, am_RF b)) = some (true, .inr (.inl (195, [am_iv q2140], 1, 0, 0, 70, [(0, am_pv 65)], [], am_SH, (J, K, am_RF b)))) from rfl) rfl tb_UpRiverModel_flag (s_UpRiverModel_flag e2143) ?_
              obtain rfl := Option.some.inj h
              exact am_r_ret (show am_stepn X T_UpRiverModel_now 1 true (70, [(0, am_pv 65)], [am_iv q2142], am_SH, (J, K, am_RF b)) = some (true, .inr (.inr (some (am_iv q2142), am_SH, (J, K, am_RF b)))) from rfl) rfl
            · rw [if_neg c2139] at h
              by_cases c2144 : x1 = 6
              · rw [if_pos c2144] at h
                refine am_r_sw (show am_stepn X T_UpRiverModel_now 2 true (0, [(0, am_pv 65), (1, am_iv x1)], [], am_SH, (J, K, am_RF b)) = some ((decide (am_i32 x1) && true), .inl (am_sw 0 7 [85, 48, 48, 48, 48, 55, 63, 71, 78] x1, [(0, am_pv 65), (1, am_iv x1)], [], am_SH, (J, K, am_RF b))) from rfl) (am_g1 g2125 rfl) (p := 71) (by rw [c2144]; rfl) ?_
                obtain rfl := Option.some.inj h
                exact am_r_ret (show am_stepn X T_UpRiverModel_now 5 true (71, [(0, am_pv 65), (1, am_iv x1)], [], am_SH, (J, K, am_RF b)) = some ((am_in 4 216 && true), .inr (.inr (some (am_iv (J 68 4)), am_SH, (J, K, am_RF b)))) from rfl) (am_gi (by decide) rfl)
              · rw [if_neg c2144] at h
                by_cases c2145 : x1 = 7
                · rw [if_pos c2145] at h
                  refine am_r_sw (show am_stepn X T_UpRiverModel_now 2 true (0, [(0, am_pv 65), (1, am_iv x1)], [], am_SH, (J, K, am_RF b)) = some ((decide (am_i32 x1) && true), .inl (am_sw 0 7 [85, 48, 48, 48, 48, 55, 63, 71, 78] x1, [(0, am_pv 65), (1, am_iv x1)], [], am_SH, (J, K, am_RF b))) from rfl) (am_g1 g2125 rfl) (p := 78) (by rw [c2145]; rfl) ?_
                  obtain rfl := Option.some.inj h
                  exact am_r_ret (show am_stepn X T_UpRiverModel_now 5 true (78, [(0, am_pv 65), (1, am_iv x1)], [], am_SH, (J, K, am_RF b)) = some ((am_in 5 216 && true), .inr (.inr (some (am_iv (J 68 5)), am_SH, (J, K, am_RF b)))) from rfl) (am_gi (by decide) rfl)
                · rw [if_neg c2145] at h
                  refine am_r_sw (show am_stepn X T_UpRiverModel_now 2 true (0, [(0, am_pv 65), (1, am_iv x1)], [], am_SH, (J, K, am_RF b)) = some ((decide (am_i32 x1) && true), .inl (am_sw 0 7 [85, 48, 48, 48, 48, 55, 63, 71, 78] x1, [(0, am_pv 65), (1, am_iv x1)], [], am_SH, (J, K, am_RF b))) from rfl) (am_g1 g2125 rfl) (p := 85) (am_sw_out (by omega)) ?_
                  obtain rfl := Option.some.inj h
                  exact am_r_ret (show am_stepn X T_UpRiverModel_now 2 true (85, [(0, am_pv 65), (1, am_iv x1)], [], am_SH, (J, K, am_RF b)) = some (true, .inr (.inr (some (am_iv (-1)), am_SH, (J, K, am_RF b)))) from rfl) rfl
theorem s_UpRiverModel_set {X : am_X} {b : Bool} {K : am_K} {x1 : Int} {x2 : Int} {x3 : Int} {x4 : Int} {J : am_J} {r : Int × am_J} (h : f_UpRiverModel_set  x1 x2 x3 x4 J = some r) : am_runs X T_UpRiverModel_set (0, [(0, am_pv 65), (1, am_iv x1), (2, am_iv x2), (3, am_iv x3), (4, am_iv x4)], [], am_SH, (J, K, am_RF b)) (some (am_iv r.1), am_SH, (r.2, K, am_RF b)) := by
  unfold f_UpRiverModel_set at h
  obtain ⟨q2146, e2147, h⟩ := am_bind_some h
  refine am_r_call (show am_stepn X T_UpRiverModel_set 5 true (0, [(0, am_pv 65), (1, am_iv x1), (2, am_iv x2), (3, am_iv x3), (4, am_iv x4)], [], am_SH, (J, K, am_RF b)) = some (true, .inr (.inl (186, [am_pv 65], 1, 0, 0, 7, [(0, am_pv 65), (1, am_iv x1), (2, am_iv x2), (3, am_iv x3), (4, am_iv x4)], [am_jv (0 : Int64), am_jv (am_i2l x1)], am_SH, (J, K, am_RF b)))) from rfl) rfl tb_UpRiverModel_top (s_UpRiverModel_top e2147) ?_
  obtain ⟨q2148, e2149, h⟩ := am_bind_some h
  refine am_r_call (show am_stepn X T_UpRiverModel_set 4 true (7, [(0, am_pv 65), (1, am_iv x1), (2, am_iv x2), (3, am_iv x3), (4, am_iv x4)], [am_iv q2146, am_jv (0 : Int64), am_jv (am_i2l x1)], am_SH, (J, K, am_RF b)) = some (true, .inr (.inl (150, [am_jv (am_i2l x1), am_jv (0 : Int64), am_jv (am_i2l (q2146 - 1))], 6, 0, 0, 13, [(0, am_pv 65), (1, am_iv x1), (2, am_iv x2), (3, am_iv x3), (4, am_iv x4)], [], am_SH, (J, K, am_RF b)))) from rfl) rfl tb_UpRiverModel_in (s_UpRiverModel_in e2149) ?_
  obtain ⟨g2150, h⟩ := am_if_some h
  by_cases c2151 : q2148 = 0
  · rw [if_pos c2151] at h
    refine am_r_t (show am_stepn X T_UpRiverModel_set 1 true (13, [(0, am_pv 65), (1, am_iv x1), (2, am_iv x2), (3, am_iv x3), (4, am_iv x4)], [am_iv q2148], am_SH, (J, K, am_RF b)) = some ((decide (am_i32 q2148) && true), .inl (bif am_cb .eq q2148 0 then 46 else 16, [(0, am_pv 65), (1, am_iv x1), (2, am_iv x2), (3, am_iv x3), (4, am_iv x4)], [], am_SH, (J, K, am_RF b))) from rfl) (am_g1 g2150 rfl) (decide_eq_true c2151) ?_
    obtain rfl := Option.some.inj h
    exact am_r_ret (show am_stepn X T_UpRiverModel_set 2 true (46, [(0, am_pv 65), (1, am_iv x1), (2, am_iv x2), (3, am_iv x3), (4, am_iv x4)], [], am_SH, (J, K, am_RF b)) = some (true, .inr (.inr (some (am_iv (-1)), am_SH, (J, K, am_RF b)))) from rfl) rfl
  · rw [if_neg c2151] at h
    refine am_r_f (show am_stepn X T_UpRiverModel_set 1 true (13, [(0, am_pv 65), (1, am_iv x1), (2, am_iv x2), (3, am_iv x3), (4, am_iv x4)], [am_iv q2148], am_SH, (J, K, am_RF b)) = some ((decide (am_i32 q2148) && true), .inl (bif am_cb .eq q2148 0 then 46 else 16, [(0, am_pv 65), (1, am_iv x1), (2, am_iv x2), (3, am_iv x3), (4, am_iv x4)], [], am_SH, (J, K, am_RF b))) from rfl) (am_g1 g2150 rfl) (decide_eq_false c2151) ?_
    obtain ⟨g2152, h⟩ := am_if_some h
    obtain ⟨q2153, e2154, h⟩ := am_bind_some h
    refine am_r_call (show am_stepn X T_UpRiverModel_set 6 true (16, [(0, am_pv 65), (1, am_iv x1), (2, am_iv x2), (3, am_iv x3), (4, am_iv x4)], [], am_SH, (J, K, am_RF b)) = some (((decide (0 < (8 : Int) ∧ am_i32 8) && decide (am_i32 x1)) && true), .inr (.inl (176, [am_pv 65, am_iv (am_dv x1 8), am_iv x2], 3, 0, 0, 25, [(0, am_pv 65), (1, am_iv x1), (2, am_iv x2), (3, am_iv x3), (4, am_iv x4)], [], am_SH, (J, K, am_RF b)))) from rfl) (am_g2 (by decide) g2152 rfl) tb_UpRiverModel_isOpen (s_UpRiverModel_isOpen e2154) ?_
    obtain ⟨g2155, h⟩ := am_if_some h
    by_cases c2156 : q2153 = 0
    · rw [if_pos c2156] at h
      refine am_r_t (show am_stepn X T_UpRiverModel_set 1 true (25, [(0, am_pv 65), (1, am_iv x1), (2, am_iv x2), (3, am_iv x3), (4, am_iv x4)], [am_iv q2153], am_SH, (J, K, am_RF b)) = some ((decide (am_i32 q2153) && true), .inl (bif am_cb .eq q2153 0 then 46 else 28, [(0, am_pv 65), (1, am_iv x1), (2, am_iv x2), (3, am_iv x3), (4, am_iv x4)], [], am_SH, (J, K, am_RF b))) from rfl) (am_g1 g2155 rfl) (decide_eq_true c2156) ?_
      obtain rfl := Option.some.inj h
      exact am_r_ret (show am_stepn X T_UpRiverModel_set 2 true (46, [(0, am_pv 65), (1, am_iv x1), (2, am_iv x2), (3, am_iv x3), (4, am_iv x4)], [], am_SH, (J, K, am_RF b)) = some (true, .inr (.inr (some (am_iv (-1)), am_SH, (J, K, am_RF b)))) from rfl) rfl
    · rw [if_neg c2156] at h
      refine am_r_f (show am_stepn X T_UpRiverModel_set 1 true (25, [(0, am_pv 65), (1, am_iv x1), (2, am_iv x2), (3, am_iv x3), (4, am_iv x4)], [am_iv q2153], am_SH, (J, K, am_RF b)) = some ((decide (am_i32 q2153) && true), .inl (bif am_cb .eq q2153 0 then 46 else 28, [(0, am_pv 65), (1, am_iv x1), (2, am_iv x2), (3, am_iv x3), (4, am_iv x4)], [], am_SH, (J, K, am_RF b))) from rfl) (am_g1 g2155 rfl) (decide_eq_false c2156) ?_
      obtain ⟨q2157, e2158, h⟩ := am_bind_some h
      refine am_r_call (show am_stepn X T_UpRiverModel_set 5 true (28, [(0, am_pv 65), (1, am_iv x1), (2, am_iv x2), (3, am_iv x3), (4, am_iv x4)], [], am_SH, (J, K, am_RF b)) = some (true, .inr (.inl (150, [am_jv (am_i2l x3), am_jv (0 : Int64), am_jv (1 : Int64)], 6, 0, 0, 35, [(0, am_pv 65), (1, am_iv x1), (2, am_iv x2), (3, am_iv x3), (4, am_iv x4)], [], am_SH, (J, K, am_RF b)))) from rfl) rfl tb_UpRiverModel_in (s_UpRiverModel_in e2158) ?_
      obtain ⟨g2159, h⟩ := am_if_some h
      by_cases c2160 : q2157 = 0
      · rw [if_pos c2160] at h
        refine am_r_t (show am_stepn X T_UpRiverModel_set 1 true (35, [(0, am_pv 65), (1, am_iv x1), (2, am_iv x2), (3, am_iv x3), (4, am_iv x4)], [am_iv q2157], am_SH, (J, K, am_RF b)) = some ((decide (am_i32 q2157) && true), .inl (bif am_cb .eq q2157 0 then 46 else 38, [(0, am_pv 65), (1, am_iv x1), (2, am_iv x2), (3, am_iv x3), (4, am_iv x4)], [], am_SH, (J, K, am_RF b))) from rfl) (am_g1 g2159 rfl) (decide_eq_true c2160) ?_
        obtain rfl := Option.some.inj h
        exact am_r_ret (show am_stepn X T_UpRiverModel_set 2 true (46, [(0, am_pv 65), (1, am_iv x1), (2, am_iv x2), (3, am_iv x3), (4, am_iv x4)], [], am_SH, (J, K, am_RF b)) = some (true, .inr (.inr (some (am_iv (-1)), am_SH, (J, K, am_RF b)))) from rfl) rfl
      · rw [if_neg c2160] at h
        refine am_r_f (show am_stepn X T_UpRiverModel_set 1 true (35, [(0, am_pv 65), (1, am_iv x1), (2, am_iv x2), (3, am_iv x3), (4, am_iv x4)], [am_iv q2157], am_SH, (J, K, am_RF b)) = some ((decide (am_i32 q2157) && true), .inl (bif am_cb .eq q2157 0 then 46 else 38, [(0, am_pv 65), (1, am_iv x1), (2, am_iv x2), (3, am_iv x3), (4, am_iv x4)], [], am_SH, (J, K, am_RF b))) from rfl) (am_g1 g2159 rfl) (decide_eq_false c2160) ?_
        obtain ⟨q2161, e2162, h⟩ := am_bind_some h
        refine am_r_call (show am_stepn X T_UpRiverModel_set 2 true (38, [(0, am_pv 65), (1, am_iv x1), (2, am_iv x2), (3, am_iv x3), (4, am_iv x4)], [], am_SH, (J, K, am_RF b)) = some (true, .inr (.inl (177, [am_iv x4], 1, 0, 0, 43, [(0, am_pv 65), (1, am_iv x1), (2, am_iv x2), (3, am_iv x3), (4, am_iv x4)], [], am_SH, (J, K, am_RF b)))) from rfl) rfl tb_UpRiverModel_isMinute (s_UpRiverModel_isMinute e2162) ?_
        obtain ⟨g2163, h⟩ := am_if_some h
        by_cases c2164 : q2161 = 0
        · rw [if_pos c2164] at h
          refine am_r_f (show am_stepn X T_UpRiverModel_set 1 true (43, [(0, am_pv 65), (1, am_iv x1), (2, am_iv x2), (3, am_iv x3), (4, am_iv x4)], [am_iv q2161], am_SH, (J, K, am_RF b)) = some ((decide (am_i32 q2161) && true), .inl (bif am_cb .ne q2161 0 then 48 else 46, [(0, am_pv 65), (1, am_iv x1), (2, am_iv x2), (3, am_iv x3), (4, am_iv x4)], [], am_SH, (J, K, am_RF b))) from rfl) (am_g1 g2163 rfl) (am_nd_t c2164) ?_
          obtain rfl := Option.some.inj h
          exact am_r_ret (show am_stepn X T_UpRiverModel_set 2 true (46, [(0, am_pv 65), (1, am_iv x1), (2, am_iv x2), (3, am_iv x3), (4, am_iv x4)], [], am_SH, (J, K, am_RF b)) = some (true, .inr (.inr (some (am_iv (-1)), am_SH, (J, K, am_RF b)))) from rfl) rfl
        · rw [if_neg c2164] at h
          refine am_r_t (show am_stepn X T_UpRiverModel_set 1 true (43, [(0, am_pv 65), (1, am_iv x1), (2, am_iv x2), (3, am_iv x3), (4, am_iv x4)], [am_iv q2161], am_SH, (J, K, am_RF b)) = some ((decide (am_i32 q2161) && true), .inl (bif am_cb .ne q2161 0 then 48 else 46, [(0, am_pv 65), (1, am_iv x1), (2, am_iv x2), (3, am_iv x3), (4, am_iv x4)], [], am_SH, (J, K, am_RF b))) from rfl) (am_g1 g2163 rfl) (am_nd_f c2164) ?_
          obtain ⟨q2165, e2166, h⟩ := am_bind_some h
          refine am_r_call (show am_stepn X T_UpRiverModel_set 32 true (48, [(0, am_pv 65), (1, am_iv x1), (2, am_iv x2), (3, am_iv x3), (4, am_iv x4)], [], am_SH, (J, K, am_RF b)) = some ((am_in 5 216 && (am_in 4 216 && (am_in 0 216 && (am_in 3 216 && (am_in 2 216 && (am_in 1 216 && true)))))), .inr (.inl (187, [am_pv 65], 1, 0, 0, 95, [(0, am_pv 65), (1, am_iv x1), (2, am_iv x2), (3, am_iv x3), (4, am_iv x4)], [], am_SH, ((am_up (am_up (am_up (am_up (am_up (am_up J 68 1 x1) 68 2 x2) 68 3 x3) 68 0 x4) 68 4 0) 68 5 0), K, am_RF b)))) from rfl) (am_gi (by decide) (am_gi (by decide) (am_gi (by decide) (am_gi (by decide) (am_gi (by decide) (am_gi (by decide) rfl)))))) tb_UpRiverModel_isFloating (s_UpRiverModel_isFloating e2166) ?_
          obtain ⟨q2167, e2168, h⟩ := am_bind_some h
          refine am_r_call (show am_stepn X T_UpRiverModel_set 1 true (95, [(0, am_pv 65), (1, am_iv x1), (2, am_iv x2), (3, am_iv x3), (4, am_iv x4)], [am_iv q2165], am_SH, ((am_up (am_up (am_up (am_up (am_up (am_up J 68 1 x1) 68 2 x2) 68 3 x3) 68 0 x4) 68 4 0) 68 5 0), K, am_RF b)) = some (true, .inr (.inl (195, [am_iv q2165], 1, 0, 0, 98, [(0, am_pv 65), (1, am_iv x1), (2, am_iv x2), (3, am_iv x3), (4, am_iv x4)], [], am_SH, ((am_up (am_up (am_up (am_up (am_up (am_up J 68 1 x1) 68 2 x2) 68 3 x3) 68 0 x4) 68 4 0) 68 5 0), K, am_RF b)))) from rfl) rfl tb_UpRiverModel_flag (s_UpRiverModel_flag e2168) ?_
          obtain rfl := Option.some.inj h
          exact am_r_ret (show am_stepn X T_UpRiverModel_set 1 true (98, [(0, am_pv 65), (1, am_iv x1), (2, am_iv x2), (3, am_iv x3), (4, am_iv x4)], [am_iv q2167], am_SH, ((am_up (am_up (am_up (am_up (am_up (am_up J 68 1 x1) 68 2 x2) 68 3 x3) 68 0 x4) 68 4 0) 68 5 0), K, am_RF b)) = some (true, .inr (.inr (some (am_iv q2167), am_SH, ((am_up (am_up (am_up (am_up (am_up (am_up J 68 1 x1) 68 2 x2) 68 3 x3) 68 0 x4) 68 4 0) 68 5 0), K, am_RF b)))) from rfl) rfl
theorem s_UpRiverModel_clears_L3 {X : am_X} {b : Bool} {K : am_K}  : ∀ (n : Nat) (x1 : Int) (x2 : Int) (x3 : Int) (x4 : Int) (J : am_J) (r : am_J), f_UpRiverModel_clears_L3   n x1 x2 x3 x4 J = some r → am_runs X T_UpRiverModel_clears (3, [(0, am_pv 65), (1, am_iv x1), (2, am_iv x2), (3, am_iv x3), (4, am_iv x4)], [], am_SH, (J, K, am_RF b)) (none, am_SH, (r, K, am_RF b)) := by
  intro n
  induction n with
  | zero =>
    intro x1 x2 x3 x4 J r h
    cases h
  | succ n ih =>
    intro x1 x2 x3 x4 J r h
    rw [f_UpRiverModel_clears_L3.eq_2] at h
    obtain ⟨g2169, h⟩ := am_if_some h
    by_cases c2170 : x4 < 11520
    · rw [if_pos c2170] at h
      refine am_r_f (show am_stepn X T_UpRiverModel_clears 3 true (3, [(0, am_pv 65), (1, am_iv x1), (2, am_iv x2), (3, am_iv x3), (4, am_iv x4)], [], am_SH, (J, K, am_RF b)) = some (((decide (am_i32 11520) && decide (am_i32 x4)) && true), .inl (bif am_cb .ge x4 11520 then 25 else 11, [(0, am_pv 65), (1, am_iv x1), (2, am_iv x2), (3, am_iv x3), (4, am_iv x4)], [], am_SH, (J, K, am_RF b))) from rfl) (am_g2 (by decide) g2169 rfl) (am_nd_t c2170) ?_
      obtain ⟨g2171, h⟩ := am_if_some h
      refine am_r_go (show am_stepn X T_UpRiverModel_clears 7 true (11, [(0, am_pv 65), (1, am_iv x1), (2, am_iv x2), (3, am_iv x3), (4, am_iv x4)], [], am_SH, (J, K, am_RF b)) = some (((decide ((0 : Int) = 0 ∨ (0 : Int) = 1) && am_in x4 11520) && true), .inl (3, [(0, am_pv 65), (1, am_iv x1), (2, am_iv x2), (3, am_iv x3), (4, am_iv (x4 + 1))], [], am_SH, ((am_up J 72 x4.toNat 0), K, am_RF b))) from rfl) (am_gz (by decide) g2171 rfl) ?_
      exact ih _ _ _ _ _ _ h
    · rw [if_neg c2170] at h
      refine am_r_t (show am_stepn X T_UpRiverModel_clears 3 true (3, [(0, am_pv 65), (1, am_iv x1), (2, am_iv x2), (3, am_iv x3), (4, am_iv x4)], [], am_SH, (J, K, am_RF b)) = some (((decide (am_i32 11520) && decide (am_i32 x4)) && true), .inl (bif am_cb .ge x4 11520 then 25 else 11, [(0, am_pv 65), (1, am_iv x1), (2, am_iv x2), (3, am_iv x3), (4, am_iv x4)], [], am_SH, (J, K, am_RF b))) from rfl) (am_g2 (by decide) g2169 rfl) (am_nd_f c2170) ?_
      obtain rfl := Option.some.inj h
      exact am_r_ret (show am_stepn X T_UpRiverModel_clears 13 true (25, [(0, am_pv 65), (1, am_iv x1), (2, am_iv x2), (3, am_iv x3), (4, am_iv x4)], [], am_SH, (J, K, am_RF b)) = some (true, .inr (.inr (none, am_SH, ((am_up (am_up (am_up (am_up J 65 22 x1) 65 23 x2) 65 24 x3) 65 21 (-4)), K, am_RF b)))) from rfl) rfl
theorem s_UpRiverModel_clears {X : am_X} {b : Bool} {K : am_K} {x1 : Int} {x2 : Int} {x3 : Int} {J : am_J} {r : am_J} (h : f_UpRiverModel_clears  x1 x2 x3 J = some r) : am_runs X T_UpRiverModel_clears (0, [(0, am_pv 65), (1, am_iv x1), (2, am_iv x2), (3, am_iv x3)], [], am_SH, (J, K, am_RF b)) (none, am_SH, (r, K, am_RF b)) := by
  unfold f_UpRiverModel_clears at h
  refine am_r_go (show am_stepn X T_UpRiverModel_clears 2 true (0, [(0, am_pv 65), (1, am_iv x1), (2, am_iv x2), (3, am_iv x3)], [], am_SH, (J, K, am_RF b)) = some (true, .inl (3, [(0, am_pv 65), (1, am_iv x1), (2, am_iv x2), (3, am_iv x3), (4, am_iv 0)], [], am_SH, (J, K, am_RF b))) from rfl) rfl ?_
  exact s_UpRiverModel_clears_L3  _ _ _ _ _ _ _ h
theorem s_UpRiverModel_spot {X : am_X} {b : Bool} {J : am_J} {K : am_K} {x0 : Int} {x1 : Int} {x2 : Int} {r : Int} (h : f_UpRiverModel_spot  x0 x1 x2 = some r) : am_runs X T_UpRiverModel_spot (0, [(0, am_iv x0), (1, am_iv x1), (2, am_iv x2)], [], am_SH, (J, K, am_RF b)) (some (am_iv r), am_SH, (J, K, am_RF b)) := by
  unfold f_UpRiverModel_spot at h
  obtain rfl := Option.some.inj h
  exact am_r_ret (show am_stepn X T_UpRiverModel_spot 10 true (0, [(0, am_iv x0), (1, am_iv x1), (2, am_iv x2)], [], am_SH, (J, K, am_RF b)) = some (true, .inr (.inr (some (am_iv ((2 * ((9 * x0) + x1)) + x2)), am_SH, (J, K, am_RF b)))) from rfl) rfl
theorem s_UpRiverModel_marks {X : am_X} {b : Bool} {K : am_K} {x1 : Int} {x2 : Int} {x3 : Int} {x4 : Int} {J : am_J} {r : am_J} (h : f_UpRiverModel_marks  x1 x2 x3 x4 J = some r) : am_runs X T_UpRiverModel_marks (0, [(0, am_pv 65), (1, am_iv x1), (2, am_iv x2), (3, am_iv x3), (4, am_iv x4)], [], am_SH, (J, K, am_RF b)) (none, am_SH, (r, K, am_RF b)) := by
  unfold f_UpRiverModel_marks at h
  obtain ⟨g2172, h⟩ := am_if_some h
  obtain ⟨q2173, e2174, h⟩ := am_bind_some h
  refine am_r_call (show am_stepn X T_UpRiverModel_marks 11 true (0, [(0, am_pv 65), (1, am_iv x1), (2, am_iv x2), (3, am_iv x3), (4, am_iv x4)], [], am_SH, (J, K, am_RF b)) = some (((decide (0 < (10 : Int) ∧ am_i32 10) && decide (am_i32 x1)) && true), .inr (.inl (202, [am_iv x2, am_iv x3, am_iv x4], 3, 0, 0, 19, [(0, am_pv 65), (1, am_iv x1), (2, am_iv x2), (3, am_iv x3), (4, am_iv x4)], [am_iv (1152 * (am_rm x1 10)), am_pv 72], am_SH, (J, K, am_RF b)))) from rfl) (am_g2 (by decide) g2172 rfl) tb_UpRiverModel_spot (s_UpRiverModel_spot e2174) ?_
  obtain ⟨g2175, h⟩ := am_if_some h
  obtain rfl := Option.some.inj h
  exact am_r_ret (show am_stepn X T_UpRiverModel_marks 4 true (19, [(0, am_pv 65), (1, am_iv x1), (2, am_iv x2), (3, am_iv x3), (4, am_iv x4)], [am_iv q2173, am_iv (1152 * (am_rm x1 10)), am_pv 72], am_SH, (J, K, am_RF b)) = some (((decide ((1 : Int) = 0 ∨ (1 : Int) = 1) && am_in ((1152 * (am_rm x1 10)) + q2173) 11520) && true), .inr (.inr (none, am_SH, ((am_up J 72 (((1152 * (am_rm x1 10)) + q2173).toNat) 1), K, am_RF b)))) from rfl) (am_gz (by decide) g2175 rfl)
theorem s_UpRiverModel_less {X : am_X} {b : Bool} {J : am_J} {K : am_K} {x0 : Int} {x1 : Int} {r : Int} (h : f_UpRiverModel_less  x0 x1 = some r) : am_runs X T_UpRiverModel_less (0, [(0, am_iv x0), (1, am_iv x1)], [], am_SH, (J, K, am_RF b)) (some (am_iv r), am_SH, (J, K, am_RF b)) := by
  unfold f_UpRiverModel_less at h
  obtain ⟨g2176, h⟩ := am_if_some h
  obtain ⟨g2177, h⟩ := am_if_some h
  by_cases c2178 : x0 < x1
  · rw [if_pos c2178] at h
    refine am_r_f (show am_stepn X T_UpRiverModel_less 3 true (0, [(0, am_iv x0), (1, am_iv x1)], [], am_SH, (J, K, am_RF b)) = some (((decide (am_i32 x1) && decide (am_i32 x0)) && true), .inl (bif am_cb .ge x0 x1 then 9 else 5, [(0, am_iv x0), (1, am_iv x1)], [], am_SH, (J, K, am_RF b))) from rfl) (am_g2 g2176 g2177 rfl) (am_nd_t c2178) ?_
    obtain rfl := Option.some.inj h
    exact am_r_ret (show am_stepn X T_UpRiverModel_less 3 true (5, [(0, am_iv x0), (1, am_iv x1)], [], am_SH, (J, K, am_RF b)) = some (true, .inr (.inr (some (am_iv x0), am_SH, (J, K, am_RF b)))) from rfl) rfl
  · rw [if_neg c2178] at h
    refine am_r_t (show am_stepn X T_UpRiverModel_less 3 true (0, [(0, am_iv x0), (1, am_iv x1)], [], am_SH, (J, K, am_RF b)) = some (((decide (am_i32 x1) && decide (am_i32 x0)) && true), .inl (bif am_cb .ge x0 x1 then 9 else 5, [(0, am_iv x0), (1, am_iv x1)], [], am_SH, (J, K, am_RF b))) from rfl) (am_g2 g2176 g2177 rfl) (am_nd_f c2178) ?_
    obtain rfl := Option.some.inj h
    exact am_r_ret (show am_stepn X T_UpRiverModel_less 2 true (9, [(0, am_iv x0), (1, am_iv x1)], [], am_SH, (J, K, am_RF b)) = some (true, .inr (.inr (some (am_iv x1), am_SH, (J, K, am_RF b)))) from rfl) rfl
theorem s_UpRiverModel_comesThere_L88 {X : am_X} {b : Bool} {K : am_K}  : ∀ (J : am_J) (r : am_J), f_UpRiverModel_comesThere_L88    J = some r → am_runs X T_UpRiverModel_comesThere (88, [(0, am_pv 65)], [], am_SH, (J, K, am_RF b)) (none, am_SH, (r, K, am_RF b)) := by
  intro J r h
  unfold f_UpRiverModel_comesThere_L88 at h
  obtain ⟨q2179, e2180, h⟩ := am_bind_some h
  refine am_r_call (show am_stepn X T_UpRiverModel_comesThere 10 true (88, [(0, am_pv 65)], [], am_SH, (J, K, am_RF b)) = some (true, .inr (.inl (150, [am_jv (am_i2l (J 65 17)), am_jv (am_i2l (J 65 23)), am_jv (am_i2l (J 65 24))], 6, 0, 0, 106, [(0, am_pv 65)], [], am_SH, (J, K, am_RF b)))) from rfl) rfl tb_UpRiverModel_in (s_UpRiverModel_in e2180) ?_
  obtain ⟨g2181, h⟩ := am_if_some h
  by_cases c2182 : q2179 = 0
  · rw [if_pos c2182] at h
    refine am_r_t (show am_stepn X T_UpRiverModel_comesThere 1 true (106, [(0, am_pv 65)], [am_iv q2179], am_SH, (J, K, am_RF b)) = some ((decide (am_i32 q2179) && true), .inl (bif am_cb .eq q2179 0 then 129 else 109, [(0, am_pv 65)], [], am_SH, (J, K, am_RF b))) from rfl) (am_g1 g2181 rfl) (decide_eq_true c2182) ?_
    obtain rfl := Option.some.inj h
    exact am_r_ret (show am_stepn X T_UpRiverModel_comesThere 1 true (129, [(0, am_pv 65)], [], am_SH, (J, K, am_RF b)) = some (true, .inr (.inr (none, am_SH, (J, K, am_RF b)))) from rfl) rfl
  · rw [if_neg c2182] at h
    refine am_r_f (show am_stepn X T_UpRiverModel_comesThere 1 true (106, [(0, am_pv 65)], [am_iv q2179], am_SH, (J, K, am_RF b)) = some ((decide (am_i32 q2179) && true), .inl (bif am_cb .eq q2179 0 then 129 else 109, [(0, am_pv 65)], [], am_SH, (J, K, am_RF b))) from rfl) (am_g1 g2181 rfl) (decide_eq_false c2182) ?_
    obtain ⟨q2183, e2184, h⟩ := am_bind_some h
    refine am_r_call (show am_stepn X T_UpRiverModel_comesThere 10 true (109, [(0, am_pv 65)], [], am_SH, (J, K, am_RF b)) = some (true, .inr (.inl (201, [am_pv 65, am_iv (J 65 19), am_iv (J 65 16), am_iv (J 65 17), am_iv (J 65 18)], 5, 0, 0, 129, [(0, am_pv 65)], [], am_SH, (J, K, am_RF b)))) from rfl) rfl tb_UpRiverModel_marks (s_UpRiverModel_marks e2184) ?_
    obtain rfl := Option.some.inj h
    exact am_r_ret (show am_stepn X T_UpRiverModel_comesThere 1 true (129, [(0, am_pv 65)], [], am_SH, (q2183, K, am_RF b)) = some (true, .inr (.inr (none, am_SH, (q2183, K, am_RF b)))) from rfl) rfl
theorem s_UpRiverModel_comesThere_L54 {X : am_X} {b : Bool} {K : am_K}  : ∀ (J : am_J) (r : am_J), f_UpRiverModel_comesThere_L54    J = some r → am_runs X T_UpRiverModel_comesThere (54, [(0, am_pv 65)], [], am_SH, (J, K, am_RF b)) (none, am_SH, (r, K, am_RF b)) := by
  intro J r h
  unfold f_UpRiverModel_comesThere_L54 at h
  obtain ⟨g2185, h⟩ := am_if_some h
  by_cases c2186 : (J 65 21) = (-4)
  · rw [if_pos c2186] at h
    refine am_r_f (show am_stepn X T_UpRiverModel_comesThere 5 true (54, [(0, am_pv 65)], [], am_SH, (J, K, am_RF b)) = some (((decide (am_i32 (-4)) && decide (am_i32 (J 65 21))) && true), .inl (bif am_cb .ne (J 65 21) (-4) then 71 else 64, [(0, am_pv 65)], [am_pv 65], am_SH, (J, K, am_RF b))) from rfl) (am_g2 (by decide) g2185 rfl) (am_nd_t c2186) ?_
    obtain rfl := Option.some.inj h
    exact am_r_ret (show am_stepn X T_UpRiverModel_comesThere 6 true (64, [(0, am_pv 65)], [am_pv 65], am_SH, (J, K, am_RF b)) = some (true, .inr (.inr (none, am_SH, ((am_up J 65 21 (J 65 19)), K, am_RF b)))) from rfl) rfl
  · rw [if_neg c2186] at h
    refine am_r_t (show am_stepn X T_UpRiverModel_comesThere 5 true (54, [(0, am_pv 65)], [], am_SH, (J, K, am_RF b)) = some (((decide (am_i32 (-4)) && decide (am_i32 (J 65 21))) && true), .inl (bif am_cb .ne (J 65 21) (-4) then 71 else 64, [(0, am_pv 65)], [am_pv 65], am_SH, (J, K, am_RF b))) from rfl) (am_g2 (by decide) g2185 rfl) (am_nd_f c2186) ?_
    obtain ⟨q2187, e2188, h⟩ := am_bind_some h
    refine am_r_call (show am_stepn X T_UpRiverModel_comesThere 5 true (71, [(0, am_pv 65)], [am_pv 65], am_SH, (J, K, am_RF b)) = some (true, .inr (.inl (206, [am_iv (J 65 21), am_iv (J 65 19)], 2, 0, 0, 82, [(0, am_pv 65)], [am_pv 65], am_SH, (J, K, am_RF b)))) from rfl) rfl tb_UpRiverModel_less (s_UpRiverModel_less e2188) ?_
    obtain rfl := Option.some.inj h
    exact am_r_ret (show am_stepn X T_UpRiverModel_comesThere 3 true (82, [(0, am_pv 65)], [am_iv q2187, am_pv 65], am_SH, (J, K, am_RF b)) = some (true, .inr (.inr (none, am_SH, ((am_up J 65 21 q2187), K, am_RF b)))) from rfl) rfl
theorem s_UpRiverModel_comesThere {X : am_X} {b : Bool} {K : am_K} {J : am_J} {r : am_J} (h : f_UpRiverModel_comesThere  J = some r) : am_runs X T_UpRiverModel_comesThere (0, [(0, am_pv 65)], [], am_SH, (J, K, am_RF b)) (none, am_SH, (r, K, am_RF b)) := by
  unfold f_UpRiverModel_comesThere at h
  obtain ⟨g2189, h⟩ := am_if_some h
  by_cases c2190 : 300 < (J 65 19)
  · rw [if_pos c2190] at h
    refine am_r_f (show am_stepn X T_UpRiverModel_comesThere 4 true (0, [(0, am_pv 65)], [], am_SH, (J, K, am_RF b)) = some (((decide (am_i32 300) && decide (am_i32 (J 65 19))) && true), .inl (bif am_cb .le (J 65 19) 300 then 11 else 10, [(0, am_pv 65)], [], am_SH, (J, K, am_RF b))) from rfl) (am_g2 (by decide) g2189 rfl) (am_nd_t c2190) ?_
    obtain rfl := Option.some.inj h
    exact am_r_ret (show am_stepn X T_UpRiverModel_comesThere 1 true (10, [(0, am_pv 65)], [], am_SH, (J, K, am_RF b)) = some (true, .inr (.inr (none, am_SH, (J, K, am_RF b)))) from rfl) rfl
  · rw [if_neg c2190] at h
    refine am_r_t (show am_stepn X T_UpRiverModel_comesThere 4 true (0, [(0, am_pv 65)], [], am_SH, (J, K, am_RF b)) = some (((decide (am_i32 300) && decide (am_i32 (J 65 19))) && true), .inl (bif am_cb .le (J 65 19) 300 then 11 else 10, [(0, am_pv 65)], [], am_SH, (J, K, am_RF b))) from rfl) (am_g2 (by decide) g2189 rfl) (am_nd_f c2190) ?_
    obtain ⟨q2191, e2192, h⟩ := am_bind_some h
    refine am_r_call (show am_stepn X T_UpRiverModel_comesThere 4 true (11, [(0, am_pv 65)], [], am_SH, (J, K, am_RF b)) = some (true, .inr (.inl (186, [am_pv 65], 1, 0, 0, 19, [(0, am_pv 65)], [am_iv (J 65 16)], am_SH, (J, K, am_RF b)))) from rfl) rfl tb_UpRiverModel_top (s_UpRiverModel_top e2192) ?_
    obtain ⟨g2193, h⟩ := am_if_some h
    obtain ⟨g2194, h⟩ := am_if_some h
    by_cases c2195 : (J 65 16) < q2191
    · rw [if_pos c2195] at h
      refine am_r_f (show am_stepn X T_UpRiverModel_comesThere 1 true (19, [(0, am_pv 65)], [am_iv q2191, am_iv (J 65 16)], am_SH, (J, K, am_RF b)) = some (((decide (am_i32 q2191) && decide (am_i32 (J 65 16))) && true), .inl (bif am_cb .ge (J 65 16) q2191 then 54 else 22, [(0, am_pv 65)], [], am_SH, (J, K, am_RF b))) from rfl) (am_g2 g2193 g2194 rfl) (am_nd_t c2195) ?_
      obtain ⟨g2196, h⟩ := am_if_some h
      by_cases c2197 : (J 65 16) < (J 65 22)
      · rw [if_pos c2197] at h
        refine am_r_t (show am_stepn X T_UpRiverModel_comesThere 5 true (22, [(0, am_pv 65)], [], am_SH, (J, K, am_RF b)) = some (((decide (am_i32 (J 65 22)) && decide (am_i32 (J 65 16))) && true), .inl (bif am_cb .lt (J 65 16) (J 65 22) then 88 else 33, [(0, am_pv 65)], [], am_SH, (J, K, am_RF b))) from rfl) (am_g2 g2196 g2194 rfl) (decide_eq_true c2197) ?_
        exact s_UpRiverModel_comesThere_L88  _ _ h
      · rw [if_neg c2197] at h
        refine am_r_f (show am_stepn X T_UpRiverModel_comesThere 5 true (22, [(0, am_pv 65)], [], am_SH, (J, K, am_RF b)) = some (((decide (am_i32 (J 65 22)) && decide (am_i32 (J 65 16))) && true), .inl (bif am_cb .lt (J 65 16) (J 65 22) then 88 else 33, [(0, am_pv 65)], [], am_SH, (J, K, am_RF b))) from rfl) (am_g2 g2196 g2194 rfl) (decide_eq_false c2197) ?_
        obtain ⟨q2198, e2199, h⟩ := am_bind_some h
        refine am_r_call (show am_stepn X T_UpRiverModel_comesThere 10 true (33, [(0, am_pv 65)], [], am_SH, (J, K, am_RF b)) = some (true, .inr (.inl (150, [am_jv (am_i2l (J 65 17)), am_jv (am_i2l (J 65 23)), am_jv (am_i2l (J 65 24))], 6, 0, 0, 51, [(0, am_pv 65)], [], am_SH, (J, K, am_RF b)))) from rfl) rfl tb_UpRiverModel_in (s_UpRiverModel_in e2199) ?_
        obtain ⟨g2200, h⟩ := am_if_some h
        by_cases c2201 : q2198 = 0
        · rw [if_pos c2201] at h
          refine am_r_t (show am_stepn X T_UpRiverModel_comesThere 1 true (51, [(0, am_pv 65)], [am_iv q2198], am_SH, (J, K, am_RF b)) = some ((decide (am_i32 q2198) && true), .inl (bif am_cb .eq q2198 0 then 88 else 54, [(0, am_pv 65)], [], am_SH, (J, K, am_RF b))) from rfl) (am_g1 g2200 rfl) (decide_eq_true c2201) ?_
          exact s_UpRiverModel_comesThere_L88  _ _ h
        · rw [if_neg c2201] at h
          refine am_r_f (show am_stepn X T_UpRiverModel_comesThere 1 true (51, [(0, am_pv 65)], [am_iv q2198], am_SH, (J, K, am_RF b)) = some ((decide (am_i32 q2198) && true), .inl (bif am_cb .eq q2198 0 then 88 else 54, [(0, am_pv 65)], [], am_SH, (J, K, am_RF b))) from rfl) (am_g1 g2200 rfl) (decide_eq_false c2201) ?_
          exact s_UpRiverModel_comesThere_L54  _ _ h
    · rw [if_neg c2195] at h
      refine am_r_t (show am_stepn X T_UpRiverModel_comesThere 1 true (19, [(0, am_pv 65)], [am_iv q2191, am_iv (J 65 16)], am_SH, (J, K, am_RF b)) = some (((decide (am_i32 q2191) && decide (am_i32 (J 65 16))) && true), .inl (bif am_cb .ge (J 65 16) q2191 then 54 else 22, [(0, am_pv 65)], [], am_SH, (J, K, am_RF b))) from rfl) (am_g2 g2193 g2194 rfl) (am_nd_f c2195) ?_
      exact s_UpRiverModel_comesThere_L54  _ _ h
theorem s_UpRiverModel_goesOn_L71 {X : am_X} {b : Bool} {K : am_K}  : ∀ (x1 : Int) (x3 : Int) (x4 : Int) (x5 : Int) (J : am_J) (r : am_J), f_UpRiverModel_goesOn_L71    x1 x3 x4 x5 J = some r → am_runs X T_UpRiverModel_goesOn (71, [(0, am_pv 65), (1, am_iv x1), (3, am_iv x3), (4, am_iv x4), (5, am_iv x5)], [], am_SH, (J, K, am_RF b)) (none, am_SH, (r, K, am_RF b)) := by
  intro x1 x3 x4 x5 J r h
  unfold f_UpRiverModel_goesOn_L71 at h
  obtain ⟨q2202, e2203, h⟩ := am_bind_some h
  refine am_r_call (show am_stepn X T_UpRiverModel_goesOn 6 true (71, [(0, am_pv 65), (1, am_iv x1), (3, am_iv x3), (4, am_iv x4), (5, am_iv x5)], [], am_SH, (J, K, am_RF b)) = some (true, .inr (.inl (192, [am_pv 65, am_iv x5, am_iv x4, am_iv x3, am_iv x1], 5, 0, 0, 81, [(0, am_pv 65), (1, am_iv x1), (3, am_iv x3), (4, am_iv x4), (5, am_iv x5)], [], am_SH, (J, K, am_RF b)))) from rfl) rfl tb_UpRiverModel_turns (s_UpRiverModel_turns e2203) ?_
  obtain ⟨g2204, h⟩ := am_if_some h
  by_cases c2205 : q2202.1 = 0
  · rw [if_pos c2205] at h
    refine am_r_t (show am_stepn X T_UpRiverModel_goesOn 1 true (81, [(0, am_pv 65), (1, am_iv x1), (3, am_iv x3), (4, am_iv x4), (5, am_iv x5)], [am_iv q2202.1], am_SH, (q2202.2, K, am_RF b)) = some ((decide (am_i32 q2202.1) && true), .inl (bif am_cb .eq q2202.1 0 then 88 else 84, [(0, am_pv 65), (1, am_iv x1), (3, am_iv x3), (4, am_iv x4), (5, am_iv x5)], [], am_SH, (q2202.2, K, am_RF b))) from rfl) (am_g1 g2204 rfl) (decide_eq_true c2205) ?_
    obtain rfl := Option.some.inj h
    exact am_r_ret (show am_stepn X T_UpRiverModel_goesOn 1 true (88, [(0, am_pv 65), (1, am_iv x1), (3, am_iv x3), (4, am_iv x4), (5, am_iv x5)], [], am_SH, (q2202.2, K, am_RF b)) = some (true, .inr (.inr (none, am_SH, (q2202.2, K, am_RF b)))) from rfl) rfl
  · rw [if_neg c2205] at h
    refine am_r_f (show am_stepn X T_UpRiverModel_goesOn 1 true (81, [(0, am_pv 65), (1, am_iv x1), (3, am_iv x3), (4, am_iv x4), (5, am_iv x5)], [am_iv q2202.1], am_SH, (q2202.2, K, am_RF b)) = some ((decide (am_i32 q2202.1) && true), .inl (bif am_cb .eq q2202.1 0 then 88 else 84, [(0, am_pv 65), (1, am_iv x1), (3, am_iv x3), (4, am_iv x4), (5, am_iv x5)], [], am_SH, (q2202.2, K, am_RF b))) from rfl) (am_g1 g2204 rfl) (decide_eq_false c2205) ?_
    obtain ⟨q2206, e2207, h⟩ := am_bind_some h
    refine am_r_call (show am_stepn X T_UpRiverModel_goesOn 2 true (84, [(0, am_pv 65), (1, am_iv x1), (3, am_iv x3), (4, am_iv x4), (5, am_iv x5)], [], am_SH, (q2202.2, K, am_RF b)) = some (true, .inr (.inl (205, [am_pv 65], 1, 0, 0, 88, [(0, am_pv 65)], [], am_SH, (q2202.2, K, am_RF b)))) from rfl) rfl tb_UpRiverModel_comesThere (s_UpRiverModel_comesThere e2207) ?_
    obtain rfl := Option.some.inj h
    exact am_r_ret (show am_stepn X T_UpRiverModel_goesOn 1 true (88, [(0, am_pv 65)], [], am_SH, (q2206, K, am_RF b)) = some (true, .inr (.inr (none, am_SH, (q2206, K, am_RF b)))) from rfl) rfl
theorem s_UpRiverModel_goesOn_L39 {X : am_X} {b : Bool} {K : am_K}  : ∀ (x1 : Int) (x3 : Int) (x4 : Int) (x5 : Int) (J : am_J) (r : am_J), f_UpRiverModel_goesOn_L39    x1 x3 x4 x5 J = some r → am_runs X T_UpRiverModel_goesOn (39, [(0, am_pv 65), (1, am_iv x1), (3, am_iv x3), (4, am_iv x4), (5, am_iv x5)], [], am_SH, (J, K, am_RF b)) (none, am_SH, (r, K, am_RF b)) := by
  intro x1 x3 x4 x5 J r h
  unfold f_UpRiverModel_goesOn_L39 at h
  obtain ⟨g2208, h⟩ := am_if_some h
  obtain ⟨q2209, e2210, h⟩ := am_bind_some h
  refine am_r_call (show am_stepn X T_UpRiverModel_goesOn 7 true (39, [(0, am_pv 65), (1, am_iv x1), (3, am_iv x3), (4, am_iv x4), (5, am_iv x5)], [], am_SH, (J, K, am_RF b)) = some (((decide (0 < (8 : Int) ∧ am_i32 8) && decide (am_i32 x5)) && true), .inr (.inl (182, [am_pv 65, am_iv (am_dv x5 8), am_iv x4, am_iv x1], 4, 0, 0, 51, [(0, am_pv 65), (1, am_iv x1), (3, am_iv x3), (4, am_iv x4), (5, am_iv x5)], [], am_SH, (J, K, am_RF b)))) from rfl) (am_g2 (by decide) g2208 rfl) tb_UpRiverModel_isAfloat (s_UpRiverModel_isAfloat e2210) ?_
  obtain ⟨g2211, h⟩ := am_if_some h
  by_cases c2212 : q2209 = 0
  · rw [if_pos c2212] at h
    refine am_r_t (show am_stepn X T_UpRiverModel_goesOn 1 true (51, [(0, am_pv 65), (1, am_iv x1), (3, am_iv x3), (4, am_iv x4), (5, am_iv x5)], [am_iv q2209], am_SH, (J, K, am_RF b)) = some ((decide (am_i32 q2209) && true), .inl (bif am_cb .eq q2209 0 then 88 else 54, [(0, am_pv 65), (1, am_iv x1), (3, am_iv x3), (4, am_iv x4), (5, am_iv x5)], [], am_SH, (J, K, am_RF b))) from rfl) (am_g1 g2211 rfl) (decide_eq_true c2212) ?_
    obtain rfl := Option.some.inj h
    exact am_r_ret (show am_stepn X T_UpRiverModel_goesOn 1 true (88, [(0, am_pv 65), (1, am_iv x1), (3, am_iv x3), (4, am_iv x4), (5, am_iv x5)], [], am_SH, (J, K, am_RF b)) = some (true, .inr (.inr (none, am_SH, (J, K, am_RF b)))) from rfl) rfl
  · rw [if_neg c2212] at h
    refine am_r_f (show am_stepn X T_UpRiverModel_goesOn 1 true (51, [(0, am_pv 65), (1, am_iv x1), (3, am_iv x3), (4, am_iv x4), (5, am_iv x5)], [am_iv q2209], am_SH, (J, K, am_RF b)) = some ((decide (am_i32 q2209) && true), .inl (bif am_cb .eq q2209 0 then 88 else 54, [(0, am_pv 65), (1, am_iv x1), (3, am_iv x3), (4, am_iv x4), (5, am_iv x5)], [], am_SH, (J, K, am_RF b))) from rfl) (am_g1 g2211 rfl) (decide_eq_false c2212) ?_
    obtain ⟨q2213, e2214, h⟩ := am_bind_some h
    refine am_r_call (show am_stepn X T_UpRiverModel_goesOn 6 true (54, [(0, am_pv 65), (1, am_iv x1), (3, am_iv x3), (4, am_iv x4), (5, am_iv x5)], [], am_SH, (J, K, am_RF b)) = some (true, .inr (.inl (188, [am_pv 65, am_iv x5, am_iv x4, am_iv x3, am_iv x1], 6, 0, 0, 64, [(0, am_pv 65), (1, am_iv x1), (3, am_iv x3), (4, am_iv x4), (5, am_iv x5)], [], am_SH, (J, K, am_RF b)))) from rfl) rfl tb_UpRiverModel_sails (s_UpRiverModel_sails e2214) ?_
    obtain ⟨g2215, h⟩ := am_if_some h
    by_cases c2216 : q2213.1 = 0
    · rw [if_pos c2216] at h
      refine am_r_t (show am_stepn X T_UpRiverModel_goesOn 1 true (64, [(0, am_pv 65), (1, am_iv x1), (3, am_iv x3), (4, am_iv x4), (5, am_iv x5)], [am_iv q2213.1], am_SH, (q2213.2, K, am_RF b)) = some ((decide (am_i32 q2213.1) && true), .inl (bif am_cb .eq q2213.1 0 then 71 else 67, [(0, am_pv 65), (1, am_iv x1), (3, am_iv x3), (4, am_iv x4), (5, am_iv x5)], [], am_SH, (q2213.2, K, am_RF b))) from rfl) (am_g1 g2215 rfl) (decide_eq_true c2216) ?_
      exact s_UpRiverModel_goesOn_L71  _ _ _ _ _ _ h
    · rw [if_neg c2216] at h
      refine am_r_f (show am_stepn X T_UpRiverModel_goesOn 1 true (64, [(0, am_pv 65), (1, am_iv x1), (3, am_iv x3), (4, am_iv x4), (5, am_iv x5)], [am_iv q2213.1], am_SH, (q2213.2, K, am_RF b)) = some ((decide (am_i32 q2213.1) && true), .inl (bif am_cb .eq q2213.1 0 then 71 else 67, [(0, am_pv 65), (1, am_iv x1), (3, am_iv x3), (4, am_iv x4), (5, am_iv x5)], [], am_SH, (q2213.2, K, am_RF b))) from rfl) (am_g1 g2215 rfl) (decide_eq_false c2216) ?_
      obtain ⟨q2217, e2218, h⟩ := am_bind_some h
      refine am_r_call (show am_stepn X T_UpRiverModel_goesOn 2 true (67, [(0, am_pv 65), (1, am_iv x1), (3, am_iv x3), (4, am_iv x4), (5, am_iv x5)], [], am_SH, (q2213.2, K, am_RF b)) = some (true, .inr (.inl (205, [am_pv 65], 1, 0, 0, 71, [(0, am_pv 65), (1, am_iv x1), (3, am_iv x3), (4, am_iv x4), (5, am_iv x5)], [], am_SH, (q2213.2, K, am_RF b)))) from rfl) rfl tb_UpRiverModel_comesThere (s_UpRiverModel_comesThere e2218) ?_
      exact s_UpRiverModel_goesOn_L71  _ _ _ _ _ _ h
theorem s_UpRiverModel_goesOn {X : am_X} {b : Bool} {K : am_K} {x1 : Int} {x2 : Int} {J : am_J} {r : am_J} (h : f_UpRiverModel_goesOn  x1 x2 J = some r) : am_runs X T_UpRiverModel_goesOn (0, [(0, am_pv 65), (1, am_iv x1), (2, am_iv x2)], [], am_SH, (J, K, am_RF b)) (none, am_SH, (r, K, am_RF b)) := by
  unfold f_UpRiverModel_goesOn at h
  obtain ⟨g2219, h⟩ := am_if_some h
  obtain ⟨g2220, h⟩ := am_if_some h
  obtain ⟨g2221, h⟩ := am_if_some h
  by_cases c2222 : x1 < 300
  · rw [if_pos c2222] at h
    refine am_r_f (show am_stepn X T_UpRiverModel_goesOn 19 true (0, [(0, am_pv 65), (1, am_iv x1), (2, am_iv x2)], [], am_SH, (J, K, am_RF b)) = some (((decide (am_i32 300) && decide (am_i32 x1)) && ((decide (0 < (9 : Int) ∧ am_i32 9) && decide (am_i32 (am_dv x2 2))) && ((decide (0 < (2 : Int) ∧ am_i32 2) && decide (am_i32 x2)) && ((decide (0 < (9 : Int) ∧ am_i32 9) && decide (am_i32 (am_dv x2 2))) && ((decide (0 < (2 : Int) ∧ am_i32 2) && decide (am_i32 x2)) && ((decide (0 < (2 : Int) ∧ am_i32 2) && decide (am_i32 x2)) && true)))))), .inl (bif am_cb .ge x1 300 then 39 else 27, [(0, am_pv 65), (1, am_iv x1), (2, am_iv x2), (3, am_iv (am_rm x2 2)), (4, am_iv (am_rm (am_dv x2 2) 9)), (5, am_iv (am_dv (am_dv x2 2) 9))], [], am_SH, (J, K, am_RF b))) from rfl) (am_g2 (by decide) g2221 (am_g2 (by decide) g2220 (am_g2 (by decide) g2219 (am_g2 (by decide) g2220 (am_g2 (by decide) g2219 (am_g2 (by decide) g2219 rfl)))))) (am_nd_t c2222) ?_
    obtain ⟨q2223, e2224, h⟩ := am_bind_some h
    refine am_r_call (show am_stepn X T_UpRiverModel_goesOn 8 true (27, [(0, am_pv 65), (1, am_iv x1), (2, am_iv x2), (3, am_iv (am_rm x2 2)), (4, am_iv (am_rm (am_dv x2 2) 9)), (5, am_iv (am_dv (am_dv x2 2) 9))], [], am_SH, (J, K, am_RF b)) = some (true, .inr (.inl (201, [am_pv 65, am_iv (x1 + 1), am_iv (am_dv (am_dv x2 2) 9), am_iv (am_rm (am_dv x2 2) 9), am_iv (am_rm x2 2)], 5, 0, 0, 39, [(0, am_pv 65), (1, am_iv x1), (3, am_iv (am_rm x2 2)), (4, am_iv (am_rm (am_dv x2 2) 9)), (5, am_iv (am_dv (am_dv x2 2) 9))], [], am_SH, (J, K, am_RF b)))) from rfl) rfl tb_UpRiverModel_marks (s_UpRiverModel_marks e2224) ?_
    exact s_UpRiverModel_goesOn_L39  _ _ _ _ _ _ h
  · rw [if_neg c2222] at h
    refine am_r_t (show am_stepn X T_UpRiverModel_goesOn 19 true (0, [(0, am_pv 65), (1, am_iv x1), (2, am_iv x2)], [], am_SH, (J, K, am_RF b)) = some (((decide (am_i32 300) && decide (am_i32 x1)) && ((decide (0 < (9 : Int) ∧ am_i32 9) && decide (am_i32 (am_dv x2 2))) && ((decide (0 < (2 : Int) ∧ am_i32 2) && decide (am_i32 x2)) && ((decide (0 < (9 : Int) ∧ am_i32 9) && decide (am_i32 (am_dv x2 2))) && ((decide (0 < (2 : Int) ∧ am_i32 2) && decide (am_i32 x2)) && ((decide (0 < (2 : Int) ∧ am_i32 2) && decide (am_i32 x2)) && true)))))), .inl (bif am_cb .ge x1 300 then 39 else 27, [(0, am_pv 65), (1, am_iv x1), (2, am_iv x2), (3, am_iv (am_rm x2 2)), (4, am_iv (am_rm (am_dv x2 2) 9)), (5, am_iv (am_dv (am_dv x2 2) 9))], [], am_SH, (J, K, am_RF b))) from rfl) (am_g2 (by decide) g2221 (am_g2 (by decide) g2220 (am_g2 (by decide) g2219 (am_g2 (by decide) g2220 (am_g2 (by decide) g2219 (am_g2 (by decide) g2219 rfl)))))) (am_nd_f c2222) ?_
    refine am_r_eq (σ' := (39, [(0, am_pv 65), (1, am_iv x1), (3, am_iv (am_rm x2 2)), (4, am_iv (am_rm (am_dv x2 2) 9)), (5, am_iv (am_dv (am_dv x2 2) 9))], [], am_SH, (J, K, am_RF b))) rfl ?_
    exact s_UpRiverModel_goesOn_L39  _ _ _ _ _ _ h
theorem s_UpRiverModel_spreads_L38 {X : am_X} {b : Bool} {K : am_K} {kb2 : Int → am_J → Option (Int × am_J)} (hk2 : ∀ (x2 : Int) (J : am_J) (r : Int × am_J), kb2 x2 J = some r → am_runs X T_UpRiverModel_spreads (2, [(0, am_pv 65), (2, am_iv x2)], [], am_SH, (J, K, am_RF b)) (some (am_iv r.1), am_SH, (r.2, K, am_RF b))) : ∀ (n : Nat) (x2 : Int) (x3 : Int) (x4 : Int) (J : am_J) (r : Int × am_J), f_UpRiverModel_spreads_L38  kb2 n x2 x3 x4 J = some r → am_runs X T_UpRiverModel_spreads (38, [(0, am_pv 65), (2, am_iv x2), (3, am_iv x3), (4, am_iv x4)], [], am_SH, (J, K, am_RF b)) (some (am_iv r.1), am_SH, (r.2, K, am_RF b)) := by
  intro n
  induction n with
  | zero =>
    intro x2 x3 x4 J r h
    cases h
  | succ n ih =>
    intro x2 x3 x4 J r h
    rw [f_UpRiverModel_spreads_L38.eq_2] at h
    obtain ⟨g2225, h⟩ := am_if_some h
    by_cases c2226 : x4 < 1152
    · rw [if_pos c2226] at h
      refine am_r_f (show am_stepn X T_UpRiverModel_spreads 3 true (38, [(0, am_pv 65), (2, am_iv x2), (3, am_iv x3), (4, am_iv x4)], [], am_SH, (J, K, am_RF b)) = some (((decide (am_i32 1152) && decide (am_i32 x4)) && true), .inl (bif am_cb .ge x4 1152 then 81 else 46, [(0, am_pv 65), (2, am_iv x2), (3, am_iv x3), (4, am_iv x4)], [], am_SH, (J, K, am_RF b))) from rfl) (am_g2 (by decide) g2225 rfl) (am_nd_t c2226) ?_
      obtain ⟨g2227, h⟩ := am_if_some h
      obtain ⟨g2228, h⟩ := am_if_some h
      by_cases c2229 : (J 72 ((x3 + x4).toNat)) = 0
      · rw [if_pos c2229] at h
        refine am_r_t (show am_stepn X T_UpRiverModel_spreads 7 true (46, [(0, am_pv 65), (2, am_iv x2), (3, am_iv x3), (4, am_iv x4)], [], am_SH, (J, K, am_RF b)) = some ((decide (am_i32 (J 72 ((x3 + x4).toNat))) && (am_in (x3 + x4) 11520 && true)), .inl (bif am_cb .eq (J 72 ((x3 + x4).toNat)) 0 then 75 else 58, [(0, am_pv 65), (2, am_iv x2), (3, am_iv x3), (4, am_iv x4)], [], am_SH, (J, K, am_RF b))) from rfl) (am_g1 g2228 (am_gi g2227 rfl)) (decide_eq_true c2229) ?_
        refine am_r_go (show am_stepn X T_UpRiverModel_spreads 2 true (75, [(0, am_pv 65), (2, am_iv x2), (3, am_iv x3), (4, am_iv x4)], [], am_SH, (J, K, am_RF b)) = some (true, .inl (38, [(0, am_pv 65), (2, am_iv x2), (3, am_iv x3), (4, am_iv (x4 + 1))], [], am_SH, (J, K, am_RF b))) from rfl) rfl ?_
        exact ih _ _ _ _ _ h
      · rw [if_neg c2229] at h
        refine am_r_f (show am_stepn X T_UpRiverModel_spreads 7 true (46, [(0, am_pv 65), (2, am_iv x2), (3, am_iv x3), (4, am_iv x4)], [], am_SH, (J, K, am_RF b)) = some ((decide (am_i32 (J 72 ((x3 + x4).toNat))) && (am_in (x3 + x4) 11520 && true)), .inl (bif am_cb .eq (J 72 ((x3 + x4).toNat)) 0 then 75 else 58, [(0, am_pv 65), (2, am_iv x2), (3, am_iv x3), (4, am_iv x4)], [], am_SH, (J, K, am_RF b))) from rfl) (am_g1 g2228 (am_gi g2227 rfl)) (decide_eq_false c2229) ?_
        obtain ⟨q2230, e2231, h⟩ := am_bind_some h
        refine am_r_call (show am_stepn X T_UpRiverModel_spreads 11 true (58, [(0, am_pv 65), (2, am_iv x2), (3, am_iv x3), (4, am_iv x4)], [], am_SH, (J, K, am_RF b)) = some (((decide ((0 : Int) = 0 ∨ (0 : Int) = 1) && am_in (x3 + x4) 11520) && true), .inr (.inl (204, [am_pv 65, am_iv x2, am_iv x4], 6, 0, 0, 75, [(0, am_pv 65), (2, am_iv x2), (3, am_iv x3), (4, am_iv x4)], [], am_SH, ((am_up J 72 ((x3 + x4).toNat) 0), K, am_RF b)))) from rfl) (am_gz (by decide) g2227 rfl) tb_UpRiverModel_goesOn (s_UpRiverModel_goesOn e2231) ?_
        refine am_r_go (show am_stepn X T_UpRiverModel_spreads 2 true (75, [(0, am_pv 65), (2, am_iv x2), (3, am_iv x3), (4, am_iv x4)], [], am_SH, (q2230, K, am_RF b)) = some (true, .inl (38, [(0, am_pv 65), (2, am_iv x2), (3, am_iv x3), (4, am_iv (x4 + 1))], [], am_SH, (q2230, K, am_RF b))) from rfl) rfl ?_
        exact ih _ _ _ _ _ h
    · rw [if_neg c2226] at h
      refine am_r_t (show am_stepn X T_UpRiverModel_spreads 3 true (38, [(0, am_pv 65), (2, am_iv x2), (3, am_iv x3), (4, am_iv x4)], [], am_SH, (J, K, am_RF b)) = some (((decide (am_i32 1152) && decide (am_i32 x4)) && true), .inl (bif am_cb .ge x4 1152 then 81 else 46, [(0, am_pv 65), (2, am_iv x2), (3, am_iv x3), (4, am_iv x4)], [], am_SH, (J, K, am_RF b))) from rfl) (am_g2 (by decide) g2225 rfl) (am_nd_f c2226) ?_
      refine am_r_go (show am_stepn X T_UpRiverModel_spreads 2 true (81, [(0, am_pv 65), (2, am_iv x2), (3, am_iv x3), (4, am_iv x4)], [], am_SH, (J, K, am_RF b)) = some (true, .inl (2, [(0, am_pv 65), (2, am_iv (x2 + 1))], [], am_SH, (J, K, am_RF b))) from rfl) rfl ?_
      exact hk2 _ _ _ h
theorem s_UpRiverModel_spreads_L2 {X : am_X} {b : Bool} {K : am_K}  : ∀ (n : Nat) (x2 : Int) (J : am_J) (r : Int × am_J), f_UpRiverModel_spreads_L2   n x2 J = some r → am_runs X T_UpRiverModel_spreads (2, [(0, am_pv 65), (2, am_iv x2)], [], am_SH, (J, K, am_RF b)) (some (am_iv r.1), am_SH, (r.2, K, am_RF b)) := by
  intro n
  induction n with
  | zero =>
    intro x2 J r h
    cases h
  | succ n ih =>
    intro x2 J r h
    rw [f_UpRiverModel_spreads_L2.eq_2] at h
    obtain ⟨g2232, h⟩ := am_if_some h
    by_cases c2233 : 300 < x2
    · rw [if_pos c2233] at h
      refine am_r_t (show am_stepn X T_UpRiverModel_spreads 3 true (2, [(0, am_pv 65), (2, am_iv x2)], [], am_SH, (J, K, am_RF b)) = some (((decide (am_i32 300) && decide (am_i32 x2)) && true), .inl (bif am_cb .gt x2 300 then 87 else 9, [(0, am_pv 65), (2, am_iv x2)], [], am_SH, (J, K, am_RF b))) from rfl) (am_g2 (by decide) g2232 rfl) (decide_eq_true c2233) ?_
      obtain rfl := Option.some.inj h
      exact am_r_ret (show am_stepn X T_UpRiverModel_spreads 3 true (87, [(0, am_pv 65), (2, am_iv x2)], [], am_SH, (J, K, am_RF b)) = some (true, .inr (.inr (some (am_iv (J 65 21)), am_SH, (J, K, am_RF b)))) from rfl) rfl
    · rw [if_neg c2233] at h
      refine am_r_f (show am_stepn X T_UpRiverModel_spreads 3 true (2, [(0, am_pv 65), (2, am_iv x2)], [], am_SH, (J, K, am_RF b)) = some (((decide (am_i32 300) && decide (am_i32 x2)) && true), .inl (bif am_cb .gt x2 300 then 87 else 9, [(0, am_pv 65), (2, am_iv x2)], [], am_SH, (J, K, am_RF b))) from rfl) (am_g2 (by decide) g2232 rfl) (decide_eq_false c2233) ?_
      obtain ⟨g2234, h⟩ := am_if_some h
      by_cases c2235 : (J 65 21) = (-4)
      · rw [if_pos c2235] at h
        refine am_r_t (show am_stepn X T_UpRiverModel_spreads 4 true (9, [(0, am_pv 65), (2, am_iv x2)], [], am_SH, (J, K, am_RF b)) = some (((decide (am_i32 (-4)) && decide (am_i32 (J 65 21))) && true), .inl (bif am_cb .eq (J 65 21) (-4) then 26 else 18, [(0, am_pv 65), (2, am_iv x2)], [], am_SH, (J, K, am_RF b))) from rfl) (am_g2 (by decide) g2234 rfl) (decide_eq_true c2235) ?_
        refine am_r_go (show am_stepn X T_UpRiverModel_spreads 8 true (26, [(0, am_pv 65), (2, am_iv x2)], [], am_SH, (J, K, am_RF b)) = some (((decide (0 < (10 : Int) ∧ am_i32 10) && decide (am_i32 x2)) && true), .inl (38, [(0, am_pv 65), (2, am_iv x2), (3, am_iv (1152 * (am_rm x2 10))), (4, am_iv 0)], [], am_SH, (J, K, am_RF b))) from rfl) (am_g2 (by decide) g2232 rfl) ?_
        exact s_UpRiverModel_spreads_L38 ih _ _ _ _ _ _ h
      · rw [if_neg c2235] at h
        refine am_r_f (show am_stepn X T_UpRiverModel_spreads 4 true (9, [(0, am_pv 65), (2, am_iv x2)], [], am_SH, (J, K, am_RF b)) = some (((decide (am_i32 (-4)) && decide (am_i32 (J 65 21))) && true), .inl (bif am_cb .eq (J 65 21) (-4) then 26 else 18, [(0, am_pv 65), (2, am_iv x2)], [], am_SH, (J, K, am_RF b))) from rfl) (am_g2 (by decide) g2234 rfl) (decide_eq_false c2235) ?_
        by_cases c2236 : x2 < (J 65 21)
        · rw [if_pos c2236] at h
          refine am_r_f (show am_stepn X T_UpRiverModel_spreads 4 true (18, [(0, am_pv 65), (2, am_iv x2)], [], am_SH, (J, K, am_RF b)) = some (((decide (am_i32 x2) && decide (am_i32 (J 65 21))) && true), .inl (bif am_cb .le (J 65 21) x2 then 87 else 26, [(0, am_pv 65), (2, am_iv x2)], [], am_SH, (J, K, am_RF b))) from rfl) (am_g2 g2232 g2234 rfl) (am_nd_t c2236) ?_
          refine am_r_go (show am_stepn X T_UpRiverModel_spreads 8 true (26, [(0, am_pv 65), (2, am_iv x2)], [], am_SH, (J, K, am_RF b)) = some (((decide (0 < (10 : Int) ∧ am_i32 10) && decide (am_i32 x2)) && true), .inl (38, [(0, am_pv 65), (2, am_iv x2), (3, am_iv (1152 * (am_rm x2 10))), (4, am_iv 0)], [], am_SH, (J, K, am_RF b))) from rfl) (am_g2 (by decide) g2232 rfl) ?_
          exact s_UpRiverModel_spreads_L38 ih _ _ _ _ _ _ h
        · rw [if_neg c2236] at h
          refine am_r_t (show am_stepn X T_UpRiverModel_spreads 4 true (18, [(0, am_pv 65), (2, am_iv x2)], [], am_SH, (J, K, am_RF b)) = some (((decide (am_i32 x2) && decide (am_i32 (J 65 21))) && true), .inl (bif am_cb .le (J 65 21) x2 then 87 else 26, [(0, am_pv 65), (2, am_iv x2)], [], am_SH, (J, K, am_RF b))) from rfl) (am_g2 g2232 g2234 rfl) (am_nd_f c2236) ?_
          obtain rfl := Option.some.inj h
          exact am_r_ret (show am_stepn X T_UpRiverModel_spreads 3 true (87, [(0, am_pv 65), (2, am_iv x2)], [], am_SH, (J, K, am_RF b)) = some (true, .inr (.inr (some (am_iv (J 65 21)), am_SH, (J, K, am_RF b)))) from rfl) rfl
theorem s_UpRiverModel_spreads {X : am_X} {b : Bool} {K : am_K} {x1 : Int} {J : am_J} {r : Int × am_J} (h : f_UpRiverModel_spreads  x1 J = some r) : am_runs X T_UpRiverModel_spreads (0, [(0, am_pv 65), (1, am_iv x1)], [], am_SH, (J, K, am_RF b)) (some (am_iv r.1), am_SH, (r.2, K, am_RF b)) := by
  unfold f_UpRiverModel_spreads at h
  refine am_r_go (show am_stepn X T_UpRiverModel_spreads 2 true (0, [(0, am_pv 65), (1, am_iv x1)], [], am_SH, (J, K, am_RF b)) = some (true, .inl (2, [(0, am_pv 65), (1, am_iv x1), (2, am_iv x1)], [], am_SH, (J, K, am_RF b))) from rfl) rfl ?_
  refine am_r_eq (σ' := (2, [(0, am_pv 65), (2, am_iv x1)], [], am_SH, (J, K, am_RF b))) rfl ?_
  exact s_UpRiverModel_spreads_L2  _ _ _ _ h
