theorem s_Reader_mark {X : am_X} {b : Bool} {K : am_K} {x1 : Int} {J : am_J} {r : Int × am_J} (h : f_Reader_mark  x1 J = some r) : am_runs X T_Reader_mark (0, [(0, am_pv 1), (1, am_iv x1)], [], am_SH, (J, K, am_RF b)) (some (am_iv r.1), am_SH, (r.2, K, am_RF b)) := by
  unfold f_Reader_mark at h
  obtain ⟨g204, h⟩ := am_if_some h
  by_cases c205 : x1 < 0
  · rw [if_pos c205] at h
    refine am_r_t (show am_stepn X T_Reader_mark 2 true (0, [(0, am_pv 1), (1, am_iv x1)], [], am_SH, (J, K, am_RF b)) = some ((decide (am_i32 x1) && true), .inl (bif am_cb .lt x1 0 then 11 else 4, [(0, am_pv 1), (1, am_iv x1)], [], am_SH, (J, K, am_RF b))) from rfl) (am_g1 g204 rfl) (decide_eq_true c205) ?_
    obtain rfl := Option.some.inj h
    exact am_r_ret (show am_stepn X T_Reader_mark 2 true (11, [(0, am_pv 1), (1, am_iv x1)], [], am_SH, (J, K, am_RF b)) = some ((decide ((1 : Int) = 0 ∨ (1 : Int) = 1) && true), .inr (.inr (some (am_iv 1), am_SH, (J, K, am_RF b)))) from rfl) (am_g1 (by decide) rfl)
  · rw [if_neg c205] at h
    refine am_r_f (show am_stepn X T_Reader_mark 2 true (0, [(0, am_pv 1), (1, am_iv x1)], [], am_SH, (J, K, am_RF b)) = some ((decide (am_i32 x1) && true), .inl (bif am_cb .lt x1 0 then 11 else 4, [(0, am_pv 1), (1, am_iv x1)], [], am_SH, (J, K, am_RF b))) from rfl) (am_g1 g204 rfl) (decide_eq_false c205) ?_
    by_cases c206 : x1 < 182
    · rw [if_pos c206] at h
      refine am_r_t (show am_stepn X T_Reader_mark 3 true (4, [(0, am_pv 1), (1, am_iv x1)], [], am_SH, (J, K, am_RF b)) = some (((decide (am_i32 182) && decide (am_i32 x1)) && true), .inl (bif am_cb .lt x1 182 then 13 else 11, [(0, am_pv 1), (1, am_iv x1)], [], am_SH, (J, K, am_RF b))) from rfl) (am_g2 (by decide) g204 rfl) (decide_eq_true c206) ?_
      obtain ⟨g207, h⟩ := am_if_some h
      obtain ⟨g208, h⟩ := am_if_some h
      by_cases c209 : (J 4 x1.toNat) = 0
      · rw [if_pos c209] at h
        refine am_r_t (show am_stepn X T_Reader_mark 5 true (13, [(0, am_pv 1), (1, am_iv x1)], [], am_SH, (J, K, am_RF b)) = some ((decide (am_i32 (J 4 x1.toNat)) && (am_in x1 182 && true)), .inl (bif am_cb .eq (J 4 x1.toNat) 0 then 32 else 22, [(0, am_pv 1), (1, am_iv x1)], [], am_SH, (J, K, am_RF b))) from rfl) (am_g1 g208 (am_gi g207 rfl)) (decide_eq_true c209) ?_
        obtain rfl := Option.some.inj h
        exact am_r_ret (show am_stepn X T_Reader_mark 7 true (32, [(0, am_pv 1), (1, am_iv x1)], [], am_SH, (J, K, am_RF b)) = some ((decide ((1 : Int) = 0 ∨ (1 : Int) = 1) && ((decide ((1 : Int) = 0 ∨ (1 : Int) = 1) && am_in x1 182) && true)), .inr (.inr (some (am_iv 1), am_SH, ((am_up J 4 x1.toNat 1), K, am_RF b)))) from rfl) (am_g1 (by decide) (am_gz (by decide) g207 rfl))
      · rw [if_neg c209] at h
        refine am_r_f (show am_stepn X T_Reader_mark 5 true (13, [(0, am_pv 1), (1, am_iv x1)], [], am_SH, (J, K, am_RF b)) = some ((decide (am_i32 (J 4 x1.toNat)) && (am_in x1 182 && true)), .inl (bif am_cb .eq (J 4 x1.toNat) 0 then 32 else 22, [(0, am_pv 1), (1, am_iv x1)], [], am_SH, (J, K, am_RF b))) from rfl) (am_g1 g208 (am_gi g207 rfl)) (decide_eq_false c209) ?_
        obtain ⟨q210, e211, h⟩ := am_bind_some h
        refine am_r_call (show am_stepn X T_Reader_mark 5 true (22, [(0, am_pv 1), (1, am_iv x1)], [], am_SH, (J, K, am_RF b)) = some (true, .inr (.inl (27, [am_pv 1, am_iv 4, am_iv (J 1 6)], 3, 0, 0, 31, [(0, am_pv 1)], [], am_SH, (J, K, am_RF b)))) from rfl) rfl tb_Reader_fail (s_Reader_fail e211) ?_
        obtain ⟨g212, h⟩ := am_if_some h
        obtain rfl := Option.some.inj h
        exact am_r_ret (show am_stepn X T_Reader_mark 1 true (31, [(0, am_pv 1)], [am_iv q210.1], am_SH, (q210.2, K, am_RF b)) = some ((decide ((q210.1 : Int) = 0 ∨ (q210.1 : Int) = 1) && true), .inr (.inr (some (am_iv q210.1), am_SH, (q210.2, K, am_RF b)))) from rfl) (am_g1 g212 rfl)
    · rw [if_neg c206] at h
      refine am_r_f (show am_stepn X T_Reader_mark 3 true (4, [(0, am_pv 1), (1, am_iv x1)], [], am_SH, (J, K, am_RF b)) = some (((decide (am_i32 182) && decide (am_i32 x1)) && true), .inl (bif am_cb .lt x1 182 then 13 else 11, [(0, am_pv 1), (1, am_iv x1)], [], am_SH, (J, K, am_RF b))) from rfl) (am_g2 (by decide) g204 rfl) (decide_eq_false c206) ?_
      obtain rfl := Option.some.inj h
      exact am_r_ret (show am_stepn X T_Reader_mark 2 true (11, [(0, am_pv 1), (1, am_iv x1)], [], am_SH, (J, K, am_RF b)) = some ((decide ((1 : Int) = 0 ∨ (1 : Int) = 1) && true), .inr (.inr (some (am_iv 1), am_SH, (J, K, am_RF b)))) from rfl) (am_g1 (by decide) rfl)
theorem s_Reader_markOf_L103 {X : am_X} {b : Bool} {J : am_J} {K : am_K}  : ∀ (s0 : Int) (r : Int), f_Reader_markOf_L103 J   s0 = some r → am_runs X T_Reader_markOf (103, [(0, am_pv 1)], [am_iv s0], am_SH, (J, K, am_RF b)) (some (am_iv r), am_SH, (J, K, am_RF b)) := by
  intro s0 r h
  unfold f_Reader_markOf_L103 at h
  obtain rfl := Option.some.inj h
  exact am_r_ret (show am_stepn X T_Reader_markOf 13 true (103, [(0, am_pv 1)], [am_iv s0], am_SH, (J, K, am_RF b)) = some ((am_in 1 12 && (am_in 0 12 && true)), .inr (.inr (some (am_iv ((s0 + ((J 5 0) * 9)) + (J 5 1))), am_SH, (J, K, am_RF b)))) from rfl) (am_gi (by decide) (am_gi (by decide) rfl))
theorem s_Reader_markOf_L90 {X : am_X} {b : Bool} {J : am_J} {K : am_K}  : ∀ (x1 : Int) (r : Int), f_Reader_markOf_L90 J   x1 = some r → am_runs X T_Reader_markOf (90, [(0, am_pv 1), (1, am_iv x1)], [], am_SH, (J, K, am_RF b)) (some (am_iv r), am_SH, (J, K, am_RF b)) := by
  intro x1 r h
  unfold f_Reader_markOf_L90 at h
  obtain ⟨g213, h⟩ := am_if_some h
  by_cases c214 : x1 = 8
  · rw [if_pos c214] at h
    refine am_r_f (show am_stepn X T_Reader_markOf 3 true (90, [(0, am_pv 1), (1, am_iv x1)], [], am_SH, (J, K, am_RF b)) = some (((decide (am_i32 8) && decide (am_i32 x1)) && true), .inl (bif am_cb .ne x1 8 then 101 else 96, [(0, am_pv 1), (1, am_iv x1)], [], am_SH, (J, K, am_RF b))) from rfl) (am_g2 (by decide) g213 rfl) (am_nd_t c214) ?_
    refine am_r_go (show am_stepn X T_Reader_markOf 2 true (96, [(0, am_pv 1), (1, am_iv x1)], [], am_SH, (J, K, am_RF b)) = some (true, .inl (103, [(0, am_pv 1)], [am_iv 38], am_SH, (J, K, am_RF b))) from rfl) rfl ?_
    exact s_Reader_markOf_L103  _ _ h
  · rw [if_neg c214] at h
    refine am_r_t (show am_stepn X T_Reader_markOf 3 true (90, [(0, am_pv 1), (1, am_iv x1)], [], am_SH, (J, K, am_RF b)) = some (((decide (am_i32 8) && decide (am_i32 x1)) && true), .inl (bif am_cb .ne x1 8 then 101 else 96, [(0, am_pv 1), (1, am_iv x1)], [], am_SH, (J, K, am_RF b))) from rfl) (am_g2 (by decide) g213 rfl) (am_nd_f c214) ?_
    refine am_r_go (show am_stepn X T_Reader_markOf 1 true (101, [(0, am_pv 1), (1, am_iv x1)], [], am_SH, (J, K, am_RF b)) = some (true, .inl (103, [(0, am_pv 1)], [am_iv 110], am_SH, (J, K, am_RF b))) from rfl) rfl ?_
    exact s_Reader_markOf_L103  _ _ h
theorem s_Reader_markOf {X : am_X} {b : Bool} {J : am_J} {K : am_K} {x1 : Int} {x2 : Int} {r : Int} (h : f_Reader_markOf J x1 x2 = some r) : am_runs X T_Reader_markOf (0, [(0, am_pv 1), (1, am_iv x1), (2, am_iv x2)], [], am_SH, (J, K, am_RF b)) (some (am_iv r), am_SH, (J, K, am_RF b)) := by
  unfold f_Reader_markOf at h
  obtain ⟨g215, h⟩ := am_if_some h
  by_cases c216 : x2 = 0
  · rw [if_pos c216] at h
    refine am_r_f (show am_stepn X T_Reader_markOf 2 true (0, [(0, am_pv 1), (1, am_iv x1), (2, am_iv x2)], [], am_SH, (J, K, am_RF b)) = some ((decide (am_i32 x2) && true), .inl (bif am_cb .ne x2 0 then 73 else 4, [(0, am_pv 1), (1, am_iv x1), (2, am_iv x2)], [], am_SH, (J, K, am_RF b))) from rfl) (am_g1 g215 rfl) (am_nd_t c216) ?_
    obtain ⟨g217, h⟩ := am_if_some h
    by_cases c218 : x1 = 7
    · rw [if_pos c218] at h
      refine am_r_sw (show am_stepn X T_Reader_markOf 2 true (4, [(0, am_pv 1), (1, am_iv x1), (2, am_iv x2)], [], am_SH, (J, K, am_RF b)) = some ((decide (am_i32 x1) && true), .inl (am_sw 7 11 [70, 40, 70, 70, 50, 60] x1, [(0, am_pv 1), (1, am_iv x1)], [], am_SH, (J, K, am_RF b))) from rfl) (am_g1 g217 rfl) (p := 40) (by rw [c218]; rfl) ?_
      obtain rfl := Option.some.inj h
      exact am_r_ret (show am_stepn X T_Reader_markOf 7 true (40, [(0, am_pv 1), (1, am_iv x1)], [], am_SH, (J, K, am_RF b)) = some ((am_in 0 12 && true), .inr (.inr (some (am_iv (14 + (J 5 0))), am_SH, (J, K, am_RF b)))) from rfl) (am_gi (by decide) rfl)
    · rw [if_neg c218] at h
      by_cases c219 : x1 = 10
      · rw [if_pos c219] at h
        refine am_r_sw (show am_stepn X T_Reader_markOf 2 true (4, [(0, am_pv 1), (1, am_iv x1), (2, am_iv x2)], [], am_SH, (J, K, am_RF b)) = some ((decide (am_i32 x1) && true), .inl (am_sw 7 11 [70, 40, 70, 70, 50, 60] x1, [(0, am_pv 1), (1, am_iv x1)], [], am_SH, (J, K, am_RF b))) from rfl) (am_g1 g217 rfl) (p := 50) (by rw [c219]; rfl) ?_
        obtain rfl := Option.some.inj h
        exact am_r_ret (show am_stepn X T_Reader_markOf 7 true (50, [(0, am_pv 1), (1, am_iv x1)], [], am_SH, (J, K, am_RF b)) = some ((am_in 0 12 && true), .inr (.inr (some (am_iv (22 + (J 5 0))), am_SH, (J, K, am_RF b)))) from rfl) (am_gi (by decide) rfl)
      · rw [if_neg c219] at h
        by_cases c220 : x1 = 11
        · rw [if_pos c220] at h
          refine am_r_sw (show am_stepn X T_Reader_markOf 2 true (4, [(0, am_pv 1), (1, am_iv x1), (2, am_iv x2)], [], am_SH, (J, K, am_RF b)) = some ((decide (am_i32 x1) && true), .inl (am_sw 7 11 [70, 40, 70, 70, 50, 60] x1, [(0, am_pv 1), (1, am_iv x1)], [], am_SH, (J, K, am_RF b))) from rfl) (am_g1 g217 rfl) (p := 60) (by rw [c220]; rfl) ?_
          obtain rfl := Option.some.inj h
          exact am_r_ret (show am_stepn X T_Reader_markOf 7 true (60, [(0, am_pv 1), (1, am_iv x1)], [], am_SH, (J, K, am_RF b)) = some ((am_in 0 12 && true), .inr (.inr (some (am_iv (30 + (J 5 0))), am_SH, (J, K, am_RF b)))) from rfl) (am_gi (by decide) rfl)
        · rw [if_neg c220] at h
          have d221 : am_sw 7 11 [70, 40, 70, 70, 50, 60] x1 = 70 := by
            rcases (show (x1 < 7 ∨ 11 < x1) ∨ x1 = 8 ∨ x1 = 9 by omega) with z | z | z
            · exact am_sw_out z
            · rw [z]; rfl
            · rw [z]; rfl
          refine am_r_sw (show am_stepn X T_Reader_markOf 2 true (4, [(0, am_pv 1), (1, am_iv x1), (2, am_iv x2)], [], am_SH, (J, K, am_RF b)) = some ((decide (am_i32 x1) && true), .inl (am_sw 7 11 [70, 40, 70, 70, 50, 60] x1, [(0, am_pv 1), (1, am_iv x1)], [], am_SH, (J, K, am_RF b))) from rfl) (am_g1 g217 rfl) (p := 70) d221 ?_
          obtain rfl := Option.some.inj h
          exact am_r_ret (show am_stepn X T_Reader_markOf 2 true (70, [(0, am_pv 1), (1, am_iv x1)], [], am_SH, (J, K, am_RF b)) = some (true, .inr (.inr (some (am_iv (-4)), am_SH, (J, K, am_RF b)))) from rfl) rfl
  · rw [if_neg c216] at h
    refine am_r_t (show am_stepn X T_Reader_markOf 2 true (0, [(0, am_pv 1), (1, am_iv x1), (2, am_iv x2)], [], am_SH, (J, K, am_RF b)) = some ((decide (am_i32 x2) && true), .inl (bif am_cb .ne x2 0 then 73 else 4, [(0, am_pv 1), (1, am_iv x1), (2, am_iv x2)], [], am_SH, (J, K, am_RF b))) from rfl) (am_g1 g215 rfl) (am_nd_f c216) ?_
    by_cases c222 : x2 = 1
    · rw [if_pos c222] at h
      refine am_r_f (show am_stepn X T_Reader_markOf 3 true (73, [(0, am_pv 1), (1, am_iv x1), (2, am_iv x2)], [], am_SH, (J, K, am_RF b)) = some (((decide (am_i32 1) && decide (am_i32 x2)) && true), .inl (bif am_cb .ne x2 1 then 121 else 78, [(0, am_pv 1), (1, am_iv x1), (2, am_iv x2)], [], am_SH, (J, K, am_RF b))) from rfl) (am_g2 (by decide) g215 rfl) (am_nd_t c222) ?_
      obtain ⟨g223, h⟩ := am_if_some h
      by_cases c224 : x1 = 8
      · rw [if_pos c224] at h
        refine am_r_t (show am_stepn X T_Reader_markOf 3 true (78, [(0, am_pv 1), (1, am_iv x1), (2, am_iv x2)], [], am_SH, (J, K, am_RF b)) = some (((decide (am_i32 8) && decide (am_i32 x1)) && true), .inl (bif am_cb .eq x1 8 then 90 else 84, [(0, am_pv 1), (1, am_iv x1)], [], am_SH, (J, K, am_RF b))) from rfl) (am_g2 (by decide) g223 rfl) (decide_eq_true c224) ?_
        exact s_Reader_markOf_L90  _ _ h
      · rw [if_neg c224] at h
        refine am_r_f (show am_stepn X T_Reader_markOf 3 true (78, [(0, am_pv 1), (1, am_iv x1), (2, am_iv x2)], [], am_SH, (J, K, am_RF b)) = some (((decide (am_i32 8) && decide (am_i32 x1)) && true), .inl (bif am_cb .eq x1 8 then 90 else 84, [(0, am_pv 1), (1, am_iv x1)], [], am_SH, (J, K, am_RF b))) from rfl) (am_g2 (by decide) g223 rfl) (decide_eq_false c224) ?_
        by_cases c225 : x1 = 9
        · rw [if_pos c225] at h
          refine am_r_f (show am_stepn X T_Reader_markOf 3 true (84, [(0, am_pv 1), (1, am_iv x1)], [], am_SH, (J, K, am_RF b)) = some (((decide (am_i32 9) && decide (am_i32 x1)) && true), .inl (bif am_cb .ne x1 9 then 121 else 90, [(0, am_pv 1), (1, am_iv x1)], [], am_SH, (J, K, am_RF b))) from rfl) (am_g2 (by decide) g223 rfl) (am_nd_t c225) ?_
          exact s_Reader_markOf_L90  _ _ h
        · rw [if_neg c225] at h
          refine am_r_t (show am_stepn X T_Reader_markOf 3 true (84, [(0, am_pv 1), (1, am_iv x1)], [], am_SH, (J, K, am_RF b)) = some (((decide (am_i32 9) && decide (am_i32 x1)) && true), .inl (bif am_cb .ne x1 9 then 121 else 90, [(0, am_pv 1), (1, am_iv x1)], [], am_SH, (J, K, am_RF b))) from rfl) (am_g2 (by decide) g223 rfl) (am_nd_f c225) ?_
          obtain rfl := Option.some.inj h
          exact am_r_ret (show am_stepn X T_Reader_markOf 2 true (121, [(0, am_pv 1), (1, am_iv x1)], [], am_SH, (J, K, am_RF b)) = some (true, .inr (.inr (some (am_iv (-4)), am_SH, (J, K, am_RF b)))) from rfl) rfl
    · rw [if_neg c222] at h
      refine am_r_t (show am_stepn X T_Reader_markOf 3 true (73, [(0, am_pv 1), (1, am_iv x1), (2, am_iv x2)], [], am_SH, (J, K, am_RF b)) = some (((decide (am_i32 1) && decide (am_i32 x2)) && true), .inl (bif am_cb .ne x2 1 then 121 else 78, [(0, am_pv 1), (1, am_iv x1), (2, am_iv x2)], [], am_SH, (J, K, am_RF b))) from rfl) (am_g2 (by decide) g215 rfl) (am_nd_f c222) ?_
      obtain rfl := Option.some.inj h
      exact am_r_ret (show am_stepn X T_Reader_markOf 2 true (121, [(0, am_pv 1), (1, am_iv x1), (2, am_iv x2)], [], am_SH, (J, K, am_RF b)) = some (true, .inr (.inr (some (am_iv (-4)), am_SH, (J, K, am_RF b)))) from rfl) rfl
theorem s_Reader_mostOf {X : am_X} {b : Bool} {J : am_J} {K : am_K} {x1 : Int} {x2 : Int} {r : Int} (h : f_Reader_mostOf J x1 x2 = some r) : am_runs X T_Reader_mostOf (0, [(0, am_pv 1), (1, am_iv x1), (2, am_iv x2)], [], am_SH, (J, K, am_RF b)) (some (am_iv r), am_SH, (J, K, am_RF b)) := by
  unfold f_Reader_mostOf at h
  obtain ⟨g226, h⟩ := am_if_some h
  by_cases c227 : x1 < 7
  · rw [if_pos c227] at h
    refine am_r_f (show am_stepn X T_Reader_mostOf 3 true (0, [(0, am_pv 1), (1, am_iv x1), (2, am_iv x2)], [], am_SH, (J, K, am_RF b)) = some (((decide (am_i32 7) && decide (am_i32 x1)) && true), .inl (bif am_cb .ge x1 7 then 12 else 6, [(0, am_pv 1), (1, am_iv x1), (2, am_iv x2)], [], am_SH, (J, K, am_RF b))) from rfl) (am_g2 (by decide) g226 rfl) (am_nd_t c227) ?_
    obtain ⟨g228, h⟩ := am_if_some h
    obtain rfl := Option.some.inj h
    exact am_r_ret (show am_stepn X T_Reader_mostOf 4 true (6, [(0, am_pv 1), (1, am_iv x1), (2, am_iv x2)], [], am_SH, (J, K, am_RF b)) = some ((am_in x1 7 && true), .inr (.inr (some (am_iv (am_most.getD x1.toNat 0)), am_SH, (J, K, am_RF b)))) from rfl) (am_gi g228 rfl)
  · rw [if_neg c227] at h
    refine am_r_t (show am_stepn X T_Reader_mostOf 3 true (0, [(0, am_pv 1), (1, am_iv x1), (2, am_iv x2)], [], am_SH, (J, K, am_RF b)) = some (((decide (am_i32 7) && decide (am_i32 x1)) && true), .inl (bif am_cb .ge x1 7 then 12 else 6, [(0, am_pv 1), (1, am_iv x1), (2, am_iv x2)], [], am_SH, (J, K, am_RF b))) from rfl) (am_g2 (by decide) g226 rfl) (am_nd_f c227) ?_
    by_cases c229 : x1 = 12
    · rw [if_pos c229] at h
      refine am_r_f (show am_stepn X T_Reader_mostOf 3 true (12, [(0, am_pv 1), (1, am_iv x1), (2, am_iv x2)], [], am_SH, (J, K, am_RF b)) = some (((decide (am_i32 12) && decide (am_i32 x1)) && true), .inl (bif am_cb .ne x1 12 then 21 else 18, [(1, am_iv x1), (2, am_iv x2)], [], am_SH, (J, K, am_RF b))) from rfl) (am_g2 (by decide) g226 rfl) (am_nd_t c229) ?_
      obtain rfl := Option.some.inj h
      exact am_r_ret (show am_stepn X T_Reader_mostOf 2 true (18, [(1, am_iv x1), (2, am_iv x2)], [], am_SH, (J, K, am_RF b)) = some (true, .inr (.inr (some (am_iv 18), am_SH, (J, K, am_RF b)))) from rfl) rfl
    · rw [if_neg c229] at h
      refine am_r_t (show am_stepn X T_Reader_mostOf 3 true (12, [(0, am_pv 1), (1, am_iv x1), (2, am_iv x2)], [], am_SH, (J, K, am_RF b)) = some (((decide (am_i32 12) && decide (am_i32 x1)) && true), .inl (bif am_cb .ne x1 12 then 21 else 18, [(1, am_iv x1), (2, am_iv x2)], [], am_SH, (J, K, am_RF b))) from rfl) (am_g2 (by decide) g226 rfl) (am_nd_f c229) ?_
      by_cases c230 : x1 = 13
      · rw [if_pos c230] at h
        refine am_r_f (show am_stepn X T_Reader_mostOf 3 true (21, [(1, am_iv x1), (2, am_iv x2)], [], am_SH, (J, K, am_RF b)) = some (((decide (am_i32 13) && decide (am_i32 x1)) && true), .inl (bif am_cb .ne x1 13 then 30 else 27, [(1, am_iv x1), (2, am_iv x2)], [], am_SH, (J, K, am_RF b))) from rfl) (am_g2 (by decide) g226 rfl) (am_nd_t c230) ?_
        obtain rfl := Option.some.inj h
        exact am_r_ret (show am_stepn X T_Reader_mostOf 2 true (27, [(1, am_iv x1), (2, am_iv x2)], [], am_SH, (J, K, am_RF b)) = some (true, .inr (.inr (some (am_iv 15), am_SH, (J, K, am_RF b)))) from rfl) rfl
      · rw [if_neg c230] at h
        refine am_r_t (show am_stepn X T_Reader_mostOf 3 true (21, [(1, am_iv x1), (2, am_iv x2)], [], am_SH, (J, K, am_RF b)) = some (((decide (am_i32 13) && decide (am_i32 x1)) && true), .inl (bif am_cb .ne x1 13 then 30 else 27, [(1, am_iv x1), (2, am_iv x2)], [], am_SH, (J, K, am_RF b))) from rfl) (am_g2 (by decide) g226 rfl) (am_nd_f c230) ?_
        obtain ⟨g231, h⟩ := am_if_some h
        by_cases c232 : x2 = 0
        · rw [if_pos c232] at h
          refine am_r_f (show am_stepn X T_Reader_mostOf 2 true (30, [(1, am_iv x1), (2, am_iv x2)], [], am_SH, (J, K, am_RF b)) = some ((decide (am_i32 x2) && true), .inl (bif am_cb .ne x2 0 then 37 else 34, [(1, am_iv x1), (2, am_iv x2)], [], am_SH, (J, K, am_RF b))) from rfl) (am_g1 g231 rfl) (am_nd_t c232) ?_
          obtain rfl := Option.some.inj h
          exact am_r_ret (show am_stepn X T_Reader_mostOf 2 true (34, [(1, am_iv x1), (2, am_iv x2)], [], am_SH, (J, K, am_RF b)) = some (true, .inr (.inr (some (am_iv 7), am_SH, (J, K, am_RF b)))) from rfl) rfl
        · rw [if_neg c232] at h
          refine am_r_t (show am_stepn X T_Reader_mostOf 2 true (30, [(1, am_iv x1), (2, am_iv x2)], [], am_SH, (J, K, am_RF b)) = some ((decide (am_i32 x2) && true), .inl (bif am_cb .ne x2 0 then 37 else 34, [(1, am_iv x1), (2, am_iv x2)], [], am_SH, (J, K, am_RF b))) from rfl) (am_g1 g231 rfl) (am_nd_f c232) ?_
          by_cases c233 : x1 = 11
          · rw [if_pos c233] at h
            refine am_r_f (show am_stepn X T_Reader_mostOf 3 true (37, [(1, am_iv x1), (2, am_iv x2)], [], am_SH, (J, K, am_RF b)) = some (((decide (am_i32 11) && decide (am_i32 x1)) && true), .inl (bif am_cb .ne x1 11 then 45 else 43, [(1, am_iv x1), (2, am_iv x2)], [], am_SH, (J, K, am_RF b))) from rfl) (am_g2 (by decide) g226 rfl) (am_nd_t c233) ?_
            obtain rfl := Option.some.inj h
            exact am_r_ret (show am_stepn X T_Reader_mostOf 2 true (43, [(1, am_iv x1), (2, am_iv x2)], [], am_SH, (J, K, am_RF b)) = some (true, .inr (.inr (some (am_iv 2), am_SH, (J, K, am_RF b)))) from rfl) rfl
          · rw [if_neg c233] at h
            refine am_r_t (show am_stepn X T_Reader_mostOf 3 true (37, [(1, am_iv x1), (2, am_iv x2)], [], am_SH, (J, K, am_RF b)) = some (((decide (am_i32 11) && decide (am_i32 x1)) && true), .inl (bif am_cb .ne x1 11 then 45 else 43, [(1, am_iv x1), (2, am_iv x2)], [], am_SH, (J, K, am_RF b))) from rfl) (am_g2 (by decide) g226 rfl) (am_nd_f c233) ?_
            by_cases c234 : x1 = 8
            · rw [if_pos c234] at h
              refine am_r_f (show am_stepn X T_Reader_mostOf 3 true (45, [(1, am_iv x1), (2, am_iv x2)], [], am_SH, (J, K, am_RF b)) = some (((decide (am_i32 8) && decide (am_i32 x1)) && true), .inl (bif am_cb .ne x1 8 then 61 else 51, [(1, am_iv x1), (2, am_iv x2)], [], am_SH, (J, K, am_RF b))) from rfl) (am_g2 (by decide) g226 rfl) (am_nd_t c234) ?_
              by_cases c235 : x2 = 2
              · rw [if_pos c235] at h
                refine am_r_f (show am_stepn X T_Reader_mostOf 3 true (51, [(1, am_iv x1), (2, am_iv x2)], [], am_SH, (J, K, am_RF b)) = some (((decide (am_i32 2) && decide (am_i32 x2)) && true), .inl (bif am_cb .ne x2 2 then 61 else 56, [(2, am_iv x2)], [], am_SH, (J, K, am_RF b))) from rfl) (am_g2 (by decide) g231 rfl) (am_nd_t c235) ?_
                obtain rfl := Option.some.inj h
                exact am_r_ret (show am_stepn X T_Reader_mostOf 3 true (56, [(2, am_iv x2)], [], am_SH, (J, K, am_RF b)) = some (true, .inr (.inr (some (am_iv 30), am_SH, (J, K, am_RF b)))) from rfl) rfl
              · rw [if_neg c235] at h
                refine am_r_t (show am_stepn X T_Reader_mostOf 3 true (51, [(1, am_iv x1), (2, am_iv x2)], [], am_SH, (J, K, am_RF b)) = some (((decide (am_i32 2) && decide (am_i32 x2)) && true), .inl (bif am_cb .ne x2 2 then 61 else 56, [(2, am_iv x2)], [], am_SH, (J, K, am_RF b))) from rfl) (am_g2 (by decide) g231 rfl) (am_nd_f c235) ?_
                obtain rfl := Option.some.inj h
                exact am_r_ret (show am_stepn X T_Reader_mostOf 2 true (61, [(2, am_iv x2)], [], am_SH, (J, K, am_RF b)) = some (true, .inr (.inr (some (am_iv 8), am_SH, (J, K, am_RF b)))) from rfl) rfl
            · rw [if_neg c234] at h
              refine am_r_t (show am_stepn X T_Reader_mostOf 3 true (45, [(1, am_iv x1), (2, am_iv x2)], [], am_SH, (J, K, am_RF b)) = some (((decide (am_i32 8) && decide (am_i32 x1)) && true), .inl (bif am_cb .ne x1 8 then 61 else 51, [(1, am_iv x1), (2, am_iv x2)], [], am_SH, (J, K, am_RF b))) from rfl) (am_g2 (by decide) g226 rfl) (am_nd_f c234) ?_
              obtain rfl := Option.some.inj h
              exact am_r_ret (show am_stepn X T_Reader_mostOf 2 true (61, [(1, am_iv x1), (2, am_iv x2)], [], am_SH, (J, K, am_RF b)) = some (true, .inr (.inr (some (am_iv 8), am_SH, (J, K, am_RF b)))) from rfl) rfl
theorem s_Reader_numbersOf {X : am_X} {b : Bool} {J : am_J} {K : am_K} {x0 : Int} {r : Int} (h : f_Reader_numbersOf  x0 = some r) : am_runs X T_Reader_numbersOf (0, [(0, am_iv x0)], [], am_SH, (J, K, am_RF b)) (some (am_iv r), am_SH, (J, K, am_RF b)) := by
  unfold f_Reader_numbersOf at h
  obtain ⟨g236, h⟩ := am_if_some h
  by_cases c237 : x0 = 7
  · rw [if_pos c237] at h
    refine am_r_sw (show am_stepn X T_Reader_numbersOf 2 true (0, [(0, am_iv x0)], [], am_SH, (J, K, am_RF b)) = some ((decide (am_i32 x0) && true), .inl (am_sw 7 13 [51, 44, 44, 46, 51, 46, 48, 48] x0, [(0, am_iv x0)], [], am_SH, (J, K, am_RF b))) from rfl) (am_g1 g236 rfl) (p := 44) (by rw [c237]; rfl) ?_
    obtain rfl := Option.some.inj h
    exact am_r_ret (show am_stepn X T_Reader_numbersOf 2 true (44, [(0, am_iv x0)], [], am_SH, (J, K, am_RF b)) = some (true, .inr (.inr (some (am_iv 3), am_SH, (J, K, am_RF b)))) from rfl) rfl
  · rw [if_neg c237] at h
    by_cases c238 : x0 = 8
    · rw [if_pos c238] at h
      refine am_r_sw (show am_stepn X T_Reader_numbersOf 2 true (0, [(0, am_iv x0)], [], am_SH, (J, K, am_RF b)) = some ((decide (am_i32 x0) && true), .inl (am_sw 7 13 [51, 44, 44, 46, 51, 46, 48, 48] x0, [(0, am_iv x0)], [], am_SH, (J, K, am_RF b))) from rfl) (am_g1 g236 rfl) (p := 44) (by rw [c238]; rfl) ?_
      obtain rfl := Option.some.inj h
      exact am_r_ret (show am_stepn X T_Reader_numbersOf 2 true (44, [(0, am_iv x0)], [], am_SH, (J, K, am_RF b)) = some (true, .inr (.inr (some (am_iv 3), am_SH, (J, K, am_RF b)))) from rfl) rfl
    · rw [if_neg c238] at h
      by_cases c239 : x0 = 9
      · rw [if_pos c239] at h
        refine am_r_sw (show am_stepn X T_Reader_numbersOf 2 true (0, [(0, am_iv x0)], [], am_SH, (J, K, am_RF b)) = some ((decide (am_i32 x0) && true), .inl (am_sw 7 13 [51, 44, 44, 46, 51, 46, 48, 48] x0, [(0, am_iv x0)], [], am_SH, (J, K, am_RF b))) from rfl) (am_g1 g236 rfl) (p := 46) (by rw [c239]; rfl) ?_
        obtain rfl := Option.some.inj h
        exact am_r_ret (show am_stepn X T_Reader_numbersOf 2 true (46, [(0, am_iv x0)], [], am_SH, (J, K, am_RF b)) = some (true, .inr (.inr (some (am_iv 2), am_SH, (J, K, am_RF b)))) from rfl) rfl
      · rw [if_neg c239] at h
        by_cases c240 : x0 = 11
        · rw [if_pos c240] at h
          refine am_r_sw (show am_stepn X T_Reader_numbersOf 2 true (0, [(0, am_iv x0)], [], am_SH, (J, K, am_RF b)) = some ((decide (am_i32 x0) && true), .inl (am_sw 7 13 [51, 44, 44, 46, 51, 46, 48, 48] x0, [(0, am_iv x0)], [], am_SH, (J, K, am_RF b))) from rfl) (am_g1 g236 rfl) (p := 46) (by rw [c240]; rfl) ?_
          obtain rfl := Option.some.inj h
          exact am_r_ret (show am_stepn X T_Reader_numbersOf 2 true (46, [(0, am_iv x0)], [], am_SH, (J, K, am_RF b)) = some (true, .inr (.inr (some (am_iv 2), am_SH, (J, K, am_RF b)))) from rfl) rfl
        · rw [if_neg c240] at h
          by_cases c241 : x0 = 12
          · rw [if_pos c241] at h
            refine am_r_sw (show am_stepn X T_Reader_numbersOf 2 true (0, [(0, am_iv x0)], [], am_SH, (J, K, am_RF b)) = some ((decide (am_i32 x0) && true), .inl (am_sw 7 13 [51, 44, 44, 46, 51, 46, 48, 48] x0, [(0, am_iv x0)], [], am_SH, (J, K, am_RF b))) from rfl) (am_g1 g236 rfl) (p := 48) (by rw [c241]; rfl) ?_
            obtain rfl := Option.some.inj h
            exact am_r_ret (show am_stepn X T_Reader_numbersOf 2 true (48, [(0, am_iv x0)], [], am_SH, (J, K, am_RF b)) = some (true, .inr (.inr (some (am_iv 12), am_SH, (J, K, am_RF b)))) from rfl) rfl
          · rw [if_neg c241] at h
            by_cases c242 : x0 = 13
            · rw [if_pos c242] at h
              refine am_r_sw (show am_stepn X T_Reader_numbersOf 2 true (0, [(0, am_iv x0)], [], am_SH, (J, K, am_RF b)) = some ((decide (am_i32 x0) && true), .inl (am_sw 7 13 [51, 44, 44, 46, 51, 46, 48, 48] x0, [(0, am_iv x0)], [], am_SH, (J, K, am_RF b))) from rfl) (am_g1 g236 rfl) (p := 48) (by rw [c242]; rfl) ?_
              obtain rfl := Option.some.inj h
              exact am_r_ret (show am_stepn X T_Reader_numbersOf 2 true (48, [(0, am_iv x0)], [], am_SH, (J, K, am_RF b)) = some (true, .inr (.inr (some (am_iv 12), am_SH, (J, K, am_RF b)))) from rfl) rfl
            · rw [if_neg c242] at h
              have d243 : am_sw 7 13 [51, 44, 44, 46, 51, 46, 48, 48] x0 = 51 := by
                rcases (show (x0 < 7 ∨ 13 < x0) ∨ x0 = 10 by omega) with z | z
                · exact am_sw_out z
                · rw [z]; rfl
              refine am_r_sw (show am_stepn X T_Reader_numbersOf 2 true (0, [(0, am_iv x0)], [], am_SH, (J, K, am_RF b)) = some ((decide (am_i32 x0) && true), .inl (am_sw 7 13 [51, 44, 44, 46, 51, 46, 48, 48] x0, [(0, am_iv x0)], [], am_SH, (J, K, am_RF b))) from rfl) (am_g1 g236 rfl) (p := 51) d243 ?_
              obtain rfl := Option.some.inj h
              exact am_r_ret (show am_stepn X T_Reader_numbersOf 2 true (51, [(0, am_iv x0)], [], am_SH, (J, K, am_RF b)) = some (true, .inr (.inr (some (am_iv 1), am_SH, (J, K, am_RF b)))) from rfl) rfl
theorem s_Reader_readNumber_L43 {X : am_X} {b : Bool} {K : am_K}  : ∀ (J : am_J) (r : Int × am_J), f_Reader_readNumber_L43    J = some r → am_runs X T_Reader_readNumber (43, [(0, am_pv 1)], [], am_SH, (J, K, am_RF b)) (some (am_iv r.1), am_SH, (r.2, K, am_RF b)) := by
  intro J r h
  unfold f_Reader_readNumber_L43 at h
  obtain ⟨q244, e245, h⟩ := am_bind_some h
  refine am_r_call (show am_stepn X T_Reader_readNumber 5 true (43, [(0, am_pv 1)], [], am_SH, (J, K, am_RF b)) = some (true, .inr (.inl (27, [am_pv 1, am_iv 3, am_iv (J 1 6)], 3, 0, 0, 52, [(0, am_pv 1)], [], am_SH, (J, K, am_RF b)))) from rfl) rfl tb_Reader_fail (s_Reader_fail e245) ?_
  obtain ⟨g246, h⟩ := am_if_some h
  by_cases c247 : q244.1 = 0
  · rw [if_pos c247] at h
    refine am_r_t (show am_stepn X T_Reader_readNumber 1 true (52, [(0, am_pv 1)], [am_iv q244.1], am_SH, (q244.2, K, am_RF b)) = some ((decide (am_i32 q244.1) && true), .inl (bif am_cb .eq q244.1 0 then 59 else 55, [(0, am_pv 1)], [], am_SH, (q244.2, K, am_RF b))) from rfl) (am_g1 g246 rfl) (decide_eq_true c247) ?_
    obtain rfl := Option.some.inj h
    exact am_r_ret (show am_stepn X T_Reader_readNumber 2 true (59, [(0, am_pv 1)], [], am_SH, (q244.2, K, am_RF b)) = some ((decide ((0 : Int) = 0 ∨ (0 : Int) = 1) && true), .inr (.inr (some (am_iv 0), am_SH, (q244.2, K, am_RF b)))) from rfl) (am_g1 (by decide) rfl)
  · rw [if_neg c247] at h
    refine am_r_f (show am_stepn X T_Reader_readNumber 1 true (52, [(0, am_pv 1)], [am_iv q244.1], am_SH, (q244.2, K, am_RF b)) = some ((decide (am_i32 q244.1) && true), .inl (bif am_cb .eq q244.1 0 then 59 else 55, [(0, am_pv 1)], [], am_SH, (q244.2, K, am_RF b))) from rfl) (am_g1 g246 rfl) (decide_eq_false c247) ?_
    obtain rfl := Option.some.inj h
    exact am_r_ret (show am_stepn X T_Reader_readNumber 3 true (55, [(0, am_pv 1)], [], am_SH, (q244.2, K, am_RF b)) = some ((decide ((1 : Int) = 0 ∨ (1 : Int) = 1) && true), .inr (.inr (some (am_iv 1), am_SH, (q244.2, K, am_RF b)))) from rfl) (am_g1 (by decide) rfl)
theorem s_Reader_readNumber {X : am_X} {b : Bool} {K : am_K} {x1 : Int} {x2 : Int} {J : am_J} {r : Int × am_J} (h : f_Reader_readNumber  x1 x2 J = some r) : am_runs X T_Reader_readNumber (0, [(0, am_pv 1), (1, am_iv x1), (2, am_iv x2)], [], am_SH, (J, K, am_RF b)) (some (am_iv r.1), am_SH, (r.2, K, am_RF b)) := by
  unfold f_Reader_readNumber at h
  obtain ⟨q248, e249, h⟩ := am_bind_some h
  refine am_r_call (show am_stepn X T_Reader_readNumber 2 true (0, [(0, am_pv 1), (1, am_iv x1), (2, am_iv x2)], [], am_SH, (J, K, am_RF b)) = some (true, .inr (.inl (21, [am_pv 1], 2, 0, 0, 4, [(0, am_pv 1), (1, am_iv x1), (2, am_iv x2)], [], am_SH, (J, K, am_RF b)))) from rfl) rfl tb_Reader_nextToken (s_Reader_nextToken e249) ?_
  obtain ⟨g250, h⟩ := am_if_some h
  by_cases c251 : q248.1 = 0
  · rw [if_pos c251] at h
    refine am_r_f (show am_stepn X T_Reader_readNumber 1 true (4, [(0, am_pv 1), (1, am_iv x1), (2, am_iv x2)], [am_iv q248.1], am_SH, (q248.2, K, am_RF b)) = some ((decide (am_i32 q248.1) && true), .inl (bif am_cb .ne q248.1 0 then 9 else 7, [(0, am_pv 1), (1, am_iv x1), (2, am_iv x2)], [], am_SH, (q248.2, K, am_RF b))) from rfl) (am_g1 g250 rfl) (am_nd_t c251) ?_
    obtain rfl := Option.some.inj h
    exact am_r_ret (show am_stepn X T_Reader_readNumber 2 true (7, [(0, am_pv 1), (1, am_iv x1), (2, am_iv x2)], [], am_SH, (q248.2, K, am_RF b)) = some ((decide ((0 : Int) = 0 ∨ (0 : Int) = 1) && true), .inr (.inr (some (am_iv 0), am_SH, (q248.2, K, am_RF b)))) from rfl) (am_g1 (by decide) rfl)
  · rw [if_neg c251] at h
    refine am_r_t (show am_stepn X T_Reader_readNumber 1 true (4, [(0, am_pv 1), (1, am_iv x1), (2, am_iv x2)], [am_iv q248.1], am_SH, (q248.2, K, am_RF b)) = some ((decide (am_i32 q248.1) && true), .inl (bif am_cb .ne q248.1 0 then 9 else 7, [(0, am_pv 1), (1, am_iv x1), (2, am_iv x2)], [], am_SH, (q248.2, K, am_RF b))) from rfl) (am_g1 g250 rfl) (am_nd_f c251) ?_
    obtain ⟨g252, h⟩ := am_if_some h
    by_cases c253 : (q248.2 1 5) = 2
    · rw [if_pos c253] at h
      refine am_r_t (show am_stepn X T_Reader_readNumber 4 true (9, [(0, am_pv 1), (1, am_iv x1), (2, am_iv x2)], [], am_SH, (q248.2, K, am_RF b)) = some (((decide (am_i32 2) && decide (am_i32 (q248.2 1 5))) && true), .inl (bif am_cb .eq (q248.2 1 5) 2 then 27 else 17, [(0, am_pv 1), (1, am_iv x1), (2, am_iv x2)], [], am_SH, (q248.2, K, am_RF b))) from rfl) (am_g2 (by decide) g252 rfl) (decide_eq_true c253) ?_
      obtain ⟨g254, h⟩ := am_if_some h
      obtain ⟨g255, h⟩ := am_if_some h
      by_cases c256 : (q248.2 1 7) < x1
      · rw [if_pos c256] at h
        refine am_r_t (show am_stepn X T_Reader_readNumber 4 true (27, [(0, am_pv 1), (1, am_iv x1), (2, am_iv x2)], [], am_SH, (q248.2, K, am_RF b)) = some (((decide (am_i32 x1) && decide (am_i32 (q248.2 1 7))) && true), .inl (bif am_cb .lt (q248.2 1 7) x1 then 43 else 35, [(0, am_pv 1), (1, am_iv x1), (2, am_iv x2)], [], am_SH, (q248.2, K, am_RF b))) from rfl) (am_g2 g254 g255 rfl) (decide_eq_true c256) ?_
        refine am_r_eq (σ' := (43, [(0, am_pv 1)], [], am_SH, (q248.2, K, am_RF b))) rfl ?_
        exact s_Reader_readNumber_L43  _ _ h
      · rw [if_neg c256] at h
        refine am_r_f (show am_stepn X T_Reader_readNumber 4 true (27, [(0, am_pv 1), (1, am_iv x1), (2, am_iv x2)], [], am_SH, (q248.2, K, am_RF b)) = some (((decide (am_i32 x1) && decide (am_i32 (q248.2 1 7))) && true), .inl (bif am_cb .lt (q248.2 1 7) x1 then 43 else 35, [(0, am_pv 1), (1, am_iv x1), (2, am_iv x2)], [], am_SH, (q248.2, K, am_RF b))) from rfl) (am_g2 g254 g255 rfl) (decide_eq_false c256) ?_
        obtain ⟨g257, h⟩ := am_if_some h
        by_cases c258 : x2 < (q248.2 1 7)
        · rw [if_pos c258] at h
          refine am_r_f (show am_stepn X T_Reader_readNumber 4 true (35, [(0, am_pv 1), (1, am_iv x1), (2, am_iv x2)], [], am_SH, (q248.2, K, am_RF b)) = some (((decide (am_i32 x2) && decide (am_i32 (q248.2 1 7))) && true), .inl (bif am_cb .le (q248.2 1 7) x2 then 55 else 43, [(0, am_pv 1), (2, am_iv x2)], [], am_SH, (q248.2, K, am_RF b))) from rfl) (am_g2 g257 g255 rfl) (am_nd_t c258) ?_
          refine am_r_eq (σ' := (43, [(0, am_pv 1)], [], am_SH, (q248.2, K, am_RF b))) rfl ?_
          exact s_Reader_readNumber_L43  _ _ h
        · rw [if_neg c258] at h
          refine am_r_t (show am_stepn X T_Reader_readNumber 4 true (35, [(0, am_pv 1), (1, am_iv x1), (2, am_iv x2)], [], am_SH, (q248.2, K, am_RF b)) = some (((decide (am_i32 x2) && decide (am_i32 (q248.2 1 7))) && true), .inl (bif am_cb .le (q248.2 1 7) x2 then 55 else 43, [(0, am_pv 1), (2, am_iv x2)], [], am_SH, (q248.2, K, am_RF b))) from rfl) (am_g2 g257 g255 rfl) (am_nd_f c258) ?_
          obtain rfl := Option.some.inj h
          exact am_r_ret (show am_stepn X T_Reader_readNumber 3 true (55, [(0, am_pv 1), (2, am_iv x2)], [], am_SH, (q248.2, K, am_RF b)) = some ((decide ((1 : Int) = 0 ∨ (1 : Int) = 1) && true), .inr (.inr (some (am_iv 1), am_SH, (q248.2, K, am_RF b)))) from rfl) (am_g1 (by decide) rfl)
    · rw [if_neg c253] at h
      refine am_r_f (show am_stepn X T_Reader_readNumber 4 true (9, [(0, am_pv 1), (1, am_iv x1), (2, am_iv x2)], [], am_SH, (q248.2, K, am_RF b)) = some (((decide (am_i32 2) && decide (am_i32 (q248.2 1 5))) && true), .inl (bif am_cb .eq (q248.2 1 5) 2 then 27 else 17, [(0, am_pv 1), (1, am_iv x1), (2, am_iv x2)], [], am_SH, (q248.2, K, am_RF b))) from rfl) (am_g2 (by decide) g252 rfl) (decide_eq_false c253) ?_
      obtain ⟨q259, e260, h⟩ := am_bind_some h
      refine am_r_call (show am_stepn X T_Reader_readNumber 5 true (17, [(0, am_pv 1), (1, am_iv x1), (2, am_iv x2)], [], am_SH, (q248.2, K, am_RF b)) = some (true, .inr (.inl (27, [am_pv 1, am_iv 2, am_iv (q248.2 1 6)], 3, 0, 0, 26, [(0, am_pv 1)], [], am_SH, (q248.2, K, am_RF b)))) from rfl) rfl tb_Reader_fail (s_Reader_fail e260) ?_
      obtain ⟨g261, h⟩ := am_if_some h
      obtain rfl := Option.some.inj h
      exact am_r_ret (show am_stepn X T_Reader_readNumber 1 true (26, [(0, am_pv 1)], [am_iv q259.1], am_SH, (q259.2, K, am_RF b)) = some ((decide ((q259.1 : Int) = 0 ∨ (q259.1 : Int) = 1) && true), .inr (.inr (some (am_iv q259.1), am_SH, (q259.2, K, am_RF b)))) from rfl) (am_g1 g261 rfl)
theorem s_Reader_tellPhases_L2_f {X : am_X} {K : am_K}  : ∀ (n : Nat) (x1 : Int) (x2 : Int) (J : am_J) (r : am_J), f_Reader_tellPhases_L2 false  n x1 x2 J = some r → am_runs X T_Reader_tellPhases (2, [(0, am_pv 1), (1, am_iv x1), (2, am_iv x2)], [], am_SH, (J, K, am_RF false)) (none, am_SH, (r, K, am_RF false)) := by
  intro n
  induction n with
  | zero =>
    intro x1 x2 J r h
    cases h
  | succ n ih =>
    intro x1 x2 J r h
    rw [f_Reader_tellPhases_L2.eq_2] at h
    obtain ⟨g262, h⟩ := am_if_some h
    by_cases c263 : x2 < 12
    · rw [if_pos c263] at h
      refine am_r_f (show am_stepn X T_Reader_tellPhases 3 true (2, [(0, am_pv 1), (1, am_iv x1), (2, am_iv x2)], [], am_SH, (J, K, am_RF false)) = some (((decide (am_i32 12) && decide (am_i32 x2)) && true), .inl (bif am_cb .ge x2 12 then 56 else 8, [(0, am_pv 1), (1, am_iv x1), (2, am_iv x2)], [], am_SH, (J, K, am_RF false))) from rfl) (am_g2 (by decide) g262 rfl) (am_nd_t c263) ?_
      obtain ⟨g264, h⟩ := am_if_some h
      by_cases c265 : x1 = 12
      · rw [if_pos c265] at h
        refine am_r_f (show am_stepn X T_Reader_tellPhases 3 true (8, [(0, am_pv 1), (1, am_iv x1), (2, am_iv x2)], [], am_SH, (J, K, am_RF false)) = some (((decide (am_i32 12) && decide (am_i32 x1)) && true), .inl (bif am_cb .ne x1 12 then 35 else 14, [(0, am_pv 1), (1, am_iv x1), (2, am_iv x2)], [], am_SH, (J, K, am_RF false))) from rfl) (am_g2 (by decide) g264 rfl) (am_nd_t c265) ?_
        obtain ⟨g266, h⟩ := am_if_some h
        refine am_r_go (show am_stepn X T_Reader_tellPhases 14 true (14, [(0, am_pv 1), (1, am_iv x1), (2, am_iv x2)], [], am_SH, (J, K, am_RF false)) = some ((am_in x2 12 && (am_in x2 12 && true)), .inl (2, [(0, am_pv 1), (1, am_iv x1), (2, am_iv (x2 + 1))], [], am_SH, ((am_up J (am_dr false + 2) x2.toNat ((J 5 x2.toNat) - 9)), K, am_RF false))) from rfl) (am_gi g266 (am_gi g266 rfl)) ?_
        exact ih _ _ _ _ h
      · rw [if_neg c265] at h
        refine am_r_t (show am_stepn X T_Reader_tellPhases 3 true (8, [(0, am_pv 1), (1, am_iv x1), (2, am_iv x2)], [], am_SH, (J, K, am_RF false)) = some (((decide (am_i32 12) && decide (am_i32 x1)) && true), .inl (bif am_cb .ne x1 12 then 35 else 14, [(0, am_pv 1), (1, am_iv x1), (2, am_iv x2)], [], am_SH, (J, K, am_RF false))) from rfl) (am_g2 (by decide) g264 rfl) (am_nd_f c265) ?_
        obtain ⟨g267, h⟩ := am_if_some h
        refine am_r_go (show am_stepn X T_Reader_tellPhases 11 true (35, [(0, am_pv 1), (1, am_iv x1), (2, am_iv x2)], [], am_SH, (J, K, am_RF false)) = some ((am_in x2 12 && (am_in x2 12 && true)), .inl (2, [(0, am_pv 1), (1, am_iv x1), (2, am_iv (x2 + 1))], [], am_SH, ((am_up J (am_dr false + 3) x2.toNat (J 5 x2.toNat)), K, am_RF false))) from rfl) (am_gi g267 (am_gi g267 rfl)) ?_
        exact ih _ _ _ _ h
    · rw [if_neg c263] at h
      refine am_r_t (show am_stepn X T_Reader_tellPhases 3 true (2, [(0, am_pv 1), (1, am_iv x1), (2, am_iv x2)], [], am_SH, (J, K, am_RF false)) = some (((decide (am_i32 12) && decide (am_i32 x2)) && true), .inl (bif am_cb .ge x2 12 then 56 else 8, [(0, am_pv 1), (1, am_iv x1), (2, am_iv x2)], [], am_SH, (J, K, am_RF false))) from rfl) (am_g2 (by decide) g262 rfl) (am_nd_f c263) ?_
      obtain rfl := Option.some.inj h
      exact am_r_ret (show am_stepn X T_Reader_tellPhases 1 true (56, [(0, am_pv 1), (1, am_iv x1), (2, am_iv x2)], [], am_SH, (J, K, am_RF false)) = some (true, .inr (.inr (none, am_SH, (J, K, am_RF false)))) from rfl) rfl
theorem s_Reader_tellPhases_f {X : am_X} {K : am_K} {x1 : Int} {J : am_J} {r : am_J} (h : f_Reader_tellPhases false x1 J = some r) : am_runs X T_Reader_tellPhases (0, [(0, am_pv 1), (1, am_iv x1)], [], am_SH, (J, K, am_RF false)) (none, am_SH, (r, K, am_RF false)) := by
  unfold f_Reader_tellPhases at h
  refine am_r_go (show am_stepn X T_Reader_tellPhases 2 true (0, [(0, am_pv 1), (1, am_iv x1)], [], am_SH, (J, K, am_RF false)) = some (true, .inl (2, [(0, am_pv 1), (1, am_iv x1), (2, am_iv 0)], [], am_SH, (J, K, am_RF false))) from rfl) rfl ?_
  exact s_Reader_tellPhases_L2_f  _ _ _ _ _ h
theorem s_Reader_tellPhases_L2_t {X : am_X} {K : am_K}  : ∀ (n : Nat) (x1 : Int) (x2 : Int) (J : am_J) (r : am_J), f_Reader_tellPhases_L2 true  n x1 x2 J = some r → am_runs X T_Reader_tellPhases (2, [(0, am_pv 1), (1, am_iv x1), (2, am_iv x2)], [], am_SH, (J, K, am_RF true)) (none, am_SH, (r, K, am_RF true)) := by
  intro n
  induction n with
  | zero =>
    intro x1 x2 J r h
    cases h
  | succ n ih =>
    intro x1 x2 J r h
    rw [f_Reader_tellPhases_L2.eq_2] at h
    obtain ⟨g262, h⟩ := am_if_some h
    by_cases c263 : x2 < 12
    · rw [if_pos c263] at h
      refine am_r_f (show am_stepn X T_Reader_tellPhases 3 true (2, [(0, am_pv 1), (1, am_iv x1), (2, am_iv x2)], [], am_SH, (J, K, am_RF true)) = some (((decide (am_i32 12) && decide (am_i32 x2)) && true), .inl (bif am_cb .ge x2 12 then 56 else 8, [(0, am_pv 1), (1, am_iv x1), (2, am_iv x2)], [], am_SH, (J, K, am_RF true))) from rfl) (am_g2 (by decide) g262 rfl) (am_nd_t c263) ?_
      obtain ⟨g264, h⟩ := am_if_some h
      by_cases c265 : x1 = 12
      · rw [if_pos c265] at h
        refine am_r_f (show am_stepn X T_Reader_tellPhases 3 true (8, [(0, am_pv 1), (1, am_iv x1), (2, am_iv x2)], [], am_SH, (J, K, am_RF true)) = some (((decide (am_i32 12) && decide (am_i32 x1)) && true), .inl (bif am_cb .ne x1 12 then 35 else 14, [(0, am_pv 1), (1, am_iv x1), (2, am_iv x2)], [], am_SH, (J, K, am_RF true))) from rfl) (am_g2 (by decide) g264 rfl) (am_nd_t c265) ?_
        obtain ⟨g266, h⟩ := am_if_some h
        refine am_r_go (show am_stepn X T_Reader_tellPhases 14 true (14, [(0, am_pv 1), (1, am_iv x1), (2, am_iv x2)], [], am_SH, (J, K, am_RF true)) = some ((am_in x2 12 && (am_in x2 12 && true)), .inl (2, [(0, am_pv 1), (1, am_iv x1), (2, am_iv (x2 + 1))], [], am_SH, ((am_up J (am_dr true + 2) x2.toNat ((J 5 x2.toNat) - 9)), K, am_RF true))) from rfl) (am_gi g266 (am_gi g266 rfl)) ?_
        exact ih _ _ _ _ h
      · rw [if_neg c265] at h
        refine am_r_t (show am_stepn X T_Reader_tellPhases 3 true (8, [(0, am_pv 1), (1, am_iv x1), (2, am_iv x2)], [], am_SH, (J, K, am_RF true)) = some (((decide (am_i32 12) && decide (am_i32 x1)) && true), .inl (bif am_cb .ne x1 12 then 35 else 14, [(0, am_pv 1), (1, am_iv x1), (2, am_iv x2)], [], am_SH, (J, K, am_RF true))) from rfl) (am_g2 (by decide) g264 rfl) (am_nd_f c265) ?_
        obtain ⟨g267, h⟩ := am_if_some h
        refine am_r_go (show am_stepn X T_Reader_tellPhases 11 true (35, [(0, am_pv 1), (1, am_iv x1), (2, am_iv x2)], [], am_SH, (J, K, am_RF true)) = some ((am_in x2 12 && (am_in x2 12 && true)), .inl (2, [(0, am_pv 1), (1, am_iv x1), (2, am_iv (x2 + 1))], [], am_SH, ((am_up J (am_dr true + 3) x2.toNat (J 5 x2.toNat)), K, am_RF true))) from rfl) (am_gi g267 (am_gi g267 rfl)) ?_
        exact ih _ _ _ _ h
    · rw [if_neg c263] at h
      refine am_r_t (show am_stepn X T_Reader_tellPhases 3 true (2, [(0, am_pv 1), (1, am_iv x1), (2, am_iv x2)], [], am_SH, (J, K, am_RF true)) = some (((decide (am_i32 12) && decide (am_i32 x2)) && true), .inl (bif am_cb .ge x2 12 then 56 else 8, [(0, am_pv 1), (1, am_iv x1), (2, am_iv x2)], [], am_SH, (J, K, am_RF true))) from rfl) (am_g2 (by decide) g262 rfl) (am_nd_f c263) ?_
      obtain rfl := Option.some.inj h
      exact am_r_ret (show am_stepn X T_Reader_tellPhases 1 true (56, [(0, am_pv 1), (1, am_iv x1), (2, am_iv x2)], [], am_SH, (J, K, am_RF true)) = some (true, .inr (.inr (none, am_SH, (J, K, am_RF true)))) from rfl) rfl
theorem s_Reader_tellPhases_t {X : am_X} {K : am_K} {x1 : Int} {J : am_J} {r : am_J} (h : f_Reader_tellPhases true x1 J = some r) : am_runs X T_Reader_tellPhases (0, [(0, am_pv 1), (1, am_iv x1)], [], am_SH, (J, K, am_RF true)) (none, am_SH, (r, K, am_RF true)) := by
  unfold f_Reader_tellPhases at h
  refine am_r_go (show am_stepn X T_Reader_tellPhases 2 true (0, [(0, am_pv 1), (1, am_iv x1)], [], am_SH, (J, K, am_RF true)) = some (true, .inl (2, [(0, am_pv 1), (1, am_iv x1), (2, am_iv 0)], [], am_SH, (J, K, am_RF true))) from rfl) rfl ?_
  exact s_Reader_tellPhases_L2_t  _ _ _ _ _ h
theorem s_Reader_tellPhases {X : am_X} {b : Bool} {K : am_K} {x1 : Int} {J : am_J} {r : am_J} (h : f_Reader_tellPhases b x1 J = some r) : am_runs X T_Reader_tellPhases (0, [(0, am_pv 1), (1, am_iv x1)], [], am_SH, (J, K, am_RF b)) (none, am_SH, (r, K, am_RF b)) := by
  cases b
  · exact s_Reader_tellPhases_f h
  · exact s_Reader_tellPhases_t h
theorem s_Reader_tellReach_f {X : am_X} {K : am_K} {x1 : Int} {x2 : Int} {J : am_J} {r : am_J} (h : f_Reader_tellReach false x1 x2 J = some r) : am_runs X T_Reader_tellReach (0, [(0, am_pv 1), (1, am_iv x1), (2, am_iv x2)], [], am_SH, (J, K, am_RF false)) (none, am_SH, (r, K, am_RF false)) := by
  unfold f_Reader_tellReach at h
  obtain ⟨g268, h⟩ := am_if_some h
  by_cases c269 : x1 = 7
  · rw [if_pos c269] at h
    refine am_r_sw (show am_stepn X T_Reader_tellReach 2 true (0, [(0, am_pv 1), (1, am_iv x1), (2, am_iv x2)], [], am_SH, (J, K, am_RF false)) = some ((decide (am_i32 x1) && true), .inl (am_sw 7 10 [129, 32, 65, 93, 116] x1, [(0, am_pv 1), (1, am_iv x1), (2, am_iv x2)], [], am_SH, (J, K, am_RF false))) from rfl) (am_g1 g268 rfl) (p := 32) (by rw [c269]; rfl) ?_
    obtain ⟨g270, h⟩ := am_if_some h
    obtain rfl := Option.some.inj h
    exact am_r_ret (show am_stepn X T_Reader_tellReach 20 true (32, [(0, am_pv 1), (1, am_iv x1), (2, am_iv x2)], [], am_SH, (J, K, am_RF false)) = some ((am_in x2 8 && (am_in 2 12 && (am_in x2 8 && (am_in 1 12 && true)))), .inr (.inr (none, am_SH, ((am_up (am_up J (am_dr false + 4) x2.toNat (J 5 1)) (am_dr false + 5) x2.toNat (J 5 2)), K, am_RF false)))) from rfl) (am_gi g270 (am_gi (by decide) (am_gi g270 (am_gi (by decide) rfl))))
  · rw [if_neg c269] at h
    by_cases c271 : x1 = 8
    · rw [if_pos c271] at h
      refine am_r_sw (show am_stepn X T_Reader_tellReach 2 true (0, [(0, am_pv 1), (1, am_iv x1), (2, am_iv x2)], [], am_SH, (J, K, am_RF false)) = some ((decide (am_i32 x1) && true), .inl (am_sw 7 10 [129, 32, 65, 93, 116] x1, [(0, am_pv 1), (1, am_iv x1), (2, am_iv x2)], [], am_SH, (J, K, am_RF false))) from rfl) (am_g1 g268 rfl) (p := 65) (by rw [c271]; rfl) ?_
      obtain ⟨g272, h⟩ := am_if_some h
      obtain rfl := Option.some.inj h
      exact am_r_ret (show am_stepn X T_Reader_tellReach 18 true (65, [(0, am_pv 1), (1, am_iv x1), (2, am_iv x2)], [], am_SH, (J, K, am_RF false)) = some ((am_in ((x2 * 9) + (J 5 1)) 72 && (am_in 2 12 && (am_in 1 12 && true))), .inr (.inr (none, am_SH, ((am_up J (am_dr false + 8) (((x2 * 9) + (J 5 1)).toNat) (J 5 2)), K, am_RF false)))) from rfl) (am_gi g272 (am_gi (by decide) (am_gi (by decide) rfl)))
    · rw [if_neg c271] at h
      by_cases c273 : x1 = 9
      · rw [if_pos c273] at h
        refine am_r_sw (show am_stepn X T_Reader_tellReach 2 true (0, [(0, am_pv 1), (1, am_iv x1), (2, am_iv x2)], [], am_SH, (J, K, am_RF false)) = some ((decide (am_i32 x1) && true), .inl (am_sw 7 10 [129, 32, 65, 93, 116] x1, [(0, am_pv 1), (1, am_iv x1), (2, am_iv x2)], [], am_SH, (J, K, am_RF false))) from rfl) (am_g1 g268 rfl) (p := 93) (by rw [c273]; rfl) ?_
        obtain ⟨g274, h⟩ := am_if_some h
        obtain rfl := Option.some.inj h
        exact am_r_ret (show am_stepn X T_Reader_tellReach 15 true (93, [(0, am_pv 1), (1, am_iv x1), (2, am_iv x2)], [], am_SH, (J, K, am_RF false)) = some (((decide ((1 : Int) = 0 ∨ (1 : Int) = 1) && am_in ((x2 * 9) + (J 5 1)) 72) && (am_in 1 12 && true)), .inr (.inr (none, am_SH, ((am_up J (am_dr false + 9) (((x2 * 9) + (J 5 1)).toNat) 1), K, am_RF false)))) from rfl) (am_gz (by decide) g274 (am_gi (by decide) rfl))
      · rw [if_neg c273] at h
        by_cases c275 : x1 = 10
        · rw [if_pos c275] at h
          refine am_r_sw (show am_stepn X T_Reader_tellReach 2 true (0, [(0, am_pv 1), (1, am_iv x1), (2, am_iv x2)], [], am_SH, (J, K, am_RF false)) = some ((decide (am_i32 x1) && true), .inl (am_sw 7 10 [129, 32, 65, 93, 116] x1, [(0, am_pv 1), (1, am_iv x1), (2, am_iv x2)], [], am_SH, (J, K, am_RF false))) from rfl) (am_g1 g268 rfl) (p := 116) (by rw [c275]; rfl) ?_
          obtain ⟨g276, h⟩ := am_if_some h
          obtain rfl := Option.some.inj h
          exact am_r_ret (show am_stepn X T_Reader_tellReach 8 true (116, [(0, am_pv 1), (1, am_iv x1), (2, am_iv x2)], [], am_SH, (J, K, am_RF false)) = some (((decide ((1 : Int) = 0 ∨ (1 : Int) = 1) && am_in x2 8) && true), .inr (.inr (none, am_SH, ((am_up J (am_dr false + 7) x2.toNat 1), K, am_RF false)))) from rfl) (am_gz (by decide) g276 rfl)
        · rw [if_neg c275] at h
          refine am_r_sw (show am_stepn X T_Reader_tellReach 2 true (0, [(0, am_pv 1), (1, am_iv x1), (2, am_iv x2)], [], am_SH, (J, K, am_RF false)) = some ((decide (am_i32 x1) && true), .inl (am_sw 7 10 [129, 32, 65, 93, 116] x1, [(0, am_pv 1), (1, am_iv x1), (2, am_iv x2)], [], am_SH, (J, K, am_RF false))) from rfl) (am_g1 g268 rfl) (p := 129) (am_sw_out (by omega)) ?_
          obtain ⟨g277, h⟩ := am_if_some h
          obtain rfl := Option.some.inj h
          exact am_r_ret (show am_stepn X T_Reader_tellReach 10 true (129, [(0, am_pv 1), (1, am_iv x1), (2, am_iv x2)], [], am_SH, (J, K, am_RF false)) = some ((am_in x2 8 && (am_in 1 12 && true)), .inr (.inr (none, am_SH, ((am_up J (am_dr false + 6) x2.toNat (J 5 1)), K, am_RF false)))) from rfl) (am_gi g277 (am_gi (by decide) rfl))
theorem s_Reader_tellReach_t {X : am_X} {K : am_K} {x1 : Int} {x2 : Int} {J : am_J} {r : am_J} (h : f_Reader_tellReach true x1 x2 J = some r) : am_runs X T_Reader_tellReach (0, [(0, am_pv 1), (1, am_iv x1), (2, am_iv x2)], [], am_SH, (J, K, am_RF true)) (none, am_SH, (r, K, am_RF true)) := by
  unfold f_Reader_tellReach at h
  obtain ⟨g268, h⟩ := am_if_some h
  by_cases c269 : x1 = 7
  · rw [if_pos c269] at h
    refine am_r_sw (show am_stepn X T_Reader_tellReach 2 true (0, [(0, am_pv 1), (1, am_iv x1), (2, am_iv x2)], [], am_SH, (J, K, am_RF true)) = some ((decide (am_i32 x1) && true), .inl (am_sw 7 10 [129, 32, 65, 93, 116] x1, [(0, am_pv 1), (1, am_iv x1), (2, am_iv x2)], [], am_SH, (J, K, am_RF true))) from rfl) (am_g1 g268 rfl) (p := 32) (by rw [c269]; rfl) ?_
    obtain ⟨g270, h⟩ := am_if_some h
    obtain rfl := Option.some.inj h
    exact am_r_ret (show am_stepn X T_Reader_tellReach 20 true (32, [(0, am_pv 1), (1, am_iv x1), (2, am_iv x2)], [], am_SH, (J, K, am_RF true)) = some ((am_in x2 8 && (am_in 2 12 && (am_in x2 8 && (am_in 1 12 && true)))), .inr (.inr (none, am_SH, ((am_up (am_up J (am_dr true + 4) x2.toNat (J 5 1)) (am_dr true + 5) x2.toNat (J 5 2)), K, am_RF true)))) from rfl) (am_gi g270 (am_gi (by decide) (am_gi g270 (am_gi (by decide) rfl))))
  · rw [if_neg c269] at h
    by_cases c271 : x1 = 8
    · rw [if_pos c271] at h
      refine am_r_sw (show am_stepn X T_Reader_tellReach 2 true (0, [(0, am_pv 1), (1, am_iv x1), (2, am_iv x2)], [], am_SH, (J, K, am_RF true)) = some ((decide (am_i32 x1) && true), .inl (am_sw 7 10 [129, 32, 65, 93, 116] x1, [(0, am_pv 1), (1, am_iv x1), (2, am_iv x2)], [], am_SH, (J, K, am_RF true))) from rfl) (am_g1 g268 rfl) (p := 65) (by rw [c271]; rfl) ?_
      obtain ⟨g272, h⟩ := am_if_some h
      obtain rfl := Option.some.inj h
      exact am_r_ret (show am_stepn X T_Reader_tellReach 18 true (65, [(0, am_pv 1), (1, am_iv x1), (2, am_iv x2)], [], am_SH, (J, K, am_RF true)) = some ((am_in ((x2 * 9) + (J 5 1)) 72 && (am_in 2 12 && (am_in 1 12 && true))), .inr (.inr (none, am_SH, ((am_up J (am_dr true + 8) (((x2 * 9) + (J 5 1)).toNat) (J 5 2)), K, am_RF true)))) from rfl) (am_gi g272 (am_gi (by decide) (am_gi (by decide) rfl)))
    · rw [if_neg c271] at h
      by_cases c273 : x1 = 9
      · rw [if_pos c273] at h
        refine am_r_sw (show am_stepn X T_Reader_tellReach 2 true (0, [(0, am_pv 1), (1, am_iv x1), (2, am_iv x2)], [], am_SH, (J, K, am_RF true)) = some ((decide (am_i32 x1) && true), .inl (am_sw 7 10 [129, 32, 65, 93, 116] x1, [(0, am_pv 1), (1, am_iv x1), (2, am_iv x2)], [], am_SH, (J, K, am_RF true))) from rfl) (am_g1 g268 rfl) (p := 93) (by rw [c273]; rfl) ?_
        obtain ⟨g274, h⟩ := am_if_some h
        obtain rfl := Option.some.inj h
        exact am_r_ret (show am_stepn X T_Reader_tellReach 15 true (93, [(0, am_pv 1), (1, am_iv x1), (2, am_iv x2)], [], am_SH, (J, K, am_RF true)) = some (((decide ((1 : Int) = 0 ∨ (1 : Int) = 1) && am_in ((x2 * 9) + (J 5 1)) 72) && (am_in 1 12 && true)), .inr (.inr (none, am_SH, ((am_up J (am_dr true + 9) (((x2 * 9) + (J 5 1)).toNat) 1), K, am_RF true)))) from rfl) (am_gz (by decide) g274 (am_gi (by decide) rfl))
      · rw [if_neg c273] at h
        by_cases c275 : x1 = 10
        · rw [if_pos c275] at h
          refine am_r_sw (show am_stepn X T_Reader_tellReach 2 true (0, [(0, am_pv 1), (1, am_iv x1), (2, am_iv x2)], [], am_SH, (J, K, am_RF true)) = some ((decide (am_i32 x1) && true), .inl (am_sw 7 10 [129, 32, 65, 93, 116] x1, [(0, am_pv 1), (1, am_iv x1), (2, am_iv x2)], [], am_SH, (J, K, am_RF true))) from rfl) (am_g1 g268 rfl) (p := 116) (by rw [c275]; rfl) ?_
          obtain ⟨g276, h⟩ := am_if_some h
          obtain rfl := Option.some.inj h
          exact am_r_ret (show am_stepn X T_Reader_tellReach 8 true (116, [(0, am_pv 1), (1, am_iv x1), (2, am_iv x2)], [], am_SH, (J, K, am_RF true)) = some (((decide ((1 : Int) = 0 ∨ (1 : Int) = 1) && am_in x2 8) && true), .inr (.inr (none, am_SH, ((am_up J (am_dr true + 7) x2.toNat 1), K, am_RF true)))) from rfl) (am_gz (by decide) g276 rfl)
        · rw [if_neg c275] at h
          refine am_r_sw (show am_stepn X T_Reader_tellReach 2 true (0, [(0, am_pv 1), (1, am_iv x1), (2, am_iv x2)], [], am_SH, (J, K, am_RF true)) = some ((decide (am_i32 x1) && true), .inl (am_sw 7 10 [129, 32, 65, 93, 116] x1, [(0, am_pv 1), (1, am_iv x1), (2, am_iv x2)], [], am_SH, (J, K, am_RF true))) from rfl) (am_g1 g268 rfl) (p := 129) (am_sw_out (by omega)) ?_
          obtain ⟨g277, h⟩ := am_if_some h
          obtain rfl := Option.some.inj h
          exact am_r_ret (show am_stepn X T_Reader_tellReach 10 true (129, [(0, am_pv 1), (1, am_iv x1), (2, am_iv x2)], [], am_SH, (J, K, am_RF true)) = some ((am_in x2 8 && (am_in 1 12 && true)), .inr (.inr (none, am_SH, ((am_up J (am_dr true + 6) x2.toNat (J 5 1)), K, am_RF true)))) from rfl) (am_gi g277 (am_gi (by decide) rfl))
theorem s_Reader_tellReach {X : am_X} {b : Bool} {K : am_K} {x1 : Int} {x2 : Int} {J : am_J} {r : am_J} (h : f_Reader_tellReach b x1 x2 J = some r) : am_runs X T_Reader_tellReach (0, [(0, am_pv 1), (1, am_iv x1), (2, am_iv x2)], [], am_SH, (J, K, am_RF b)) (none, am_SH, (r, K, am_RF b)) := by
  cases b
  · exact s_Reader_tellReach_f h
  · exact s_Reader_tellReach_t h
theorem s_JMath_max {X : am_X} {b : Bool} {J : am_J} {K : am_K} {x0 : Int} {x1 : Int} {r : Int} (h : f_JMath_max  x0 x1 = some r) : am_runs X T_JMath_max (0, [(0, am_iv x0), (1, am_iv x1)], [], am_SH, (J, K, am_RF b)) (some (am_iv r), am_SH, (J, K, am_RF b)) := by
  unfold f_JMath_max at h
  obtain ⟨g278, h⟩ := am_if_some h
  obtain ⟨g279, h⟩ := am_if_some h
  by_cases c280 : x0 < x1
  · rw [if_pos c280] at h
    refine am_r_t (show am_stepn X T_JMath_max 3 true (0, [(0, am_iv x0), (1, am_iv x1)], [], am_SH, (J, K, am_RF b)) = some (((decide (am_i32 x1) && decide (am_i32 x0)) && true), .inl (bif am_cb .lt x0 x1 then 9 else 5, [(0, am_iv x0), (1, am_iv x1)], [], am_SH, (J, K, am_RF b))) from rfl) (am_g2 g278 g279 rfl) (decide_eq_true c280) ?_
    obtain rfl := Option.some.inj h
    exact am_r_ret (show am_stepn X T_JMath_max 2 true (9, [(0, am_iv x0), (1, am_iv x1)], [], am_SH, (J, K, am_RF b)) = some (true, .inr (.inr (some (am_iv x1), am_SH, (J, K, am_RF b)))) from rfl) rfl
  · rw [if_neg c280] at h
    refine am_r_f (show am_stepn X T_JMath_max 3 true (0, [(0, am_iv x0), (1, am_iv x1)], [], am_SH, (J, K, am_RF b)) = some (((decide (am_i32 x1) && decide (am_i32 x0)) && true), .inl (bif am_cb .lt x0 x1 then 9 else 5, [(0, am_iv x0), (1, am_iv x1)], [], am_SH, (J, K, am_RF b))) from rfl) (am_g2 g278 g279 rfl) (decide_eq_false c280) ?_
    obtain rfl := Option.some.inj h
    exact am_r_ret (show am_stepn X T_JMath_max 3 true (5, [(0, am_iv x0), (1, am_iv x1)], [], am_SH, (J, K, am_RF b)) = some (true, .inr (.inr (some (am_iv x0), am_SH, (J, K, am_RF b)))) from rfl) rfl
theorem s_Reader_tell_L36_f {X : am_X} {K : am_K}  : ∀ (x1 : Int) (J : am_J) (r : am_J), f_Reader_tell_L36 false   x1 J = some r → am_runs X T_Reader_tell (36, [(0, am_pv 1), (1, am_iv x1)], [], am_SH, (J, K, am_RF false)) (none, am_SH, (r, K, am_RF false)) := by
  intro x1 J r h
  unfold f_Reader_tell_L36 at h
  obtain ⟨q281, e282, h⟩ := am_bind_some h
  refine am_r_call (show am_stepn X T_Reader_tell 3 true (36, [(0, am_pv 1), (1, am_iv x1)], [], am_SH, (J, K, am_RF false)) = some (true, .inr (.inl (46, [am_pv 1, am_iv x1], 3, 0, 0, 41, [(0, am_pv 1), (1, am_iv x1)], [], am_SH, (J, K, am_RF false)))) from rfl) rfl tb_Reader_tellPhases (s_Reader_tellPhases e282) ?_
  obtain rfl := Option.some.inj h
  exact am_r_ret (show am_stepn X T_Reader_tell 2 true (41, [(0, am_pv 1), (1, am_iv x1)], [], am_SH, (q281, K, am_RF false)) = some (true, .inr (.inr (none, am_SH, (q281, K, am_RF false)))) from rfl) rfl
theorem s_Reader_tell_f {X : am_X} {K : am_K} {x1 : Int} {J : am_J} {r : am_J} (h : f_Reader_tell false x1 J = some r) : am_runs X T_Reader_tell (0, [(0, am_pv 1), (1, am_iv x1)], [], am_SH, (J, K, am_RF false)) (none, am_SH, (r, K, am_RF false)) := by
  unfold f_Reader_tell at h
  obtain ⟨g283, h⟩ := am_if_some h
  by_cases c284 : x1 < 7
  · rw [if_pos c284] at h
    refine am_r_f (show am_stepn X T_Reader_tell 3 true (0, [(0, am_pv 1), (1, am_iv x1)], [], am_SH, (J, K, am_RF false)) = some (((decide (am_i32 7) && decide (am_i32 x1)) && true), .inl (bif am_cb .ge x1 7 then 24 else 6, [(0, am_pv 1), (1, am_iv x1)], [], am_SH, (J, K, am_RF false))) from rfl) (am_g2 (by decide) g283 rfl) (am_nd_t c284) ?_
    obtain ⟨g285, h⟩ := am_if_some h
    obtain rfl := Option.some.inj h
    exact am_r_ret (show am_stepn X T_Reader_tell 11 true (6, [(0, am_pv 1), (1, am_iv x1)], [], am_SH, (J, K, am_RF false)) = some ((am_in x1 7 && (am_in 0 12 && true)), .inr (.inr (none, am_SH, ((am_up J (am_dr false + 1) x1.toNat (J 5 0)), K, am_RF false)))) from rfl) (am_gi g285 (am_gi (by decide) rfl))
  · rw [if_neg c284] at h
    refine am_r_t (show am_stepn X T_Reader_tell 3 true (0, [(0, am_pv 1), (1, am_iv x1)], [], am_SH, (J, K, am_RF false)) = some (((decide (am_i32 7) && decide (am_i32 x1)) && true), .inl (bif am_cb .ge x1 7 then 24 else 6, [(0, am_pv 1), (1, am_iv x1)], [], am_SH, (J, K, am_RF false))) from rfl) (am_g2 (by decide) g283 rfl) (am_nd_f c284) ?_
    by_cases c286 : x1 = 12
    · rw [if_pos c286] at h
      refine am_r_t (show am_stepn X T_Reader_tell 3 true (24, [(0, am_pv 1), (1, am_iv x1)], [], am_SH, (J, K, am_RF false)) = some (((decide (am_i32 12) && decide (am_i32 x1)) && true), .inl (bif am_cb .eq x1 12 then 36 else 30, [(0, am_pv 1), (1, am_iv x1)], [], am_SH, (J, K, am_RF false))) from rfl) (am_g2 (by decide) g283 rfl) (decide_eq_true c286) ?_
      exact s_Reader_tell_L36_f  _ _ _ h
    · rw [if_neg c286] at h
      refine am_r_f (show am_stepn X T_Reader_tell 3 true (24, [(0, am_pv 1), (1, am_iv x1)], [], am_SH, (J, K, am_RF false)) = some (((decide (am_i32 12) && decide (am_i32 x1)) && true), .inl (bif am_cb .eq x1 12 then 36 else 30, [(0, am_pv 1), (1, am_iv x1)], [], am_SH, (J, K, am_RF false))) from rfl) (am_g2 (by decide) g283 rfl) (decide_eq_false c286) ?_
      by_cases c287 : x1 = 13
      · rw [if_pos c287] at h
        refine am_r_f (show am_stepn X T_Reader_tell 3 true (30, [(0, am_pv 1), (1, am_iv x1)], [], am_SH, (J, K, am_RF false)) = some (((decide (am_i32 13) && decide (am_i32 x1)) && true), .inl (bif am_cb .ne x1 13 then 44 else 36, [(0, am_pv 1), (1, am_iv x1)], [], am_SH, (J, K, am_RF false))) from rfl) (am_g2 (by decide) g283 rfl) (am_nd_t c287) ?_
        exact s_Reader_tell_L36_f  _ _ _ h
      · rw [if_neg c287] at h
        refine am_r_t (show am_stepn X T_Reader_tell 3 true (30, [(0, am_pv 1), (1, am_iv x1)], [], am_SH, (J, K, am_RF false)) = some (((decide (am_i32 13) && decide (am_i32 x1)) && true), .inl (bif am_cb .ne x1 13 then 44 else 36, [(0, am_pv 1), (1, am_iv x1)], [], am_SH, (J, K, am_RF false))) from rfl) (am_g2 (by decide) g283 rfl) (am_nd_f c287) ?_
        obtain ⟨q288, e289, h⟩ := am_bind_some h
        refine am_r_call (show am_stepn X T_Reader_tell 7 true (44, [(0, am_pv 1), (1, am_iv x1)], [], am_SH, (J, K, am_RF false)) = some ((am_in 0 12 && true), .inr (.inl (47, [am_pv 1, am_iv x1, am_iv (J 5 0)], 3, 0, 0, 55, [(0, am_pv 1), (1, am_iv x1)], [], am_SH, (J, K, am_RF false)))) from rfl) (am_gi (by decide) rfl) tb_Reader_tellReach (s_Reader_tellReach e289) ?_
        obtain ⟨q290, e291, h⟩ := am_bind_some h
        refine am_r_call (show am_stepn X T_Reader_tell 8 true (55, [(0, am_pv 1), (1, am_iv x1)], [], am_SH, (q288, K, am_RF false)) = some ((am_in 0 12 && true), .inr (.inl (48, [am_iv (q288 1 9), am_iv (q288 5 0)], 2, 0, 0, 69, [(0, am_pv 1), (1, am_iv x1)], [am_pv 1], am_SH, (q288, K, am_RF false)))) from rfl) (am_gi (by decide) rfl) tb_JMath_max (s_JMath_max e291) ?_
        obtain rfl := Option.some.inj h
        exact am_r_ret (show am_stepn X T_Reader_tell 2 true (69, [(0, am_pv 1), (1, am_iv x1)], [am_iv q290, am_pv 1], am_SH, (q288, K, am_RF false)) = some (true, .inr (.inr (none, am_SH, ((am_up q288 1 9 q290), K, am_RF false)))) from rfl) rfl
theorem s_Reader_tell_L36_t {X : am_X} {K : am_K}  : ∀ (x1 : Int) (J : am_J) (r : am_J), f_Reader_tell_L36 true   x1 J = some r → am_runs X T_Reader_tell (36, [(0, am_pv 1), (1, am_iv x1)], [], am_SH, (J, K, am_RF true)) (none, am_SH, (r, K, am_RF true)) := by
  intro x1 J r h
  unfold f_Reader_tell_L36 at h
  obtain ⟨q281, e282, h⟩ := am_bind_some h
  refine am_r_call (show am_stepn X T_Reader_tell 3 true (36, [(0, am_pv 1), (1, am_iv x1)], [], am_SH, (J, K, am_RF true)) = some (true, .inr (.inl (46, [am_pv 1, am_iv x1], 3, 0, 0, 41, [(0, am_pv 1), (1, am_iv x1)], [], am_SH, (J, K, am_RF true)))) from rfl) rfl tb_Reader_tellPhases (s_Reader_tellPhases e282) ?_
  obtain rfl := Option.some.inj h
  exact am_r_ret (show am_stepn X T_Reader_tell 2 true (41, [(0, am_pv 1), (1, am_iv x1)], [], am_SH, (q281, K, am_RF true)) = some (true, .inr (.inr (none, am_SH, (q281, K, am_RF true)))) from rfl) rfl
theorem s_Reader_tell_t {X : am_X} {K : am_K} {x1 : Int} {J : am_J} {r : am_J} (h : f_Reader_tell true x1 J = some r) : am_runs X T_Reader_tell (0, [(0, am_pv 1), (1, am_iv x1)], [], am_SH, (J, K, am_RF true)) (none, am_SH, (r, K, am_RF true)) := by
  unfold f_Reader_tell at h
  obtain ⟨g283, h⟩ := am_if_some h
  by_cases c284 : x1 < 7
  · rw [if_pos c284] at h
    refine am_r_f (show am_stepn X T_Reader_tell 3 true (0, [(0, am_pv 1), (1, am_iv x1)], [], am_SH, (J, K, am_RF true)) = some (((decide (am_i32 7) && decide (am_i32 x1)) && true), .inl (bif am_cb .ge x1 7 then 24 else 6, [(0, am_pv 1), (1, am_iv x1)], [], am_SH, (J, K, am_RF true))) from rfl) (am_g2 (by decide) g283 rfl) (am_nd_t c284) ?_
    obtain ⟨g285, h⟩ := am_if_some h
    obtain rfl := Option.some.inj h
    exact am_r_ret (show am_stepn X T_Reader_tell 11 true (6, [(0, am_pv 1), (1, am_iv x1)], [], am_SH, (J, K, am_RF true)) = some ((am_in x1 7 && (am_in 0 12 && true)), .inr (.inr (none, am_SH, ((am_up J (am_dr true + 1) x1.toNat (J 5 0)), K, am_RF true)))) from rfl) (am_gi g285 (am_gi (by decide) rfl))
  · rw [if_neg c284] at h
    refine am_r_t (show am_stepn X T_Reader_tell 3 true (0, [(0, am_pv 1), (1, am_iv x1)], [], am_SH, (J, K, am_RF true)) = some (((decide (am_i32 7) && decide (am_i32 x1)) && true), .inl (bif am_cb .ge x1 7 then 24 else 6, [(0, am_pv 1), (1, am_iv x1)], [], am_SH, (J, K, am_RF true))) from rfl) (am_g2 (by decide) g283 rfl) (am_nd_f c284) ?_
    by_cases c286 : x1 = 12
    · rw [if_pos c286] at h
      refine am_r_t (show am_stepn X T_Reader_tell 3 true (24, [(0, am_pv 1), (1, am_iv x1)], [], am_SH, (J, K, am_RF true)) = some (((decide (am_i32 12) && decide (am_i32 x1)) && true), .inl (bif am_cb .eq x1 12 then 36 else 30, [(0, am_pv 1), (1, am_iv x1)], [], am_SH, (J, K, am_RF true))) from rfl) (am_g2 (by decide) g283 rfl) (decide_eq_true c286) ?_
      exact s_Reader_tell_L36_t  _ _ _ h
    · rw [if_neg c286] at h
      refine am_r_f (show am_stepn X T_Reader_tell 3 true (24, [(0, am_pv 1), (1, am_iv x1)], [], am_SH, (J, K, am_RF true)) = some (((decide (am_i32 12) && decide (am_i32 x1)) && true), .inl (bif am_cb .eq x1 12 then 36 else 30, [(0, am_pv 1), (1, am_iv x1)], [], am_SH, (J, K, am_RF true))) from rfl) (am_g2 (by decide) g283 rfl) (decide_eq_false c286) ?_
      by_cases c287 : x1 = 13
      · rw [if_pos c287] at h
        refine am_r_f (show am_stepn X T_Reader_tell 3 true (30, [(0, am_pv 1), (1, am_iv x1)], [], am_SH, (J, K, am_RF true)) = some (((decide (am_i32 13) && decide (am_i32 x1)) && true), .inl (bif am_cb .ne x1 13 then 44 else 36, [(0, am_pv 1), (1, am_iv x1)], [], am_SH, (J, K, am_RF true))) from rfl) (am_g2 (by decide) g283 rfl) (am_nd_t c287) ?_
        exact s_Reader_tell_L36_t  _ _ _ h
      · rw [if_neg c287] at h
        refine am_r_t (show am_stepn X T_Reader_tell 3 true (30, [(0, am_pv 1), (1, am_iv x1)], [], am_SH, (J, K, am_RF true)) = some (((decide (am_i32 13) && decide (am_i32 x1)) && true), .inl (bif am_cb .ne x1 13 then 44 else 36, [(0, am_pv 1), (1, am_iv x1)], [], am_SH, (J, K, am_RF true))) from rfl) (am_g2 (by decide) g283 rfl) (am_nd_f c287) ?_
        obtain ⟨q288, e289, h⟩ := am_bind_some h
        refine am_r_call (show am_stepn X T_Reader_tell 7 true (44, [(0, am_pv 1), (1, am_iv x1)], [], am_SH, (J, K, am_RF true)) = some ((am_in 0 12 && true), .inr (.inl (47, [am_pv 1, am_iv x1, am_iv (J 5 0)], 3, 0, 0, 55, [(0, am_pv 1), (1, am_iv x1)], [], am_SH, (J, K, am_RF true)))) from rfl) (am_gi (by decide) rfl) tb_Reader_tellReach (s_Reader_tellReach e289) ?_
        obtain ⟨q290, e291, h⟩ := am_bind_some h
        refine am_r_call (show am_stepn X T_Reader_tell 8 true (55, [(0, am_pv 1), (1, am_iv x1)], [], am_SH, (q288, K, am_RF true)) = some ((am_in 0 12 && true), .inr (.inl (48, [am_iv (q288 1 9), am_iv (q288 5 0)], 2, 0, 0, 69, [(0, am_pv 1), (1, am_iv x1)], [am_pv 1], am_SH, (q288, K, am_RF true)))) from rfl) (am_gi (by decide) rfl) tb_JMath_max (s_JMath_max e291) ?_
        obtain rfl := Option.some.inj h
        exact am_r_ret (show am_stepn X T_Reader_tell 2 true (69, [(0, am_pv 1), (1, am_iv x1)], [am_iv q290, am_pv 1], am_SH, (q288, K, am_RF true)) = some (true, .inr (.inr (none, am_SH, ((am_up q288 1 9 q290), K, am_RF true)))) from rfl) rfl
theorem s_Reader_tell {X : am_X} {b : Bool} {K : am_K} {x1 : Int} {J : am_J} {r : am_J} (h : f_Reader_tell b x1 J = some r) : am_runs X T_Reader_tell (0, [(0, am_pv 1), (1, am_iv x1)], [], am_SH, (J, K, am_RF b)) (none, am_SH, (r, K, am_RF b)) := by
  cases b
  · exact s_Reader_tell_f h
  · exact s_Reader_tell_t h
theorem s_Reader_readLine_L74_f {X : am_X} {K : am_K}  : ∀ (n : Nat) (x1 : Int) (x3 : Int) (J : am_J) (r : Int × am_J), f_Reader_readLine_L74 false  n x1 x3 J = some r → am_runs X T_Reader_readLine (74, [(0, am_pv 1), (1, am_iv x1), (3, am_iv x3)], [], am_SH, (J, K, am_RF false)) (some (am_iv r.1), am_SH, (r.2, K, am_RF false)) := by
  intro n
  induction n with
  | zero =>
    intro x1 x3 J r h
    cases h
  | succ n ih =>
    intro x1 x3 J r h
    rw [f_Reader_readLine_L74.eq_2] at h
    obtain ⟨q292, e293, h⟩ := am_bind_some h
    refine am_r_call (show am_stepn X T_Reader_readLine 3 true (74, [(0, am_pv 1), (1, am_iv x1), (3, am_iv x3)], [], am_SH, (J, K, am_RF false)) = some (true, .inr (.inl (40, [am_iv x1], 1, 0, 0, 79, [(0, am_pv 1), (1, am_iv x1), (3, am_iv x3)], [am_iv x3], am_SH, (J, K, am_RF false)))) from rfl) rfl tb_Reader_numbersOf (s_Reader_numbersOf e293) ?_
    obtain ⟨g294, h⟩ := am_if_some h
    obtain ⟨g295, h⟩ := am_if_some h
    by_cases c296 : x3 < q292
    · rw [if_pos c296] at h
      refine am_r_f (show am_stepn X T_Reader_readLine 1 true (79, [(0, am_pv 1), (1, am_iv x1), (3, am_iv x3)], [am_iv q292, am_iv x3], am_SH, (J, K, am_RF false)) = some (((decide (am_i32 q292) && decide (am_i32 x3)) && true), .inl (bif am_cb .ge x3 q292 then 134 else 82, [(0, am_pv 1), (1, am_iv x1), (3, am_iv x3)], [], am_SH, (J, K, am_RF false))) from rfl) (am_g2 g294 g295 rfl) (am_nd_t c296) ?_
      obtain ⟨q297, e298, h⟩ := am_bind_some h
      refine am_r_call (show am_stepn X T_Reader_readLine 5 true (82, [(0, am_pv 1), (1, am_iv x1), (3, am_iv x3)], [], am_SH, (J, K, am_RF false)) = some (true, .inr (.inl (41, [am_pv 1, am_iv x1, am_iv x3], 3, 0, 0, 89, [(0, am_pv 1), (1, am_iv x1), (3, am_iv x3)], [am_pv 1], am_SH, (J, K, am_RF false)))) from rfl) rfl tb_Reader_leastOf (s_Reader_leastOf e298) ?_
      obtain ⟨q299, e300, h⟩ := am_bind_some h
      refine am_r_call (show am_stepn X T_Reader_readLine 4 true (89, [(0, am_pv 1), (1, am_iv x1), (3, am_iv x3)], [am_iv q297, am_pv 1], am_SH, (J, K, am_RF false)) = some (true, .inr (.inl (42, [am_pv 1, am_iv x1, am_iv x3], 3, 0, 0, 95, [(0, am_pv 1), (1, am_iv x1), (3, am_iv x3)], [am_iv q297, am_pv 1], am_SH, (J, K, am_RF false)))) from rfl) rfl tb_Reader_mostOf (s_Reader_mostOf e300) ?_
      obtain ⟨q301, e302, h⟩ := am_bind_some h
      refine am_r_call (show am_stepn X T_Reader_readLine 1 true (95, [(0, am_pv 1), (1, am_iv x1), (3, am_iv x3)], [am_iv q299, am_iv q297, am_pv 1], am_SH, (J, K, am_RF false)) = some (true, .inr (.inl (43, [am_pv 1, am_iv q297, am_iv q299], 3, 0, 0, 98, [(0, am_pv 1), (1, am_iv x1), (3, am_iv x3)], [], am_SH, (J, K, am_RF false)))) from rfl) rfl tb_Reader_readNumber (s_Reader_readNumber e302) ?_
      obtain ⟨g303, h⟩ := am_if_some h
      by_cases c304 : q301.1 = 0
      · rw [if_pos c304] at h
        refine am_r_f (show am_stepn X T_Reader_readLine 1 true (98, [(0, am_pv 1), (1, am_iv x1), (3, am_iv x3)], [am_iv q301.1], am_SH, (q301.2, K, am_RF false)) = some ((decide (am_i32 q301.1) && true), .inl (bif am_cb .ne q301.1 0 then 103 else 101, [(0, am_pv 1), (1, am_iv x1), (3, am_iv x3)], [], am_SH, (q301.2, K, am_RF false))) from rfl) (am_g1 g303 rfl) (am_nd_t c304) ?_
        obtain rfl := Option.some.inj h
        exact am_r_ret (show am_stepn X T_Reader_readLine 2 true (101, [(0, am_pv 1), (1, am_iv x1), (3, am_iv x3)], [], am_SH, (q301.2, K, am_RF false)) = some ((decide ((0 : Int) = 0 ∨ (0 : Int) = 1) && true), .inr (.inr (some (am_iv 0), am_SH, (q301.2, K, am_RF false)))) from rfl) (am_g1 (by decide) rfl)
      · rw [if_neg c304] at h
        refine am_r_t (show am_stepn X T_Reader_readLine 1 true (98, [(0, am_pv 1), (1, am_iv x1), (3, am_iv x3)], [am_iv q301.1], am_SH, (q301.2, K, am_RF false)) = some ((decide (am_i32 q301.1) && true), .inl (bif am_cb .ne q301.1 0 then 103 else 101, [(0, am_pv 1), (1, am_iv x1), (3, am_iv x3)], [], am_SH, (q301.2, K, am_RF false))) from rfl) (am_g1 g303 rfl) (am_nd_f c304) ?_
        obtain ⟨g305, h⟩ := am_if_some h
        obtain ⟨q306, e307, h⟩ := am_bind_some h
        refine am_r_call (show am_stepn X T_Reader_readLine 11 true (103, [(0, am_pv 1), (1, am_iv x1), (3, am_iv x3)], [], am_SH, (q301.2, K, am_RF false)) = some ((am_in x3 12 && true), .inr (.inl (44, [am_pv 1, am_iv x1, am_iv x3], 3, 0, 0, 120, [(0, am_pv 1), (1, am_iv x1), (3, am_iv x3)], [am_pv 1], am_SH, ((am_up q301.2 5 x3.toNat (q301.2 1 7)), K, am_RF false)))) from rfl) (am_gi g305 rfl) tb_Reader_markOf (s_Reader_markOf e307) ?_
        obtain ⟨q308, e309, h⟩ := am_bind_some h
        refine am_r_call (show am_stepn X T_Reader_readLine 1 true (120, [(0, am_pv 1), (1, am_iv x1), (3, am_iv x3)], [am_iv q306, am_pv 1], am_SH, ((am_up q301.2 5 x3.toNat (q301.2 1 7)), K, am_RF false)) = some (true, .inr (.inl (39, [am_pv 1, am_iv q306], 2, 0, 0, 123, [(0, am_pv 1), (1, am_iv x1), (3, am_iv x3)], [], am_SH, ((am_up q301.2 5 x3.toNat (q301.2 1 7)), K, am_RF false)))) from rfl) rfl tb_Reader_mark (s_Reader_mark e309) ?_
        obtain ⟨g310, h⟩ := am_if_some h
        by_cases c311 : q308.1 = 0
        · rw [if_pos c311] at h
          refine am_r_f (show am_stepn X T_Reader_readLine 1 true (123, [(0, am_pv 1), (1, am_iv x1), (3, am_iv x3)], [am_iv q308.1], am_SH, (q308.2, K, am_RF false)) = some ((decide (am_i32 q308.1) && true), .inl (bif am_cb .ne q308.1 0 then 128 else 126, [(0, am_pv 1), (1, am_iv x1), (3, am_iv x3)], [], am_SH, (q308.2, K, am_RF false))) from rfl) (am_g1 g310 rfl) (am_nd_t c311) ?_
          obtain rfl := Option.some.inj h
          exact am_r_ret (show am_stepn X T_Reader_readLine 2 true (126, [(0, am_pv 1), (1, am_iv x1), (3, am_iv x3)], [], am_SH, (q308.2, K, am_RF false)) = some ((decide ((0 : Int) = 0 ∨ (0 : Int) = 1) && true), .inr (.inr (some (am_iv 0), am_SH, (q308.2, K, am_RF false)))) from rfl) (am_g1 (by decide) rfl)
        · rw [if_neg c311] at h
          refine am_r_t (show am_stepn X T_Reader_readLine 1 true (123, [(0, am_pv 1), (1, am_iv x1), (3, am_iv x3)], [am_iv q308.1], am_SH, (q308.2, K, am_RF false)) = some ((decide (am_i32 q308.1) && true), .inl (bif am_cb .ne q308.1 0 then 128 else 126, [(0, am_pv 1), (1, am_iv x1), (3, am_iv x3)], [], am_SH, (q308.2, K, am_RF false))) from rfl) (am_g1 g310 rfl) (am_nd_f c311) ?_
          refine am_r_go (show am_stepn X T_Reader_readLine 2 true (128, [(0, am_pv 1), (1, am_iv x1), (3, am_iv x3)], [], am_SH, (q308.2, K, am_RF false)) = some (true, .inl (74, [(0, am_pv 1), (1, am_iv x1), (3, am_iv (x3 + 1))], [], am_SH, (q308.2, K, am_RF false))) from rfl) rfl ?_
          exact ih _ _ _ _ h
    · rw [if_neg c296] at h
      refine am_r_t (show am_stepn X T_Reader_readLine 1 true (79, [(0, am_pv 1), (1, am_iv x1), (3, am_iv x3)], [am_iv q292, am_iv x3], am_SH, (J, K, am_RF false)) = some (((decide (am_i32 q292) && decide (am_i32 x3)) && true), .inl (bif am_cb .ge x3 q292 then 134 else 82, [(0, am_pv 1), (1, am_iv x1), (3, am_iv x3)], [], am_SH, (J, K, am_RF false))) from rfl) (am_g2 g294 g295 rfl) (am_nd_f c296) ?_
      obtain ⟨q312, e313, h⟩ := am_bind_some h
      refine am_r_call (show am_stepn X T_Reader_readLine 2 true (134, [(0, am_pv 1), (1, am_iv x1), (3, am_iv x3)], [], am_SH, (J, K, am_RF false)) = some (true, .inr (.inl (21, [am_pv 1], 2, 0, 0, 138, [(0, am_pv 1), (1, am_iv x1)], [], am_SH, (J, K, am_RF false)))) from rfl) rfl tb_Reader_nextToken (s_Reader_nextToken e313) ?_
      obtain ⟨g314, h⟩ := am_if_some h
      by_cases c315 : q312.1 = 0
      · rw [if_pos c315] at h
        refine am_r_f (show am_stepn X T_Reader_readLine 1 true (138, [(0, am_pv 1), (1, am_iv x1)], [am_iv q312.1], am_SH, (q312.2, K, am_RF false)) = some ((decide (am_i32 q312.1) && true), .inl (bif am_cb .ne q312.1 0 then 143 else 141, [(0, am_pv 1), (1, am_iv x1)], [], am_SH, (q312.2, K, am_RF false))) from rfl) (am_g1 g314 rfl) (am_nd_t c315) ?_
        obtain rfl := Option.some.inj h
        exact am_r_ret (show am_stepn X T_Reader_readLine 2 true (141, [(0, am_pv 1), (1, am_iv x1)], [], am_SH, (q312.2, K, am_RF false)) = some ((decide ((0 : Int) = 0 ∨ (0 : Int) = 1) && true), .inr (.inr (some (am_iv 0), am_SH, (q312.2, K, am_RF false)))) from rfl) (am_g1 (by decide) rfl)
      · rw [if_neg c315] at h
        refine am_r_t (show am_stepn X T_Reader_readLine 1 true (138, [(0, am_pv 1), (1, am_iv x1)], [am_iv q312.1], am_SH, (q312.2, K, am_RF false)) = some ((decide (am_i32 q312.1) && true), .inl (bif am_cb .ne q312.1 0 then 143 else 141, [(0, am_pv 1), (1, am_iv x1)], [], am_SH, (q312.2, K, am_RF false))) from rfl) (am_g1 g314 rfl) (am_nd_f c315) ?_
        obtain ⟨g316, h⟩ := am_if_some h
        by_cases c317 : (q312.2 1 5) = 3
        · rw [if_pos c317] at h
          refine am_r_t (show am_stepn X T_Reader_readLine 4 true (143, [(0, am_pv 1), (1, am_iv x1)], [], am_SH, (q312.2, K, am_RF false)) = some (((decide (am_i32 3) && decide (am_i32 (q312.2 1 5))) && true), .inl (bif am_cb .eq (q312.2 1 5) 3 then 161 else 151, [(0, am_pv 1), (1, am_iv x1)], [], am_SH, (q312.2, K, am_RF false))) from rfl) (am_g2 (by decide) g316 rfl) (decide_eq_true c317) ?_
          obtain ⟨q318, e319, h⟩ := am_bind_some h
          refine am_r_call (show am_stepn X T_Reader_readLine 3 true (161, [(0, am_pv 1), (1, am_iv x1)], [], am_SH, (q312.2, K, am_RF false)) = some (true, .inr (.inl (45, [am_pv 1, am_iv x1], 2, 0, 0, 166, [(0, am_pv 1), (1, am_iv x1)], [], am_SH, (q312.2, K, am_RF false)))) from rfl) rfl tb_Reader_tell (s_Reader_tell e319) ?_
          obtain rfl := Option.some.inj h
          exact am_r_ret (show am_stepn X T_Reader_readLine 2 true (166, [(0, am_pv 1), (1, am_iv x1)], [], am_SH, (q318, K, am_RF false)) = some ((decide ((1 : Int) = 0 ∨ (1 : Int) = 1) && true), .inr (.inr (some (am_iv 1), am_SH, (q318, K, am_RF false)))) from rfl) (am_g1 (by decide) rfl)
        · rw [if_neg c317] at h
          refine am_r_f (show am_stepn X T_Reader_readLine 4 true (143, [(0, am_pv 1), (1, am_iv x1)], [], am_SH, (q312.2, K, am_RF false)) = some (((decide (am_i32 3) && decide (am_i32 (q312.2 1 5))) && true), .inl (bif am_cb .eq (q312.2 1 5) 3 then 161 else 151, [(0, am_pv 1), (1, am_iv x1)], [], am_SH, (q312.2, K, am_RF false))) from rfl) (am_g2 (by decide) g316 rfl) (decide_eq_false c317) ?_
          obtain ⟨q320, e321, h⟩ := am_bind_some h
          refine am_r_call (show am_stepn X T_Reader_readLine 5 true (151, [(0, am_pv 1), (1, am_iv x1)], [], am_SH, (q312.2, K, am_RF false)) = some (true, .inr (.inl (27, [am_pv 1, am_iv 2, am_iv (q312.2 1 6)], 3, 0, 0, 160, [(0, am_pv 1)], [], am_SH, (q312.2, K, am_RF false)))) from rfl) rfl tb_Reader_fail (s_Reader_fail e321) ?_
          obtain ⟨g322, h⟩ := am_if_some h
          obtain rfl := Option.some.inj h
          exact am_r_ret (show am_stepn X T_Reader_readLine 1 true (160, [(0, am_pv 1)], [am_iv q320.1], am_SH, (q320.2, K, am_RF false)) = some ((decide ((q320.1 : Int) = 0 ∨ (q320.1 : Int) = 1) && true), .inr (.inr (some (am_iv q320.1), am_SH, (q320.2, K, am_RF false)))) from rfl) (am_g1 g322 rfl)
theorem s_Reader_readLine_L57_f {X : am_X} {K : am_K}  : ∀ (x1 : Int) (s0 : Int) (J : am_J) (r : Int × am_J), f_Reader_readLine_L57 false   x1 s0 J = some r → am_runs X T_Reader_readLine (57, [(0, am_pv 1), (1, am_iv x1)], [am_iv s0], am_SH, (J, K, am_RF false)) (some (am_iv r.1), am_SH, (r.2, K, am_RF false)) := by
  intro x1 s0 J r h
  unfold f_Reader_readLine_L57 at h
  obtain ⟨g323, h⟩ := am_if_some h
  by_cases c324 : s0 = 0
  · rw [if_pos c324] at h
    refine am_r_t (show am_stepn X T_Reader_readLine 3 true (57, [(0, am_pv 1), (1, am_iv x1)], [am_iv s0], am_SH, (J, K, am_RF false)) = some ((decide (am_i32 s0) && true), .inl (bif am_cb .eq s0 0 then 72 else 62, [(0, am_pv 1), (1, am_iv x1), (2, am_iv s0)], [], am_SH, (J, K, am_RF false))) from rfl) (am_g1 g323 rfl) (decide_eq_true c324) ?_
    refine am_r_go (show am_stepn X T_Reader_readLine 2 true (72, [(0, am_pv 1), (1, am_iv x1), (2, am_iv s0)], [], am_SH, (J, K, am_RF false)) = some (true, .inl (74, [(0, am_pv 1), (1, am_iv x1), (3, am_iv 0)], [], am_SH, (J, K, am_RF false))) from rfl) rfl ?_
    exact s_Reader_readLine_L74_f  _ _ _ _ _ h
  · rw [if_neg c324] at h
    refine am_r_f (show am_stepn X T_Reader_readLine 3 true (57, [(0, am_pv 1), (1, am_iv x1)], [am_iv s0], am_SH, (J, K, am_RF false)) = some ((decide (am_i32 s0) && true), .inl (bif am_cb .eq s0 0 then 72 else 62, [(0, am_pv 1), (1, am_iv x1), (2, am_iv s0)], [], am_SH, (J, K, am_RF false))) from rfl) (am_g1 g323 rfl) (decide_eq_false c324) ?_
    obtain ⟨q325, e326, h⟩ := am_bind_some h
    refine am_r_call (show am_stepn X T_Reader_readLine 3 true (62, [(0, am_pv 1), (1, am_iv x1), (2, am_iv s0)], [], am_SH, (J, K, am_RF false)) = some (true, .inr (.inl (39, [am_pv 1, am_iv x1], 2, 0, 0, 67, [(0, am_pv 1), (1, am_iv x1)], [], am_SH, (J, K, am_RF false)))) from rfl) rfl tb_Reader_mark (s_Reader_mark e326) ?_
    obtain ⟨g327, h⟩ := am_if_some h
    by_cases c328 : q325.1 = 0
    · rw [if_pos c328] at h
      refine am_r_f (show am_stepn X T_Reader_readLine 1 true (67, [(0, am_pv 1), (1, am_iv x1)], [am_iv q325.1], am_SH, (q325.2, K, am_RF false)) = some ((decide (am_i32 q325.1) && true), .inl (bif am_cb .ne q325.1 0 then 72 else 70, [(0, am_pv 1), (1, am_iv x1)], [], am_SH, (q325.2, K, am_RF false))) from rfl) (am_g1 g327 rfl) (am_nd_t c328) ?_
      obtain rfl := Option.some.inj h
      exact am_r_ret (show am_stepn X T_Reader_readLine 2 true (70, [(0, am_pv 1), (1, am_iv x1)], [], am_SH, (q325.2, K, am_RF false)) = some ((decide ((0 : Int) = 0 ∨ (0 : Int) = 1) && true), .inr (.inr (some (am_iv 0), am_SH, (q325.2, K, am_RF false)))) from rfl) (am_g1 (by decide) rfl)
    · rw [if_neg c328] at h
      refine am_r_t (show am_stepn X T_Reader_readLine 1 true (67, [(0, am_pv 1), (1, am_iv x1)], [am_iv q325.1], am_SH, (q325.2, K, am_RF false)) = some ((decide (am_i32 q325.1) && true), .inl (bif am_cb .ne q325.1 0 then 72 else 70, [(0, am_pv 1), (1, am_iv x1)], [], am_SH, (q325.2, K, am_RF false))) from rfl) (am_g1 g327 rfl) (am_nd_f c328) ?_
      refine am_r_go (show am_stepn X T_Reader_readLine 2 true (72, [(0, am_pv 1), (1, am_iv x1)], [], am_SH, (q325.2, K, am_RF false)) = some (true, .inl (74, [(0, am_pv 1), (1, am_iv x1), (3, am_iv 0)], [], am_SH, (q325.2, K, am_RF false))) from rfl) rfl ?_
      exact s_Reader_readLine_L74_f  _ _ _ _ _ h
theorem s_Reader_readLine_L17_f {X : am_X} {K : am_K}  : ∀ (s0 : Int) (J : am_J) (r : Int × am_J), f_Reader_readLine_L17 false   s0 J = some r → am_runs X T_Reader_readLine (17, [(0, am_pv 1)], [am_iv s0], am_SH, (J, K, am_RF false)) (some (am_iv r.1), am_SH, (r.2, K, am_RF false)) := by
  intro s0 J r h
  unfold f_Reader_readLine_L17 at h
  obtain ⟨g329, h⟩ := am_if_some h
  by_cases c330 : s0 < 14
  · rw [if_pos c330] at h
    refine am_r_t (show am_stepn X T_Reader_readLine 4 true (17, [(0, am_pv 1)], [am_iv s0], am_SH, (J, K, am_RF false)) = some (((decide (am_i32 14) && decide (am_i32 s0)) && true), .inl (bif am_cb .lt s0 14 then 34 else 24, [(0, am_pv 1), (1, am_iv s0)], [], am_SH, (J, K, am_RF false))) from rfl) (am_g2 (by decide) g329 rfl) (decide_eq_true c330) ?_
    by_cases c331 : s0 < 7
    · rw [if_pos c331] at h
      refine am_r_t (show am_stepn X T_Reader_readLine 3 true (34, [(0, am_pv 1), (1, am_iv s0)], [], am_SH, (J, K, am_RF false)) = some (((decide (am_i32 7) && decide (am_i32 s0)) && true), .inl (bif am_cb .lt s0 7 then 52 else 40, [(0, am_pv 1), (1, am_iv s0)], [], am_SH, (J, K, am_RF false))) from rfl) (am_g2 (by decide) g329 rfl) (decide_eq_true c331) ?_
      refine am_r_go (show am_stepn X T_Reader_readLine 2 true (52, [(0, am_pv 1), (1, am_iv s0)], [], am_SH, (J, K, am_RF false)) = some (true, .inl (57, [(0, am_pv 1), (1, am_iv s0)], [am_iv 1], am_SH, (J, K, am_RF false))) from rfl) rfl ?_
      exact s_Reader_readLine_L57_f  _ _ _ _ h
    · rw [if_neg c331] at h
      refine am_r_f (show am_stepn X T_Reader_readLine 3 true (34, [(0, am_pv 1), (1, am_iv s0)], [], am_SH, (J, K, am_RF false)) = some (((decide (am_i32 7) && decide (am_i32 s0)) && true), .inl (bif am_cb .lt s0 7 then 52 else 40, [(0, am_pv 1), (1, am_iv s0)], [], am_SH, (J, K, am_RF false))) from rfl) (am_g2 (by decide) g329 rfl) (decide_eq_false c331) ?_
      by_cases c332 : s0 = 12
      · rw [if_pos c332] at h
        refine am_r_t (show am_stepn X T_Reader_readLine 3 true (40, [(0, am_pv 1), (1, am_iv s0)], [], am_SH, (J, K, am_RF false)) = some (((decide (am_i32 12) && decide (am_i32 s0)) && true), .inl (bif am_cb .eq s0 12 then 52 else 46, [(0, am_pv 1), (1, am_iv s0)], [], am_SH, (J, K, am_RF false))) from rfl) (am_g2 (by decide) g329 rfl) (decide_eq_true c332) ?_
        refine am_r_go (show am_stepn X T_Reader_readLine 2 true (52, [(0, am_pv 1), (1, am_iv s0)], [], am_SH, (J, K, am_RF false)) = some (true, .inl (57, [(0, am_pv 1), (1, am_iv s0)], [am_iv 1], am_SH, (J, K, am_RF false))) from rfl) rfl ?_
        exact s_Reader_readLine_L57_f  _ _ _ _ h
      · rw [if_neg c332] at h
        refine am_r_f (show am_stepn X T_Reader_readLine 3 true (40, [(0, am_pv 1), (1, am_iv s0)], [], am_SH, (J, K, am_RF false)) = some (((decide (am_i32 12) && decide (am_i32 s0)) && true), .inl (bif am_cb .eq s0 12 then 52 else 46, [(0, am_pv 1), (1, am_iv s0)], [], am_SH, (J, K, am_RF false))) from rfl) (am_g2 (by decide) g329 rfl) (decide_eq_false c332) ?_
        by_cases c333 : s0 = 13
        · rw [if_pos c333] at h
          refine am_r_f (show am_stepn X T_Reader_readLine 3 true (46, [(0, am_pv 1), (1, am_iv s0)], [], am_SH, (J, K, am_RF false)) = some (((decide (am_i32 13) && decide (am_i32 s0)) && true), .inl (bif am_cb .ne s0 13 then 56 else 52, [(0, am_pv 1), (1, am_iv s0)], [], am_SH, (J, K, am_RF false))) from rfl) (am_g2 (by decide) g329 rfl) (am_nd_t c333) ?_
          refine am_r_go (show am_stepn X T_Reader_readLine 2 true (52, [(0, am_pv 1), (1, am_iv s0)], [], am_SH, (J, K, am_RF false)) = some (true, .inl (57, [(0, am_pv 1), (1, am_iv s0)], [am_iv 1], am_SH, (J, K, am_RF false))) from rfl) rfl ?_
          exact s_Reader_readLine_L57_f  _ _ _ _ h
        · rw [if_neg c333] at h
          refine am_r_t (show am_stepn X T_Reader_readLine 3 true (46, [(0, am_pv 1), (1, am_iv s0)], [], am_SH, (J, K, am_RF false)) = some (((decide (am_i32 13) && decide (am_i32 s0)) && true), .inl (bif am_cb .ne s0 13 then 56 else 52, [(0, am_pv 1), (1, am_iv s0)], [], am_SH, (J, K, am_RF false))) from rfl) (am_g2 (by decide) g329 rfl) (am_nd_f c333) ?_
          refine am_r_go (show am_stepn X T_Reader_readLine 1 true (56, [(0, am_pv 1), (1, am_iv s0)], [], am_SH, (J, K, am_RF false)) = some (true, .inl (57, [(0, am_pv 1), (1, am_iv s0)], [am_iv 0], am_SH, (J, K, am_RF false))) from rfl) rfl ?_
          exact s_Reader_readLine_L57_f  _ _ _ _ h
  · rw [if_neg c330] at h
    refine am_r_f (show am_stepn X T_Reader_readLine 4 true (17, [(0, am_pv 1)], [am_iv s0], am_SH, (J, K, am_RF false)) = some (((decide (am_i32 14) && decide (am_i32 s0)) && true), .inl (bif am_cb .lt s0 14 then 34 else 24, [(0, am_pv 1), (1, am_iv s0)], [], am_SH, (J, K, am_RF false))) from rfl) (am_g2 (by decide) g329 rfl) (decide_eq_false c330) ?_
    obtain ⟨q334, e335, h⟩ := am_bind_some h
    refine am_r_call (show am_stepn X T_Reader_readLine 5 true (24, [(0, am_pv 1), (1, am_iv s0)], [], am_SH, (J, K, am_RF false)) = some (true, .inr (.inl (27, [am_pv 1, am_iv 2, am_iv (J 1 6)], 3, 0, 0, 33, [(0, am_pv 1)], [], am_SH, (J, K, am_RF false)))) from rfl) rfl tb_Reader_fail (s_Reader_fail e335) ?_
    obtain ⟨g336, h⟩ := am_if_some h
    obtain rfl := Option.some.inj h
    exact am_r_ret (show am_stepn X T_Reader_readLine 1 true (33, [(0, am_pv 1)], [am_iv q334.1], am_SH, (q334.2, K, am_RF false)) = some ((decide ((q334.1 : Int) = 0 ∨ (q334.1 : Int) = 1) && true), .inr (.inr (some (am_iv q334.1), am_SH, (q334.2, K, am_RF false)))) from rfl) (am_g1 g336 rfl)
theorem s_Reader_readLine_f {X : am_X} {K : am_K} {J : am_J} {r : Int × am_J} (h : f_Reader_readLine false J = some r) : am_runs X T_Reader_readLine (0, [(0, am_pv 1)], [], am_SH, (J, K, am_RF false)) (some (am_iv r.1), am_SH, (r.2, K, am_RF false)) := by
  unfold f_Reader_readLine at h
  obtain ⟨g337, h⟩ := am_if_some h
  by_cases c338 : (J 1 5) = 1
  · rw [if_pos c338] at h
    refine am_r_f (show am_stepn X T_Reader_readLine 4 true (0, [(0, am_pv 1)], [], am_SH, (J, K, am_RF false)) = some (((decide (am_i32 1) && decide (am_i32 (J 1 5))) && true), .inl (bif am_cb .ne (J 1 5) 1 then 15 else 8, [(0, am_pv 1)], [], am_SH, (J, K, am_RF false))) from rfl) (am_g2 (by decide) g337 rfl) (am_nd_t c338) ?_
    obtain ⟨q339, e340, h⟩ := am_bind_some h
    refine am_r_call (show am_stepn X T_Reader_readLine 2 true (8, [(0, am_pv 1)], [], am_SH, (J, K, am_RF false)) = some (true, .inr (.inl (29, [am_pv 1], 2, 0, 0, 12, [(0, am_pv 1)], [], am_SH, (J, K, am_RF false)))) from rfl) rfl tb_Reader_kindOfName (s_Reader_kindOfName e340) ?_
    refine am_r_go (show am_stepn X T_Reader_readLine 1 true (12, [(0, am_pv 1)], [am_iv q339], am_SH, (J, K, am_RF false)) = some (true, .inl (17, [(0, am_pv 1)], [am_iv q339], am_SH, (J, K, am_RF false))) from rfl) rfl ?_
    exact s_Reader_readLine_L17_f  _ _ _ h
  · rw [if_neg c338] at h
    refine am_r_t (show am_stepn X T_Reader_readLine 4 true (0, [(0, am_pv 1)], [], am_SH, (J, K, am_RF false)) = some (((decide (am_i32 1) && decide (am_i32 (J 1 5))) && true), .inl (bif am_cb .ne (J 1 5) 1 then 15 else 8, [(0, am_pv 1)], [], am_SH, (J, K, am_RF false))) from rfl) (am_g2 (by decide) g337 rfl) (am_nd_f c338) ?_
    refine am_r_go (show am_stepn X T_Reader_readLine 1 true (15, [(0, am_pv 1)], [], am_SH, (J, K, am_RF false)) = some (true, .inl (17, [(0, am_pv 1)], [am_iv 14], am_SH, (J, K, am_RF false))) from rfl) rfl ?_
    exact s_Reader_readLine_L17_f  _ _ _ h
theorem s_Reader_readLine_L74_t {X : am_X} {K : am_K}  : ∀ (n : Nat) (x1 : Int) (x3 : Int) (J : am_J) (r : Int × am_J), f_Reader_readLine_L74 true  n x1 x3 J = some r → am_runs X T_Reader_readLine (74, [(0, am_pv 1), (1, am_iv x1), (3, am_iv x3)], [], am_SH, (J, K, am_RF true)) (some (am_iv r.1), am_SH, (r.2, K, am_RF true)) := by
  intro n
  induction n with
  | zero =>
    intro x1 x3 J r h
    cases h
  | succ n ih =>
    intro x1 x3 J r h
    rw [f_Reader_readLine_L74.eq_2] at h
    obtain ⟨q292, e293, h⟩ := am_bind_some h
    refine am_r_call (show am_stepn X T_Reader_readLine 3 true (74, [(0, am_pv 1), (1, am_iv x1), (3, am_iv x3)], [], am_SH, (J, K, am_RF true)) = some (true, .inr (.inl (40, [am_iv x1], 1, 0, 0, 79, [(0, am_pv 1), (1, am_iv x1), (3, am_iv x3)], [am_iv x3], am_SH, (J, K, am_RF true)))) from rfl) rfl tb_Reader_numbersOf (s_Reader_numbersOf e293) ?_
    obtain ⟨g294, h⟩ := am_if_some h
    obtain ⟨g295, h⟩ := am_if_some h
    by_cases c296 : x3 < q292
    · rw [if_pos c296] at h
      refine am_r_f (show am_stepn X T_Reader_readLine 1 true (79, [(0, am_pv 1), (1, am_iv x1), (3, am_iv x3)], [am_iv q292, am_iv x3], am_SH, (J, K, am_RF true)) = some (((decide (am_i32 q292) && decide (am_i32 x3)) && true), .inl (bif am_cb .ge x3 q292 then 134 else 82, [(0, am_pv 1), (1, am_iv x1), (3, am_iv x3)], [], am_SH, (J, K, am_RF true))) from rfl) (am_g2 g294 g295 rfl) (am_nd_t c296) ?_
      obtain ⟨q297, e298, h⟩ := am_bind_some h
      refine am_r_call (show am_stepn X T_Reader_readLine 5 true (82, [(0, am_pv 1), (1, am_iv x1), (3, am_iv x3)], [], am_SH, (J, K, am_RF true)) = some (true, .inr (.inl (41, [am_pv 1, am_iv x1, am_iv x3], 3, 0, 0, 89, [(0, am_pv 1), (1, am_iv x1), (3, am_iv x3)], [am_pv 1], am_SH, (J, K, am_RF true)))) from rfl) rfl tb_Reader_leastOf (s_Reader_leastOf e298) ?_
      obtain ⟨q299, e300, h⟩ := am_bind_some h
      refine am_r_call (show am_stepn X T_Reader_readLine 4 true (89, [(0, am_pv 1), (1, am_iv x1), (3, am_iv x3)], [am_iv q297, am_pv 1], am_SH, (J, K, am_RF true)) = some (true, .inr (.inl (42, [am_pv 1, am_iv x1, am_iv x3], 3, 0, 0, 95, [(0, am_pv 1), (1, am_iv x1), (3, am_iv x3)], [am_iv q297, am_pv 1], am_SH, (J, K, am_RF true)))) from rfl) rfl tb_Reader_mostOf (s_Reader_mostOf e300) ?_
      obtain ⟨q301, e302, h⟩ := am_bind_some h
      refine am_r_call (show am_stepn X T_Reader_readLine 1 true (95, [(0, am_pv 1), (1, am_iv x1), (3, am_iv x3)], [am_iv q299, am_iv q297, am_pv 1], am_SH, (J, K, am_RF true)) = some (true, .inr (.inl (43, [am_pv 1, am_iv q297, am_iv q299], 3, 0, 0, 98, [(0, am_pv 1), (1, am_iv x1), (3, am_iv x3)], [], am_SH, (J, K, am_RF true)))) from rfl) rfl tb_Reader_readNumber (s_Reader_readNumber e302) ?_
      obtain ⟨g303, h⟩ := am_if_some h
      by_cases c304 : q301.1 = 0
      · rw [if_pos c304] at h
        refine am_r_f (show am_stepn X T_Reader_readLine 1 true (98, [(0, am_pv 1), (1, am_iv x1), (3, am_iv x3)], [am_iv q301.1], am_SH, (q301.2, K, am_RF true)) = some ((decide (am_i32 q301.1) && true), .inl (bif am_cb .ne q301.1 0 then 103 else 101, [(0, am_pv 1), (1, am_iv x1), (3, am_iv x3)], [], am_SH, (q301.2, K, am_RF true))) from rfl) (am_g1 g303 rfl) (am_nd_t c304) ?_
        obtain rfl := Option.some.inj h
        exact am_r_ret (show am_stepn X T_Reader_readLine 2 true (101, [(0, am_pv 1), (1, am_iv x1), (3, am_iv x3)], [], am_SH, (q301.2, K, am_RF true)) = some ((decide ((0 : Int) = 0 ∨ (0 : Int) = 1) && true), .inr (.inr (some (am_iv 0), am_SH, (q301.2, K, am_RF true)))) from rfl) (am_g1 (by decide) rfl)
      · rw [if_neg c304] at h
        refine am_r_t (show am_stepn X T_Reader_readLine 1 true (98, [(0, am_pv 1), (1, am_iv x1), (3, am_iv x3)], [am_iv q301.1], am_SH, (q301.2, K, am_RF true)) = some ((decide (am_i32 q301.1) && true), .inl (bif am_cb .ne q301.1 0 then 103 else 101, [(0, am_pv 1), (1, am_iv x1), (3, am_iv x3)], [], am_SH, (q301.2, K, am_RF true))) from rfl) (am_g1 g303 rfl) (am_nd_f c304) ?_
        obtain ⟨g305, h⟩ := am_if_some h
        obtain ⟨q306, e307, h⟩ := am_bind_some h
        refine am_r_call (show am_stepn X T_Reader_readLine 11 true (103, [(0, am_pv 1), (1, am_iv x1), (3, am_iv x3)], [], am_SH, (q301.2, K, am_RF true)) = some ((am_in x3 12 && true), .inr (.inl (44, [am_pv 1, am_iv x1, am_iv x3], 3, 0, 0, 120, [(0, am_pv 1), (1, am_iv x1), (3, am_iv x3)], [am_pv 1], am_SH, ((am_up q301.2 5 x3.toNat (q301.2 1 7)), K, am_RF true)))) from rfl) (am_gi g305 rfl) tb_Reader_markOf (s_Reader_markOf e307) ?_
        obtain ⟨q308, e309, h⟩ := am_bind_some h
        refine am_r_call (show am_stepn X T_Reader_readLine 1 true (120, [(0, am_pv 1), (1, am_iv x1), (3, am_iv x3)], [am_iv q306, am_pv 1], am_SH, ((am_up q301.2 5 x3.toNat (q301.2 1 7)), K, am_RF true)) = some (true, .inr (.inl (39, [am_pv 1, am_iv q306], 2, 0, 0, 123, [(0, am_pv 1), (1, am_iv x1), (3, am_iv x3)], [], am_SH, ((am_up q301.2 5 x3.toNat (q301.2 1 7)), K, am_RF true)))) from rfl) rfl tb_Reader_mark (s_Reader_mark e309) ?_
        obtain ⟨g310, h⟩ := am_if_some h
        by_cases c311 : q308.1 = 0
        · rw [if_pos c311] at h
          refine am_r_f (show am_stepn X T_Reader_readLine 1 true (123, [(0, am_pv 1), (1, am_iv x1), (3, am_iv x3)], [am_iv q308.1], am_SH, (q308.2, K, am_RF true)) = some ((decide (am_i32 q308.1) && true), .inl (bif am_cb .ne q308.1 0 then 128 else 126, [(0, am_pv 1), (1, am_iv x1), (3, am_iv x3)], [], am_SH, (q308.2, K, am_RF true))) from rfl) (am_g1 g310 rfl) (am_nd_t c311) ?_
          obtain rfl := Option.some.inj h
          exact am_r_ret (show am_stepn X T_Reader_readLine 2 true (126, [(0, am_pv 1), (1, am_iv x1), (3, am_iv x3)], [], am_SH, (q308.2, K, am_RF true)) = some ((decide ((0 : Int) = 0 ∨ (0 : Int) = 1) && true), .inr (.inr (some (am_iv 0), am_SH, (q308.2, K, am_RF true)))) from rfl) (am_g1 (by decide) rfl)
        · rw [if_neg c311] at h
          refine am_r_t (show am_stepn X T_Reader_readLine 1 true (123, [(0, am_pv 1), (1, am_iv x1), (3, am_iv x3)], [am_iv q308.1], am_SH, (q308.2, K, am_RF true)) = some ((decide (am_i32 q308.1) && true), .inl (bif am_cb .ne q308.1 0 then 128 else 126, [(0, am_pv 1), (1, am_iv x1), (3, am_iv x3)], [], am_SH, (q308.2, K, am_RF true))) from rfl) (am_g1 g310 rfl) (am_nd_f c311) ?_
          refine am_r_go (show am_stepn X T_Reader_readLine 2 true (128, [(0, am_pv 1), (1, am_iv x1), (3, am_iv x3)], [], am_SH, (q308.2, K, am_RF true)) = some (true, .inl (74, [(0, am_pv 1), (1, am_iv x1), (3, am_iv (x3 + 1))], [], am_SH, (q308.2, K, am_RF true))) from rfl) rfl ?_
          exact ih _ _ _ _ h
    · rw [if_neg c296] at h
      refine am_r_t (show am_stepn X T_Reader_readLine 1 true (79, [(0, am_pv 1), (1, am_iv x1), (3, am_iv x3)], [am_iv q292, am_iv x3], am_SH, (J, K, am_RF true)) = some (((decide (am_i32 q292) && decide (am_i32 x3)) && true), .inl (bif am_cb .ge x3 q292 then 134 else 82, [(0, am_pv 1), (1, am_iv x1), (3, am_iv x3)], [], am_SH, (J, K, am_RF true))) from rfl) (am_g2 g294 g295 rfl) (am_nd_f c296) ?_
      obtain ⟨q312, e313, h⟩ := am_bind_some h
      refine am_r_call (show am_stepn X T_Reader_readLine 2 true (134, [(0, am_pv 1), (1, am_iv x1), (3, am_iv x3)], [], am_SH, (J, K, am_RF true)) = some (true, .inr (.inl (21, [am_pv 1], 2, 0, 0, 138, [(0, am_pv 1), (1, am_iv x1)], [], am_SH, (J, K, am_RF true)))) from rfl) rfl tb_Reader_nextToken (s_Reader_nextToken e313) ?_
      obtain ⟨g314, h⟩ := am_if_some h
      by_cases c315 : q312.1 = 0
      · rw [if_pos c315] at h
        refine am_r_f (show am_stepn X T_Reader_readLine 1 true (138, [(0, am_pv 1), (1, am_iv x1)], [am_iv q312.1], am_SH, (q312.2, K, am_RF true)) = some ((decide (am_i32 q312.1) && true), .inl (bif am_cb .ne q312.1 0 then 143 else 141, [(0, am_pv 1), (1, am_iv x1)], [], am_SH, (q312.2, K, am_RF true))) from rfl) (am_g1 g314 rfl) (am_nd_t c315) ?_
        obtain rfl := Option.some.inj h
        exact am_r_ret (show am_stepn X T_Reader_readLine 2 true (141, [(0, am_pv 1), (1, am_iv x1)], [], am_SH, (q312.2, K, am_RF true)) = some ((decide ((0 : Int) = 0 ∨ (0 : Int) = 1) && true), .inr (.inr (some (am_iv 0), am_SH, (q312.2, K, am_RF true)))) from rfl) (am_g1 (by decide) rfl)
      · rw [if_neg c315] at h
        refine am_r_t (show am_stepn X T_Reader_readLine 1 true (138, [(0, am_pv 1), (1, am_iv x1)], [am_iv q312.1], am_SH, (q312.2, K, am_RF true)) = some ((decide (am_i32 q312.1) && true), .inl (bif am_cb .ne q312.1 0 then 143 else 141, [(0, am_pv 1), (1, am_iv x1)], [], am_SH, (q312.2, K, am_RF true))) from rfl) (am_g1 g314 rfl) (am_nd_f c315) ?_
        obtain ⟨g316, h⟩ := am_if_some h
        by_cases c317 : (q312.2 1 5) = 3
        · rw [if_pos c317] at h
          refine am_r_t (show am_stepn X T_Reader_readLine 4 true (143, [(0, am_pv 1), (1, am_iv x1)], [], am_SH, (q312.2, K, am_RF true)) = some (((decide (am_i32 3) && decide (am_i32 (q312.2 1 5))) && true), .inl (bif am_cb .eq (q312.2 1 5) 3 then 161 else 151, [(0, am_pv 1), (1, am_iv x1)], [], am_SH, (q312.2, K, am_RF true))) from rfl) (am_g2 (by decide) g316 rfl) (decide_eq_true c317) ?_
          obtain ⟨q318, e319, h⟩ := am_bind_some h
          refine am_r_call (show am_stepn X T_Reader_readLine 3 true (161, [(0, am_pv 1), (1, am_iv x1)], [], am_SH, (q312.2, K, am_RF true)) = some (true, .inr (.inl (45, [am_pv 1, am_iv x1], 2, 0, 0, 166, [(0, am_pv 1), (1, am_iv x1)], [], am_SH, (q312.2, K, am_RF true)))) from rfl) rfl tb_Reader_tell (s_Reader_tell e319) ?_
          obtain rfl := Option.some.inj h
          exact am_r_ret (show am_stepn X T_Reader_readLine 2 true (166, [(0, am_pv 1), (1, am_iv x1)], [], am_SH, (q318, K, am_RF true)) = some ((decide ((1 : Int) = 0 ∨ (1 : Int) = 1) && true), .inr (.inr (some (am_iv 1), am_SH, (q318, K, am_RF true)))) from rfl) (am_g1 (by decide) rfl)
        · rw [if_neg c317] at h
          refine am_r_f (show am_stepn X T_Reader_readLine 4 true (143, [(0, am_pv 1), (1, am_iv x1)], [], am_SH, (q312.2, K, am_RF true)) = some (((decide (am_i32 3) && decide (am_i32 (q312.2 1 5))) && true), .inl (bif am_cb .eq (q312.2 1 5) 3 then 161 else 151, [(0, am_pv 1), (1, am_iv x1)], [], am_SH, (q312.2, K, am_RF true))) from rfl) (am_g2 (by decide) g316 rfl) (decide_eq_false c317) ?_
          obtain ⟨q320, e321, h⟩ := am_bind_some h
          refine am_r_call (show am_stepn X T_Reader_readLine 5 true (151, [(0, am_pv 1), (1, am_iv x1)], [], am_SH, (q312.2, K, am_RF true)) = some (true, .inr (.inl (27, [am_pv 1, am_iv 2, am_iv (q312.2 1 6)], 3, 0, 0, 160, [(0, am_pv 1)], [], am_SH, (q312.2, K, am_RF true)))) from rfl) rfl tb_Reader_fail (s_Reader_fail e321) ?_
          obtain ⟨g322, h⟩ := am_if_some h
          obtain rfl := Option.some.inj h
          exact am_r_ret (show am_stepn X T_Reader_readLine 1 true (160, [(0, am_pv 1)], [am_iv q320.1], am_SH, (q320.2, K, am_RF true)) = some ((decide ((q320.1 : Int) = 0 ∨ (q320.1 : Int) = 1) && true), .inr (.inr (some (am_iv q320.1), am_SH, (q320.2, K, am_RF true)))) from rfl) (am_g1 g322 rfl)
theorem s_Reader_readLine_L57_t {X : am_X} {K : am_K}  : ∀ (x1 : Int) (s0 : Int) (J : am_J) (r : Int × am_J), f_Reader_readLine_L57 true   x1 s0 J = some r → am_runs X T_Reader_readLine (57, [(0, am_pv 1), (1, am_iv x1)], [am_iv s0], am_SH, (J, K, am_RF true)) (some (am_iv r.1), am_SH, (r.2, K, am_RF true)) := by
  intro x1 s0 J r h
  unfold f_Reader_readLine_L57 at h
  obtain ⟨g323, h⟩ := am_if_some h
  by_cases c324 : s0 = 0
  · rw [if_pos c324] at h
    refine am_r_t (show am_stepn X T_Reader_readLine 3 true (57, [(0, am_pv 1), (1, am_iv x1)], [am_iv s0], am_SH, (J, K, am_RF true)) = some ((decide (am_i32 s0) && true), .inl (bif am_cb .eq s0 0 then 72 else 62, [(0, am_pv 1), (1, am_iv x1), (2, am_iv s0)], [], am_SH, (J, K, am_RF true))) from rfl) (am_g1 g323 rfl) (decide_eq_true c324) ?_
    refine am_r_go (show am_stepn X T_Reader_readLine 2 true (72, [(0, am_pv 1), (1, am_iv x1), (2, am_iv s0)], [], am_SH, (J, K, am_RF true)) = some (true, .inl (74, [(0, am_pv 1), (1, am_iv x1), (3, am_iv 0)], [], am_SH, (J, K, am_RF true))) from rfl) rfl ?_
    exact s_Reader_readLine_L74_t  _ _ _ _ _ h
  · rw [if_neg c324] at h
    refine am_r_f (show am_stepn X T_Reader_readLine 3 true (57, [(0, am_pv 1), (1, am_iv x1)], [am_iv s0], am_SH, (J, K, am_RF true)) = some ((decide (am_i32 s0) && true), .inl (bif am_cb .eq s0 0 then 72 else 62, [(0, am_pv 1), (1, am_iv x1), (2, am_iv s0)], [], am_SH, (J, K, am_RF true))) from rfl) (am_g1 g323 rfl) (decide_eq_false c324) ?_
    obtain ⟨q325, e326, h⟩ := am_bind_some h
    refine am_r_call (show am_stepn X T_Reader_readLine 3 true (62, [(0, am_pv 1), (1, am_iv x1), (2, am_iv s0)], [], am_SH, (J, K, am_RF true)) = some (true, .inr (.inl (39, [am_pv 1, am_iv x1], 2, 0, 0, 67, [(0, am_pv 1), (1, am_iv x1)], [], am_SH, (J, K, am_RF true)))) from rfl) rfl tb_Reader_mark (s_Reader_mark e326) ?_
    obtain ⟨g327, h⟩ := am_if_some h
    by_cases c328 : q325.1 = 0
    · rw [if_pos c328] at h
      refine am_r_f (show am_stepn X T_Reader_readLine 1 true (67, [(0, am_pv 1), (1, am_iv x1)], [am_iv q325.1], am_SH, (q325.2, K, am_RF true)) = some ((decide (am_i32 q325.1) && true), .inl (bif am_cb .ne q325.1 0 then 72 else 70, [(0, am_pv 1), (1, am_iv x1)], [], am_SH, (q325.2, K, am_RF true))) from rfl) (am_g1 g327 rfl) (am_nd_t c328) ?_
      obtain rfl := Option.some.inj h
      exact am_r_ret (show am_stepn X T_Reader_readLine 2 true (70, [(0, am_pv 1), (1, am_iv x1)], [], am_SH, (q325.2, K, am_RF true)) = some ((decide ((0 : Int) = 0 ∨ (0 : Int) = 1) && true), .inr (.inr (some (am_iv 0), am_SH, (q325.2, K, am_RF true)))) from rfl) (am_g1 (by decide) rfl)
    · rw [if_neg c328] at h
      refine am_r_t (show am_stepn X T_Reader_readLine 1 true (67, [(0, am_pv 1), (1, am_iv x1)], [am_iv q325.1], am_SH, (q325.2, K, am_RF true)) = some ((decide (am_i32 q325.1) && true), .inl (bif am_cb .ne q325.1 0 then 72 else 70, [(0, am_pv 1), (1, am_iv x1)], [], am_SH, (q325.2, K, am_RF true))) from rfl) (am_g1 g327 rfl) (am_nd_f c328) ?_
      refine am_r_go (show am_stepn X T_Reader_readLine 2 true (72, [(0, am_pv 1), (1, am_iv x1)], [], am_SH, (q325.2, K, am_RF true)) = some (true, .inl (74, [(0, am_pv 1), (1, am_iv x1), (3, am_iv 0)], [], am_SH, (q325.2, K, am_RF true))) from rfl) rfl ?_
      exact s_Reader_readLine_L74_t  _ _ _ _ _ h
theorem s_Reader_readLine_L17_t {X : am_X} {K : am_K}  : ∀ (s0 : Int) (J : am_J) (r : Int × am_J), f_Reader_readLine_L17 true   s0 J = some r → am_runs X T_Reader_readLine (17, [(0, am_pv 1)], [am_iv s0], am_SH, (J, K, am_RF true)) (some (am_iv r.1), am_SH, (r.2, K, am_RF true)) := by
  intro s0 J r h
  unfold f_Reader_readLine_L17 at h
  obtain ⟨g329, h⟩ := am_if_some h
  by_cases c330 : s0 < 14
  · rw [if_pos c330] at h
    refine am_r_t (show am_stepn X T_Reader_readLine 4 true (17, [(0, am_pv 1)], [am_iv s0], am_SH, (J, K, am_RF true)) = some (((decide (am_i32 14) && decide (am_i32 s0)) && true), .inl (bif am_cb .lt s0 14 then 34 else 24, [(0, am_pv 1), (1, am_iv s0)], [], am_SH, (J, K, am_RF true))) from rfl) (am_g2 (by decide) g329 rfl) (decide_eq_true c330) ?_
    by_cases c331 : s0 < 7
    · rw [if_pos c331] at h
      refine am_r_t (show am_stepn X T_Reader_readLine 3 true (34, [(0, am_pv 1), (1, am_iv s0)], [], am_SH, (J, K, am_RF true)) = some (((decide (am_i32 7) && decide (am_i32 s0)) && true), .inl (bif am_cb .lt s0 7 then 52 else 40, [(0, am_pv 1), (1, am_iv s0)], [], am_SH, (J, K, am_RF true))) from rfl) (am_g2 (by decide) g329 rfl) (decide_eq_true c331) ?_
      refine am_r_go (show am_stepn X T_Reader_readLine 2 true (52, [(0, am_pv 1), (1, am_iv s0)], [], am_SH, (J, K, am_RF true)) = some (true, .inl (57, [(0, am_pv 1), (1, am_iv s0)], [am_iv 1], am_SH, (J, K, am_RF true))) from rfl) rfl ?_
      exact s_Reader_readLine_L57_t  _ _ _ _ h
    · rw [if_neg c331] at h
      refine am_r_f (show am_stepn X T_Reader_readLine 3 true (34, [(0, am_pv 1), (1, am_iv s0)], [], am_SH, (J, K, am_RF true)) = some (((decide (am_i32 7) && decide (am_i32 s0)) && true), .inl (bif am_cb .lt s0 7 then 52 else 40, [(0, am_pv 1), (1, am_iv s0)], [], am_SH, (J, K, am_RF true))) from rfl) (am_g2 (by decide) g329 rfl) (decide_eq_false c331) ?_
      by_cases c332 : s0 = 12
      · rw [if_pos c332] at h
        refine am_r_t (show am_stepn X T_Reader_readLine 3 true (40, [(0, am_pv 1), (1, am_iv s0)], [], am_SH, (J, K, am_RF true)) = some (((decide (am_i32 12) && decide (am_i32 s0)) && true), .inl (bif am_cb .eq s0 12 then 52 else 46, [(0, am_pv 1), (1, am_iv s0)], [], am_SH, (J, K, am_RF true))) from rfl) (am_g2 (by decide) g329 rfl) (decide_eq_true c332) ?_
        refine am_r_go (show am_stepn X T_Reader_readLine 2 true (52, [(0, am_pv 1), (1, am_iv s0)], [], am_SH, (J, K, am_RF true)) = some (true, .inl (57, [(0, am_pv 1), (1, am_iv s0)], [am_iv 1], am_SH, (J, K, am_RF true))) from rfl) rfl ?_
        exact s_Reader_readLine_L57_t  _ _ _ _ h
      · rw [if_neg c332] at h
        refine am_r_f (show am_stepn X T_Reader_readLine 3 true (40, [(0, am_pv 1), (1, am_iv s0)], [], am_SH, (J, K, am_RF true)) = some (((decide (am_i32 12) && decide (am_i32 s0)) && true), .inl (bif am_cb .eq s0 12 then 52 else 46, [(0, am_pv 1), (1, am_iv s0)], [], am_SH, (J, K, am_RF true))) from rfl) (am_g2 (by decide) g329 rfl) (decide_eq_false c332) ?_
        by_cases c333 : s0 = 13
        · rw [if_pos c333] at h
          refine am_r_f (show am_stepn X T_Reader_readLine 3 true (46, [(0, am_pv 1), (1, am_iv s0)], [], am_SH, (J, K, am_RF true)) = some (((decide (am_i32 13) && decide (am_i32 s0)) && true), .inl (bif am_cb .ne s0 13 then 56 else 52, [(0, am_pv 1), (1, am_iv s0)], [], am_SH, (J, K, am_RF true))) from rfl) (am_g2 (by decide) g329 rfl) (am_nd_t c333) ?_
          refine am_r_go (show am_stepn X T_Reader_readLine 2 true (52, [(0, am_pv 1), (1, am_iv s0)], [], am_SH, (J, K, am_RF true)) = some (true, .inl (57, [(0, am_pv 1), (1, am_iv s0)], [am_iv 1], am_SH, (J, K, am_RF true))) from rfl) rfl ?_
          exact s_Reader_readLine_L57_t  _ _ _ _ h
        · rw [if_neg c333] at h
          refine am_r_t (show am_stepn X T_Reader_readLine 3 true (46, [(0, am_pv 1), (1, am_iv s0)], [], am_SH, (J, K, am_RF true)) = some (((decide (am_i32 13) && decide (am_i32 s0)) && true), .inl (bif am_cb .ne s0 13 then 56 else 52, [(0, am_pv 1), (1, am_iv s0)], [], am_SH, (J, K, am_RF true))) from rfl) (am_g2 (by decide) g329 rfl) (am_nd_f c333) ?_
          refine am_r_go (show am_stepn X T_Reader_readLine 1 true (56, [(0, am_pv 1), (1, am_iv s0)], [], am_SH, (J, K, am_RF true)) = some (true, .inl (57, [(0, am_pv 1), (1, am_iv s0)], [am_iv 0], am_SH, (J, K, am_RF true))) from rfl) rfl ?_
          exact s_Reader_readLine_L57_t  _ _ _ _ h
  · rw [if_neg c330] at h
    refine am_r_f (show am_stepn X T_Reader_readLine 4 true (17, [(0, am_pv 1)], [am_iv s0], am_SH, (J, K, am_RF true)) = some (((decide (am_i32 14) && decide (am_i32 s0)) && true), .inl (bif am_cb .lt s0 14 then 34 else 24, [(0, am_pv 1), (1, am_iv s0)], [], am_SH, (J, K, am_RF true))) from rfl) (am_g2 (by decide) g329 rfl) (decide_eq_false c330) ?_
    obtain ⟨q334, e335, h⟩ := am_bind_some h
    refine am_r_call (show am_stepn X T_Reader_readLine 5 true (24, [(0, am_pv 1), (1, am_iv s0)], [], am_SH, (J, K, am_RF true)) = some (true, .inr (.inl (27, [am_pv 1, am_iv 2, am_iv (J 1 6)], 3, 0, 0, 33, [(0, am_pv 1)], [], am_SH, (J, K, am_RF true)))) from rfl) rfl tb_Reader_fail (s_Reader_fail e335) ?_
    obtain ⟨g336, h⟩ := am_if_some h
    obtain rfl := Option.some.inj h
    exact am_r_ret (show am_stepn X T_Reader_readLine 1 true (33, [(0, am_pv 1)], [am_iv q334.1], am_SH, (q334.2, K, am_RF true)) = some ((decide ((q334.1 : Int) = 0 ∨ (q334.1 : Int) = 1) && true), .inr (.inr (some (am_iv q334.1), am_SH, (q334.2, K, am_RF true)))) from rfl) (am_g1 g336 rfl)
theorem s_Reader_readLine_t {X : am_X} {K : am_K} {J : am_J} {r : Int × am_J} (h : f_Reader_readLine true J = some r) : am_runs X T_Reader_readLine (0, [(0, am_pv 1)], [], am_SH, (J, K, am_RF true)) (some (am_iv r.1), am_SH, (r.2, K, am_RF true)) := by
  unfold f_Reader_readLine at h
  obtain ⟨g337, h⟩ := am_if_some h
  by_cases c338 : (J 1 5) = 1
  · rw [if_pos c338] at h
    refine am_r_f (show am_stepn X T_Reader_readLine 4 true (0, [(0, am_pv 1)], [], am_SH, (J, K, am_RF true)) = some (((decide (am_i32 1) && decide (am_i32 (J 1 5))) && true), .inl (bif am_cb .ne (J 1 5) 1 then 15 else 8, [(0, am_pv 1)], [], am_SH, (J, K, am_RF true))) from rfl) (am_g2 (by decide) g337 rfl) (am_nd_t c338) ?_
    obtain ⟨q339, e340, h⟩ := am_bind_some h
    refine am_r_call (show am_stepn X T_Reader_readLine 2 true (8, [(0, am_pv 1)], [], am_SH, (J, K, am_RF true)) = some (true, .inr (.inl (29, [am_pv 1], 2, 0, 0, 12, [(0, am_pv 1)], [], am_SH, (J, K, am_RF true)))) from rfl) rfl tb_Reader_kindOfName (s_Reader_kindOfName e340) ?_
    refine am_r_go (show am_stepn X T_Reader_readLine 1 true (12, [(0, am_pv 1)], [am_iv q339], am_SH, (J, K, am_RF true)) = some (true, .inl (17, [(0, am_pv 1)], [am_iv q339], am_SH, (J, K, am_RF true))) from rfl) rfl ?_
    exact s_Reader_readLine_L17_t  _ _ _ h
  · rw [if_neg c338] at h
    refine am_r_t (show am_stepn X T_Reader_readLine 4 true (0, [(0, am_pv 1)], [], am_SH, (J, K, am_RF true)) = some (((decide (am_i32 1) && decide (am_i32 (J 1 5))) && true), .inl (bif am_cb .ne (J 1 5) 1 then 15 else 8, [(0, am_pv 1)], [], am_SH, (J, K, am_RF true))) from rfl) (am_g2 (by decide) g337 rfl) (am_nd_f c338) ?_
    refine am_r_go (show am_stepn X T_Reader_readLine 1 true (15, [(0, am_pv 1)], [], am_SH, (J, K, am_RF true)) = some (true, .inl (17, [(0, am_pv 1)], [am_iv 14], am_SH, (J, K, am_RF true))) from rfl) rfl ?_
    exact s_Reader_readLine_L17_t  _ _ _ h
theorem s_Reader_readLine {X : am_X} {b : Bool} {K : am_K} {J : am_J} {r : Int × am_J} (h : f_Reader_readLine b J = some r) : am_runs X T_Reader_readLine (0, [(0, am_pv 1)], [], am_SH, (J, K, am_RF b)) (some (am_iv r.1), am_SH, (r.2, K, am_RF b)) := by
  cases b
  · exact s_Reader_readLine_f h
  · exact s_Reader_readLine_t h
theorem s_Reader_readText_L69_f {X : am_X}  : ∀ (J : am_J) (K : am_K) (r : Int × am_J × am_K), f_Reader_readText_L69 false   J K = some r → am_runs X T_Reader_readText (69, [(0, am_pv 1)], [], am_SH, (J, K, am_RF false)) (some (am_iv r.1), am_SH, (r.2.1, r.2.2, am_RF false)) := by
  intro J K r h
  unfold f_Reader_readText_L69 at h
  obtain ⟨g341, h⟩ := am_if_some h
  obtain ⟨g342, h⟩ := am_if_some h
  by_cases c343 : (J 1 9) < (J (am_dr false + 1) 0)
  · rw [if_pos c343] at h
    refine am_r_t (show am_stepn X T_Reader_readText 8 true (69, [(0, am_pv 1)], [], am_SH, (J, K, am_RF false)) = some (((decide (am_i32 (J (am_dr false + 1) 0)) && decide (am_i32 (J 1 9))) && (am_in 0 7 && true)), .inl (bif am_cb .lt (J 1 9) (J (am_dr false + 1) 0) then 98 else 85, [(0, am_pv 1)], [], am_SH, (J, K, am_RF false))) from rfl) (am_g2 g341 g342 (am_gi (by decide) rfl)) (decide_eq_true c343) ?_
    obtain ⟨q344, e345, h⟩ := am_bind_some h
    refine am_r_call (show am_stepn X T_Reader_readText 3 true (98, [(0, am_pv 1)], [], am_SH, (J, K, am_RF false)) = some (true, .inr (.inl (5, [am_pv (am_dr false)], 3, 0, 0, 105, [(0, am_pv 1)], [], am_SH, (J, K, am_RF false)))) from rfl) rfl tb_River_settle (s_River_settle (by decide) e345) ?_
    obtain rfl := Option.some.inj h
    exact am_r_ret (show am_stepn X T_Reader_readText 2 true (105, [(0, am_pv 1)], [], am_SH, (J, q344, am_RF false)) = some ((decide ((1 : Int) = 0 ∨ (1 : Int) = 1) && true), .inr (.inr (some (am_iv 1), am_SH, (J, q344, am_RF false)))) from rfl) (am_g1 (by decide) rfl)
  · rw [if_neg c343] at h
    refine am_r_f (show am_stepn X T_Reader_readText 8 true (69, [(0, am_pv 1)], [], am_SH, (J, K, am_RF false)) = some (((decide (am_i32 (J (am_dr false + 1) 0)) && decide (am_i32 (J 1 9))) && (am_in 0 7 && true)), .inl (bif am_cb .lt (J 1 9) (J (am_dr false + 1) 0) then 98 else 85, [(0, am_pv 1)], [], am_SH, (J, K, am_RF false))) from rfl) (am_g2 g341 g342 (am_gi (by decide) rfl)) (decide_eq_false c343) ?_
    obtain ⟨q346, e347, h⟩ := am_bind_some h
    refine am_r_call (show am_stepn X T_Reader_readText 6 true (85, [(0, am_pv 1)], [], am_SH, (J, K, am_RF false)) = some (true, .inr (.inl (27, [am_pv 1, am_iv 5, am_iv (J 2 1)], 3, 0, 0, 97, [(0, am_pv 1)], [], am_SH, (J, K, am_RF false)))) from rfl) rfl tb_Reader_fail (s_Reader_fail e347) ?_
    obtain ⟨g348, h⟩ := am_if_some h
    obtain rfl := Option.some.inj h
    exact am_r_ret (show am_stepn X T_Reader_readText 1 true (97, [(0, am_pv 1)], [am_iv q346.1], am_SH, (q346.2, K, am_RF false)) = some ((decide ((q346.1 : Int) = 0 ∨ (q346.1 : Int) = 1) && true), .inr (.inr (some (am_iv q346.1), am_SH, (q346.2, K, am_RF false)))) from rfl) (am_g1 g348 rfl)
theorem s_Reader_readText_L13_f {X : am_X}  : ∀ (n : Nat) (x1 : Int) (J : am_J) (K : am_K) (r : Int × am_J × am_K), f_Reader_readText_L13 false  n x1 J K = some r → am_runs X T_Reader_readText (13, [(0, am_pv 1), (1, am_iv x1)], [], am_SH, (J, K, am_RF false)) (some (am_iv r.1), am_SH, (r.2.1, r.2.2, am_RF false)) := by
  intro n
  induction n with
  | zero =>
    intro x1 J K r h
    cases h
  | succ n ih =>
    intro x1 J K r h
    rw [f_Reader_readText_L13.eq_2] at h
    obtain ⟨g349, h⟩ := am_if_some h
    obtain ⟨g350, h⟩ := am_if_some h
    by_cases c351 : (J 2 1) < x1
    · rw [if_pos c351] at h
      refine am_r_t (show am_stepn X T_Reader_readText 5 true (13, [(0, am_pv 1), (1, am_iv x1)], [], am_SH, (J, K, am_RF false)) = some (((decide (am_i32 (J 2 1)) && decide (am_i32 x1)) && true), .inl (bif am_cb .gt x1 (J 2 1) then 69 else 24, [(0, am_pv 1), (1, am_iv x1)], [], am_SH, (J, K, am_RF false))) from rfl) (am_g2 g349 g350 rfl) (decide_eq_true c351) ?_
      refine am_r_eq (σ' := (69, [(0, am_pv 1)], [], am_SH, (J, K, am_RF false))) rfl ?_
      exact s_Reader_readText_L69_f  _ _ _ h
    · rw [if_neg c351] at h
      refine am_r_f (show am_stepn X T_Reader_readText 5 true (13, [(0, am_pv 1), (1, am_iv x1)], [], am_SH, (J, K, am_RF false)) = some (((decide (am_i32 (J 2 1)) && decide (am_i32 x1)) && true), .inl (bif am_cb .gt x1 (J 2 1) then 69 else 24, [(0, am_pv 1), (1, am_iv x1)], [], am_SH, (J, K, am_RF false))) from rfl) (am_g2 g349 g350 rfl) (decide_eq_false c351) ?_
      obtain ⟨q352, e353, h⟩ := am_bind_some h
      refine am_r_call (show am_stepn X T_Reader_readText 2 true (24, [(0, am_pv 1), (1, am_iv x1)], [], am_SH, (J, K, am_RF false)) = some (true, .inr (.inl (21, [am_pv 1], 2, 0, 0, 28, [(0, am_pv 1), (1, am_iv x1)], [], am_SH, (J, K, am_RF false)))) from rfl) rfl tb_Reader_nextToken (s_Reader_nextToken e353) ?_
      obtain ⟨g354, h⟩ := am_if_some h
      by_cases c355 : q352.1 = 0
      · rw [if_pos c355] at h
        refine am_r_f (show am_stepn X T_Reader_readText 1 true (28, [(0, am_pv 1), (1, am_iv x1)], [am_iv q352.1], am_SH, (q352.2, K, am_RF false)) = some ((decide (am_i32 q352.1) && true), .inl (bif am_cb .ne q352.1 0 then 33 else 31, [(0, am_pv 1), (1, am_iv x1)], [], am_SH, (q352.2, K, am_RF false))) from rfl) (am_g1 g354 rfl) (am_nd_t c355) ?_
        obtain rfl := Option.some.inj h
        exact am_r_ret (show am_stepn X T_Reader_readText 2 true (31, [(0, am_pv 1), (1, am_iv x1)], [], am_SH, (q352.2, K, am_RF false)) = some ((decide ((0 : Int) = 0 ∨ (0 : Int) = 1) && true), .inr (.inr (some (am_iv 0), am_SH, (q352.2, K, am_RF false)))) from rfl) (am_g1 (by decide) rfl)
      · rw [if_neg c355] at h
        refine am_r_t (show am_stepn X T_Reader_readText 1 true (28, [(0, am_pv 1), (1, am_iv x1)], [am_iv q352.1], am_SH, (q352.2, K, am_RF false)) = some ((decide (am_i32 q352.1) && true), .inl (bif am_cb .ne q352.1 0 then 33 else 31, [(0, am_pv 1), (1, am_iv x1)], [], am_SH, (q352.2, K, am_RF false))) from rfl) (am_g1 g354 rfl) (am_nd_f c355) ?_
        obtain ⟨g356, h⟩ := am_if_some h
        by_cases c357 : (q352.2 1 5) = 4
        · rw [if_pos c357] at h
          refine am_r_f (show am_stepn X T_Reader_readText 4 true (33, [(0, am_pv 1), (1, am_iv x1)], [], am_SH, (q352.2, K, am_RF false)) = some (((decide (am_i32 4) && decide (am_i32 (q352.2 1 5))) && true), .inl (bif am_cb .ne (q352.2 1 5) 4 then 44 else 41, [(0, am_pv 1), (1, am_iv x1)], [], am_SH, (q352.2, K, am_RF false))) from rfl) (am_g2 (by decide) g356 rfl) (am_nd_t c357) ?_
          refine am_r_go (show am_stepn X T_Reader_readText 1 true (41, [(0, am_pv 1), (1, am_iv x1)], [], am_SH, (q352.2, K, am_RF false)) = some (true, .inl (69, [(0, am_pv 1)], [], am_SH, (q352.2, K, am_RF false))) from rfl) rfl ?_
          exact s_Reader_readText_L69_f  _ _ _ h
        · rw [if_neg c357] at h
          refine am_r_t (show am_stepn X T_Reader_readText 4 true (33, [(0, am_pv 1), (1, am_iv x1)], [], am_SH, (q352.2, K, am_RF false)) = some (((decide (am_i32 4) && decide (am_i32 (q352.2 1 5))) && true), .inl (bif am_cb .ne (q352.2 1 5) 4 then 44 else 41, [(0, am_pv 1), (1, am_iv x1)], [], am_SH, (q352.2, K, am_RF false))) from rfl) (am_g2 (by decide) g356 rfl) (am_nd_f c357) ?_
          obtain ⟨q358, e359, h⟩ := am_bind_some h
          refine am_r_call (show am_stepn X T_Reader_readText 2 true (44, [(0, am_pv 1), (1, am_iv x1)], [], am_SH, (q352.2, K, am_RF false)) = some (true, .inr (.inl (28, [am_pv 1], 4, 0, 0, 48, [(0, am_pv 1), (1, am_iv x1)], [], am_SH, (q352.2, K, am_RF false)))) from rfl) rfl tb_Reader_readLine (s_Reader_readLine e359) ?_
          obtain ⟨g360, h⟩ := am_if_some h
          by_cases c361 : q358.1 = 0
          · rw [if_pos c361] at h
            refine am_r_f (show am_stepn X T_Reader_readText 1 true (48, [(0, am_pv 1), (1, am_iv x1)], [am_iv q358.1], am_SH, (q358.2, K, am_RF false)) = some ((decide (am_i32 q358.1) && true), .inl (bif am_cb .ne q358.1 0 then 53 else 51, [(0, am_pv 1), (1, am_iv x1)], [], am_SH, (q358.2, K, am_RF false))) from rfl) (am_g1 g360 rfl) (am_nd_t c361) ?_
            obtain rfl := Option.some.inj h
            exact am_r_ret (show am_stepn X T_Reader_readText 2 true (51, [(0, am_pv 1), (1, am_iv x1)], [], am_SH, (q358.2, K, am_RF false)) = some ((decide ((0 : Int) = 0 ∨ (0 : Int) = 1) && true), .inr (.inr (some (am_iv 0), am_SH, (q358.2, K, am_RF false)))) from rfl) (am_g1 (by decide) rfl)
          · rw [if_neg c361] at h
            refine am_r_t (show am_stepn X T_Reader_readText 1 true (48, [(0, am_pv 1), (1, am_iv x1)], [am_iv q358.1], am_SH, (q358.2, K, am_RF false)) = some ((decide (am_i32 q358.1) && true), .inl (bif am_cb .ne q358.1 0 then 53 else 51, [(0, am_pv 1), (1, am_iv x1)], [], am_SH, (q358.2, K, am_RF false))) from rfl) (am_g1 g360 rfl) (am_nd_f c361) ?_
            refine am_r_go (show am_stepn X T_Reader_readText 8 true (53, [(0, am_pv 1), (1, am_iv x1)], [], am_SH, (q358.2, K, am_RF false)) = some (true, .inl (13, [(0, am_pv 1), (1, am_iv (x1 + 1))], [], am_SH, ((am_up q358.2 1 8 ((q358.2 1 8) + 1)), K, am_RF false))) from rfl) rfl ?_
            exact ih _ _ _ _ h
theorem s_Reader_readText_f {X : am_X} {J : am_J} {K : am_K} {r : Int × am_J × am_K} (h : f_Reader_readText false J K = some r) : am_runs X T_Reader_readText (0, [(0, am_pv 1)], [], am_SH, (J, K, am_RF false)) (some (am_iv r.1), am_SH, (r.2.1, r.2.2, am_RF false)) := by
  unfold f_Reader_readText at h
  obtain ⟨q362, e363, h⟩ := am_bind_some h
  refine am_r_call (show am_stepn X T_Reader_readText 3 true (0, [(0, am_pv 1)], [], am_SH, (J, K, am_RF false)) = some (true, .inr (.inl (4, [am_pv (am_dr false)], 2, 0, 0, 7, [(0, am_pv 1)], [], am_SH, (J, K, am_RF false)))) from rfl) rfl tb_River_forget (s_River_forget (by decide) e363) ?_
  obtain ⟨q364, e365, h⟩ := am_bind_some h
  refine am_r_call (show am_stepn X T_Reader_readText 2 true (7, [(0, am_pv 1)], [], am_SH, (q362, K, am_RF false)) = some (true, .inr (.inl (20, [am_pv 1], 2, 0, 0, 11, [(0, am_pv 1)], [], am_SH, (q362, K, am_RF false)))) from rfl) rfl tb_Reader_forget (s_Reader_forget e365) ?_
  refine am_r_go (show am_stepn X T_Reader_readText 2 true (11, [(0, am_pv 1)], [], am_SH, (q364, K, am_RF false)) = some (true, .inl (13, [(0, am_pv 1), (1, am_iv 0)], [], am_SH, (q364, K, am_RF false))) from rfl) rfl ?_
  exact s_Reader_readText_L13_f  _ _ _ _ _ h
theorem s_Reader_readText_L69_t {X : am_X}  : ∀ (J : am_J) (K : am_K) (r : Int × am_J × am_K), f_Reader_readText_L69 true   J K = some r → am_runs X T_Reader_readText (69, [(0, am_pv 1)], [], am_SH, (J, K, am_RF true)) (some (am_iv r.1), am_SH, (r.2.1, r.2.2, am_RF true)) := by
  intro J K r h
  unfold f_Reader_readText_L69 at h
  obtain ⟨g341, h⟩ := am_if_some h
  obtain ⟨g342, h⟩ := am_if_some h
  by_cases c343 : (J 1 9) < (J (am_dr true + 1) 0)
  · rw [if_pos c343] at h
    refine am_r_t (show am_stepn X T_Reader_readText 8 true (69, [(0, am_pv 1)], [], am_SH, (J, K, am_RF true)) = some (((decide (am_i32 (J (am_dr true + 1) 0)) && decide (am_i32 (J 1 9))) && (am_in 0 7 && true)), .inl (bif am_cb .lt (J 1 9) (J (am_dr true + 1) 0) then 98 else 85, [(0, am_pv 1)], [], am_SH, (J, K, am_RF true))) from rfl) (am_g2 g341 g342 (am_gi (by decide) rfl)) (decide_eq_true c343) ?_
    obtain ⟨q344, e345, h⟩ := am_bind_some h
    refine am_r_call (show am_stepn X T_Reader_readText 3 true (98, [(0, am_pv 1)], [], am_SH, (J, K, am_RF true)) = some (true, .inr (.inl (5, [am_pv (am_dr true)], 3, 0, 0, 105, [(0, am_pv 1)], [], am_SH, (J, K, am_RF true)))) from rfl) rfl tb_River_settle (s_River_settle (by decide) e345) ?_
    obtain rfl := Option.some.inj h
    exact am_r_ret (show am_stepn X T_Reader_readText 2 true (105, [(0, am_pv 1)], [], am_SH, (J, q344, am_RF true)) = some ((decide ((1 : Int) = 0 ∨ (1 : Int) = 1) && true), .inr (.inr (some (am_iv 1), am_SH, (J, q344, am_RF true)))) from rfl) (am_g1 (by decide) rfl)
  · rw [if_neg c343] at h
    refine am_r_f (show am_stepn X T_Reader_readText 8 true (69, [(0, am_pv 1)], [], am_SH, (J, K, am_RF true)) = some (((decide (am_i32 (J (am_dr true + 1) 0)) && decide (am_i32 (J 1 9))) && (am_in 0 7 && true)), .inl (bif am_cb .lt (J 1 9) (J (am_dr true + 1) 0) then 98 else 85, [(0, am_pv 1)], [], am_SH, (J, K, am_RF true))) from rfl) (am_g2 g341 g342 (am_gi (by decide) rfl)) (decide_eq_false c343) ?_
    obtain ⟨q346, e347, h⟩ := am_bind_some h
    refine am_r_call (show am_stepn X T_Reader_readText 6 true (85, [(0, am_pv 1)], [], am_SH, (J, K, am_RF true)) = some (true, .inr (.inl (27, [am_pv 1, am_iv 5, am_iv (J 2 1)], 3, 0, 0, 97, [(0, am_pv 1)], [], am_SH, (J, K, am_RF true)))) from rfl) rfl tb_Reader_fail (s_Reader_fail e347) ?_
    obtain ⟨g348, h⟩ := am_if_some h
    obtain rfl := Option.some.inj h
    exact am_r_ret (show am_stepn X T_Reader_readText 1 true (97, [(0, am_pv 1)], [am_iv q346.1], am_SH, (q346.2, K, am_RF true)) = some ((decide ((q346.1 : Int) = 0 ∨ (q346.1 : Int) = 1) && true), .inr (.inr (some (am_iv q346.1), am_SH, (q346.2, K, am_RF true)))) from rfl) (am_g1 g348 rfl)
theorem s_Reader_readText_L13_t {X : am_X}  : ∀ (n : Nat) (x1 : Int) (J : am_J) (K : am_K) (r : Int × am_J × am_K), f_Reader_readText_L13 true  n x1 J K = some r → am_runs X T_Reader_readText (13, [(0, am_pv 1), (1, am_iv x1)], [], am_SH, (J, K, am_RF true)) (some (am_iv r.1), am_SH, (r.2.1, r.2.2, am_RF true)) := by
  intro n
  induction n with
  | zero =>
    intro x1 J K r h
    cases h
  | succ n ih =>
    intro x1 J K r h
    rw [f_Reader_readText_L13.eq_2] at h
    obtain ⟨g349, h⟩ := am_if_some h
    obtain ⟨g350, h⟩ := am_if_some h
    by_cases c351 : (J 2 1) < x1
    · rw [if_pos c351] at h
      refine am_r_t (show am_stepn X T_Reader_readText 5 true (13, [(0, am_pv 1), (1, am_iv x1)], [], am_SH, (J, K, am_RF true)) = some (((decide (am_i32 (J 2 1)) && decide (am_i32 x1)) && true), .inl (bif am_cb .gt x1 (J 2 1) then 69 else 24, [(0, am_pv 1), (1, am_iv x1)], [], am_SH, (J, K, am_RF true))) from rfl) (am_g2 g349 g350 rfl) (decide_eq_true c351) ?_
      refine am_r_eq (σ' := (69, [(0, am_pv 1)], [], am_SH, (J, K, am_RF true))) rfl ?_
      exact s_Reader_readText_L69_t  _ _ _ h
    · rw [if_neg c351] at h
      refine am_r_f (show am_stepn X T_Reader_readText 5 true (13, [(0, am_pv 1), (1, am_iv x1)], [], am_SH, (J, K, am_RF true)) = some (((decide (am_i32 (J 2 1)) && decide (am_i32 x1)) && true), .inl (bif am_cb .gt x1 (J 2 1) then 69 else 24, [(0, am_pv 1), (1, am_iv x1)], [], am_SH, (J, K, am_RF true))) from rfl) (am_g2 g349 g350 rfl) (decide_eq_false c351) ?_
      obtain ⟨q352, e353, h⟩ := am_bind_some h
      refine am_r_call (show am_stepn X T_Reader_readText 2 true (24, [(0, am_pv 1), (1, am_iv x1)], [], am_SH, (J, K, am_RF true)) = some (true, .inr (.inl (21, [am_pv 1], 2, 0, 0, 28, [(0, am_pv 1), (1, am_iv x1)], [], am_SH, (J, K, am_RF true)))) from rfl) rfl tb_Reader_nextToken (s_Reader_nextToken e353) ?_
      obtain ⟨g354, h⟩ := am_if_some h
      by_cases c355 : q352.1 = 0
      · rw [if_pos c355] at h
        refine am_r_f (show am_stepn X T_Reader_readText 1 true (28, [(0, am_pv 1), (1, am_iv x1)], [am_iv q352.1], am_SH, (q352.2, K, am_RF true)) = some ((decide (am_i32 q352.1) && true), .inl (bif am_cb .ne q352.1 0 then 33 else 31, [(0, am_pv 1), (1, am_iv x1)], [], am_SH, (q352.2, K, am_RF true))) from rfl) (am_g1 g354 rfl) (am_nd_t c355) ?_
        obtain rfl := Option.some.inj h
        exact am_r_ret (show am_stepn X T_Reader_readText 2 true (31, [(0, am_pv 1), (1, am_iv x1)], [], am_SH, (q352.2, K, am_RF true)) = some ((decide ((0 : Int) = 0 ∨ (0 : Int) = 1) && true), .inr (.inr (some (am_iv 0), am_SH, (q352.2, K, am_RF true)))) from rfl) (am_g1 (by decide) rfl)
      · rw [if_neg c355] at h
        refine am_r_t (show am_stepn X T_Reader_readText 1 true (28, [(0, am_pv 1), (1, am_iv x1)], [am_iv q352.1], am_SH, (q352.2, K, am_RF true)) = some ((decide (am_i32 q352.1) && true), .inl (bif am_cb .ne q352.1 0 then 33 else 31, [(0, am_pv 1), (1, am_iv x1)], [], am_SH, (q352.2, K, am_RF true))) from rfl) (am_g1 g354 rfl) (am_nd_f c355) ?_
        obtain ⟨g356, h⟩ := am_if_some h
        by_cases c357 : (q352.2 1 5) = 4
        · rw [if_pos c357] at h
          refine am_r_f (show am_stepn X T_Reader_readText 4 true (33, [(0, am_pv 1), (1, am_iv x1)], [], am_SH, (q352.2, K, am_RF true)) = some (((decide (am_i32 4) && decide (am_i32 (q352.2 1 5))) && true), .inl (bif am_cb .ne (q352.2 1 5) 4 then 44 else 41, [(0, am_pv 1), (1, am_iv x1)], [], am_SH, (q352.2, K, am_RF true))) from rfl) (am_g2 (by decide) g356 rfl) (am_nd_t c357) ?_
          refine am_r_go (show am_stepn X T_Reader_readText 1 true (41, [(0, am_pv 1), (1, am_iv x1)], [], am_SH, (q352.2, K, am_RF true)) = some (true, .inl (69, [(0, am_pv 1)], [], am_SH, (q352.2, K, am_RF true))) from rfl) rfl ?_
          exact s_Reader_readText_L69_t  _ _ _ h
        · rw [if_neg c357] at h
          refine am_r_t (show am_stepn X T_Reader_readText 4 true (33, [(0, am_pv 1), (1, am_iv x1)], [], am_SH, (q352.2, K, am_RF true)) = some (((decide (am_i32 4) && decide (am_i32 (q352.2 1 5))) && true), .inl (bif am_cb .ne (q352.2 1 5) 4 then 44 else 41, [(0, am_pv 1), (1, am_iv x1)], [], am_SH, (q352.2, K, am_RF true))) from rfl) (am_g2 (by decide) g356 rfl) (am_nd_f c357) ?_
          obtain ⟨q358, e359, h⟩ := am_bind_some h
          refine am_r_call (show am_stepn X T_Reader_readText 2 true (44, [(0, am_pv 1), (1, am_iv x1)], [], am_SH, (q352.2, K, am_RF true)) = some (true, .inr (.inl (28, [am_pv 1], 4, 0, 0, 48, [(0, am_pv 1), (1, am_iv x1)], [], am_SH, (q352.2, K, am_RF true)))) from rfl) rfl tb_Reader_readLine (s_Reader_readLine e359) ?_
          obtain ⟨g360, h⟩ := am_if_some h
          by_cases c361 : q358.1 = 0
          · rw [if_pos c361] at h
            refine am_r_f (show am_stepn X T_Reader_readText 1 true (48, [(0, am_pv 1), (1, am_iv x1)], [am_iv q358.1], am_SH, (q358.2, K, am_RF true)) = some ((decide (am_i32 q358.1) && true), .inl (bif am_cb .ne q358.1 0 then 53 else 51, [(0, am_pv 1), (1, am_iv x1)], [], am_SH, (q358.2, K, am_RF true))) from rfl) (am_g1 g360 rfl) (am_nd_t c361) ?_
            obtain rfl := Option.some.inj h
            exact am_r_ret (show am_stepn X T_Reader_readText 2 true (51, [(0, am_pv 1), (1, am_iv x1)], [], am_SH, (q358.2, K, am_RF true)) = some ((decide ((0 : Int) = 0 ∨ (0 : Int) = 1) && true), .inr (.inr (some (am_iv 0), am_SH, (q358.2, K, am_RF true)))) from rfl) (am_g1 (by decide) rfl)
          · rw [if_neg c361] at h
            refine am_r_t (show am_stepn X T_Reader_readText 1 true (48, [(0, am_pv 1), (1, am_iv x1)], [am_iv q358.1], am_SH, (q358.2, K, am_RF true)) = some ((decide (am_i32 q358.1) && true), .inl (bif am_cb .ne q358.1 0 then 53 else 51, [(0, am_pv 1), (1, am_iv x1)], [], am_SH, (q358.2, K, am_RF true))) from rfl) (am_g1 g360 rfl) (am_nd_f c361) ?_
            refine am_r_go (show am_stepn X T_Reader_readText 8 true (53, [(0, am_pv 1), (1, am_iv x1)], [], am_SH, (q358.2, K, am_RF true)) = some (true, .inl (13, [(0, am_pv 1), (1, am_iv (x1 + 1))], [], am_SH, ((am_up q358.2 1 8 ((q358.2 1 8) + 1)), K, am_RF true))) from rfl) rfl ?_
            exact ih _ _ _ _ h
theorem s_Reader_readText_t {X : am_X} {J : am_J} {K : am_K} {r : Int × am_J × am_K} (h : f_Reader_readText true J K = some r) : am_runs X T_Reader_readText (0, [(0, am_pv 1)], [], am_SH, (J, K, am_RF true)) (some (am_iv r.1), am_SH, (r.2.1, r.2.2, am_RF true)) := by
  unfold f_Reader_readText at h
  obtain ⟨q362, e363, h⟩ := am_bind_some h
  refine am_r_call (show am_stepn X T_Reader_readText 3 true (0, [(0, am_pv 1)], [], am_SH, (J, K, am_RF true)) = some (true, .inr (.inl (4, [am_pv (am_dr true)], 2, 0, 0, 7, [(0, am_pv 1)], [], am_SH, (J, K, am_RF true)))) from rfl) rfl tb_River_forget (s_River_forget (by decide) e363) ?_
  obtain ⟨q364, e365, h⟩ := am_bind_some h
  refine am_r_call (show am_stepn X T_Reader_readText 2 true (7, [(0, am_pv 1)], [], am_SH, (q362, K, am_RF true)) = some (true, .inr (.inl (20, [am_pv 1], 2, 0, 0, 11, [(0, am_pv 1)], [], am_SH, (q362, K, am_RF true)))) from rfl) rfl tb_Reader_forget (s_Reader_forget e365) ?_
  refine am_r_go (show am_stepn X T_Reader_readText 2 true (11, [(0, am_pv 1)], [], am_SH, (q364, K, am_RF true)) = some (true, .inl (13, [(0, am_pv 1), (1, am_iv 0)], [], am_SH, (q364, K, am_RF true))) from rfl) rfl ?_
  exact s_Reader_readText_L13_t  _ _ _ _ _ h
theorem s_Reader_readText {X : am_X} {b : Bool} {J : am_J} {K : am_K} {r : Int × am_J × am_K} (h : f_Reader_readText b J K = some r) : am_runs X T_Reader_readText (0, [(0, am_pv 1)], [], am_SH, (J, K, am_RF b)) (some (am_iv r.1), am_SH, (r.2.1, r.2.2, am_RF b)) := by
  cases b
  · exact s_Reader_readText_f h
  · exact s_Reader_readText_t h
theorem am_swap (b : Bool) : am_ur (am_ur (am_RF b) 1 3 (some (am_rv b))) 0 8 (some (am_dr b)) = am_RF (!b) := by
  funext a j
  unfold am_ur am_RF
  by_cases ha : a = 0
  · subst ha
    by_cases hj : j = 8
    · subst hj
      cases b <;> rfl
    · have h8 : Nat.beq j 8 = false := by
        cases hb : Nat.beq j 8 with
        | false => rfl
        | true => exact absurd (Nat.eq_of_beq_eq_true hb) hj
      simp [hj, h8]
  · have h0 : Nat.beq a 0 = false := by
      cases hb : Nat.beq a 0 with
      | false => rfl
      | true => exact absurd (Nat.eq_of_beq_eq_true hb) ha
    by_cases h1 : a = 1
    · subst h1
      by_cases hj : j = 3
      · subst hj
        cases b <;> rfl
      · have h3 : Nat.beq j 3 = false := by
          cases hb : Nat.beq j 3 with
          | false => rfl
          | true => exact absurd (Nat.eq_of_beq_eq_true hb) hj
        simp [hj, h3]
        rfl
    · have h1' : Nat.beq a 1 = false := by
        cases hb : Nat.beq a 1 with
        | false => rfl
        | true => exact absurd (Nat.eq_of_beq_eq_true hb) h1
      simp [ha, h0, h1, h1']
theorem s_Reader_tradeFor {X : am_X} {J : am_J} {K : am_K} : ∀ (b : Bool), am_runs X T_Reader_tradeFor (0, [(0, am_pv 1), (1, am_pv (am_rv b))], [], am_SH, (J, K, am_RF b)) (some (am_pv (am_dr b)), am_SH, (J, K, am_ur (am_RF b) 1 3 (some (am_rv b))))
  | true => am_r_ret (k := 8) (g := true) rfl rfl
  | false => am_r_ret (k := 8) (g := true) rfl rfl
theorem s_UpRiver_text_f {X : am_X} {J : am_J} {K : am_K}  {r : Int × am_J × am_K × Bool} (h : f_UpRiver_text  J K false = some r) : am_runs X T_UpRiver_text (0, [(0, am_pv 0)], [], am_SH, (J, K, am_RF false)) (some (am_iv r.1), am_SH, (r.2.1, r.2.2.1, am_RF r.2.2.2)) := by
  unfold f_UpRiver_text at h
  obtain ⟨q366, e367, h⟩ := am_bind_some h
  refine am_r_call (show am_stepn X T_UpRiver_text 3 true (0, [(0, am_pv 0)], [], am_SH, (J, K, am_RF false)) = some (true, .inr (.inl (19, [am_pv 1], 2, 0, 0, 7, [(0, am_pv 0)], [], am_SH, (J, K, am_RF false)))) from rfl) rfl tb_Reader_readText (s_Reader_readText e367) ?_
  obtain ⟨g368, h⟩ := am_if_some h
  by_cases c369 : q366.1 = 0
  · rw [if_pos c369] at h
    refine am_r_f (show am_stepn X T_UpRiver_text 8 true (7, [(0, am_pv 0)], [am_iv q366.1], am_SH, (q366.2.1, q366.2.2, am_RF false)) = some ((decide (am_i32 q366.1) && true), .inl (bif am_cb .ne q366.1 0 then 34 else 23, [(0, am_pv 0), (1, am_iv q366.1)], [], am_SH, ((am_up q366.2.1 2 1 0), q366.2.2, am_RF false))) from rfl) (am_g1 g368 rfl) (am_nd_t c369) ?_
    obtain rfl := Option.some.inj h
    exact am_r_ret (show am_stepn X T_UpRiver_text 6 true (23, [(0, am_pv 0), (1, am_iv q366.1)], [], am_SH, ((am_up q366.2.1 2 1 0), q366.2.2, am_RF false)) = some (true, .inr (.inr (some (am_iv ((-10) - (q366.2.1 1 11))), am_SH, ((am_up q366.2.1 2 1 0), q366.2.2, am_RF false)))) from rfl) rfl
  · rw [if_neg c369] at h
    refine am_r_t (show am_stepn X T_UpRiver_text 8 true (7, [(0, am_pv 0)], [am_iv q366.1], am_SH, (q366.2.1, q366.2.2, am_RF false)) = some ((decide (am_i32 q366.1) && true), .inl (bif am_cb .ne q366.1 0 then 34 else 23, [(0, am_pv 0), (1, am_iv q366.1)], [], am_SH, ((am_up q366.2.1 2 1 0), q366.2.2, am_RF false))) from rfl) (am_g1 g368 rfl) (am_nd_f c369) ?_
    refine am_r_call (show am_stepn X T_UpRiver_text 6 true (34, [(0, am_pv 0), (1, am_iv q366.1)], [], am_SH, ((am_up q366.2.1 2 1 0), q366.2.2, am_RF false)) = some (true, .inr (.inl (49, [am_pv 1, am_pv (am_rv false)], 3, 0, 0, 46, [(0, am_pv 0)], [am_pv 0], am_SH, ((am_up q366.2.1 2 1 0), q366.2.2, am_RF false)))) from rfl) rfl tb_Reader_tradeFor (s_Reader_tradeFor _) ?_
    refine am_r_go (k := 1) (σ' := (49, [(0, am_pv 0)], [], am_SH, ((am_up q366.2.1 2 1 0), q366.2.2, am_ur (am_ur (am_RF false) 1 3 (some (am_rv false))) 0 8 (some (am_dr false))))) rfl rfl ?_
    rw [am_swap]
    obtain ⟨q372, e373, h⟩ := am_bind_some h
    refine am_r_call (show am_stepn X T_UpRiver_text 2 true (49, [(0, am_pv 0)], [], am_SH, ((am_up q366.2.1 2 1 0), q366.2.2, am_RF (!false))) = some (true, .inr (.inl (50, [am_pv 0], 2, 0, 0, 53, [(0, am_pv 0)], [], am_SH, ((am_up q366.2.1 2 1 0), q366.2.2, am_RF (!false))))) from rfl) rfl tb_UpRiver_beginAnew (s_UpRiver_beginAnew e373) ?_
    obtain rfl := Option.some.inj h
    exact am_r_ret (show am_stepn X T_UpRiver_text 4 true (53, [(0, am_pv 0)], [], am_SH, (q372, q366.2.2, am_RF (!false))) = some (true, .inr (.inr (some (am_iv (q372 1 8)), am_SH, (q372, q366.2.2, am_RF (!false))))) from rfl) rfl
theorem s_UpRiver_text_t {X : am_X} {J : am_J} {K : am_K}  {r : Int × am_J × am_K × Bool} (h : f_UpRiver_text  J K true = some r) : am_runs X T_UpRiver_text (0, [(0, am_pv 0)], [], am_SH, (J, K, am_RF true)) (some (am_iv r.1), am_SH, (r.2.1, r.2.2.1, am_RF r.2.2.2)) := by
  unfold f_UpRiver_text at h
  obtain ⟨q366, e367, h⟩ := am_bind_some h
  refine am_r_call (show am_stepn X T_UpRiver_text 3 true (0, [(0, am_pv 0)], [], am_SH, (J, K, am_RF true)) = some (true, .inr (.inl (19, [am_pv 1], 2, 0, 0, 7, [(0, am_pv 0)], [], am_SH, (J, K, am_RF true)))) from rfl) rfl tb_Reader_readText (s_Reader_readText e367) ?_
  obtain ⟨g368, h⟩ := am_if_some h
  by_cases c369 : q366.1 = 0
  · rw [if_pos c369] at h
    refine am_r_f (show am_stepn X T_UpRiver_text 8 true (7, [(0, am_pv 0)], [am_iv q366.1], am_SH, (q366.2.1, q366.2.2, am_RF true)) = some ((decide (am_i32 q366.1) && true), .inl (bif am_cb .ne q366.1 0 then 34 else 23, [(0, am_pv 0), (1, am_iv q366.1)], [], am_SH, ((am_up q366.2.1 2 1 0), q366.2.2, am_RF true))) from rfl) (am_g1 g368 rfl) (am_nd_t c369) ?_
    obtain rfl := Option.some.inj h
    exact am_r_ret (show am_stepn X T_UpRiver_text 6 true (23, [(0, am_pv 0), (1, am_iv q366.1)], [], am_SH, ((am_up q366.2.1 2 1 0), q366.2.2, am_RF true)) = some (true, .inr (.inr (some (am_iv ((-10) - (q366.2.1 1 11))), am_SH, ((am_up q366.2.1 2 1 0), q366.2.2, am_RF true)))) from rfl) rfl
  · rw [if_neg c369] at h
    refine am_r_t (show am_stepn X T_UpRiver_text 8 true (7, [(0, am_pv 0)], [am_iv q366.1], am_SH, (q366.2.1, q366.2.2, am_RF true)) = some ((decide (am_i32 q366.1) && true), .inl (bif am_cb .ne q366.1 0 then 34 else 23, [(0, am_pv 0), (1, am_iv q366.1)], [], am_SH, ((am_up q366.2.1 2 1 0), q366.2.2, am_RF true))) from rfl) (am_g1 g368 rfl) (am_nd_f c369) ?_
    refine am_r_call (show am_stepn X T_UpRiver_text 6 true (34, [(0, am_pv 0), (1, am_iv q366.1)], [], am_SH, ((am_up q366.2.1 2 1 0), q366.2.2, am_RF true)) = some (true, .inr (.inl (49, [am_pv 1, am_pv (am_rv true)], 3, 0, 0, 46, [(0, am_pv 0)], [am_pv 0], am_SH, ((am_up q366.2.1 2 1 0), q366.2.2, am_RF true)))) from rfl) rfl tb_Reader_tradeFor (s_Reader_tradeFor _) ?_
    refine am_r_go (k := 1) (σ' := (49, [(0, am_pv 0)], [], am_SH, ((am_up q366.2.1 2 1 0), q366.2.2, am_ur (am_ur (am_RF true) 1 3 (some (am_rv true))) 0 8 (some (am_dr true))))) rfl rfl ?_
    rw [am_swap]
    obtain ⟨q372, e373, h⟩ := am_bind_some h
    refine am_r_call (show am_stepn X T_UpRiver_text 2 true (49, [(0, am_pv 0)], [], am_SH, ((am_up q366.2.1 2 1 0), q366.2.2, am_RF (!true))) = some (true, .inr (.inl (50, [am_pv 0], 2, 0, 0, 53, [(0, am_pv 0)], [], am_SH, ((am_up q366.2.1 2 1 0), q366.2.2, am_RF (!true))))) from rfl) rfl tb_UpRiver_beginAnew (s_UpRiver_beginAnew e373) ?_
    obtain rfl := Option.some.inj h
    exact am_r_ret (show am_stepn X T_UpRiver_text 4 true (53, [(0, am_pv 0)], [], am_SH, (q372, q366.2.2, am_RF (!true))) = some (true, .inr (.inr (some (am_iv (q372 1 8)), am_SH, (q372, q366.2.2, am_RF (!true))))) from rfl) rfl
theorem s_UpRiver_text {X : am_X} {b : Bool} {J : am_J} {K : am_K} {r : Int × am_J × am_K × Bool} (h : f_UpRiver_text  J K b = some r) : am_runs X T_UpRiver_text (0, [(0, am_pv 0)], [], am_SH, (J, K, am_RF b)) (some (am_iv r.1), am_SH, (r.2.1, r.2.2.1, am_RF r.2.2.2)) := by
  cases b
  · exact s_UpRiver_text_f h
  · exact s_UpRiver_text_t h
theorem s_UpRiver_fault {X : am_X} {b : Bool} {J : am_J} {K : am_K}  {r : Int} (h : f_UpRiver_fault J  = some r) : am_runs X T_UpRiver_fault (0, [(0, am_pv 0)], [], am_SH, (J, K, am_RF b)) (some (am_iv r), am_SH, (J, K, am_RF b)) := by
  unfold f_UpRiver_fault at h
  obtain rfl := Option.some.inj h
  exact am_r_ret (show am_stepn X T_UpRiver_fault 4 true (0, [(0, am_pv 0)], [], am_SH, (J, K, am_RF b)) = some (true, .inr (.inr (some (am_iv (J 1 10)), am_SH, (J, K, am_RF b)))) from rfl) rfl
theorem s_UpRiver_rule_L48_f {X : am_X} {J : am_J} {K : am_K}  : ∀ (x1 : Int) (r : Int), f_UpRiver_rule_L48 false J   x1 = some r → am_runs X T_UpRiver_rule (48, [(0, am_pv 0), (1, am_iv x1)], [], am_SH, (J, K, am_RF false)) (some (am_iv r), am_SH, (J, K, am_RF false)) := by
  intro x1 r h
  unfold f_UpRiver_rule_L48 at h
  obtain ⟨g374, h⟩ := am_if_some h
  by_cases c375 : x1 < 30
  · rw [if_pos c375] at h
    refine am_r_t (show am_stepn X T_UpRiver_rule 3 true (48, [(0, am_pv 0), (1, am_iv x1)], [], am_SH, (J, K, am_RF false)) = some (((decide (am_i32 30) && decide (am_i32 x1)) && true), .inl (bif am_cb .lt x1 30 then 73 else 54, [(0, am_pv 0), (1, am_iv x1)], [], am_SH, (J, K, am_RF false))) from rfl) (am_g2 (by decide) g374 rfl) (decide_eq_true c375) ?_
    obtain rfl := Option.some.inj h
    exact am_r_ret (show am_stepn X T_UpRiver_rule 2 true (73, [(0, am_pv 0), (1, am_iv x1)], [], am_SH, (J, K, am_RF false)) = some (true, .inr (.inr (some (am_iv (-1)), am_SH, (J, K, am_RF false)))) from rfl) rfl
  · rw [if_neg c375] at h
    refine am_r_f (show am_stepn X T_UpRiver_rule 3 true (48, [(0, am_pv 0), (1, am_iv x1)], [], am_SH, (J, K, am_RF false)) = some (((decide (am_i32 30) && decide (am_i32 x1)) && true), .inl (bif am_cb .lt x1 30 then 73 else 54, [(0, am_pv 0), (1, am_iv x1)], [], am_SH, (J, K, am_RF false))) from rfl) (am_g2 (by decide) g374 rfl) (decide_eq_false c375) ?_
    by_cases c376 : x1 < 42
    · rw [if_pos c376] at h
      refine am_r_f (show am_stepn X T_UpRiver_rule 3 true (54, [(0, am_pv 0), (1, am_iv x1)], [], am_SH, (J, K, am_RF false)) = some (((decide (am_i32 42) && decide (am_i32 x1)) && true), .inl (bif am_cb .ge x1 42 then 73 else 60, [(0, am_pv 0), (1, am_iv x1)], [], am_SH, (J, K, am_RF false))) from rfl) (am_g2 (by decide) g374 rfl) (am_nd_t c376) ?_
      obtain ⟨g377, h⟩ := am_if_some h
      obtain rfl := Option.some.inj h
      exact am_r_ret (show am_stepn X T_UpRiver_rule 8 true (60, [(0, am_pv 0), (1, am_iv x1)], [], am_SH, (J, K, am_RF false)) = some ((am_in (x1 - 30) 12 && true), .inr (.inr (some (am_iv (J (am_rv false + 3) ((x1 - 30).toNat))), am_SH, (J, K, am_RF false)))) from rfl) (am_gi g377 rfl)
    · rw [if_neg c376] at h
      refine am_r_t (show am_stepn X T_UpRiver_rule 3 true (54, [(0, am_pv 0), (1, am_iv x1)], [], am_SH, (J, K, am_RF false)) = some (((decide (am_i32 42) && decide (am_i32 x1)) && true), .inl (bif am_cb .ge x1 42 then 73 else 60, [(0, am_pv 0), (1, am_iv x1)], [], am_SH, (J, K, am_RF false))) from rfl) (am_g2 (by decide) g374 rfl) (am_nd_f c376) ?_
      obtain rfl := Option.some.inj h
      exact am_r_ret (show am_stepn X T_UpRiver_rule 2 true (73, [(0, am_pv 0), (1, am_iv x1)], [], am_SH, (J, K, am_RF false)) = some (true, .inr (.inr (some (am_iv (-1)), am_SH, (J, K, am_RF false)))) from rfl) rfl
theorem s_UpRiver_rule_L20_f {X : am_X} {J : am_J} {K : am_K}  : ∀ (x1 : Int) (r : Int), f_UpRiver_rule_L20 false J   x1 = some r → am_runs X T_UpRiver_rule (20, [(0, am_pv 0), (1, am_iv x1)], [], am_SH, (J, K, am_RF false)) (some (am_iv r), am_SH, (J, K, am_RF false)) := by
  intro x1 r h
  unfold f_UpRiver_rule_L20 at h
  obtain ⟨g378, h⟩ := am_if_some h
  by_cases c379 : x1 < 10
  · rw [if_pos c379] at h
    refine am_r_t (show am_stepn X T_UpRiver_rule 3 true (20, [(0, am_pv 0), (1, am_iv x1)], [], am_SH, (J, K, am_RF false)) = some (((decide (am_i32 10) && decide (am_i32 x1)) && true), .inl (bif am_cb .lt x1 10 then 48 else 26, [(0, am_pv 0), (1, am_iv x1)], [], am_SH, (J, K, am_RF false))) from rfl) (am_g2 (by decide) g378 rfl) (decide_eq_true c379) ?_
    exact s_UpRiver_rule_L48_f  _ _ h
  · rw [if_neg c379] at h
    refine am_r_f (show am_stepn X T_UpRiver_rule 3 true (20, [(0, am_pv 0), (1, am_iv x1)], [], am_SH, (J, K, am_RF false)) = some (((decide (am_i32 10) && decide (am_i32 x1)) && true), .inl (bif am_cb .lt x1 10 then 48 else 26, [(0, am_pv 0), (1, am_iv x1)], [], am_SH, (J, K, am_RF false))) from rfl) (am_g2 (by decide) g378 rfl) (decide_eq_false c379) ?_
    by_cases c380 : x1 < 22
    · rw [if_pos c380] at h
      refine am_r_f (show am_stepn X T_UpRiver_rule 3 true (26, [(0, am_pv 0), (1, am_iv x1)], [], am_SH, (J, K, am_RF false)) = some (((decide (am_i32 22) && decide (am_i32 x1)) && true), .inl (bif am_cb .ge x1 22 then 48 else 32, [(0, am_pv 0), (1, am_iv x1)], [], am_SH, (J, K, am_RF false))) from rfl) (am_g2 (by decide) g378 rfl) (am_nd_t c380) ?_
      obtain ⟨g381, h⟩ := am_if_some h
      obtain rfl := Option.some.inj h
      exact am_r_ret (show am_stepn X T_UpRiver_rule 10 true (32, [(0, am_pv 0), (1, am_iv x1)], [], am_SH, (J, K, am_RF false)) = some ((am_in (x1 - 10) 12 && true), .inr (.inr (some (am_iv ((J (am_rv false + 2) ((x1 - 10).toNat)) + 9)), am_SH, (J, K, am_RF false)))) from rfl) (am_gi g381 rfl)
    · rw [if_neg c380] at h
      refine am_r_t (show am_stepn X T_UpRiver_rule 3 true (26, [(0, am_pv 0), (1, am_iv x1)], [], am_SH, (J, K, am_RF false)) = some (((decide (am_i32 22) && decide (am_i32 x1)) && true), .inl (bif am_cb .ge x1 22 then 48 else 32, [(0, am_pv 0), (1, am_iv x1)], [], am_SH, (J, K, am_RF false))) from rfl) (am_g2 (by decide) g378 rfl) (am_nd_f c380) ?_
      exact s_UpRiver_rule_L48_f  _ _ h
theorem s_UpRiver_rule_f {X : am_X} {J : am_J} {K : am_K} {x1 : Int} {r : Int} (h : f_UpRiver_rule false J x1 = some r) : am_runs X T_UpRiver_rule (0, [(0, am_pv 0), (1, am_iv x1)], [], am_SH, (J, K, am_RF false)) (some (am_iv r), am_SH, (J, K, am_RF false)) := by
  unfold f_UpRiver_rule at h
  obtain ⟨g382, h⟩ := am_if_some h
  by_cases c383 : x1 < 0
  · rw [if_pos c383] at h
    refine am_r_t (show am_stepn X T_UpRiver_rule 2 true (0, [(0, am_pv 0), (1, am_iv x1)], [], am_SH, (J, K, am_RF false)) = some ((decide (am_i32 x1) && true), .inl (bif am_cb .lt x1 0 then 20 else 4, [(0, am_pv 0), (1, am_iv x1)], [], am_SH, (J, K, am_RF false))) from rfl) (am_g1 g382 rfl) (decide_eq_true c383) ?_
    exact s_UpRiver_rule_L20_f  _ _ h
  · rw [if_neg c383] at h
    refine am_r_f (show am_stepn X T_UpRiver_rule 2 true (0, [(0, am_pv 0), (1, am_iv x1)], [], am_SH, (J, K, am_RF false)) = some ((decide (am_i32 x1) && true), .inl (bif am_cb .lt x1 0 then 20 else 4, [(0, am_pv 0), (1, am_iv x1)], [], am_SH, (J, K, am_RF false))) from rfl) (am_g1 g382 rfl) (decide_eq_false c383) ?_
    by_cases c384 : x1 < 7
    · rw [if_pos c384] at h
      refine am_r_f (show am_stepn X T_UpRiver_rule 3 true (4, [(0, am_pv 0), (1, am_iv x1)], [], am_SH, (J, K, am_RF false)) = some (((decide (am_i32 7) && decide (am_i32 x1)) && true), .inl (bif am_cb .ge x1 7 then 20 else 10, [(0, am_pv 0), (1, am_iv x1)], [], am_SH, (J, K, am_RF false))) from rfl) (am_g2 (by decide) g382 rfl) (am_nd_t c384) ?_
      obtain ⟨g385, h⟩ := am_if_some h
      obtain rfl := Option.some.inj h
      exact am_r_ret (show am_stepn X T_UpRiver_rule 6 true (10, [(0, am_pv 0), (1, am_iv x1)], [], am_SH, (J, K, am_RF false)) = some ((am_in x1 7 && true), .inr (.inr (some (am_iv (J (am_rv false + 1) x1.toNat)), am_SH, (J, K, am_RF false)))) from rfl) (am_gi g385 rfl)
    · rw [if_neg c384] at h
      refine am_r_t (show am_stepn X T_UpRiver_rule 3 true (4, [(0, am_pv 0), (1, am_iv x1)], [], am_SH, (J, K, am_RF false)) = some (((decide (am_i32 7) && decide (am_i32 x1)) && true), .inl (bif am_cb .ge x1 7 then 20 else 10, [(0, am_pv 0), (1, am_iv x1)], [], am_SH, (J, K, am_RF false))) from rfl) (am_g2 (by decide) g382 rfl) (am_nd_f c384) ?_
      exact s_UpRiver_rule_L20_f  _ _ h
theorem s_UpRiver_rule_L48_t {X : am_X} {J : am_J} {K : am_K}  : ∀ (x1 : Int) (r : Int), f_UpRiver_rule_L48 true J   x1 = some r → am_runs X T_UpRiver_rule (48, [(0, am_pv 0), (1, am_iv x1)], [], am_SH, (J, K, am_RF true)) (some (am_iv r), am_SH, (J, K, am_RF true)) := by
  intro x1 r h
  unfold f_UpRiver_rule_L48 at h
  obtain ⟨g374, h⟩ := am_if_some h
  by_cases c375 : x1 < 30
  · rw [if_pos c375] at h
    refine am_r_t (show am_stepn X T_UpRiver_rule 3 true (48, [(0, am_pv 0), (1, am_iv x1)], [], am_SH, (J, K, am_RF true)) = some (((decide (am_i32 30) && decide (am_i32 x1)) && true), .inl (bif am_cb .lt x1 30 then 73 else 54, [(0, am_pv 0), (1, am_iv x1)], [], am_SH, (J, K, am_RF true))) from rfl) (am_g2 (by decide) g374 rfl) (decide_eq_true c375) ?_
    obtain rfl := Option.some.inj h
    exact am_r_ret (show am_stepn X T_UpRiver_rule 2 true (73, [(0, am_pv 0), (1, am_iv x1)], [], am_SH, (J, K, am_RF true)) = some (true, .inr (.inr (some (am_iv (-1)), am_SH, (J, K, am_RF true)))) from rfl) rfl
  · rw [if_neg c375] at h
    refine am_r_f (show am_stepn X T_UpRiver_rule 3 true (48, [(0, am_pv 0), (1, am_iv x1)], [], am_SH, (J, K, am_RF true)) = some (((decide (am_i32 30) && decide (am_i32 x1)) && true), .inl (bif am_cb .lt x1 30 then 73 else 54, [(0, am_pv 0), (1, am_iv x1)], [], am_SH, (J, K, am_RF true))) from rfl) (am_g2 (by decide) g374 rfl) (decide_eq_false c375) ?_
    by_cases c376 : x1 < 42
    · rw [if_pos c376] at h
      refine am_r_f (show am_stepn X T_UpRiver_rule 3 true (54, [(0, am_pv 0), (1, am_iv x1)], [], am_SH, (J, K, am_RF true)) = some (((decide (am_i32 42) && decide (am_i32 x1)) && true), .inl (bif am_cb .ge x1 42 then 73 else 60, [(0, am_pv 0), (1, am_iv x1)], [], am_SH, (J, K, am_RF true))) from rfl) (am_g2 (by decide) g374 rfl) (am_nd_t c376) ?_
      obtain ⟨g377, h⟩ := am_if_some h
      obtain rfl := Option.some.inj h
      exact am_r_ret (show am_stepn X T_UpRiver_rule 8 true (60, [(0, am_pv 0), (1, am_iv x1)], [], am_SH, (J, K, am_RF true)) = some ((am_in (x1 - 30) 12 && true), .inr (.inr (some (am_iv (J (am_rv true + 3) ((x1 - 30).toNat))), am_SH, (J, K, am_RF true)))) from rfl) (am_gi g377 rfl)
    · rw [if_neg c376] at h
      refine am_r_t (show am_stepn X T_UpRiver_rule 3 true (54, [(0, am_pv 0), (1, am_iv x1)], [], am_SH, (J, K, am_RF true)) = some (((decide (am_i32 42) && decide (am_i32 x1)) && true), .inl (bif am_cb .ge x1 42 then 73 else 60, [(0, am_pv 0), (1, am_iv x1)], [], am_SH, (J, K, am_RF true))) from rfl) (am_g2 (by decide) g374 rfl) (am_nd_f c376) ?_
      obtain rfl := Option.some.inj h
      exact am_r_ret (show am_stepn X T_UpRiver_rule 2 true (73, [(0, am_pv 0), (1, am_iv x1)], [], am_SH, (J, K, am_RF true)) = some (true, .inr (.inr (some (am_iv (-1)), am_SH, (J, K, am_RF true)))) from rfl) rfl
theorem s_UpRiver_rule_L20_t {X : am_X} {J : am_J} {K : am_K}  : ∀ (x1 : Int) (r : Int), f_UpRiver_rule_L20 true J   x1 = some r → am_runs X T_UpRiver_rule (20, [(0, am_pv 0), (1, am_iv x1)], [], am_SH, (J, K, am_RF true)) (some (am_iv r), am_SH, (J, K, am_RF true)) := by
  intro x1 r h
  unfold f_UpRiver_rule_L20 at h
  obtain ⟨g378, h⟩ := am_if_some h
  by_cases c379 : x1 < 10
  · rw [if_pos c379] at h
    refine am_r_t (show am_stepn X T_UpRiver_rule 3 true (20, [(0, am_pv 0), (1, am_iv x1)], [], am_SH, (J, K, am_RF true)) = some (((decide (am_i32 10) && decide (am_i32 x1)) && true), .inl (bif am_cb .lt x1 10 then 48 else 26, [(0, am_pv 0), (1, am_iv x1)], [], am_SH, (J, K, am_RF true))) from rfl) (am_g2 (by decide) g378 rfl) (decide_eq_true c379) ?_
    exact s_UpRiver_rule_L48_t  _ _ h
  · rw [if_neg c379] at h
    refine am_r_f (show am_stepn X T_UpRiver_rule 3 true (20, [(0, am_pv 0), (1, am_iv x1)], [], am_SH, (J, K, am_RF true)) = some (((decide (am_i32 10) && decide (am_i32 x1)) && true), .inl (bif am_cb .lt x1 10 then 48 else 26, [(0, am_pv 0), (1, am_iv x1)], [], am_SH, (J, K, am_RF true))) from rfl) (am_g2 (by decide) g378 rfl) (decide_eq_false c379) ?_
    by_cases c380 : x1 < 22
    · rw [if_pos c380] at h
      refine am_r_f (show am_stepn X T_UpRiver_rule 3 true (26, [(0, am_pv 0), (1, am_iv x1)], [], am_SH, (J, K, am_RF true)) = some (((decide (am_i32 22) && decide (am_i32 x1)) && true), .inl (bif am_cb .ge x1 22 then 48 else 32, [(0, am_pv 0), (1, am_iv x1)], [], am_SH, (J, K, am_RF true))) from rfl) (am_g2 (by decide) g378 rfl) (am_nd_t c380) ?_
      obtain ⟨g381, h⟩ := am_if_some h
      obtain rfl := Option.some.inj h
      exact am_r_ret (show am_stepn X T_UpRiver_rule 10 true (32, [(0, am_pv 0), (1, am_iv x1)], [], am_SH, (J, K, am_RF true)) = some ((am_in (x1 - 10) 12 && true), .inr (.inr (some (am_iv ((J (am_rv true + 2) ((x1 - 10).toNat)) + 9)), am_SH, (J, K, am_RF true)))) from rfl) (am_gi g381 rfl)
    · rw [if_neg c380] at h
      refine am_r_t (show am_stepn X T_UpRiver_rule 3 true (26, [(0, am_pv 0), (1, am_iv x1)], [], am_SH, (J, K, am_RF true)) = some (((decide (am_i32 22) && decide (am_i32 x1)) && true), .inl (bif am_cb .ge x1 22 then 48 else 32, [(0, am_pv 0), (1, am_iv x1)], [], am_SH, (J, K, am_RF true))) from rfl) (am_g2 (by decide) g378 rfl) (am_nd_f c380) ?_
      exact s_UpRiver_rule_L48_t  _ _ h
theorem s_UpRiver_rule_t {X : am_X} {J : am_J} {K : am_K} {x1 : Int} {r : Int} (h : f_UpRiver_rule true J x1 = some r) : am_runs X T_UpRiver_rule (0, [(0, am_pv 0), (1, am_iv x1)], [], am_SH, (J, K, am_RF true)) (some (am_iv r), am_SH, (J, K, am_RF true)) := by
  unfold f_UpRiver_rule at h
  obtain ⟨g382, h⟩ := am_if_some h
  by_cases c383 : x1 < 0
  · rw [if_pos c383] at h
    refine am_r_t (show am_stepn X T_UpRiver_rule 2 true (0, [(0, am_pv 0), (1, am_iv x1)], [], am_SH, (J, K, am_RF true)) = some ((decide (am_i32 x1) && true), .inl (bif am_cb .lt x1 0 then 20 else 4, [(0, am_pv 0), (1, am_iv x1)], [], am_SH, (J, K, am_RF true))) from rfl) (am_g1 g382 rfl) (decide_eq_true c383) ?_
    exact s_UpRiver_rule_L20_t  _ _ h
  · rw [if_neg c383] at h
    refine am_r_f (show am_stepn X T_UpRiver_rule 2 true (0, [(0, am_pv 0), (1, am_iv x1)], [], am_SH, (J, K, am_RF true)) = some ((decide (am_i32 x1) && true), .inl (bif am_cb .lt x1 0 then 20 else 4, [(0, am_pv 0), (1, am_iv x1)], [], am_SH, (J, K, am_RF true))) from rfl) (am_g1 g382 rfl) (decide_eq_false c383) ?_
    by_cases c384 : x1 < 7
    · rw [if_pos c384] at h
      refine am_r_f (show am_stepn X T_UpRiver_rule 3 true (4, [(0, am_pv 0), (1, am_iv x1)], [], am_SH, (J, K, am_RF true)) = some (((decide (am_i32 7) && decide (am_i32 x1)) && true), .inl (bif am_cb .ge x1 7 then 20 else 10, [(0, am_pv 0), (1, am_iv x1)], [], am_SH, (J, K, am_RF true))) from rfl) (am_g2 (by decide) g382 rfl) (am_nd_t c384) ?_
      obtain ⟨g385, h⟩ := am_if_some h
      obtain rfl := Option.some.inj h
      exact am_r_ret (show am_stepn X T_UpRiver_rule 6 true (10, [(0, am_pv 0), (1, am_iv x1)], [], am_SH, (J, K, am_RF true)) = some ((am_in x1 7 && true), .inr (.inr (some (am_iv (J (am_rv true + 1) x1.toNat)), am_SH, (J, K, am_RF true)))) from rfl) (am_gi g385 rfl)
    · rw [if_neg c384] at h
      refine am_r_t (show am_stepn X T_UpRiver_rule 3 true (4, [(0, am_pv 0), (1, am_iv x1)], [], am_SH, (J, K, am_RF true)) = some (((decide (am_i32 7) && decide (am_i32 x1)) && true), .inl (bif am_cb .ge x1 7 then 20 else 10, [(0, am_pv 0), (1, am_iv x1)], [], am_SH, (J, K, am_RF true))) from rfl) (am_g2 (by decide) g382 rfl) (am_nd_f c384) ?_
      exact s_UpRiver_rule_L20_t  _ _ h
theorem s_UpRiver_rule {X : am_X} {b : Bool} {J : am_J} {K : am_K} {x1 : Int} {r : Int} (h : f_UpRiver_rule b J x1 = some r) : am_runs X T_UpRiver_rule (0, [(0, am_pv 0), (1, am_iv x1)], [], am_SH, (J, K, am_RF b)) (some (am_iv r), am_SH, (J, K, am_RF b)) := by
  cases b
  · exact s_UpRiver_rule_f h
  · exact s_UpRiver_rule_t h
theorem s_UpRiver_asInt {X : am_X} {b : Bool} {J : am_J} {K : am_K} {x0 : Int} {r : Int} (h : f_UpRiver_asInt  x0 = some r) : am_runs X T_UpRiver_asInt (0, [(0, am_iv x0)], [], am_SH, (J, K, am_RF b)) (some (am_iv r), am_SH, (J, K, am_RF b)) := by
  unfold f_UpRiver_asInt at h
  obtain ⟨g386, h⟩ := am_if_some h
  by_cases c387 : x0 = 0
  · rw [if_pos c387] at h
    refine am_r_t (show am_stepn X T_UpRiver_asInt 2 true (0, [(0, am_iv x0)], [], am_SH, (J, K, am_RF b)) = some ((decide (am_i32 x0) && true), .inl (bif am_cb .eq x0 0 then 8 else 4, [(0, am_iv x0)], [], am_SH, (J, K, am_RF b))) from rfl) (am_g1 g386 rfl) (decide_eq_true c387) ?_
    obtain rfl := Option.some.inj h
    exact am_r_ret (show am_stepn X T_UpRiver_asInt 2 true (8, [(0, am_iv x0)], [], am_SH, (J, K, am_RF b)) = some (true, .inr (.inr (some (am_iv 0), am_SH, (J, K, am_RF b)))) from rfl) rfl
  · rw [if_neg c387] at h
    refine am_r_f (show am_stepn X T_UpRiver_asInt 2 true (0, [(0, am_iv x0)], [], am_SH, (J, K, am_RF b)) = some ((decide (am_i32 x0) && true), .inl (bif am_cb .eq x0 0 then 8 else 4, [(0, am_iv x0)], [], am_SH, (J, K, am_RF b))) from rfl) (am_g1 g386 rfl) (decide_eq_false c387) ?_
    obtain rfl := Option.some.inj h
    exact am_r_ret (show am_stepn X T_UpRiver_asInt 3 true (4, [(0, am_iv x0)], [], am_SH, (J, K, am_RF b)) = some (true, .inr (.inr (some (am_iv 1), am_SH, (J, K, am_RF b)))) from rfl) rfl
theorem s_River_hasReach_32_ {X : am_X} {b : Bool} {J : am_J} {K : am_K} {x1 : Int} {r : Int} (h : f_River_hasReach 32 J x1 = some r) : am_runs X T_River_hasReach (0, [(0, am_pv 32), (1, am_iv x1)], [], am_SH, (J, K, am_RF b)) (some (am_iv r), am_SH, (J, K, am_RF b)) := by
  unfold f_River_hasReach at h
  obtain ⟨g388, h⟩ := am_if_some h
  by_cases c389 : x1 < 0
  · rw [if_pos c389] at h
    refine am_r_t (show am_stepn X T_River_hasReach 2 true (0, [(0, am_pv 32), (1, am_iv x1)], [], am_SH, (J, K, am_RF b)) = some ((decide (am_i32 x1) && true), .inl (bif am_cb .lt x1 0 then 24 else 4, [(0, am_pv 32), (1, am_iv x1)], [], am_SH, (J, K, am_RF b))) from rfl) (am_g1 g388 rfl) (decide_eq_true c389) ?_
    obtain rfl := Option.some.inj h
    exact am_r_ret (show am_stepn X T_River_hasReach 2 true (24, [(0, am_pv 32), (1, am_iv x1)], [], am_SH, (J, K, am_RF b)) = some ((decide ((0 : Int) = 0 ∨ (0 : Int) = 1) && true), .inr (.inr (some (am_iv 0), am_SH, (J, K, am_RF b)))) from rfl) (am_g1 (by decide) rfl)
  · rw [if_neg c389] at h
    refine am_r_f (show am_stepn X T_River_hasReach 2 true (0, [(0, am_pv 32), (1, am_iv x1)], [], am_SH, (J, K, am_RF b)) = some ((decide (am_i32 x1) && true), .inl (bif am_cb .lt x1 0 then 24 else 4, [(0, am_pv 32), (1, am_iv x1)], [], am_SH, (J, K, am_RF b))) from rfl) (am_g1 g388 rfl) (decide_eq_false c389) ?_
    by_cases c390 : x1 < 8
    · rw [if_pos c390] at h
      refine am_r_f (show am_stepn X T_River_hasReach 3 true (4, [(0, am_pv 32), (1, am_iv x1)], [], am_SH, (J, K, am_RF b)) = some (((decide (am_i32 8) && decide (am_i32 x1)) && true), .inl (bif am_cb .ge x1 8 then 24 else 10, [(0, am_pv 32), (1, am_iv x1)], [], am_SH, (J, K, am_RF b))) from rfl) (am_g2 (by decide) g388 rfl) (am_nd_t c390) ?_
      obtain ⟨g391, h⟩ := am_if_some h
      by_cases c392 : x1 < (J (32 + 1) 0)
      · rw [if_pos c392] at h
        refine am_r_f (show am_stepn X T_River_hasReach 6 true (10, [(0, am_pv 32), (1, am_iv x1)], [], am_SH, (J, K, am_RF b)) = some (((decide (am_i32 (J (32 + 1) 0)) && decide (am_i32 x1)) && (am_in 0 7 && true)), .inl (bif am_cb .ge x1 (J (32 + 1) 0) then 24 else 20, [(0, am_pv 32), (1, am_iv x1)], [], am_SH, (J, K, am_RF b))) from rfl) (am_g2 g391 g388 (am_gi (by decide) rfl)) (am_nd_t c392) ?_
        obtain rfl := Option.some.inj h
        exact am_r_ret (show am_stepn X T_River_hasReach 3 true (20, [(0, am_pv 32), (1, am_iv x1)], [], am_SH, (J, K, am_RF b)) = some ((decide ((1 : Int) = 0 ∨ (1 : Int) = 1) && true), .inr (.inr (some (am_iv 1), am_SH, (J, K, am_RF b)))) from rfl) (am_g1 (by decide) rfl)
      · rw [if_neg c392] at h
        refine am_r_t (show am_stepn X T_River_hasReach 6 true (10, [(0, am_pv 32), (1, am_iv x1)], [], am_SH, (J, K, am_RF b)) = some (((decide (am_i32 (J (32 + 1) 0)) && decide (am_i32 x1)) && (am_in 0 7 && true)), .inl (bif am_cb .ge x1 (J (32 + 1) 0) then 24 else 20, [(0, am_pv 32), (1, am_iv x1)], [], am_SH, (J, K, am_RF b))) from rfl) (am_g2 g391 g388 (am_gi (by decide) rfl)) (am_nd_f c392) ?_
        obtain rfl := Option.some.inj h
        exact am_r_ret (show am_stepn X T_River_hasReach 2 true (24, [(0, am_pv 32), (1, am_iv x1)], [], am_SH, (J, K, am_RF b)) = some ((decide ((0 : Int) = 0 ∨ (0 : Int) = 1) && true), .inr (.inr (some (am_iv 0), am_SH, (J, K, am_RF b)))) from rfl) (am_g1 (by decide) rfl)
    · rw [if_neg c390] at h
      refine am_r_t (show am_stepn X T_River_hasReach 3 true (4, [(0, am_pv 32), (1, am_iv x1)], [], am_SH, (J, K, am_RF b)) = some (((decide (am_i32 8) && decide (am_i32 x1)) && true), .inl (bif am_cb .ge x1 8 then 24 else 10, [(0, am_pv 32), (1, am_iv x1)], [], am_SH, (J, K, am_RF b))) from rfl) (am_g2 (by decide) g388 rfl) (am_nd_f c390) ?_
      obtain rfl := Option.some.inj h
      exact am_r_ret (show am_stepn X T_River_hasReach 2 true (24, [(0, am_pv 32), (1, am_iv x1)], [], am_SH, (J, K, am_RF b)) = some ((decide ((0 : Int) = 0 ∨ (0 : Int) = 1) && true), .inr (.inr (some (am_iv 0), am_SH, (J, K, am_RF b)))) from rfl) (am_g1 (by decide) rfl)
theorem s_River_hasReach_6_ {X : am_X} {b : Bool} {J : am_J} {K : am_K} {x1 : Int} {r : Int} (h : f_River_hasReach 6 J x1 = some r) : am_runs X T_River_hasReach (0, [(0, am_pv 6), (1, am_iv x1)], [], am_SH, (J, K, am_RF b)) (some (am_iv r), am_SH, (J, K, am_RF b)) := by
  unfold f_River_hasReach at h
  obtain ⟨g388, h⟩ := am_if_some h
  by_cases c389 : x1 < 0
  · rw [if_pos c389] at h
    refine am_r_t (show am_stepn X T_River_hasReach 2 true (0, [(0, am_pv 6), (1, am_iv x1)], [], am_SH, (J, K, am_RF b)) = some ((decide (am_i32 x1) && true), .inl (bif am_cb .lt x1 0 then 24 else 4, [(0, am_pv 6), (1, am_iv x1)], [], am_SH, (J, K, am_RF b))) from rfl) (am_g1 g388 rfl) (decide_eq_true c389) ?_
    obtain rfl := Option.some.inj h
    exact am_r_ret (show am_stepn X T_River_hasReach 2 true (24, [(0, am_pv 6), (1, am_iv x1)], [], am_SH, (J, K, am_RF b)) = some ((decide ((0 : Int) = 0 ∨ (0 : Int) = 1) && true), .inr (.inr (some (am_iv 0), am_SH, (J, K, am_RF b)))) from rfl) (am_g1 (by decide) rfl)
  · rw [if_neg c389] at h
    refine am_r_f (show am_stepn X T_River_hasReach 2 true (0, [(0, am_pv 6), (1, am_iv x1)], [], am_SH, (J, K, am_RF b)) = some ((decide (am_i32 x1) && true), .inl (bif am_cb .lt x1 0 then 24 else 4, [(0, am_pv 6), (1, am_iv x1)], [], am_SH, (J, K, am_RF b))) from rfl) (am_g1 g388 rfl) (decide_eq_false c389) ?_
    by_cases c390 : x1 < 8
    · rw [if_pos c390] at h
      refine am_r_f (show am_stepn X T_River_hasReach 3 true (4, [(0, am_pv 6), (1, am_iv x1)], [], am_SH, (J, K, am_RF b)) = some (((decide (am_i32 8) && decide (am_i32 x1)) && true), .inl (bif am_cb .ge x1 8 then 24 else 10, [(0, am_pv 6), (1, am_iv x1)], [], am_SH, (J, K, am_RF b))) from rfl) (am_g2 (by decide) g388 rfl) (am_nd_t c390) ?_
      obtain ⟨g391, h⟩ := am_if_some h
      by_cases c392 : x1 < (J (6 + 1) 0)
      · rw [if_pos c392] at h
        refine am_r_f (show am_stepn X T_River_hasReach 6 true (10, [(0, am_pv 6), (1, am_iv x1)], [], am_SH, (J, K, am_RF b)) = some (((decide (am_i32 (J (6 + 1) 0)) && decide (am_i32 x1)) && (am_in 0 7 && true)), .inl (bif am_cb .ge x1 (J (6 + 1) 0) then 24 else 20, [(0, am_pv 6), (1, am_iv x1)], [], am_SH, (J, K, am_RF b))) from rfl) (am_g2 g391 g388 (am_gi (by decide) rfl)) (am_nd_t c392) ?_
        obtain rfl := Option.some.inj h
        exact am_r_ret (show am_stepn X T_River_hasReach 3 true (20, [(0, am_pv 6), (1, am_iv x1)], [], am_SH, (J, K, am_RF b)) = some ((decide ((1 : Int) = 0 ∨ (1 : Int) = 1) && true), .inr (.inr (some (am_iv 1), am_SH, (J, K, am_RF b)))) from rfl) (am_g1 (by decide) rfl)
      · rw [if_neg c392] at h
        refine am_r_t (show am_stepn X T_River_hasReach 6 true (10, [(0, am_pv 6), (1, am_iv x1)], [], am_SH, (J, K, am_RF b)) = some (((decide (am_i32 (J (6 + 1) 0)) && decide (am_i32 x1)) && (am_in 0 7 && true)), .inl (bif am_cb .ge x1 (J (6 + 1) 0) then 24 else 20, [(0, am_pv 6), (1, am_iv x1)], [], am_SH, (J, K, am_RF b))) from rfl) (am_g2 g391 g388 (am_gi (by decide) rfl)) (am_nd_f c392) ?_
        obtain rfl := Option.some.inj h
        exact am_r_ret (show am_stepn X T_River_hasReach 2 true (24, [(0, am_pv 6), (1, am_iv x1)], [], am_SH, (J, K, am_RF b)) = some ((decide ((0 : Int) = 0 ∨ (0 : Int) = 1) && true), .inr (.inr (some (am_iv 0), am_SH, (J, K, am_RF b)))) from rfl) (am_g1 (by decide) rfl)
    · rw [if_neg c390] at h
      refine am_r_t (show am_stepn X T_River_hasReach 3 true (4, [(0, am_pv 6), (1, am_iv x1)], [], am_SH, (J, K, am_RF b)) = some (((decide (am_i32 8) && decide (am_i32 x1)) && true), .inl (bif am_cb .ge x1 8 then 24 else 10, [(0, am_pv 6), (1, am_iv x1)], [], am_SH, (J, K, am_RF b))) from rfl) (am_g2 (by decide) g388 rfl) (am_nd_f c390) ?_
      obtain rfl := Option.some.inj h
      exact am_r_ret (show am_stepn X T_River_hasReach 2 true (24, [(0, am_pv 6), (1, am_iv x1)], [], am_SH, (J, K, am_RF b)) = some ((decide ((0 : Int) = 0 ∨ (0 : Int) = 1) && true), .inr (.inr (some (am_iv 0), am_SH, (J, K, am_RF b)))) from rfl) (am_g1 (by decide) rfl)
theorem s_River_hasReach {X : am_X} {b : Bool} {o1 : Nat} (ho : o1 = 32 ∨ o1 = 6) {J : am_J} {K : am_K} {x1 : Int} {r : Int} (h : f_River_hasReach o1 J x1 = some r) : am_runs X T_River_hasReach (0, [(0, am_pv o1), (1, am_iv x1)], [], am_SH, (J, K, am_RF b)) (some (am_iv r), am_SH, (J, K, am_RF b)) := by
  rcases ho with rfl | rfl
  · skip
    exact s_River_hasReach_32_ h
  · skip
    exact s_River_hasReach_6_ h
theorem s_River_wayOn_32_ {X : am_X} {b : Bool} {J : am_J} {K : am_K} {x1 : Int} {x2 : Int} {r : Int} (h : f_River_wayOn 32 J x1 x2 = some r) : am_runs X T_River_wayOn (0, [(0, am_pv 32), (1, am_iv x1), (2, am_iv x2)], [], am_SH, (J, K, am_RF b)) (some (am_iv r), am_SH, (J, K, am_RF b)) := by
  unfold f_River_wayOn at h
  obtain ⟨q393, e394, h⟩ := am_bind_some h
  refine am_r_call (show am_stepn X T_River_wayOn 3 true (0, [(0, am_pv 32), (1, am_iv x1), (2, am_iv x2)], [], am_SH, (J, K, am_RF b)) = some (true, .inr (.inl (56, [am_pv 32, am_iv x1], 2, 0, 0, 5, [(0, am_pv 32), (1, am_iv x1), (2, am_iv x2)], [], am_SH, (J, K, am_RF b)))) from rfl) rfl tb_River_hasReach (s_River_hasReach (by decide) e394) ?_
  obtain ⟨g395, h⟩ := am_if_some h
  by_cases c396 : q393 = 0
  · rw [if_pos c396] at h
    refine am_r_f (show am_stepn X T_River_wayOn 1 true (5, [(0, am_pv 32), (1, am_iv x1), (2, am_iv x2)], [am_iv q393], am_SH, (J, K, am_RF b)) = some ((decide (am_i32 q393) && true), .inl (bif am_cb .ne q393 0 then 10 else 8, [(0, am_pv 32), (1, am_iv x1), (2, am_iv x2)], [], am_SH, (J, K, am_RF b))) from rfl) (am_g1 g395 rfl) (am_nd_t c396) ?_
    obtain rfl := Option.some.inj h
    exact am_r_ret (show am_stepn X T_River_wayOn 2 true (8, [(0, am_pv 32), (1, am_iv x1), (2, am_iv x2)], [], am_SH, (J, K, am_RF b)) = some (true, .inr (.inr (some (am_iv 0), am_SH, (J, K, am_RF b)))) from rfl) rfl
  · rw [if_neg c396] at h
    refine am_r_t (show am_stepn X T_River_wayOn 1 true (5, [(0, am_pv 32), (1, am_iv x1), (2, am_iv x2)], [am_iv q393], am_SH, (J, K, am_RF b)) = some ((decide (am_i32 q393) && true), .inl (bif am_cb .ne q393 0 then 10 else 8, [(0, am_pv 32), (1, am_iv x1), (2, am_iv x2)], [], am_SH, (J, K, am_RF b))) from rfl) (am_g1 g395 rfl) (am_nd_f c396) ?_
    obtain ⟨g397, h⟩ := am_if_some h
    obtain ⟨g398, h⟩ := am_if_some h
    by_cases c399 : (J (32 + 7) x1.toNat) = 0
    · rw [if_pos c399] at h
      refine am_r_t (show am_stepn X T_River_wayOn 5 true (10, [(0, am_pv 32), (1, am_iv x1), (2, am_iv x2)], [], am_SH, (J, K, am_RF b)) = some ((decide (am_i32 (J (32 + 7) x1.toNat)) && (am_in x1 8 && true)), .inl (bif am_cb .eq (J (32 + 7) x1.toNat) 0 then 21 else 19, [(0, am_pv 32), (1, am_iv x1), (2, am_iv x2)], [], am_SH, (J, K, am_RF b))) from rfl) (am_g1 g398 (am_gi g397 rfl)) (decide_eq_true c399) ?_
      obtain ⟨g400, h⟩ := am_if_some h
      by_cases c401 : x2 = 0
      · rw [if_pos c401] at h
        refine am_r_f (show am_stepn X T_River_wayOn 18 true (21, [(0, am_pv 32), (1, am_iv x1), (2, am_iv x2)], [], am_SH, (J, K, am_RF b)) = some ((decide (am_i32 x2) && (am_in 3 7 && (am_in 4 7 && (am_in x1 8 && true)))), .inl (bif am_cb .ne x2 0 then 51 else 47, [(0, am_pv 32), (1, am_iv x1), (2, am_iv x2), (3, am_iv (((J (32 + 6) x1.toNat) - 1) * (J (32 + 1) 4)))], [am_iv (J (32 + 1) 3)], am_SH, (J, K, am_RF b))) from rfl) (am_g1 g400 (am_gi (by decide) (am_gi (by decide) (am_gi g397 rfl)))) (am_nd_t c401) ?_
        obtain rfl := Option.some.inj h
        exact am_r_ret (show am_stepn X T_River_wayOn 4 true (47, [(0, am_pv 32), (1, am_iv x1), (2, am_iv x2), (3, am_iv (((J (32 + 6) x1.toNat) - 1) * (J (32 + 1) 4)))], [am_iv (J (32 + 1) 3)], am_SH, (J, K, am_RF b)) = some (true, .inr (.inr (some (am_iv ((J (32 + 1) 3) + (((J (32 + 6) x1.toNat) - 1) * (J (32 + 1) 4)))), am_SH, (J, K, am_RF b)))) from rfl) rfl
      · rw [if_neg c401] at h
        refine am_r_t (show am_stepn X T_River_wayOn 18 true (21, [(0, am_pv 32), (1, am_iv x1), (2, am_iv x2)], [], am_SH, (J, K, am_RF b)) = some ((decide (am_i32 x2) && (am_in 3 7 && (am_in 4 7 && (am_in x1 8 && true)))), .inl (bif am_cb .ne x2 0 then 51 else 47, [(0, am_pv 32), (1, am_iv x1), (2, am_iv x2), (3, am_iv (((J (32 + 6) x1.toNat) - 1) * (J (32 + 1) 4)))], [am_iv (J (32 + 1) 3)], am_SH, (J, K, am_RF b))) from rfl) (am_g1 g400 (am_gi (by decide) (am_gi (by decide) (am_gi g397 rfl)))) (am_nd_f c401) ?_
        obtain rfl := Option.some.inj h
        exact am_r_ret (show am_stepn X T_River_wayOn 4 true (51, [(0, am_pv 32), (1, am_iv x1), (2, am_iv x2), (3, am_iv (((J (32 + 6) x1.toNat) - 1) * (J (32 + 1) 4)))], [am_iv (J (32 + 1) 3)], am_SH, (J, K, am_RF b)) = some (true, .inr (.inr (some (am_iv ((J (32 + 1) 3) + (-(((J (32 + 6) x1.toNat) - 1) * (J (32 + 1) 4))))), am_SH, (J, K, am_RF b)))) from rfl) rfl
    · rw [if_neg c399] at h
      refine am_r_f (show am_stepn X T_River_wayOn 5 true (10, [(0, am_pv 32), (1, am_iv x1), (2, am_iv x2)], [], am_SH, (J, K, am_RF b)) = some ((decide (am_i32 (J (32 + 7) x1.toNat)) && (am_in x1 8 && true)), .inl (bif am_cb .eq (J (32 + 7) x1.toNat) 0 then 21 else 19, [(0, am_pv 32), (1, am_iv x1), (2, am_iv x2)], [], am_SH, (J, K, am_RF b))) from rfl) (am_g1 g398 (am_gi g397 rfl)) (decide_eq_false c399) ?_
      obtain rfl := Option.some.inj h
      exact am_r_ret (show am_stepn X T_River_wayOn 2 true (19, [(0, am_pv 32), (1, am_iv x1), (2, am_iv x2)], [], am_SH, (J, K, am_RF b)) = some (true, .inr (.inr (some (am_iv 1), am_SH, (J, K, am_RF b)))) from rfl) rfl
theorem s_River_wayOn_6_ {X : am_X} {b : Bool} {J : am_J} {K : am_K} {x1 : Int} {x2 : Int} {r : Int} (h : f_River_wayOn 6 J x1 x2 = some r) : am_runs X T_River_wayOn (0, [(0, am_pv 6), (1, am_iv x1), (2, am_iv x2)], [], am_SH, (J, K, am_RF b)) (some (am_iv r), am_SH, (J, K, am_RF b)) := by
  unfold f_River_wayOn at h
  obtain ⟨q393, e394, h⟩ := am_bind_some h
  refine am_r_call (show am_stepn X T_River_wayOn 3 true (0, [(0, am_pv 6), (1, am_iv x1), (2, am_iv x2)], [], am_SH, (J, K, am_RF b)) = some (true, .inr (.inl (56, [am_pv 6, am_iv x1], 2, 0, 0, 5, [(0, am_pv 6), (1, am_iv x1), (2, am_iv x2)], [], am_SH, (J, K, am_RF b)))) from rfl) rfl tb_River_hasReach (s_River_hasReach (by decide) e394) ?_
  obtain ⟨g395, h⟩ := am_if_some h
  by_cases c396 : q393 = 0
  · rw [if_pos c396] at h
    refine am_r_f (show am_stepn X T_River_wayOn 1 true (5, [(0, am_pv 6), (1, am_iv x1), (2, am_iv x2)], [am_iv q393], am_SH, (J, K, am_RF b)) = some ((decide (am_i32 q393) && true), .inl (bif am_cb .ne q393 0 then 10 else 8, [(0, am_pv 6), (1, am_iv x1), (2, am_iv x2)], [], am_SH, (J, K, am_RF b))) from rfl) (am_g1 g395 rfl) (am_nd_t c396) ?_
    obtain rfl := Option.some.inj h
    exact am_r_ret (show am_stepn X T_River_wayOn 2 true (8, [(0, am_pv 6), (1, am_iv x1), (2, am_iv x2)], [], am_SH, (J, K, am_RF b)) = some (true, .inr (.inr (some (am_iv 0), am_SH, (J, K, am_RF b)))) from rfl) rfl
  · rw [if_neg c396] at h
    refine am_r_t (show am_stepn X T_River_wayOn 1 true (5, [(0, am_pv 6), (1, am_iv x1), (2, am_iv x2)], [am_iv q393], am_SH, (J, K, am_RF b)) = some ((decide (am_i32 q393) && true), .inl (bif am_cb .ne q393 0 then 10 else 8, [(0, am_pv 6), (1, am_iv x1), (2, am_iv x2)], [], am_SH, (J, K, am_RF b))) from rfl) (am_g1 g395 rfl) (am_nd_f c396) ?_
    obtain ⟨g397, h⟩ := am_if_some h
    obtain ⟨g398, h⟩ := am_if_some h
    by_cases c399 : (J (6 + 7) x1.toNat) = 0
    · rw [if_pos c399] at h
      refine am_r_t (show am_stepn X T_River_wayOn 5 true (10, [(0, am_pv 6), (1, am_iv x1), (2, am_iv x2)], [], am_SH, (J, K, am_RF b)) = some ((decide (am_i32 (J (6 + 7) x1.toNat)) && (am_in x1 8 && true)), .inl (bif am_cb .eq (J (6 + 7) x1.toNat) 0 then 21 else 19, [(0, am_pv 6), (1, am_iv x1), (2, am_iv x2)], [], am_SH, (J, K, am_RF b))) from rfl) (am_g1 g398 (am_gi g397 rfl)) (decide_eq_true c399) ?_
      obtain ⟨g400, h⟩ := am_if_some h
      by_cases c401 : x2 = 0
      · rw [if_pos c401] at h
        refine am_r_f (show am_stepn X T_River_wayOn 18 true (21, [(0, am_pv 6), (1, am_iv x1), (2, am_iv x2)], [], am_SH, (J, K, am_RF b)) = some ((decide (am_i32 x2) && (am_in 3 7 && (am_in 4 7 && (am_in x1 8 && true)))), .inl (bif am_cb .ne x2 0 then 51 else 47, [(0, am_pv 6), (1, am_iv x1), (2, am_iv x2), (3, am_iv (((J (6 + 6) x1.toNat) - 1) * (J (6 + 1) 4)))], [am_iv (J (6 + 1) 3)], am_SH, (J, K, am_RF b))) from rfl) (am_g1 g400 (am_gi (by decide) (am_gi (by decide) (am_gi g397 rfl)))) (am_nd_t c401) ?_
        obtain rfl := Option.some.inj h
        exact am_r_ret (show am_stepn X T_River_wayOn 4 true (47, [(0, am_pv 6), (1, am_iv x1), (2, am_iv x2), (3, am_iv (((J (6 + 6) x1.toNat) - 1) * (J (6 + 1) 4)))], [am_iv (J (6 + 1) 3)], am_SH, (J, K, am_RF b)) = some (true, .inr (.inr (some (am_iv ((J (6 + 1) 3) + (((J (6 + 6) x1.toNat) - 1) * (J (6 + 1) 4)))), am_SH, (J, K, am_RF b)))) from rfl) rfl
      · rw [if_neg c401] at h
        refine am_r_t (show am_stepn X T_River_wayOn 18 true (21, [(0, am_pv 6), (1, am_iv x1), (2, am_iv x2)], [], am_SH, (J, K, am_RF b)) = some ((decide (am_i32 x2) && (am_in 3 7 && (am_in 4 7 && (am_in x1 8 && true)))), .inl (bif am_cb .ne x2 0 then 51 else 47, [(0, am_pv 6), (1, am_iv x1), (2, am_iv x2), (3, am_iv (((J (6 + 6) x1.toNat) - 1) * (J (6 + 1) 4)))], [am_iv (J (6 + 1) 3)], am_SH, (J, K, am_RF b))) from rfl) (am_g1 g400 (am_gi (by decide) (am_gi (by decide) (am_gi g397 rfl)))) (am_nd_f c401) ?_
        obtain rfl := Option.some.inj h
        exact am_r_ret (show am_stepn X T_River_wayOn 4 true (51, [(0, am_pv 6), (1, am_iv x1), (2, am_iv x2), (3, am_iv (((J (6 + 6) x1.toNat) - 1) * (J (6 + 1) 4)))], [am_iv (J (6 + 1) 3)], am_SH, (J, K, am_RF b)) = some (true, .inr (.inr (some (am_iv ((J (6 + 1) 3) + (-(((J (6 + 6) x1.toNat) - 1) * (J (6 + 1) 4))))), am_SH, (J, K, am_RF b)))) from rfl) rfl
    · rw [if_neg c399] at h
      refine am_r_f (show am_stepn X T_River_wayOn 5 true (10, [(0, am_pv 6), (1, am_iv x1), (2, am_iv x2)], [], am_SH, (J, K, am_RF b)) = some ((decide (am_i32 (J (6 + 7) x1.toNat)) && (am_in x1 8 && true)), .inl (bif am_cb .eq (J (6 + 7) x1.toNat) 0 then 21 else 19, [(0, am_pv 6), (1, am_iv x1), (2, am_iv x2)], [], am_SH, (J, K, am_RF b))) from rfl) (am_g1 g398 (am_gi g397 rfl)) (decide_eq_false c399) ?_
      obtain rfl := Option.some.inj h
      exact am_r_ret (show am_stepn X T_River_wayOn 2 true (19, [(0, am_pv 6), (1, am_iv x1), (2, am_iv x2)], [], am_SH, (J, K, am_RF b)) = some (true, .inr (.inr (some (am_iv 1), am_SH, (J, K, am_RF b)))) from rfl) rfl
theorem s_River_wayOn {X : am_X} {b : Bool} {o1 : Nat} (ho : o1 = 32 ∨ o1 = 6) {J : am_J} {K : am_K} {x1 : Int} {x2 : Int} {r : Int} (h : f_River_wayOn o1 J x1 x2 = some r) : am_runs X T_River_wayOn (0, [(0, am_pv o1), (1, am_iv x1), (2, am_iv x2)], [], am_SH, (J, K, am_RF b)) (some (am_iv r), am_SH, (J, K, am_RF b)) := by
  rcases ho with rfl | rfl
  · skip
    exact s_River_wayOn_32_ h
  · skip
    exact s_River_wayOn_6_ h
theorem s_UpRiver_reach_L76_f {X : am_X} {J : am_J} {K : am_K}  : ∀ (x1 : Int) (x2 : Int) (r : Int), f_UpRiver_reach_L76 false J   x1 x2 = some r → am_runs X T_UpRiver_reach (76, [(0, am_pv 0), (1, am_iv x1), (2, am_iv x2)], [], am_SH, (J, K, am_RF false)) (some (am_iv r), am_SH, (J, K, am_RF false)) := by
  intro x1 x2 r h
  unfold f_UpRiver_reach_L76 at h
  obtain ⟨g402, h⟩ := am_if_some h
  by_cases c403 : x2 = 0
  · rw [if_pos c403] at h
    refine am_r_sw (show am_stepn X T_UpRiver_reach 2 true (76, [(0, am_pv 0), (1, am_iv x1), (2, am_iv x2)], [], am_SH, (J, K, am_RF false)) = some ((decide (am_i32 x2) && true), .inl (am_sw 0 5 [179, 116, 126, 136, 149, 159, 169] x2, [(0, am_pv 0), (1, am_iv x1), (2, am_iv x2)], [], am_SH, (J, K, am_RF false))) from rfl) (am_g1 g402 rfl) (p := 116) (by rw [c403]; rfl) ?_
    obtain ⟨g404, h⟩ := am_if_some h
    obtain rfl := Option.some.inj h
    exact am_r_ret (show am_stepn X T_UpRiver_reach 6 true (116, [(0, am_pv 0), (1, am_iv x1), (2, am_iv x2)], [], am_SH, (J, K, am_RF false)) = some ((am_in x1 8 && true), .inr (.inr (some (am_iv (J (am_rv false + 4) x1.toNat)), am_SH, (J, K, am_RF false)))) from rfl) (am_gi g404 rfl)
  · rw [if_neg c403] at h
    by_cases c405 : x2 = 1
    · rw [if_pos c405] at h
      refine am_r_sw (show am_stepn X T_UpRiver_reach 2 true (76, [(0, am_pv 0), (1, am_iv x1), (2, am_iv x2)], [], am_SH, (J, K, am_RF false)) = some ((decide (am_i32 x2) && true), .inl (am_sw 0 5 [179, 116, 126, 136, 149, 159, 169] x2, [(0, am_pv 0), (1, am_iv x1), (2, am_iv x2)], [], am_SH, (J, K, am_RF false))) from rfl) (am_g1 g402 rfl) (p := 126) (by rw [c405]; rfl) ?_
      obtain ⟨g406, h⟩ := am_if_some h
      obtain rfl := Option.some.inj h
      exact am_r_ret (show am_stepn X T_UpRiver_reach 6 true (126, [(0, am_pv 0), (1, am_iv x1), (2, am_iv x2)], [], am_SH, (J, K, am_RF false)) = some ((am_in x1 8 && true), .inr (.inr (some (am_iv (J (am_rv false + 5) x1.toNat)), am_SH, (J, K, am_RF false)))) from rfl) (am_gi g406 rfl)
    · rw [if_neg c405] at h
      by_cases c407 : x2 = 2
      · rw [if_pos c407] at h
        refine am_r_sw (show am_stepn X T_UpRiver_reach 2 true (76, [(0, am_pv 0), (1, am_iv x1), (2, am_iv x2)], [], am_SH, (J, K, am_RF false)) = some ((decide (am_i32 x2) && true), .inl (am_sw 0 5 [179, 116, 126, 136, 149, 159, 169] x2, [(0, am_pv 0), (1, am_iv x1), (2, am_iv x2)], [], am_SH, (J, K, am_RF false))) from rfl) (am_g1 g402 rfl) (p := 136) (by rw [c407]; rfl) ?_
        obtain ⟨g408, h⟩ := am_if_some h
        obtain ⟨q409, e410, h⟩ := am_bind_some h
        refine am_r_call (show am_stepn X T_UpRiver_reach 6 true (136, [(0, am_pv 0), (1, am_iv x1), (2, am_iv x2)], [], am_SH, (J, K, am_RF false)) = some ((am_in x1 8 && true), .inr (.inl (57, [am_iv (J (am_rv false + 7) x1.toNat)], 1, 0, 0, 148, [(0, am_pv 0), (1, am_iv x1)], [], am_SH, (J, K, am_RF false)))) from rfl) (am_gi g408 rfl) tb_UpRiver_asInt (s_UpRiver_asInt e410) ?_
        obtain rfl := Option.some.inj h
        exact am_r_ret (show am_stepn X T_UpRiver_reach 1 true (148, [(0, am_pv 0), (1, am_iv x1)], [am_iv q409], am_SH, (J, K, am_RF false)) = some (true, .inr (.inr (some (am_iv q409), am_SH, (J, K, am_RF false)))) from rfl) rfl
      · rw [if_neg c407] at h
        by_cases c411 : x2 = 3
        · rw [if_pos c411] at h
          refine am_r_sw (show am_stepn X T_UpRiver_reach 2 true (76, [(0, am_pv 0), (1, am_iv x1), (2, am_iv x2)], [], am_SH, (J, K, am_RF false)) = some ((decide (am_i32 x2) && true), .inl (am_sw 0 5 [179, 116, 126, 136, 149, 159, 169] x2, [(0, am_pv 0), (1, am_iv x1), (2, am_iv x2)], [], am_SH, (J, K, am_RF false))) from rfl) (am_g1 g402 rfl) (p := 149) (by rw [c411]; rfl) ?_
          obtain ⟨g412, h⟩ := am_if_some h
          obtain rfl := Option.some.inj h
          exact am_r_ret (show am_stepn X T_UpRiver_reach 6 true (149, [(0, am_pv 0), (1, am_iv x1), (2, am_iv x2)], [], am_SH, (J, K, am_RF false)) = some ((am_in x1 8 && true), .inr (.inr (some (am_iv (J (am_rv false + 6) x1.toNat)), am_SH, (J, K, am_RF false)))) from rfl) (am_gi g412 rfl)
        · rw [if_neg c411] at h
          by_cases c413 : x2 = 4
          · rw [if_pos c413] at h
            refine am_r_sw (show am_stepn X T_UpRiver_reach 2 true (76, [(0, am_pv 0), (1, am_iv x1), (2, am_iv x2)], [], am_SH, (J, K, am_RF false)) = some ((decide (am_i32 x2) && true), .inl (am_sw 0 5 [179, 116, 126, 136, 149, 159, 169] x2, [(0, am_pv 0), (1, am_iv x1), (2, am_iv x2)], [], am_SH, (J, K, am_RF false))) from rfl) (am_g1 g402 rfl) (p := 159) (by rw [c413]; rfl) ?_
            obtain ⟨q414, e415, h⟩ := am_bind_some h
            refine am_r_call (show am_stepn X T_UpRiver_reach 5 true (159, [(0, am_pv 0), (1, am_iv x1), (2, am_iv x2)], [], am_SH, (J, K, am_RF false)) = some (true, .inr (.inl (58, [am_pv (am_rv false), am_iv x1, am_iv 0], 4, 0, 0, 168, [(0, am_pv 0), (1, am_iv x1)], [], am_SH, (J, K, am_RF false)))) from rfl) rfl tb_River_wayOn (s_River_wayOn (by decide) e415) ?_
            obtain rfl := Option.some.inj h
            exact am_r_ret (show am_stepn X T_UpRiver_reach 1 true (168, [(0, am_pv 0), (1, am_iv x1)], [am_iv q414], am_SH, (J, K, am_RF false)) = some (true, .inr (.inr (some (am_iv q414), am_SH, (J, K, am_RF false)))) from rfl) rfl
          · rw [if_neg c413] at h
            by_cases c416 : x2 = 5
            · rw [if_pos c416] at h
              refine am_r_sw (show am_stepn X T_UpRiver_reach 2 true (76, [(0, am_pv 0), (1, am_iv x1), (2, am_iv x2)], [], am_SH, (J, K, am_RF false)) = some ((decide (am_i32 x2) && true), .inl (am_sw 0 5 [179, 116, 126, 136, 149, 159, 169] x2, [(0, am_pv 0), (1, am_iv x1), (2, am_iv x2)], [], am_SH, (J, K, am_RF false))) from rfl) (am_g1 g402 rfl) (p := 169) (by rw [c416]; rfl) ?_
              obtain ⟨q417, e418, h⟩ := am_bind_some h
              refine am_r_call (show am_stepn X T_UpRiver_reach 5 true (169, [(0, am_pv 0), (1, am_iv x1), (2, am_iv x2)], [], am_SH, (J, K, am_RF false)) = some (true, .inr (.inl (58, [am_pv (am_rv false), am_iv x1, am_iv 1], 4, 0, 0, 178, [(0, am_pv 0), (1, am_iv x1)], [], am_SH, (J, K, am_RF false)))) from rfl) rfl tb_River_wayOn (s_River_wayOn (by decide) e418) ?_
              obtain rfl := Option.some.inj h
              exact am_r_ret (show am_stepn X T_UpRiver_reach 1 true (178, [(0, am_pv 0), (1, am_iv x1)], [am_iv q417], am_SH, (J, K, am_RF false)) = some (true, .inr (.inr (some (am_iv q417), am_SH, (J, K, am_RF false)))) from rfl) rfl
            · rw [if_neg c416] at h
              refine am_r_sw (show am_stepn X T_UpRiver_reach 2 true (76, [(0, am_pv 0), (1, am_iv x1), (2, am_iv x2)], [], am_SH, (J, K, am_RF false)) = some ((decide (am_i32 x2) && true), .inl (am_sw 0 5 [179, 116, 126, 136, 149, 159, 169] x2, [(0, am_pv 0), (1, am_iv x1), (2, am_iv x2)], [], am_SH, (J, K, am_RF false))) from rfl) (am_g1 g402 rfl) (p := 179) (am_sw_out (by omega)) ?_
              obtain rfl := Option.some.inj h
              exact am_r_ret (show am_stepn X T_UpRiver_reach 2 true (179, [(0, am_pv 0), (1, am_iv x1), (2, am_iv x2)], [], am_SH, (J, K, am_RF false)) = some (true, .inr (.inr (some (am_iv (-1)), am_SH, (J, K, am_RF false)))) from rfl) rfl
theorem s_UpRiver_reach_L43_f {X : am_X} {J : am_J} {K : am_K}  : ∀ (x1 : Int) (x2 : Int) (r : Int), f_UpRiver_reach_L43 false J   x1 x2 = some r → am_runs X T_UpRiver_reach (43, [(0, am_pv 0), (1, am_iv x1), (2, am_iv x2)], [], am_SH, (J, K, am_RF false)) (some (am_iv r), am_SH, (J, K, am_RF false)) := by
  intro x1 x2 r h
  unfold f_UpRiver_reach_L43 at h
  obtain ⟨g419, h⟩ := am_if_some h
  by_cases c420 : x2 < 20
  · rw [if_pos c420] at h
    refine am_r_t (show am_stepn X T_UpRiver_reach 3 true (43, [(0, am_pv 0), (1, am_iv x1), (2, am_iv x2)], [], am_SH, (J, K, am_RF false)) = some (((decide (am_i32 20) && decide (am_i32 x2)) && true), .inl (bif am_cb .lt x2 20 then 76 else 49, [(0, am_pv 0), (1, am_iv x1), (2, am_iv x2)], [], am_SH, (J, K, am_RF false))) from rfl) (am_g2 (by decide) g419 rfl) (decide_eq_true c420) ?_
    exact s_UpRiver_reach_L76_f  _ _ _ h
  · rw [if_neg c420] at h
    refine am_r_f (show am_stepn X T_UpRiver_reach 3 true (43, [(0, am_pv 0), (1, am_iv x1), (2, am_iv x2)], [], am_SH, (J, K, am_RF false)) = some (((decide (am_i32 20) && decide (am_i32 x2)) && true), .inl (bif am_cb .lt x2 20 then 76 else 49, [(0, am_pv 0), (1, am_iv x1), (2, am_iv x2)], [], am_SH, (J, K, am_RF false))) from rfl) (am_g2 (by decide) g419 rfl) (decide_eq_false c420) ?_
    by_cases c421 : x2 < 29
    · rw [if_pos c421] at h
      refine am_r_f (show am_stepn X T_UpRiver_reach 3 true (49, [(0, am_pv 0), (1, am_iv x1), (2, am_iv x2)], [], am_SH, (J, K, am_RF false)) = some (((decide (am_i32 29) && decide (am_i32 x2)) && true), .inl (bif am_cb .ge x2 29 then 76 else 55, [(0, am_pv 0), (1, am_iv x1), (2, am_iv x2)], [], am_SH, (J, K, am_RF false))) from rfl) (am_g2 (by decide) g419 rfl) (am_nd_t c421) ?_
      obtain ⟨g422, h⟩ := am_if_some h
      obtain ⟨q423, e424, h⟩ := am_bind_some h
      refine am_r_call (show am_stepn X T_UpRiver_reach 12 true (55, [(0, am_pv 0), (1, am_iv x1), (2, am_iv x2)], [], am_SH, (J, K, am_RF false)) = some ((am_in (((x1 * 9) + x2) - 20) 72 && true), .inr (.inl (57, [am_iv (J (am_rv false + 9) ((((x1 * 9) + x2) - 20).toNat))], 1, 0, 0, 75, [(0, am_pv 0), (1, am_iv x1), (2, am_iv x2)], [], am_SH, (J, K, am_RF false)))) from rfl) (am_gi g422 rfl) tb_UpRiver_asInt (s_UpRiver_asInt e424) ?_
      obtain rfl := Option.some.inj h
      exact am_r_ret (show am_stepn X T_UpRiver_reach 1 true (75, [(0, am_pv 0), (1, am_iv x1), (2, am_iv x2)], [am_iv q423], am_SH, (J, K, am_RF false)) = some (true, .inr (.inr (some (am_iv q423), am_SH, (J, K, am_RF false)))) from rfl) rfl
    · rw [if_neg c421] at h
      refine am_r_t (show am_stepn X T_UpRiver_reach 3 true (49, [(0, am_pv 0), (1, am_iv x1), (2, am_iv x2)], [], am_SH, (J, K, am_RF false)) = some (((decide (am_i32 29) && decide (am_i32 x2)) && true), .inl (bif am_cb .ge x2 29 then 76 else 55, [(0, am_pv 0), (1, am_iv x1), (2, am_iv x2)], [], am_SH, (J, K, am_RF false))) from rfl) (am_g2 (by decide) g419 rfl) (am_nd_f c421) ?_
      exact s_UpRiver_reach_L76_f  _ _ _ h
theorem s_UpRiver_reach_f {X : am_X} {J : am_J} {K : am_K} {x1 : Int} {x2 : Int} {r : Int} (h : f_UpRiver_reach false J x1 x2 = some r) : am_runs X T_UpRiver_reach (0, [(0, am_pv 0), (1, am_iv x1), (2, am_iv x2)], [], am_SH, (J, K, am_RF false)) (some (am_iv r), am_SH, (J, K, am_RF false)) := by
  unfold f_UpRiver_reach at h
  obtain ⟨q425, e426, h⟩ := am_bind_some h
  refine am_r_call (show am_stepn X T_UpRiver_reach 4 true (0, [(0, am_pv 0), (1, am_iv x1), (2, am_iv x2)], [], am_SH, (J, K, am_RF false)) = some (true, .inr (.inl (56, [am_pv (am_rv false), am_iv x1], 2, 0, 0, 8, [(0, am_pv 0), (1, am_iv x1), (2, am_iv x2)], [], am_SH, (J, K, am_RF false)))) from rfl) rfl tb_River_hasReach (s_River_hasReach (by decide) e426) ?_
  obtain ⟨g427, h⟩ := am_if_some h
  by_cases c428 : q425 = 0
  · rw [if_pos c428] at h
    refine am_r_f (show am_stepn X T_UpRiver_reach 1 true (8, [(0, am_pv 0), (1, am_iv x1), (2, am_iv x2)], [am_iv q425], am_SH, (J, K, am_RF false)) = some ((decide (am_i32 q425) && true), .inl (bif am_cb .ne q425 0 then 13 else 11, [(0, am_pv 0), (1, am_iv x1), (2, am_iv x2)], [], am_SH, (J, K, am_RF false))) from rfl) (am_g1 g427 rfl) (am_nd_t c428) ?_
    obtain rfl := Option.some.inj h
    exact am_r_ret (show am_stepn X T_UpRiver_reach 2 true (11, [(0, am_pv 0), (1, am_iv x1), (2, am_iv x2)], [], am_SH, (J, K, am_RF false)) = some (true, .inr (.inr (some (am_iv (-1)), am_SH, (J, K, am_RF false)))) from rfl) rfl
  · rw [if_neg c428] at h
    refine am_r_t (show am_stepn X T_UpRiver_reach 1 true (8, [(0, am_pv 0), (1, am_iv x1), (2, am_iv x2)], [am_iv q425], am_SH, (J, K, am_RF false)) = some ((decide (am_i32 q425) && true), .inl (bif am_cb .ne q425 0 then 13 else 11, [(0, am_pv 0), (1, am_iv x1), (2, am_iv x2)], [], am_SH, (J, K, am_RF false))) from rfl) (am_g1 g427 rfl) (am_nd_f c428) ?_
    obtain ⟨g429, h⟩ := am_if_some h
    by_cases c430 : x2 < 10
    · rw [if_pos c430] at h
      refine am_r_t (show am_stepn X T_UpRiver_reach 3 true (13, [(0, am_pv 0), (1, am_iv x1), (2, am_iv x2)], [], am_SH, (J, K, am_RF false)) = some (((decide (am_i32 10) && decide (am_i32 x2)) && true), .inl (bif am_cb .lt x2 10 then 43 else 19, [(0, am_pv 0), (1, am_iv x1), (2, am_iv x2)], [], am_SH, (J, K, am_RF false))) from rfl) (am_g2 (by decide) g429 rfl) (decide_eq_true c430) ?_
      exact s_UpRiver_reach_L43_f  _ _ _ h
    · rw [if_neg c430] at h
      refine am_r_f (show am_stepn X T_UpRiver_reach 3 true (13, [(0, am_pv 0), (1, am_iv x1), (2, am_iv x2)], [], am_SH, (J, K, am_RF false)) = some (((decide (am_i32 10) && decide (am_i32 x2)) && true), .inl (bif am_cb .lt x2 10 then 43 else 19, [(0, am_pv 0), (1, am_iv x1), (2, am_iv x2)], [], am_SH, (J, K, am_RF false))) from rfl) (am_g2 (by decide) g429 rfl) (decide_eq_false c430) ?_
      by_cases c431 : x2 < 19
      · rw [if_pos c431] at h
        refine am_r_f (show am_stepn X T_UpRiver_reach 3 true (19, [(0, am_pv 0), (1, am_iv x1), (2, am_iv x2)], [], am_SH, (J, K, am_RF false)) = some (((decide (am_i32 19) && decide (am_i32 x2)) && true), .inl (bif am_cb .ge x2 19 then 43 else 25, [(0, am_pv 0), (1, am_iv x1), (2, am_iv x2)], [], am_SH, (J, K, am_RF false))) from rfl) (am_g2 (by decide) g429 rfl) (am_nd_t c431) ?_
        obtain ⟨g432, h⟩ := am_if_some h
        obtain rfl := Option.some.inj h
        exact am_r_ret (show am_stepn X T_UpRiver_reach 12 true (25, [(0, am_pv 0), (1, am_iv x1), (2, am_iv x2)], [], am_SH, (J, K, am_RF false)) = some ((am_in (((x1 * 9) + x2) - 10) 72 && true), .inr (.inr (some (am_iv (J (am_rv false + 8) ((((x1 * 9) + x2) - 10).toNat))), am_SH, (J, K, am_RF false)))) from rfl) (am_gi g432 rfl)
      · rw [if_neg c431] at h
        refine am_r_t (show am_stepn X T_UpRiver_reach 3 true (19, [(0, am_pv 0), (1, am_iv x1), (2, am_iv x2)], [], am_SH, (J, K, am_RF false)) = some (((decide (am_i32 19) && decide (am_i32 x2)) && true), .inl (bif am_cb .ge x2 19 then 43 else 25, [(0, am_pv 0), (1, am_iv x1), (2, am_iv x2)], [], am_SH, (J, K, am_RF false))) from rfl) (am_g2 (by decide) g429 rfl) (am_nd_f c431) ?_
        exact s_UpRiver_reach_L43_f  _ _ _ h
theorem s_UpRiver_reach_L76_t {X : am_X} {J : am_J} {K : am_K}  : ∀ (x1 : Int) (x2 : Int) (r : Int), f_UpRiver_reach_L76 true J   x1 x2 = some r → am_runs X T_UpRiver_reach (76, [(0, am_pv 0), (1, am_iv x1), (2, am_iv x2)], [], am_SH, (J, K, am_RF true)) (some (am_iv r), am_SH, (J, K, am_RF true)) := by
  intro x1 x2 r h
  unfold f_UpRiver_reach_L76 at h
  obtain ⟨g402, h⟩ := am_if_some h
  by_cases c403 : x2 = 0
  · rw [if_pos c403] at h
    refine am_r_sw (show am_stepn X T_UpRiver_reach 2 true (76, [(0, am_pv 0), (1, am_iv x1), (2, am_iv x2)], [], am_SH, (J, K, am_RF true)) = some ((decide (am_i32 x2) && true), .inl (am_sw 0 5 [179, 116, 126, 136, 149, 159, 169] x2, [(0, am_pv 0), (1, am_iv x1), (2, am_iv x2)], [], am_SH, (J, K, am_RF true))) from rfl) (am_g1 g402 rfl) (p := 116) (by rw [c403]; rfl) ?_
    obtain ⟨g404, h⟩ := am_if_some h
    obtain rfl := Option.some.inj h
    exact am_r_ret (show am_stepn X T_UpRiver_reach 6 true (116, [(0, am_pv 0), (1, am_iv x1), (2, am_iv x2)], [], am_SH, (J, K, am_RF true)) = some ((am_in x1 8 && true), .inr (.inr (some (am_iv (J (am_rv true + 4) x1.toNat)), am_SH, (J, K, am_RF true)))) from rfl) (am_gi g404 rfl)
  · rw [if_neg c403] at h
    by_cases c405 : x2 = 1
    · rw [if_pos c405] at h
      refine am_r_sw (show am_stepn X T_UpRiver_reach 2 true (76, [(0, am_pv 0), (1, am_iv x1), (2, am_iv x2)], [], am_SH, (J, K, am_RF true)) = some ((decide (am_i32 x2) && true), .inl (am_sw 0 5 [179, 116, 126, 136, 149, 159, 169] x2, [(0, am_pv 0), (1, am_iv x1), (2, am_iv x2)], [], am_SH, (J, K, am_RF true))) from rfl) (am_g1 g402 rfl) (p := 126) (by rw [c405]; rfl) ?_
      obtain ⟨g406, h⟩ := am_if_some h
      obtain rfl := Option.some.inj h
      exact am_r_ret (show am_stepn X T_UpRiver_reach 6 true (126, [(0, am_pv 0), (1, am_iv x1), (2, am_iv x2)], [], am_SH, (J, K, am_RF true)) = some ((am_in x1 8 && true), .inr (.inr (some (am_iv (J (am_rv true + 5) x1.toNat)), am_SH, (J, K, am_RF true)))) from rfl) (am_gi g406 rfl)
    · rw [if_neg c405] at h
      by_cases c407 : x2 = 2
      · rw [if_pos c407] at h
        refine am_r_sw (show am_stepn X T_UpRiver_reach 2 true (76, [(0, am_pv 0), (1, am_iv x1), (2, am_iv x2)], [], am_SH, (J, K, am_RF true)) = some ((decide (am_i32 x2) && true), .inl (am_sw 0 5 [179, 116, 126, 136, 149, 159, 169] x2, [(0, am_pv 0), (1, am_iv x1), (2, am_iv x2)], [], am_SH, (J, K, am_RF true))) from rfl) (am_g1 g402 rfl) (p := 136) (by rw [c407]; rfl) ?_
        obtain ⟨g408, h⟩ := am_if_some h
        obtain ⟨q409, e410, h⟩ := am_bind_some h
        refine am_r_call (show am_stepn X T_UpRiver_reach 6 true (136, [(0, am_pv 0), (1, am_iv x1), (2, am_iv x2)], [], am_SH, (J, K, am_RF true)) = some ((am_in x1 8 && true), .inr (.inl (57, [am_iv (J (am_rv true + 7) x1.toNat)], 1, 0, 0, 148, [(0, am_pv 0), (1, am_iv x1)], [], am_SH, (J, K, am_RF true)))) from rfl) (am_gi g408 rfl) tb_UpRiver_asInt (s_UpRiver_asInt e410) ?_
        obtain rfl := Option.some.inj h
        exact am_r_ret (show am_stepn X T_UpRiver_reach 1 true (148, [(0, am_pv 0), (1, am_iv x1)], [am_iv q409], am_SH, (J, K, am_RF true)) = some (true, .inr (.inr (some (am_iv q409), am_SH, (J, K, am_RF true)))) from rfl) rfl
      · rw [if_neg c407] at h
        by_cases c411 : x2 = 3
        · rw [if_pos c411] at h
          refine am_r_sw (show am_stepn X T_UpRiver_reach 2 true (76, [(0, am_pv 0), (1, am_iv x1), (2, am_iv x2)], [], am_SH, (J, K, am_RF true)) = some ((decide (am_i32 x2) && true), .inl (am_sw 0 5 [179, 116, 126, 136, 149, 159, 169] x2, [(0, am_pv 0), (1, am_iv x1), (2, am_iv x2)], [], am_SH, (J, K, am_RF true))) from rfl) (am_g1 g402 rfl) (p := 149) (by rw [c411]; rfl) ?_
          obtain ⟨g412, h⟩ := am_if_some h
          obtain rfl := Option.some.inj h
          exact am_r_ret (show am_stepn X T_UpRiver_reach 6 true (149, [(0, am_pv 0), (1, am_iv x1), (2, am_iv x2)], [], am_SH, (J, K, am_RF true)) = some ((am_in x1 8 && true), .inr (.inr (some (am_iv (J (am_rv true + 6) x1.toNat)), am_SH, (J, K, am_RF true)))) from rfl) (am_gi g412 rfl)
        · rw [if_neg c411] at h
          by_cases c413 : x2 = 4
          · rw [if_pos c413] at h
            refine am_r_sw (show am_stepn X T_UpRiver_reach 2 true (76, [(0, am_pv 0), (1, am_iv x1), (2, am_iv x2)], [], am_SH, (J, K, am_RF true)) = some ((decide (am_i32 x2) && true), .inl (am_sw 0 5 [179, 116, 126, 136, 149, 159, 169] x2, [(0, am_pv 0), (1, am_iv x1), (2, am_iv x2)], [], am_SH, (J, K, am_RF true))) from rfl) (am_g1 g402 rfl) (p := 159) (by rw [c413]; rfl) ?_
            obtain ⟨q414, e415, h⟩ := am_bind_some h
            refine am_r_call (show am_stepn X T_UpRiver_reach 5 true (159, [(0, am_pv 0), (1, am_iv x1), (2, am_iv x2)], [], am_SH, (J, K, am_RF true)) = some (true, .inr (.inl (58, [am_pv (am_rv true), am_iv x1, am_iv 0], 4, 0, 0, 168, [(0, am_pv 0), (1, am_iv x1)], [], am_SH, (J, K, am_RF true)))) from rfl) rfl tb_River_wayOn (s_River_wayOn (by decide) e415) ?_
            obtain rfl := Option.some.inj h
            exact am_r_ret (show am_stepn X T_UpRiver_reach 1 true (168, [(0, am_pv 0), (1, am_iv x1)], [am_iv q414], am_SH, (J, K, am_RF true)) = some (true, .inr (.inr (some (am_iv q414), am_SH, (J, K, am_RF true)))) from rfl) rfl
          · rw [if_neg c413] at h
            by_cases c416 : x2 = 5
            · rw [if_pos c416] at h
              refine am_r_sw (show am_stepn X T_UpRiver_reach 2 true (76, [(0, am_pv 0), (1, am_iv x1), (2, am_iv x2)], [], am_SH, (J, K, am_RF true)) = some ((decide (am_i32 x2) && true), .inl (am_sw 0 5 [179, 116, 126, 136, 149, 159, 169] x2, [(0, am_pv 0), (1, am_iv x1), (2, am_iv x2)], [], am_SH, (J, K, am_RF true))) from rfl) (am_g1 g402 rfl) (p := 169) (by rw [c416]; rfl) ?_
              obtain ⟨q417, e418, h⟩ := am_bind_some h
              refine am_r_call (show am_stepn X T_UpRiver_reach 5 true (169, [(0, am_pv 0), (1, am_iv x1), (2, am_iv x2)], [], am_SH, (J, K, am_RF true)) = some (true, .inr (.inl (58, [am_pv (am_rv true), am_iv x1, am_iv 1], 4, 0, 0, 178, [(0, am_pv 0), (1, am_iv x1)], [], am_SH, (J, K, am_RF true)))) from rfl) rfl tb_River_wayOn (s_River_wayOn (by decide) e418) ?_
              obtain rfl := Option.some.inj h
              exact am_r_ret (show am_stepn X T_UpRiver_reach 1 true (178, [(0, am_pv 0), (1, am_iv x1)], [am_iv q417], am_SH, (J, K, am_RF true)) = some (true, .inr (.inr (some (am_iv q417), am_SH, (J, K, am_RF true)))) from rfl) rfl
            · rw [if_neg c416] at h
              refine am_r_sw (show am_stepn X T_UpRiver_reach 2 true (76, [(0, am_pv 0), (1, am_iv x1), (2, am_iv x2)], [], am_SH, (J, K, am_RF true)) = some ((decide (am_i32 x2) && true), .inl (am_sw 0 5 [179, 116, 126, 136, 149, 159, 169] x2, [(0, am_pv 0), (1, am_iv x1), (2, am_iv x2)], [], am_SH, (J, K, am_RF true))) from rfl) (am_g1 g402 rfl) (p := 179) (am_sw_out (by omega)) ?_
              obtain rfl := Option.some.inj h
              exact am_r_ret (show am_stepn X T_UpRiver_reach 2 true (179, [(0, am_pv 0), (1, am_iv x1), (2, am_iv x2)], [], am_SH, (J, K, am_RF true)) = some (true, .inr (.inr (some (am_iv (-1)), am_SH, (J, K, am_RF true)))) from rfl) rfl
theorem s_UpRiver_reach_L43_t {X : am_X} {J : am_J} {K : am_K}  : ∀ (x1 : Int) (x2 : Int) (r : Int), f_UpRiver_reach_L43 true J   x1 x2 = some r → am_runs X T_UpRiver_reach (43, [(0, am_pv 0), (1, am_iv x1), (2, am_iv x2)], [], am_SH, (J, K, am_RF true)) (some (am_iv r), am_SH, (J, K, am_RF true)) := by
  intro x1 x2 r h
  unfold f_UpRiver_reach_L43 at h
  obtain ⟨g419, h⟩ := am_if_some h
  by_cases c420 : x2 < 20
  · rw [if_pos c420] at h
    refine am_r_t (show am_stepn X T_UpRiver_reach 3 true (43, [(0, am_pv 0), (1, am_iv x1), (2, am_iv x2)], [], am_SH, (J, K, am_RF true)) = some (((decide (am_i32 20) && decide (am_i32 x2)) && true), .inl (bif am_cb .lt x2 20 then 76 else 49, [(0, am_pv 0), (1, am_iv x1), (2, am_iv x2)], [], am_SH, (J, K, am_RF true))) from rfl) (am_g2 (by decide) g419 rfl) (decide_eq_true c420) ?_
    exact s_UpRiver_reach_L76_t  _ _ _ h
  · rw [if_neg c420] at h
    refine am_r_f (show am_stepn X T_UpRiver_reach 3 true (43, [(0, am_pv 0), (1, am_iv x1), (2, am_iv x2)], [], am_SH, (J, K, am_RF true)) = some (((decide (am_i32 20) && decide (am_i32 x2)) && true), .inl (bif am_cb .lt x2 20 then 76 else 49, [(0, am_pv 0), (1, am_iv x1), (2, am_iv x2)], [], am_SH, (J, K, am_RF true))) from rfl) (am_g2 (by decide) g419 rfl) (decide_eq_false c420) ?_
    by_cases c421 : x2 < 29
    · rw [if_pos c421] at h
      refine am_r_f (show am_stepn X T_UpRiver_reach 3 true (49, [(0, am_pv 0), (1, am_iv x1), (2, am_iv x2)], [], am_SH, (J, K, am_RF true)) = some (((decide (am_i32 29) && decide (am_i32 x2)) && true), .inl (bif am_cb .ge x2 29 then 76 else 55, [(0, am_pv 0), (1, am_iv x1), (2, am_iv x2)], [], am_SH, (J, K, am_RF true))) from rfl) (am_g2 (by decide) g419 rfl) (am_nd_t c421) ?_
      obtain ⟨g422, h⟩ := am_if_some h
      obtain ⟨q423, e424, h⟩ := am_bind_some h
      refine am_r_call (show am_stepn X T_UpRiver_reach 12 true (55, [(0, am_pv 0), (1, am_iv x1), (2, am_iv x2)], [], am_SH, (J, K, am_RF true)) = some ((am_in (((x1 * 9) + x2) - 20) 72 && true), .inr (.inl (57, [am_iv (J (am_rv true + 9) ((((x1 * 9) + x2) - 20).toNat))], 1, 0, 0, 75, [(0, am_pv 0), (1, am_iv x1), (2, am_iv x2)], [], am_SH, (J, K, am_RF true)))) from rfl) (am_gi g422 rfl) tb_UpRiver_asInt (s_UpRiver_asInt e424) ?_
      obtain rfl := Option.some.inj h
      exact am_r_ret (show am_stepn X T_UpRiver_reach 1 true (75, [(0, am_pv 0), (1, am_iv x1), (2, am_iv x2)], [am_iv q423], am_SH, (J, K, am_RF true)) = some (true, .inr (.inr (some (am_iv q423), am_SH, (J, K, am_RF true)))) from rfl) rfl
    · rw [if_neg c421] at h
      refine am_r_t (show am_stepn X T_UpRiver_reach 3 true (49, [(0, am_pv 0), (1, am_iv x1), (2, am_iv x2)], [], am_SH, (J, K, am_RF true)) = some (((decide (am_i32 29) && decide (am_i32 x2)) && true), .inl (bif am_cb .ge x2 29 then 76 else 55, [(0, am_pv 0), (1, am_iv x1), (2, am_iv x2)], [], am_SH, (J, K, am_RF true))) from rfl) (am_g2 (by decide) g419 rfl) (am_nd_f c421) ?_
      exact s_UpRiver_reach_L76_t  _ _ _ h
theorem s_UpRiver_reach_t {X : am_X} {J : am_J} {K : am_K} {x1 : Int} {x2 : Int} {r : Int} (h : f_UpRiver_reach true J x1 x2 = some r) : am_runs X T_UpRiver_reach (0, [(0, am_pv 0), (1, am_iv x1), (2, am_iv x2)], [], am_SH, (J, K, am_RF true)) (some (am_iv r), am_SH, (J, K, am_RF true)) := by
  unfold f_UpRiver_reach at h
  obtain ⟨q425, e426, h⟩ := am_bind_some h
  refine am_r_call (show am_stepn X T_UpRiver_reach 4 true (0, [(0, am_pv 0), (1, am_iv x1), (2, am_iv x2)], [], am_SH, (J, K, am_RF true)) = some (true, .inr (.inl (56, [am_pv (am_rv true), am_iv x1], 2, 0, 0, 8, [(0, am_pv 0), (1, am_iv x1), (2, am_iv x2)], [], am_SH, (J, K, am_RF true)))) from rfl) rfl tb_River_hasReach (s_River_hasReach (by decide) e426) ?_
  obtain ⟨g427, h⟩ := am_if_some h
  by_cases c428 : q425 = 0
  · rw [if_pos c428] at h
    refine am_r_f (show am_stepn X T_UpRiver_reach 1 true (8, [(0, am_pv 0), (1, am_iv x1), (2, am_iv x2)], [am_iv q425], am_SH, (J, K, am_RF true)) = some ((decide (am_i32 q425) && true), .inl (bif am_cb .ne q425 0 then 13 else 11, [(0, am_pv 0), (1, am_iv x1), (2, am_iv x2)], [], am_SH, (J, K, am_RF true))) from rfl) (am_g1 g427 rfl) (am_nd_t c428) ?_
    obtain rfl := Option.some.inj h
    exact am_r_ret (show am_stepn X T_UpRiver_reach 2 true (11, [(0, am_pv 0), (1, am_iv x1), (2, am_iv x2)], [], am_SH, (J, K, am_RF true)) = some (true, .inr (.inr (some (am_iv (-1)), am_SH, (J, K, am_RF true)))) from rfl) rfl
  · rw [if_neg c428] at h
    refine am_r_t (show am_stepn X T_UpRiver_reach 1 true (8, [(0, am_pv 0), (1, am_iv x1), (2, am_iv x2)], [am_iv q425], am_SH, (J, K, am_RF true)) = some ((decide (am_i32 q425) && true), .inl (bif am_cb .ne q425 0 then 13 else 11, [(0, am_pv 0), (1, am_iv x1), (2, am_iv x2)], [], am_SH, (J, K, am_RF true))) from rfl) (am_g1 g427 rfl) (am_nd_f c428) ?_
    obtain ⟨g429, h⟩ := am_if_some h
    by_cases c430 : x2 < 10
    · rw [if_pos c430] at h
      refine am_r_t (show am_stepn X T_UpRiver_reach 3 true (13, [(0, am_pv 0), (1, am_iv x1), (2, am_iv x2)], [], am_SH, (J, K, am_RF true)) = some (((decide (am_i32 10) && decide (am_i32 x2)) && true), .inl (bif am_cb .lt x2 10 then 43 else 19, [(0, am_pv 0), (1, am_iv x1), (2, am_iv x2)], [], am_SH, (J, K, am_RF true))) from rfl) (am_g2 (by decide) g429 rfl) (decide_eq_true c430) ?_
      exact s_UpRiver_reach_L43_t  _ _ _ h
    · rw [if_neg c430] at h
      refine am_r_f (show am_stepn X T_UpRiver_reach 3 true (13, [(0, am_pv 0), (1, am_iv x1), (2, am_iv x2)], [], am_SH, (J, K, am_RF true)) = some (((decide (am_i32 10) && decide (am_i32 x2)) && true), .inl (bif am_cb .lt x2 10 then 43 else 19, [(0, am_pv 0), (1, am_iv x1), (2, am_iv x2)], [], am_SH, (J, K, am_RF true))) from rfl) (am_g2 (by decide) g429 rfl) (decide_eq_false c430) ?_
      by_cases c431 : x2 < 19
      · rw [if_pos c431] at h
        refine am_r_f (show am_stepn X T_UpRiver_reach 3 true (19, [(0, am_pv 0), (1, am_iv x1), (2, am_iv x2)], [], am_SH, (J, K, am_RF true)) = some (((decide (am_i32 19) && decide (am_i32 x2)) && true), .inl (bif am_cb .ge x2 19 then 43 else 25, [(0, am_pv 0), (1, am_iv x1), (2, am_iv x2)], [], am_SH, (J, K, am_RF true))) from rfl) (am_g2 (by decide) g429 rfl) (am_nd_t c431) ?_
        obtain ⟨g432, h⟩ := am_if_some h
        obtain rfl := Option.some.inj h
        exact am_r_ret (show am_stepn X T_UpRiver_reach 12 true (25, [(0, am_pv 0), (1, am_iv x1), (2, am_iv x2)], [], am_SH, (J, K, am_RF true)) = some ((am_in (((x1 * 9) + x2) - 10) 72 && true), .inr (.inr (some (am_iv (J (am_rv true + 8) ((((x1 * 9) + x2) - 10).toNat))), am_SH, (J, K, am_RF true)))) from rfl) (am_gi g432 rfl)
      · rw [if_neg c431] at h
        refine am_r_t (show am_stepn X T_UpRiver_reach 3 true (19, [(0, am_pv 0), (1, am_iv x1), (2, am_iv x2)], [], am_SH, (J, K, am_RF true)) = some (((decide (am_i32 19) && decide (am_i32 x2)) && true), .inl (bif am_cb .ge x2 19 then 43 else 25, [(0, am_pv 0), (1, am_iv x1), (2, am_iv x2)], [], am_SH, (J, K, am_RF true))) from rfl) (am_g2 (by decide) g429 rfl) (am_nd_f c431) ?_
        exact s_UpRiver_reach_L43_t  _ _ _ h
theorem s_UpRiver_reach {X : am_X} {b : Bool} {J : am_J} {K : am_K} {x1 : Int} {x2 : Int} {r : Int} (h : f_UpRiver_reach b J x1 x2 = some r) : am_runs X T_UpRiver_reach (0, [(0, am_pv 0), (1, am_iv x1), (2, am_iv x2)], [], am_SH, (J, K, am_RF b)) (some (am_iv r), am_SH, (J, K, am_RF b)) := by
  cases b
  · exact s_UpRiver_reach_f h
  · exact s_UpRiver_reach_t h
