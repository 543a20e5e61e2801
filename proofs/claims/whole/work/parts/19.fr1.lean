theorem frJ_River_forget_L98 {o1 : Nat} {a j : Nat}  : ∀ (n : Nat) (x1 : Int) (J : am_J) (r : am_J), f_River_forget_L98 o1  n x1 J = some r → am_nw [((o1 + 1), none), ((o1 + 2), none), ((o1 + 3), none), ((o1 + 4), none), ((o1 + 5), none), ((o1 + 6), none), ((o1 + 7), none), ((o1 + 8), none), ((o1 + 9), none)] a j = true → r a j = J a j := by
  intro n
  induction n with
  | zero =>
    intro x1 J r h hw
    cases h
  | succ n ih =>
    intro x1 J r h hw
    rw [f_River_forget_L98.eq_2] at h
    obtain ⟨-, h⟩ := am_if_some h
    rcases am_ite h with ⟨c1958, h⟩ | ⟨c1958, h⟩
    · skip
      obtain ⟨-, h⟩ := am_if_some h
      exact (ih _ _ _ h hw).trans ((am_upn (am_nw_a hw 8 rfl)).trans ((am_upn (am_nw_a hw 7 rfl)).trans rfl))
    · skip
      obtain rfl := Option.some.inj h
      exact rfl
theorem frJ_River_forget_L55 {o1 : Nat} {a j : Nat}  : ∀ (n : Nat) (x1 : Int) (J : am_J) (r : am_J), f_River_forget_L55 o1  n x1 J = some r → am_nw [((o1 + 1), none), ((o1 + 2), none), ((o1 + 3), none), ((o1 + 4), none), ((o1 + 5), none), ((o1 + 6), none), ((o1 + 7), none), ((o1 + 8), none), ((o1 + 9), none)] a j = true → r a j = J a j := by
  intro n
  induction n with
  | zero =>
    intro x1 J r h hw
    cases h
  | succ n ih =>
    intro x1 J r h hw
    rw [f_River_forget_L55.eq_2] at h
    obtain ⟨-, h⟩ := am_if_some h
    rcases am_ite h with ⟨c1959, h⟩ | ⟨c1959, h⟩
    · skip
      obtain ⟨-, h⟩ := am_if_some h
      exact (ih _ _ _ h hw).trans ((am_upn (am_nw_a hw 6 rfl)).trans ((am_upn (am_nw_a hw 5 rfl)).trans ((am_upn (am_nw_a hw 4 rfl)).trans ((am_upn (am_nw_a hw 3 rfl)).trans rfl))))
    · skip
      exact (frJ_River_forget_L98  _ _ _ _ h hw).trans rfl
theorem frJ_River_forget_L27 {o1 : Nat} {a j : Nat}  : ∀ (n : Nat) (x1 : Int) (J : am_J) (r : am_J), f_River_forget_L27 o1  n x1 J = some r → am_nw [((o1 + 1), none), ((o1 + 2), none), ((o1 + 3), none), ((o1 + 4), none), ((o1 + 5), none), ((o1 + 6), none), ((o1 + 7), none), ((o1 + 8), none), ((o1 + 9), none)] a j = true → r a j = J a j := by
  intro n
  induction n with
  | zero =>
    intro x1 J r h hw
    cases h
  | succ n ih =>
    intro x1 J r h hw
    rw [f_River_forget_L27.eq_2] at h
    obtain ⟨-, h⟩ := am_if_some h
    rcases am_ite h with ⟨c1960, h⟩ | ⟨c1960, h⟩
    · skip
      obtain ⟨-, h⟩ := am_if_some h
      exact (ih _ _ _ h hw).trans ((am_upn (am_nw_a hw 2 rfl)).trans ((am_upn (am_nw_a hw 1 rfl)).trans rfl))
    · skip
      exact (frJ_River_forget_L55  _ _ _ _ h hw).trans rfl
theorem frJ_River_forget_L2 {o1 : Nat} {a j : Nat}  : ∀ (n : Nat) (x1 : Int) (J : am_J) (r : am_J), f_River_forget_L2 o1  n x1 J = some r → am_nw [((o1 + 1), none), ((o1 + 2), none), ((o1 + 3), none), ((o1 + 4), none), ((o1 + 5), none), ((o1 + 6), none), ((o1 + 7), none), ((o1 + 8), none), ((o1 + 9), none)] a j = true → r a j = J a j := by
  intro n
  induction n with
  | zero =>
    intro x1 J r h hw
    cases h
  | succ n ih =>
    intro x1 J r h hw
    rw [f_River_forget_L2.eq_2] at h
    obtain ⟨-, h⟩ := am_if_some h
    rcases am_ite h with ⟨c1961, h⟩ | ⟨c1961, h⟩
    · skip
      obtain ⟨-, h⟩ := am_if_some h
      exact (ih _ _ _ h hw).trans ((am_upn (am_nw_a hw 0 rfl)).trans rfl)
    · skip
      exact (frJ_River_forget_L27  _ _ _ _ h hw).trans rfl
theorem frJ_River_forget {o1 : Nat} {J : am_J} {r : am_J} {a j : Nat} (h : f_River_forget o1 J = some r) (hw : am_nw [((o1 + 1), none), ((o1 + 2), none), ((o1 + 3), none), ((o1 + 4), none), ((o1 + 5), none), ((o1 + 6), none), ((o1 + 7), none), ((o1 + 8), none), ((o1 + 9), none)] a j = true) : r a j = J a j := by
  unfold f_River_forget at h
  exact (frJ_River_forget_L2  _ _ _ _ h hw).trans rfl
theorem frK_River_settle_L10 {o1 : Nat} {J : am_J} {a j : Nat} {kb2 : Int → am_K → Option am_K} (hk2 : ∀ (x1 : Int) (K : am_K) (r : am_K), kb2 x1 K = some r → am_nw [((o1 + 10), none)] a j = true → r a j = K a j) : ∀ (n : Nat) (x1 : Int) (x2 : Int) (K : am_K) (r : am_K), f_River_settle_L10 o1 J kb2 n x1 x2 K = some r → am_nw [((o1 + 10), none)] a j = true → r a j = K a j := by
  intro n
  induction n with
  | zero =>
    intro x1 x2 K r h hw
    cases h
  | succ n ih =>
    intro x1 x2 K r h hw
    rw [f_River_settle_L10.eq_2] at h
    obtain ⟨-, h⟩ := am_if_some h
    rcases am_ite h with ⟨c1962, h⟩ | ⟨c1962, h⟩
    · skip
      obtain ⟨q1963, e1964, h⟩ := am_bind_some h
      obtain ⟨-, h⟩ := am_if_some h
      exact (ih _ _ _ _ h hw).trans ((am_uln (am_nw_a hw 0 rfl)).trans rfl)
    · skip
      exact (hk2 _ _ _ h hw).trans rfl
theorem frK_River_settle_L2 {o1 : Nat} {J : am_J} {a j : Nat}  : ∀ (n : Nat) (x1 : Int) (K : am_K) (r : am_K), f_River_settle_L2 o1 J  n x1 K = some r → am_nw [((o1 + 10), none)] a j = true → r a j = K a j := by
  intro n
  induction n with
  | zero =>
    intro x1 K r h hw
    cases h
  | succ n ih =>
    intro x1 K r h hw
    rw [f_River_settle_L2.eq_2] at h
    obtain ⟨-, h⟩ := am_if_some h
    rcases am_ite h with ⟨c1965, h⟩ | ⟨c1965, h⟩
    · skip
      exact (frK_River_settle_L10 ih _ _ _ _ _ h hw).trans rfl
    · skip
      obtain rfl := Option.some.inj h
      exact rfl
theorem frK_River_settle {o1 : Nat} {J : am_J} {K : am_K} {r : am_K} {a j : Nat} (h : f_River_settle o1 J K = some r) (hw : am_nw [((o1 + 10), none)] a j = true) : r a j = K a j := by
  unfold f_River_settle at h
  exact (frK_River_settle_L2  _ _ _ _ h hw).trans rfl
theorem frJ_Tape_append_L17  {a j : Nat}  : ∀ (n : Nat) (y1 : Int64) (x3 : Int) (J : am_J) (r : Int × am_J), f_Tape_append_L17   n y1 x3 J = some r → am_nw [(2, some 1), (3, none)] a j = true → r.2 a j = J a j := by
  intro n
  induction n with
  | zero =>
    intro y1 x3 J r h hw
    cases h
  | succ n ih =>
    intro y1 x3 J r h hw
    rw [f_Tape_append_L17.eq_2] at h
    obtain ⟨-, h⟩ := am_if_some h
    rcases am_ite h with ⟨c1966, h⟩ | ⟨c1966, h⟩
    · skip
      obtain ⟨-, h⟩ := am_if_some h
      exact (ih _ _ _ _ h hw).trans ((am_upn (am_nw_a hw 1 rfl)).trans rfl)
    · skip
      obtain rfl := Option.some.inj h
      exact ((am_upn (am_nw_f hw 0 rfl)).trans rfl)
theorem frJ_Tape_append  {y1 : Int64} {J : am_J} {r : Int × am_J} {a j : Nat} (h : f_Tape_append  y1 J = some r) (hw : am_nw [(2, some 1), (3, none)] a j = true) : r.2 a j = J a j := by
  unfold f_Tape_append at h
  obtain ⟨-, h⟩ := am_if_some h
  rcases am_ite h with ⟨c1967, h⟩ | ⟨c1967, h⟩
  · skip
    obtain rfl := Option.some.inj h
    exact rfl
  · skip
    exact (frJ_Tape_append_L17  _ _ _ _ _ h hw).trans rfl
theorem frJ_UpRiver_feed  {y1 : Int64} {J : am_J} {r : Int × am_J} {a j : Nat} (h : f_UpRiver_feed  y1 J = some r) (hw : am_nw [(2, some 1), (3, none)] a j = true) : r.2 a j = J a j := by
  unfold f_UpRiver_feed at h
  obtain ⟨q1968, e1969, h⟩ := am_bind_some h
  obtain ⟨-, h⟩ := am_if_some h
  rcases am_ite h with ⟨c1970, h⟩ | ⟨c1970, h⟩
  · skip
    obtain rfl := Option.some.inj h
    exact ((frJ_Tape_append e1969 (am_nw_pick hw [0, 1] rfl)).trans rfl)
  · skip
    obtain rfl := Option.some.inj h
    exact ((frJ_Tape_append e1969 (am_nw_pick hw [0, 1] rfl)).trans rfl)
theorem frJ_UpRiver_end  {x1 : Int} {J : am_J} {r : Int × am_J} {a j : Nat} (h : f_UpRiver_end  x1 J = some r) (hw : am_nw [(2, some 1)] a j = true) : r.2 a j = J a j := by
  unfold f_UpRiver_end at h
  obtain ⟨-, h⟩ := am_if_some h
  rcases am_ite h with ⟨c1971, h⟩ | ⟨c1971, h⟩
  · skip
    obtain rfl := Option.some.inj h
    exact rfl
  · skip
    obtain ⟨-, h⟩ := am_if_some h
    rcases am_ite h with ⟨c1972, h⟩ | ⟨c1972, h⟩
    · skip
      obtain rfl := Option.some.inj h
      exact rfl
    · skip
      obtain rfl := Option.some.inj h
      exact ((am_upn (am_nw_f hw 0 rfl)).trans rfl)
theorem frJ_Boat_lieAt {o1 : Nat} {x1 : Int} {x2 : Int} {x3 : Int} {x4 : Int} {J : am_J} {r : am_J} {a j : Nat} (h : f_Boat_lieAt o1 x1 x2 x3 x4 J = some r) (hw : am_nw [(o1, some 0), (o1, some 1), (o1, some 2), (o1, some 3), (o1, some 4), (o1, some 5)] a j = true) : r a j = J a j := by
  unfold f_Boat_lieAt at h
  obtain rfl := Option.some.inj h
  exact ((am_upn (am_nw_f hw 5 rfl)).trans ((am_upn (am_nw_f hw 4 rfl)).trans ((am_upn (am_nw_f hw 3 rfl)).trans ((am_upn (am_nw_f hw 2 rfl)).trans ((am_upn (am_nw_f hw 1 rfl)).trans ((am_upn (am_nw_f hw 0 rfl)).trans rfl))))))
theorem frJ_Boat_lieAtStart {o1 : Nat} {o2 : Nat} {x2 : Int} {J : am_J} {r : am_J} {a j : Nat} (h : f_Boat_lieAtStart o1 o2 x2 J = some r) (hw : am_nw [(o1, some 0), (o1, some 1), (o1, some 2), (o1, some 3), (o1, some 4), (o1, some 5)] a j = true) : r a j = J a j := by
  unfold f_Boat_lieAtStart at h
  obtain ⟨q1973, e1974, h⟩ := am_bind_some h
  obtain rfl := Option.some.inj h
  exact ((frJ_Boat_lieAt e1974 (am_nw_pick hw [0, 1, 2, 3, 4, 5] rfl)).trans rfl)
theorem frJ_UpRiver_beginAnew_L61 {b : Bool} {a j : Nat}  : ∀ (n : Nat) (x1 : Int) (J : am_J) (r : am_J), f_UpRiver_beginAnew_L61 b  n x1 J = some r → am_nw [(18, some 0), (18, some 1), (18, some 2), (18, some 3), (18, some 4), (18, some 5), (19, some 2), (22, some 1), (31, none), (43, some 3), (50, some 3)] a j = true → r a j = J a j := by
  intro n
  induction n with
  | zero =>
    intro x1 J r h hw
    cases h
  | succ n ih =>
    intro x1 J r h hw
    rw [f_UpRiver_beginAnew_L61.eq_2] at h
    obtain ⟨-, h⟩ := am_if_some h
    rcases am_ite h with ⟨c1975, h⟩ | ⟨c1975, h⟩
    · skip
      rcases am_ite h with ⟨c1976, h⟩ | ⟨c1976, h⟩
      · skip
        exact (ih _ _ _ h hw).trans ((am_upn (am_nw_f hw 9 rfl)).trans rfl)
      · skip
        rcases am_ite h with ⟨c1977, h⟩ | ⟨c1977, h⟩
        · skip
          exact (ih _ _ _ h hw).trans ((am_upn (am_nw_f hw 10 rfl)).trans rfl)
        · skip
          cases h
    · skip
      obtain rfl := Option.some.inj h
      exact rfl
theorem frJ_UpRiver_beginAnew_L2 {b : Bool} {a j : Nat}  : ∀ (n : Nat) (x1 : Int) (J : am_J) (r : am_J), f_UpRiver_beginAnew_L2 b  n x1 J = some r → am_nw [(18, some 0), (18, some 1), (18, some 2), (18, some 3), (18, some 4), (18, some 5), (19, some 2), (22, some 1), (31, none), (43, some 3), (50, some 3)] a j = true → r a j = J a j := by
  intro n
  induction n with
  | zero =>
    intro x1 J r h hw
    cases h
  | succ n ih =>
    intro x1 J r h hw
    rw [f_UpRiver_beginAnew_L2.eq_2] at h
    obtain ⟨-, h⟩ := am_if_some h
    rcases am_ite h with ⟨c1978, h⟩ | ⟨c1978, h⟩
    · skip
      obtain ⟨q1979, e1980, h⟩ := am_bind_some h
      exact (frJ_UpRiver_beginAnew_L61  _ _ _ _ h hw).trans ((am_upn (am_nw_f hw 7 rfl)).trans ((am_upn (am_nw_f hw 6 rfl)).trans ((frJ_Boat_lieAtStart e1980 (am_nw_pick hw [0, 1, 2, 3, 4, 5] rfl)).trans rfl)))
    · skip
      obtain ⟨-, h⟩ := am_if_some h
      exact (ih _ _ _ h hw).trans ((am_upn (am_nw_a hw 8 rfl)).trans rfl)
theorem frJ_UpRiver_beginAnew {b : Bool} {J : am_J} {r : am_J} {a j : Nat} (h : f_UpRiver_beginAnew b J = some r) (hw : am_nw [(18, some 0), (18, some 1), (18, some 2), (18, some 3), (18, some 4), (18, some 5), (19, some 2), (22, some 1), (31, none), (43, some 3), (50, some 3)] a j = true) : r a j = J a j := by
  unfold f_UpRiver_beginAnew at h
  exact (frJ_UpRiver_beginAnew_L2  _ _ _ _ h hw).trans rfl
theorem frJ_Reader_fail  {x1 : Int} {x2 : Int} {J : am_J} {r : Int × am_J} {a j : Nat} (h : f_Reader_fail  x1 x2 J = some r) (hw : am_nw [(1, some 10), (1, some 11)] a j = true) : r.2 a j = J a j := by
  unfold f_Reader_fail at h
  obtain rfl := Option.some.inj h
  exact ((am_upn (am_nw_f hw 1 rfl)).trans ((am_upn (am_nw_f hw 0 rfl)).trans rfl))
theorem frJ_Reader_forget_L27  {a j : Nat}  : ∀ (n : Nat) (x1 : Int) (J : am_J) (r : am_J), f_Reader_forget_L27   n x1 J = some r → am_nw [(1, some 4), (1, some 8), (1, some 9), (1, some 10), (1, some 11), (4, none)] a j = true → r a j = J a j := by
  intro n
  induction n with
  | zero =>
    intro x1 J r h hw
    cases h
  | succ n ih =>
    intro x1 J r h hw
    rw [f_Reader_forget_L27.eq_2] at h
    obtain ⟨-, h⟩ := am_if_some h
    rcases am_ite h with ⟨c1981, h⟩ | ⟨c1981, h⟩
    · skip
      obtain ⟨-, h⟩ := am_if_some h
      exact (ih _ _ _ h hw).trans ((am_upn (am_nw_a hw 5 rfl)).trans rfl)
    · skip
      obtain rfl := Option.some.inj h
      exact rfl
theorem frJ_Reader_forget  {J : am_J} {r : am_J} {a j : Nat} (h : f_Reader_forget  J = some r) (hw : am_nw [(1, some 4), (1, some 8), (1, some 9), (1, some 10), (1, some 11), (4, none)] a j = true) : r a j = J a j := by
  unfold f_Reader_forget at h
  exact (frJ_Reader_forget_L27  _ _ _ _ h hw).trans ((am_upn (am_nw_f hw 4 rfl)).trans ((am_upn (am_nw_f hw 3 rfl)).trans ((am_upn (am_nw_f hw 2 rfl)).trans ((am_upn (am_nw_f hw 1 rfl)).trans ((am_upn (am_nw_f hw 0 rfl)).trans rfl)))))
theorem frJ_Reader_skipName_L0  {a j : Nat}  : ∀ (n : Nat) (J : am_J) (r : am_J), f_Reader_skipName_L0   n J = some r → am_nw [(1, some 4)] a j = true → r a j = J a j := by
  intro n
  induction n with
  | zero =>
    intro J r h hw
    cases h
  | succ n ih =>
    intro J r h hw
    rw [f_Reader_skipName_L0.eq_2] at h
    obtain ⟨-, h⟩ := am_if_some h
    obtain ⟨-, h⟩ := am_if_some h
    rcases am_ite h with ⟨c1982, h⟩ | ⟨c1982, h⟩
    · skip
      obtain ⟨q1983, e1984, h⟩ := am_bind_some h
      obtain ⟨q1985, e1986, h⟩ := am_bind_some h
      obtain ⟨-, h⟩ := am_if_some h
      rcases am_ite h with ⟨c1987, h⟩ | ⟨c1987, h⟩
      · skip
        obtain rfl := Option.some.inj h
        exact rfl
      · skip
        exact (ih _ _ h hw).trans ((am_upn (am_nw_f hw 0 rfl)).trans rfl)
    · skip
      obtain rfl := Option.some.inj h
      exact rfl
theorem frJ_Reader_skipName  {J : am_J} {r : am_J} {a j : Nat} (h : f_Reader_skipName  J = some r) (hw : am_nw [(1, some 4)] a j = true) : r a j = J a j := by
  unfold f_Reader_skipName at h
  exact (frJ_Reader_skipName_L0  _ _ _ h hw).trans rfl
theorem frJ_Reader_takeNumber_L5  {a j : Nat}  : ∀ (n : Nat) (J : am_J) (r : Int × am_J), f_Reader_takeNumber_L5   n J = some r → am_nw [(1, some 4), (1, some 7), (1, some 10), (1, some 11)] a j = true → r.2 a j = J a j := by
  intro n
  induction n with
  | zero =>
    intro J r h hw
    cases h
  | succ n ih =>
    intro J r h hw
    rw [f_Reader_takeNumber_L5.eq_2] at h
    obtain ⟨-, h⟩ := am_if_some h
    obtain ⟨-, h⟩ := am_if_some h
    rcases am_ite h with ⟨c1988, h⟩ | ⟨c1988, h⟩
    · skip
      obtain ⟨q1989, e1990, h⟩ := am_bind_some h
      obtain ⟨q1991, e1992, h⟩ := am_bind_some h
      obtain ⟨-, h⟩ := am_if_some h
      rcases am_ite h with ⟨c1993, h⟩ | ⟨c1993, h⟩
      · skip
        obtain rfl := Option.some.inj h
        exact rfl
      · skip
        obtain ⟨-, h⟩ := am_if_some h
        rcases am_ite h with ⟨c1994, h⟩ | ⟨c1994, h⟩
        · skip
          obtain ⟨q1995, e1996, h⟩ := am_bind_some h
          exact (ih _ _ h hw).trans ((am_upn (am_nw_f hw 0 rfl)).trans ((am_upn (am_nw_f hw 1 rfl)).trans rfl))
        · skip
          obtain ⟨q1997, e1998, h⟩ := am_bind_some h
          obtain ⟨-, h⟩ := am_if_some h
          obtain rfl := Option.some.inj h
          exact ((frJ_Reader_fail e1998 (am_nw_pick hw [2, 3] rfl)).trans rfl)
    · skip
      obtain rfl := Option.some.inj h
      exact rfl
theorem frJ_Reader_takeNumber  {J : am_J} {r : Int × am_J} {a j : Nat} (h : f_Reader_takeNumber  J = some r) (hw : am_nw [(1, some 4), (1, some 7), (1, some 10), (1, some 11)] a j = true) : r.2 a j = J a j := by
  unfold f_Reader_takeNumber at h
  exact (frJ_Reader_takeNumber_L5  _ _ _ h hw).trans ((am_upn (am_nw_f hw 1 rfl)).trans rfl)
theorem frJ_Reader_nextToken_L43  {a j : Nat}  : ∀ (J : am_J) (r : Int × am_J), f_Reader_nextToken_L43    J = some r → am_nw [(1, some 4), (1, some 5), (1, some 6), (1, some 7), (1, some 10), (1, some 11)] a j = true → r.2 a j = J a j := by
  intro J r h hw
  unfold f_Reader_nextToken_L43 at h
  obtain ⟨-, h⟩ := am_if_some h
  obtain ⟨-, h⟩ := am_if_some h
  rcases am_ite h with ⟨c1999, h⟩ | ⟨c1999, h⟩
  · skip
    obtain ⟨q2000, e2001, h⟩ := am_bind_some h
    obtain ⟨q2002, e2003, h⟩ := am_bind_some h
    obtain ⟨-, h⟩ := am_if_some h
    rcases am_ite h with ⟨c2004, h⟩ | ⟨c2004, h⟩
    · skip
      obtain ⟨q2005, e2006, h⟩ := am_bind_some h
      obtain ⟨-, h⟩ := am_if_some h
      rcases am_ite h with ⟨c2007, h⟩ | ⟨c2007, h⟩
      · skip
        obtain ⟨-, h⟩ := am_if_some h
        rcases am_ite h with ⟨c2008, h⟩ | ⟨c2008, h⟩
        · skip
          obtain rfl := Option.some.inj h
          exact ((am_upn (am_nw_f hw 0 rfl)).trans ((am_upn (am_nw_f hw 1 rfl)).trans ((am_upn (am_nw_f hw 2 rfl)).trans rfl)))
        · skip
          obtain ⟨q2009, e2010, h⟩ := am_bind_some h
          obtain ⟨-, h⟩ := am_if_some h
          rcases am_ite h with ⟨c2011, h⟩ | ⟨c2011, h⟩
          · skip
            obtain rfl := Option.some.inj h
            exact ((frJ_Reader_fail e2010 (am_nw_pick hw [4, 5] rfl)).trans ((am_upn (am_nw_f hw 0 rfl)).trans ((am_upn (am_nw_f hw 1 rfl)).trans ((am_upn (am_nw_f hw 2 rfl)).trans rfl))))
          · skip
            obtain rfl := Option.some.inj h
            exact ((frJ_Reader_fail e2010 (am_nw_pick hw [4, 5] rfl)).trans ((am_upn (am_nw_f hw 0 rfl)).trans ((am_upn (am_nw_f hw 1 rfl)).trans ((am_upn (am_nw_f hw 2 rfl)).trans rfl))))
      · skip
        obtain ⟨q2012, e2013, h⟩ := am_bind_some h
        obtain ⟨-, h⟩ := am_if_some h
        obtain rfl := Option.some.inj h
        exact ((frJ_Reader_takeNumber e2013 (am_nw_pick hw [0, 3, 4, 5] rfl)).trans ((am_upn (am_nw_f hw 1 rfl)).trans ((am_upn (am_nw_f hw 2 rfl)).trans rfl)))
    · skip
      obtain ⟨q2014, e2015, h⟩ := am_bind_some h
      obtain rfl := Option.some.inj h
      exact ((frJ_Reader_skipName e2015 (am_nw_pick hw [0] rfl)).trans ((am_upn (am_nw_f hw 1 rfl)).trans ((am_upn (am_nw_f hw 2 rfl)).trans rfl)))
  · skip
    obtain rfl := Option.some.inj h
    exact ((am_upn (am_nw_f hw 1 rfl)).trans ((am_upn (am_nw_f hw 2 rfl)).trans rfl))
theorem frJ_Reader_nextToken_L0  {a j : Nat}  : ∀ (n : Nat) (J : am_J) (r : Int × am_J), f_Reader_nextToken_L0   n J = some r → am_nw [(1, some 4), (1, some 5), (1, some 6), (1, some 7), (1, some 10), (1, some 11)] a j = true → r.2 a j = J a j := by
  intro n
  induction n with
  | zero =>
    intro J r h hw
    cases h
  | succ n ih =>
    intro J r h hw
    rw [f_Reader_nextToken_L0.eq_2] at h
    obtain ⟨-, h⟩ := am_if_some h
    obtain ⟨-, h⟩ := am_if_some h
    rcases am_ite h with ⟨c2016, h⟩ | ⟨c2016, h⟩
    · skip
      obtain ⟨q2017, e2018, h⟩ := am_bind_some h
      obtain ⟨-, h⟩ := am_if_some h
      rcases am_ite h with ⟨c2019, h⟩ | ⟨c2019, h⟩
      · skip
        exact (ih _ _ h hw).trans ((am_upn (am_nw_f hw 0 rfl)).trans rfl)
      · skip
        exact (frJ_Reader_nextToken_L43  _ _ h hw).trans rfl
    · skip
      exact (frJ_Reader_nextToken_L43  _ _ h hw).trans rfl
theorem frJ_Reader_nextToken  {J : am_J} {r : Int × am_J} {a j : Nat} (h : f_Reader_nextToken  J = some r) (hw : am_nw [(1, some 4), (1, some 5), (1, some 6), (1, some 7), (1, some 10), (1, some 11)] a j = true) : r.2 a j = J a j := by
  unfold f_Reader_nextToken at h
  exact (frJ_Reader_nextToken_L0  _ _ _ h hw).trans rfl
theorem frJ_Reader_mark  {x1 : Int} {J : am_J} {r : Int × am_J} {a j : Nat} (h : f_Reader_mark  x1 J = some r) (hw : am_nw [(1, some 10), (1, some 11), (4, none)] a j = true) : r.2 a j = J a j := by
  unfold f_Reader_mark at h
  obtain ⟨-, h⟩ := am_if_some h
  rcases am_ite h with ⟨c2020, h⟩ | ⟨c2020, h⟩
  · skip
    obtain rfl := Option.some.inj h
    exact rfl
  · skip
    rcases am_ite h with ⟨c2021, h⟩ | ⟨c2021, h⟩
    · skip
      obtain ⟨-, h⟩ := am_if_some h
      obtain ⟨-, h⟩ := am_if_some h
      rcases am_ite h with ⟨c2022, h⟩ | ⟨c2022, h⟩
      · skip
        obtain rfl := Option.some.inj h
        exact ((am_upn (am_nw_a hw 2 rfl)).trans rfl)
      · skip
        obtain ⟨q2023, e2024, h⟩ := am_bind_some h
        obtain ⟨-, h⟩ := am_if_some h
        obtain rfl := Option.some.inj h
        exact ((frJ_Reader_fail e2024 (am_nw_pick hw [0, 1] rfl)).trans rfl)
    · skip
      obtain rfl := Option.some.inj h
      exact rfl
theorem frJ_Reader_readNumber_L43  {a j : Nat}  : ∀ (J : am_J) (r : Int × am_J), f_Reader_readNumber_L43    J = some r → am_nw [(1, some 4), (1, some 5), (1, some 6), (1, some 7), (1, some 10), (1, some 11)] a j = true → r.2 a j = J a j := by
  intro J r h hw
  unfold f_Reader_readNumber_L43 at h
  obtain ⟨q2025, e2026, h⟩ := am_bind_some h
  obtain ⟨-, h⟩ := am_if_some h
  rcases am_ite h with ⟨c2027, h⟩ | ⟨c2027, h⟩
  · skip
    obtain rfl := Option.some.inj h
    exact ((frJ_Reader_fail e2026 (am_nw_pick hw [4, 5] rfl)).trans rfl)
  · skip
    obtain rfl := Option.some.inj h
    exact ((frJ_Reader_fail e2026 (am_nw_pick hw [4, 5] rfl)).trans rfl)
theorem frJ_Reader_readNumber  {x1 : Int} {x2 : Int} {J : am_J} {r : Int × am_J} {a j : Nat} (h : f_Reader_readNumber  x1 x2 J = some r) (hw : am_nw [(1, some 4), (1, some 5), (1, some 6), (1, some 7), (1, some 10), (1, some 11)] a j = true) : r.2 a j = J a j := by
  unfold f_Reader_readNumber at h
  obtain ⟨q2028, e2029, h⟩ := am_bind_some h
  obtain ⟨-, h⟩ := am_if_some h
  rcases am_ite h with ⟨c2030, h⟩ | ⟨c2030, h⟩
  · skip
    obtain rfl := Option.some.inj h
    exact ((frJ_Reader_nextToken e2029 (am_nw_pick hw [0, 1, 2, 3, 4, 5] rfl)).trans rfl)
  · skip
    obtain ⟨-, h⟩ := am_if_some h
    rcases am_ite h with ⟨c2031, h⟩ | ⟨c2031, h⟩
    · skip
      obtain ⟨-, h⟩ := am_if_some h
      obtain ⟨-, h⟩ := am_if_some h
      rcases am_ite h with ⟨c2032, h⟩ | ⟨c2032, h⟩
      · skip
        exact (frJ_Reader_readNumber_L43  _ _ h hw).trans ((frJ_Reader_nextToken e2029 (am_nw_pick hw [0, 1, 2, 3, 4, 5] rfl)).trans rfl)
      · skip
        obtain ⟨-, h⟩ := am_if_some h
        rcases am_ite h with ⟨c2033, h⟩ | ⟨c2033, h⟩
        · skip
          exact (frJ_Reader_readNumber_L43  _ _ h hw).trans ((frJ_Reader_nextToken e2029 (am_nw_pick hw [0, 1, 2, 3, 4, 5] rfl)).trans rfl)
        · skip
          obtain rfl := Option.some.inj h
          exact ((frJ_Reader_nextToken e2029 (am_nw_pick hw [0, 1, 2, 3, 4, 5] rfl)).trans rfl)
    · skip
      obtain ⟨q2034, e2035, h⟩ := am_bind_some h
      obtain ⟨-, h⟩ := am_if_some h
      obtain rfl := Option.some.inj h
      exact ((frJ_Reader_fail e2035 (am_nw_pick hw [4, 5] rfl)).trans ((frJ_Reader_nextToken e2029 (am_nw_pick hw [0, 1, 2, 3, 4, 5] rfl)).trans rfl))
theorem frJ_Reader_tellPhases_L2 {b : Bool} {a j : Nat}  : ∀ (n : Nat) (x1 : Int) (x2 : Int) (J : am_J) (r : am_J), f_Reader_tellPhases_L2 b  n x1 x2 J = some r → am_nw [((am_dr b + 2), none), ((am_dr b + 3), none)] a j = true → r a j = J a j := by
  intro n
  induction n with
  | zero =>
    intro x1 x2 J r h hw
    cases h
  | succ n ih =>
    intro x1 x2 J r h hw
    rw [f_Reader_tellPhases_L2.eq_2] at h
    obtain ⟨-, h⟩ := am_if_some h
    rcases am_ite h with ⟨c2036, h⟩ | ⟨c2036, h⟩
    · skip
      obtain ⟨-, h⟩ := am_if_some h
      rcases am_ite h with ⟨c2037, h⟩ | ⟨c2037, h⟩
      · skip
        obtain ⟨-, h⟩ := am_if_some h
        exact (ih _ _ _ _ h hw).trans ((am_upn (am_nw_a hw 0 rfl)).trans rfl)
      · skip
        obtain ⟨-, h⟩ := am_if_some h
        exact (ih _ _ _ _ h hw).trans ((am_upn (am_nw_a hw 1 rfl)).trans rfl)
    · skip
      obtain rfl := Option.some.inj h
      exact rfl
theorem frJ_Reader_tellPhases {b : Bool} {x1 : Int} {J : am_J} {r : am_J} {a j : Nat} (h : f_Reader_tellPhases b x1 J = some r) (hw : am_nw [((am_dr b + 2), none), ((am_dr b + 3), none)] a j = true) : r a j = J a j := by
  unfold f_Reader_tellPhases at h
  exact (frJ_Reader_tellPhases_L2  _ _ _ _ _ h hw).trans rfl
theorem frJ_Reader_tellReach {b : Bool} {x1 : Int} {x2 : Int} {J : am_J} {r : am_J} {a j : Nat} (h : f_Reader_tellReach b x1 x2 J = some r) (hw : am_nw [((am_dr b + 4), none), ((am_dr b + 5), none), ((am_dr b + 6), none), ((am_dr b + 7), none), ((am_dr b + 8), none), ((am_dr b + 9), none)] a j = true) : r a j = J a j := by
  unfold f_Reader_tellReach at h
  obtain ⟨-, h⟩ := am_if_some h
  rcases am_ite h with ⟨c2038, h⟩ | ⟨c2038, h⟩
  · skip
    obtain ⟨-, h⟩ := am_if_some h
    obtain rfl := Option.some.inj h
    exact ((am_upn (am_nw_a hw 1 rfl)).trans ((am_upn (am_nw_a hw 0 rfl)).trans rfl))
  · skip
    rcases am_ite h with ⟨c2039, h⟩ | ⟨c2039, h⟩
    · skip
      obtain ⟨-, h⟩ := am_if_some h
      obtain rfl := Option.some.inj h
      exact ((am_upn (am_nw_a hw 4 rfl)).trans rfl)
    · skip
      rcases am_ite h with ⟨c2040, h⟩ | ⟨c2040, h⟩
      · skip
        obtain ⟨-, h⟩ := am_if_some h
        obtain rfl := Option.some.inj h
        exact ((am_upn (am_nw_a hw 5 rfl)).trans rfl)
      · skip
        rcases am_ite h with ⟨c2041, h⟩ | ⟨c2041, h⟩
        · skip
          obtain ⟨-, h⟩ := am_if_some h
          obtain rfl := Option.some.inj h
          exact ((am_upn (am_nw_a hw 3 rfl)).trans rfl)
        · skip
          obtain ⟨-, h⟩ := am_if_some h
          obtain rfl := Option.some.inj h
          exact ((am_upn (am_nw_a hw 2 rfl)).trans rfl)
theorem frJ_Reader_tell_L36 {b : Bool} {a j : Nat}  : ∀ (x1 : Int) (J : am_J) (r : am_J), f_Reader_tell_L36 b   x1 J = some r → am_nw [(1, some 9), ((am_dr b + 1), none), ((am_dr b + 2), none), ((am_dr b + 3), none), ((am_dr b + 4), none), ((am_dr b + 5), none), ((am_dr b + 6), none), ((am_dr b + 7), none), ((am_dr b + 8), none), ((am_dr b + 9), none)] a j = true → r a j = J a j := by
  intro x1 J r h hw
  unfold f_Reader_tell_L36 at h
  obtain ⟨q2042, e2043, h⟩ := am_bind_some h
  obtain rfl := Option.some.inj h
  exact ((frJ_Reader_tellPhases e2043 (am_nw_pick hw [2, 3] rfl)).trans rfl)
theorem frJ_Reader_tell {b : Bool} {x1 : Int} {J : am_J} {r : am_J} {a j : Nat} (h : f_Reader_tell b x1 J = some r) (hw : am_nw [(1, some 9), ((am_dr b + 1), none), ((am_dr b + 2), none), ((am_dr b + 3), none), ((am_dr b + 4), none), ((am_dr b + 5), none), ((am_dr b + 6), none), ((am_dr b + 7), none), ((am_dr b + 8), none), ((am_dr b + 9), none)] a j = true) : r a j = J a j := by
  unfold f_Reader_tell at h
  obtain ⟨-, h⟩ := am_if_some h
  rcases am_ite h with ⟨c2044, h⟩ | ⟨c2044, h⟩
  · skip
    obtain ⟨-, h⟩ := am_if_some h
    obtain rfl := Option.some.inj h
    exact ((am_upn (am_nw_a hw 1 rfl)).trans rfl)
  · skip
    rcases am_ite h with ⟨c2045, h⟩ | ⟨c2045, h⟩
    · skip
      exact (frJ_Reader_tell_L36  _ _ _ h hw).trans rfl
    · skip
      rcases am_ite h with ⟨c2046, h⟩ | ⟨c2046, h⟩
      · skip
        exact (frJ_Reader_tell_L36  _ _ _ h hw).trans rfl
      · skip
        obtain ⟨q2047, e2048, h⟩ := am_bind_some h
        obtain ⟨q2049, e2050, h⟩ := am_bind_some h
        obtain rfl := Option.some.inj h
        exact ((am_upn (am_nw_f hw 0 rfl)).trans ((frJ_Reader_tellReach e2048 (am_nw_pick hw [4, 5, 6, 7, 8, 9] rfl)).trans rfl))
theorem frJ_Reader_readLine_L74 {b : Bool} {a j : Nat}  : ∀ (n : Nat) (x1 : Int) (x3 : Int) (J : am_J) (r : Int × am_J), f_Reader_readLine_L74 b  n x1 x3 J = some r → am_nw [(1, some 4), (1, some 5), (1, some 6), (1, some 7), (1, some 9), (1, some 10), (1, some 11), (4, none), (5, none), ((am_dr b + 1), none), ((am_dr b + 2), none), ((am_dr b + 3), none), ((am_dr b + 4), none), ((am_dr b + 5), none), ((am_dr b + 6), none), ((am_dr b + 7), none), ((am_dr b + 8), none), ((am_dr b + 9), none)] a j = true → r.2 a j = J a j := by
  intro n
  induction n with
  | zero =>
    intro x1 x3 J r h hw
    cases h
  | succ n ih =>
    intro x1 x3 J r h hw
    rw [f_Reader_readLine_L74.eq_2] at h
    obtain ⟨q2051, e2052, h⟩ := am_bind_some h
    obtain ⟨-, h⟩ := am_if_some h
    obtain ⟨-, h⟩ := am_if_some h
    rcases am_ite h with ⟨c2053, h⟩ | ⟨c2053, h⟩
    · skip
      obtain ⟨q2054, e2055, h⟩ := am_bind_some h
      obtain ⟨q2056, e2057, h⟩ := am_bind_some h
      obtain ⟨q2058, e2059, h⟩ := am_bind_some h
      obtain ⟨-, h⟩ := am_if_some h
      rcases am_ite h with ⟨c2060, h⟩ | ⟨c2060, h⟩
      · skip
        obtain rfl := Option.some.inj h
        exact ((frJ_Reader_readNumber e2059 (am_nw_pick hw [0, 1, 2, 3, 5, 6] rfl)).trans rfl)
      · skip
        obtain ⟨-, h⟩ := am_if_some h
        obtain ⟨q2061, e2062, h⟩ := am_bind_some h
        obtain ⟨q2063, e2064, h⟩ := am_bind_some h
        obtain ⟨-, h⟩ := am_if_some h
        rcases am_ite h with ⟨c2065, h⟩ | ⟨c2065, h⟩
        · skip
          obtain rfl := Option.some.inj h
          exact ((frJ_Reader_mark e2064 (am_nw_pick hw [5, 6, 7] rfl)).trans ((am_upn (am_nw_a hw 8 rfl)).trans ((frJ_Reader_readNumber e2059 (am_nw_pick hw [0, 1, 2, 3, 5, 6] rfl)).trans rfl)))
        · skip
          exact (ih _ _ _ _ h hw).trans ((frJ_Reader_mark e2064 (am_nw_pick hw [5, 6, 7] rfl)).trans ((am_upn (am_nw_a hw 8 rfl)).trans ((frJ_Reader_readNumber e2059 (am_nw_pick hw [0, 1, 2, 3, 5, 6] rfl)).trans rfl)))
    · skip
      obtain ⟨q2066, e2067, h⟩ := am_bind_some h
      obtain ⟨-, h⟩ := am_if_some h
      rcases am_ite h with ⟨c2068, h⟩ | ⟨c2068, h⟩
      · skip
        obtain rfl := Option.some.inj h
        exact ((frJ_Reader_nextToken e2067 (am_nw_pick hw [0, 1, 2, 3, 5, 6] rfl)).trans rfl)
      · skip
        obtain ⟨-, h⟩ := am_if_some h
        rcases am_ite h with ⟨c2069, h⟩ | ⟨c2069, h⟩
        · skip
          obtain ⟨q2070, e2071, h⟩ := am_bind_some h
          obtain rfl := Option.some.inj h
          exact ((frJ_Reader_tell e2071 (am_nw_pick hw [4, 9, 10, 11, 12, 13, 14, 15, 16, 17] rfl)).trans ((frJ_Reader_nextToken e2067 (am_nw_pick hw [0, 1, 2, 3, 5, 6] rfl)).trans rfl))
        · skip
          obtain ⟨q2072, e2073, h⟩ := am_bind_some h
          obtain ⟨-, h⟩ := am_if_some h
          obtain rfl := Option.some.inj h
          exact ((frJ_Reader_fail e2073 (am_nw_pick hw [5, 6] rfl)).trans ((frJ_Reader_nextToken e2067 (am_nw_pick hw [0, 1, 2, 3, 5, 6] rfl)).trans rfl))
theorem frJ_Reader_readLine_L57 {b : Bool} {a j : Nat}  : ∀ (x1 : Int) (s0 : Int) (J : am_J) (r : Int × am_J), f_Reader_readLine_L57 b   x1 s0 J = some r → am_nw [(1, some 4), (1, some 5), (1, some 6), (1, some 7), (1, some 9), (1, some 10), (1, some 11), (4, none), (5, none), ((am_dr b + 1), none), ((am_dr b + 2), none), ((am_dr b + 3), none), ((am_dr b + 4), none), ((am_dr b + 5), none), ((am_dr b + 6), none), ((am_dr b + 7), none), ((am_dr b + 8), none), ((am_dr b + 9), none)] a j = true → r.2 a j = J a j := by
  intro x1 s0 J r h hw
  unfold f_Reader_readLine_L57 at h
  obtain ⟨-, h⟩ := am_if_some h
  rcases am_ite h with ⟨c2074, h⟩ | ⟨c2074, h⟩
  · skip
    exact (frJ_Reader_readLine_L74  _ _ _ _ _ h hw).trans rfl
  · skip
    obtain ⟨q2075, e2076, h⟩ := am_bind_some h
    obtain ⟨-, h⟩ := am_if_some h
    rcases am_ite h with ⟨c2077, h⟩ | ⟨c2077, h⟩
    · skip
      obtain rfl := Option.some.inj h
      exact ((frJ_Reader_mark e2076 (am_nw_pick hw [5, 6, 7] rfl)).trans rfl)
    · skip
      exact (frJ_Reader_readLine_L74  _ _ _ _ _ h hw).trans ((frJ_Reader_mark e2076 (am_nw_pick hw [5, 6, 7] rfl)).trans rfl)
theorem frJ_Reader_readLine_L17 {b : Bool} {a j : Nat}  : ∀ (s0 : Int) (J : am_J) (r : Int × am_J), f_Reader_readLine_L17 b   s0 J = some r → am_nw [(1, some 4), (1, some 5), (1, some 6), (1, some 7), (1, some 9), (1, some 10), (1, some 11), (4, none), (5, none), ((am_dr b + 1), none), ((am_dr b + 2), none), ((am_dr b + 3), none), ((am_dr b + 4), none), ((am_dr b + 5), none), ((am_dr b + 6), none), ((am_dr b + 7), none), ((am_dr b + 8), none), ((am_dr b + 9), none)] a j = true → r.2 a j = J a j := by
  intro s0 J r h hw
  unfold f_Reader_readLine_L17 at h
  obtain ⟨-, h⟩ := am_if_some h
  rcases am_ite h with ⟨c2078, h⟩ | ⟨c2078, h⟩
  · skip
    rcases am_ite h with ⟨c2079, h⟩ | ⟨c2079, h⟩
    · skip
      exact (frJ_Reader_readLine_L57  _ _ _ _ h hw).trans rfl
    · skip
      rcases am_ite h with ⟨c2080, h⟩ | ⟨c2080, h⟩
      · skip
        exact (frJ_Reader_readLine_L57  _ _ _ _ h hw).trans rfl
      · skip
        rcases am_ite h with ⟨c2081, h⟩ | ⟨c2081, h⟩
        · skip
          exact (frJ_Reader_readLine_L57  _ _ _ _ h hw).trans rfl
        · skip
          exact (frJ_Reader_readLine_L57  _ _ _ _ h hw).trans rfl
  · skip
    obtain ⟨q2082, e2083, h⟩ := am_bind_some h
    obtain ⟨-, h⟩ := am_if_some h
    obtain rfl := Option.some.inj h
    exact ((frJ_Reader_fail e2083 (am_nw_pick hw [5, 6] rfl)).trans rfl)
theorem frJ_Reader_readLine {b : Bool} {J : am_J} {r : Int × am_J} {a j : Nat} (h : f_Reader_readLine b J = some r) (hw : am_nw [(1, some 4), (1, some 5), (1, some 6), (1, some 7), (1, some 9), (1, some 10), (1, some 11), (4, none), (5, none), ((am_dr b + 1), none), ((am_dr b + 2), none), ((am_dr b + 3), none), ((am_dr b + 4), none), ((am_dr b + 5), none), ((am_dr b + 6), none), ((am_dr b + 7), none), ((am_dr b + 8), none), ((am_dr b + 9), none)] a j = true) : r.2 a j = J a j := by
  unfold f_Reader_readLine at h
  obtain ⟨-, h⟩ := am_if_some h
  rcases am_ite h with ⟨c2084, h⟩ | ⟨c2084, h⟩
  · skip
    obtain ⟨q2085, e2086, h⟩ := am_bind_some h
    exact (frJ_Reader_readLine_L17  _ _ _ h hw).trans rfl
  · skip
    exact (frJ_Reader_readLine_L17  _ _ _ h hw).trans rfl
theorem frJ_Reader_readText_L69 {b : Bool} {a j : Nat}  : ∀ (J : am_J) (K : am_K) (r : Int × am_J × am_K), f_Reader_readText_L69 b   J K = some r → am_nw [(1, some 4), (1, some 5), (1, some 6), (1, some 7), (1, some 8), (1, some 9), (1, some 10), (1, some 11), (4, none), (5, none), ((am_dr b + 1), none), ((am_dr b + 2), none), ((am_dr b + 3), none), ((am_dr b + 4), none), ((am_dr b + 5), none), ((am_dr b + 6), none), ((am_dr b + 7), none), ((am_dr b + 8), none), ((am_dr b + 9), none)] a j = true → r.2.1 a j = J a j := by
  intro J K r h hw
  unfold f_Reader_readText_L69 at h
  obtain ⟨-, h⟩ := am_if_some h
  obtain ⟨-, h⟩ := am_if_some h
  rcases am_ite h with ⟨c2087, h⟩ | ⟨c2087, h⟩
  · skip
    obtain ⟨q2088, e2089, h⟩ := am_bind_some h
    obtain rfl := Option.some.inj h
    exact rfl
  · skip
    obtain ⟨q2090, e2091, h⟩ := am_bind_some h
    obtain ⟨-, h⟩ := am_if_some h
    obtain rfl := Option.some.inj h
    exact ((frJ_Reader_fail e2091 (am_nw_pick hw [6, 7] rfl)).trans rfl)
theorem frJ_Reader_readText_L13 {b : Bool} {a j : Nat}  : ∀ (n : Nat) (x1 : Int) (J : am_J) (K : am_K) (r : Int × am_J × am_K), f_Reader_readText_L13 b  n x1 J K = some r → am_nw [(1, some 4), (1, some 5), (1, some 6), (1, some 7), (1, some 8), (1, some 9), (1, some 10), (1, some 11), (4, none), (5, none), ((am_dr b + 1), none), ((am_dr b + 2), none), ((am_dr b + 3), none), ((am_dr b + 4), none), ((am_dr b + 5), none), ((am_dr b + 6), none), ((am_dr b + 7), none), ((am_dr b + 8), none), ((am_dr b + 9), none)] a j = true → r.2.1 a j = J a j := by
  intro n
  induction n with
  | zero =>
    intro x1 J K r h hw
    cases h
  | succ n ih =>
    intro x1 J K r h hw
    rw [f_Reader_readText_L13.eq_2] at h
    obtain ⟨-, h⟩ := am_if_some h
    obtain ⟨-, h⟩ := am_if_some h
    rcases am_ite h with ⟨c2092, h⟩ | ⟨c2092, h⟩
    · skip
      exact (frJ_Reader_readText_L69  _ _ _ h hw).trans rfl
    · skip
      obtain ⟨q2093, e2094, h⟩ := am_bind_some h
      obtain ⟨-, h⟩ := am_if_some h
      rcases am_ite h with ⟨c2095, h⟩ | ⟨c2095, h⟩
      · skip
        obtain rfl := Option.some.inj h
        exact ((frJ_Reader_nextToken e2094 (am_nw_pick hw [0, 1, 2, 3, 6, 7] rfl)).trans rfl)
      · skip
        obtain ⟨-, h⟩ := am_if_some h
        rcases am_ite h with ⟨c2096, h⟩ | ⟨c2096, h⟩
        · skip
          exact (frJ_Reader_readText_L69  _ _ _ h hw).trans ((frJ_Reader_nextToken e2094 (am_nw_pick hw [0, 1, 2, 3, 6, 7] rfl)).trans rfl)
        · skip
          obtain ⟨q2097, e2098, h⟩ := am_bind_some h
          obtain ⟨-, h⟩ := am_if_some h
          rcases am_ite h with ⟨c2099, h⟩ | ⟨c2099, h⟩
          · skip
            obtain rfl := Option.some.inj h
            exact ((frJ_Reader_readLine e2098 (am_nw_pick hw [0, 1, 2, 3, 5, 6, 7, 8, 9, 10, 11, 12, 13, 14, 15, 16, 17, 18] rfl)).trans ((frJ_Reader_nextToken e2094 (am_nw_pick hw [0, 1, 2, 3, 6, 7] rfl)).trans rfl))
          · skip
            exact (ih _ _ _ _ h hw).trans ((am_upn (am_nw_f hw 4 rfl)).trans ((frJ_Reader_readLine e2098 (am_nw_pick hw [0, 1, 2, 3, 5, 6, 7, 8, 9, 10, 11, 12, 13, 14, 15, 16, 17, 18] rfl)).trans ((frJ_Reader_nextToken e2094 (am_nw_pick hw [0, 1, 2, 3, 6, 7] rfl)).trans rfl)))
theorem frJ_Reader_readText {b : Bool} {J : am_J} {K : am_K} {r : Int × am_J × am_K} {a j : Nat} (h : f_Reader_readText b J K = some r) (hw : am_nw [(1, some 4), (1, some 5), (1, some 6), (1, some 7), (1, some 8), (1, some 9), (1, some 10), (1, some 11), (4, none), (5, none), ((am_dr b + 1), none), ((am_dr b + 2), none), ((am_dr b + 3), none), ((am_dr b + 4), none), ((am_dr b + 5), none), ((am_dr b + 6), none), ((am_dr b + 7), none), ((am_dr b + 8), none), ((am_dr b + 9), none)] a j = true) : r.2.1 a j = J a j := by
  unfold f_Reader_readText at h
  obtain ⟨q2100, e2101, h⟩ := am_bind_some h
  obtain ⟨q2102, e2103, h⟩ := am_bind_some h
  exact (frJ_Reader_readText_L13  _ _ _ _ _ h hw).trans ((frJ_Reader_forget e2103 (am_nw_pick hw [0, 4, 5, 6, 7, 8] rfl)).trans ((frJ_River_forget e2101 (am_nw_pick hw [10, 11, 12, 13, 14, 15, 16, 17, 18] rfl)).trans rfl))
theorem frK_Reader_readText_L69 {b : Bool} {a j : Nat}  : ∀ (J : am_J) (K : am_K) (r : Int × am_J × am_K), f_Reader_readText_L69 b   J K = some r → am_nw [((am_dr b + 10), none)] a j = true → r.2.2 a j = K a j := by
  intro J K r h hw
  unfold f_Reader_readText_L69 at h
  obtain ⟨-, h⟩ := am_if_some h
  obtain ⟨-, h⟩ := am_if_some h
  rcases am_ite h with ⟨c2104, h⟩ | ⟨c2104, h⟩
  · skip
    obtain ⟨q2105, e2106, h⟩ := am_bind_some h
    obtain rfl := Option.some.inj h
    exact ((frK_River_settle e2106 (am_nw_pick hw [0] rfl)).trans rfl)
  · skip
    obtain ⟨q2107, e2108, h⟩ := am_bind_some h
    obtain ⟨-, h⟩ := am_if_some h
    obtain rfl := Option.some.inj h
    exact rfl
theorem frK_Reader_readText_L13 {b : Bool} {a j : Nat}  : ∀ (n : Nat) (x1 : Int) (J : am_J) (K : am_K) (r : Int × am_J × am_K), f_Reader_readText_L13 b  n x1 J K = some r → am_nw [((am_dr b + 10), none)] a j = true → r.2.2 a j = K a j := by
  intro n
  induction n with
  | zero =>
    intro x1 J K r h hw
    cases h
  | succ n ih =>
    intro x1 J K r h hw
    rw [f_Reader_readText_L13.eq_2] at h
    obtain ⟨-, h⟩ := am_if_some h
    obtain ⟨-, h⟩ := am_if_some h
    rcases am_ite h with ⟨c2109, h⟩ | ⟨c2109, h⟩
    · skip
      exact (frK_Reader_readText_L69  _ _ _ h hw).trans rfl
    · skip
      obtain ⟨q2110, e2111, h⟩ := am_bind_some h
      obtain ⟨-, h⟩ := am_if_some h
      rcases am_ite h with ⟨c2112, h⟩ | ⟨c2112, h⟩
      · skip
        obtain rfl := Option.some.inj h
        exact rfl
      · skip
        obtain ⟨-, h⟩ := am_if_some h
        rcases am_ite h with ⟨c2113, h⟩ | ⟨c2113, h⟩
        · skip
          exact (frK_Reader_readText_L69  _ _ _ h hw).trans rfl
        · skip
          obtain ⟨q2114, e2115, h⟩ := am_bind_some h
          obtain ⟨-, h⟩ := am_if_some h
          rcases am_ite h with ⟨c2116, h⟩ | ⟨c2116, h⟩
          · skip
            obtain rfl := Option.some.inj h
            exact rfl
          · skip
            exact (ih _ _ _ _ h hw).trans rfl
theorem frK_Reader_readText {b : Bool} {J : am_J} {K : am_K} {r : Int × am_J × am_K} {a j : Nat} (h : f_Reader_readText b J K = some r) (hw : am_nw [((am_dr b + 10), none)] a j = true) : r.2.2 a j = K a j := by
  unfold f_Reader_readText at h
  obtain ⟨q2117, e2118, h⟩ := am_bind_some h
  obtain ⟨q2119, e2120, h⟩ := am_bind_some h
  exact (frK_Reader_readText_L13  _ _ _ _ _ h hw).trans rfl
theorem frJ_UpRiver_text  {J : am_J} {K : am_K} {b : Bool} {r : Int × am_J × am_K × Bool} {a j : Nat} (h : f_UpRiver_text  J K b = some r) (hw : am_nw [(1, some 4), (1, some 5), (1, some 6), (1, some 7), (1, some 8), (1, some 9), (1, some 10), (1, some 11), (2, some 1), (4, none), (5, none), (18, some 0), (18, some 1), (18, some 2), (18, some 3), (18, some 4), (18, some 5), (19, some 2), (22, some 1), (31, none), (43, some 3), (50, some 3), ((am_dr b + 1), none), ((am_dr b + 2), none), ((am_dr b + 3), none), ((am_dr b + 4), none), ((am_dr b + 5), none), ((am_dr b + 6), none), ((am_dr b + 7), none), ((am_dr b + 8), none), ((am_dr b + 9), none)] a j = true) : r.2.1 a j = J a j := by
  unfold f_UpRiver_text at h
  obtain ⟨q2121, e2122, h⟩ := am_bind_some h
  obtain ⟨-, h⟩ := am_if_some h
  rcases am_ite h with ⟨c2123, h⟩ | ⟨c2123, h⟩
  · skip
    obtain rfl := Option.some.inj h
    exact ((am_upn (am_nw_f hw 8 rfl)).trans ((frJ_Reader_readText e2122 (am_nw_pick hw [0, 1, 2, 3, 4, 5, 6, 7, 9, 10, 22, 23, 24, 25, 26, 27, 28, 29, 30] rfl)).trans rfl))
  · skip
    obtain ⟨q2124, e2125, h⟩ := am_bind_some h
    obtain rfl := Option.some.inj h
    exact ((frJ_UpRiver_beginAnew e2125 (am_nw_pick hw [11, 12, 13, 14, 15, 16, 17, 18, 19, 20, 21] rfl)).trans ((am_upn (am_nw_f hw 8 rfl)).trans ((frJ_Reader_readText e2122 (am_nw_pick hw [0, 1, 2, 3, 4, 5, 6, 7, 9, 10, 22, 23, 24, 25, 26, 27, 28, 29, 30] rfl)).trans rfl)))
theorem frK_UpRiver_text  {J : am_J} {K : am_K} {b : Bool} {r : Int × am_J × am_K × Bool} {a j : Nat} (h : f_UpRiver_text  J K b = some r) (hw : am_nw [((am_dr b + 10), none)] a j = true) : r.2.2.1 a j = K a j := by
  unfold f_UpRiver_text at h
  obtain ⟨q2126, e2127, h⟩ := am_bind_some h
  obtain ⟨-, h⟩ := am_if_some h
  rcases am_ite h with ⟨c2128, h⟩ | ⟨c2128, h⟩
  · skip
    obtain rfl := Option.some.inj h
    exact ((frK_Reader_readText e2127 (am_nw_pick hw [0] rfl)).trans rfl)
  · skip
    obtain ⟨q2129, e2130, h⟩ := am_bind_some h
    obtain rfl := Option.some.inj h
    exact ((frK_Reader_readText e2127 (am_nw_pick hw [0] rfl)).trans rfl)
theorem frJ_Boat_trySail_L111 {o1 : Nat} {o2 : Nat} {a j : Nat}  : ∀ (x3 : Int) (x4 : Int) (J : am_J) (r : Int × am_J), f_Boat_trySail_L111 o1 o2   x3 x4 J = some r → am_nw [(o1, some 0), (o1, some 1), (o1, some 3), (o1, some 5)] a j = true → r.2 a j = J a j := by
  intro x3 x4 J r h hw
  unfold f_Boat_trySail_L111 at h
  obtain rfl := Option.some.inj h
  exact ((am_upn (am_nw_f hw 3 rfl)).trans ((am_upn (am_nw_f hw 2 rfl)).trans ((am_upn (am_nw_f hw 1 rfl)).trans ((am_upn (am_nw_f hw 0 rfl)).trans rfl))))
theorem frJ_Boat_trySail_L80 {o1 : Nat} {o2 : Nat} {a j : Nat}  : ∀ (x3 : Int) (s0 : Int) (J : am_J) (r : Int × am_J), f_Boat_trySail_L80 o1 o2   x3 s0 J = some r → am_nw [(o1, some 0), (o1, some 1), (o1, some 3), (o1, some 5)] a j = true → r.2 a j = J a j := by
  intro x3 s0 J r h hw
  unfold f_Boat_trySail_L80 at h
  obtain ⟨q2131, e2132, h⟩ := am_bind_some h
  obtain ⟨-, h⟩ := am_if_some h
  obtain ⟨-, h⟩ := am_if_some h
  rcases am_ite h with ⟨c2133, h⟩ | ⟨c2133, h⟩
  · skip
    obtain ⟨q2134, e2135, h⟩ := am_bind_some h
    obtain ⟨-, h⟩ := am_if_some h
    rcases am_ite h with ⟨c2136, h⟩ | ⟨c2136, h⟩
    · skip
      obtain rfl := Option.some.inj h
      exact rfl
    · skip
      exact (frJ_Boat_trySail_L111  _ _ _ _ h hw).trans rfl
  · skip
    exact (frJ_Boat_trySail_L111  _ _ _ _ h hw).trans rfl
theorem frJ_Boat_trySail {o1 : Nat} {o2 : Nat} {J : am_J} {r : Int × am_J} {a j : Nat} (h : f_Boat_trySail o1 o2 J = some r) (hw : am_nw [(o1, some 0), (o1, some 1), (o1, some 3), (o1, some 5)] a j = true) : r.2 a j = J a j := by
  unfold f_Boat_trySail at h
  obtain ⟨-, h⟩ := am_if_some h
  rcases am_ite h with ⟨c2137, h⟩ | ⟨c2137, h⟩
  · skip
    obtain ⟨q2138, e2139, h⟩ := am_bind_some h
    obtain ⟨-, h⟩ := am_if_some h
    rcases am_ite h with ⟨c2140, h⟩ | ⟨c2140, h⟩
    · skip
      obtain rfl := Option.some.inj h
      exact rfl
    · skip
      obtain ⟨-, h⟩ := am_if_some h
      obtain ⟨q2141, e2142, h⟩ := am_bind_some h
      obtain ⟨q2143, e2144, h⟩ := am_bind_some h
      obtain ⟨q2145, e2146, h⟩ := am_bind_some h
      obtain ⟨q2147, e2148, h⟩ := am_bind_some h
      obtain ⟨-, h⟩ := am_if_some h
      obtain ⟨-, h⟩ := am_if_some h
      rcases am_ite h with ⟨c2149, h⟩ | ⟨c2149, h⟩
      · skip
        obtain ⟨q2150, e2151, h⟩ := am_bind_some h
        exact (frJ_Boat_trySail_L80  _ _ _ _ h hw).trans rfl
      · skip
        exact (frJ_Boat_trySail_L80  _ _ _ _ h hw).trans rfl
  · skip
    obtain rfl := Option.some.inj h
    exact rfl
theorem frJ_UpRiver_sail_L55 {b : Bool} {a j : Nat}  : ∀ (n : Nat) (x1 : Int) (x3 : Int) (x4 : Int) (J : am_J) (r : Int × am_J), f_UpRiver_sail_L55 b  n x1 x3 x4 J = some r → am_nw [(18, some 0), (18, some 1), (18, some 3), (18, some 5)] a j = true → r.2 a j = J a j := by
  intro n
  induction n with
  | zero =>
    intro x1 x3 x4 J r h hw
    cases h
  | succ n ih =>
    intro x1 x3 x4 J r h hw
    rw [f_UpRiver_sail_L55.eq_2] at h
    obtain ⟨-, h⟩ := am_if_some h
    obtain ⟨-, h⟩ := am_if_some h
    rcases am_ite h with ⟨c2152, h⟩ | ⟨c2152, h⟩
    · skip
      obtain ⟨q2153, e2154, h⟩ := am_bind_some h
      obtain ⟨-, h⟩ := am_if_some h
      rcases am_ite h with ⟨c2155, h⟩ | ⟨c2155, h⟩
      · skip
        obtain ⟨q2156, e2157, h⟩ := am_bind_some h
        obtain ⟨-, h⟩ := am_if_some h
        rcases am_ite h with ⟨c2158, h⟩ | ⟨c2158, h⟩
        · skip
          exact (ih _ _ _ _ _ h hw).trans ((am_upn (am_nw_f hw 2 rfl)).trans ((frJ_Boat_trySail e2157 (am_nw_pick hw [0, 1, 2, 3] rfl)).trans rfl))
        · skip
          exact (ih _ _ _ _ _ h hw).trans ((frJ_Boat_trySail e2157 (am_nw_pick hw [0, 1, 2, 3] rfl)).trans rfl)
      · skip
        obtain rfl := Option.some.inj h
        exact rfl
    · skip
      obtain rfl := Option.some.inj h
      exact rfl
theorem frJ_UpRiver_sail {b : Bool} {x1 : Int} {J : am_J} {r : Int × am_J} {a j : Nat} (h : f_UpRiver_sail b x1 J = some r) (hw : am_nw [(18, some 0), (18, some 1), (18, some 3), (18, some 5)] a j = true) : r.2 a j = J a j := by
  unfold f_UpRiver_sail at h
  obtain ⟨-, h⟩ := am_if_some h
  rcases am_ite h with ⟨c2159, h⟩ | ⟨c2159, h⟩
  · skip
    obtain rfl := Option.some.inj h
    exact rfl
  · skip
    rcases am_ite h with ⟨c2160, h⟩ | ⟨c2160, h⟩
    · skip
      obtain rfl := Option.some.inj h
      exact rfl
    · skip
      obtain ⟨q2161, e2162, h⟩ := am_bind_some h
      obtain ⟨-, h⟩ := am_if_some h
      rcases am_ite h with ⟨c2163, h⟩ | ⟨c2163, h⟩
      · skip
        obtain ⟨-, h⟩ := am_if_some h
        rcases am_ite h with ⟨c2164, h⟩ | ⟨c2164, h⟩
        · skip
          obtain rfl := Option.some.inj h
          exact rfl
        · skip
          exact (frJ_UpRiver_sail_L55  _ _ _ _ _ _ h hw).trans rfl
      · skip
        obtain rfl := Option.some.inj h
        exact rfl
theorem frJ_Boat_tryTurn_L91 {o1 : Nat} {o2 : Nat} {a j : Nat}  : ∀ (x2 : Int) (x3 : Int) (J : am_J) (r : Int × am_J), f_Boat_tryTurn_L91 o1 o2   x2 x3 J = some r → am_nw [(o1, some 0), (o1, some 2), (o1, some 3), (o1, some 4)] a j = true → r.2 a j = J a j := by
  intro x2 x3 J r h hw
  unfold f_Boat_tryTurn_L91 at h
  obtain rfl := Option.some.inj h
  exact ((am_upn (am_nw_f hw 3 rfl)).trans ((am_upn (am_nw_f hw 2 rfl)).trans ((am_upn (am_nw_f hw 1 rfl)).trans ((am_upn (am_nw_f hw 0 rfl)).trans rfl))))
theorem frJ_Boat_tryTurn {o1 : Nat} {o2 : Nat} {J : am_J} {r : Int × am_J} {a j : Nat} (h : f_Boat_tryTurn o1 o2 J = some r) (hw : am_nw [(o1, some 0), (o1, some 2), (o1, some 3), (o1, some 4)] a j = true) : r.2 a j = J a j := by
  unfold f_Boat_tryTurn at h
  obtain ⟨-, h⟩ := am_if_some h
  rcases am_ite h with ⟨c2165, h⟩ | ⟨c2165, h⟩
  · skip
    obtain rfl := Option.some.inj h
    exact rfl
  · skip
    obtain ⟨q2166, e2167, h⟩ := am_bind_some h
    obtain ⟨-, h⟩ := am_if_some h
    rcases am_ite h with ⟨c2168, h⟩ | ⟨c2168, h⟩
    · skip
      obtain rfl := Option.some.inj h
      exact rfl
    · skip
      obtain ⟨-, h⟩ := am_if_some h
      obtain ⟨q2169, e2170, h⟩ := am_bind_some h
      obtain ⟨q2171, e2172, h⟩ := am_bind_some h
      obtain ⟨q2173, e2174, h⟩ := am_bind_some h
      obtain ⟨-, h⟩ := am_if_some h
      obtain ⟨-, h⟩ := am_if_some h
      rcases am_ite h with ⟨c2175, h⟩ | ⟨c2175, h⟩
      · skip
        obtain ⟨q2176, e2177, h⟩ := am_bind_some h
        obtain ⟨-, h⟩ := am_if_some h
        rcases am_ite h with ⟨c2178, h⟩ | ⟨c2178, h⟩
        · skip
          obtain rfl := Option.some.inj h
          exact rfl
        · skip
          exact (frJ_Boat_tryTurn_L91  _ _ _ _ h hw).trans rfl
      · skip
        exact (frJ_Boat_tryTurn_L91  _ _ _ _ h hw).trans rfl
theorem frJ_UpRiver_turn {b : Bool} {J : am_J} {r : Int × am_J} {a j : Nat} (h : f_UpRiver_turn b J = some r) (hw : am_nw [(18, some 0), (18, some 2), (18, some 3), (18, some 4)] a j = true) : r.2 a j = J a j := by
  unfold f_UpRiver_turn at h
  obtain ⟨q2179, e2180, h⟩ := am_bind_some h
  obtain ⟨-, h⟩ := am_if_some h
  rcases am_ite h with ⟨c2181, h⟩ | ⟨c2181, h⟩
  · skip
    obtain ⟨-, h⟩ := am_if_some h
    rcases am_ite h with ⟨c2182, h⟩ | ⟨c2182, h⟩
    · skip
      obtain rfl := Option.some.inj h
      exact rfl
    · skip
      obtain ⟨q2183, e2184, h⟩ := am_bind_some h
      obtain ⟨-, h⟩ := am_if_some h
      rcases am_ite h with ⟨c2185, h⟩ | ⟨c2185, h⟩
      · skip
        obtain rfl := Option.some.inj h
        exact ((am_upn (am_nw_f hw 2 rfl)).trans ((frJ_Boat_tryTurn e2184 (am_nw_pick hw [0, 1, 2, 3] rfl)).trans rfl))
      · skip
        obtain rfl := Option.some.inj h
        exact ((frJ_Boat_tryTurn e2184 (am_nw_pick hw [0, 1, 2, 3] rfl)).trans rfl)
  · skip
    obtain rfl := Option.some.inj h
    exact rfl
theorem frJ_UpRiver_anchor  {x1 : Int} {J : am_J} {r : Int × am_J} {a j : Nat} (h : f_UpRiver_anchor  x1 J = some r) (hw : am_nw [(18, some 3)] a j = true) : r.2 a j = J a j := by
  unfold f_UpRiver_anchor at h
  obtain ⟨-, h⟩ := am_if_some h
  rcases am_ite h with ⟨c2186, h⟩ | ⟨c2186, h⟩
  · skip
    obtain rfl := Option.some.inj h
    exact rfl
  · skip
    rcases am_ite h with ⟨c2187, h⟩ | ⟨c2187, h⟩
    · skip
      obtain rfl := Option.some.inj h
      exact rfl
    · skip
      obtain ⟨-, h⟩ := am_if_some h
      rcases am_ite h with ⟨c2188, h⟩ | ⟨c2188, h⟩
      · skip
        obtain rfl := Option.some.inj h
        exact rfl
      · skip
        obtain rfl := Option.some.inj h
        exact ((am_upn (am_nw_f hw 0 rfl)).trans rfl)
theorem frJ_UpRiver_set {b : Bool} {x1 : Int} {x2 : Int} {x3 : Int} {x4 : Int} {J : am_J} {r : Int × am_J} {a j : Nat} (h : f_UpRiver_set b x1 x2 x3 x4 J = some r) (hw : am_nw [(18, some 0), (18, some 1), (18, some 2), (18, some 3), (18, some 4), (18, some 5)] a j = true) : r.2 a j = J a j := by
  unfold f_UpRiver_set at h
  obtain ⟨-, h⟩ := am_if_some h
  rcases am_ite h with ⟨c2189, h⟩ | ⟨c2189, h⟩
  · skip
    obtain rfl := Option.some.inj h
    exact rfl
  · skip
    obtain ⟨q2190, e2191, h⟩ := am_bind_some h
    obtain ⟨-, h⟩ := am_if_some h
    rcases am_ite h with ⟨c2192, h⟩ | ⟨c2192, h⟩
    · skip
      obtain ⟨q2193, e2194, h⟩ := am_bind_some h
      obtain ⟨-, h⟩ := am_if_some h
      rcases am_ite h with ⟨c2195, h⟩ | ⟨c2195, h⟩
      · skip
        obtain rfl := Option.some.inj h
        exact rfl
      · skip
        obtain ⟨q2196, e2197, h⟩ := am_bind_some h
        obtain ⟨-, h⟩ := am_if_some h
        rcases am_ite h with ⟨c2198, h⟩ | ⟨c2198, h⟩
        · skip
          obtain rfl := Option.some.inj h
          exact rfl
        · skip
          obtain ⟨q2199, e2200, h⟩ := am_bind_some h
          obtain ⟨-, h⟩ := am_if_some h
          rcases am_ite h with ⟨c2201, h⟩ | ⟨c2201, h⟩
          · skip
            obtain rfl := Option.some.inj h
            exact rfl
          · skip
            obtain ⟨q2202, e2203, h⟩ := am_bind_some h
            obtain ⟨q2204, e2205, h⟩ := am_bind_some h
            obtain ⟨q2206, e2207, h⟩ := am_bind_some h
            obtain rfl := Option.some.inj h
            exact ((frJ_Boat_lieAt e2203 (am_nw_pick hw [0, 1, 2, 3, 4, 5] rfl)).trans rfl)
    · skip
      obtain rfl := Option.some.inj h
      exact rfl
theorem frK_Search_add {o1 : Nat} {J : am_J} {K : am_K} {r : am_K} {a j : Nat} (h : f_Search_add o1 J K = some r) (hw : am_nw [(27, none)] a j = true) : r a j = K a j := by
  unfold f_Search_add at h
  obtain ⟨q2208, e2209, h⟩ := am_bind_some h
  obtain ⟨-, h⟩ := am_if_some h
  rcases am_ite h with ⟨c2210, h⟩ | ⟨c2210, h⟩
  · skip
    obtain rfl := Option.some.inj h
    exact rfl
  · skip
    obtain ⟨-, h⟩ := am_if_some h
    obtain ⟨-, h⟩ := am_if_some h
    rcases am_ite h with ⟨c2211, h⟩ | ⟨c2211, h⟩
    · skip
      obtain ⟨q2212, e2213, h⟩ := am_bind_some h
      obtain ⟨-, h⟩ := am_if_some h
      obtain rfl := Option.some.inj h
      exact ((am_uln (am_nw_a hw 0 rfl)).trans rfl)
    · skip
      obtain rfl := Option.some.inj h
      exact rfl
theorem frJ_Search_land_L33  {a j : Nat}  : ∀ (y1 : Int64) (x3 : Int) (x4 : Int) (x5 : Int) (J : am_J) (K : am_K) (r : am_J × am_K), f_Search_land_L33    y1 x3 x4 x5 J K = some r → am_nw [(26, some 6)] a j = true → r.1 a j = J a j := by
  intro y1 x3 x4 x5 J K r h hw
  unfold f_Search_land_L33 at h
  obtain ⟨q2214, e2215, h⟩ := am_bind_some h
  obtain ⟨-, h⟩ := am_if_some h
  obtain rfl := Option.some.inj h
  exact rfl
theorem frJ_Search_land  {y1 : Int64} {x3 : Int} {x4 : Int} {x5 : Int} {J : am_J} {K : am_K} {r : am_J × am_K} {a j : Nat} (h : f_Search_land  y1 x3 x4 x5 J K = some r) (hw : am_nw [(26, some 6)] a j = true) : r.1 a j = J a j := by
  unfold f_Search_land at h
  obtain ⟨-, h⟩ := am_if_some h
  rcases am_ite h with ⟨c2216, h⟩ | ⟨c2216, h⟩
  · skip
    obtain rfl := Option.some.inj h
    exact rfl
  · skip
    obtain ⟨q2217, e2218, h⟩ := am_bind_some h
    obtain ⟨-, h⟩ := am_if_some h
    rcases am_ite h with ⟨c2219, h⟩ | ⟨c2219, h⟩
    · skip
      exact (frJ_Search_land_L33  _ _ _ _ _ _ _ h hw).trans rfl
    · skip
      obtain ⟨q2220, e2221, h⟩ := am_bind_some h
      exact (frJ_Search_land_L33  _ _ _ _ _ _ _ h hw).trans ((am_upn (am_nw_f hw 0 rfl)).trans rfl)
theorem frK_Search_land_L33  {a j : Nat}  : ∀ (y1 : Int64) (x3 : Int) (x4 : Int) (x5 : Int) (J : am_J) (K : am_K) (r : am_J × am_K), f_Search_land_L33    y1 x3 x4 x5 J K = some r → am_nw [(27, none)] a j = true → r.2 a j = K a j := by
  intro y1 x3 x4 x5 J K r h hw
  unfold f_Search_land_L33 at h
  obtain ⟨q2222, e2223, h⟩ := am_bind_some h
  obtain ⟨-, h⟩ := am_if_some h
  obtain rfl := Option.some.inj h
  exact ((am_uln (am_nw_a hw 0 rfl)).trans rfl)
theorem frK_Search_land  {y1 : Int64} {x3 : Int} {x4 : Int} {x5 : Int} {J : am_J} {K : am_K} {r : am_J × am_K} {a j : Nat} (h : f_Search_land  y1 x3 x4 x5 J K = some r) (hw : am_nw [(27, none)] a j = true) : r.2 a j = K a j := by
  unfold f_Search_land at h
  obtain ⟨-, h⟩ := am_if_some h
  rcases am_ite h with ⟨c2224, h⟩ | ⟨c2224, h⟩
  · skip
    obtain rfl := Option.some.inj h
    exact rfl
  · skip
    obtain ⟨q2225, e2226, h⟩ := am_bind_some h
    obtain ⟨-, h⟩ := am_if_some h
    rcases am_ite h with ⟨c2227, h⟩ | ⟨c2227, h⟩
    · skip
      exact (frK_Search_land_L33  _ _ _ _ _ _ _ h hw).trans rfl
    · skip
      obtain ⟨q2228, e2229, h⟩ := am_bind_some h
      exact (frK_Search_land_L33  _ _ _ _ _ _ _ h hw).trans rfl
theorem frJ_Search_noteUp  {y1 : Int64} {x3 : Int} {x4 : Int} {J : am_J} {r : am_J} {a j : Nat} (h : f_Search_noteUp  y1 x3 x4 J = some r) (hw : am_nw [(26, some 6)] a j = true) : r a j = J a j := by
  unfold f_Search_noteUp at h
  obtain ⟨-, h⟩ := am_if_some h
  rcases am_ite h with ⟨c2230, h⟩ | ⟨c2230, h⟩
  · skip
    obtain ⟨q2231, e2232, h⟩ := am_bind_some h
    obtain ⟨-, h⟩ := am_if_some h
    rcases am_ite h with ⟨c2233, h⟩ | ⟨c2233, h⟩
    · skip
      obtain rfl := Option.some.inj h
      exact rfl
    · skip
      obtain ⟨q2234, e2235, h⟩ := am_bind_some h
      obtain rfl := Option.some.inj h
      exact ((am_upn (am_nw_f hw 0 rfl)).trans rfl)
  · skip
    obtain rfl := Option.some.inj h
    exact rfl
theorem frJ_Search_leave_L143 {o1 : Nat} {a j : Nat}  : ∀ (n : Nat) (x2 : Int) (x3 : Int) (x4 : Int) (x8 : Int) (x9 : Int) (y10 : Int64) (y12 : Int64) (y14 : Int64) (x16 : Int) (J : am_J) (K : am_K) (r : am_J × am_K), f_Search_leave_L143 o1  n x2 x3 x4 x8 x9 y10 y12 y14 x16 J K = some r → am_nw [(26, some 6)] a j = true → r.1 a j = J a j := by
  intro n
  induction n with
  | zero =>
    intro x2 x3 x4 x8 x9 y10 y12 y14 x16 J K r h hw
    cases h
  | succ n ih =>
    intro x2 x3 x4 x8 x9 y10 y12 y14 x16 J K r h hw
    rw [f_Search_leave_L143.eq_2] at h
    obtain ⟨-, h⟩ := am_if_some h
    obtain ⟨-, h⟩ := am_if_some h
    rcases am_ite h with ⟨c2236, h⟩ | ⟨c2236, h⟩
    · skip
      obtain ⟨-, h⟩ := am_if_some h
      rcases am_ite h with ⟨c2237, h⟩ | ⟨c2237, h⟩
      · skip
        exact (ih _ _ _ _ _ _ _ _ _ _ _ _ h hw).trans rfl
      · skip
        obtain ⟨q2238, e2239, h⟩ := am_bind_some h
        obtain ⟨q2240, e2241, h⟩ := am_bind_some h
        obtain ⟨q2242, e2243, h⟩ := am_bind_some h
        obtain ⟨q2244, e2245, h⟩ := am_bind_some h
        obtain ⟨q2246, e2247, h⟩ := am_bind_some h
        obtain ⟨q2248, e2249, h⟩ := am_bind_some h
        obtain ⟨q2250, e2251, h⟩ := am_bind_some h
        obtain ⟨q2252, e2253, h⟩ := am_bind_some h
        exact (ih _ _ _ _ _ _ _ _ _ _ _ _ h hw).trans ((frJ_Search_land e2253 (am_nw_pick hw [0] rfl)).trans ((frJ_Search_noteUp e2249 (am_nw_pick hw [0] rfl)).trans ((frJ_Search_land e2247 (am_nw_pick hw [0] rfl)).trans ((frJ_Search_noteUp e2243 (am_nw_pick hw [0] rfl)).trans rfl))))
    · skip
      obtain rfl := Option.some.inj h
      exact rfl
theorem frJ_Search_leave_L124 {o1 : Nat} {a j : Nat}  : ∀ (x2 : Int) (x3 : Int) (x4 : Int) (x8 : Int) (x9 : Int) (y10 : Int64) (t0 : Int64) (J : am_J) (K : am_K) (r : am_J × am_K), f_Search_leave_L124 o1   x2 x3 x4 x8 x9 y10 t0 J K = some r → am_nw [(26, some 6)] a j = true → r.1 a j = J a j := by
  intro x2 x3 x4 x8 x9 y10 t0 J K r h hw
  unfold f_Search_leave_L124 at h
  obtain ⟨q2254, e2255, h⟩ := am_bind_some h
  exact (frJ_Search_leave_L143  _ _ _ _ _ _ _ _ _ _ _ _ _ h hw).trans rfl
theorem frJ_Search_leave_L66 {o1 : Nat} {a j : Nat}  : ∀ (x2 : Int) (x3 : Int) (x4 : Int) (y6 : Int64) (s0 : Int) (J : am_J) (K : am_K) (r : am_J × am_K), f_Search_leave_L66 o1   x2 x3 x4 y6 s0 J K = some r → am_nw [(26, some 6)] a j = true → r.1 a j = J a j := by
  intro x2 x3 x4 y6 s0 J K r h hw
  unfold f_Search_leave_L66 at h
  obtain ⟨q2256, e2257, h⟩ := am_bind_some h
  obtain ⟨q2258, e2259, h⟩ := am_bind_some h
  obtain ⟨-, h⟩ := am_if_some h
  rcases am_ite h with ⟨c2260, h⟩ | ⟨c2260, h⟩
  · skip
    exact (frJ_Search_leave_L124  _ _ _ _ _ _ _ _ _ _ h hw).trans rfl
  · skip
    obtain ⟨q2261, e2262, h⟩ := am_bind_some h
    exact (frJ_Search_leave_L124  _ _ _ _ _ _ _ _ _ _ h hw).trans rfl
theorem frJ_Search_leave {o1 : Nat} {x2 : Int} {x3 : Int} {x4 : Int} {J : am_J} {K : am_K} {r : am_J × am_K} {a j : Nat} (h : f_Search_leave o1 x2 x3 x4 J K = some r) (hw : am_nw [(26, some 6)] a j = true) : r.1 a j = J a j := by
  unfold f_Search_leave at h
  obtain ⟨q2263, e2264, h⟩ := am_bind_some h
  obtain ⟨-, h⟩ := am_if_some h
  obtain ⟨-, h⟩ := am_if_some h
  rcases am_ite h with ⟨c2265, h⟩ | ⟨c2265, h⟩
  · skip
    obtain rfl := Option.some.inj h
    exact rfl
  · skip
    obtain ⟨q2266, e2267, h⟩ := am_bind_some h
    obtain ⟨-, h⟩ := am_if_some h
    obtain ⟨-, h⟩ := am_if_some h
    rcases am_ite h with ⟨c2268, h⟩ | ⟨c2268, h⟩
    · skip
      exact (frJ_Search_leave_L66  _ _ _ _ _ _ _ _ h hw).trans rfl
    · skip
      exact (frJ_Search_leave_L66  _ _ _ _ _ _ _ _ h hw).trans rfl
theorem frK_Search_leave_L143 {o1 : Nat} {a j : Nat}  : ∀ (n : Nat) (x2 : Int) (x3 : Int) (x4 : Int) (x8 : Int) (x9 : Int) (y10 : Int64) (y12 : Int64) (y14 : Int64) (x16 : Int) (J : am_J) (K : am_K) (r : am_J × am_K), f_Search_leave_L143 o1  n x2 x3 x4 x8 x9 y10 y12 y14 x16 J K = some r → am_nw [(27, none)] a j = true → r.2 a j = K a j := by
  intro n
  induction n with
  | zero =>
    intro x2 x3 x4 x8 x9 y10 y12 y14 x16 J K r h hw
    cases h
  | succ n ih =>
    intro x2 x3 x4 x8 x9 y10 y12 y14 x16 J K r h hw
    rw [f_Search_leave_L143.eq_2] at h
    obtain ⟨-, h⟩ := am_if_some h
    obtain ⟨-, h⟩ := am_if_some h
    rcases am_ite h with ⟨c2269, h⟩ | ⟨c2269, h⟩
    · skip
      obtain ⟨-, h⟩ := am_if_some h
      rcases am_ite h with ⟨c2270, h⟩ | ⟨c2270, h⟩
      · skip
        exact (ih _ _ _ _ _ _ _ _ _ _ _ _ h hw).trans rfl
      · skip
        obtain ⟨q2271, e2272, h⟩ := am_bind_some h
        obtain ⟨q2273, e2274, h⟩ := am_bind_some h
        obtain ⟨q2275, e2276, h⟩ := am_bind_some h
        obtain ⟨q2277, e2278, h⟩ := am_bind_some h
        obtain ⟨q2279, e2280, h⟩ := am_bind_some h
        obtain ⟨q2281, e2282, h⟩ := am_bind_some h
        obtain ⟨q2283, e2284, h⟩ := am_bind_some h
        obtain ⟨q2285, e2286, h⟩ := am_bind_some h
        exact (ih _ _ _ _ _ _ _ _ _ _ _ _ h hw).trans ((frK_Search_land e2286 (am_nw_pick hw [0] rfl)).trans ((frK_Search_land e2280 (am_nw_pick hw [0] rfl)).trans rfl))
    · skip
      obtain rfl := Option.some.inj h
      exact rfl
theorem frK_Search_leave_L124 {o1 : Nat} {a j : Nat}  : ∀ (x2 : Int) (x3 : Int) (x4 : Int) (x8 : Int) (x9 : Int) (y10 : Int64) (t0 : Int64) (J : am_J) (K : am_K) (r : am_J × am_K), f_Search_leave_L124 o1   x2 x3 x4 x8 x9 y10 t0 J K = some r → am_nw [(27, none)] a j = true → r.2 a j = K a j := by
  intro x2 x3 x4 x8 x9 y10 t0 J K r h hw
  unfold f_Search_leave_L124 at h
  obtain ⟨q2287, e2288, h⟩ := am_bind_some h
  exact (frK_Search_leave_L143  _ _ _ _ _ _ _ _ _ _ _ _ _ h hw).trans rfl
theorem frK_Search_leave_L66 {o1 : Nat} {a j : Nat}  : ∀ (x2 : Int) (x3 : Int) (x4 : Int) (y6 : Int64) (s0 : Int) (J : am_J) (K : am_K) (r : am_J × am_K), f_Search_leave_L66 o1   x2 x3 x4 y6 s0 J K = some r → am_nw [(27, none)] a j = true → r.2 a j = K a j := by
  intro x2 x3 x4 y6 s0 J K r h hw
  unfold f_Search_leave_L66 at h
  obtain ⟨q2289, e2290, h⟩ := am_bind_some h
  obtain ⟨q2291, e2292, h⟩ := am_bind_some h
  obtain ⟨-, h⟩ := am_if_some h
  rcases am_ite h with ⟨c2293, h⟩ | ⟨c2293, h⟩
  · skip
    exact (frK_Search_leave_L124  _ _ _ _ _ _ _ _ _ _ h hw).trans rfl
  · skip
    obtain ⟨q2294, e2295, h⟩ := am_bind_some h
    exact (frK_Search_leave_L124  _ _ _ _ _ _ _ _ _ _ h hw).trans rfl
theorem frK_Search_leave {o1 : Nat} {x2 : Int} {x3 : Int} {x4 : Int} {J : am_J} {K : am_K} {r : am_J × am_K} {a j : Nat} (h : f_Search_leave o1 x2 x3 x4 J K = some r) (hw : am_nw [(27, none)] a j = true) : r.2 a j = K a j := by
  unfold f_Search_leave at h
  obtain ⟨q2296, e2297, h⟩ := am_bind_some h
  obtain ⟨-, h⟩ := am_if_some h
  obtain ⟨-, h⟩ := am_if_some h
  rcases am_ite h with ⟨c2298, h⟩ | ⟨c2298, h⟩
  · skip
    obtain rfl := Option.some.inj h
    exact ((am_uln (am_nw_a hw 0 rfl)).trans rfl)
  · skip
    obtain ⟨q2299, e2300, h⟩ := am_bind_some h
    obtain ⟨-, h⟩ := am_if_some h
    obtain ⟨-, h⟩ := am_if_some h
    rcases am_ite h with ⟨c2301, h⟩ | ⟨c2301, h⟩
    · skip
      exact (frK_Search_leave_L66  _ _ _ _ _ _ _ _ h hw).trans ((am_uln (am_nw_a hw 0 rfl)).trans ((am_uln (am_nw_a hw 0 rfl)).trans rfl))
    · skip
      exact (frK_Search_leave_L66  _ _ _ _ _ _ _ _ h hw).trans ((am_uln (am_nw_a hw 0 rfl)).trans ((am_uln (am_nw_a hw 0 rfl)).trans rfl))
theorem frJ_Search_arrive_L74 {o1 : Nat} {a j : Nat}  : ∀ (x3 : Int) (J : am_J) (K : am_K) (r : Int × am_J × am_K), f_Search_arrive_L74 o1   x3 J K = some r → am_nw [(26, some 6)] a j = true → r.2.1 a j = J a j := by
  intro x3 J K r h hw
  unfold f_Search_arrive_L74 at h
  obtain ⟨-, h⟩ := am_if_some h
  obtain ⟨-, h⟩ := am_if_some h
  rcases am_ite h with ⟨c2302, h⟩ | ⟨c2302, h⟩
  · skip
    obtain rfl := Option.some.inj h
    exact rfl
  · skip
    obtain rfl := Option.some.inj h
    exact rfl
theorem frJ_Search_arrive_L33 {o1 : Nat} {a j : Nat} {kb10 : Int → Int → am_J → am_K → Option (Int × am_J × am_K)} (hk10 : ∀ (x3 : Int) (x4 : Int) (J : am_J) (K : am_K) (r : Int × am_J × am_K), kb10 x3 x4 J K = some r → am_nw [(26, some 6)] a j = true → r.2.1 a j = J a j) : ∀ (n : Nat) (x3 : Int) (x4 : Int) (x5 : Int) (J : am_J) (K : am_K) (r : Int × am_J × am_K), f_Search_arrive_L33 o1 kb10 n x3 x4 x5 J K = some r → am_nw [(26, some 6)] a j = true → r.2.1 a j = J a j := by
  intro n
  induction n with
  | zero =>
    intro x3 x4 x5 J K r h hw
    cases h
  | succ n ih =>
    intro x3 x4 x5 J K r h hw
    rw [f_Search_arrive_L33.eq_2] at h
    obtain ⟨-, h⟩ := am_if_some h
    obtain ⟨-, h⟩ := am_if_some h
    rcases am_ite h with ⟨c2303, h⟩ | ⟨c2303, h⟩
    · skip
      exact (hk10 _ _ _ _ _ h hw).trans rfl
    · skip
      obtain ⟨q2304, e2305, h⟩ := am_bind_some h
      obtain ⟨q2306, e2307, h⟩ := am_bind_some h
      exact (ih _ _ _ _ _ _ h hw).trans ((frJ_Search_leave e2307 (am_nw_pick hw [0] rfl)).trans ((frJ_Search_leave e2305 (am_nw_pick hw [0] rfl)).trans rfl))
theorem frJ_Search_arrive_L10 {o1 : Nat} {a j : Nat}  : ∀ (n : Nat) (x3 : Int) (x4 : Int) (J : am_J) (K : am_K) (r : Int × am_J × am_K), f_Search_arrive_L10 o1  n x3 x4 J K = some r → am_nw [(26, some 6)] a j = true → r.2.1 a j = J a j := by
  intro n
  induction n with
  | zero =>
    intro x3 x4 J K r h hw
    cases h
  | succ n ih =>
    intro x3 x4 J K r h hw
    rw [f_Search_arrive_L10.eq_2] at h
    obtain ⟨-, h⟩ := am_if_some h
    obtain ⟨-, h⟩ := am_if_some h
    rcases am_ite h with ⟨c2308, h⟩ | ⟨c2308, h⟩
    · skip
      obtain ⟨-, h⟩ := am_if_some h
      obtain ⟨-, h⟩ := am_if_some h
      rcases am_ite h with ⟨c2309, h⟩ | ⟨c2309, h⟩
      · skip
        exact (frJ_Search_arrive_L33 ih _ _ _ _ _ _ _ h hw).trans rfl
      · skip
        exact (frJ_Search_arrive_L74  _ _ _ _ h hw).trans rfl
    · skip
      exact (frJ_Search_arrive_L74  _ _ _ _ h hw).trans rfl
theorem frJ_Search_arrive {o1 : Nat} {x2 : Int} {x3 : Int} {J : am_J} {K : am_K} {r : Int × am_J × am_K} {a j : Nat} (h : f_Search_arrive o1 x2 x3 J K = some r) (hw : am_nw [(26, some 6)] a j = true) : r.2.1 a j = J a j := by
  unfold f_Search_arrive at h
  exact (frJ_Search_arrive_L10  _ _ _ _ _ _ h hw).trans ((am_upn (am_nw_f hw 0 rfl)).trans rfl)
theorem frK_Search_arrive_L74 {o1 : Nat} {a j : Nat}  : ∀ (x3 : Int) (J : am_J) (K : am_K) (r : Int × am_J × am_K), f_Search_arrive_L74 o1   x3 J K = some r → am_nw [(27, none)] a j = true → r.2.2 a j = K a j := by
  intro x3 J K r h hw
  unfold f_Search_arrive_L74 at h
  obtain ⟨-, h⟩ := am_if_some h
  obtain ⟨-, h⟩ := am_if_some h
  rcases am_ite h with ⟨c2310, h⟩ | ⟨c2310, h⟩
  · skip
    obtain rfl := Option.some.inj h
    exact rfl
  · skip
    obtain rfl := Option.some.inj h
    exact rfl
theorem frK_Search_arrive_L33 {o1 : Nat} {a j : Nat} {kb10 : Int → Int → am_J → am_K → Option (Int × am_J × am_K)} (hk10 : ∀ (x3 : Int) (x4 : Int) (J : am_J) (K : am_K) (r : Int × am_J × am_K), kb10 x3 x4 J K = some r → am_nw [(27, none)] a j = true → r.2.2 a j = K a j) : ∀ (n : Nat) (x3 : Int) (x4 : Int) (x5 : Int) (J : am_J) (K : am_K) (r : Int × am_J × am_K), f_Search_arrive_L33 o1 kb10 n x3 x4 x5 J K = some r → am_nw [(27, none)] a j = true → r.2.2 a j = K a j := by
  intro n
  induction n with
  | zero =>
    intro x3 x4 x5 J K r h hw
    cases h
  | succ n ih =>
    intro x3 x4 x5 J K r h hw
    rw [f_Search_arrive_L33.eq_2] at h
    obtain ⟨-, h⟩ := am_if_some h
    obtain ⟨-, h⟩ := am_if_some h
    rcases am_ite h with ⟨c2311, h⟩ | ⟨c2311, h⟩
    · skip
      exact (hk10 _ _ _ _ _ h hw).trans rfl
    · skip
      obtain ⟨q2312, e2313, h⟩ := am_bind_some h
      obtain ⟨q2314, e2315, h⟩ := am_bind_some h
      exact (ih _ _ _ _ _ _ h hw).trans ((frK_Search_leave e2315 (am_nw_pick hw [0] rfl)).trans ((frK_Search_leave e2313 (am_nw_pick hw [0] rfl)).trans rfl))
theorem frK_Search_arrive_L10 {o1 : Nat} {a j : Nat}  : ∀ (n : Nat) (x3 : Int) (x4 : Int) (J : am_J) (K : am_K) (r : Int × am_J × am_K), f_Search_arrive_L10 o1  n x3 x4 J K = some r → am_nw [(27, none)] a j = true → r.2.2 a j = K a j := by
  intro n
  induction n with
  | zero =>
    intro x3 x4 J K r h hw
    cases h
  | succ n ih =>
    intro x3 x4 J K r h hw
    rw [f_Search_arrive_L10.eq_2] at h
    obtain ⟨-, h⟩ := am_if_some h
    obtain ⟨-, h⟩ := am_if_some h
    rcases am_ite h with ⟨c2316, h⟩ | ⟨c2316, h⟩
    · skip
      obtain ⟨-, h⟩ := am_if_some h
      obtain ⟨-, h⟩ := am_if_some h
      rcases am_ite h with ⟨c2317, h⟩ | ⟨c2317, h⟩
      · skip
        exact (frK_Search_arrive_L33 ih _ _ _ _ _ _ _ h hw).trans rfl
      · skip
        exact (frK_Search_arrive_L74  _ _ _ _ h hw).trans rfl
    · skip
      exact (frK_Search_arrive_L74  _ _ _ _ h hw).trans rfl
theorem frK_Search_arrive {o1 : Nat} {x2 : Int} {x3 : Int} {J : am_J} {K : am_K} {r : Int × am_J × am_K} {a j : Nat} (h : f_Search_arrive o1 x2 x3 J K = some r) (hw : am_nw [(27, none)] a j = true) : r.2.2 a j = K a j := by
  unfold f_Search_arrive at h
  exact (frK_Search_arrive_L10  _ _ _ _ _ _ h hw).trans rfl
theorem frJ_Search_begin_L34 {o1 : Nat} {a j : Nat}  : ∀ (n : Nat) (x3 : Int) (J : am_J) (K : am_K) (r : am_J × am_K), f_Search_begin_L34 o1  n x3 J K = some r → am_nw [(26, some 1), (26, some 2), (26, some 3), (26, some 4), (26, some 5)] a j = true → r.1 a j = J a j := by
  intro n
  induction n with
  | zero =>
    intro x3 J K r h hw
    cases h
  | succ n ih =>
    intro x3 J K r h hw
    rw [f_Search_begin_L34.eq_2] at h
    obtain ⟨-, h⟩ := am_if_some h
    rcases am_ite h with ⟨c2318, h⟩ | ⟨c2318, h⟩
    · skip
      obtain ⟨-, h⟩ := am_if_some h
      exact (ih _ _ _ _ h hw).trans rfl
    · skip
      obtain rfl := Option.some.inj h
      exact rfl
theorem frJ_Search_begin {o1 : Nat} {x2 : Int} {J : am_J} {K : am_K} {r : am_J × am_K} {a j : Nat} (h : f_Search_begin o1 x2 J K = some r) (hw : am_nw [(26, some 1), (26, some 2), (26, some 3), (26, some 4), (26, some 5)] a j = true) : r.1 a j = J a j := by
  unfold f_Search_begin at h
  obtain ⟨q2319, e2320, h⟩ := am_bind_some h
  exact (frJ_Search_begin_L34  _ _ _ _ _ h hw).trans ((am_upn (am_nw_f hw 4 rfl)).trans ((am_upn (am_nw_f hw 3 rfl)).trans ((am_upn (am_nw_f hw 2 rfl)).trans ((am_upn (am_nw_f hw 1 rfl)).trans ((am_upn (am_nw_f hw 0 rfl)).trans rfl)))))
theorem frK_Search_begin_L34 {o1 : Nat} {a j : Nat}  : ∀ (n : Nat) (x3 : Int) (J : am_J) (K : am_K) (r : am_J × am_K), f_Search_begin_L34 o1  n x3 J K = some r → am_nw [(27, none)] a j = true → r.2 a j = K a j := by
  intro n
  induction n with
  | zero =>
    intro x3 J K r h hw
    cases h
  | succ n ih =>
    intro x3 J K r h hw
    rw [f_Search_begin_L34.eq_2] at h
    obtain ⟨-, h⟩ := am_if_some h
    rcases am_ite h with ⟨c2321, h⟩ | ⟨c2321, h⟩
    · skip
      obtain ⟨-, h⟩ := am_if_some h
      exact (ih _ _ _ _ h hw).trans ((am_uln (am_nw_a hw 0 rfl)).trans rfl)
    · skip
      obtain rfl := Option.some.inj h
      exact rfl
theorem frK_Search_begin {o1 : Nat} {x2 : Int} {J : am_J} {K : am_K} {r : am_J × am_K} {a j : Nat} (h : f_Search_begin o1 x2 J K = some r) (hw : am_nw [(27, none)] a j = true) : r.2 a j = K a j := by
  unfold f_Search_begin at h
  obtain ⟨q2322, e2323, h⟩ := am_bind_some h
  exact (frK_Search_begin_L34  _ _ _ _ _ h hw).trans rfl
theorem frJ_Search_keepTo  {x1 : Int} {x2 : Int} {J : am_J} {r : am_J} {a j : Nat} (h : f_Search_keepTo  x1 x2 J = some r) (hw : am_nw [(26, some 2), (26, some 3)] a j = true) : r a j = J a j := by
  unfold f_Search_keepTo at h
  obtain ⟨q2324, e2325, h⟩ := am_bind_some h
  obtain ⟨q2326, e2327, h⟩ := am_bind_some h
  obtain rfl := Option.some.inj h
  exact ((am_upn (am_nw_f hw 1 rfl)).trans ((am_upn (am_nw_f hw 0 rfl)).trans rfl))
theorem frJ_UpRiver_arrivalOf {o1 : Nat} {b : Bool} {x2 : Int} {x3 : Int} {J : am_J} {K : am_K} {r : Int × am_J × am_K} {a j : Nat} (h : f_UpRiver_arrivalOf o1 b x2 x3 J K = some r) (hw : am_nw [(26, some 1), (26, some 2), (26, some 3), (26, some 4), (26, some 5), (26, some 6)] a j = true) : r.2.1 a j = J a j := by
  unfold f_UpRiver_arrivalOf at h
  obtain ⟨q2328, e2329, h⟩ := am_bind_some h
  obtain ⟨q2330, e2331, h⟩ := am_bind_some h
  obtain ⟨q2332, e2333, h⟩ := am_bind_some h
  obtain ⟨q2334, e2335, h⟩ := am_bind_some h
  obtain rfl := Option.some.inj h
  exact ((frJ_Search_arrive e2335 (am_nw_pick hw [5] rfl)).trans ((frJ_Search_keepTo e2331 (am_nw_pick hw [1, 2] rfl)).trans ((frJ_Search_begin e2329 (am_nw_pick hw [0, 1, 2, 3, 4] rfl)).trans rfl)))
theorem frK_UpRiver_arrivalOf {o1 : Nat} {b : Bool} {x2 : Int} {x3 : Int} {J : am_J} {K : am_K} {r : Int × am_J × am_K} {a j : Nat} (h : f_UpRiver_arrivalOf o1 b x2 x3 J K = some r) (hw : am_nw [(27, none)] a j = true) : r.2.2 a j = K a j := by
  unfold f_UpRiver_arrivalOf at h
  obtain ⟨q2336, e2337, h⟩ := am_bind_some h
  obtain ⟨q2338, e2339, h⟩ := am_bind_some h
  obtain ⟨q2340, e2341, h⟩ := am_bind_some h
  obtain ⟨q2342, e2343, h⟩ := am_bind_some h
  obtain rfl := Option.some.inj h
  exact ((frK_Search_arrive e2343 (am_nw_pick hw [0] rfl)).trans ((frK_Search_add e2341 (am_nw_pick hw [0] rfl)).trans ((frK_Search_begin e2337 (am_nw_pick hw [0] rfl)).trans rfl)))
theorem frJ_UpRiver_soonest {b : Bool} {J : am_J} {K : am_K} {r : Int × am_J × am_K} {a j : Nat} (h : f_UpRiver_soonest b J K = some r) (hw : am_nw [(26, some 1), (26, some 2), (26, some 3), (26, some 4), (26, some 5), (26, some 6)] a j = true) : r.2.1 a j = J a j := by
  unfold f_UpRiver_soonest at h
  obtain ⟨q2344, e2345, h⟩ := am_bind_some h
  obtain ⟨-, h⟩ := am_if_some h
  rcases am_ite h with ⟨c2346, h⟩ | ⟨c2346, h⟩
  · skip
    obtain ⟨q2347, e2348, h⟩ := am_bind_some h
    obtain rfl := Option.some.inj h
    exact ((frJ_UpRiver_arrivalOf e2348 (am_nw_pick hw [0, 1, 2, 3, 4, 5] rfl)).trans rfl)
  · skip
    obtain rfl := Option.some.inj h
    exact rfl
theorem frK_UpRiver_soonest {b : Bool} {J : am_J} {K : am_K} {r : Int × am_J × am_K} {a j : Nat} (h : f_UpRiver_soonest b J K = some r) (hw : am_nw [(27, none)] a j = true) : r.2.2 a j = K a j := by
  unfold f_UpRiver_soonest at h
  obtain ⟨q2349, e2350, h⟩ := am_bind_some h
  obtain ⟨-, h⟩ := am_if_some h
  rcases am_ite h with ⟨c2351, h⟩ | ⟨c2351, h⟩
  · skip
    obtain ⟨q2352, e2353, h⟩ := am_bind_some h
    obtain rfl := Option.some.inj h
    exact ((frK_UpRiver_arrivalOf e2353 (am_nw_pick hw [0] rfl)).trans rfl)
  · skip
    obtain rfl := Option.some.inj h
    exact rfl
theorem frJ_UpRiver_only {b : Bool} {x1 : Int} {x2 : Int} {J : am_J} {K : am_K} {r : Int × am_J × am_K} {a j : Nat} (h : f_UpRiver_only b x1 x2 J K = some r) (hw : am_nw [(26, some 1), (26, some 2), (26, some 3), (26, some 4), (26, some 5), (26, some 6)] a j = true) : r.2.1 a j = J a j := by
  unfold f_UpRiver_only at h
  obtain ⟨q2354, e2355, h⟩ := am_bind_some h
  obtain ⟨-, h⟩ := am_if_some h
  rcases am_ite h with ⟨c2356, h⟩ | ⟨c2356, h⟩
  · skip
    obtain rfl := Option.some.inj h
    exact rfl
  · skip
    obtain ⟨q2357, e2358, h⟩ := am_bind_some h
    obtain ⟨-, h⟩ := am_if_some h
    rcases am_ite h with ⟨c2359, h⟩ | ⟨c2359, h⟩
    · skip
      obtain rfl := Option.some.inj h
      exact rfl
    · skip
      obtain ⟨-, h⟩ := am_if_some h
      obtain ⟨-, h⟩ := am_if_some h
      rcases am_ite h with ⟨c2360, h⟩ | ⟨c2360, h⟩
      · skip
        obtain rfl := Option.some.inj h
        exact rfl
      · skip
        obtain ⟨q2361, e2362, h⟩ := am_bind_some h
        obtain ⟨-, h⟩ := am_if_some h
        rcases am_ite h with ⟨c2363, h⟩ | ⟨c2363, h⟩
        · skip
          obtain ⟨q2364, e2365, h⟩ := am_bind_some h
          obtain rfl := Option.some.inj h
          exact ((frJ_UpRiver_arrivalOf e2365 (am_nw_pick hw [0, 1, 2, 3, 4, 5] rfl)).trans rfl)
        · skip
          obtain rfl := Option.some.inj h
          exact rfl
theorem frK_UpRiver_only {b : Bool} {x1 : Int} {x2 : Int} {J : am_J} {K : am_K} {r : Int × am_J × am_K} {a j : Nat} (h : f_UpRiver_only b x1 x2 J K = some r) (hw : am_nw [(27, none)] a j = true) : r.2.2 a j = K a j := by
  unfold f_UpRiver_only at h
  obtain ⟨q2366, e2367, h⟩ := am_bind_some h
  obtain ⟨-, h⟩ := am_if_some h
  rcases am_ite h with ⟨c2368, h⟩ | ⟨c2368, h⟩
  · skip
    obtain rfl := Option.some.inj h
    exact rfl
  · skip
    obtain ⟨q2369, e2370, h⟩ := am_bind_some h
    obtain ⟨-, h⟩ := am_if_some h
    rcases am_ite h with ⟨c2371, h⟩ | ⟨c2371, h⟩
    · skip
      obtain rfl := Option.some.inj h
      exact rfl
    · skip
      obtain ⟨-, h⟩ := am_if_some h
      obtain ⟨-, h⟩ := am_if_some h
      rcases am_ite h with ⟨c2372, h⟩ | ⟨c2372, h⟩
      · skip
        obtain rfl := Option.some.inj h
        exact rfl
      · skip
        obtain ⟨q2373, e2374, h⟩ := am_bind_some h
        obtain ⟨-, h⟩ := am_if_some h
        rcases am_ite h with ⟨c2375, h⟩ | ⟨c2375, h⟩
        · skip
          obtain ⟨q2376, e2377, h⟩ := am_bind_some h
          obtain rfl := Option.some.inj h
          exact ((frK_UpRiver_arrivalOf e2377 (am_nw_pick hw [0] rfl)).trans rfl)
        · skip
          obtain rfl := Option.some.inj h
          exact rfl
theorem frJ_UpRiver_trialArrival {b : Bool} {J : am_J} {K : am_K} {r : Int × am_J × am_K} {a j : Nat} (h : f_UpRiver_trialArrival b J K = some r) (hw : am_nw [(26, some 1), (26, some 2), (26, some 3), (26, some 4), (26, some 5), (26, some 6)] a j = true) : r.2.1 a j = J a j := by
  unfold f_UpRiver_trialArrival at h
  obtain ⟨q2378, e2379, h⟩ := am_bind_some h
  obtain ⟨-, h⟩ := am_if_some h
  rcases am_ite h with ⟨c2380, h⟩ | ⟨c2380, h⟩
  · skip
    obtain ⟨q2381, e2382, h⟩ := am_bind_some h
    obtain rfl := Option.some.inj h
    exact ((frJ_UpRiver_arrivalOf e2382 (am_nw_pick hw [0, 1, 2, 3, 4, 5] rfl)).trans rfl)
  · skip
    obtain rfl := Option.some.inj h
    exact rfl
theorem frK_UpRiver_trialArrival {b : Bool} {J : am_J} {K : am_K} {r : Int × am_J × am_K} {a j : Nat} (h : f_UpRiver_trialArrival b J K = some r) (hw : am_nw [(27, none)] a j = true) : r.2.2 a j = K a j := by
  unfold f_UpRiver_trialArrival at h
  obtain ⟨q2383, e2384, h⟩ := am_bind_some h
  obtain ⟨-, h⟩ := am_if_some h
  rcases am_ite h with ⟨c2385, h⟩ | ⟨c2385, h⟩
  · skip
    obtain ⟨q2386, e2387, h⟩ := am_bind_some h
    obtain rfl := Option.some.inj h
    exact ((frK_UpRiver_arrivalOf e2387 (am_nw_pick hw [0] rfl)).trans rfl)
  · skip
    obtain rfl := Option.some.inj h
    exact rfl
theorem frJ_Boat_take {o1 : Nat} {o2 : Nat} {J : am_J} {r : am_J} {a j : Nat} (h : f_Boat_take o1 o2 J = some r) (hw : am_nw [(o1, some 0), (o1, some 1), (o1, some 2), (o1, some 3), (o1, some 4), (o1, some 5)] a j = true) : r a j = J a j := by
  unfold f_Boat_take at h
  obtain ⟨q2388, e2389, h⟩ := am_bind_some h
  obtain rfl := Option.some.inj h
  exact ((am_upn (am_nw_f hw 5 rfl)).trans ((am_upn (am_nw_f hw 4 rfl)).trans ((frJ_Boat_lieAt e2389 (am_nw_pick hw [0, 1, 2, 3, 4, 5] rfl)).trans rfl)))
theorem frJ_UpRiver_first_L72 {b : Bool} {a j : Nat}  : ∀ (x2 : Int) (J : am_J) (K : am_K) (r : Int × am_J × am_K), f_UpRiver_first_L72 b   x2 J K = some r → am_nw [(26, some 1), (26, some 2), (26, some 3), (26, some 4), (26, some 5), (26, some 6), (30, some 0), (30, some 1), (30, some 2), (30, some 3), (30, some 4), (30, some 5)] a j = true → r.2.1 a j = J a j := by
  intro x2 J K r h hw
  unfold f_UpRiver_first_L72 at h
  obtain ⟨q2390, e2391, h⟩ := am_bind_some h
  obtain ⟨q2392, e2393, h⟩ := am_bind_some h
  obtain ⟨-, h⟩ := am_if_some h
  rcases am_ite h with ⟨c2394, h⟩ | ⟨c2394, h⟩
  · skip
    obtain rfl := Option.some.inj h
    exact ((frJ_Boat_tryTurn e2393 (am_nw_pick hw [6, 8, 9, 10] rfl)).trans ((frJ_Boat_take e2391 (am_nw_pick hw [6, 7, 8, 9, 10, 11] rfl)).trans rfl))
  · skip
    obtain ⟨q2395, e2396, h⟩ := am_bind_some h
    obtain ⟨-, h⟩ := am_if_some h
    obtain ⟨-, h⟩ := am_if_some h
    rcases am_ite h with ⟨c2397, h⟩ | ⟨c2397, h⟩
    · skip
      obtain rfl := Option.some.inj h
      exact ((frJ_UpRiver_trialArrival e2396 (am_nw_pick hw [0, 1, 2, 3, 4, 5] rfl)).trans ((frJ_Boat_tryTurn e2393 (am_nw_pick hw [6, 8, 9, 10] rfl)).trans ((frJ_Boat_take e2391 (am_nw_pick hw [6, 7, 8, 9, 10, 11] rfl)).trans rfl)))
    · skip
      obtain rfl := Option.some.inj h
      exact ((frJ_UpRiver_trialArrival e2396 (am_nw_pick hw [0, 1, 2, 3, 4, 5] rfl)).trans ((frJ_Boat_tryTurn e2393 (am_nw_pick hw [6, 8, 9, 10] rfl)).trans ((frJ_Boat_take e2391 (am_nw_pick hw [6, 7, 8, 9, 10, 11] rfl)).trans rfl)))
theorem frJ_UpRiver_first {b : Bool} {J : am_J} {K : am_K} {r : Int × am_J × am_K} {a j : Nat} (h : f_UpRiver_first b J K = some r) (hw : am_nw [(26, some 1), (26, some 2), (26, some 3), (26, some 4), (26, some 5), (26, some 6), (30, some 0), (30, some 1), (30, some 2), (30, some 3), (30, some 4), (30, some 5)] a j = true) : r.2.1 a j = J a j := by
  unfold f_UpRiver_first at h
  obtain ⟨q2398, e2399, h⟩ := am_bind_some h
  obtain ⟨-, h⟩ := am_if_some h
  rcases am_ite h with ⟨c2400, h⟩ | ⟨c2400, h⟩
  · skip
    obtain ⟨q2401, e2402, h⟩ := am_bind_some h
    obtain ⟨-, h⟩ := am_if_some h
    rcases am_ite h with ⟨c2403, h⟩ | ⟨c2403, h⟩
    · skip
      obtain rfl := Option.some.inj h
      exact ((frJ_UpRiver_arrivalOf e2402 (am_nw_pick hw [0, 1, 2, 3, 4, 5] rfl)).trans rfl)
    · skip
      obtain ⟨q2404, e2405, h⟩ := am_bind_some h
      obtain ⟨q2406, e2407, h⟩ := am_bind_some h
      obtain ⟨-, h⟩ := am_if_some h
      rcases am_ite h with ⟨c2408, h⟩ | ⟨c2408, h⟩
      · skip
        exact (frJ_UpRiver_first_L72  _ _ _ _ h hw).trans ((frJ_Boat_trySail e2407 (am_nw_pick hw [6, 7, 9, 11] rfl)).trans ((frJ_Boat_take e2405 (am_nw_pick hw [6, 7, 8, 9, 10, 11] rfl)).trans ((frJ_UpRiver_arrivalOf e2402 (am_nw_pick hw [0, 1, 2, 3, 4, 5] rfl)).trans rfl)))
      · skip
        obtain ⟨q2409, e2410, h⟩ := am_bind_some h
        obtain ⟨-, h⟩ := am_if_some h
        rcases am_ite h with ⟨c2411, h⟩ | ⟨c2411, h⟩
        · skip
          obtain rfl := Option.some.inj h
          exact ((frJ_UpRiver_trialArrival e2410 (am_nw_pick hw [0, 1, 2, 3, 4, 5] rfl)).trans ((frJ_Boat_trySail e2407 (am_nw_pick hw [6, 7, 9, 11] rfl)).trans ((frJ_Boat_take e2405 (am_nw_pick hw [6, 7, 8, 9, 10, 11] rfl)).trans ((frJ_UpRiver_arrivalOf e2402 (am_nw_pick hw [0, 1, 2, 3, 4, 5] rfl)).trans rfl))))
        · skip
          exact (frJ_UpRiver_first_L72  _ _ _ _ h hw).trans ((frJ_UpRiver_trialArrival e2410 (am_nw_pick hw [0, 1, 2, 3, 4, 5] rfl)).trans ((frJ_Boat_trySail e2407 (am_nw_pick hw [6, 7, 9, 11] rfl)).trans ((frJ_Boat_take e2405 (am_nw_pick hw [6, 7, 8, 9, 10, 11] rfl)).trans ((frJ_UpRiver_arrivalOf e2402 (am_nw_pick hw [0, 1, 2, 3, 4, 5] rfl)).trans rfl))))
  · skip
    obtain rfl := Option.some.inj h
    exact rfl
theorem frK_UpRiver_first_L72 {b : Bool} {a j : Nat}  : ∀ (x2 : Int) (J : am_J) (K : am_K) (r : Int × am_J × am_K), f_UpRiver_first_L72 b   x2 J K = some r → am_nw [(27, none)] a j = true → r.2.2 a j = K a j := by
  intro x2 J K r h hw
  unfold f_UpRiver_first_L72 at h
  obtain ⟨q2412, e2413, h⟩ := am_bind_some h
  obtain ⟨q2414, e2415, h⟩ := am_bind_some h
  obtain ⟨-, h⟩ := am_if_some h
  rcases am_ite h with ⟨c2416, h⟩ | ⟨c2416, h⟩
  · skip
    obtain rfl := Option.some.inj h
    exact rfl
  · skip
    obtain ⟨q2417, e2418, h⟩ := am_bind_some h
    obtain ⟨-, h⟩ := am_if_some h
    obtain ⟨-, h⟩ := am_if_some h
    rcases am_ite h with ⟨c2419, h⟩ | ⟨c2419, h⟩
    · skip
      obtain rfl := Option.some.inj h
      exact ((frK_UpRiver_trialArrival e2418 (am_nw_pick hw [0] rfl)).trans rfl)
    · skip
      obtain rfl := Option.some.inj h
      exact ((frK_UpRiver_trialArrival e2418 (am_nw_pick hw [0] rfl)).trans rfl)
theorem frK_UpRiver_first {b : Bool} {J : am_J} {K : am_K} {r : Int × am_J × am_K} {a j : Nat} (h : f_UpRiver_first b J K = some r) (hw : am_nw [(27, none)] a j = true) : r.2.2 a j = K a j := by
  unfold f_UpRiver_first at h
  obtain ⟨q2420, e2421, h⟩ := am_bind_some h
  obtain ⟨-, h⟩ := am_if_some h
  rcases am_ite h with ⟨c2422, h⟩ | ⟨c2422, h⟩
  · skip
    obtain ⟨q2423, e2424, h⟩ := am_bind_some h
    obtain ⟨-, h⟩ := am_if_some h
    rcases am_ite h with ⟨c2425, h⟩ | ⟨c2425, h⟩
    · skip
      obtain rfl := Option.some.inj h
      exact ((frK_UpRiver_arrivalOf e2424 (am_nw_pick hw [0] rfl)).trans rfl)
    · skip
      obtain ⟨q2426, e2427, h⟩ := am_bind_some h
      obtain ⟨q2428, e2429, h⟩ := am_bind_some h
      obtain ⟨-, h⟩ := am_if_some h
      rcases am_ite h with ⟨c2430, h⟩ | ⟨c2430, h⟩
      · skip
        exact (frK_UpRiver_first_L72  _ _ _ _ h hw).trans ((frK_UpRiver_arrivalOf e2424 (am_nw_pick hw [0] rfl)).trans rfl)
      · skip
        obtain ⟨q2431, e2432, h⟩ := am_bind_some h
        obtain ⟨-, h⟩ := am_if_some h
        rcases am_ite h with ⟨c2433, h⟩ | ⟨c2433, h⟩
        · skip
          obtain rfl := Option.some.inj h
          exact ((frK_UpRiver_trialArrival e2432 (am_nw_pick hw [0] rfl)).trans ((frK_UpRiver_arrivalOf e2424 (am_nw_pick hw [0] rfl)).trans rfl))
        · skip
          exact (frK_UpRiver_first_L72  _ _ _ _ h hw).trans ((frK_UpRiver_trialArrival e2432 (am_nw_pick hw [0] rfl)).trans ((frK_UpRiver_arrivalOf e2424 (am_nw_pick hw [0] rfl)).trans rfl))
  · skip
    obtain rfl := Option.some.inj h
    exact rfl
theorem frJ_UpRiver_startArrival {b : Bool} {x1 : Int} {J : am_J} {K : am_K} {r : Int × am_J × am_K} {a j : Nat} (h : f_UpRiver_startArrival b x1 J K = some r) (hw : am_nw [(26, some 1), (26, some 2), (26, some 3), (26, some 4), (26, some 5), (26, some 6), (30, some 0), (30, some 1), (30, some 2), (30, some 3), (30, some 4), (30, some 5), (31, none)] a j = true) : r.2.1 a j = J a j := by
  unfold f_UpRiver_startArrival at h
  obtain ⟨-, h⟩ := am_if_some h
  obtain ⟨-, h⟩ := am_if_some h
  rcases am_ite h with ⟨c2434, h⟩ | ⟨c2434, h⟩
  · skip
    obtain ⟨q2435, e2436, h⟩ := am_bind_some h
    obtain ⟨q2437, e2438, h⟩ := am_bind_some h
    obtain rfl := Option.some.inj h
    exact ((am_upn (am_nw_a hw 12 rfl)).trans ((frJ_UpRiver_arrivalOf e2438 (am_nw_pick hw [0, 1, 2, 3, 4, 5] rfl)).trans ((frJ_Boat_lieAtStart e2436 (am_nw_pick hw [6, 7, 8, 9, 10, 11] rfl)).trans rfl)))
  · skip
    obtain rfl := Option.some.inj h
    exact rfl
theorem frK_UpRiver_startArrival {b : Bool} {x1 : Int} {J : am_J} {K : am_K} {r : Int × am_J × am_K} {a j : Nat} (h : f_UpRiver_startArrival b x1 J K = some r) (hw : am_nw [(27, none)] a j = true) : r.2.2 a j = K a j := by
  unfold f_UpRiver_startArrival at h
  obtain ⟨-, h⟩ := am_if_some h
  obtain ⟨-, h⟩ := am_if_some h
  rcases am_ite h with ⟨c2439, h⟩ | ⟨c2439, h⟩
  · skip
    obtain ⟨q2440, e2441, h⟩ := am_bind_some h
    obtain ⟨q2442, e2443, h⟩ := am_bind_some h
    obtain rfl := Option.some.inj h
    exact ((frK_UpRiver_arrivalOf e2443 (am_nw_pick hw [0] rfl)).trans rfl)
  · skip
    obtain rfl := Option.some.inj h
    exact rfl
theorem frJ_UpRiver_from {b : Bool} {x1 : Int} {J : am_J} {K : am_K} {r : Int × am_J × am_K} {a j : Nat} (h : f_UpRiver_from b x1 J K = some r) (hw : am_nw [(26, some 1), (26, some 2), (26, some 3), (26, some 4), (26, some 5), (26, some 6), (30, some 0), (30, some 1), (30, some 2), (30, some 3), (30, some 4), (30, some 5), (31, none)] a j = true) : r.2.1 a j = J a j := by
  unfold f_UpRiver_from at h
  obtain ⟨q2444, e2445, h⟩ := am_bind_some h
  obtain ⟨-, h⟩ := am_if_some h
  rcases am_ite h with ⟨c2446, h⟩ | ⟨c2446, h⟩
  · skip
    obtain rfl := Option.some.inj h
    exact rfl
  · skip
    obtain ⟨q2447, e2448, h⟩ := am_bind_some h
    obtain rfl := Option.some.inj h
    exact ((frJ_UpRiver_startArrival e2448 (am_nw_pick hw [0, 1, 2, 3, 4, 5, 6, 7, 8, 9, 10, 11, 12] rfl)).trans rfl)
theorem frK_UpRiver_from {b : Bool} {x1 : Int} {J : am_J} {K : am_K} {r : Int × am_J × am_K} {a j : Nat} (h : f_UpRiver_from b x1 J K = some r) (hw : am_nw [(27, none)] a j = true) : r.2.2 a j = K a j := by
  unfold f_UpRiver_from at h
  obtain ⟨q2449, e2450, h⟩ := am_bind_some h
  obtain ⟨-, h⟩ := am_if_some h
  rcases am_ite h with ⟨c2451, h⟩ | ⟨c2451, h⟩
  · skip
    obtain rfl := Option.some.inj h
    exact rfl
  · skip
    obtain ⟨q2452, e2453, h⟩ := am_bind_some h
    obtain rfl := Option.some.inj h
    exact ((frK_UpRiver_startArrival e2453 (am_nw_pick hw [0] rfl)).trans rfl)
theorem frJ_UpRiver_start_L101 {b : Bool} {a j : Nat}  : ∀ (x1 : Int) (x2 : Int) (x3 : Int) (x4 : Int) (J : am_J) (K : am_K) (r : Int × am_J × am_K), f_UpRiver_start_L101 b   x1 x2 x3 x4 J K = some r → am_nw [(26, some 1), (26, some 2), (26, some 3), (26, some 4), (26, some 5), (26, some 6), (30, some 0), (30, some 1), (30, some 2), (30, some 3), (30, some 4), (30, some 5), (31, none)] a j = true → r.2.1 a j = J a j := by
  intro x1 x2 x3 x4 J K r h hw
  unfold f_UpRiver_start_L101 at h
  obtain ⟨-, h⟩ := am_if_some h
  rcases am_ite h with ⟨c2454, h⟩ | ⟨c2454, h⟩
  · skip
    obtain rfl := Option.some.inj h
    exact rfl
  · skip
    rcases am_ite h with ⟨c2455, h⟩ | ⟨c2455, h⟩
    · skip
      obtain rfl := Option.some.inj h
      exact rfl
    · skip
      obtain rfl := Option.some.inj h
      exact rfl
theorem frJ_UpRiver_start_L24 {b : Bool} {a j : Nat}  : ∀ (n : Nat) (x1 : Int) (x2 : Int) (x3 : Int) (x4 : Int) (x5 : Int) (J : am_J) (K : am_K) (r : Int × am_J × am_K), f_UpRiver_start_L24 b  n x1 x2 x3 x4 x5 J K = some r → am_nw [(26, some 1), (26, some 2), (26, some 3), (26, some 4), (26, some 5), (26, some 6), (30, some 0), (30, some 1), (30, some 2), (30, some 3), (30, some 4), (30, some 5), (31, none)] a j = true → r.2.1 a j = J a j := by
  intro n
  induction n with
  | zero =>
    intro x1 x2 x3 x4 x5 J K r h hw
    cases h
  | succ n ih =>
    intro x1 x2 x3 x4 x5 J K r h hw
    rw [f_UpRiver_start_L24.eq_2] at h
    obtain ⟨-, h⟩ := am_if_some h
    rcases am_ite h with ⟨c2456, h⟩ | ⟨c2456, h⟩
    · skip
      exact (frJ_UpRiver_start_L101  _ _ _ _ _ _ _ h hw).trans rfl
    · skip
      obtain ⟨q2457, e2458, h⟩ := am_bind_some h
      obtain ⟨-, h⟩ := am_if_some h
      rcases am_ite h with ⟨c2459, h⟩ | ⟨c2459, h⟩
      · skip
        exact (frJ_UpRiver_start_L101  _ _ _ _ _ _ _ h hw).trans ((frJ_UpRiver_startArrival e2458 (am_nw_pick hw [0, 1, 2, 3, 4, 5, 6, 7, 8, 9, 10, 11, 12] rfl)).trans rfl)
      · skip
        obtain ⟨-, h⟩ := am_if_some h
        rcases am_ite h with ⟨c2460, h⟩ | ⟨c2460, h⟩
        · skip
          exact (frJ_UpRiver_start_L101  _ _ _ _ _ _ _ h hw).trans ((frJ_UpRiver_startArrival e2458 (am_nw_pick hw [0, 1, 2, 3, 4, 5, 6, 7, 8, 9, 10, 11, 12] rfl)).trans rfl)
        · skip
          obtain ⟨-, h⟩ := am_if_some h
          rcases am_ite h with ⟨c2461, h⟩ | ⟨c2461, h⟩
          · skip
            exact (ih _ _ _ _ _ _ _ _ h hw).trans ((frJ_UpRiver_startArrival e2458 (am_nw_pick hw [0, 1, 2, 3, 4, 5, 6, 7, 8, 9, 10, 11, 12] rfl)).trans rfl)
          · skip
            obtain ⟨-, h⟩ := am_if_some h
            rcases am_ite h with ⟨c2462, h⟩ | ⟨c2462, h⟩
            · skip
              exact (ih _ _ _ _ _ _ _ _ h hw).trans ((frJ_UpRiver_startArrival e2458 (am_nw_pick hw [0, 1, 2, 3, 4, 5, 6, 7, 8, 9, 10, 11, 12] rfl)).trans rfl)
            · skip
              exact (ih _ _ _ _ _ _ _ _ h hw).trans ((frJ_UpRiver_startArrival e2458 (am_nw_pick hw [0, 1, 2, 3, 4, 5, 6, 7, 8, 9, 10, 11, 12] rfl)).trans rfl)
theorem frJ_UpRiver_start {b : Bool} {x1 : Int} {J : am_J} {K : am_K} {r : Int × am_J × am_K} {a j : Nat} (h : f_UpRiver_start b x1 J K = some r) (hw : am_nw [(26, some 1), (26, some 2), (26, some 3), (26, some 4), (26, some 5), (26, some 6), (30, some 0), (30, some 1), (30, some 2), (30, some 3), (30, some 4), (30, some 5), (31, none)] a j = true) : r.2.1 a j = J a j := by
  unfold f_UpRiver_start at h
  obtain ⟨-, h⟩ := am_if_some h
  rcases am_ite h with ⟨c2463, h⟩ | ⟨c2463, h⟩
  · skip
    obtain rfl := Option.some.inj h
    exact rfl
  · skip
    rcases am_ite h with ⟨c2464, h⟩ | ⟨c2464, h⟩
    · skip
      obtain rfl := Option.some.inj h
      exact rfl
    · skip
      exact (frJ_UpRiver_start_L24  _ _ _ _ _ _ _ _ _ h hw).trans rfl
theorem frK_UpRiver_start_L101 {b : Bool} {a j : Nat}  : ∀ (x1 : Int) (x2 : Int) (x3 : Int) (x4 : Int) (J : am_J) (K : am_K) (r : Int × am_J × am_K), f_UpRiver_start_L101 b   x1 x2 x3 x4 J K = some r → am_nw [(27, none)] a j = true → r.2.2 a j = K a j := by
  intro x1 x2 x3 x4 J K r h hw
  unfold f_UpRiver_start_L101 at h
  obtain ⟨-, h⟩ := am_if_some h
  rcases am_ite h with ⟨c2465, h⟩ | ⟨c2465, h⟩
  · skip
    obtain rfl := Option.some.inj h
    exact rfl
  · skip
    rcases am_ite h with ⟨c2466, h⟩ | ⟨c2466, h⟩
    · skip
      obtain rfl := Option.some.inj h
      exact rfl
    · skip
      obtain rfl := Option.some.inj h
      exact rfl
theorem frK_UpRiver_start_L24 {b : Bool} {a j : Nat}  : ∀ (n : Nat) (x1 : Int) (x2 : Int) (x3 : Int) (x4 : Int) (x5 : Int) (J : am_J) (K : am_K) (r : Int × am_J × am_K), f_UpRiver_start_L24 b  n x1 x2 x3 x4 x5 J K = some r → am_nw [(27, none)] a j = true → r.2.2 a j = K a j := by
  intro n
  induction n with
  | zero =>
    intro x1 x2 x3 x4 x5 J K r h hw
    cases h
  | succ n ih =>
    intro x1 x2 x3 x4 x5 J K r h hw
    rw [f_UpRiver_start_L24.eq_2] at h
    obtain ⟨-, h⟩ := am_if_some h
    rcases am_ite h with ⟨c2467, h⟩ | ⟨c2467, h⟩
    · skip
      exact (frK_UpRiver_start_L101  _ _ _ _ _ _ _ h hw).trans rfl
    · skip
      obtain ⟨q2468, e2469, h⟩ := am_bind_some h
      obtain ⟨-, h⟩ := am_if_some h
      rcases am_ite h with ⟨c2470, h⟩ | ⟨c2470, h⟩
      · skip
        exact (frK_UpRiver_start_L101  _ _ _ _ _ _ _ h hw).trans ((frK_UpRiver_startArrival e2469 (am_nw_pick hw [0] rfl)).trans rfl)
      · skip
        obtain ⟨-, h⟩ := am_if_some h
        rcases am_ite h with ⟨c2471, h⟩ | ⟨c2471, h⟩
        · skip
          exact (frK_UpRiver_start_L101  _ _ _ _ _ _ _ h hw).trans ((frK_UpRiver_startArrival e2469 (am_nw_pick hw [0] rfl)).trans rfl)
        · skip
          obtain ⟨-, h⟩ := am_if_some h
          rcases am_ite h with ⟨c2472, h⟩ | ⟨c2472, h⟩
          · skip
            exact (ih _ _ _ _ _ _ _ _ h hw).trans ((frK_UpRiver_startArrival e2469 (am_nw_pick hw [0] rfl)).trans rfl)
          · skip
            obtain ⟨-, h⟩ := am_if_some h
            rcases am_ite h with ⟨c2473, h⟩ | ⟨c2473, h⟩
            · skip
              exact (ih _ _ _ _ _ _ _ _ h hw).trans ((frK_UpRiver_startArrival e2469 (am_nw_pick hw [0] rfl)).trans rfl)
            · skip
              exact (ih _ _ _ _ _ _ _ _ h hw).trans ((frK_UpRiver_startArrival e2469 (am_nw_pick hw [0] rfl)).trans rfl)
theorem frK_UpRiver_start {b : Bool} {x1 : Int} {J : am_J} {K : am_K} {r : Int × am_J × am_K} {a j : Nat} (h : f_UpRiver_start b x1 J K = some r) (hw : am_nw [(27, none)] a j = true) : r.2.2 a j = K a j := by
  unfold f_UpRiver_start at h
  obtain ⟨-, h⟩ := am_if_some h
  rcases am_ite h with ⟨c2474, h⟩ | ⟨c2474, h⟩
  · skip
    obtain rfl := Option.some.inj h
    exact rfl
  · skip
    rcases am_ite h with ⟨c2475, h⟩ | ⟨c2475, h⟩
    · skip
      obtain rfl := Option.some.inj h
      exact rfl
    · skip
      exact (frK_UpRiver_start_L24  _ _ _ _ _ _ _ _ _ h hw).trans rfl
theorem frJ_UpRiver_days_L40 {b : Bool} {a j : Nat}  : ∀ (n : Nat) (x1 : Int) (x2 : Int) (x3 : Int) (x4 : Int) (x5 : Int) (x6 : Int) (J : am_J) (K : am_K) (r : Int × am_J × am_K), f_UpRiver_days_L40 b  n x1 x2 x3 x4 x5 x6 J K = some r → am_nw [(26, some 1), (26, some 2), (26, some 3), (26, some 4), (26, some 5), (26, some 6), (30, some 0), (30, some 1), (30, some 2), (30, some 3), (30, some 4), (30, some 5)] a j = true → r.2.1 a j = J a j := by
  intro n
  induction n with
  | zero =>
    intro x1 x2 x3 x4 x5 x6 J K r h hw
    cases h
  | succ n ih =>
    intro x1 x2 x3 x4 x5 x6 J K r h hw
    rw [f_UpRiver_days_L40.eq_2] at h
    obtain ⟨-, h⟩ := am_if_some h
    obtain ⟨-, h⟩ := am_if_some h
    rcases am_ite h with ⟨c2476, h⟩ | ⟨c2476, h⟩
    · skip
      obtain ⟨q2477, e2478, h⟩ := am_bind_some h
      obtain ⟨q2479, e2480, h⟩ := am_bind_some h
      obtain ⟨q2481, e2482, h⟩ := am_bind_some h
      obtain ⟨q2483, e2484, h⟩ := am_bind_some h
      obtain ⟨-, h⟩ := am_if_some h
      rcases am_ite h with ⟨c2485, h⟩ | ⟨c2485, h⟩
      · skip
        exact (ih _ _ _ _ _ _ _ _ _ h hw).trans ((frJ_Search_arrive e2484 (am_nw_pick hw [5] rfl)).trans ((frJ_Search_begin e2480 (am_nw_pick hw [0, 1, 2, 3, 4] rfl)).trans ((frJ_Boat_lieAtStart e2478 (am_nw_pick hw [6, 7, 8, 9, 10, 11] rfl)).trans rfl)))
      · skip
        obtain ⟨-, h⟩ := am_if_some h
        rcases am_ite h with ⟨c2486, h⟩ | ⟨c2486, h⟩
        · skip
          exact (ih _ _ _ _ _ _ _ _ _ h hw).trans ((frJ_Search_arrive e2484 (am_nw_pick hw [5] rfl)).trans ((frJ_Search_begin e2480 (am_nw_pick hw [0, 1, 2, 3, 4] rfl)).trans ((frJ_Boat_lieAtStart e2478 (am_nw_pick hw [6, 7, 8, 9, 10, 11] rfl)).trans rfl)))
        · skip
          exact (ih _ _ _ _ _ _ _ _ _ h hw).trans ((frJ_Search_arrive e2484 (am_nw_pick hw [5] rfl)).trans ((frJ_Search_begin e2480 (am_nw_pick hw [0, 1, 2, 3, 4] rfl)).trans ((frJ_Boat_lieAtStart e2478 (am_nw_pick hw [6, 7, 8, 9, 10, 11] rfl)).trans rfl)))
    · skip
      obtain ⟨-, h⟩ := am_if_some h
      rcases am_ite h with ⟨c2487, h⟩ | ⟨c2487, h⟩
      · skip
        obtain rfl := Option.some.inj h
        exact rfl
      · skip
        obtain rfl := Option.some.inj h
        exact rfl
theorem frJ_UpRiver_days {b : Bool} {x1 : Int} {x2 : Int} {x3 : Int} {J : am_J} {K : am_K} {r : Int × am_J × am_K} {a j : Nat} (h : f_UpRiver_days b x1 x2 x3 J K = some r) (hw : am_nw [(26, some 1), (26, some 2), (26, some 3), (26, some 4), (26, some 5), (26, some 6), (30, some 0), (30, some 1), (30, some 2), (30, some 3), (30, some 4), (30, some 5)] a j = true) : r.2.1 a j = J a j := by
  unfold f_UpRiver_days at h
  obtain ⟨-, h⟩ := am_if_some h
  rcases am_ite h with ⟨c2488, h⟩ | ⟨c2488, h⟩
  · skip
    obtain rfl := Option.some.inj h
    exact rfl
  · skip
    rcases am_ite h with ⟨c2489, h⟩ | ⟨c2489, h⟩
    · skip
      obtain rfl := Option.some.inj h
      exact rfl
    · skip
      obtain ⟨-, h⟩ := am_if_some h
      rcases am_ite h with ⟨c2490, h⟩ | ⟨c2490, h⟩
      · skip
        obtain rfl := Option.some.inj h
        exact rfl
      · skip
        rcases am_ite h with ⟨c2491, h⟩ | ⟨c2491, h⟩
        · skip
          obtain rfl := Option.some.inj h
          exact rfl
        · skip
          obtain ⟨q2492, e2493, h⟩ := am_bind_some h
          obtain ⟨-, h⟩ := am_if_some h
          rcases am_ite h with ⟨c2494, h⟩ | ⟨c2494, h⟩
          · skip
            obtain rfl := Option.some.inj h
            exact rfl
          · skip
            exact (frJ_UpRiver_days_L40  _ _ _ _ _ _ _ _ _ _ h hw).trans rfl
theorem frK_UpRiver_days_L40 {b : Bool} {a j : Nat}  : ∀ (n : Nat) (x1 : Int) (x2 : Int) (x3 : Int) (x4 : Int) (x5 : Int) (x6 : Int) (J : am_J) (K : am_K) (r : Int × am_J × am_K), f_UpRiver_days_L40 b  n x1 x2 x3 x4 x5 x6 J K = some r → am_nw [(27, none)] a j = true → r.2.2 a j = K a j := by
  intro n
  induction n with
  | zero =>
    intro x1 x2 x3 x4 x5 x6 J K r h hw
    cases h
  | succ n ih =>
    intro x1 x2 x3 x4 x5 x6 J K r h hw
    rw [f_UpRiver_days_L40.eq_2] at h
    obtain ⟨-, h⟩ := am_if_some h
    obtain ⟨-, h⟩ := am_if_some h
    rcases am_ite h with ⟨c2495, h⟩ | ⟨c2495, h⟩
    · skip
      obtain ⟨q2496, e2497, h⟩ := am_bind_some h
      obtain ⟨q2498, e2499, h⟩ := am_bind_some h
      obtain ⟨q2500, e2501, h⟩ := am_bind_some h
      obtain ⟨q2502, e2503, h⟩ := am_bind_some h
      obtain ⟨-, h⟩ := am_if_some h
      rcases am_ite h with ⟨c2504, h⟩ | ⟨c2504, h⟩
      · skip
        exact (ih _ _ _ _ _ _ _ _ _ h hw).trans ((frK_Search_arrive e2503 (am_nw_pick hw [0] rfl)).trans ((frK_Search_add e2501 (am_nw_pick hw [0] rfl)).trans ((frK_Search_begin e2499 (am_nw_pick hw [0] rfl)).trans rfl)))
      · skip
        obtain ⟨-, h⟩ := am_if_some h
        rcases am_ite h with ⟨c2505, h⟩ | ⟨c2505, h⟩
        · skip
          exact (ih _ _ _ _ _ _ _ _ _ h hw).trans ((frK_Search_arrive e2503 (am_nw_pick hw [0] rfl)).trans ((frK_Search_add e2501 (am_nw_pick hw [0] rfl)).trans ((frK_Search_begin e2499 (am_nw_pick hw [0] rfl)).trans rfl)))
        · skip
          exact (ih _ _ _ _ _ _ _ _ _ h hw).trans ((frK_Search_arrive e2503 (am_nw_pick hw [0] rfl)).trans ((frK_Search_add e2501 (am_nw_pick hw [0] rfl)).trans ((frK_Search_begin e2499 (am_nw_pick hw [0] rfl)).trans rfl)))
    · skip
      obtain ⟨-, h⟩ := am_if_some h
      rcases am_ite h with ⟨c2506, h⟩ | ⟨c2506, h⟩
      · skip
        obtain rfl := Option.some.inj h
        exact rfl
      · skip
        obtain rfl := Option.some.inj h
        exact rfl
theorem frK_UpRiver_days {b : Bool} {x1 : Int} {x2 : Int} {x3 : Int} {J : am_J} {K : am_K} {r : Int × am_J × am_K} {a j : Nat} (h : f_UpRiver_days b x1 x2 x3 J K = some r) (hw : am_nw [(27, none)] a j = true) : r.2.2 a j = K a j := by
  unfold f_UpRiver_days at h
  obtain ⟨-, h⟩ := am_if_some h
  rcases am_ite h with ⟨c2507, h⟩ | ⟨c2507, h⟩
  · skip
    obtain rfl := Option.some.inj h
    exact rfl
  · skip
    rcases am_ite h with ⟨c2508, h⟩ | ⟨c2508, h⟩
    · skip
      obtain rfl := Option.some.inj h
      exact rfl
    · skip
      obtain ⟨-, h⟩ := am_if_some h
      rcases am_ite h with ⟨c2509, h⟩ | ⟨c2509, h⟩
      · skip
        obtain rfl := Option.some.inj h
        exact rfl
      · skip
        rcases am_ite h with ⟨c2510, h⟩ | ⟨c2510, h⟩
        · skip
          obtain rfl := Option.some.inj h
          exact rfl
        · skip
          obtain ⟨q2511, e2512, h⟩ := am_bind_some h
          obtain ⟨-, h⟩ := am_if_some h
          rcases am_ite h with ⟨c2513, h⟩ | ⟨c2513, h⟩
          · skip
            obtain rfl := Option.some.inj h
            exact rfl
          · skip
            exact (frK_UpRiver_days_L40  _ _ _ _ _ _ _ _ _ _ h hw).trans rfl
theorem frJ_Skipper_act_L60 {o1 : Nat} {a j : Nat}  : ∀ (x2 : Int) (s0 : Int) (J : am_J) (r : Int × am_J), f_Skipper_act_L60 o1   x2 s0 J = some r → am_nw [(28, some 3), (29, some 0), (29, some 1), (29, some 2), (29, some 3), (29, some 4), (29, some 5)] a j = true → r.2 a j = J a j := by
  intro x2 s0 J r h hw
  unfold f_Skipper_act_L60 at h
  obtain ⟨-, h⟩ := am_if_some h
  rcases am_ite h with ⟨c2514, h⟩ | ⟨c2514, h⟩
  · skip
    obtain rfl := Option.some.inj h
    exact ((am_upn (am_nw_f hw 4 rfl)).trans rfl)
  · skip
    obtain ⟨-, h⟩ := am_if_some h
    rcases am_ite h with ⟨c2515, h⟩ | ⟨c2515, h⟩
    · skip
      obtain rfl := Option.some.inj h
      exact ((am_upn (am_nw_f hw 0 rfl)).trans rfl)
    · skip
      obtain rfl := Option.some.inj h
      exact ((am_upn (am_nw_f hw 0 rfl)).trans rfl)
theorem frJ_Skipper_act_L36 {o1 : Nat} {a j : Nat}  : ∀ (s0 : Int) (J : am_J) (r : Int × am_J), f_Skipper_act_L36 o1   s0 J = some r → am_nw [(28, some 3), (29, some 0), (29, some 1), (29, some 2), (29, some 3), (29, some 4), (29, some 5)] a j = true → r.2 a j = J a j := by
  intro s0 J r h hw
  unfold f_Skipper_act_L36 at h
  obtain ⟨-, h⟩ := am_if_some h
  rcases am_ite h with ⟨c2516, h⟩ | ⟨c2516, h⟩
  · skip
    obtain ⟨q2517, e2518, h⟩ := am_bind_some h
    exact (frJ_Skipper_act_L60  _ _ _ _ h hw).trans ((frJ_Boat_trySail e2518 (am_nw_pick hw [1, 2, 4, 6] rfl)).trans rfl)
  · skip
    obtain ⟨q2519, e2520, h⟩ := am_bind_some h
    exact (frJ_Skipper_act_L60  _ _ _ _ h hw).trans ((frJ_Boat_tryTurn e2520 (am_nw_pick hw [1, 3, 4, 5] rfl)).trans rfl)
theorem frJ_Skipper_act {o1 : Nat} {J : am_J} {r : Int × am_J} {a j : Nat} (h : f_Skipper_act o1 J = some r) (hw : am_nw [(28, some 3), (29, some 0), (29, some 1), (29, some 2), (29, some 3), (29, some 4), (29, some 5)] a j = true) : r.2 a j = J a j := by
  unfold f_Skipper_act at h
  obtain ⟨-, h⟩ := am_if_some h
  rcases am_ite h with ⟨c2521, h⟩ | ⟨c2521, h⟩
  · skip
    obtain ⟨q2522, e2523, h⟩ := am_bind_some h
    obtain ⟨-, h⟩ := am_if_some h
    rcases am_ite h with ⟨c2524, h⟩ | ⟨c2524, h⟩
    · skip
      obtain ⟨q2525, e2526, h⟩ := am_bind_some h
      obtain ⟨-, h⟩ := am_if_some h
      rcases am_ite h with ⟨c2527, h⟩ | ⟨c2527, h⟩
      · skip
        exact (frJ_Skipper_act_L36  _ _ _ h hw).trans rfl
      · skip
        exact (frJ_Skipper_act_L36  _ _ _ h hw).trans rfl
    · skip
      exact (frJ_Skipper_act_L36  _ _ _ h hw).trans rfl
  · skip
    obtain rfl := Option.some.inj h
    exact rfl
theorem frJ_Skipper_begin  {x2 : Int} {x3 : Int} {J : am_J} {r : am_J} {a j : Nat} (h : f_Skipper_begin  x2 x3 J = some r) (hw : am_nw [(28, some 1), (28, some 2), (28, some 3), (29, some 0), (29, some 1), (29, some 2), (29, some 3), (29, some 4), (29, some 5)] a j = true) : r a j = J a j := by
  unfold f_Skipper_begin at h
  obtain ⟨q2528, e2529, h⟩ := am_bind_some h
  obtain rfl := Option.some.inj h
  exact ((am_upn (am_nw_f hw 2 rfl)).trans ((am_upn (am_nw_f hw 1 rfl)).trans ((am_upn (am_nw_f hw 0 rfl)).trans ((frJ_Boat_lieAt e2529 (am_nw_pick hw [3, 4, 5, 6, 7, 8] rfl)).trans rfl))))
theorem frJ_UpRiver_skipperArrival_L65 {b : Bool} {a j : Nat}  : ∀ (J : am_J) (r : Int × am_J), f_UpRiver_skipperArrival_L65 b   J = some r → am_nw [(28, some 1), (28, some 2), (28, some 3), (29, some 0), (29, some 1), (29, some 2), (29, some 3), (29, some 4), (29, some 5)] a j = true → r.2 a j = J a j := by
  intro J r h hw
  unfold f_UpRiver_skipperArrival_L65 at h
  obtain ⟨q2530, e2531, h⟩ := am_bind_some h
  obtain ⟨-, h⟩ := am_if_some h
  rcases am_ite h with ⟨c2532, h⟩ | ⟨c2532, h⟩
  · skip
    obtain rfl := Option.some.inj h
    exact rfl
  · skip
    obtain rfl := Option.some.inj h
    exact rfl
theorem frJ_UpRiver_skipperArrival_L18 {b : Bool} {a j : Nat}  : ∀ (n : Nat) (x3 : Int) (J : am_J) (r : Int × am_J), f_UpRiver_skipperArrival_L18 b  n x3 J = some r → am_nw [(28, some 1), (28, some 2), (28, some 3), (29, some 0), (29, some 1), (29, some 2), (29, some 3), (29, some 4), (29, some 5)] a j = true → r.2 a j = J a j := by
  intro n
  induction n with
  | zero =>
    intro x3 J r h hw
    cases h
  | succ n ih =>
    intro x3 J r h hw
    rw [f_UpRiver_skipperArrival_L18.eq_2] at h
    obtain ⟨-, h⟩ := am_if_some h
    rcases am_ite h with ⟨c2533, h⟩ | ⟨c2533, h⟩
    · skip
      exact (frJ_UpRiver_skipperArrival_L65  _ _ h hw).trans rfl
    · skip
      obtain ⟨q2534, e2535, h⟩ := am_bind_some h
      obtain ⟨-, h⟩ := am_if_some h
      rcases am_ite h with ⟨c2536, h⟩ | ⟨c2536, h⟩
      · skip
        obtain ⟨q2537, e2538, h⟩ := am_bind_some h
        obtain ⟨-, h⟩ := am_if_some h
        rcases am_ite h with ⟨c2539, h⟩ | ⟨c2539, h⟩
        · skip
          obtain rfl := Option.some.inj h
          exact ((frJ_Skipper_act e2538 (am_nw_pick hw [2, 3, 4, 5, 6, 7, 8] rfl)).trans rfl)
        · skip
          exact (ih _ _ _ h hw).trans ((frJ_Skipper_act e2538 (am_nw_pick hw [2, 3, 4, 5, 6, 7, 8] rfl)).trans rfl)
      · skip
        exact (frJ_UpRiver_skipperArrival_L65  _ _ h hw).trans rfl
theorem frJ_UpRiver_skipperArrival {b : Bool} {x1 : Int} {x2 : Int} {J : am_J} {r : Int × am_J} {a j : Nat} (h : f_UpRiver_skipperArrival b x1 x2 J = some r) (hw : am_nw [(28, some 1), (28, some 2), (28, some 3), (29, some 0), (29, some 1), (29, some 2), (29, some 3), (29, some 4), (29, some 5)] a j = true) : r.2 a j = J a j := by
  unfold f_UpRiver_skipperArrival at h
  obtain ⟨q2540, e2541, h⟩ := am_bind_some h
  exact (frJ_UpRiver_skipperArrival_L18  _ _ _ _ h hw).trans ((frJ_Skipper_begin e2541 (am_nw_pick hw [0, 1, 2, 3, 4, 5, 6, 7, 8] rfl)).trans rfl)
theorem frJ_UpRiver_skipper {b : Bool} {x1 : Int} {x2 : Int} {x3 : Int} {J : am_J} {r : Int × am_J} {a j : Nat} (h : f_UpRiver_skipper b x1 x2 x3 J = some r) (hw : am_nw [(28, some 1), (28, some 2), (28, some 3), (29, some 0), (29, some 1), (29, some 2), (29, some 3), (29, some 4), (29, some 5)] a j = true) : r.2 a j = J a j := by
  unfold f_UpRiver_skipper at h
  obtain ⟨q2542, e2543, h⟩ := am_bind_some h
  obtain ⟨-, h⟩ := am_if_some h
  rcases am_ite h with ⟨c2544, h⟩ | ⟨c2544, h⟩
  · skip
    obtain rfl := Option.some.inj h
    exact rfl
  · skip
    obtain ⟨-, h⟩ := am_if_some h
    rcases am_ite h with ⟨c2545, h⟩ | ⟨c2545, h⟩
    · skip
      obtain rfl := Option.some.inj h
      exact rfl
    · skip
      rcases am_ite h with ⟨c2546, h⟩ | ⟨c2546, h⟩
      · skip
        obtain rfl := Option.some.inj h
        exact rfl
      · skip
        obtain ⟨q2547, e2548, h⟩ := am_bind_some h
        obtain ⟨-, h⟩ := am_if_some h
        rcases am_ite h with ⟨c2549, h⟩ | ⟨c2549, h⟩
        · skip
          obtain ⟨q2550, e2551, h⟩ := am_bind_some h
          rcases am_ite h with ⟨c2552, h⟩ | ⟨c2552, h⟩
          · skip
            obtain rfl := Option.some.inj h
            exact ((frJ_UpRiver_skipperArrival e2551 (am_nw_pick hw [0, 1, 2, 3, 4, 5, 6, 7, 8] rfl)).trans rfl)
          · skip
            rcases am_ite h with ⟨c2553, h⟩ | ⟨c2553, h⟩
            · skip
              obtain rfl := Option.some.inj h
              exact ((frJ_UpRiver_skipperArrival e2551 (am_nw_pick hw [0, 1, 2, 3, 4, 5, 6, 7, 8] rfl)).trans rfl)
            · skip
              obtain rfl := Option.some.inj h
              exact ((frJ_UpRiver_skipperArrival e2551 (am_nw_pick hw [0, 1, 2, 3, 4, 5, 6, 7, 8] rfl)).trans rfl)
        · skip
          obtain rfl := Option.some.inj h
          exact rfl
theorem frJ_UpRiver_best_L46 {b : Bool} {a j : Nat}  : ∀ (n : Nat) (x1 : Int) (x2 : Int) (x3 : Int) (x4 : Int) (x5 : Int) (J : am_J) (r : Int × am_J), f_UpRiver_best_L46 b  n x1 x2 x3 x4 x5 J = some r → am_nw [(28, some 1), (28, some 2), (28, some 3), (29, some 0), (29, some 1), (29, some 2), (29, some 3), (29, some 4), (29, some 5)] a j = true → r.2 a j = J a j := by
  intro n
  induction n with
  | zero =>
    intro x1 x2 x3 x4 x5 J r h hw
    cases h
  | succ n ih =>
    intro x1 x2 x3 x4 x5 J r h hw
    rw [f_UpRiver_best_L46.eq_2] at h
    obtain ⟨-, h⟩ := am_if_some h
    rcases am_ite h with ⟨c2554, h⟩ | ⟨c2554, h⟩
    · skip
      obtain ⟨-, h⟩ := am_if_some h
      rcases am_ite h with ⟨c2555, h⟩ | ⟨c2555, h⟩
      · skip
        obtain rfl := Option.some.inj h
        exact rfl
      · skip
        obtain rfl := Option.some.inj h
        exact rfl
    · skip
      obtain ⟨q2556, e2557, h⟩ := am_bind_some h
      obtain ⟨-, h⟩ := am_if_some h
      rcases am_ite h with ⟨c2558, h⟩ | ⟨c2558, h⟩
      · skip
        exact (ih _ _ _ _ _ _ _ h hw).trans ((frJ_UpRiver_skipperArrival e2557 (am_nw_pick hw [0, 1, 2, 3, 4, 5, 6, 7, 8] rfl)).trans rfl)
      · skip
        obtain ⟨-, h⟩ := am_if_some h
        rcases am_ite h with ⟨c2559, h⟩ | ⟨c2559, h⟩
        · skip
          exact (ih _ _ _ _ _ _ _ h hw).trans ((frJ_UpRiver_skipperArrival e2557 (am_nw_pick hw [0, 1, 2, 3, 4, 5, 6, 7, 8] rfl)).trans rfl)
        · skip
          rcases am_ite h with ⟨c2560, h⟩ | ⟨c2560, h⟩
          · skip
            exact (ih _ _ _ _ _ _ _ h hw).trans ((frJ_UpRiver_skipperArrival e2557 (am_nw_pick hw [0, 1, 2, 3, 4, 5, 6, 7, 8] rfl)).trans rfl)
          · skip
            exact (ih _ _ _ _ _ _ _ h hw).trans ((frJ_UpRiver_skipperArrival e2557 (am_nw_pick hw [0, 1, 2, 3, 4, 5, 6, 7, 8] rfl)).trans rfl)
theorem frJ_UpRiver_best {b : Bool} {x1 : Int} {x2 : Int} {J : am_J} {r : Int × am_J} {a j : Nat} (h : f_UpRiver_best b x1 x2 J = some r) (hw : am_nw [(28, some 1), (28, some 2), (28, some 3), (29, some 0), (29, some 1), (29, some 2), (29, some 3), (29, some 4), (29, some 5)] a j = true) : r.2 a j = J a j := by
  unfold f_UpRiver_best at h
  obtain ⟨q2561, e2562, h⟩ := am_bind_some h
  obtain ⟨-, h⟩ := am_if_some h
  rcases am_ite h with ⟨c2563, h⟩ | ⟨c2563, h⟩
  · skip
    obtain rfl := Option.some.inj h
    exact rfl
  · skip
    obtain ⟨q2564, e2565, h⟩ := am_bind_some h
    obtain ⟨-, h⟩ := am_if_some h
    rcases am_ite h with ⟨c2566, h⟩ | ⟨c2566, h⟩
    · skip
      obtain rfl := Option.some.inj h
      exact rfl
    · skip
      obtain ⟨q2567, e2568, h⟩ := am_bind_some h
      obtain ⟨-, h⟩ := am_if_some h
      rcases am_ite h with ⟨c2569, h⟩ | ⟨c2569, h⟩
      · skip
        exact (frJ_UpRiver_best_L46  _ _ _ _ _ _ _ _ h hw).trans rfl
      · skip
        obtain rfl := Option.some.inj h
        exact rfl
theorem frJ_UpRiver_loses {b : Bool} {x1 : Int} {x2 : Int} {J : am_J} {K : am_K} {r : Int × am_J × am_K} {a j : Nat} (h : f_UpRiver_loses b x1 x2 J K = some r) (hw : am_nw [(26, some 1), (26, some 2), (26, some 3), (26, some 4), (26, some 5), (26, some 6), (28, some 1), (28, some 2), (28, some 3), (29, some 0), (29, some 1), (29, some 2), (29, some 3), (29, some 4), (29, some 5)] a j = true) : r.2.1 a j = J a j := by
  unfold f_UpRiver_loses at h
  obtain ⟨q2570, e2571, h⟩ := am_bind_some h
  obtain ⟨-, h⟩ := am_if_some h
  rcases am_ite h with ⟨c2572, h⟩ | ⟨c2572, h⟩
  · skip
    obtain rfl := Option.some.inj h
    exact rfl
  · skip
    obtain ⟨q2573, e2574, h⟩ := am_bind_some h
    obtain ⟨-, h⟩ := am_if_some h
    rcases am_ite h with ⟨c2575, h⟩ | ⟨c2575, h⟩
    · skip
      obtain ⟨q2576, e2577, h⟩ := am_bind_some h
      obtain ⟨-, h⟩ := am_if_some h
      rcases am_ite h with ⟨c2578, h⟩ | ⟨c2578, h⟩
      · skip
        obtain rfl := Option.some.inj h
        exact ((frJ_UpRiver_skipperArrival e2577 (am_nw_pick hw [6, 7, 8, 9, 10, 11, 12, 13, 14] rfl)).trans rfl)
      · skip
        obtain ⟨q2579, e2580, h⟩ := am_bind_some h
        obtain rfl := Option.some.inj h
        exact ((frJ_UpRiver_arrivalOf e2580 (am_nw_pick hw [0, 1, 2, 3, 4, 5] rfl)).trans ((frJ_UpRiver_skipperArrival e2577 (am_nw_pick hw [6, 7, 8, 9, 10, 11, 12, 13, 14] rfl)).trans rfl))
    · skip
      obtain rfl := Option.some.inj h
      exact rfl
theorem frK_UpRiver_loses {b : Bool} {x1 : Int} {x2 : Int} {J : am_J} {K : am_K} {r : Int × am_J × am_K} {a j : Nat} (h : f_UpRiver_loses b x1 x2 J K = some r) (hw : am_nw [(27, none)] a j = true) : r.2.2 a j = K a j := by
  unfold f_UpRiver_loses at h
  obtain ⟨q2581, e2582, h⟩ := am_bind_some h
  obtain ⟨-, h⟩ := am_if_some h
  rcases am_ite h with ⟨c2583, h⟩ | ⟨c2583, h⟩
  · skip
    obtain rfl := Option.some.inj h
    exact rfl
  · skip
    obtain ⟨q2584, e2585, h⟩ := am_bind_some h
    obtain ⟨-, h⟩ := am_if_some h
    rcases am_ite h with ⟨c2586, h⟩ | ⟨c2586, h⟩
    · skip
      obtain ⟨q2587, e2588, h⟩ := am_bind_some h
      obtain ⟨-, h⟩ := am_if_some h
      rcases am_ite h with ⟨c2589, h⟩ | ⟨c2589, h⟩
      · skip
        obtain rfl := Option.some.inj h
        exact rfl
      · skip
        obtain ⟨q2590, e2591, h⟩ := am_bind_some h
        obtain rfl := Option.some.inj h
        exact ((frK_UpRiver_arrivalOf e2591 (am_nw_pick hw [0] rfl)).trans rfl)
    · skip
      obtain rfl := Option.some.inj h
      exact rfl
theorem frJ_Log_add_L57  {a j : Nat}  : ∀ (x1 : Int) (x2 : Int) (J : am_J) (r : Int × am_J), f_Log_add_L57    x1 x2 J = some r → am_nw [(19, some 2), (20, none), (21, none)] a j = true → r.2 a j = J a j := by
  intro x1 x2 J r h hw
  unfold f_Log_add_L57 at h
  obtain ⟨-, h⟩ := am_if_some h
  rcases am_ite h with ⟨c2592, h⟩ | ⟨c2592, h⟩
  · skip
    obtain ⟨-, h⟩ := am_if_some h
    obtain rfl := Option.some.inj h
    exact ((am_upn (am_nw_f hw 0 rfl)).trans ((am_upn (am_nw_a hw 2 rfl)).trans ((am_upn (am_nw_a hw 1 rfl)).trans rfl)))
  · skip
    obtain rfl := Option.some.inj h
    exact rfl
theorem frJ_Log_add  {x1 : Int} {x2 : Int} {x3 : Int} {J : am_J} {r : Int × am_J} {a j : Nat} (h : f_Log_add  x1 x2 x3 J = some r) (hw : am_nw [(19, some 2), (20, none), (21, none)] a j = true) : r.2 a j = J a j := by
  unfold f_Log_add at h
  obtain ⟨-, h⟩ := am_if_some h
  rcases am_ite h with ⟨c2593, h⟩ | ⟨c2593, h⟩
  · skip
    obtain rfl := Option.some.inj h
    exact rfl
  · skip
    obtain ⟨-, h⟩ := am_if_some h
    rcases am_ite h with ⟨c2594, h⟩ | ⟨c2594, h⟩
    · skip
      obtain rfl := Option.some.inj h
      exact rfl
    · skip
      obtain ⟨q2595, e2596, h⟩ := am_bind_some h
      obtain ⟨-, h⟩ := am_if_some h
      rcases am_ite h with ⟨c2597, h⟩ | ⟨c2597, h⟩
      · skip
        obtain rfl := Option.some.inj h
        exact rfl
      · skip
        obtain ⟨-, h⟩ := am_if_some h
        rcases am_ite h with ⟨c2598, h⟩ | ⟨c2598, h⟩
        · skip
          obtain ⟨-, h⟩ := am_if_some h
          obtain ⟨-, h⟩ := am_if_some h
          rcases am_ite h with ⟨c2599, h⟩ | ⟨c2599, h⟩
          · skip
            obtain ⟨-, h⟩ := am_if_some h
            obtain ⟨-, h⟩ := am_if_some h
            rcases am_ite h with ⟨c2600, h⟩ | ⟨c2600, h⟩
            · skip
              exact (frJ_Log_add_L57  _ _ _ _ h hw).trans rfl
            · skip
              obtain rfl := Option.some.inj h
              exact rfl
          · skip
            obtain rfl := Option.some.inj h
            exact rfl
        · skip
          exact (frJ_Log_add_L57  _ _ _ _ h hw).trans rfl
theorem frJ_UpRiver_logged {b : Bool} {x1 : Int} {x2 : Int} {J : am_J} {r : Int × am_J} {a j : Nat} (h : f_UpRiver_logged b x1 x2 J = some r) (hw : am_nw [(19, some 2), (20, none), (21, none)] a j = true) : r.2 a j = J a j := by
  unfold f_UpRiver_logged at h
  obtain ⟨q2601, e2602, h⟩ := am_bind_some h
  obtain rfl := Option.some.inj h
  exact ((frJ_Log_add e2602 (am_nw_pick hw [0, 1, 2] rfl)).trans rfl)
theorem frJ_UpRiver_stretchArrival_L56 {b : Bool} {a j : Nat}  : ∀ (n : Nat) (x3 : Int) (x4 : Int) (x5 : Int) (J : am_J) (K : am_K) (r : Int × am_J × am_K), f_UpRiver_stretchArrival_L56 b  n x3 x4 x5 J K = some r → am_nw [(26, some 1), (26, some 2), (26, some 3), (26, some 4), (26, some 5), (26, some 6), (30, some 0), (30, some 1), (30, some 2), (30, some 3), (30, some 4), (30, some 5)] a j = true → r.2.1 a j = J a j := by
  intro n
  induction n with
  | zero =>
    intro x3 x4 x5 J K r h hw
    cases h
  | succ n ih =>
    intro x3 x4 x5 J K r h hw
    rw [f_UpRiver_stretchArrival_L56.eq_2] at h
    obtain ⟨-, h⟩ := am_if_some h
    rcases am_ite h with ⟨c2603, h⟩ | ⟨c2603, h⟩
    · skip
      obtain ⟨q2604, e2605, h⟩ := am_bind_some h
      obtain ⟨-, h⟩ := am_if_some h
      rcases am_ite h with ⟨c2606, h⟩ | ⟨c2606, h⟩
      · skip
        exact (ih _ _ _ _ _ _ h hw).trans rfl
      · skip
        obtain ⟨q2607, e2608, h⟩ := am_bind_some h
        obtain ⟨q2609, e2610, h⟩ := am_bind_some h
        obtain ⟨q2611, e2612, h⟩ := am_bind_some h
        exact (ih _ _ _ _ _ _ h hw).trans ((am_upn (am_nw_f hw 8 rfl)).trans ((frJ_Boat_lieAt e2608 (am_nw_pick hw [6, 7, 8, 9, 10, 11] rfl)).trans rfl))
    · skip
      obtain ⟨q2613, e2614, h⟩ := am_bind_some h
      obtain rfl := Option.some.inj h
      exact ((frJ_Search_arrive e2614 (am_nw_pick hw [5] rfl)).trans rfl)
theorem frJ_UpRiver_stretchArrival {b : Bool} {x1 : Int} {J : am_J} {K : am_K} {r : Int × am_J × am_K} {a j : Nat} (h : f_UpRiver_stretchArrival b x1 J K = some r) (hw : am_nw [(26, some 1), (26, some 2), (26, some 3), (26, some 4), (26, some 5), (26, some 6), (30, some 0), (30, some 1), (30, some 2), (30, some 3), (30, some 4), (30, some 5)] a j = true) : r.2.1 a j = J a j := by
  unfold f_UpRiver_stretchArrival at h
  obtain ⟨-, h⟩ := am_if_some h
  obtain ⟨q2615, e2616, h⟩ := am_bind_some h
  obtain ⟨-, h⟩ := am_if_some h
  exact (frJ_UpRiver_stretchArrival_L56  _ _ _ _ _ _ _ h hw).trans ((am_upn (am_nw_f hw 4 rfl)).trans ((frJ_Search_begin e2616 (am_nw_pick hw [0, 1, 2, 3, 4] rfl)).trans rfl))
theorem frK_UpRiver_stretchArrival_L56 {b : Bool} {a j : Nat}  : ∀ (n : Nat) (x3 : Int) (x4 : Int) (x5 : Int) (J : am_J) (K : am_K) (r : Int × am_J × am_K), f_UpRiver_stretchArrival_L56 b  n x3 x4 x5 J K = some r → am_nw [(27, none)] a j = true → r.2.2 a j = K a j := by
  intro n
  induction n with
  | zero =>
    intro x3 x4 x5 J K r h hw
    cases h
  | succ n ih =>
    intro x3 x4 x5 J K r h hw
    rw [f_UpRiver_stretchArrival_L56.eq_2] at h
    obtain ⟨-, h⟩ := am_if_some h
    rcases am_ite h with ⟨c2617, h⟩ | ⟨c2617, h⟩
    · skip
      obtain ⟨q2618, e2619, h⟩ := am_bind_some h
      obtain ⟨-, h⟩ := am_if_some h
      rcases am_ite h with ⟨c2620, h⟩ | ⟨c2620, h⟩
      · skip
        exact (ih _ _ _ _ _ _ h hw).trans rfl
      · skip
        obtain ⟨q2621, e2622, h⟩ := am_bind_some h
        obtain ⟨q2623, e2624, h⟩ := am_bind_some h
        obtain ⟨q2625, e2626, h⟩ := am_bind_some h
        exact (ih _ _ _ _ _ _ h hw).trans ((frK_Search_add e2626 (am_nw_pick hw [0] rfl)).trans ((frK_Search_add e2624 (am_nw_pick hw [0] rfl)).trans rfl))
    · skip
      obtain ⟨q2627, e2628, h⟩ := am_bind_some h
      obtain rfl := Option.some.inj h
      exact ((frK_Search_arrive e2628 (am_nw_pick hw [0] rfl)).trans rfl)
theorem frK_UpRiver_stretchArrival {b : Bool} {x1 : Int} {J : am_J} {K : am_K} {r : Int × am_J × am_K} {a j : Nat} (h : f_UpRiver_stretchArrival b x1 J K = some r) (hw : am_nw [(27, none)] a j = true) : r.2.2 a j = K a j := by
  unfold f_UpRiver_stretchArrival at h
  obtain ⟨-, h⟩ := am_if_some h
  obtain ⟨q2629, e2630, h⟩ := am_bind_some h
  obtain ⟨-, h⟩ := am_if_some h
  exact (frK_UpRiver_stretchArrival_L56  _ _ _ _ _ _ _ h hw).trans ((frK_Search_begin e2630 (am_nw_pick hw [0] rfl)).trans rfl)
theorem frJ_UpRiver_lost_L22 {b : Bool} {a j : Nat}  : ∀ (n : Nat) (x1 : Int) (x2 : Int) (x3 : Int) (x4 : Int) (J : am_J) (K : am_K) (r : Int × am_J × am_K), f_UpRiver_lost_L22 b  n x1 x2 x3 x4 J K = some r → am_nw [(26, some 1), (26, some 2), (26, some 3), (26, some 4), (26, some 5), (26, some 6), (30, some 0), (30, some 1), (30, some 2), (30, some 3), (30, some 4), (30, some 5)] a j = true → r.2.1 a j = J a j := by
  intro n
  induction n with
  | zero =>
    intro x1 x2 x3 x4 J K r h hw
    cases h
  | succ n ih =>
    intro x1 x2 x3 x4 J K r h hw
    rw [f_UpRiver_lost_L22.eq_2] at h
    obtain ⟨-, h⟩ := am_if_some h
    obtain ⟨-, h⟩ := am_if_some h
    rcases am_ite h with ⟨c2631, h⟩ | ⟨c2631, h⟩
    · skip
      obtain ⟨q2632, e2633, h⟩ := am_bind_some h
      obtain ⟨-, h⟩ := am_if_some h
      rcases am_ite h with ⟨c2634, h⟩ | ⟨c2634, h⟩
      · skip
        exact (ih _ _ _ _ _ _ _ h hw).trans ((frJ_UpRiver_stretchArrival e2633 (am_nw_pick hw [0, 1, 2, 3, 4, 5, 6, 7, 8, 9, 10, 11] rfl)).trans rfl)
      · skip
        obtain ⟨-, h⟩ := am_if_some h
        obtain ⟨-, h⟩ := am_if_some h
        rcases am_ite h with ⟨c2635, h⟩ | ⟨c2635, h⟩
        · skip
          exact (ih _ _ _ _ _ _ _ h hw).trans ((frJ_UpRiver_stretchArrival e2633 (am_nw_pick hw [0, 1, 2, 3, 4, 5, 6, 7, 8, 9, 10, 11] rfl)).trans rfl)
        · skip
          obtain ⟨-, h⟩ := am_if_some h
          obtain ⟨-, h⟩ := am_if_some h
          rcases am_ite h with ⟨c2636, h⟩ | ⟨c2636, h⟩
          · skip
            exact (ih _ _ _ _ _ _ _ h hw).trans ((frJ_UpRiver_stretchArrival e2633 (am_nw_pick hw [0, 1, 2, 3, 4, 5, 6, 7, 8, 9, 10, 11] rfl)).trans rfl)
          · skip
            exact (ih _ _ _ _ _ _ _ h hw).trans ((frJ_UpRiver_stretchArrival e2633 (am_nw_pick hw [0, 1, 2, 3, 4, 5, 6, 7, 8, 9, 10, 11] rfl)).trans rfl)
    · skip
      obtain ⟨-, h⟩ := am_if_some h
      rcases am_ite h with ⟨c2637, h⟩ | ⟨c2637, h⟩
      · skip
        obtain rfl := Option.some.inj h
        exact rfl
      · skip
        obtain rfl := Option.some.inj h
        exact rfl
theorem frJ_UpRiver_lost {b : Bool} {x1 : Int} {J : am_J} {K : am_K} {r : Int × am_J × am_K} {a j : Nat} (h : f_UpRiver_lost b x1 J K = some r) (hw : am_nw [(26, some 1), (26, some 2), (26, some 3), (26, some 4), (26, some 5), (26, some 6), (30, some 0), (30, some 1), (30, some 2), (30, some 3), (30, some 4), (30, some 5)] a j = true) : r.2.1 a j = J a j := by
  unfold f_UpRiver_lost at h
  obtain ⟨q2638, e2639, h⟩ := am_bind_some h
  obtain ⟨-, h⟩ := am_if_some h
  rcases am_ite h with ⟨c2640, h⟩ | ⟨c2640, h⟩
  · skip
    obtain rfl := Option.some.inj h
    exact rfl
  · skip
    exact (frJ_UpRiver_lost_L22  _ _ _ _ _ _ _ _ h hw).trans rfl
theorem frK_UpRiver_lost_L22 {b : Bool} {a j : Nat}  : ∀ (n : Nat) (x1 : Int) (x2 : Int) (x3 : Int) (x4 : Int) (J : am_J) (K : am_K) (r : Int × am_J × am_K), f_UpRiver_lost_L22 b  n x1 x2 x3 x4 J K = some r → am_nw [(27, none)] a j = true → r.2.2 a j = K a j := by
  intro n
  induction n with
  | zero =>
    intro x1 x2 x3 x4 J K r h hw
    cases h
  | succ n ih =>
    intro x1 x2 x3 x4 J K r h hw
    rw [f_UpRiver_lost_L22.eq_2] at h
    obtain ⟨-, h⟩ := am_if_some h
    obtain ⟨-, h⟩ := am_if_some h
    rcases am_ite h with ⟨c2641, h⟩ | ⟨c2641, h⟩
    · skip
      obtain ⟨q2642, e2643, h⟩ := am_bind_some h
      obtain ⟨-, h⟩ := am_if_some h
      rcases am_ite h with ⟨c2644, h⟩ | ⟨c2644, h⟩
      · skip
        exact (ih _ _ _ _ _ _ _ h hw).trans ((frK_UpRiver_stretchArrival e2643 (am_nw_pick hw [0] rfl)).trans rfl)
      · skip
        obtain ⟨-, h⟩ := am_if_some h
        obtain ⟨-, h⟩ := am_if_some h
        rcases am_ite h with ⟨c2645, h⟩ | ⟨c2645, h⟩
        · skip
          exact (ih _ _ _ _ _ _ _ h hw).trans ((frK_UpRiver_stretchArrival e2643 (am_nw_pick hw [0] rfl)).trans rfl)
        · skip
          obtain ⟨-, h⟩ := am_if_some h
          obtain ⟨-, h⟩ := am_if_some h
          rcases am_ite h with ⟨c2646, h⟩ | ⟨c2646, h⟩
          · skip
            exact (ih _ _ _ _ _ _ _ h hw).trans ((frK_UpRiver_stretchArrival e2643 (am_nw_pick hw [0] rfl)).trans rfl)
          · skip
            exact (ih _ _ _ _ _ _ _ h hw).trans ((frK_UpRiver_stretchArrival e2643 (am_nw_pick hw [0] rfl)).trans rfl)
    · skip
      obtain ⟨-, h⟩ := am_if_some h
      rcases am_ite h with ⟨c2647, h⟩ | ⟨c2647, h⟩
      · skip
        obtain rfl := Option.some.inj h
        exact rfl
      · skip
        obtain rfl := Option.some.inj h
        exact rfl
theorem frK_UpRiver_lost {b : Bool} {x1 : Int} {J : am_J} {K : am_K} {r : Int × am_J × am_K} {a j : Nat} (h : f_UpRiver_lost b x1 J K = some r) (hw : am_nw [(27, none)] a j = true) : r.2.2 a j = K a j := by
  unfold f_UpRiver_lost at h
  obtain ⟨q2648, e2649, h⟩ := am_bind_some h
  obtain ⟨-, h⟩ := am_if_some h
  rcases am_ite h with ⟨c2650, h⟩ | ⟨c2650, h⟩
  · skip
    obtain rfl := Option.some.inj h
    exact rfl
  · skip
    exact (frK_UpRiver_lost_L22  _ _ _ _ _ _ _ _ h hw).trans rfl
theorem frJ_Swings_add  {x1 : Int} {J : am_J} {r : Int × am_J} {a j : Nat} (h : f_Swings_add  x1 J = some r) (hw : am_nw [(22, some 1), (23, none)] a j = true) : r.2 a j = J a j := by
  unfold f_Swings_add at h
  obtain ⟨-, h⟩ := am_if_some h
  rcases am_ite h with ⟨c2651, h⟩ | ⟨c2651, h⟩
  · skip
    obtain rfl := Option.some.inj h
    exact rfl
  · skip
    rcases am_ite h with ⟨c2652, h⟩ | ⟨c2652, h⟩
    · skip
      obtain rfl := Option.some.inj h
      exact rfl
    · skip
      obtain ⟨-, h⟩ := am_if_some h
      rcases am_ite h with ⟨c2653, h⟩ | ⟨c2653, h⟩
      · skip
        obtain ⟨-, h⟩ := am_if_some h
        obtain rfl := Option.some.inj h
        exact ((am_upn (am_nw_f hw 0 rfl)).trans ((am_upn (am_nw_a hw 1 rfl)).trans rfl))
      · skip
        obtain rfl := Option.some.inj h
        exact rfl
theorem frJ_UpRiver_swing  {x1 : Int} {J : am_J} {r : Int × am_J} {a j : Nat} (h : f_UpRiver_swing  x1 J = some r) (hw : am_nw [(22, some 1), (23, none)] a j = true) : r.2 a j = J a j := by
  unfold f_UpRiver_swing at h
  obtain ⟨q2654, e2655, h⟩ := am_bind_some h
  obtain rfl := Option.some.inj h
  exact ((frJ_Swings_add e2655 (am_nw_pick hw [0, 1] rfl)).trans rfl)
theorem frJ_UpRiver_barge_L233 {b : Bool} {a j : Nat} {kb73 : Int → Int → Int → Int → am_J → Option (Int × am_J)} (hk73 : ∀ (x1 : Int) (x2 : Int) (x5 : Int) (x6 : Int) (J : am_J) (r : Int × am_J), kb73 x1 x2 x5 x6 J = some r → am_nw [(28, some 1), (28, some 2), (28, some 3), (29, some 0), (29, some 1), (29, some 2), (29, some 3), (29, some 4), (29, some 5)] a j = true → r.2 a j = J a j) : ∀ (x1 : Int) (x2 : Int) (x5 : Int) (x6 : Int) (x11 : Int) (J : am_J) (r : Int × am_J), f_UpRiver_barge_L233 b kb73  x1 x2 x5 x6 x11 J = some r → am_nw [(28, some 1), (28, some 2), (28, some 3), (29, some 0), (29, some 1), (29, some 2), (29, some 3), (29, some 4), (29, some 5)] a j = true → r.2 a j = J a j := by
  intro x1 x2 x5 x6 x11 J r h hw
  unfold f_UpRiver_barge_L233 at h
  obtain ⟨-, h⟩ := am_if_some h
  rcases am_ite h with ⟨c2656, h⟩ | ⟨c2656, h⟩
  · skip
    exact (hk73 _ _ _ _ _ _ h hw).trans rfl
  · skip
    obtain rfl := Option.some.inj h
    exact rfl
theorem frJ_UpRiver_barge_L198 {b : Bool} {a j : Nat} {kb73 : Int → Int → Int → Int → am_J → Option (Int × am_J)} (hk73 : ∀ (x1 : Int) (x2 : Int) (x5 : Int) (x6 : Int) (J : am_J) (r : Int × am_J), kb73 x1 x2 x5 x6 J = some r → am_nw [(28, some 1), (28, some 2), (28, some 3), (29, some 0), (29, some 1), (29, some 2), (29, some 3), (29, some 4), (29, some 5)] a j = true → r.2 a j = J a j) : ∀ (x1 : Int) (x2 : Int) (x5 : Int) (x6 : Int) (x7 : Int) (x8 : Int) (x9 : Int) (x10 : Int) (x11 : Int) (s0 : Int) (J : am_J) (r : Int × am_J), f_UpRiver_barge_L198 b kb73  x1 x2 x5 x6 x7 x8 x9 x10 x11 s0 J = some r → am_nw [(28, some 1), (28, some 2), (28, some 3), (29, some 0), (29, some 1), (29, some 2), (29, some 3), (29, some 4), (29, some 5)] a j = true → r.2 a j = J a j := by
  intro x1 x2 x5 x6 x7 x8 x9 x10 x11 s0 J r h hw
  unfold f_UpRiver_barge_L198 at h
  obtain ⟨-, h⟩ := am_if_some h
  obtain ⟨-, h⟩ := am_if_some h
  rcases am_ite h with ⟨c2657, h⟩ | ⟨c2657, h⟩
  · skip
    obtain ⟨-, h⟩ := am_if_some h
    obtain ⟨-, h⟩ := am_if_some h
    rcases am_ite h with ⟨c2658, h⟩ | ⟨c2658, h⟩
    · skip
      exact (frJ_UpRiver_barge_L233 hk73 _ _ _ _ _ _ _ h hw).trans rfl
    · skip
      obtain ⟨-, h⟩ := am_if_some h
      rcases am_ite h with ⟨c2659, h⟩ | ⟨c2659, h⟩
      · skip
        exact (frJ_UpRiver_barge_L233 hk73 _ _ _ _ _ _ _ h hw).trans rfl
      · skip
        obtain ⟨-, h⟩ := am_if_some h
        rcases am_ite h with ⟨c2660, h⟩ | ⟨c2660, h⟩
        · skip
          obtain rfl := Option.some.inj h
          exact rfl
        · skip
          obtain rfl := Option.some.inj h
          exact rfl
  · skip
    exact (frJ_UpRiver_barge_L233 hk73 _ _ _ _ _ _ _ h hw).trans rfl
theorem frJ_UpRiver_barge_L174 {b : Bool} {a j : Nat} {kb73 : Int → Int → Int → Int → am_J → Option (Int × am_J)} (hk73 : ∀ (x1 : Int) (x2 : Int) (x5 : Int) (x6 : Int) (J : am_J) (r : Int × am_J), kb73 x1 x2 x5 x6 J = some r → am_nw [(28, some 1), (28, some 2), (28, some 3), (29, some 0), (29, some 1), (29, some 2), (29, some 3), (29, some 4), (29, some 5)] a j = true → r.2 a j = J a j) : ∀ (x1 : Int) (x2 : Int) (x5 : Int) (x6 : Int) (x7 : Int) (x8 : Int) (x9 : Int) (x10 : Int) (s0 : Int) (J : am_J) (r : Int × am_J), f_UpRiver_barge_L174 b kb73  x1 x2 x5 x6 x7 x8 x9 x10 s0 J = some r → am_nw [(28, some 1), (28, some 2), (28, some 3), (29, some 0), (29, some 1), (29, some 2), (29, some 3), (29, some 4), (29, some 5)] a j = true → r.2 a j = J a j := by
  intro x1 x2 x5 x6 x7 x8 x9 x10 s0 J r h hw
  unfold f_UpRiver_barge_L174 at h
  obtain ⟨-, h⟩ := am_if_some h
  rcases am_ite h with ⟨c2661, h⟩ | ⟨c2661, h⟩
  · skip
    exact (frJ_UpRiver_barge_L198 hk73 _ _ _ _ _ _ _ _ _ _ _ _ h hw).trans rfl
  · skip
    exact (frJ_UpRiver_barge_L198 hk73 _ _ _ _ _ _ _ _ _ _ _ _ h hw).trans rfl
theorem frJ_UpRiver_barge_L73 {b : Bool} {a j : Nat}  : ∀ (n : Nat) (x1 : Int) (x2 : Int) (x5 : Int) (x6 : Int) (J : am_J) (r : Int × am_J), f_UpRiver_barge_L73 b  n x1 x2 x5 x6 J = some r → am_nw [(28, some 1), (28, some 2), (28, some 3), (29, some 0), (29, some 1), (29, some 2), (29, some 3), (29, some 4), (29, some 5)] a j = true → r.2 a j = J a j := by
  intro n
  induction n with
  | zero =>
    intro x1 x2 x5 x6 J r h hw
    cases h
  | succ n ih =>
    intro x1 x2 x5 x6 J r h hw
    rw [f_UpRiver_barge_L73.eq_2] at h
    obtain ⟨-, h⟩ := am_if_some h
    rcases am_ite h with ⟨c2662, h⟩ | ⟨c2662, h⟩
    · skip
      obtain rfl := Option.some.inj h
      exact rfl
    · skip
      obtain ⟨q2663, e2664, h⟩ := am_bind_some h
      obtain ⟨-, h⟩ := am_if_some h
      rcases am_ite h with ⟨c2665, h⟩ | ⟨c2665, h⟩
      · skip
        obtain ⟨-, h⟩ := am_if_some h
        obtain ⟨q2666, e2667, h⟩ := am_bind_some h
        obtain ⟨-, h⟩ := am_if_some h
        rcases am_ite h with ⟨c2668, h⟩ | ⟨c2668, h⟩
        · skip
          exact (frJ_UpRiver_barge_L174 ih _ _ _ _ _ _ _ _ _ _ _ h hw).trans ((frJ_Skipper_act e2667 (am_nw_pick hw [2, 3, 4, 5, 6, 7, 8] rfl)).trans rfl)
        · skip
          exact (frJ_UpRiver_barge_L174 ih _ _ _ _ _ _ _ _ _ _ _ h hw).trans ((frJ_Skipper_act e2667 (am_nw_pick hw [2, 3, 4, 5, 6, 7, 8] rfl)).trans rfl)
      · skip
        obtain rfl := Option.some.inj h
        exact rfl
theorem frJ_UpRiver_barge {b : Bool} {x1 : Int} {x2 : Int} {x3 : Int} {x4 : Int} {x5 : Int} {J : am_J} {r : Int × am_J} {a j : Nat} (h : f_UpRiver_barge b x1 x2 x3 x4 x5 J = some r) (hw : am_nw [(28, some 1), (28, some 2), (28, some 3), (29, some 0), (29, some 1), (29, some 2), (29, some 3), (29, some 4), (29, some 5)] a j = true) : r.2 a j = J a j := by
  unfold f_UpRiver_barge at h
  obtain ⟨q2669, e2670, h⟩ := am_bind_some h
  obtain ⟨-, h⟩ := am_if_some h
  rcases am_ite h with ⟨c2671, h⟩ | ⟨c2671, h⟩
  · skip
    obtain rfl := Option.some.inj h
    exact rfl
  · skip
    obtain ⟨q2672, e2673, h⟩ := am_bind_some h
    obtain ⟨-, h⟩ := am_if_some h
    rcases am_ite h with ⟨c2674, h⟩ | ⟨c2674, h⟩
    · skip
      obtain rfl := Option.some.inj h
      exact rfl
    · skip
      obtain ⟨q2675, e2676, h⟩ := am_bind_some h
      obtain ⟨-, h⟩ := am_if_some h
      rcases am_ite h with ⟨c2677, h⟩ | ⟨c2677, h⟩
      · skip
        obtain rfl := Option.some.inj h
        exact rfl
      · skip
        obtain ⟨q2678, e2679, h⟩ := am_bind_some h
        obtain ⟨-, h⟩ := am_if_some h
        rcases am_ite h with ⟨c2680, h⟩ | ⟨c2680, h⟩
        · skip
          obtain rfl := Option.some.inj h
          exact rfl
        · skip
          obtain ⟨q2681, e2682, h⟩ := am_bind_some h
          obtain ⟨-, h⟩ := am_if_some h
          rcases am_ite h with ⟨c2683, h⟩ | ⟨c2683, h⟩
          · skip
            obtain ⟨q2684, e2685, h⟩ := am_bind_some h
            exact (frJ_UpRiver_barge_L73  _ _ _ _ _ _ _ h hw).trans ((frJ_Skipper_begin e2685 (am_nw_pick hw [0, 1, 2, 3, 4, 5, 6, 7, 8] rfl)).trans rfl)
          · skip
            obtain rfl := Option.some.inj h
            exact rfl
theorem frJ_Log_take_L10 {o1 : Nat} {o2 : Nat} {a j : Nat}  : ∀ (n : Nat) (x2 : Int) (J : am_J) (r : am_J), f_Log_take_L10 o1 o2  n x2 J = some r → am_nw [(o1, some 2), ((o1 + 1), none), ((o1 + 2), none)] a j = true → r a j = J a j := by
  intro n
  induction n with
  | zero =>
    intro x2 J r h hw
    cases h
  | succ n ih =>
    intro x2 J r h hw
    rw [f_Log_take_L10.eq_2] at h
    obtain ⟨-, h⟩ := am_if_some h
    obtain ⟨-, h⟩ := am_if_some h
    rcases am_ite h with ⟨c2686, h⟩ | ⟨c2686, h⟩
    · skip
      obtain ⟨-, h⟩ := am_if_some h
      exact (ih _ _ _ h hw).trans ((am_upn (am_nw_a hw 2 rfl)).trans ((am_upn (am_nw_a hw 1 rfl)).trans rfl))
    · skip
      obtain rfl := Option.some.inj h
      exact rfl
theorem frJ_Log_take {o1 : Nat} {o2 : Nat} {J : am_J} {r : am_J} {a j : Nat} (h : f_Log_take o1 o2 J = some r) (hw : am_nw [(o1, some 2), ((o1 + 1), none), ((o1 + 2), none)] a j = true) : r a j = J a j := by
  unfold f_Log_take at h
  exact (frJ_Log_take_L10  _ _ _ _ h hw).trans ((am_upn (am_nw_f hw 0 rfl)).trans rfl)
theorem frJ_Swings_take_L10 {o1 : Nat} {o2 : Nat} {a j : Nat}  : ∀ (n : Nat) (x2 : Int) (J : am_J) (r : am_J), f_Swings_take_L10 o1 o2  n x2 J = some r → am_nw [(o1, some 1), ((o1 + 1), none)] a j = true → r a j = J a j := by
  intro n
  induction n with
  | zero =>
    intro x2 J r h hw
    cases h
  | succ n ih =>
    intro x2 J r h hw
    rw [f_Swings_take_L10.eq_2] at h
    obtain ⟨-, h⟩ := am_if_some h
    obtain ⟨-, h⟩ := am_if_some h
    rcases am_ite h with ⟨c2687, h⟩ | ⟨c2687, h⟩
    · skip
      obtain ⟨-, h⟩ := am_if_some h
      exact (ih _ _ _ h hw).trans ((am_upn (am_nw_a hw 1 rfl)).trans rfl)
    · skip
      obtain rfl := Option.some.inj h
      exact rfl
theorem frJ_Swings_take {o1 : Nat} {o2 : Nat} {J : am_J} {r : am_J} {a j : Nat} (h : f_Swings_take o1 o2 J = some r) (hw : am_nw [(o1, some 1), ((o1 + 1), none)] a j = true) : r a j = J a j := by
  unfold f_Swings_take at h
  exact (frJ_Swings_take_L10  _ _ _ _ h hw).trans ((am_upn (am_nw_f hw 0 rfl)).trans rfl)
theorem frJ_Voyage_take {o1 : Nat} {o2 : Nat} {J : am_J} {r : am_J} {a j : Nat} (h : f_Voyage_take o1 o2 J = some r) (hw : am_nw [((o1 + 1), some 0), ((o1 + 1), some 1), ((o1 + 1), some 2), ((o1 + 1), some 3), ((o1 + 1), some 4), ((o1 + 1), some 5), ((o1 + 2), some 2), ((o1 + 3), none), ((o1 + 4), none), ((o1 + 5), some 1), ((o1 + 6), none)] a j = true) : r a j = J a j := by
  unfold f_Voyage_take at h
  obtain ⟨q2688, e2689, h⟩ := am_bind_some h
  obtain ⟨q2690, e2691, h⟩ := am_bind_some h
  obtain ⟨q2692, e2693, h⟩ := am_bind_some h
  obtain rfl := Option.some.inj h
  exact ((frJ_Swings_take e2693 (am_nw_pick hw [9, 10] rfl)).trans ((frJ_Log_take e2691 (am_nw_pick hw [6, 7, 8] rfl)).trans ((frJ_Boat_take e2689 (am_nw_pick hw [0, 1, 2, 3, 4, 5] rfl)).trans rfl)))
theorem frJ_UpRiver_keep  {x1 : Int} {J : am_J} {r : Int × am_J} {a j : Nat} (h : f_UpRiver_keep  x1 J = some r) (hw : am_nw [(43, some 3), (44, some 0), (44, some 1), (44, some 2), (44, some 3), (44, some 4), (44, some 5), (45, some 2), (46, none), (47, none), (48, some 1), (49, none), (50, some 3), (51, some 0), (51, some 1), (51, some 2), (51, some 3), (51, some 4), (51, some 5), (52, some 2), (53, none), (54, none), (55, some 1), (56, none)] a j = true) : r.2 a j = J a j := by
  unfold f_UpRiver_keep at h
  obtain ⟨-, h⟩ := am_if_some h
  rcases am_ite h with ⟨c2694, h⟩ | ⟨c2694, h⟩
  · skip
    obtain rfl := Option.some.inj h
    exact rfl
  · skip
    rcases am_ite h with ⟨c2695, h⟩ | ⟨c2695, h⟩
    · skip
      rcases am_ite h with ⟨c2696, h⟩ | ⟨c2696, h⟩
      · skip
        obtain ⟨q2697, e2698, h⟩ := am_bind_some h
        obtain ⟨q2699, e2700, h⟩ := am_bind_some h
        obtain rfl := Option.some.inj h
        exact ((am_upn (am_nw_f hw 0 rfl)).trans ((frJ_Voyage_take e2700 (am_nw_pick hw [1, 2, 3, 4, 5, 6, 7, 8, 9, 10, 11] rfl)).trans rfl))
      · skip
        rcases am_ite h with ⟨c2701, h⟩ | ⟨c2701, h⟩
        · skip
          obtain ⟨q2702, e2703, h⟩ := am_bind_some h
          obtain ⟨q2704, e2705, h⟩ := am_bind_some h
          obtain rfl := Option.some.inj h
          exact ((am_upn (am_nw_f hw 12 rfl)).trans ((frJ_Voyage_take e2705 (am_nw_pick hw [13, 14, 15, 16, 17, 18, 19, 20, 21, 22, 23] rfl)).trans rfl))
        · skip
          cases h
    · skip
      obtain rfl := Option.some.inj h
      exact rfl
theorem frJ_UpRiver_back  {x1 : Int} {J : am_J} {r : Int × am_J} {a j : Nat} (h : f_UpRiver_back  x1 J = some r) (hw : am_nw [(18, some 0), (18, some 1), (18, some 2), (18, some 3), (18, some 4), (18, some 5), (19, some 2), (20, none), (21, none), (22, some 1), (23, none)] a j = true) : r.2 a j = J a j := by
  unfold f_UpRiver_back at h
  obtain ⟨-, h⟩ := am_if_some h
  rcases am_ite h with ⟨c2706, h⟩ | ⟨c2706, h⟩
  · skip
    obtain rfl := Option.some.inj h
    exact rfl
  · skip
    rcases am_ite h with ⟨c2707, h⟩ | ⟨c2707, h⟩
    · skip
      rcases am_ite h with ⟨c2708, h⟩ | ⟨c2708, h⟩
      · skip
        obtain ⟨-, h⟩ := am_if_some h
        rcases am_ite h with ⟨c2709, h⟩ | ⟨c2709, h⟩
        · skip
          obtain rfl := Option.some.inj h
          exact rfl
        · skip
          obtain ⟨q2710, e2711, h⟩ := am_bind_some h
          obtain rfl := Option.some.inj h
          exact ((frJ_Voyage_take e2711 (am_nw_pick hw [0, 1, 2, 3, 4, 5, 6, 7, 8, 9, 10] rfl)).trans rfl)
      · skip
        rcases am_ite h with ⟨c2712, h⟩ | ⟨c2712, h⟩
        · skip
          obtain ⟨-, h⟩ := am_if_some h
          rcases am_ite h with ⟨c2713, h⟩ | ⟨c2713, h⟩
          · skip
            obtain rfl := Option.some.inj h
            exact rfl
          · skip
            obtain ⟨q2714, e2715, h⟩ := am_bind_some h
            obtain rfl := Option.some.inj h
            exact ((frJ_Voyage_take e2715 (am_nw_pick hw [0, 1, 2, 3, 4, 5, 6, 7, 8, 9, 10] rfl)).trans rfl)
        · skip
          cases h
    · skip
      obtain rfl := Option.some.inj h
      exact rfl
theorem frJ_Sheet_renew_L12 {o1 : Nat} {a j : Nat}  : ∀ (n : Nat) (x3 : Int) (J : am_J) (r : am_J), f_Sheet_renew_L12 o1  n x3 J = some r → am_nw [(o1, some 1), (o1, some 2), ((o1 + 1), none)] a j = true → r a j = J a j := by
  intro n
  induction n with
  | zero =>
    intro x3 J r h hw
    cases h
  | succ n ih =>
    intro x3 J r h hw
    rw [f_Sheet_renew_L12.eq_2] at h
    obtain ⟨-, h⟩ := am_if_some h
    rcases am_ite h with ⟨c2716, h⟩ | ⟨c2716, h⟩
    · skip
      obtain ⟨-, h⟩ := am_if_some h
      exact (ih _ _ _ h hw).trans ((am_upn (am_nw_a hw 2 rfl)).trans rfl)
    · skip
      obtain rfl := Option.some.inj h
      exact rfl
theorem frJ_Sheet_renew {o1 : Nat} {x1 : Int} {x2 : Int} {J : am_J} {r : am_J} {a j : Nat} (h : f_Sheet_renew o1 x1 x2 J = some r) (hw : am_nw [(o1, some 1), (o1, some 2), ((o1 + 1), none)] a j = true) : r a j = J a j := by
  unfold f_Sheet_renew at h
  exact (frJ_Sheet_renew_L12  _ _ _ _ h hw).trans ((am_upn (am_nw_f hw 1 rfl)).trans ((am_upn (am_nw_f hw 0 rfl)).trans rfl))
theorem frJ_UpRiver_sheet  {x1 : Int} {x2 : Int} {x3 : Int} {J : am_J} {r : Int × am_J} {a j : Nat} (h : f_UpRiver_sheet  x1 x2 x3 J = some r) (hw : am_nw [(57, some 1), (57, some 2), (58, none), (59, some 1), (59, some 2), (60, none), (61, some 1), (61, some 2), (62, none), (63, some 1), (63, some 2), (64, none)] a j = true) : r.2 a j = J a j := by
  unfold f_UpRiver_sheet at h
  obtain ⟨q2717, e2718, h⟩ := am_bind_some h
  obtain ⟨-, h⟩ := am_if_some h
  rcases am_ite h with ⟨c2719, h⟩ | ⟨c2719, h⟩
  · skip
    obtain rfl := Option.some.inj h
    exact rfl
  · skip
    obtain ⟨q2720, e2721, h⟩ := am_bind_some h
    obtain ⟨-, h⟩ := am_if_some h
    rcases am_ite h with ⟨c2722, h⟩ | ⟨c2722, h⟩
    · skip
      obtain rfl := Option.some.inj h
      exact rfl
    · skip
      obtain ⟨-, h⟩ := am_if_some h
      rcases am_ite h with ⟨c2723, h⟩ | ⟨c2723, h⟩
      · skip
        obtain rfl := Option.some.inj h
        exact rfl
      · skip
        rcases am_ite h with ⟨c2724, h⟩ | ⟨c2724, h⟩
        · skip
          obtain rfl := Option.some.inj h
          exact rfl
        · skip
          rcases am_ite h with ⟨c2725, h⟩ | ⟨c2725, h⟩
          · skip
            obtain ⟨q2726, e2727, h⟩ := am_bind_some h
            obtain rfl := Option.some.inj h
            exact ((frJ_Sheet_renew e2727 (am_nw_pick hw [0, 1, 2] rfl)).trans rfl)
          · skip
            rcases am_ite h with ⟨c2728, h⟩ | ⟨c2728, h⟩
            · skip
              obtain ⟨q2729, e2730, h⟩ := am_bind_some h
              obtain rfl := Option.some.inj h
              exact ((frJ_Sheet_renew e2730 (am_nw_pick hw [3, 4, 5] rfl)).trans rfl)
            · skip
              rcases am_ite h with ⟨c2731, h⟩ | ⟨c2731, h⟩
              · skip
                obtain ⟨q2732, e2733, h⟩ := am_bind_some h
                obtain rfl := Option.some.inj h
                exact ((frJ_Sheet_renew e2733 (am_nw_pick hw [6, 7, 8] rfl)).trans rfl)
              · skip
                rcases am_ite h with ⟨c2734, h⟩ | ⟨c2734, h⟩
                · skip
                  obtain ⟨q2735, e2736, h⟩ := am_bind_some h
                  obtain rfl := Option.some.inj h
                  exact ((frJ_Sheet_renew e2736 (am_nw_pick hw [9, 10, 11] rfl)).trans rfl)
                · skip
                  cases h
theorem frJ_Sheet_put {o1 : Nat} {x1 : Int} {x2 : Int} {J : am_J} {r : Int × am_J} {a j : Nat} (h : f_Sheet_put o1 x1 x2 J = some r) (hw : am_nw [((o1 + 1), none)] a j = true) : r.2 a j = J a j := by
  unfold f_Sheet_put at h
  obtain ⟨q2737, e2738, h⟩ := am_bind_some h
  obtain ⟨-, h⟩ := am_if_some h
  rcases am_ite h with ⟨c2739, h⟩ | ⟨c2739, h⟩
  · skip
    obtain rfl := Option.some.inj h
    exact rfl
  · skip
    obtain ⟨-, h⟩ := am_if_some h
    rcases am_ite h with ⟨c2740, h⟩ | ⟨c2740, h⟩
    · skip
      obtain ⟨-, h⟩ := am_if_some h
      obtain rfl := Option.some.inj h
      exact ((am_upn (am_nw_a hw 0 rfl)).trans rfl)
    · skip
      rcases am_ite h with ⟨c2741, h⟩ | ⟨c2741, h⟩
      · skip
        obtain ⟨-, h⟩ := am_if_some h
        obtain rfl := Option.some.inj h
        exact ((am_upn (am_nw_a hw 0 rfl)).trans rfl)
      · skip
        obtain ⟨-, h⟩ := am_if_some h
        obtain rfl := Option.some.inj h
        exact ((am_upn (am_nw_a hw 0 rfl)).trans rfl)
theorem frJ_UpRiver_lay  {x1 : Int} {x2 : Int} {x3 : Int} {J : am_J} {r : Int × am_J} {a j : Nat} (h : f_UpRiver_lay  x1 x2 x3 J = some r) (hw : am_nw [(58, none), (60, none), (62, none), (64, none)] a j = true) : r.2 a j = J a j := by
  unfold f_UpRiver_lay at h
  obtain ⟨q2742, e2743, h⟩ := am_bind_some h
  obtain ⟨-, h⟩ := am_if_some h
  rcases am_ite h with ⟨c2744, h⟩ | ⟨c2744, h⟩
  · skip
    obtain rfl := Option.some.inj h
    exact rfl
  · skip
    rcases am_ite h with ⟨c2745, h⟩ | ⟨c2745, h⟩
    · skip
      obtain ⟨-, h⟩ := am_if_some h
      rcases am_ite h with ⟨c2746, h⟩ | ⟨c2746, h⟩
      · skip
        obtain rfl := Option.some.inj h
        exact rfl
      · skip
        obtain ⟨q2747, e2748, h⟩ := am_bind_some h
        obtain ⟨-, h⟩ := am_if_some h
        rcases am_ite h with ⟨c2749, h⟩ | ⟨c2749, h⟩
        · skip
          obtain rfl := Option.some.inj h
          exact ((frJ_Sheet_put e2748 (am_nw_pick hw [0] rfl)).trans rfl)
        · skip
          obtain rfl := Option.some.inj h
          exact ((frJ_Sheet_put e2748 (am_nw_pick hw [0] rfl)).trans rfl)
    · skip
      rcases am_ite h with ⟨c2750, h⟩ | ⟨c2750, h⟩
      · skip
        obtain ⟨-, h⟩ := am_if_some h
        rcases am_ite h with ⟨c2751, h⟩ | ⟨c2751, h⟩
        · skip
          obtain rfl := Option.some.inj h
          exact rfl
        · skip
          obtain ⟨q2752, e2753, h⟩ := am_bind_some h
          obtain ⟨-, h⟩ := am_if_some h
          rcases am_ite h with ⟨c2754, h⟩ | ⟨c2754, h⟩
          · skip
            obtain rfl := Option.some.inj h
            exact ((frJ_Sheet_put e2753 (am_nw_pick hw [1] rfl)).trans rfl)
          · skip
            obtain rfl := Option.some.inj h
            exact ((frJ_Sheet_put e2753 (am_nw_pick hw [1] rfl)).trans rfl)
      · skip
        rcases am_ite h with ⟨c2755, h⟩ | ⟨c2755, h⟩
        · skip
          obtain ⟨-, h⟩ := am_if_some h
          rcases am_ite h with ⟨c2756, h⟩ | ⟨c2756, h⟩
          · skip
            obtain rfl := Option.some.inj h
            exact rfl
          · skip
            obtain ⟨q2757, e2758, h⟩ := am_bind_some h
            obtain ⟨-, h⟩ := am_if_some h
            rcases am_ite h with ⟨c2759, h⟩ | ⟨c2759, h⟩
            · skip
              obtain rfl := Option.some.inj h
              exact ((frJ_Sheet_put e2758 (am_nw_pick hw [2] rfl)).trans rfl)
            · skip
              obtain rfl := Option.some.inj h
              exact ((frJ_Sheet_put e2758 (am_nw_pick hw [2] rfl)).trans rfl)
        · skip
          rcases am_ite h with ⟨c2760, h⟩ | ⟨c2760, h⟩
          · skip
            obtain ⟨-, h⟩ := am_if_some h
            rcases am_ite h with ⟨c2761, h⟩ | ⟨c2761, h⟩
            · skip
              obtain rfl := Option.some.inj h
              exact rfl
            · skip
              obtain ⟨q2762, e2763, h⟩ := am_bind_some h
              obtain ⟨-, h⟩ := am_if_some h
              rcases am_ite h with ⟨c2764, h⟩ | ⟨c2764, h⟩
              · skip
                obtain rfl := Option.some.inj h
                exact ((frJ_Sheet_put e2763 (am_nw_pick hw [3] rfl)).trans rfl)
              · skip
                obtain rfl := Option.some.inj h
                exact ((frJ_Sheet_put e2763 (am_nw_pick hw [3] rfl)).trans rfl)
          · skip
            cases h
theorem frJ_UpRiver_read_L67 {b : Bool} {a j : Nat}  : ∀ (n : Nat) (x1 : Int) (x3 : Int) (x4 : Int) (x5 : Int) (x6 : Int) (x7 : Int) (x8 : Int) (J : am_J) (r : Int × am_J), f_UpRiver_read_L67 b  n x1 x3 x4 x5 x6 x7 x8 J = some r → am_nw [(0, some 9), (19, some 2), (20, none), (21, none)] a j = true → r.2 a j = J a j := by
  intro n
  induction n with
  | zero =>
    intro x1 x3 x4 x5 x6 x7 x8 J r h hw
    cases h
  | succ n ih =>
    intro x1 x3 x4 x5 x6 x7 x8 J r h hw
    rw [f_UpRiver_read_L67.eq_2] at h
    obtain ⟨-, h⟩ := am_if_some h
    obtain ⟨-, h⟩ := am_if_some h
    rcases am_ite h with ⟨c2765, h⟩ | ⟨c2765, h⟩
    · skip
      obtain ⟨-, h⟩ := am_if_some h
      rcases am_ite h with ⟨c2766, h⟩ | ⟨c2766, h⟩
      · skip
        rcases am_ite h with ⟨c2767, h⟩ | ⟨c2767, h⟩
        · skip
          obtain ⟨q2768, e2769, h⟩ := am_bind_some h
          obtain ⟨-, h⟩ := am_if_some h
          rcases am_ite h with ⟨c2770, h⟩ | ⟨c2770, h⟩
          · skip
            exact (ih _ _ _ _ _ _ _ _ _ h hw).trans rfl
          · skip
            obtain ⟨q2771, e2772, h⟩ := am_bind_some h
            obtain ⟨-, h⟩ := am_if_some h
            rcases am_ite h with ⟨c2773, h⟩ | ⟨c2773, h⟩
            · skip
              exact (ih _ _ _ _ _ _ _ _ _ h hw).trans rfl
            · skip
              obtain ⟨q2774, e2775, h⟩ := am_bind_some h
              obtain ⟨q2776, e2777, h⟩ := am_bind_some h
              obtain ⟨q2778, e2779, h⟩ := am_bind_some h
              obtain ⟨-, h⟩ := am_if_some h
              rcases am_ite h with ⟨c2780, h⟩ | ⟨c2780, h⟩
              · skip
                obtain rfl := Option.some.inj h
                exact ((am_upn (am_nw_f hw 1 rfl)).trans ((frJ_UpRiver_logged e2779 (am_nw_pick hw [1, 2, 3] rfl)).trans rfl))
              · skip
                exact (ih _ _ _ _ _ _ _ _ _ h hw).trans ((frJ_UpRiver_logged e2779 (am_nw_pick hw [1, 2, 3] rfl)).trans rfl)
        · skip
          rcases am_ite h with ⟨c2781, h⟩ | ⟨c2781, h⟩
          · skip
            obtain ⟨q2782, e2783, h⟩ := am_bind_some h
            obtain ⟨-, h⟩ := am_if_some h
            rcases am_ite h with ⟨c2784, h⟩ | ⟨c2784, h⟩
            · skip
              exact (ih _ _ _ _ _ _ _ _ _ h hw).trans rfl
            · skip
              obtain ⟨q2785, e2786, h⟩ := am_bind_some h
              obtain ⟨-, h⟩ := am_if_some h
              rcases am_ite h with ⟨c2787, h⟩ | ⟨c2787, h⟩
              · skip
                exact (ih _ _ _ _ _ _ _ _ _ h hw).trans rfl
              · skip
                obtain ⟨q2788, e2789, h⟩ := am_bind_some h
                obtain ⟨q2790, e2791, h⟩ := am_bind_some h
                obtain ⟨q2792, e2793, h⟩ := am_bind_some h
                obtain ⟨-, h⟩ := am_if_some h
                rcases am_ite h with ⟨c2794, h⟩ | ⟨c2794, h⟩
                · skip
                  obtain rfl := Option.some.inj h
                  exact ((am_upn (am_nw_f hw 1 rfl)).trans ((frJ_UpRiver_logged e2793 (am_nw_pick hw [1, 2, 3] rfl)).trans rfl))
                · skip
                  exact (ih _ _ _ _ _ _ _ _ _ h hw).trans ((frJ_UpRiver_logged e2793 (am_nw_pick hw [1, 2, 3] rfl)).trans rfl)
          · skip
            rcases am_ite h with ⟨c2795, h⟩ | ⟨c2795, h⟩
            · skip
              obtain ⟨q2796, e2797, h⟩ := am_bind_some h
              obtain ⟨-, h⟩ := am_if_some h
              rcases am_ite h with ⟨c2798, h⟩ | ⟨c2798, h⟩
              · skip
                exact (ih _ _ _ _ _ _ _ _ _ h hw).trans rfl
              · skip
                obtain ⟨q2799, e2800, h⟩ := am_bind_some h
                obtain ⟨-, h⟩ := am_if_some h
                rcases am_ite h with ⟨c2801, h⟩ | ⟨c2801, h⟩
                · skip
                  exact (ih _ _ _ _ _ _ _ _ _ h hw).trans rfl
                · skip
                  obtain ⟨q2802, e2803, h⟩ := am_bind_some h
                  obtain ⟨q2804, e2805, h⟩ := am_bind_some h
                  obtain ⟨q2806, e2807, h⟩ := am_bind_some h
                  obtain ⟨-, h⟩ := am_if_some h
                  rcases am_ite h with ⟨c2808, h⟩ | ⟨c2808, h⟩
                  · skip
                    obtain rfl := Option.some.inj h
                    exact ((am_upn (am_nw_f hw 1 rfl)).trans ((frJ_UpRiver_logged e2807 (am_nw_pick hw [1, 2, 3] rfl)).trans rfl))
                  · skip
                    exact (ih _ _ _ _ _ _ _ _ _ h hw).trans ((frJ_UpRiver_logged e2807 (am_nw_pick hw [1, 2, 3] rfl)).trans rfl)
            · skip
              rcases am_ite h with ⟨c2809, h⟩ | ⟨c2809, h⟩
              · skip
                obtain ⟨q2810, e2811, h⟩ := am_bind_some h
                obtain ⟨-, h⟩ := am_if_some h
                rcases am_ite h with ⟨c2812, h⟩ | ⟨c2812, h⟩
                · skip
                  exact (ih _ _ _ _ _ _ _ _ _ h hw).trans rfl
                · skip
                  obtain ⟨q2813, e2814, h⟩ := am_bind_some h
                  obtain ⟨-, h⟩ := am_if_some h
                  rcases am_ite h with ⟨c2815, h⟩ | ⟨c2815, h⟩
                  · skip
                    exact (ih _ _ _ _ _ _ _ _ _ h hw).trans rfl
                  · skip
                    obtain ⟨q2816, e2817, h⟩ := am_bind_some h
                    obtain ⟨q2818, e2819, h⟩ := am_bind_some h
                    obtain ⟨q2820, e2821, h⟩ := am_bind_some h
                    obtain ⟨-, h⟩ := am_if_some h
                    rcases am_ite h with ⟨c2822, h⟩ | ⟨c2822, h⟩
                    · skip
                      obtain rfl := Option.some.inj h
                      exact ((am_upn (am_nw_f hw 1 rfl)).trans ((frJ_UpRiver_logged e2821 (am_nw_pick hw [1, 2, 3] rfl)).trans rfl))
                    · skip
                      exact (ih _ _ _ _ _ _ _ _ _ h hw).trans ((frJ_UpRiver_logged e2821 (am_nw_pick hw [1, 2, 3] rfl)).trans rfl)
              · skip
                cases h
      · skip
        obtain rfl := Option.some.inj h
        exact ((am_upn (am_nw_f hw 0 rfl)).trans rfl)
    · skip
      obtain rfl := Option.some.inj h
      exact ((am_upn (am_nw_f hw 0 rfl)).trans rfl)
theorem frJ_UpRiver_read_L47 {b : Bool} {a j : Nat}  : ∀ (x1 : Int) (x3 : Int) (x4 : Int) (s0 : Int) (J : am_J) (r : Int × am_J), f_UpRiver_read_L47 b   x1 x3 x4 s0 J = some r → am_nw [(0, some 9), (19, some 2), (20, none), (21, none)] a j = true → r.2 a j = J a j := by
  intro x1 x3 x4 s0 J r h hw
  unfold f_UpRiver_read_L47 at h
  exact (frJ_UpRiver_read_L67  _ _ _ _ _ _ _ _ _ _ h hw).trans rfl
theorem frJ_UpRiver_read {b : Bool} {x1 : Int} {x2 : Int} {x3 : Int} {x4 : Int} {J : am_J} {r : Int × am_J} {a j : Nat} (h : f_UpRiver_read b x1 x2 x3 x4 J = some r) (hw : am_nw [(0, some 9), (19, some 2), (20, none), (21, none)] a j = true) : r.2 a j = J a j := by
  unfold f_UpRiver_read at h
  obtain ⟨q2823, e2824, h⟩ := am_bind_some h
  obtain ⟨-, h⟩ := am_if_some h
  rcases am_ite h with ⟨c2825, h⟩ | ⟨c2825, h⟩
  · skip
    obtain rfl := Option.some.inj h
    exact rfl
  · skip
    obtain ⟨q2826, e2827, h⟩ := am_bind_some h
    obtain ⟨-, h⟩ := am_if_some h
    rcases am_ite h with ⟨c2828, h⟩ | ⟨c2828, h⟩
    · skip
      obtain rfl := Option.some.inj h
      exact rfl
    · skip
      obtain ⟨-, h⟩ := am_if_some h
      rcases am_ite h with ⟨c2829, h⟩ | ⟨c2829, h⟩
      · skip
        obtain rfl := Option.some.inj h
        exact rfl
      · skip
        rcases am_ite h with ⟨c2830, h⟩ | ⟨c2830, h⟩
        · skip
          obtain rfl := Option.some.inj h
          exact rfl
        · skip
          rcases am_ite h with ⟨c2831, h⟩ | ⟨c2831, h⟩
          · skip
            exact (frJ_UpRiver_read_L47  _ _ _ _ _ _ h hw).trans rfl
          · skip
            rcases am_ite h with ⟨c2832, h⟩ | ⟨c2832, h⟩
            · skip
              obtain ⟨q2833, e2834, h⟩ := am_bind_some h
              exact (frJ_UpRiver_read_L47  _ _ _ _ _ _ h hw).trans rfl
            · skip
              rcases am_ite h with ⟨c2835, h⟩ | ⟨c2835, h⟩
              · skip
                obtain ⟨q2836, e2837, h⟩ := am_bind_some h
                exact (frJ_UpRiver_read_L47  _ _ _ _ _ _ h hw).trans rfl
              · skip
                rcases am_ite h with ⟨c2838, h⟩ | ⟨c2838, h⟩
                · skip
                  obtain ⟨q2839, e2840, h⟩ := am_bind_some h
                  exact (frJ_UpRiver_read_L47  _ _ _ _ _ _ h hw).trans rfl
                · skip
                  rcases am_ite h with ⟨c2841, h⟩ | ⟨c2841, h⟩
                  · skip
                    obtain ⟨q2842, e2843, h⟩ := am_bind_some h
                    exact (frJ_UpRiver_read_L47  _ _ _ _ _ _ h hw).trans rfl
                  · skip
                    cases h
theorem frJ_UpRiverModel_firstDraft_L99  {a j : Nat}  : ∀ (n : Nat) (x1 : Int) (J : am_J) (r : am_J), f_UpRiverModel_firstDraft_L99   n x1 J = some r → am_nw [(65, some 5), (65, some 6), (67, none), (70, none)] a j = true → r a j = J a j := by
  intro n
  induction n with
  | zero =>
    intro x1 J r h hw
    cases h
  | succ n ih =>
    intro x1 J r h hw
    rw [f_UpRiverModel_firstDraft_L99.eq_2] at h
    obtain ⟨-, h⟩ := am_if_some h
    rcases am_ite h with ⟨c2844, h⟩ | ⟨c2844, h⟩
    · skip
      obtain ⟨-, h⟩ := am_if_some h
      exact (ih _ _ _ h hw).trans ((am_upn (am_nw_a hw 3 rfl)).trans rfl)
    · skip
      obtain rfl := Option.some.inj h
      exact ((am_upn (am_nw_f hw 1 rfl)).trans ((am_upn (am_nw_f hw 0 rfl)).trans ((am_upn (am_nw_a hw 2 rfl)).trans ((am_upn (am_nw_a hw 2 rfl)).trans ((am_upn (am_nw_a hw 2 rfl)).trans ((am_upn (am_nw_a hw 2 rfl)).trans ((am_upn (am_nw_a hw 2 rfl)).trans ((am_upn (am_nw_a hw 2 rfl)).trans ((am_upn (am_nw_a hw 2 rfl)).trans rfl)))))))))
theorem frJ_UpRiverModel_firstDraft_L2  {a j : Nat}  : ∀ (n : Nat) (x1 : Int) (J : am_J) (r : am_J), f_UpRiverModel_firstDraft_L2   n x1 J = some r → am_nw [(65, some 5), (65, some 6), (67, none), (70, none)] a j = true → r a j = J a j := by
  intro n
  induction n with
  | zero =>
    intro x1 J r h hw
    cases h
  | succ n ih =>
    intro x1 J r h hw
    rw [f_UpRiverModel_firstDraft_L2.eq_2] at h
    obtain ⟨-, h⟩ := am_if_some h
    rcases am_ite h with ⟨c2845, h⟩ | ⟨c2845, h⟩
    · skip
      obtain ⟨q2846, e2847, h⟩ := am_bind_some h
      obtain ⟨-, h⟩ := am_if_some h
      rcases am_ite h with ⟨c2848, h⟩ | ⟨c2848, h⟩
      · skip
        obtain ⟨q2849, e2850, h⟩ := am_bind_some h
        obtain ⟨-, h⟩ := am_if_some h
        rcases am_ite h with ⟨c2851, h⟩ | ⟨c2851, h⟩
        · skip
          obtain ⟨q2852, e2853, h⟩ := am_bind_some h
          obtain ⟨-, h⟩ := am_if_some h
          rcases am_ite h with ⟨c2854, h⟩ | ⟨c2854, h⟩
          · skip
            obtain ⟨q2855, e2856, h⟩ := am_bind_some h
            obtain ⟨-, h⟩ := am_if_some h
            rcases am_ite h with ⟨c2857, h⟩ | ⟨c2857, h⟩
            · skip
              obtain ⟨-, h⟩ := am_if_some h
              exact (ih _ _ _ h hw).trans ((am_upn (am_nw_a hw 2 rfl)).trans rfl)
            · skip
              obtain ⟨-, h⟩ := am_if_some h
              exact (ih _ _ _ h hw).trans ((am_upn (am_nw_a hw 2 rfl)).trans rfl)
          · skip
            obtain ⟨-, h⟩ := am_if_some h
            exact (ih _ _ _ h hw).trans ((am_upn (am_nw_a hw 2 rfl)).trans rfl)
        · skip
          obtain ⟨-, h⟩ := am_if_some h
          exact (ih _ _ _ h hw).trans ((am_upn (am_nw_a hw 2 rfl)).trans rfl)
      · skip
        obtain ⟨-, h⟩ := am_if_some h
        exact (ih _ _ _ h hw).trans ((am_upn (am_nw_a hw 2 rfl)).trans rfl)
    · skip
      exact (frJ_UpRiverModel_firstDraft_L99  _ _ _ _ h hw).trans rfl
theorem frJ_UpRiverModel_firstDraft  {J : am_J} {r : am_J} {a j : Nat} (h : f_UpRiverModel_firstDraft  J = some r) (hw : am_nw [(65, some 5), (65, some 6), (67, none), (70, none)] a j = true) : r a j = J a j := by
  unfold f_UpRiverModel_firstDraft at h
  exact (frJ_UpRiverModel_firstDraft_L2  _ _ _ _ h hw).trans rfl
theorem frJ_UpRiverModel_keepDraft_L29  {a j : Nat}  : ∀ (n : Nat) (x1 : Int) (J : am_J) (r : am_J), f_UpRiverModel_keepDraft_L29   n x1 J = some r → am_nw [(66, none), (68, none), (69, none)] a j = true → r a j = J a j := by
  intro n
  induction n with
  | zero =>
    intro x1 J r h hw
    cases h
  | succ n ih =>
    intro x1 J r h hw
    rw [f_UpRiverModel_keepDraft_L29.eq_2] at h
    obtain ⟨-, h⟩ := am_if_some h
    rcases am_ite h with ⟨c2858, h⟩ | ⟨c2858, h⟩
    · skip
      obtain ⟨-, h⟩ := am_if_some h
      exact (ih _ _ _ h hw).trans ((am_upn (am_nw_a hw 1 rfl)).trans rfl)
    · skip
      obtain rfl := Option.some.inj h
      exact ((am_upn (am_nw_a hw 2 rfl)).trans ((am_upn (am_nw_a hw 2 rfl)).trans ((am_upn (am_nw_a hw 1 rfl)).trans rfl)))
theorem frJ_UpRiverModel_keepDraft_L2  {a j : Nat}  : ∀ (n : Nat) (x1 : Int) (J : am_J) (r : am_J), f_UpRiverModel_keepDraft_L2   n x1 J = some r → am_nw [(66, none), (68, none), (69, none)] a j = true → r a j = J a j := by
  intro n
  induction n with
  | zero =>
    intro x1 J r h hw
    cases h
  | succ n ih =>
    intro x1 J r h hw
    rw [f_UpRiverModel_keepDraft_L2.eq_2] at h
    obtain ⟨-, h⟩ := am_if_some h
    rcases am_ite h with ⟨c2859, h⟩ | ⟨c2859, h⟩
    · skip
      obtain ⟨-, h⟩ := am_if_some h
      exact (ih _ _ _ h hw).trans ((am_upn (am_nw_a hw 0 rfl)).trans rfl)
    · skip
      exact (frJ_UpRiverModel_keepDraft_L29  _ _ _ _ h hw).trans rfl
theorem frJ_UpRiverModel_keepDraft  {J : am_J} {r : am_J} {a j : Nat} (h : f_UpRiverModel_keepDraft  J = some r) (hw : am_nw [(66, none), (68, none), (69, none)] a j = true) : r a j = J a j := by
  unfold f_UpRiverModel_keepDraft at h
  exact (frJ_UpRiverModel_keepDraft_L2  _ _ _ _ h hw).trans rfl
theorem frJ_UpRiverModel_feed_L19  {a j : Nat}  : ∀ (n : Nat) (y1 : Int64) (x3 : Int) (J : am_J) (r : Int × am_J), f_UpRiverModel_feed_L19   n y1 x3 J = some r → am_nw [(65, some 8), (71, none)] a j = true → r.2 a j = J a j := by
  intro n
  induction n with
  | zero =>
    intro y1 x3 J r h hw
    cases h
  | succ n ih =>
    intro y1 x3 J r h hw
    rw [f_UpRiverModel_feed_L19.eq_2] at h
    obtain ⟨-, h⟩ := am_if_some h
    rcases am_ite h with ⟨c2860, h⟩ | ⟨c2860, h⟩
    · skip
      obtain rfl := Option.some.inj h
      exact rfl
    · skip
      obtain ⟨-, h⟩ := am_if_some h
      exact (ih _ _ _ _ h hw).trans ((am_upn (am_nw_f hw 0 rfl)).trans ((am_upn (am_nw_a hw 1 rfl)).trans rfl))
theorem frJ_UpRiverModel_feed  {y1 : Int64} {J : am_J} {r : Int × am_J} {a j : Nat} (h : f_UpRiverModel_feed  y1 J = some r) (hw : am_nw [(65, some 8), (71, none)] a j = true) : r.2 a j = J a j := by
  unfold f_UpRiverModel_feed at h
  obtain ⟨-, h⟩ := am_if_some h
  rcases am_ite h with ⟨c2861, h⟩ | ⟨c2861, h⟩
  · skip
    obtain rfl := Option.some.inj h
    exact rfl
  · skip
    exact (frJ_UpRiverModel_feed_L19  _ _ _ _ _ h hw).trans rfl
theorem frJ_UpRiverModel_end  {x1 : Int} {J : am_J} {r : Int × am_J} {a j : Nat} (h : f_UpRiverModel_end  x1 J = some r) (hw : am_nw [(65, some 8)] a j = true) : r.2 a j = J a j := by
  unfold f_UpRiverModel_end at h
  obtain ⟨q2862, e2863, h⟩ := am_bind_some h
  obtain ⟨-, h⟩ := am_if_some h
  rcases am_ite h with ⟨c2864, h⟩ | ⟨c2864, h⟩
  · skip
    obtain rfl := Option.some.inj h
    exact rfl
  · skip
    obtain rfl := Option.some.inj h
    exact ((am_upn (am_nw_f hw 0 rfl)).trans rfl)
theorem frJ_UpRiverModel_needs  {x1 : Int} {x2 : Int} {J : am_J} {r : am_J} {a j : Nat} (h : f_UpRiverModel_needs  x1 x2 J = some r) (hw : am_nw [(65, some 13), (65, some 14)] a j = true) : r a j = J a j := by
  unfold f_UpRiverModel_needs at h
  obtain ⟨-, h⟩ := am_if_some h
  rcases am_ite h with ⟨c2865, h⟩ | ⟨c2865, h⟩
  · skip
    obtain ⟨-, h⟩ := am_if_some h
    rcases am_ite h with ⟨c2866, h⟩ | ⟨c2866, h⟩
    · skip
      obtain rfl := Option.some.inj h
      exact ((am_upn (am_nw_f hw 1 rfl)).trans ((am_upn (am_nw_f hw 0 rfl)).trans rfl))
    · skip
      obtain rfl := Option.some.inj h
      exact rfl
  · skip
    obtain rfl := Option.some.inj h
    exact rfl
theorem frJ_UpRiverModel_next_L260  {a j : Nat}  : ∀ (s1 : Int) (J : am_J) (r : am_J), f_UpRiverModel_next_L260    s1 J = some r → am_nw [(65, some 9), (65, some 10), (65, some 11), (65, some 12), (65, some 13), (65, some 14)] a j = true → r a j = J a j := by
  intro s1 J r h hw
  unfold f_UpRiverModel_next_L260 at h
  obtain ⟨q2867, e2868, h⟩ := am_bind_some h
  obtain rfl := Option.some.inj h
  exact ((am_upn (am_nw_f hw 0 rfl)).trans ((frJ_UpRiverModel_needs e2868 (am_nw_pick hw [4, 5] rfl)).trans rfl))
theorem frJ_UpRiverModel_next_L236  {a j : Nat}  : ∀ (s1 : Int) (J : am_J) (r : am_J), f_UpRiverModel_next_L236    s1 J = some r → am_nw [(65, some 9), (65, some 10), (65, some 11), (65, some 12), (65, some 13), (65, some 14)] a j = true → r a j = J a j := by
  intro s1 J r h hw
  unfold f_UpRiverModel_next_L236 at h
  obtain ⟨q2869, e2870, h⟩ := am_bind_some h
  obtain rfl := Option.some.inj h
  exact ((frJ_UpRiverModel_needs e2870 (am_nw_pick hw [4, 5] rfl)).trans rfl)
theorem frJ_UpRiverModel_next_L140  {a j : Nat}  : ∀ (n : Nat) (J : am_J) (r : am_J), f_UpRiverModel_next_L140   n J = some r → am_nw [(65, some 9), (65, some 10), (65, some 11), (65, some 12), (65, some 13), (65, some 14)] a j = true → r a j = J a j := by
  intro n
  induction n with
  | zero =>
    intro J r h hw
    cases h
  | succ n ih =>
    intro J r h hw
    rw [f_UpRiverModel_next_L140.eq_2] at h
    obtain ⟨q2871, e2872, h⟩ := am_bind_some h
    obtain ⟨q2873, e2874, h⟩ := am_bind_some h
    obtain ⟨-, h⟩ := am_if_some h
    rcases am_ite h with ⟨c2875, h⟩ | ⟨c2875, h⟩
    · skip
      obtain ⟨-, h⟩ := am_if_some h
      rcases am_ite h with ⟨c2876, h⟩ | ⟨c2876, h⟩
      · skip
        exact (frJ_UpRiverModel_next_L236  _ _ _ h hw).trans rfl
      · skip
        exact (frJ_UpRiverModel_next_L236  _ _ _ h hw).trans rfl
    · skip
      obtain ⟨-, h⟩ := am_if_some h
      rcases am_ite h with ⟨c2877, h⟩ | ⟨c2877, h⟩
      · skip
        obtain ⟨q2878, e2879, h⟩ := am_bind_some h
        exact (ih _ _ h hw).trans ((am_upn (am_nw_f hw 0 rfl)).trans ((am_upn (am_nw_f hw 3 rfl)).trans rfl))
      · skip
        exact (ih _ _ h hw).trans ((am_upn (am_nw_f hw 0 rfl)).trans ((am_upn (am_nw_f hw 3 rfl)).trans rfl))
theorem frJ_UpRiverModel_next_L82  {a j : Nat}  : ∀ (n : Nat) (J : am_J) (r : am_J), f_UpRiverModel_next_L82   n J = some r → am_nw [(65, some 9), (65, some 10), (65, some 11), (65, some 12), (65, some 13), (65, some 14)] a j = true → r a j = J a j := by
  intro n
  induction n with
  | zero =>
    intro J r h hw
    cases h
  | succ n ih =>
    intro J r h hw
    rw [f_UpRiverModel_next_L82.eq_2] at h
    obtain ⟨q2880, e2881, h⟩ := am_bind_some h
    obtain ⟨q2882, e2883, h⟩ := am_bind_some h
    obtain ⟨-, h⟩ := am_if_some h
    rcases am_ite h with ⟨c2884, h⟩ | ⟨c2884, h⟩
    · skip
      obtain rfl := Option.some.inj h
      exact rfl
    · skip
      exact (ih _ _ h hw).trans ((am_upn (am_nw_f hw 0 rfl)).trans rfl)
theorem frJ_UpRiverModel_next_L8  {a j : Nat}  : ∀ (n : Nat) (J : am_J) (r : am_J), f_UpRiverModel_next_L8   n J = some r → am_nw [(65, some 9), (65, some 10), (65, some 11), (65, some 12), (65, some 13), (65, some 14)] a j = true → r a j = J a j := by
  intro n
  induction n with
  | zero =>
    intro J r h hw
    cases h
  | succ n ih =>
    intro J r h hw
    rw [f_UpRiverModel_next_L8.eq_2] at h
    obtain ⟨q2885, e2886, h⟩ := am_bind_some h
    obtain ⟨-, h⟩ := am_if_some h
    rcases am_ite h with ⟨c2887, h⟩ | ⟨c2887, h⟩
    · skip
      exact (ih _ _ h hw).trans ((am_upn (am_nw_f hw 0 rfl)).trans rfl)
    · skip
      obtain ⟨q2888, e2889, h⟩ := am_bind_some h
      obtain ⟨-, h⟩ := am_if_some h
      rcases am_ite h with ⟨c2890, h⟩ | ⟨c2890, h⟩
      · skip
        obtain rfl := Option.some.inj h
        exact ((am_upn (am_nw_f hw 2 rfl)).trans ((am_upn (am_nw_f hw 1 rfl)).trans rfl))
      · skip
        obtain ⟨q2891, e2892, h⟩ := am_bind_some h
        obtain ⟨-, h⟩ := am_if_some h
        rcases am_ite h with ⟨c2893, h⟩ | ⟨c2893, h⟩
        · skip
          obtain ⟨q2894, e2895, h⟩ := am_bind_some h
          obtain ⟨-, h⟩ := am_if_some h
          rcases am_ite h with ⟨c2896, h⟩ | ⟨c2896, h⟩
          · skip
            rcases am_ite h with ⟨c2897, h⟩ | ⟨c2897, h⟩
            · skip
              exact (frJ_UpRiverModel_next_L260  _ _ _ h hw).trans ((am_upn (am_nw_f hw 2 rfl)).trans ((am_upn (am_nw_f hw 1 rfl)).trans rfl))
            · skip
              exact (frJ_UpRiverModel_next_L260  _ _ _ h hw).trans ((am_upn (am_nw_f hw 2 rfl)).trans ((am_upn (am_nw_f hw 1 rfl)).trans rfl))
          · skip
            exact (frJ_UpRiverModel_next_L140  _ _ _ h hw).trans ((am_upn (am_nw_f hw 3 rfl)).trans ((am_upn (am_nw_f hw 2 rfl)).trans ((am_upn (am_nw_f hw 1 rfl)).trans rfl)))
        · skip
          exact (frJ_UpRiverModel_next_L82  _ _ _ h hw).trans ((am_upn (am_nw_f hw 2 rfl)).trans ((am_upn (am_nw_f hw 1 rfl)).trans rfl))
theorem frJ_UpRiverModel_next  {J : am_J} {r : am_J} {a j : Nat} (h : f_UpRiverModel_next  J = some r) (hw : am_nw [(65, some 9), (65, some 10), (65, some 11), (65, some 12), (65, some 13), (65, some 14)] a j = true) : r a j = J a j := by
  unfold f_UpRiverModel_next at h
  obtain ⟨-, h⟩ := am_if_some h
  rcases am_ite h with ⟨c2898, h⟩ | ⟨c2898, h⟩
  · skip
    obtain rfl := Option.some.inj h
    exact rfl
  · skip
    exact (frJ_UpRiverModel_next_L8  _ _ _ h hw).trans rfl
theorem frJ_UpRiverModel_isNumber_L25  {a j : Nat}  : ∀ (x1 : Int) (x2 : Int) (J : am_J) (r : am_J), f_UpRiverModel_isNumber_L25    x1 x2 J = some r → am_nw [(65, some 13), (65, some 14)] a j = true → r a j = J a j := by
  intro x1 x2 J r h hw
  unfold f_UpRiverModel_isNumber_L25 at h
  obtain ⟨-, h⟩ := am_if_some h
  rcases am_ite h with ⟨c2899, h⟩ | ⟨c2899, h⟩
  · skip
    obtain ⟨q2900, e2901, h⟩ := am_bind_some h
    obtain ⟨q2902, e2903, h⟩ := am_bind_some h
    obtain rfl := Option.some.inj h
    exact ((frJ_UpRiverModel_needs e2903 (am_nw_pick hw [0, 1] rfl)).trans rfl)
  · skip
    obtain rfl := Option.some.inj h
    exact rfl
theorem frJ_UpRiverModel_isNumber_L21  {a j : Nat}  : ∀ (x1 : Int) (x2 : Int) (s1 : Int) (J : am_J) (r : am_J), f_UpRiverModel_isNumber_L21    x1 x2 s1 J = some r → am_nw [(65, some 13), (65, some 14)] a j = true → r a j = J a j := by
  intro x1 x2 s1 J r h hw
  unfold f_UpRiverModel_isNumber_L21 at h
  obtain ⟨q2904, e2905, h⟩ := am_bind_some h
  exact (frJ_UpRiverModel_isNumber_L25  _ _ _ _ h hw).trans ((frJ_UpRiverModel_needs e2905 (am_nw_pick hw [0, 1] rfl)).trans rfl)
theorem frJ_UpRiverModel_isNumber  {x1 : Int} {x2 : Int} {J : am_J} {r : am_J} {a j : Nat} (h : f_UpRiverModel_isNumber  x1 x2 J = some r) (hw : am_nw [(65, some 13), (65, some 14)] a j = true) : r a j = J a j := by
  unfold f_UpRiverModel_isNumber at h
  obtain ⟨-, h⟩ := am_if_some h
  rcases am_ite h with ⟨c2906, h⟩ | ⟨c2906, h⟩
  · skip
    obtain ⟨-, h⟩ := am_if_some h
    rcases am_ite h with ⟨c2907, h⟩ | ⟨c2907, h⟩
    · skip
      exact (frJ_UpRiverModel_isNumber_L21  _ _ _ _ _ h hw).trans rfl
    · skip
      exact (frJ_UpRiverModel_isNumber_L21  _ _ _ _ _ h hw).trans rfl
  · skip
    exact (frJ_UpRiverModel_isNumber_L25  _ _ _ _ h hw).trans rfl
theorem frJ_UpRiverModel_readNumber  {x1 : Int} {x2 : Int} {J : am_J} {r : Int × am_J} {a j : Nat} (h : f_UpRiverModel_readNumber  x1 x2 J = some r) (hw : am_nw [(65, some 9), (65, some 10), (65, some 11), (65, some 12), (65, some 13), (65, some 14)] a j = true) : r.2 a j = J a j := by
  unfold f_UpRiverModel_readNumber at h
  obtain ⟨q2908, e2909, h⟩ := am_bind_some h
  obtain ⟨q2910, e2911, h⟩ := am_bind_some h
  obtain rfl := Option.some.inj h
  exact ((frJ_UpRiverModel_next e2911 (am_nw_pick hw [0, 1, 2, 3, 4, 5] rfl)).trans ((frJ_UpRiverModel_isNumber e2909 (am_nw_pick hw [4, 5] rfl)).trans rfl))
theorem frJ_UpRiverModel_once_L22  {a j : Nat}  : ∀ (x1 : Int) (s1 : Int) (J : am_J) (r : am_J), f_UpRiverModel_once_L22    x1 s1 J = some r → am_nw [(65, some 13), (65, some 14), (70, none)] a j = true → r a j = J a j := by
  intro x1 s1 J r h hw
  unfold f_UpRiverModel_once_L22 at h
  obtain ⟨q2912, e2913, h⟩ := am_bind_some h
  obtain ⟨-, h⟩ := am_if_some h
  obtain rfl := Option.some.inj h
  exact ((am_upn (am_nw_a hw 2 rfl)).trans ((frJ_UpRiverModel_needs e2913 (am_nw_pick hw [0, 1] rfl)).trans rfl))
theorem frJ_UpRiverModel_once  {x1 : Int} {J : am_J} {r : am_J} {a j : Nat} (h : f_UpRiverModel_once  x1 J = some r) (hw : am_nw [(65, some 13), (65, some 14), (70, none)] a j = true) : r a j = J a j := by
  unfold f_UpRiverModel_once at h
  obtain ⟨-, h⟩ := am_if_some h
  rcases am_ite h with ⟨c2914, h⟩ | ⟨c2914, h⟩
  · skip
    obtain ⟨-, h⟩ := am_if_some h
    obtain ⟨-, h⟩ := am_if_some h
    rcases am_ite h with ⟨c2915, h⟩ | ⟨c2915, h⟩
    · skip
      exact (frJ_UpRiverModel_once_L22  _ _ _ _ h hw).trans rfl
    · skip
      exact (frJ_UpRiverModel_once_L22  _ _ _ _ h hw).trans rfl
  · skip
    obtain rfl := Option.some.inj h
    exact rfl
theorem frJ_UpRiverModel_readReach_L54  {a j : Nat}  : ∀ (x3 : Int) (J : am_J) (r : Int × am_J), f_UpRiverModel_readReach_L54    x3 J = some r → am_nw [(65, some 6), (65, some 9), (65, some 10), (65, some 11), (65, some 12), (65, some 13), (65, some 14), (70, none)] a j = true → r.2 a j = J a j := by
  intro x3 J r h hw
  unfold f_UpRiverModel_readReach_L54 at h
  obtain ⟨q2916, e2917, h⟩ := am_bind_some h
  obtain rfl := Option.some.inj h
  exact ((frJ_UpRiverModel_next e2917 (am_nw_pick hw [1, 2, 3, 4, 5, 6] rfl)).trans rfl)
theorem frJ_UpRiverModel_readReach_L40  {a j : Nat}  : ∀ (x1 : Int) (x2 : Int) (x3 : Int) (s1 : Int) (J : am_J) (r : Int × am_J), f_UpRiverModel_readReach_L40    x1 x2 x3 s1 J = some r → am_nw [(65, some 6), (65, some 9), (65, some 10), (65, some 11), (65, some 12), (65, some 13), (65, some 14), (70, none)] a j = true → r.2 a j = J a j := by
  intro x1 x2 x3 s1 J r h hw
  unfold f_UpRiverModel_readReach_L40 at h
  obtain ⟨-, h⟩ := am_if_some h
  rcases am_ite h with ⟨c2918, h⟩ | ⟨c2918, h⟩
  · skip
    exact (frJ_UpRiverModel_readReach_L54  _ _ _ h hw).trans ((am_upn (am_nw_f hw 0 rfl)).trans rfl)
  · skip
    obtain ⟨q2919, e2920, h⟩ := am_bind_some h
    exact (frJ_UpRiverModel_readReach_L54  _ _ _ h hw).trans ((frJ_UpRiverModel_once e2920 (am_nw_pick hw [5, 6, 7] rfl)).trans ((am_upn (am_nw_f hw 0 rfl)).trans rfl))
theorem frJ_UpRiverModel_readReach_L22  {a j : Nat}  : ∀ (x1 : Int) (x2 : Int) (s0 : Int) (J : am_J) (r : Int × am_J), f_UpRiverModel_readReach_L22    x1 x2 s0 J = some r → am_nw [(65, some 6), (65, some 9), (65, some 10), (65, some 11), (65, some 12), (65, some 13), (65, some 14), (70, none)] a j = true → r.2 a j = J a j := by
  intro x1 x2 s0 J r h hw
  unfold f_UpRiverModel_readReach_L22 at h
  obtain ⟨-, h⟩ := am_if_some h
  obtain ⟨-, h⟩ := am_if_some h
  rcases am_ite h with ⟨c2921, h⟩ | ⟨c2921, h⟩
  · skip
    exact (frJ_UpRiverModel_readReach_L40  _ _ _ _ _ _ h hw).trans rfl
  · skip
    exact (frJ_UpRiverModel_readReach_L40  _ _ _ _ _ _ h hw).trans rfl
theorem frJ_UpRiverModel_readReach  {x1 : Int} {x2 : Int} {J : am_J} {r : Int × am_J} {a j : Nat} (h : f_UpRiverModel_readReach  x1 x2 J = some r) (hw : am_nw [(65, some 6), (65, some 9), (65, some 10), (65, some 11), (65, some 12), (65, some 13), (65, some 14), (70, none)] a j = true) : r.2 a j = J a j := by
  unfold f_UpRiverModel_readReach at h
  obtain ⟨q2922, e2923, h⟩ := am_bind_some h
  obtain ⟨-, h⟩ := am_if_some h
  rcases am_ite h with ⟨c2924, h⟩ | ⟨c2924, h⟩
  · skip
    exact (frJ_UpRiverModel_readReach_L22  _ _ _ _ _ h hw).trans ((frJ_UpRiverModel_isNumber e2923 (am_nw_pick hw [5, 6] rfl)).trans rfl)
  · skip
    exact (frJ_UpRiverModel_readReach_L22  _ _ _ _ _ h hw).trans ((frJ_UpRiverModel_isNumber e2923 (am_nw_pick hw [5, 6] rfl)).trans rfl)
theorem frJ_UpRiverModel_readPlace_L29  {a j : Nat}  : ∀ (x1 : Int) (x2 : Int) (s0 : Int) (J : am_J) (r : Int × am_J), f_UpRiverModel_readPlace_L29    x1 x2 s0 J = some r → am_nw [(65, some 6), (65, some 9), (65, some 10), (65, some 11), (65, some 12), (65, some 13), (65, some 14), (70, none)] a j = true → r.2 a j = J a j := by
  intro x1 x2 s0 J r h hw
  unfold f_UpRiverModel_readPlace_L29 at h
  obtain ⟨q2925, e2926, h⟩ := am_bind_some h
  obtain ⟨q2927, e2928, h⟩ := am_bind_some h
  obtain rfl := Option.some.inj h
  exact ((frJ_UpRiverModel_next e2928 (am_nw_pick hw [1, 2, 3, 4, 5, 6] rfl)).trans ((frJ_UpRiverModel_once e2926 (am_nw_pick hw [5, 6, 7] rfl)).trans rfl))
theorem frJ_UpRiverModel_readPlace  {x1 : Int} {J : am_J} {r : Int × am_J} {a j : Nat} (h : f_UpRiverModel_readPlace  x1 J = some r) (hw : am_nw [(65, some 6), (65, some 9), (65, some 10), (65, some 11), (65, some 12), (65, some 13), (65, some 14), (70, none)] a j = true) : r.2 a j = J a j := by
  unfold f_UpRiverModel_readPlace at h
  obtain ⟨q2929, e2930, h⟩ := am_bind_some h
  obtain ⟨q2931, e2932, h⟩ := am_bind_some h
  obtain ⟨-, h⟩ := am_if_some h
  rcases am_ite h with ⟨c2933, h⟩ | ⟨c2933, h⟩
  · skip
    exact (frJ_UpRiverModel_readPlace_L29  _ _ _ _ _ h hw).trans ((frJ_UpRiverModel_isNumber e2932 (am_nw_pick hw [5, 6] rfl)).trans ((frJ_UpRiverModel_readReach e2930 (am_nw_pick hw [0, 1, 2, 3, 4, 5, 6, 7] rfl)).trans rfl))
  · skip
    exact (frJ_UpRiverModel_readPlace_L29  _ _ _ _ _ h hw).trans ((frJ_UpRiverModel_isNumber e2932 (am_nw_pick hw [5, 6] rfl)).trans ((frJ_UpRiverModel_readReach e2930 (am_nw_pick hw [0, 1, 2, 3, 4, 5, 6, 7] rfl)).trans rfl))
theorem frJ_UpRiverModel_readLineOf_L83  {a j : Nat} {kb41 : Int → Int → am_J → Option am_J} (hk41 : ∀ (x1 : Int) (x2 : Int) (J : am_J) (r : am_J), kb41 x1 x2 J = some r → am_nw [(65, some 6), (65, some 9), (65, some 10), (65, some 11), (65, some 12), (65, some 13), (65, some 14), (67, none), (70, none)] a j = true → r a j = J a j) : ∀ (x1 : Int) (x2 : Int) (s1 : Int) (s3 : Int) (s4 : Int) (J : am_J) (r : am_J), f_UpRiverModel_readLineOf_L83  kb41  x1 x2 s1 s3 s4 J = some r → am_nw [(65, some 6), (65, some 9), (65, some 10), (65, some 11), (65, some 12), (65, some 13), (65, some 14), (67, none), (70, none)] a j = true → r a j = J a j := by
  intro x1 x2 s1 s3 s4 J r h hw
  unfold f_UpRiverModel_readLineOf_L83 at h
  obtain ⟨q2934, e2935, h⟩ := am_bind_some h
  obtain ⟨-, h⟩ := am_if_some h
  exact (hk41 _ _ _ _ h hw).trans ((am_upn (am_nw_a hw 7 rfl)).trans ((frJ_UpRiverModel_readNumber e2935 (am_nw_pick hw [1, 2, 3, 4, 5, 6] rfl)).trans rfl))
theorem frJ_UpRiverModel_readLineOf_L66  {a j : Nat} {kb41 : Int → Int → am_J → Option am_J} (hk41 : ∀ (x1 : Int) (x2 : Int) (J : am_J) (r : am_J), kb41 x1 x2 J = some r → am_nw [(65, some 6), (65, some 9), (65, some 10), (65, some 11), (65, some 12), (65, some 13), (65, some 14), (67, none), (70, none)] a j = true → r a j = J a j) : ∀ (x1 : Int) (x2 : Int) (s1 : Int) (J : am_J) (r : am_J), f_UpRiverModel_readLineOf_L66  kb41  x1 x2 s1 J = some r → am_nw [(65, some 6), (65, some 9), (65, some 10), (65, some 11), (65, some 12), (65, some 13), (65, some 14), (67, none), (70, none)] a j = true → r a j = J a j := by
  intro x1 x2 s1 J r h hw
  unfold f_UpRiverModel_readLineOf_L66 at h
  obtain ⟨-, h⟩ := am_if_some h
  rcases am_ite h with ⟨c2936, h⟩ | ⟨c2936, h⟩
  · skip
    exact (frJ_UpRiverModel_readLineOf_L83 hk41 _ _ _ _ _ _ _ h hw).trans rfl
  · skip
    exact (frJ_UpRiverModel_readLineOf_L83 hk41 _ _ _ _ _ _ _ h hw).trans rfl
theorem frJ_UpRiverModel_readLineOf_L41  {a j : Nat}  : ∀ (n : Nat) (x1 : Int) (x2 : Int) (J : am_J) (r : am_J), f_UpRiverModel_readLineOf_L41   n x1 x2 J = some r → am_nw [(65, some 6), (65, some 9), (65, some 10), (65, some 11), (65, some 12), (65, some 13), (65, some 14), (67, none), (70, none)] a j = true → r a j = J a j := by
  intro n
  induction n with
  | zero =>
    intro x1 x2 J r h hw
    cases h
  | succ n ih =>
    intro x1 x2 J r h hw
    rw [f_UpRiverModel_readLineOf_L41.eq_2] at h
    obtain ⟨-, h⟩ := am_if_some h
    rcases am_ite h with ⟨c2937, h⟩ | ⟨c2937, h⟩
    · skip
      obtain ⟨-, h⟩ := am_if_some h
      rcases am_ite h with ⟨c2938, h⟩ | ⟨c2938, h⟩
      · skip
        exact (frJ_UpRiverModel_readLineOf_L66 ih _ _ _ _ _ h hw).trans rfl
      · skip
        exact (frJ_UpRiverModel_readLineOf_L66 ih _ _ _ _ _ h hw).trans rfl
    · skip
      obtain rfl := Option.some.inj h
      exact rfl
theorem frJ_UpRiverModel_readLineOf  {x1 : Int} {J : am_J} {r : am_J} {a j : Nat} (h : f_UpRiverModel_readLineOf  x1 J = some r) (hw : am_nw [(65, some 6), (65, some 9), (65, some 10), (65, some 11), (65, some 12), (65, some 13), (65, some 14), (67, none), (70, none)] a j = true) : r a j = J a j := by
  unfold f_UpRiverModel_readLineOf at h
  obtain ⟨-, h⟩ := am_if_some h
  rcases am_ite h with ⟨c2939, h⟩ | ⟨c2939, h⟩
  · skip
    obtain ⟨q2940, e2941, h⟩ := am_bind_some h
    obtain ⟨q2942, e2943, h⟩ := am_bind_some h
    obtain ⟨q2944, e2945, h⟩ := am_bind_some h
    obtain ⟨-, h⟩ := am_if_some h
    obtain rfl := Option.some.inj h
    exact ((am_upn (am_nw_a hw 7 rfl)).trans ((frJ_UpRiverModel_readNumber e2945 (am_nw_pick hw [1, 2, 3, 4, 5, 6] rfl)).trans rfl))
  · skip
    rcases am_ite h with ⟨c2946, h⟩ | ⟨c2946, h⟩
    · skip
      exact (frJ_UpRiverModel_readLineOf_L41  _ _ _ _ _ h hw).trans rfl
    · skip
      rcases am_ite h with ⟨c2947, h⟩ | ⟨c2947, h⟩
      · skip
        exact (frJ_UpRiverModel_readLineOf_L41  _ _ _ _ _ h hw).trans rfl
      · skip
        rcases am_ite h with ⟨c2948, h⟩ | ⟨c2948, h⟩
        · skip
          obtain ⟨q2949, e2950, h⟩ := am_bind_some h
          obtain ⟨q2951, e2952, h⟩ := am_bind_some h
          obtain ⟨-, h⟩ := am_if_some h
          obtain ⟨q2953, e2954, h⟩ := am_bind_some h
          obtain ⟨-, h⟩ := am_if_some h
          obtain rfl := Option.some.inj h
          exact ((am_upn (am_nw_a hw 7 rfl)).trans ((frJ_UpRiverModel_readNumber e2954 (am_nw_pick hw [1, 2, 3, 4, 5, 6] rfl)).trans ((am_upn (am_nw_a hw 7 rfl)).trans ((frJ_UpRiverModel_readNumber e2952 (am_nw_pick hw [1, 2, 3, 4, 5, 6] rfl)).trans ((frJ_UpRiverModel_readReach e2950 (am_nw_pick hw [0, 1, 2, 3, 4, 5, 6, 8] rfl)).trans rfl)))))
        · skip
          rcases am_ite h with ⟨c2955, h⟩ | ⟨c2955, h⟩
          · skip
            obtain ⟨q2956, e2957, h⟩ := am_bind_some h
            obtain ⟨-, h⟩ := am_if_some h
            obtain rfl := Option.some.inj h
            exact ((am_upn (am_nw_a hw 7 rfl)).trans ((frJ_UpRiverModel_readReach e2957 (am_nw_pick hw [0, 1, 2, 3, 4, 5, 6, 8] rfl)).trans rfl))
          · skip
            rcases am_ite h with ⟨c2958, h⟩ | ⟨c2958, h⟩
            · skip
              obtain ⟨q2959, e2960, h⟩ := am_bind_some h
              obtain ⟨q2961, e2962, h⟩ := am_bind_some h
              obtain ⟨-, h⟩ := am_if_some h
              obtain rfl := Option.some.inj h
              exact ((am_upn (am_nw_a hw 7 rfl)).trans ((frJ_UpRiverModel_readNumber e2962 (am_nw_pick hw [1, 2, 3, 4, 5, 6] rfl)).trans ((frJ_UpRiverModel_readReach e2960 (am_nw_pick hw [0, 1, 2, 3, 4, 5, 6, 8] rfl)).trans rfl)))
            · skip
              rcases am_ite h with ⟨c2963, h⟩ | ⟨c2963, h⟩
              · skip
                obtain ⟨q2964, e2965, h⟩ := am_bind_some h
                obtain ⟨q2966, e2967, h⟩ := am_bind_some h
                obtain ⟨-, h⟩ := am_if_some h
                obtain rfl := Option.some.inj h
                exact ((am_upn (am_nw_a hw 7 rfl)).trans ((frJ_UpRiverModel_readNumber e2967 (am_nw_pick hw [1, 2, 3, 4, 5, 6] rfl)).trans ((frJ_UpRiverModel_readPlace e2965 (am_nw_pick hw [0, 1, 2, 3, 4, 5, 6, 8] rfl)).trans rfl)))
              · skip
                obtain ⟨q2968, e2969, h⟩ := am_bind_some h
                obtain ⟨-, h⟩ := am_if_some h
                obtain rfl := Option.some.inj h
                exact ((am_upn (am_nw_a hw 7 rfl)).trans ((frJ_UpRiverModel_readPlace e2969 (am_nw_pick hw [0, 1, 2, 3, 4, 5, 6, 8] rfl)).trans rfl))
theorem frJ_UpRiverModel_readLine_L122  {a j : Nat}  : ∀ (J : am_J) (r : am_J), f_UpRiverModel_readLine_L122    J = some r → am_nw [(65, some 5), (65, some 6), (65, some 9), (65, some 10), (65, some 11), (65, some 12), (65, some 13), (65, some 14), (67, none), (70, none)] a j = true → r a j = J a j := by
  intro J r h hw
  unfold f_UpRiverModel_readLine_L122 at h
  obtain ⟨q2970, e2971, h⟩ := am_bind_some h
  obtain rfl := Option.some.inj h
  exact ((frJ_UpRiverModel_next e2971 (am_nw_pick hw [2, 3, 4, 5, 6, 7] rfl)).trans rfl)
theorem frJ_UpRiverModel_readLine_L118  {a j : Nat}  : ∀ (s1 : Int) (J : am_J) (r : am_J), f_UpRiverModel_readLine_L118    s1 J = some r → am_nw [(65, some 5), (65, some 6), (65, some 9), (65, some 10), (65, some 11), (65, some 12), (65, some 13), (65, some 14), (67, none), (70, none)] a j = true → r a j = J a j := by
  intro s1 J r h hw
  unfold f_UpRiverModel_readLine_L118 at h
  obtain ⟨q2972, e2973, h⟩ := am_bind_some h
  exact (frJ_UpRiverModel_readLine_L122  _ _ h hw).trans ((frJ_UpRiverModel_needs e2973 (am_nw_pick hw [6, 7] rfl)).trans rfl)
theorem frJ_UpRiverModel_readLine_L80  {a j : Nat}  : ∀ (x1 : Int) (J : am_J) (r : am_J), f_UpRiverModel_readLine_L80    x1 J = some r → am_nw [(65, some 5), (65, some 6), (65, some 9), (65, some 10), (65, some 11), (65, some 12), (65, some 13), (65, some 14), (67, none), (70, none)] a j = true → r a j = J a j := by
  intro x1 J r h hw
  unfold f_UpRiverModel_readLine_L80 at h
  obtain ⟨q2974, e2975, h⟩ := am_bind_some h
  obtain ⟨-, h⟩ := am_if_some h
  rcases am_ite h with ⟨c2976, h⟩ | ⟨c2976, h⟩
  · skip
    obtain rfl := Option.some.inj h
    exact ((frJ_UpRiverModel_next e2975 (am_nw_pick hw [2, 3, 4, 5, 6, 7] rfl)).trans rfl)
  · skip
    obtain ⟨q2977, e2978, h⟩ := am_bind_some h
    obtain ⟨-, h⟩ := am_if_some h
    rcases am_ite h with ⟨c2979, h⟩ | ⟨c2979, h⟩
    · skip
      obtain ⟨-, h⟩ := am_if_some h
      rcases am_ite h with ⟨c2980, h⟩ | ⟨c2980, h⟩
      · skip
        exact (frJ_UpRiverModel_readLine_L118  _ _ _ h hw).trans ((frJ_UpRiverModel_readLineOf e2978 (am_nw_pick hw [1, 2, 3, 4, 5, 6, 7, 8, 9] rfl)).trans ((frJ_UpRiverModel_next e2975 (am_nw_pick hw [2, 3, 4, 5, 6, 7] rfl)).trans rfl))
      · skip
        exact (frJ_UpRiverModel_readLine_L118  _ _ _ h hw).trans ((frJ_UpRiverModel_readLineOf e2978 (am_nw_pick hw [1, 2, 3, 4, 5, 6, 7, 8, 9] rfl)).trans ((frJ_UpRiverModel_next e2975 (am_nw_pick hw [2, 3, 4, 5, 6, 7] rfl)).trans rfl))
    · skip
      exact (frJ_UpRiverModel_readLine_L122  _ _ h hw).trans ((frJ_UpRiverModel_readLineOf e2978 (am_nw_pick hw [1, 2, 3, 4, 5, 6, 7, 8, 9] rfl)).trans ((frJ_UpRiverModel_next e2975 (am_nw_pick hw [2, 3, 4, 5, 6, 7] rfl)).trans rfl))
theorem frJ_UpRiverModel_readLine_L64  {a j : Nat}  : ∀ (x1 : Int) (s1 : Int) (J : am_J) (r : am_J), f_UpRiverModel_readLine_L64    x1 s1 J = some r → am_nw [(65, some 5), (65, some 6), (65, some 9), (65, some 10), (65, some 11), (65, some 12), (65, some 13), (65, some 14), (67, none), (70, none)] a j = true → r a j = J a j := by
  intro x1 s1 J r h hw
  unfold f_UpRiverModel_readLine_L64 at h
  obtain ⟨q2981, e2982, h⟩ := am_bind_some h
  exact (frJ_UpRiverModel_readLine_L80  _ _ _ h hw).trans ((am_upn (am_nw_f hw 0 rfl)).trans ((frJ_UpRiverModel_needs e2982 (am_nw_pick hw [6, 7] rfl)).trans rfl))
theorem frJ_UpRiverModel_readLine_L30  {a j : Nat}  : ∀ (x1 : Int) (s1 : Int) (J : am_J) (r : am_J), f_UpRiverModel_readLine_L30    x1 s1 J = some r → am_nw [(65, some 5), (65, some 6), (65, some 9), (65, some 10), (65, some 11), (65, some 12), (65, some 13), (65, some 14), (67, none), (70, none)] a j = true → r a j = J a j := by
  intro x1 s1 J r h hw
  unfold f_UpRiverModel_readLine_L30 at h
  obtain ⟨q2983, e2984, h⟩ := am_bind_some h
  obtain ⟨-, h⟩ := am_if_some h
  rcases am_ite h with ⟨c2985, h⟩ | ⟨c2985, h⟩
  · skip
    obtain ⟨-, h⟩ := am_if_some h
    rcases am_ite h with ⟨c2986, h⟩ | ⟨c2986, h⟩
    · skip
      obtain ⟨-, h⟩ := am_if_some h
      rcases am_ite h with ⟨c2987, h⟩ | ⟨c2987, h⟩
      · skip
        exact (frJ_UpRiverModel_readLine_L64  _ _ _ _ h hw).trans ((frJ_UpRiverModel_needs e2984 (am_nw_pick hw [6, 7] rfl)).trans rfl)
      · skip
        exact (frJ_UpRiverModel_readLine_L64  _ _ _ _ h hw).trans ((frJ_UpRiverModel_needs e2984 (am_nw_pick hw [6, 7] rfl)).trans rfl)
    · skip
      exact (frJ_UpRiverModel_readLine_L80  _ _ _ h hw).trans ((frJ_UpRiverModel_needs e2984 (am_nw_pick hw [6, 7] rfl)).trans rfl)
  · skip
    exact (frJ_UpRiverModel_readLine_L80  _ _ _ h hw).trans ((frJ_UpRiverModel_needs e2984 (am_nw_pick hw [6, 7] rfl)).trans rfl)
theorem frJ_UpRiverModel_readLine_L17  {a j : Nat}  : ∀ (s0 : Int) (J : am_J) (r : am_J), f_UpRiverModel_readLine_L17    s0 J = some r → am_nw [(65, some 5), (65, some 6), (65, some 9), (65, some 10), (65, some 11), (65, some 12), (65, some 13), (65, some 14), (67, none), (70, none)] a j = true → r a j = J a j := by
  intro s0 J r h hw
  unfold f_UpRiverModel_readLine_L17 at h
  obtain ⟨-, h⟩ := am_if_some h
  rcases am_ite h with ⟨c2988, h⟩ | ⟨c2988, h⟩
  · skip
    exact (frJ_UpRiverModel_readLine_L30  _ _ _ _ h hw).trans rfl
  · skip
    exact (frJ_UpRiverModel_readLine_L30  _ _ _ _ h hw).trans rfl
theorem frJ_UpRiverModel_readLine  {J : am_J} {r : am_J} {a j : Nat} (h : f_UpRiverModel_readLine  J = some r) (hw : am_nw [(65, some 5), (65, some 6), (65, some 9), (65, some 10), (65, some 11), (65, some 12), (65, some 13), (65, some 14), (67, none), (70, none)] a j = true) : r a j = J a j := by
  unfold f_UpRiverModel_readLine at h
  obtain ⟨-, h⟩ := am_if_some h
  rcases am_ite h with ⟨c2989, h⟩ | ⟨c2989, h⟩
  · skip
    obtain ⟨q2990, e2991, h⟩ := am_bind_some h
    exact (frJ_UpRiverModel_readLine_L17  _ _ _ h hw).trans rfl
  · skip
    exact (frJ_UpRiverModel_readLine_L17  _ _ _ h hw).trans rfl
theorem frJ_UpRiverModel_text_L63  {a j : Nat}  : ∀ (x1 : Int) (s1 : Int) (J : am_J) (r : Int × am_J), f_UpRiverModel_text_L63    x1 s1 J = some r → am_nw [(65, some 5), (65, some 6), (65, some 8), (65, some 9), (65, some 10), (65, some 11), (65, some 12), (65, some 13), (65, some 14), (66, none), (67, none), (68, none), (69, none), (70, none)] a j = true → r.2 a j = J a j := by
  intro x1 s1 J r h hw
  unfold f_UpRiverModel_text_L63 at h
  obtain ⟨q2992, e2993, h⟩ := am_bind_some h
  obtain ⟨-, h⟩ := am_if_some h
  rcases am_ite h with ⟨c2994, h⟩ | ⟨c2994, h⟩
  · skip
    obtain rfl := Option.some.inj h
    exact ((am_upn (am_nw_f hw 2 rfl)).trans ((frJ_UpRiverModel_needs e2993 (am_nw_pick hw [7, 8] rfl)).trans rfl))
  · skip
    obtain ⟨q2995, e2996, h⟩ := am_bind_some h
    obtain rfl := Option.some.inj h
    exact ((frJ_UpRiverModel_keepDraft e2996 (am_nw_pick hw [9, 11, 12] rfl)).trans ((am_upn (am_nw_f hw 2 rfl)).trans ((frJ_UpRiverModel_needs e2993 (am_nw_pick hw [7, 8] rfl)).trans rfl)))
theorem frJ_UpRiverModel_text_L44  {a j : Nat}  : ∀ (x1 : Int) (J : am_J) (r : Int × am_J), f_UpRiverModel_text_L44    x1 J = some r → am_nw [(65, some 5), (65, some 6), (65, some 8), (65, some 9), (65, some 10), (65, some 11), (65, some 12), (65, some 13), (65, some 14), (66, none), (67, none), (68, none), (69, none), (70, none)] a j = true → r.2 a j = J a j := by
  intro x1 J r h hw
  unfold f_UpRiverModel_text_L44 at h
  obtain ⟨-, h⟩ := am_if_some h
  obtain ⟨-, h⟩ := am_if_some h
  rcases am_ite h with ⟨c2997, h⟩ | ⟨c2997, h⟩
  · skip
    exact (frJ_UpRiverModel_text_L63  _ _ _ _ h hw).trans rfl
  · skip
    exact (frJ_UpRiverModel_text_L63  _ _ _ _ h hw).trans rfl
theorem frJ_UpRiverModel_text_L20  {a j : Nat}  : ∀ (n : Nat) (x1 : Int) (J : am_J) (r : Int × am_J), f_UpRiverModel_text_L20   n x1 J = some r → am_nw [(65, some 5), (65, some 6), (65, some 8), (65, some 9), (65, some 10), (65, some 11), (65, some 12), (65, some 13), (65, some 14), (66, none), (67, none), (68, none), (69, none), (70, none)] a j = true → r.2 a j = J a j := by
  intro n
  induction n with
  | zero =>
    intro x1 J r h hw
    cases h
  | succ n ih =>
    intro x1 J r h hw
    rw [f_UpRiverModel_text_L20.eq_2] at h
    obtain ⟨-, h⟩ := am_if_some h
    rcases am_ite h with ⟨c2998, h⟩ | ⟨c2998, h⟩
    · skip
      obtain ⟨-, h⟩ := am_if_some h
      rcases am_ite h with ⟨c2999, h⟩ | ⟨c2999, h⟩
      · skip
        exact (frJ_UpRiverModel_text_L44  _ _ _ h hw).trans rfl
      · skip
        obtain ⟨q3000, e3001, h⟩ := am_bind_some h
        exact (ih _ _ _ h hw).trans ((frJ_UpRiverModel_readLine e3001 (am_nw_pick hw [0, 1, 3, 4, 5, 6, 7, 8, 10, 13] rfl)).trans rfl)
    · skip
      exact (frJ_UpRiverModel_text_L44  _ _ _ h hw).trans rfl
theorem frJ_UpRiverModel_text  {J : am_J} {r : Int × am_J} {a j : Nat} (h : f_UpRiverModel_text  J = some r) (hw : am_nw [(65, some 5), (65, some 6), (65, some 8), (65, some 9), (65, some 10), (65, some 11), (65, some 12), (65, some 13), (65, some 14), (66, none), (67, none), (68, none), (69, none), (70, none)] a j = true) : r.2 a j = J a j := by
  unfold f_UpRiverModel_text at h
  obtain ⟨q3002, e3003, h⟩ := am_bind_some h
  obtain ⟨q3004, e3005, h⟩ := am_bind_some h
  exact (frJ_UpRiverModel_text_L20  _ _ _ _ h hw).trans ((frJ_UpRiverModel_next e3005 (am_nw_pick hw [3, 4, 5, 6, 7, 8] rfl)).trans ((frJ_UpRiverModel_firstDraft e3003 (am_nw_pick hw [0, 1, 10, 13] rfl)).trans ((am_upn (am_nw_f hw 3 rfl)).trans ((am_upn (am_nw_f hw 7 rfl)).trans rfl))))
theorem frJ_UpRiverModel_goesThere  {J : am_J} {r : am_J} {a j : Nat} (h : f_UpRiverModel_goesThere  J = some r) (hw : am_nw [(68, none)] a j = true) : r a j = J a j := by
  unfold f_UpRiverModel_goesThere at h
  obtain rfl := Option.some.inj h
  exact ((am_upn (am_nw_a hw 0 rfl)).trans ((am_upn (am_nw_a hw 0 rfl)).trans ((am_upn (am_nw_a hw 0 rfl)).trans ((am_upn (am_nw_a hw 0 rfl)).trans rfl))))
theorem frJ_UpRiverModel_sails_L77  {a j : Nat}  : ∀ (x3 : Int) (x4 : Int) (s1 : Int) (J : am_J) (r : Int × am_J), f_UpRiverModel_sails_L77    x3 x4 s1 J = some r → am_nw [(65, some 16), (65, some 17), (65, some 18), (65, some 19)] a j = true → r.2 a j = J a j := by
  intro x3 x4 s1 J r h hw
  unfold f_UpRiverModel_sails_L77 at h
  obtain ⟨q3006, e3007, h⟩ := am_bind_some h
  obtain ⟨-, h⟩ := am_if_some h
  obtain rfl := Option.some.inj h
  exact ((am_upn (am_nw_f hw 3 rfl)).trans ((am_upn (am_nw_f hw 2 rfl)).trans ((am_upn (am_nw_f hw 1 rfl)).trans rfl)))
theorem frJ_UpRiverModel_sails_L45  {a j : Nat}  : ∀ (x2 : Int) (x3 : Int) (x4 : Int) (s1 : Int) (J : am_J) (r : Int × am_J), f_UpRiverModel_sails_L45    x2 x3 x4 s1 J = some r → am_nw [(65, some 16), (65, some 17), (65, some 18), (65, some 19)] a j = true → r.2 a j = J a j := by
  intro x2 x3 x4 s1 J r h hw
  unfold f_UpRiverModel_sails_L45 at h
  obtain ⟨q3008, e3009, h⟩ := am_bind_some h
  obtain ⟨-, h⟩ := am_if_some h
  obtain ⟨-, h⟩ := am_if_some h
  rcases am_ite h with ⟨c3010, h⟩ | ⟨c3010, h⟩
  · skip
    obtain ⟨-, h⟩ := am_if_some h
    rcases am_ite h with ⟨c3011, h⟩ | ⟨c3011, h⟩
    · skip
      exact (frJ_UpRiverModel_sails_L77  _ _ _ _ _ h hw).trans ((am_upn (am_nw_f hw 0 rfl)).trans rfl)
    · skip
      exact (frJ_UpRiverModel_sails_L77  _ _ _ _ _ h hw).trans ((am_upn (am_nw_f hw 0 rfl)).trans rfl)
  · skip
    exact (frJ_UpRiverModel_sails_L77  _ _ _ _ _ h hw).trans ((am_upn (am_nw_f hw 0 rfl)).trans rfl)
theorem frJ_UpRiverModel_sails  {x1 : Int} {x2 : Int} {x3 : Int} {x4 : Int} {J : am_J} {r : Int × am_J} {a j : Nat} (h : f_UpRiverModel_sails  x1 x2 x3 x4 J = some r) (hw : am_nw [(65, some 16), (65, some 17), (65, some 18), (65, some 19)] a j = true) : r.2 a j = J a j := by
  unfold f_UpRiverModel_sails at h
  obtain ⟨-, h⟩ := am_if_some h
  obtain ⟨q3012, e3013, h⟩ := am_bind_some h
  obtain ⟨q3014, e3015, h⟩ := am_bind_some h
  obtain ⟨-, h⟩ := am_if_some h
  rcases am_ite h with ⟨c3016, h⟩ | ⟨c3016, h⟩
  · skip
    exact (frJ_UpRiverModel_sails_L45  _ _ _ _ _ _ h hw).trans ((am_upn (am_nw_f hw 0 rfl)).trans rfl)
  · skip
    exact (frJ_UpRiverModel_sails_L45  _ _ _ _ _ _ h hw).trans ((am_upn (am_nw_f hw 0 rfl)).trans rfl)
theorem frJ_UpRiverModel_sail_L105  {a j : Nat} {kb45 : Int → Int → Int → am_J → Option (Int × am_J)} (hk45 : ∀ (x1 : Int) (x2 : Int) (x3 : Int) (J : am_J) (r : Int × am_J), kb45 x1 x2 x3 J = some r → am_nw [(65, some 16), (65, some 17), (65, some 18), (65, some 19), (68, none)] a j = true → r.2 a j = J a j) : ∀ (x1 : Int) (x2 : Int) (x3 : Int) (J : am_J) (r : Int × am_J), f_UpRiverModel_sail_L105  kb45  x1 x2 x3 J = some r → am_nw [(65, some 16), (65, some 17), (65, some 18), (65, some 19), (68, none)] a j = true → r.2 a j = J a j := by
  intro x1 x2 x3 J r h hw
  unfold f_UpRiverModel_sail_L105 at h
  exact (hk45 _ _ _ _ _ h hw).trans ((am_upn (am_nw_a hw 4 rfl)).trans rfl)
theorem frJ_UpRiverModel_sail_L45  {a j : Nat}  : ∀ (n : Nat) (x1 : Int) (x2 : Int) (x3 : Int) (J : am_J) (r : Int × am_J), f_UpRiverModel_sail_L45   n x1 x2 x3 J = some r → am_nw [(65, some 16), (65, some 17), (65, some 18), (65, some 19), (68, none)] a j = true → r.2 a j = J a j := by
  intro n
  induction n with
  | zero =>
    intro x1 x2 x3 J r h hw
    cases h
  | succ n ih =>
    intro x1 x2 x3 J r h hw
    rw [f_UpRiverModel_sail_L45.eq_2] at h
    obtain ⟨-, h⟩ := am_if_some h
    obtain ⟨-, h⟩ := am_if_some h
    rcases am_ite h with ⟨c3017, h⟩ | ⟨c3017, h⟩
    · skip
      obtain ⟨q3018, e3019, h⟩ := am_bind_some h
      obtain ⟨-, h⟩ := am_if_some h
      rcases am_ite h with ⟨c3020, h⟩ | ⟨c3020, h⟩
      · skip
        obtain ⟨q3021, e3022, h⟩ := am_bind_some h
        obtain ⟨-, h⟩ := am_if_some h
        rcases am_ite h with ⟨c3023, h⟩ | ⟨c3023, h⟩
        · skip
          exact (frJ_UpRiverModel_sail_L105 ih _ _ _ _ _ h hw).trans rfl
        · skip
          obtain ⟨q3024, e3025, h⟩ := am_bind_some h
          obtain ⟨-, h⟩ := am_if_some h
          rcases am_ite h with ⟨c3026, h⟩ | ⟨c3026, h⟩
          · skip
            exact (frJ_UpRiverModel_sail_L105 ih _ _ _ _ _ h hw).trans ((frJ_UpRiverModel_sails e3025 (am_nw_pick hw [0, 1, 2, 3] rfl)).trans rfl)
          · skip
            obtain ⟨q3027, e3028, h⟩ := am_bind_some h
            exact (ih _ _ _ _ _ h hw).trans ((frJ_UpRiverModel_goesThere e3028 (am_nw_pick hw [4] rfl)).trans ((frJ_UpRiverModel_sails e3025 (am_nw_pick hw [0, 1, 2, 3] rfl)).trans rfl))
      · skip
        obtain rfl := Option.some.inj h
        exact ((am_upn (am_nw_a hw 4 rfl)).trans rfl)
    · skip
      obtain rfl := Option.some.inj h
      exact ((am_upn (am_nw_a hw 4 rfl)).trans rfl)
theorem frJ_UpRiverModel_sail  {x1 : Int} {J : am_J} {r : Int × am_J} {a j : Nat} (h : f_UpRiverModel_sail  x1 J = some r) (hw : am_nw [(65, some 16), (65, some 17), (65, some 18), (65, some 19), (68, none)] a j = true) : r.2 a j = J a j := by
  unfold f_UpRiverModel_sail at h
  obtain ⟨q3029, e3030, h⟩ := am_bind_some h
  obtain ⟨-, h⟩ := am_if_some h
  rcases am_ite h with ⟨c3031, h⟩ | ⟨c3031, h⟩
  · skip
    obtain rfl := Option.some.inj h
    exact rfl
  · skip
    obtain ⟨q3032, e3033, h⟩ := am_bind_some h
    obtain ⟨-, h⟩ := am_if_some h
    rcases am_ite h with ⟨c3034, h⟩ | ⟨c3034, h⟩
    · skip
      obtain ⟨-, h⟩ := am_if_some h
      rcases am_ite h with ⟨c3035, h⟩ | ⟨c3035, h⟩
      · skip
        obtain rfl := Option.some.inj h
        exact rfl
      · skip
        exact (frJ_UpRiverModel_sail_L45  _ _ _ _ _ _ h hw).trans rfl
    · skip
      obtain rfl := Option.some.inj h
      exact rfl
theorem frJ_UpRiverModel_turns_L40  {a j : Nat}  : ∀ (x2 : Int) (x3 : Int) (x4 : Int) (s1 : Int) (J : am_J) (r : Int × am_J), f_UpRiverModel_turns_L40    x2 x3 x4 s1 J = some r → am_nw [(65, some 16), (65, some 17), (65, some 18), (65, some 19)] a j = true → r.2 a j = J a j := by
  intro x2 x3 x4 s1 J r h hw
  unfold f_UpRiverModel_turns_L40 at h
  obtain ⟨q3036, e3037, h⟩ := am_bind_some h
  obtain ⟨-, h⟩ := am_if_some h
  obtain rfl := Option.some.inj h
  exact ((am_upn (am_nw_f hw 3 rfl)).trans ((am_upn (am_nw_f hw 2 rfl)).trans ((am_upn (am_nw_f hw 1 rfl)).trans ((am_upn (am_nw_f hw 0 rfl)).trans rfl))))
theorem frJ_UpRiverModel_turns  {x1 : Int} {x2 : Int} {x3 : Int} {x4 : Int} {J : am_J} {r : Int × am_J} {a j : Nat} (h : f_UpRiverModel_turns  x1 x2 x3 x4 J = some r) (hw : am_nw [(65, some 16), (65, some 17), (65, some 18), (65, some 19)] a j = true) : r.2 a j = J a j := by
  unfold f_UpRiverModel_turns at h
  obtain ⟨-, h⟩ := am_if_some h
  obtain ⟨q3038, e3039, h⟩ := am_bind_some h
  obtain ⟨-, h⟩ := am_if_some h
  rcases am_ite h with ⟨c3040, h⟩ | ⟨c3040, h⟩
  · skip
    exact (frJ_UpRiverModel_turns_L40  _ _ _ _ _ _ h hw).trans ((am_upn (am_nw_f hw 0 rfl)).trans rfl)
  · skip
    exact (frJ_UpRiverModel_turns_L40  _ _ _ _ _ _ h hw).trans ((am_upn (am_nw_f hw 0 rfl)).trans rfl)
theorem frJ_UpRiverModel_turn  {J : am_J} {r : Int × am_J} {a j : Nat} (h : f_UpRiverModel_turn  J = some r) (hw : am_nw [(65, some 16), (65, some 17), (65, some 18), (65, some 19), (68, none)] a j = true) : r.2 a j = J a j := by
  unfold f_UpRiverModel_turn at h
  obtain ⟨q3041, e3042, h⟩ := am_bind_some h
  obtain ⟨-, h⟩ := am_if_some h
  rcases am_ite h with ⟨c3043, h⟩ | ⟨c3043, h⟩
  · skip
    obtain ⟨-, h⟩ := am_if_some h
    rcases am_ite h with ⟨c3044, h⟩ | ⟨c3044, h⟩
    · skip
      obtain rfl := Option.some.inj h
      exact rfl
    · skip
      obtain ⟨q3045, e3046, h⟩ := am_bind_some h
      obtain ⟨-, h⟩ := am_if_some h
      rcases am_ite h with ⟨c3047, h⟩ | ⟨c3047, h⟩
      · skip
        obtain rfl := Option.some.inj h
        exact ((am_upn (am_nw_a hw 4 rfl)).trans rfl)
      · skip
        obtain ⟨q3048, e3049, h⟩ := am_bind_some h
        obtain ⟨-, h⟩ := am_if_some h
        rcases am_ite h with ⟨c3050, h⟩ | ⟨c3050, h⟩
        · skip
          obtain rfl := Option.some.inj h
          exact ((am_upn (am_nw_a hw 4 rfl)).trans ((frJ_UpRiverModel_turns e3049 (am_nw_pick hw [0, 1, 2, 3] rfl)).trans rfl))
        · skip
          obtain ⟨q3051, e3052, h⟩ := am_bind_some h
          obtain rfl := Option.some.inj h
          exact ((am_upn (am_nw_a hw 4 rfl)).trans ((frJ_UpRiverModel_goesThere e3052 (am_nw_pick hw [4] rfl)).trans ((frJ_UpRiverModel_turns e3049 (am_nw_pick hw [0, 1, 2, 3] rfl)).trans rfl)))
  · skip
    obtain rfl := Option.some.inj h
    exact rfl
theorem frJ_UpRiverModel_anchor  {x1 : Int} {J : am_J} {r : Int × am_J} {a j : Nat} (h : f_UpRiverModel_anchor  x1 J = some r) (hw : am_nw [(68, none)] a j = true) : r.2 a j = J a j := by
  unfold f_UpRiverModel_anchor at h
  obtain ⟨q3053, e3054, h⟩ := am_bind_some h
  obtain ⟨-, h⟩ := am_if_some h
  rcases am_ite h with ⟨c3055, h⟩ | ⟨c3055, h⟩
  · skip
    obtain rfl := Option.some.inj h
    exact rfl
  · skip
    obtain ⟨-, h⟩ := am_if_some h
    rcases am_ite h with ⟨c3056, h⟩ | ⟨c3056, h⟩
    · skip
      obtain rfl := Option.some.inj h
      exact rfl
    · skip
      obtain rfl := Option.some.inj h
      exact ((am_upn (am_nw_a hw 0 rfl)).trans rfl)
