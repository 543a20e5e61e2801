theorem frJ_UpRiverModel_set  {x1 : Int} {x2 : Int} {x3 : Int} {x4 : Int} {J : am_J} {r : Int × am_J} {a j : Nat} (h : f_UpRiverModel_set  x1 x2 x3 x4 J = some r) (hw : am_nw [(68, none)] a j = true) : r.2 a j = J a j := by
  unfold f_UpRiverModel_set at h
  obtain ⟨q3057, e3058, h⟩ := am_bind_some h
  obtain ⟨q3059, e3060, h⟩ := am_bind_some h
  obtain ⟨-, h⟩ := am_if_some h
  rcases am_ite h with ⟨c3061, h⟩ | ⟨c3061, h⟩
  · skip
    obtain rfl := Option.some.inj h
    exact rfl
  · skip
    obtain ⟨-, h⟩ := am_if_some h
    obtain ⟨q3062, e3063, h⟩ := am_bind_some h
    obtain ⟨-, h⟩ := am_if_some h
    rcases am_ite h with ⟨c3064, h⟩ | ⟨c3064, h⟩
    · skip
      obtain rfl := Option.some.inj h
      exact rfl
    · skip
      obtain ⟨q3065, e3066, h⟩ := am_bind_some h
      obtain ⟨-, h⟩ := am_if_some h
      rcases am_ite h with ⟨c3067, h⟩ | ⟨c3067, h⟩
      · skip
        obtain rfl := Option.some.inj h
        exact rfl
      · skip
        obtain ⟨q3068, e3069, h⟩ := am_bind_some h
        obtain ⟨-, h⟩ := am_if_some h
        rcases am_ite h with ⟨c3070, h⟩ | ⟨c3070, h⟩
        · skip
          obtain rfl := Option.some.inj h
          exact rfl
        · skip
          obtain ⟨q3071, e3072, h⟩ := am_bind_some h
          obtain ⟨q3073, e3074, h⟩ := am_bind_some h
          obtain rfl := Option.some.inj h
          exact ((am_upn (am_nw_a hw 0 rfl)).trans ((am_upn (am_nw_a hw 0 rfl)).trans ((am_upn (am_nw_a hw 0 rfl)).trans ((am_upn (am_nw_a hw 0 rfl)).trans ((am_upn (am_nw_a hw 0 rfl)).trans ((am_upn (am_nw_a hw 0 rfl)).trans rfl))))))
theorem frJ_UpRiverModel_clears_L3  {a j : Nat}  : ∀ (n : Nat) (x1 : Int) (x2 : Int) (x3 : Int) (x4 : Int) (J : am_J) (r : am_J), f_UpRiverModel_clears_L3   n x1 x2 x3 x4 J = some r → am_nw [(65, some 21), (65, some 22), (65, some 23), (65, some 24), (72, none)] a j = true → r a j = J a j := by
  intro n
  induction n with
  | zero =>
    intro x1 x2 x3 x4 J r h hw
    cases h
  | succ n ih =>
    intro x1 x2 x3 x4 J r h hw
    rw [f_UpRiverModel_clears_L3.eq_2] at h
    obtain ⟨-, h⟩ := am_if_some h
    rcases am_ite h with ⟨c3075, h⟩ | ⟨c3075, h⟩
    · skip
      obtain ⟨-, h⟩ := am_if_some h
      exact (ih _ _ _ _ _ _ h hw).trans ((am_upn (am_nw_a hw 4 rfl)).trans rfl)
    · skip
      obtain rfl := Option.some.inj h
      exact ((am_upn (am_nw_f hw 0 rfl)).trans ((am_upn (am_nw_f hw 3 rfl)).trans ((am_upn (am_nw_f hw 2 rfl)).trans ((am_upn (am_nw_f hw 1 rfl)).trans rfl))))
theorem frJ_UpRiverModel_clears  {x1 : Int} {x2 : Int} {x3 : Int} {J : am_J} {r : am_J} {a j : Nat} (h : f_UpRiverModel_clears  x1 x2 x3 J = some r) (hw : am_nw [(65, some 21), (65, some 22), (65, some 23), (65, some 24), (72, none)] a j = true) : r a j = J a j := by
  unfold f_UpRiverModel_clears at h
  exact (frJ_UpRiverModel_clears_L3  _ _ _ _ _ _ _ h hw).trans rfl
theorem frJ_UpRiverModel_marks  {x1 : Int} {x2 : Int} {x3 : Int} {x4 : Int} {J : am_J} {r : am_J} {a j : Nat} (h : f_UpRiverModel_marks  x1 x2 x3 x4 J = some r) (hw : am_nw [(72, none)] a j = true) : r a j = J a j := by
  unfold f_UpRiverModel_marks at h
  obtain ⟨-, h⟩ := am_if_some h
  obtain ⟨q3076, e3077, h⟩ := am_bind_some h
  obtain ⟨-, h⟩ := am_if_some h
  obtain rfl := Option.some.inj h
  exact ((am_upn (am_nw_a hw 0 rfl)).trans rfl)
theorem frJ_UpRiverModel_comesThere_L88  {a j : Nat}  : ∀ (J : am_J) (r : am_J), f_UpRiverModel_comesThere_L88    J = some r → am_nw [(65, some 21), (72, none)] a j = true → r a j = J a j := by
  intro J r h hw
  unfold f_UpRiverModel_comesThere_L88 at h
  obtain ⟨q3078, e3079, h⟩ := am_bind_some h
  obtain ⟨-, h⟩ := am_if_some h
  rcases am_ite h with ⟨c3080, h⟩ | ⟨c3080, h⟩
  · skip
    obtain rfl := Option.some.inj h
    exact rfl
  · skip
    obtain ⟨q3081, e3082, h⟩ := am_bind_some h
    obtain rfl := Option.some.inj h
    exact ((frJ_UpRiverModel_marks e3082 (am_nw_pick hw [1] rfl)).trans rfl)
theorem frJ_UpRiverModel_comesThere_L54  {a j : Nat}  : ∀ (J : am_J) (r : am_J), f_UpRiverModel_comesThere_L54    J = some r → am_nw [(65, some 21), (72, none)] a j = true → r a j = J a j := by
  intro J r h hw
  unfold f_UpRiverModel_comesThere_L54 at h
  obtain ⟨-, h⟩ := am_if_some h
  rcases am_ite h with ⟨c3083, h⟩ | ⟨c3083, h⟩
  · skip
    obtain rfl := Option.some.inj h
    exact ((am_upn (am_nw_f hw 0 rfl)).trans rfl)
  · skip
    obtain ⟨q3084, e3085, h⟩ := am_bind_some h
    obtain rfl := Option.some.inj h
    exact ((am_upn (am_nw_f hw 0 rfl)).trans rfl)
theorem frJ_UpRiverModel_comesThere  {J : am_J} {r : am_J} {a j : Nat} (h : f_UpRiverModel_comesThere  J = some r) (hw : am_nw [(65, some 21), (72, none)] a j = true) : r a j = J a j := by
  unfold f_UpRiverModel_comesThere at h
  obtain ⟨-, h⟩ := am_if_some h
  rcases am_ite h with ⟨c3086, h⟩ | ⟨c3086, h⟩
  · skip
    obtain rfl := Option.some.inj h
    exact rfl
  · skip
    obtain ⟨q3087, e3088, h⟩ := am_bind_some h
    obtain ⟨-, h⟩ := am_if_some h
    obtain ⟨-, h⟩ := am_if_some h
    rcases am_ite h with ⟨c3089, h⟩ | ⟨c3089, h⟩
    · skip
      obtain ⟨-, h⟩ := am_if_some h
      rcases am_ite h with ⟨c3090, h⟩ | ⟨c3090, h⟩
      · skip
        exact (frJ_UpRiverModel_comesThere_L88  _ _ h hw).trans rfl
      · skip
        obtain ⟨q3091, e3092, h⟩ := am_bind_some h
        obtain ⟨-, h⟩ := am_if_some h
        rcases am_ite h with ⟨c3093, h⟩ | ⟨c3093, h⟩
        · skip
          exact (frJ_UpRiverModel_comesThere_L88  _ _ h hw).trans rfl
        · skip
          exact (frJ_UpRiverModel_comesThere_L54  _ _ h hw).trans rfl
    · skip
      exact (frJ_UpRiverModel_comesThere_L54  _ _ h hw).trans rfl
theorem frJ_UpRiverModel_goesOn_L71  {a j : Nat}  : ∀ (x1 : Int) (x3 : Int) (x4 : Int) (x5 : Int) (J : am_J) (r : am_J), f_UpRiverModel_goesOn_L71    x1 x3 x4 x5 J = some r → am_nw [(65, some 16), (65, some 17), (65, some 18), (65, some 19), (65, some 21), (72, none)] a j = true → r a j = J a j := by
  intro x1 x3 x4 x5 J r h hw
  unfold f_UpRiverModel_goesOn_L71 at h
  obtain ⟨q3094, e3095, h⟩ := am_bind_some h
  obtain ⟨-, h⟩ := am_if_some h
  rcases am_ite h with ⟨c3096, h⟩ | ⟨c3096, h⟩
  · skip
    obtain rfl := Option.some.inj h
    exact ((frJ_UpRiverModel_turns e3095 (am_nw_pick hw [0, 1, 2, 3] rfl)).trans rfl)
  · skip
    obtain ⟨q3097, e3098, h⟩ := am_bind_some h
    obtain rfl := Option.some.inj h
    exact ((frJ_UpRiverModel_comesThere e3098 (am_nw_pick hw [4, 5] rfl)).trans ((frJ_UpRiverModel_turns e3095 (am_nw_pick hw [0, 1, 2, 3] rfl)).trans rfl))
theorem frJ_UpRiverModel_goesOn_L39  {a j : Nat}  : ∀ (x1 : Int) (x3 : Int) (x4 : Int) (x5 : Int) (J : am_J) (r : am_J), f_UpRiverModel_goesOn_L39    x1 x3 x4 x5 J = some r → am_nw [(65, some 16), (65, some 17), (65, some 18), (65, some 19), (65, some 21), (72, none)] a j = true → r a j = J a j := by
  intro x1 x3 x4 x5 J r h hw
  unfold f_UpRiverModel_goesOn_L39 at h
  obtain ⟨-, h⟩ := am_if_some h
  obtain ⟨q3099, e3100, h⟩ := am_bind_some h
  obtain ⟨-, h⟩ := am_if_some h
  rcases am_ite h with ⟨c3101, h⟩ | ⟨c3101, h⟩
  · skip
    obtain rfl := Option.some.inj h
    exact rfl
  · skip
    obtain ⟨q3102, e3103, h⟩ := am_bind_some h
    obtain ⟨-, h⟩ := am_if_some h
    rcases am_ite h with ⟨c3104, h⟩ | ⟨c3104, h⟩
    · skip
      exact (frJ_UpRiverModel_goesOn_L71  _ _ _ _ _ _ h hw).trans ((frJ_UpRiverModel_sails e3103 (am_nw_pick hw [0, 1, 2, 3] rfl)).trans rfl)
    · skip
      obtain ⟨q3105, e3106, h⟩ := am_bind_some h
      exact (frJ_UpRiverModel_goesOn_L71  _ _ _ _ _ _ h hw).trans ((frJ_UpRiverModel_comesThere e3106 (am_nw_pick hw [4, 5] rfl)).trans ((frJ_UpRiverModel_sails e3103 (am_nw_pick hw [0, 1, 2, 3] rfl)).trans rfl))
theorem frJ_UpRiverModel_goesOn  {x1 : Int} {x2 : Int} {J : am_J} {r : am_J} {a j : Nat} (h : f_UpRiverModel_goesOn  x1 x2 J = some r) (hw : am_nw [(65, some 16), (65, some 17), (65, some 18), (65, some 19), (65, some 21), (72, none)] a j = true) : r a j = J a j := by
  unfold f_UpRiverModel_goesOn at h
  obtain ⟨-, h⟩ := am_if_some h
  obtain ⟨-, h⟩ := am_if_some h
  obtain ⟨-, h⟩ := am_if_some h
  rcases am_ite h with ⟨c3107, h⟩ | ⟨c3107, h⟩
  · skip
    obtain ⟨q3108, e3109, h⟩ := am_bind_some h
    exact (frJ_UpRiverModel_goesOn_L39  _ _ _ _ _ _ h hw).trans ((frJ_UpRiverModel_marks e3109 (am_nw_pick hw [5] rfl)).trans rfl)
  · skip
    exact (frJ_UpRiverModel_goesOn_L39  _ _ _ _ _ _ h hw).trans rfl
theorem frJ_UpRiverModel_spreads_L38  {a j : Nat} {kb2 : Int → am_J → Option (Int × am_J)} (hk2 : ∀ (x2 : Int) (J : am_J) (r : Int × am_J), kb2 x2 J = some r → am_nw [(65, some 16), (65, some 17), (65, some 18), (65, some 19), (65, some 21), (72, none)] a j = true → r.2 a j = J a j) : ∀ (n : Nat) (x2 : Int) (x3 : Int) (x4 : Int) (J : am_J) (r : Int × am_J), f_UpRiverModel_spreads_L38  kb2 n x2 x3 x4 J = some r → am_nw [(65, some 16), (65, some 17), (65, some 18), (65, some 19), (65, some 21), (72, none)] a j = true → r.2 a j = J a j := by
  intro n
  induction n with
  | zero =>
    intro x2 x3 x4 J r h hw
    cases h
  | succ n ih =>
    intro x2 x3 x4 J r h hw
    rw [f_UpRiverModel_spreads_L38.eq_2] at h
    obtain ⟨-, h⟩ := am_if_some h
    rcases am_ite h with ⟨c3110, h⟩ | ⟨c3110, h⟩
    · skip
      obtain ⟨-, h⟩ := am_if_some h
      obtain ⟨-, h⟩ := am_if_some h
      rcases am_ite h with ⟨c3111, h⟩ | ⟨c3111, h⟩
      · skip
        exact (ih _ _ _ _ _ h hw).trans rfl
      · skip
        obtain ⟨q3112, e3113, h⟩ := am_bind_some h
        exact (ih _ _ _ _ _ h hw).trans ((frJ_UpRiverModel_goesOn e3113 (am_nw_pick hw [0, 1, 2, 3, 4, 5] rfl)).trans ((am_upn (am_nw_a hw 5 rfl)).trans rfl))
    · skip
      exact (hk2 _ _ _ h hw).trans rfl
theorem frJ_UpRiverModel_spreads_L2  {a j : Nat}  : ∀ (n : Nat) (x2 : Int) (J : am_J) (r : Int × am_J), f_UpRiverModel_spreads_L2   n x2 J = some r → am_nw [(65, some 16), (65, some 17), (65, some 18), (65, some 19), (65, some 21), (72, none)] a j = true → r.2 a j = J a j := by
  intro n
  induction n with
  | zero =>
    intro x2 J r h hw
    cases h
  | succ n ih =>
    intro x2 J r h hw
    rw [f_UpRiverModel_spreads_L2.eq_2] at h
    obtain ⟨-, h⟩ := am_if_some h
    rcases am_ite h with ⟨c3114, h⟩ | ⟨c3114, h⟩
    · skip
      obtain rfl := Option.some.inj h
      exact rfl
    · skip
      obtain ⟨-, h⟩ := am_if_some h
      rcases am_ite h with ⟨c3115, h⟩ | ⟨c3115, h⟩
      · skip
        exact (frJ_UpRiverModel_spreads_L38 ih _ _ _ _ _ _ h hw).trans rfl
      · skip
        rcases am_ite h with ⟨c3116, h⟩ | ⟨c3116, h⟩
        · skip
          exact (frJ_UpRiverModel_spreads_L38 ih _ _ _ _ _ _ h hw).trans rfl
        · skip
          obtain rfl := Option.some.inj h
          exact rfl
theorem frJ_UpRiverModel_spreads  {x1 : Int} {J : am_J} {r : Int × am_J} {a j : Nat} (h : f_UpRiverModel_spreads  x1 J = some r) (hw : am_nw [(65, some 16), (65, some 17), (65, some 18), (65, some 19), (65, some 21), (72, none)] a j = true) : r.2 a j = J a j := by
  unfold f_UpRiverModel_spreads at h
  exact (frJ_UpRiverModel_spreads_L2  _ _ _ _ h hw).trans rfl
theorem frJ_UpRiverModel_soonestFrom_L46  {a j : Nat}  : ∀ (x4 : Int) (J : am_J) (r : Int × am_J), f_UpRiverModel_soonestFrom_L46    x4 J = some r → am_nw [(65, some 16), (65, some 17), (65, some 18), (65, some 19), (65, some 21), (65, some 22), (65, some 23), (65, some 24), (72, none)] a j = true → r.2 a j = J a j := by
  intro x4 J r h hw
  unfold f_UpRiverModel_soonestFrom_L46 at h
  obtain ⟨q3117, e3118, h⟩ := am_bind_some h
  obtain rfl := Option.some.inj h
  exact ((frJ_UpRiverModel_spreads e3118 (am_nw_pick hw [0, 1, 2, 3, 4, 8] rfl)).trans rfl)
theorem frJ_UpRiverModel_soonestFrom  {x1 : Int} {x2 : Int} {x3 : Int} {x4 : Int} {x5 : Int} {x6 : Int} {J : am_J} {r : Int × am_J} {a j : Nat} (h : f_UpRiverModel_soonestFrom  x1 x2 x3 x4 x5 x6 J = some r) (hw : am_nw [(65, some 16), (65, some 17), (65, some 18), (65, some 19), (65, some 21), (65, some 22), (65, some 23), (65, some 24), (72, none)] a j = true) : r.2 a j = J a j := by
  unfold f_UpRiverModel_soonestFrom at h
  obtain ⟨q3119, e3120, h⟩ := am_bind_some h
  obtain ⟨-, h⟩ := am_if_some h
  obtain ⟨-, h⟩ := am_if_some h
  rcases am_ite h with ⟨c3121, h⟩ | ⟨c3121, h⟩
  · skip
    obtain ⟨q3122, e3123, h⟩ := am_bind_some h
    obtain ⟨q3124, e3125, h⟩ := am_bind_some h
    obtain ⟨q3126, e3127, h⟩ := am_bind_some h
    obtain ⟨-, h⟩ := am_if_some h
    rcases am_ite h with ⟨c3128, h⟩ | ⟨c3128, h⟩
    · skip
      exact (frJ_UpRiverModel_soonestFrom_L46  _ _ _ h hw).trans ((frJ_UpRiverModel_clears e3125 (am_nw_pick hw [4, 5, 6, 7, 8] rfl)).trans rfl)
    · skip
      obtain ⟨q3129, e3130, h⟩ := am_bind_some h
      exact (frJ_UpRiverModel_soonestFrom_L46  _ _ _ h hw).trans ((frJ_UpRiverModel_marks e3130 (am_nw_pick hw [8] rfl)).trans ((frJ_UpRiverModel_clears e3125 (am_nw_pick hw [4, 5, 6, 7, 8] rfl)).trans rfl))
  · skip
    obtain rfl := Option.some.inj h
    exact rfl
theorem frJ_UpRiverModel_soonestNow  {x1 : Int} {x2 : Int} {J : am_J} {r : Int × am_J} {a j : Nat} (h : f_UpRiverModel_soonestNow  x1 x2 J = some r) (hw : am_nw [(65, some 16), (65, some 17), (65, some 18), (65, some 19), (65, some 21), (65, some 22), (65, some 23), (65, some 24), (72, none)] a j = true) : r.2 a j = J a j := by
  unfold f_UpRiverModel_soonestNow at h
  obtain ⟨q3131, e3132, h⟩ := am_bind_some h
  obtain rfl := Option.some.inj h
  exact ((frJ_UpRiverModel_soonestFrom e3132 (am_nw_pick hw [0, 1, 2, 3, 4, 5, 6, 7, 8] rfl)).trans rfl)
theorem frJ_UpRiverModel_soonest  {J : am_J} {r : Int × am_J} {a j : Nat} (h : f_UpRiverModel_soonest  J = some r) (hw : am_nw [(65, some 16), (65, some 17), (65, some 18), (65, some 19), (65, some 21), (65, some 22), (65, some 23), (65, some 24), (72, none)] a j = true) : r.2 a j = J a j := by
  unfold f_UpRiverModel_soonest at h
  obtain ⟨q3133, e3134, h⟩ := am_bind_some h
  obtain ⟨-, h⟩ := am_if_some h
  rcases am_ite h with ⟨c3135, h⟩ | ⟨c3135, h⟩
  · skip
    obtain ⟨q3136, e3137, h⟩ := am_bind_some h
    obtain rfl := Option.some.inj h
    exact ((frJ_UpRiverModel_soonestNow e3137 (am_nw_pick hw [0, 1, 2, 3, 4, 5, 6, 7, 8] rfl)).trans rfl)
  · skip
    obtain rfl := Option.some.inj h
    exact rfl
theorem frJ_UpRiverModel_only  {x1 : Int} {x2 : Int} {J : am_J} {r : Int × am_J} {a j : Nat} (h : f_UpRiverModel_only  x1 x2 J = some r) (hw : am_nw [(65, some 16), (65, some 17), (65, some 18), (65, some 19), (65, some 21), (65, some 22), (65, some 23), (65, some 24), (72, none)] a j = true) : r.2 a j = J a j := by
  unfold f_UpRiverModel_only at h
  obtain ⟨q3138, e3139, h⟩ := am_bind_some h
  obtain ⟨-, h⟩ := am_if_some h
  rcases am_ite h with ⟨c3140, h⟩ | ⟨c3140, h⟩
  · skip
    obtain rfl := Option.some.inj h
    exact rfl
  · skip
    obtain ⟨q3141, e3142, h⟩ := am_bind_some h
    obtain ⟨-, h⟩ := am_if_some h
    rcases am_ite h with ⟨c3143, h⟩ | ⟨c3143, h⟩
    · skip
      obtain rfl := Option.some.inj h
      exact rfl
    · skip
      obtain ⟨q3144, e3145, h⟩ := am_bind_some h
      obtain ⟨-, h⟩ := am_if_some h
      rcases am_ite h with ⟨c3146, h⟩ | ⟨c3146, h⟩
      · skip
        obtain ⟨q3147, e3148, h⟩ := am_bind_some h
        obtain rfl := Option.some.inj h
        exact ((frJ_UpRiverModel_soonestNow e3148 (am_nw_pick hw [0, 1, 2, 3, 4, 5, 6, 7, 8] rfl)).trans rfl)
      · skip
        obtain rfl := Option.some.inj h
        exact rfl
theorem frJ_UpRiverModel_leadsBy  {x1 : Int} {J : am_J} {r : Int × am_J} {a j : Nat} (h : f_UpRiverModel_leadsBy  x1 J = some r) (hw : am_nw [(65, some 16), (65, some 17), (65, some 18), (65, some 19), (65, some 21), (65, some 22), (65, some 23), (65, some 24), (72, none)] a j = true) : r.2 a j = J a j := by
  unfold f_UpRiverModel_leadsBy at h
  obtain ⟨-, h⟩ := am_if_some h
  rcases am_ite h with ⟨c3149, h⟩ | ⟨c3149, h⟩
  · skip
    obtain rfl := Option.some.inj h
    exact rfl
  · skip
    obtain ⟨q3150, e3151, h⟩ := am_bind_some h
    obtain ⟨-, h⟩ := am_if_some h
    obtain ⟨-, h⟩ := am_if_some h
    rcases am_ite h with ⟨c3152, h⟩ | ⟨c3152, h⟩
    · skip
      obtain rfl := Option.some.inj h
      exact ((frJ_UpRiverModel_soonestFrom e3151 (am_nw_pick hw [0, 1, 2, 3, 4, 5, 6, 7, 8] rfl)).trans rfl)
    · skip
      obtain rfl := Option.some.inj h
      exact ((frJ_UpRiverModel_soonestFrom e3151 (am_nw_pick hw [0, 1, 2, 3, 4, 5, 6, 7, 8] rfl)).trans rfl)
theorem frJ_UpRiverModel_first_L77  {a j : Nat}  : ∀ (x1 : Int) (x2 : Int) (J : am_J) (r : Int × am_J), f_UpRiverModel_first_L77    x1 x2 J = some r → am_nw [(65, some 16), (65, some 17), (65, some 18), (65, some 19), (65, some 21), (65, some 22), (65, some 23), (65, some 24), (72, none)] a j = true → r.2 a j = J a j := by
  intro x1 x2 J r h hw
  unfold f_UpRiverModel_first_L77 at h
  obtain ⟨-, h⟩ := am_if_some h
  rcases am_ite h with ⟨c3153, h⟩ | ⟨c3153, h⟩
  · skip
    obtain rfl := Option.some.inj h
    exact rfl
  · skip
    obtain ⟨q3154, e3155, h⟩ := am_bind_some h
    obtain ⟨-, h⟩ := am_if_some h
    rcases am_ite h with ⟨c3156, h⟩ | ⟨c3156, h⟩
    · skip
      obtain rfl := Option.some.inj h
      exact ((frJ_UpRiverModel_turns e3155 (am_nw_pick hw [0, 1, 2, 3] rfl)).trans rfl)
    · skip
      obtain ⟨q3157, e3158, h⟩ := am_bind_some h
      obtain ⟨-, h⟩ := am_if_some h
      rcases am_ite h with ⟨c3159, h⟩ | ⟨c3159, h⟩
      · skip
        obtain rfl := Option.some.inj h
        exact ((frJ_UpRiverModel_leadsBy e3158 (am_nw_pick hw [0, 1, 2, 3, 4, 5, 6, 7, 8] rfl)).trans ((frJ_UpRiverModel_turns e3155 (am_nw_pick hw [0, 1, 2, 3] rfl)).trans rfl))
      · skip
        obtain rfl := Option.some.inj h
        exact ((frJ_UpRiverModel_leadsBy e3158 (am_nw_pick hw [0, 1, 2, 3, 4, 5, 6, 7, 8] rfl)).trans ((frJ_UpRiverModel_turns e3155 (am_nw_pick hw [0, 1, 2, 3] rfl)).trans rfl))
theorem frJ_UpRiverModel_first  {J : am_J} {r : Int × am_J} {a j : Nat} (h : f_UpRiverModel_first  J = some r) (hw : am_nw [(65, some 16), (65, some 17), (65, some 18), (65, some 19), (65, some 21), (65, some 22), (65, some 23), (65, some 24), (72, none)] a j = true) : r.2 a j = J a j := by
  unfold f_UpRiverModel_first at h
  obtain ⟨q3160, e3161, h⟩ := am_bind_some h
  obtain ⟨-, h⟩ := am_if_some h
  rcases am_ite h with ⟨c3162, h⟩ | ⟨c3162, h⟩
  · skip
    obtain ⟨q3163, e3164, h⟩ := am_bind_some h
    obtain ⟨-, h⟩ := am_if_some h
    rcases am_ite h with ⟨c3165, h⟩ | ⟨c3165, h⟩
    · skip
      obtain rfl := Option.some.inj h
      exact ((frJ_UpRiverModel_soonestNow e3164 (am_nw_pick hw [0, 1, 2, 3, 4, 5, 6, 7, 8] rfl)).trans rfl)
    · skip
      obtain ⟨q3166, e3167, h⟩ := am_bind_some h
      obtain ⟨-, h⟩ := am_if_some h
      rcases am_ite h with ⟨c3168, h⟩ | ⟨c3168, h⟩
      · skip
        exact (frJ_UpRiverModel_first_L77  _ _ _ _ h hw).trans ((frJ_UpRiverModel_soonestNow e3164 (am_nw_pick hw [0, 1, 2, 3, 4, 5, 6, 7, 8] rfl)).trans rfl)
      · skip
        obtain ⟨q3169, e3170, h⟩ := am_bind_some h
        obtain ⟨-, h⟩ := am_if_some h
        rcases am_ite h with ⟨c3171, h⟩ | ⟨c3171, h⟩
        · skip
          exact (frJ_UpRiverModel_first_L77  _ _ _ _ h hw).trans ((frJ_UpRiverModel_sails e3170 (am_nw_pick hw [0, 1, 2, 3] rfl)).trans ((frJ_UpRiverModel_soonestNow e3164 (am_nw_pick hw [0, 1, 2, 3, 4, 5, 6, 7, 8] rfl)).trans rfl))
        · skip
          obtain ⟨q3172, e3173, h⟩ := am_bind_some h
          obtain ⟨-, h⟩ := am_if_some h
          rcases am_ite h with ⟨c3174, h⟩ | ⟨c3174, h⟩
          · skip
            exact (frJ_UpRiverModel_first_L77  _ _ _ _ h hw).trans ((frJ_UpRiverModel_leadsBy e3173 (am_nw_pick hw [0, 1, 2, 3, 4, 5, 6, 7, 8] rfl)).trans ((frJ_UpRiverModel_sails e3170 (am_nw_pick hw [0, 1, 2, 3] rfl)).trans ((frJ_UpRiverModel_soonestNow e3164 (am_nw_pick hw [0, 1, 2, 3, 4, 5, 6, 7, 8] rfl)).trans rfl)))
          · skip
            obtain rfl := Option.some.inj h
            exact ((frJ_UpRiverModel_leadsBy e3173 (am_nw_pick hw [0, 1, 2, 3, 4, 5, 6, 7, 8] rfl)).trans ((frJ_UpRiverModel_sails e3170 (am_nw_pick hw [0, 1, 2, 3] rfl)).trans ((frJ_UpRiverModel_soonestNow e3164 (am_nw_pick hw [0, 1, 2, 3, 4, 5, 6, 7, 8] rfl)).trans rfl)))
  · skip
    obtain rfl := Option.some.inj h
    exact rfl
theorem frJ_UpRiverModel_startIn  {x1 : Int} {J : am_J} {r : Int × am_J} {a j : Nat} (h : f_UpRiverModel_startIn  x1 J = some r) (hw : am_nw [(65, some 16), (65, some 17), (65, some 18), (65, some 19), (65, some 21), (65, some 22), (65, some 23), (65, some 24), (72, none)] a j = true) : r.2 a j = J a j := by
  unfold f_UpRiverModel_startIn at h
  obtain ⟨q3175, e3176, h⟩ := am_bind_some h
  obtain rfl := Option.some.inj h
  exact ((frJ_UpRiverModel_soonestFrom e3176 (am_nw_pick hw [0, 1, 2, 3, 4, 5, 6, 7, 8] rfl)).trans rfl)
theorem frJ_UpRiverModel_from  {x1 : Int} {J : am_J} {r : Int × am_J} {a j : Nat} (h : f_UpRiverModel_from  x1 J = some r) (hw : am_nw [(65, some 16), (65, some 17), (65, some 18), (65, some 19), (65, some 21), (65, some 22), (65, some 23), (65, some 24), (72, none)] a j = true) : r.2 a j = J a j := by
  unfold f_UpRiverModel_from at h
  obtain ⟨q3177, e3178, h⟩ := am_bind_some h
  obtain ⟨-, h⟩ := am_if_some h
  rcases am_ite h with ⟨c3179, h⟩ | ⟨c3179, h⟩
  · skip
    obtain rfl := Option.some.inj h
    exact rfl
  · skip
    obtain ⟨q3180, e3181, h⟩ := am_bind_some h
    obtain rfl := Option.some.inj h
    exact ((frJ_UpRiverModel_startIn e3181 (am_nw_pick hw [0, 1, 2, 3, 4, 5, 6, 7, 8] rfl)).trans rfl)
theorem frJ_UpRiverModel_upFrom_L91  {a j : Nat}  : ∀ (x1 : Int) (x3 : Int) (x4 : Int) (x5 : Int) (x6 : Int) (J : am_J) (r : Int × am_J), f_UpRiverModel_upFrom_L91    x1 x3 x4 x5 x6 J = some r → am_nw [(65, some 16), (65, some 17), (65, some 18), (65, some 19)] a j = true → r.2 a j = J a j := by
  intro x1 x3 x4 x5 x6 J r h hw
  unfold f_UpRiverModel_upFrom_L91 at h
  obtain ⟨q3182, e3183, h⟩ := am_bind_some h
  obtain ⟨-, h⟩ := am_if_some h
  rcases am_ite h with ⟨c3184, h⟩ | ⟨c3184, h⟩
  · skip
    obtain rfl := Option.some.inj h
    exact ((frJ_UpRiverModel_turns e3183 (am_nw_pick hw [0, 1, 2, 3] rfl)).trans rfl)
  · skip
    obtain ⟨q3185, e3186, h⟩ := am_bind_some h
    obtain ⟨q3187, e3188, h⟩ := am_bind_some h
    obtain rfl := Option.some.inj h
    exact ((frJ_UpRiverModel_turns e3183 (am_nw_pick hw [0, 1, 2, 3] rfl)).trans rfl)
theorem frJ_UpRiverModel_upFrom_L50  {a j : Nat}  : ∀ (x1 : Int) (x3 : Int) (x4 : Int) (x5 : Int) (s0 : Int) (J : am_J) (r : Int × am_J), f_UpRiverModel_upFrom_L50    x1 x3 x4 x5 s0 J = some r → am_nw [(65, some 16), (65, some 17), (65, some 18), (65, some 19)] a j = true → r.2 a j = J a j := by
  intro x1 x3 x4 x5 s0 J r h hw
  unfold f_UpRiverModel_upFrom_L50 at h
  obtain ⟨-, h⟩ := am_if_some h
  obtain ⟨q3189, e3190, h⟩ := am_bind_some h
  obtain ⟨-, h⟩ := am_if_some h
  rcases am_ite h with ⟨c3191, h⟩ | ⟨c3191, h⟩
  · skip
    obtain rfl := Option.some.inj h
    exact rfl
  · skip
    obtain ⟨q3192, e3193, h⟩ := am_bind_some h
    obtain ⟨-, h⟩ := am_if_some h
    rcases am_ite h with ⟨c3194, h⟩ | ⟨c3194, h⟩
    · skip
      exact (frJ_UpRiverModel_upFrom_L91  _ _ _ _ _ _ _ h hw).trans ((frJ_UpRiverModel_sails e3193 (am_nw_pick hw [0, 1, 2, 3] rfl)).trans rfl)
    · skip
      obtain ⟨q3195, e3196, h⟩ := am_bind_some h
      obtain ⟨q3197, e3198, h⟩ := am_bind_some h
      exact (frJ_UpRiverModel_upFrom_L91  _ _ _ _ _ _ _ h hw).trans ((frJ_UpRiverModel_sails e3193 (am_nw_pick hw [0, 1, 2, 3] rfl)).trans rfl)
theorem frJ_UpRiverModel_upFrom  {x1 : Int} {x2 : Int} {J : am_J} {r : Int × am_J} {a j : Nat} (h : f_UpRiverModel_upFrom  x1 x2 J = some r) (hw : am_nw [(65, some 16), (65, some 17), (65, some 18), (65, some 19)] a j = true) : r.2 a j = J a j := by
  unfold f_UpRiverModel_upFrom at h
  obtain ⟨-, h⟩ := am_if_some h
  obtain ⟨-, h⟩ := am_if_some h
  obtain ⟨-, h⟩ := am_if_some h
  rcases am_ite h with ⟨c3199, h⟩ | ⟨c3199, h⟩
  · skip
    obtain ⟨-, h⟩ := am_if_some h
    obtain ⟨-, h⟩ := am_if_some h
    exact (frJ_UpRiverModel_upFrom_L50  _ _ _ _ _ _ _ h hw).trans rfl
  · skip
    exact (frJ_UpRiverModel_upFrom_L50  _ _ _ _ _ _ _ h hw).trans rfl
theorem frJ_UpRiverModel_layStarts_L18  {a j : Nat} {kb12 : Int → Int → am_J → Option am_J} (hk12 : ∀ (x1 : Int) (x2 : Int) (J : am_J) (r : am_J), kb12 x1 x2 J = some r → am_nw [(65, some 16), (65, some 17), (65, some 18), (65, some 19), (73, none), (74, none)] a j = true → r a j = J a j) : ∀ (n : Nat) (x1 : Int) (x2 : Int) (x3 : Int) (J : am_J) (r : am_J), f_UpRiverModel_layStarts_L18  kb12 n x1 x2 x3 J = some r → am_nw [(65, some 16), (65, some 17), (65, some 18), (65, some 19), (73, none), (74, none)] a j = true → r a j = J a j := by
  intro n
  induction n with
  | zero =>
    intro x1 x2 x3 J r h hw
    cases h
  | succ n ih =>
    intro x1 x2 x3 J r h hw
    rw [f_UpRiverModel_layStarts_L18.eq_2] at h
    obtain ⟨-, h⟩ := am_if_some h
    obtain ⟨-, h⟩ := am_if_some h
    rcases am_ite h with ⟨c3200, h⟩ | ⟨c3200, h⟩
    · skip
      obtain ⟨-, h⟩ := am_if_some h
      obtain ⟨q3201, e3202, h⟩ := am_bind_some h
      obtain ⟨-, h⟩ := am_if_some h
      exact (ih _ _ _ _ _ h hw).trans ((am_upn (am_nw_a hw 4 rfl)).trans ((frJ_UpRiverModel_upFrom e3202 (am_nw_pick hw [0, 1, 2, 3] rfl)).trans rfl))
    · skip
      obtain ⟨-, h⟩ := am_if_some h
      obtain ⟨q3203, e3204, h⟩ := am_bind_some h
      obtain ⟨-, h⟩ := am_if_some h
      obtain ⟨-, h⟩ := am_if_some h
      exact (hk12 _ _ _ _ h hw).trans ((am_upn (am_nw_a hw 5 rfl)).trans rfl)
theorem frJ_UpRiverModel_layStarts_L12  {a j : Nat}  : ∀ (n : Nat) (x1 : Int) (x2 : Int) (J : am_J) (r : am_J), f_UpRiverModel_layStarts_L12   n x1 x2 J = some r → am_nw [(65, some 16), (65, some 17), (65, some 18), (65, some 19), (73, none), (74, none)] a j = true → r a j = J a j := by
  intro n
  induction n with
  | zero =>
    intro x1 x2 J r h hw
    cases h
  | succ n ih =>
    intro x1 x2 J r h hw
    rw [f_UpRiverModel_layStarts_L12.eq_2] at h
    obtain ⟨-, h⟩ := am_if_some h
    rcases am_ite h with ⟨c3205, h⟩ | ⟨c3205, h⟩
    · skip
      obtain rfl := Option.some.inj h
      exact rfl
    · skip
      exact (frJ_UpRiverModel_layStarts_L18 ih _ _ _ _ _ _ h hw).trans rfl
theorem frJ_UpRiverModel_layStarts  {J : am_J} {r : am_J} {a j : Nat} (h : f_UpRiverModel_layStarts  J = some r) (hw : am_nw [(65, some 16), (65, some 17), (65, some 18), (65, some 19), (73, none), (74, none)] a j = true) : r a j = J a j := by
  unfold f_UpRiverModel_layStarts at h
  obtain ⟨q3206, e3207, h⟩ := am_bind_some h
  exact (frJ_UpRiverModel_layStarts_L12  _ _ _ _ _ h hw).trans rfl
theorem frJ_UpRiverModel_start_L96  {a j : Nat} {kb30 : Int → Int → Int → Int → Int → am_J → Option (Int × am_J)} (hk30 : ∀ (x1 : Int) (x2 : Int) (x3 : Int) (x4 : Int) (x5 : Int) (J : am_J) (r : Int × am_J), kb30 x1 x2 x3 x4 x5 J = some r → am_nw [(65, some 16), (65, some 17), (65, some 18), (65, some 19), (73, none), (74, none)] a j = true → r.2 a j = J a j) : ∀ (x1 : Int) (x2 : Int) (x4 : Int) (x5 : Int) (x6 : Int) (x7 : Int) (s0 : Int) (J : am_J) (r : Int × am_J), f_UpRiverModel_start_L96  kb30  x1 x2 x4 x5 x6 x7 s0 J = some r → am_nw [(65, some 16), (65, some 17), (65, some 18), (65, some 19), (73, none), (74, none)] a j = true → r.2 a j = J a j := by
  intro x1 x2 x4 x5 x6 x7 s0 J r h hw
  unfold f_UpRiverModel_start_L96 at h
  obtain ⟨-, h⟩ := am_if_some h
  rcases am_ite h with ⟨c3208, h⟩ | ⟨c3208, h⟩
  · skip
    exact (hk30 _ _ _ _ _ _ _ h hw).trans rfl
  · skip
    exact (hk30 _ _ _ _ _ _ _ h hw).trans rfl
theorem frJ_UpRiverModel_start_L80  {a j : Nat} {kb30 : Int → Int → Int → Int → Int → am_J → Option (Int × am_J)} (hk30 : ∀ (x1 : Int) (x2 : Int) (x3 : Int) (x4 : Int) (x5 : Int) (J : am_J) (r : Int × am_J), kb30 x1 x2 x3 x4 x5 J = some r → am_nw [(65, some 16), (65, some 17), (65, some 18), (65, some 19), (73, none), (74, none)] a j = true → r.2 a j = J a j) : ∀ (x1 : Int) (x3 : Int) (x4 : Int) (x5 : Int) (x6 : Int) (s0 : Int) (J : am_J) (r : Int × am_J), f_UpRiverModel_start_L80  kb30  x1 x3 x4 x5 x6 s0 J = some r → am_nw [(65, some 16), (65, some 17), (65, some 18), (65, some 19), (73, none), (74, none)] a j = true → r.2 a j = J a j := by
  intro x1 x3 x4 x5 x6 s0 J r h hw
  unfold f_UpRiverModel_start_L80 at h
  obtain ⟨-, h⟩ := am_if_some h
  rcases am_ite h with ⟨c3209, h⟩ | ⟨c3209, h⟩
  · skip
    exact (frJ_UpRiverModel_start_L96 hk30 _ _ _ _ _ _ _ _ _ h hw).trans rfl
  · skip
    exact (frJ_UpRiverModel_start_L96 hk30 _ _ _ _ _ _ _ _ _ h hw).trans rfl
theorem frJ_UpRiverModel_start_L30  {a j : Nat}  : ∀ (n : Nat) (x1 : Int) (x2 : Int) (x3 : Int) (x4 : Int) (x5 : Int) (J : am_J) (r : Int × am_J), f_UpRiverModel_start_L30   n x1 x2 x3 x4 x5 J = some r → am_nw [(65, some 16), (65, some 17), (65, some 18), (65, some 19), (73, none), (74, none)] a j = true → r.2 a j = J a j := by
  intro n
  induction n with
  | zero =>
    intro x1 x2 x3 x4 x5 J r h hw
    cases h
  | succ n ih =>
    intro x1 x2 x3 x4 x5 J r h hw
    rw [f_UpRiverModel_start_L30.eq_2] at h
    obtain ⟨-, h⟩ := am_if_some h
    rcases am_ite h with ⟨c3210, h⟩ | ⟨c3210, h⟩
    · skip
      obtain ⟨-, h⟩ := am_if_some h
      rcases am_ite h with ⟨c3211, h⟩ | ⟨c3211, h⟩
      · skip
        obtain rfl := Option.some.inj h
        exact rfl
      · skip
        obtain ⟨-, h⟩ := am_if_some h
        rcases am_ite h with ⟨c3212, h⟩ | ⟨c3212, h⟩
        · skip
          obtain rfl := Option.some.inj h
          exact rfl
        · skip
          rcases am_ite h with ⟨c3213, h⟩ | ⟨c3213, h⟩
          · skip
            obtain rfl := Option.some.inj h
            exact rfl
          · skip
            obtain rfl := Option.some.inj h
            exact rfl
    · skip
      obtain ⟨-, h⟩ := am_if_some h
      obtain ⟨-, h⟩ := am_if_some h
      obtain ⟨-, h⟩ := am_if_some h
      rcases am_ite h with ⟨c3214, h⟩ | ⟨c3214, h⟩
      · skip
        exact (ih _ _ _ _ _ _ _ h hw).trans rfl
      · skip
        obtain ⟨-, h⟩ := am_if_some h
        rcases am_ite h with ⟨c3215, h⟩ | ⟨c3215, h⟩
        · skip
          exact (frJ_UpRiverModel_start_L80 ih _ _ _ _ _ _ _ _ h hw).trans rfl
        · skip
          obtain ⟨-, h⟩ := am_if_some h
          obtain ⟨-, h⟩ := am_if_some h
          rcases am_ite h with ⟨c3216, h⟩ | ⟨c3216, h⟩
          · skip
            exact (frJ_UpRiverModel_start_L80 ih _ _ _ _ _ _ _ _ h hw).trans rfl
          · skip
            exact (frJ_UpRiverModel_start_L80 ih _ _ _ _ _ _ _ _ h hw).trans rfl
theorem frJ_UpRiverModel_start  {x1 : Int} {J : am_J} {r : Int × am_J} {a j : Nat} (h : f_UpRiverModel_start  x1 J = some r) (hw : am_nw [(65, some 16), (65, some 17), (65, some 18), (65, some 19), (73, none), (74, none)] a j = true) : r.2 a j = J a j := by
  unfold f_UpRiverModel_start at h
  obtain ⟨q3217, e3218, h⟩ := am_bind_some h
  obtain ⟨-, h⟩ := am_if_some h
  rcases am_ite h with ⟨c3219, h⟩ | ⟨c3219, h⟩
  · skip
    obtain rfl := Option.some.inj h
    exact rfl
  · skip
    obtain ⟨q3220, e3221, h⟩ := am_bind_some h
    exact (frJ_UpRiverModel_start_L30  _ _ _ _ _ _ _ _ h hw).trans ((frJ_UpRiverModel_layStarts e3221 (am_nw_pick hw [0, 1, 2, 3, 4, 5] rfl)).trans rfl)
theorem frJ_UpRiverModel_days_L112  {a j : Nat} {kb46 : Int → Int → Int → Int → Int → Int → am_J → Option (Int × am_J)} (hk46 : ∀ (x1 : Int) (x2 : Int) (x3 : Int) (x4 : Int) (x5 : Int) (x6 : Int) (J : am_J) (r : Int × am_J), kb46 x1 x2 x3 x4 x5 x6 J = some r → am_nw [(65, some 15), (65, some 16), (65, some 17), (65, some 18), (65, some 19), (65, some 21), (65, some 22), (65, some 23), (65, some 24), (72, none)] a j = true → r.2 a j = J a j) : ∀ (x1 : Int) (x2 : Int) (x3 : Int) (x4 : Int) (x6 : Int) (x8 : Int) (s0 : Int) (J : am_J) (r : Int × am_J), f_UpRiverModel_days_L112  kb46  x1 x2 x3 x4 x6 x8 s0 J = some r → am_nw [(65, some 15), (65, some 16), (65, some 17), (65, some 18), (65, some 19), (65, some 21), (65, some 22), (65, some 23), (65, some 24), (72, none)] a j = true → r.2 a j = J a j := by
  intro x1 x2 x3 x4 x6 x8 s0 J r h hw
  unfold f_UpRiverModel_days_L112 at h
  obtain ⟨q3222, e3223, h⟩ := am_bind_some h
  exact (hk46 _ _ _ _ _ _ _ _ h hw).trans rfl
theorem frJ_UpRiverModel_days_L91  {a j : Nat} {kb46 : Int → Int → Int → Int → Int → Int → am_J → Option (Int × am_J)} (hk46 : ∀ (x1 : Int) (x2 : Int) (x3 : Int) (x4 : Int) (x5 : Int) (x6 : Int) (J : am_J) (r : Int × am_J), kb46 x1 x2 x3 x4 x5 x6 J = some r → am_nw [(65, some 15), (65, some 16), (65, some 17), (65, some 18), (65, some 19), (65, some 21), (65, some 22), (65, some 23), (65, some 24), (72, none)] a j = true → r.2 a j = J a j) : ∀ (x1 : Int) (x2 : Int) (x3 : Int) (x4 : Int) (x5 : Int) (x6 : Int) (s0 : Int) (J : am_J) (r : Int × am_J), f_UpRiverModel_days_L91  kb46  x1 x2 x3 x4 x5 x6 s0 J = some r → am_nw [(65, some 15), (65, some 16), (65, some 17), (65, some 18), (65, some 19), (65, some 21), (65, some 22), (65, some 23), (65, some 24), (72, none)] a j = true → r.2 a j = J a j := by
  intro x1 x2 x3 x4 x5 x6 s0 J r h hw
  unfold f_UpRiverModel_days_L91 at h
  obtain ⟨-, h⟩ := am_if_some h
  rcases am_ite h with ⟨c3224, h⟩ | ⟨c3224, h⟩
  · skip
    exact (frJ_UpRiverModel_days_L112 hk46 _ _ _ _ _ _ _ _ _ h hw).trans rfl
  · skip
    obtain ⟨-, h⟩ := am_if_some h
    rcases am_ite h with ⟨c3225, h⟩ | ⟨c3225, h⟩
    · skip
      exact (frJ_UpRiverModel_days_L112 hk46 _ _ _ _ _ _ _ _ _ h hw).trans rfl
    · skip
      exact (frJ_UpRiverModel_days_L112 hk46 _ _ _ _ _ _ _ _ _ h hw).trans rfl
theorem frJ_UpRiverModel_days_L46  {a j : Nat}  : ∀ (n : Nat) (x1 : Int) (x2 : Int) (x3 : Int) (x4 : Int) (x5 : Int) (x6 : Int) (J : am_J) (r : Int × am_J), f_UpRiverModel_days_L46   n x1 x2 x3 x4 x5 x6 J = some r → am_nw [(65, some 15), (65, some 16), (65, some 17), (65, some 18), (65, some 19), (65, some 21), (65, some 22), (65, some 23), (65, some 24), (72, none)] a j = true → r.2 a j = J a j := by
  intro n
  induction n with
  | zero =>
    intro x1 x2 x3 x4 x5 x6 J r h hw
    cases h
  | succ n ih =>
    intro x1 x2 x3 x4 x5 x6 J r h hw
    rw [f_UpRiverModel_days_L46.eq_2] at h
    obtain ⟨-, h⟩ := am_if_some h
    obtain ⟨-, h⟩ := am_if_some h
    rcases am_ite h with ⟨c3226, h⟩ | ⟨c3226, h⟩
    · skip
      obtain ⟨q3227, e3228, h⟩ := am_bind_some h
      obtain ⟨-, h⟩ := am_if_some h
      rcases am_ite h with ⟨c3229, h⟩ | ⟨c3229, h⟩
      · skip
        exact (frJ_UpRiverModel_days_L91 ih _ _ _ _ _ _ _ _ _ h hw).trans ((frJ_UpRiverModel_startIn e3228 (am_nw_pick hw [1, 2, 3, 4, 5, 6, 7, 8, 9] rfl)).trans ((am_upn (am_nw_f hw 0 rfl)).trans rfl))
      · skip
        obtain ⟨-, h⟩ := am_if_some h
        rcases am_ite h with ⟨c3230, h⟩ | ⟨c3230, h⟩
        · skip
          exact (frJ_UpRiverModel_days_L91 ih _ _ _ _ _ _ _ _ _ h hw).trans ((frJ_UpRiverModel_startIn e3228 (am_nw_pick hw [1, 2, 3, 4, 5, 6, 7, 8, 9] rfl)).trans ((am_upn (am_nw_f hw 0 rfl)).trans rfl))
        · skip
          exact (frJ_UpRiverModel_days_L91 ih _ _ _ _ _ _ _ _ _ h hw).trans ((frJ_UpRiverModel_startIn e3228 (am_nw_pick hw [1, 2, 3, 4, 5, 6, 7, 8, 9] rfl)).trans ((am_upn (am_nw_f hw 0 rfl)).trans rfl))
    · skip
      obtain ⟨-, h⟩ := am_if_some h
      rcases am_ite h with ⟨c3231, h⟩ | ⟨c3231, h⟩
      · skip
        obtain rfl := Option.some.inj h
        exact ((am_upn (am_nw_f hw 0 rfl)).trans rfl)
      · skip
        obtain rfl := Option.some.inj h
        exact ((am_upn (am_nw_f hw 0 rfl)).trans rfl)
theorem frJ_UpRiverModel_days  {x1 : Int} {x2 : Int} {x3 : Int} {J : am_J} {r : Int × am_J} {a j : Nat} (h : f_UpRiverModel_days  x1 x2 x3 J = some r) (hw : am_nw [(65, some 15), (65, some 16), (65, some 17), (65, some 18), (65, some 19), (65, some 21), (65, some 22), (65, some 23), (65, some 24), (72, none)] a j = true) : r.2 a j = J a j := by
  unfold f_UpRiverModel_days at h
  obtain ⟨q3232, e3233, h⟩ := am_bind_some h
  obtain ⟨-, h⟩ := am_if_some h
  rcases am_ite h with ⟨c3234, h⟩ | ⟨c3234, h⟩
  · skip
    obtain rfl := Option.some.inj h
    exact rfl
  · skip
    obtain ⟨q3235, e3236, h⟩ := am_bind_some h
    obtain ⟨-, h⟩ := am_if_some h
    rcases am_ite h with ⟨c3237, h⟩ | ⟨c3237, h⟩
    · skip
      obtain rfl := Option.some.inj h
      exact rfl
    · skip
      obtain ⟨q3238, e3239, h⟩ := am_bind_some h
      obtain ⟨-, h⟩ := am_if_some h
      rcases am_ite h with ⟨c3240, h⟩ | ⟨c3240, h⟩
      · skip
        obtain rfl := Option.some.inj h
        exact rfl
      · skip
        exact (frJ_UpRiverModel_days_L46  _ _ _ _ _ _ _ _ _ h hw).trans rfl
theorem frJ_UpRiverModel_hisBegin  {x1 : Int} {x2 : Int} {J : am_J} {r : am_J} {a j : Nat} (h : f_UpRiverModel_hisBegin  x1 x2 J = some r) (hw : am_nw [(65, some 27), (65, some 28), (65, some 29), (65, some 30), (65, some 31), (65, some 32), (65, some 33), (65, some 34), (65, some 35), (65, some 36), (65, some 37)] a j = true) : r a j = J a j := by
  unfold f_UpRiverModel_hisBegin at h
  obtain rfl := Option.some.inj h
  exact ((am_upn (am_nw_f hw 10 rfl)).trans ((am_upn (am_nw_f hw 9 rfl)).trans ((am_upn (am_nw_f hw 8 rfl)).trans ((am_upn (am_nw_f hw 7 rfl)).trans ((am_upn (am_nw_f hw 6 rfl)).trans ((am_upn (am_nw_f hw 5 rfl)).trans ((am_upn (am_nw_f hw 4 rfl)).trans ((am_upn (am_nw_f hw 3 rfl)).trans ((am_upn (am_nw_f hw 2 rfl)).trans ((am_upn (am_nw_f hw 1 rfl)).trans ((am_upn (am_nw_f hw 0 rfl)).trans rfl)))))))))))
theorem frJ_UpRiverModel_meets_L2  {a j : Nat}  : ∀ (n : Nat) (x2 : Int) (x3 : Int) (J : am_J) (r : am_J), f_UpRiverModel_meets_L2   n x2 x3 J = some r → am_nw [(65, some 36), (65, some 37)] a j = true → r a j = J a j := by
  intro n
  induction n with
  | zero =>
    intro x2 x3 J r h hw
    cases h
  | succ n ih =>
    intro x2 x3 J r h hw
    rw [f_UpRiverModel_meets_L2.eq_2] at h
    obtain ⟨-, h⟩ := am_if_some h
    obtain ⟨-, h⟩ := am_if_some h
    rcases am_ite h with ⟨c3241, h⟩ | ⟨c3241, h⟩
    · skip
      rcases am_ite h with ⟨c3242, h⟩ | ⟨c3242, h⟩
      · skip
        obtain rfl := Option.some.inj h
        exact rfl
      · skip
        obtain ⟨-, h⟩ := am_if_some h
        rcases am_ite h with ⟨c3243, h⟩ | ⟨c3243, h⟩
        · skip
          obtain ⟨-, h⟩ := am_if_some h
          rcases am_ite h with ⟨c3244, h⟩ | ⟨c3244, h⟩
          · skip
            exact (ih _ _ _ _ h hw).trans rfl
          · skip
            obtain ⟨-, h⟩ := am_if_some h
            rcases am_ite h with ⟨c3245, h⟩ | ⟨c3245, h⟩
            · skip
              exact (ih _ _ _ _ h hw).trans rfl
            · skip
              obtain ⟨-, h⟩ := am_if_some h
              obtain ⟨-, h⟩ := am_if_some h
              rcases am_ite h with ⟨c3246, h⟩ | ⟨c3246, h⟩
              · skip
                obtain ⟨-, h⟩ := am_if_some h
                obtain ⟨-, h⟩ := am_if_some h
                rcases am_ite h with ⟨c3247, h⟩ | ⟨c3247, h⟩
                · skip
                  exact (ih _ _ _ _ h hw).trans ((am_upn (am_nw_f hw 1 rfl)).trans ((am_upn (am_nw_f hw 0 rfl)).trans rfl))
                · skip
                  exact (ih _ _ _ _ h hw).trans rfl
              · skip
                exact (ih _ _ _ _ h hw).trans rfl
        · skip
          exact (ih _ _ _ _ h hw).trans rfl
    · skip
      obtain rfl := Option.some.inj h
      exact rfl
theorem frJ_UpRiverModel_meets  {x1 : Int} {x2 : Int} {J : am_J} {r : am_J} {a j : Nat} (h : f_UpRiverModel_meets  x1 x2 J = some r) (hw : am_nw [(65, some 36), (65, some 37)] a j = true) : r a j = J a j := by
  unfold f_UpRiverModel_meets at h
  exact (frJ_UpRiverModel_meets_L2  _ _ _ _ _ h hw).trans rfl
theorem frJ_UpRiverModel_hisMove_L134  {a j : Nat}  : ∀ (s1 : Int) (s2 : Int) (J : am_J) (r : am_J), f_UpRiverModel_hisMove_L134    s1 s2 J = some r → am_nw [(65, some 27), (65, some 28), (65, some 29), (65, some 30), (65, some 31), (65, some 32), (65, some 33), (65, some 36), (65, some 37)] a j = true → r a j = J a j := by
  intro s1 s2 J r h hw
  unfold f_UpRiverModel_hisMove_L134 at h
  obtain ⟨q3248, e3249, h⟩ := am_bind_some h
  obtain rfl := Option.some.inj h
  exact ((am_upn (am_nw_f hw 3 rfl)).trans ((am_upn (am_nw_f hw 2 rfl)).trans ((am_upn (am_nw_f hw 5 rfl)).trans rfl)))
theorem frJ_UpRiverModel_hisMove_L106  {a j : Nat}  : ∀ (s1 : Int) (s2 : Int) (J : am_J) (r : am_J), f_UpRiverModel_hisMove_L106    s1 s2 J = some r → am_nw [(65, some 27), (65, some 28), (65, some 29), (65, some 30), (65, some 31), (65, some 32), (65, some 33), (65, some 36), (65, some 37)] a j = true → r a j = J a j := by
  intro s1 s2 J r h hw
  unfold f_UpRiverModel_hisMove_L106 at h
  obtain ⟨q3250, e3251, h⟩ := am_bind_some h
  obtain ⟨-, h⟩ := am_if_some h
  obtain ⟨-, h⟩ := am_if_some h
  rcases am_ite h with ⟨c3252, h⟩ | ⟨c3252, h⟩
  · skip
    exact (frJ_UpRiverModel_hisMove_L134  _ _ _ _ h hw).trans ((am_upn (am_nw_f hw 4 rfl)).trans rfl)
  · skip
    exact (frJ_UpRiverModel_hisMove_L134  _ _ _ _ h hw).trans ((am_upn (am_nw_f hw 4 rfl)).trans rfl)
theorem frJ_UpRiverModel_hisMove_L82  {a j : Nat}  : ∀ (s1 : Int) (J : am_J) (r : am_J), f_UpRiverModel_hisMove_L82    s1 J = some r → am_nw [(65, some 27), (65, some 28), (65, some 29), (65, some 30), (65, some 31), (65, some 32), (65, some 33), (65, some 36), (65, some 37)] a j = true → r a j = J a j := by
  intro s1 J r h hw
  unfold f_UpRiverModel_hisMove_L82 at h
  obtain ⟨-, h⟩ := am_if_some h
  obtain ⟨-, h⟩ := am_if_some h
  obtain ⟨-, h⟩ := am_if_some h
  rcases am_ite h with ⟨c3253, h⟩ | ⟨c3253, h⟩
  · skip
    exact (frJ_UpRiverModel_hisMove_L106  _ _ _ _ h hw).trans ((am_upn (am_nw_f hw 6 rfl)).trans rfl)
  · skip
    exact (frJ_UpRiverModel_hisMove_L106  _ _ _ _ h hw).trans ((am_upn (am_nw_f hw 6 rfl)).trans rfl)
theorem frJ_UpRiverModel_hisMove_L42  {a j : Nat}  : ∀ (x2 : Int) (s1 : Int) (s2 : Int) (J : am_J) (r : am_J), f_UpRiverModel_hisMove_L42    x2 s1 s2 J = some r → am_nw [(65, some 27), (65, some 28), (65, some 29), (65, some 30), (65, some 31), (65, some 32), (65, some 33), (65, some 36), (65, some 37)] a j = true → r a j = J a j := by
  intro x2 s1 s2 J r h hw
  unfold f_UpRiverModel_hisMove_L42 at h
  obtain ⟨q3254, e3255, h⟩ := am_bind_some h
  obtain ⟨-, h⟩ := am_if_some h
  rcases am_ite h with ⟨c3256, h⟩ | ⟨c3256, h⟩
  · skip
    obtain rfl := Option.some.inj h
    exact ((am_upn (am_nw_f hw 3 rfl)).trans ((frJ_UpRiverModel_meets e3255 (am_nw_pick hw [7, 8] rfl)).trans rfl))
  · skip
    obtain ⟨-, h⟩ := am_if_some h
    obtain ⟨-, h⟩ := am_if_some h
    rcases am_ite h with ⟨c3257, h⟩ | ⟨c3257, h⟩
    · skip
      exact (frJ_UpRiverModel_hisMove_L82  _ _ _ h hw).trans ((am_upn (am_nw_f hw 1 rfl)).trans ((am_upn (am_nw_f hw 0 rfl)).trans ((frJ_UpRiverModel_meets e3255 (am_nw_pick hw [7, 8] rfl)).trans rfl)))
    · skip
      exact (frJ_UpRiverModel_hisMove_L82  _ _ _ h hw).trans ((am_upn (am_nw_f hw 1 rfl)).trans ((am_upn (am_nw_f hw 0 rfl)).trans ((frJ_UpRiverModel_meets e3255 (am_nw_pick hw [7, 8] rfl)).trans rfl)))
theorem frJ_UpRiverModel_hisMove_L19  {a j : Nat}  : ∀ (s0 : Int) (J : am_J) (r : am_J), f_UpRiverModel_hisMove_L19    s0 J = some r → am_nw [(65, some 27), (65, some 28), (65, some 29), (65, some 30), (65, some 31), (65, some 32), (65, some 33), (65, some 36), (65, some 37)] a j = true → r a j = J a j := by
  intro s0 J r h hw
  unfold f_UpRiverModel_hisMove_L19 at h
  obtain ⟨-, h⟩ := am_if_some h
  rcases am_ite h with ⟨c3258, h⟩ | ⟨c3258, h⟩
  · skip
    exact (frJ_UpRiverModel_hisMove_L42  _ _ _ _ _ h hw).trans rfl
  · skip
    exact (frJ_UpRiverModel_hisMove_L42  _ _ _ _ _ h hw).trans rfl
theorem frJ_UpRiverModel_hisMove  {x1 : Int} {J : am_J} {r : am_J} {a j : Nat} (h : f_UpRiverModel_hisMove  x1 J = some r) (hw : am_nw [(65, some 27), (65, some 28), (65, some 29), (65, some 30), (65, some 31), (65, some 32), (65, some 33), (65, some 36), (65, some 37)] a j = true) : r a j = J a j := by
  unfold f_UpRiverModel_hisMove at h
  obtain ⟨-, h⟩ := am_if_some h
  rcases am_ite h with ⟨c3259, h⟩ | ⟨c3259, h⟩
  · skip
    exact (frJ_UpRiverModel_hisMove_L19  _ _ _ h hw).trans rfl
  · skip
    obtain ⟨-, h⟩ := am_if_some h
    rcases am_ite h with ⟨c3260, h⟩ | ⟨c3260, h⟩
    · skip
      exact (frJ_UpRiverModel_hisMove_L19  _ _ _ h hw).trans rfl
    · skip
      exact (frJ_UpRiverModel_hisMove_L19  _ _ _ h hw).trans rfl
theorem frJ_UpRiverModel_hisStep_L145  {a j : Nat}  : ∀ (J : am_J) (r : am_J), f_UpRiverModel_hisStep_L145    J = some r → am_nw [(65, some 16), (65, some 17), (65, some 18), (65, some 19), (65, some 27), (65, some 28), (65, some 29), (65, some 30), (65, some 31), (65, some 32), (65, some 33), (65, some 36), (65, some 37)] a j = true → r a j = J a j := by
  intro J r h hw
  unfold f_UpRiverModel_hisStep_L145 at h
  obtain ⟨q3261, e3262, h⟩ := am_bind_some h
  obtain ⟨q3263, e3264, h⟩ := am_bind_some h
  obtain rfl := Option.some.inj h
  exact ((frJ_UpRiverModel_hisMove e3264 (am_nw_pick hw [4, 5, 6, 7, 8, 9, 10, 11, 12] rfl)).trans ((frJ_UpRiverModel_turns e3262 (am_nw_pick hw [0, 1, 2, 3] rfl)).trans rfl))
theorem frJ_UpRiverModel_hisStep_L133  {a j : Nat}  : ∀ (x5 : Int) (s0 : Int) (J : am_J) (r : am_J), f_UpRiverModel_hisStep_L133    x5 s0 J = some r → am_nw [(65, some 16), (65, some 17), (65, some 18), (65, some 19), (65, some 27), (65, some 28), (65, some 29), (65, some 30), (65, some 31), (65, some 32), (65, some 33), (65, some 36), (65, some 37)] a j = true → r a j = J a j := by
  intro x5 s0 J r h hw
  unfold f_UpRiverModel_hisStep_L133 at h
  obtain ⟨-, h⟩ := am_if_some h
  rcases am_ite h with ⟨c3265, h⟩ | ⟨c3265, h⟩
  · skip
    obtain ⟨-, h⟩ := am_if_some h
    rcases am_ite h with ⟨c3266, h⟩ | ⟨c3266, h⟩
    · skip
      obtain ⟨q3267, e3268, h⟩ := am_bind_some h
      obtain ⟨q3269, e3270, h⟩ := am_bind_some h
      obtain rfl := Option.some.inj h
      exact ((frJ_UpRiverModel_hisMove e3270 (am_nw_pick hw [4, 5, 6, 7, 8, 9, 10, 11, 12] rfl)).trans ((frJ_UpRiverModel_sails e3268 (am_nw_pick hw [0, 1, 2, 3] rfl)).trans rfl))
    · skip
      exact (frJ_UpRiverModel_hisStep_L145  _ _ h hw).trans rfl
  · skip
    exact (frJ_UpRiverModel_hisStep_L145  _ _ h hw).trans rfl
theorem frJ_UpRiverModel_hisStep_L91  {a j : Nat}  : ∀ (x2 : Int) (x3 : Int) (s0 : Int) (J : am_J) (r : am_J), f_UpRiverModel_hisStep_L91    x2 x3 s0 J = some r → am_nw [(65, some 16), (65, some 17), (65, some 18), (65, some 19), (65, some 27), (65, some 28), (65, some 29), (65, some 30), (65, some 31), (65, some 32), (65, some 33), (65, some 36), (65, some 37)] a j = true → r a j = J a j := by
  intro x2 x3 s0 J r h hw
  unfold f_UpRiverModel_hisStep_L91 at h
  obtain ⟨-, h⟩ := am_if_some h
  rcases am_ite h with ⟨c3271, h⟩ | ⟨c3271, h⟩
  · skip
    obtain ⟨-, h⟩ := am_if_some h
    rcases am_ite h with ⟨c3272, h⟩ | ⟨c3272, h⟩
    · skip
      exact (frJ_UpRiverModel_hisStep_L133  _ _ _ _ h hw).trans rfl
    · skip
      obtain ⟨q3273, e3274, h⟩ := am_bind_some h
      obtain ⟨q3275, e3276, h⟩ := am_bind_some h
      obtain ⟨-, h⟩ := am_if_some h
      obtain ⟨-, h⟩ := am_if_some h
      rcases am_ite h with ⟨c3277, h⟩ | ⟨c3277, h⟩
      · skip
        exact (frJ_UpRiverModel_hisStep_L133  _ _ _ _ h hw).trans rfl
      · skip
        exact (frJ_UpRiverModel_hisStep_L133  _ _ _ _ h hw).trans rfl
  · skip
    exact (frJ_UpRiverModel_hisStep_L133  _ _ _ _ h hw).trans rfl
theorem frJ_UpRiverModel_hisStep_L52  {a j : Nat}  : ∀ (x1 : Int) (x2 : Int) (x3 : Int) (s0 : Int) (J : am_J) (r : am_J), f_UpRiverModel_hisStep_L52    x1 x2 x3 s0 J = some r → am_nw [(65, some 16), (65, some 17), (65, some 18), (65, some 19), (65, some 27), (65, some 28), (65, some 29), (65, some 30), (65, some 31), (65, some 32), (65, some 33), (65, some 36), (65, some 37)] a j = true → r a j = J a j := by
  intro x1 x2 x3 s0 J r h hw
  unfold f_UpRiverModel_hisStep_L52 at h
  obtain ⟨q3278, e3279, h⟩ := am_bind_some h
  obtain ⟨-, h⟩ := am_if_some h
  rcases am_ite h with ⟨c3280, h⟩ | ⟨c3280, h⟩
  · skip
    exact (frJ_UpRiverModel_hisStep_L91  _ _ _ _ _ h hw).trans rfl
  · skip
    obtain ⟨q3281, e3282, h⟩ := am_bind_some h
    obtain ⟨-, h⟩ := am_if_some h
    obtain ⟨-, h⟩ := am_if_some h
    rcases am_ite h with ⟨c3283, h⟩ | ⟨c3283, h⟩
    · skip
      exact (frJ_UpRiverModel_hisStep_L91  _ _ _ _ _ h hw).trans rfl
    · skip
      exact (frJ_UpRiverModel_hisStep_L91  _ _ _ _ _ h hw).trans rfl
theorem frJ_UpRiverModel_hisStep  {x1 : Int} {x2 : Int} {J : am_J} {r : am_J} {a j : Nat} (h : f_UpRiverModel_hisStep  x1 x2 J = some r) (hw : am_nw [(65, some 16), (65, some 17), (65, some 18), (65, some 19), (65, some 27), (65, some 28), (65, some 29), (65, some 30), (65, some 31), (65, some 32), (65, some 33), (65, some 36), (65, some 37)] a j = true) : r a j = J a j := by
  unfold f_UpRiverModel_hisStep at h
  obtain ⟨-, h⟩ := am_if_some h
  obtain ⟨q3284, e3285, h⟩ := am_bind_some h
  obtain ⟨-, h⟩ := am_if_some h
  rcases am_ite h with ⟨c3286, h⟩ | ⟨c3286, h⟩
  · skip
    obtain ⟨q3287, e3288, h⟩ := am_bind_some h
    obtain rfl := Option.some.inj h
    exact ((frJ_UpRiverModel_hisMove e3288 (am_nw_pick hw [4, 5, 6, 7, 8, 9, 10, 11, 12] rfl)).trans rfl)
  · skip
    obtain ⟨-, h⟩ := am_if_some h
    rcases am_ite h with ⟨c3289, h⟩ | ⟨c3289, h⟩
    · skip
      exact (frJ_UpRiverModel_hisStep_L52  _ _ _ _ _ _ h hw).trans rfl
    · skip
      exact (frJ_UpRiverModel_hisStep_L52  _ _ _ _ _ _ h hw).trans rfl
theorem frJ_UpRiverModel_skips_L62  {a j : Nat}  : ∀ (J : am_J) (r : Int × am_J), f_UpRiverModel_skips_L62    J = some r → am_nw [(65, some 16), (65, some 17), (65, some 18), (65, some 19), (65, some 27), (65, some 28), (65, some 29), (65, some 30), (65, some 31), (65, some 32), (65, some 33), (65, some 34), (65, some 35), (65, some 36), (65, some 37)] a j = true → r.2 a j = J a j := by
  intro J r h hw
  unfold f_UpRiverModel_skips_L62 at h
  obtain ⟨q3290, e3291, h⟩ := am_bind_some h
  obtain ⟨-, h⟩ := am_if_some h
  obtain ⟨-, h⟩ := am_if_some h
  rcases am_ite h with ⟨c3292, h⟩ | ⟨c3292, h⟩
  · skip
    obtain rfl := Option.some.inj h
    exact rfl
  · skip
    obtain rfl := Option.some.inj h
    exact rfl
theorem frJ_UpRiverModel_skips_L37  {a j : Nat}  : ∀ (J : am_J) (r : Int × am_J), f_UpRiverModel_skips_L37    J = some r → am_nw [(65, some 16), (65, some 17), (65, some 18), (65, some 19), (65, some 27), (65, some 28), (65, some 29), (65, some 30), (65, some 31), (65, some 32), (65, some 33), (65, some 34), (65, some 35), (65, some 36), (65, some 37)] a j = true → r.2 a j = J a j := by
  intro J r h hw
  unfold f_UpRiverModel_skips_L37 at h
  obtain ⟨q3293, e3294, h⟩ := am_bind_some h
  obtain ⟨-, h⟩ := am_if_some h
  obtain ⟨-, h⟩ := am_if_some h
  rcases am_ite h with ⟨c3295, h⟩ | ⟨c3295, h⟩
  · skip
    obtain ⟨q3296, e3297, h⟩ := am_bind_some h
    exact (frJ_UpRiverModel_skips_L62  _ _ h hw).trans ((frJ_UpRiverModel_meets e3297 (am_nw_pick hw [13, 14] rfl)).trans rfl)
  · skip
    exact (frJ_UpRiverModel_skips_L62  _ _ h hw).trans rfl
theorem frJ_UpRiverModel_skips_L7  {a j : Nat}  : ∀ (n : Nat) (x1 : Int) (x2 : Int) (J : am_J) (r : Int × am_J), f_UpRiverModel_skips_L7   n x1 x2 J = some r → am_nw [(65, some 16), (65, some 17), (65, some 18), (65, some 19), (65, some 27), (65, some 28), (65, some 29), (65, some 30), (65, some 31), (65, some 32), (65, some 33), (65, some 34), (65, some 35), (65, some 36), (65, some 37)] a j = true → r.2 a j = J a j := by
  intro n
  induction n with
  | zero =>
    intro x1 x2 J r h hw
    cases h
  | succ n ih =>
    intro x1 x2 J r h hw
    rw [f_UpRiverModel_skips_L7.eq_2] at h
    obtain ⟨q3298, e3299, h⟩ := am_bind_some h
    obtain ⟨-, h⟩ := am_if_some h
    obtain ⟨-, h⟩ := am_if_some h
    rcases am_ite h with ⟨c3300, h⟩ | ⟨c3300, h⟩
    · skip
      obtain ⟨-, h⟩ := am_if_some h
      rcases am_ite h with ⟨c3301, h⟩ | ⟨c3301, h⟩
      · skip
        obtain ⟨q3302, e3303, h⟩ := am_bind_some h
        exact (ih _ _ _ _ h hw).trans ((frJ_UpRiverModel_hisStep e3303 (am_nw_pick hw [0, 1, 2, 3, 4, 5, 6, 7, 8, 9, 10, 13, 14] rfl)).trans rfl)
      · skip
        exact (frJ_UpRiverModel_skips_L37  _ _ h hw).trans rfl
    · skip
      exact (frJ_UpRiverModel_skips_L37  _ _ h hw).trans rfl
theorem frJ_UpRiverModel_skips  {x1 : Int} {x2 : Int} {x3 : Int} {x4 : Int} {J : am_J} {r : Int × am_J} {a j : Nat} (h : f_UpRiverModel_skips  x1 x2 x3 x4 J = some r) (hw : am_nw [(65, some 16), (65, some 17), (65, some 18), (65, some 19), (65, some 27), (65, some 28), (65, some 29), (65, some 30), (65, some 31), (65, some 32), (65, some 33), (65, some 34), (65, some 35), (65, some 36), (65, some 37)] a j = true) : r.2 a j = J a j := by
  unfold f_UpRiverModel_skips at h
  obtain ⟨q3304, e3305, h⟩ := am_bind_some h
  exact (frJ_UpRiverModel_skips_L7  _ _ _ _ _ h hw).trans ((frJ_UpRiverModel_hisBegin e3305 (am_nw_pick hw [4, 5, 6, 7, 8, 9, 10, 11, 12, 13, 14] rfl)).trans rfl)
theorem frJ_UpRiverModel_skipper  {x1 : Int} {x2 : Int} {x3 : Int} {J : am_J} {r : Int × am_J} {a j : Nat} (h : f_UpRiverModel_skipper  x1 x2 x3 J = some r) (hw : am_nw [(65, some 16), (65, some 17), (65, some 18), (65, some 19), (65, some 27), (65, some 28), (65, some 29), (65, some 30), (65, some 31), (65, some 32), (65, some 33), (65, some 34), (65, some 35), (65, some 36), (65, some 37)] a j = true) : r.2 a j = J a j := by
  unfold f_UpRiverModel_skipper at h
  obtain ⟨q3306, e3307, h⟩ := am_bind_some h
  obtain ⟨-, h⟩ := am_if_some h
  rcases am_ite h with ⟨c3308, h⟩ | ⟨c3308, h⟩
  · skip
    obtain rfl := Option.some.inj h
    exact rfl
  · skip
    obtain ⟨q3309, e3310, h⟩ := am_bind_some h
    obtain ⟨-, h⟩ := am_if_some h
    rcases am_ite h with ⟨c3311, h⟩ | ⟨c3311, h⟩
    · skip
      obtain rfl := Option.some.inj h
      exact rfl
    · skip
      obtain ⟨q3312, e3313, h⟩ := am_bind_some h
      obtain ⟨-, h⟩ := am_if_some h
      rcases am_ite h with ⟨c3314, h⟩ | ⟨c3314, h⟩
      · skip
        obtain ⟨q3315, e3316, h⟩ := am_bind_some h
        obtain ⟨-, h⟩ := am_if_some h
        rcases am_ite h with ⟨c3317, h⟩ | ⟨c3317, h⟩
        · skip
          obtain rfl := Option.some.inj h
          exact ((frJ_UpRiverModel_skips e3316 (am_nw_pick hw [0, 1, 2, 3, 4, 5, 6, 7, 8, 9, 10, 11, 12, 13, 14] rfl)).trans rfl)
        · skip
          rcases am_ite h with ⟨c3318, h⟩ | ⟨c3318, h⟩
          · skip
            obtain rfl := Option.some.inj h
            exact ((frJ_UpRiverModel_skips e3316 (am_nw_pick hw [0, 1, 2, 3, 4, 5, 6, 7, 8, 9, 10, 11, 12, 13, 14] rfl)).trans rfl)
          · skip
            obtain rfl := Option.some.inj h
            exact ((frJ_UpRiverModel_skips e3316 (am_nw_pick hw [0, 1, 2, 3, 4, 5, 6, 7, 8, 9, 10, 11, 12, 13, 14] rfl)).trans rfl)
      · skip
        obtain rfl := Option.some.inj h
        exact rfl
theorem frJ_UpRiverModel_best_L99  {a j : Nat} {kb42 : Int → Int → Int → Int → Int → am_J → Option (Int × am_J)} (hk42 : ∀ (x1 : Int) (x2 : Int) (x3 : Int) (x4 : Int) (x5 : Int) (J : am_J) (r : Int × am_J), kb42 x1 x2 x3 x4 x5 J = some r → am_nw [(65, some 16), (65, some 17), (65, some 18), (65, some 19), (65, some 27), (65, some 28), (65, some 29), (65, some 30), (65, some 31), (65, some 32), (65, some 33), (65, some 34), (65, some 35), (65, some 36), (65, some 37)] a j = true → r.2 a j = J a j) : ∀ (x1 : Int) (x2 : Int) (x4 : Int) (x5 : Int) (x6 : Int) (x7 : Int) (s0 : Int) (J : am_J) (r : Int × am_J), f_UpRiverModel_best_L99  kb42  x1 x2 x4 x5 x6 x7 s0 J = some r → am_nw [(65, some 16), (65, some 17), (65, some 18), (65, some 19), (65, some 27), (65, some 28), (65, some 29), (65, some 30), (65, some 31), (65, some 32), (65, some 33), (65, some 34), (65, some 35), (65, some 36), (65, some 37)] a j = true → r.2 a j = J a j := by
  intro x1 x2 x4 x5 x6 x7 s0 J r h hw
  unfold f_UpRiverModel_best_L99 at h
  obtain ⟨-, h⟩ := am_if_some h
  rcases am_ite h with ⟨c3319, h⟩ | ⟨c3319, h⟩
  · skip
    exact (hk42 _ _ _ _ _ _ _ h hw).trans rfl
  · skip
    exact (hk42 _ _ _ _ _ _ _ h hw).trans rfl
theorem frJ_UpRiverModel_best_L86  {a j : Nat} {kb42 : Int → Int → Int → Int → Int → am_J → Option (Int × am_J)} (hk42 : ∀ (x1 : Int) (x2 : Int) (x3 : Int) (x4 : Int) (x5 : Int) (J : am_J) (r : Int × am_J), kb42 x1 x2 x3 x4 x5 J = some r → am_nw [(65, some 16), (65, some 17), (65, some 18), (65, some 19), (65, some 27), (65, some 28), (65, some 29), (65, some 30), (65, some 31), (65, some 32), (65, some 33), (65, some 34), (65, some 35), (65, some 36), (65, some 37)] a j = true → r.2 a j = J a j) : ∀ (x1 : Int) (x2 : Int) (x3 : Int) (x4 : Int) (x5 : Int) (x6 : Int) (s0 : Int) (J : am_J) (r : Int × am_J), f_UpRiverModel_best_L86  kb42  x1 x2 x3 x4 x5 x6 s0 J = some r → am_nw [(65, some 16), (65, some 17), (65, some 18), (65, some 19), (65, some 27), (65, some 28), (65, some 29), (65, some 30), (65, some 31), (65, some 32), (65, some 33), (65, some 34), (65, some 35), (65, some 36), (65, some 37)] a j = true → r.2 a j = J a j := by
  intro x1 x2 x3 x4 x5 x6 s0 J r h hw
  unfold f_UpRiverModel_best_L86 at h
  obtain ⟨-, h⟩ := am_if_some h
  rcases am_ite h with ⟨c3320, h⟩ | ⟨c3320, h⟩
  · skip
    exact (frJ_UpRiverModel_best_L99 hk42 _ _ _ _ _ _ _ _ _ h hw).trans rfl
  · skip
    exact (frJ_UpRiverModel_best_L99 hk42 _ _ _ _ _ _ _ _ _ h hw).trans rfl
theorem frJ_UpRiverModel_best_L42  {a j : Nat}  : ∀ (n : Nat) (x1 : Int) (x2 : Int) (x3 : Int) (x4 : Int) (x5 : Int) (J : am_J) (r : Int × am_J), f_UpRiverModel_best_L42   n x1 x2 x3 x4 x5 J = some r → am_nw [(65, some 16), (65, some 17), (65, some 18), (65, some 19), (65, some 27), (65, some 28), (65, some 29), (65, some 30), (65, some 31), (65, some 32), (65, some 33), (65, some 34), (65, some 35), (65, some 36), (65, some 37)] a j = true → r.2 a j = J a j := by
  intro n
  induction n with
  | zero =>
    intro x1 x2 x3 x4 x5 J r h hw
    cases h
  | succ n ih =>
    intro x1 x2 x3 x4 x5 J r h hw
    rw [f_UpRiverModel_best_L42.eq_2] at h
    obtain ⟨-, h⟩ := am_if_some h
    rcases am_ite h with ⟨c3321, h⟩ | ⟨c3321, h⟩
    · skip
      obtain ⟨-, h⟩ := am_if_some h
      rcases am_ite h with ⟨c3322, h⟩ | ⟨c3322, h⟩
      · skip
        obtain rfl := Option.some.inj h
        exact rfl
      · skip
        obtain rfl := Option.some.inj h
        exact rfl
    · skip
      obtain ⟨q3323, e3324, h⟩ := am_bind_some h
      obtain ⟨-, h⟩ := am_if_some h
      rcases am_ite h with ⟨c3325, h⟩ | ⟨c3325, h⟩
      · skip
        exact (frJ_UpRiverModel_best_L86 ih _ _ _ _ _ _ _ _ _ h hw).trans ((frJ_UpRiverModel_skips e3324 (am_nw_pick hw [0, 1, 2, 3, 4, 5, 6, 7, 8, 9, 10, 11, 12, 13, 14] rfl)).trans rfl)
      · skip
        obtain ⟨-, h⟩ := am_if_some h
        rcases am_ite h with ⟨c3326, h⟩ | ⟨c3326, h⟩
        · skip
          exact (frJ_UpRiverModel_best_L86 ih _ _ _ _ _ _ _ _ _ h hw).trans ((frJ_UpRiverModel_skips e3324 (am_nw_pick hw [0, 1, 2, 3, 4, 5, 6, 7, 8, 9, 10, 11, 12, 13, 14] rfl)).trans rfl)
        · skip
          obtain ⟨-, h⟩ := am_if_some h
          rcases am_ite h with ⟨c3327, h⟩ | ⟨c3327, h⟩
          · skip
            exact (frJ_UpRiverModel_best_L86 ih _ _ _ _ _ _ _ _ _ h hw).trans ((frJ_UpRiverModel_skips e3324 (am_nw_pick hw [0, 1, 2, 3, 4, 5, 6, 7, 8, 9, 10, 11, 12, 13, 14] rfl)).trans rfl)
          · skip
            exact (frJ_UpRiverModel_best_L86 ih _ _ _ _ _ _ _ _ _ h hw).trans ((frJ_UpRiverModel_skips e3324 (am_nw_pick hw [0, 1, 2, 3, 4, 5, 6, 7, 8, 9, 10, 11, 12, 13, 14] rfl)).trans rfl)
theorem frJ_UpRiverModel_best  {x1 : Int} {x2 : Int} {J : am_J} {r : Int × am_J} {a j : Nat} (h : f_UpRiverModel_best  x1 x2 J = some r) (hw : am_nw [(65, some 16), (65, some 17), (65, some 18), (65, some 19), (65, some 27), (65, some 28), (65, some 29), (65, some 30), (65, some 31), (65, some 32), (65, some 33), (65, some 34), (65, some 35), (65, some 36), (65, some 37)] a j = true) : r.2 a j = J a j := by
  unfold f_UpRiverModel_best at h
  obtain ⟨q3328, e3329, h⟩ := am_bind_some h
  obtain ⟨-, h⟩ := am_if_some h
  rcases am_ite h with ⟨c3330, h⟩ | ⟨c3330, h⟩
  · skip
    obtain rfl := Option.some.inj h
    exact rfl
  · skip
    obtain ⟨q3331, e3332, h⟩ := am_bind_some h
    obtain ⟨-, h⟩ := am_if_some h
    rcases am_ite h with ⟨c3333, h⟩ | ⟨c3333, h⟩
    · skip
      obtain rfl := Option.some.inj h
      exact rfl
    · skip
      obtain ⟨q3334, e3335, h⟩ := am_bind_some h
      obtain ⟨-, h⟩ := am_if_some h
      rcases am_ite h with ⟨c3336, h⟩ | ⟨c3336, h⟩
      · skip
        exact (frJ_UpRiverModel_best_L42  _ _ _ _ _ _ _ _ h hw).trans rfl
      · skip
        obtain rfl := Option.some.inj h
        exact rfl
theorem frJ_UpRiverModel_loses  {x1 : Int} {x2 : Int} {J : am_J} {r : Int × am_J} {a j : Nat} (h : f_UpRiverModel_loses  x1 x2 J = some r) (hw : am_nw [(65, some 16), (65, some 17), (65, some 18), (65, some 19), (65, some 21), (65, some 22), (65, some 23), (65, some 24), (65, some 27), (65, some 28), (65, some 29), (65, some 30), (65, some 31), (65, some 32), (65, some 33), (65, some 34), (65, some 35), (65, some 36), (65, some 37), (72, none)] a j = true) : r.2 a j = J a j := by
  unfold f_UpRiverModel_loses at h
  obtain ⟨q3337, e3338, h⟩ := am_bind_some h
  obtain ⟨-, h⟩ := am_if_some h
  rcases am_ite h with ⟨c3339, h⟩ | ⟨c3339, h⟩
  · skip
    obtain rfl := Option.some.inj h
    exact rfl
  · skip
    obtain ⟨q3340, e3341, h⟩ := am_bind_some h
    obtain ⟨-, h⟩ := am_if_some h
    rcases am_ite h with ⟨c3342, h⟩ | ⟨c3342, h⟩
    · skip
      obtain ⟨q3343, e3344, h⟩ := am_bind_some h
      obtain ⟨-, h⟩ := am_if_some h
      rcases am_ite h with ⟨c3345, h⟩ | ⟨c3345, h⟩
      · skip
        obtain rfl := Option.some.inj h
        exact ((frJ_UpRiverModel_skips e3344 (am_nw_pick hw [0, 1, 2, 3, 8, 9, 10, 11, 12, 13, 14, 15, 16, 17, 18] rfl)).trans rfl)
      · skip
        obtain ⟨q3346, e3347, h⟩ := am_bind_some h
        obtain rfl := Option.some.inj h
        exact ((frJ_UpRiverModel_soonestNow e3347 (am_nw_pick hw [0, 1, 2, 3, 4, 5, 6, 7, 19] rfl)).trans ((frJ_UpRiverModel_skips e3344 (am_nw_pick hw [0, 1, 2, 3, 8, 9, 10, 11, 12, 13, 14, 15, 16, 17, 18] rfl)).trans rfl))
    · skip
      obtain rfl := Option.some.inj h
      exact rfl
theorem frJ_UpRiverModel_logged_L61  {a j : Nat}  : ∀ (x1 : Int) (x2 : Int) (x3 : Int) (J : am_J) (r : Int × am_J), f_UpRiverModel_logged_L61    x1 x2 x3 J = some r → am_nw [(68, none)] a j = true → r.2 a j = J a j := by
  intro x1 x2 x3 J r h hw
  unfold f_UpRiverModel_logged_L61 at h
  obtain ⟨-, h⟩ := am_if_some h
  rcases am_ite h with ⟨c3348, h⟩ | ⟨c3348, h⟩
  · skip
    obtain rfl := Option.some.inj h
    exact rfl
  · skip
    obtain ⟨-, h⟩ := am_if_some h
    obtain ⟨-, h⟩ := am_if_some h
    obtain rfl := Option.some.inj h
    exact ((am_upn (am_nw_a hw 0 rfl)).trans ((am_upn (am_nw_a hw 0 rfl)).trans ((am_upn (am_nw_a hw 0 rfl)).trans rfl)))
theorem frJ_UpRiverModel_logged  {x1 : Int} {x2 : Int} {J : am_J} {r : Int × am_J} {a j : Nat} (h : f_UpRiverModel_logged  x1 x2 J = some r) (hw : am_nw [(68, none)] a j = true) : r.2 a j = J a j := by
  unfold f_UpRiverModel_logged at h
  obtain ⟨q3349, e3350, h⟩ := am_bind_some h
  obtain ⟨-, h⟩ := am_if_some h
  rcases am_ite h with ⟨c3351, h⟩ | ⟨c3351, h⟩
  · skip
    obtain rfl := Option.some.inj h
    exact rfl
  · skip
    obtain ⟨q3352, e3353, h⟩ := am_bind_some h
    obtain ⟨-, h⟩ := am_if_some h
    rcases am_ite h with ⟨c3354, h⟩ | ⟨c3354, h⟩
    · skip
      obtain rfl := Option.some.inj h
      exact rfl
    · skip
      obtain ⟨-, h⟩ := am_if_some h
      rcases am_ite h with ⟨c3355, h⟩ | ⟨c3355, h⟩
      · skip
        obtain ⟨q3356, e3357, h⟩ := am_bind_some h
        obtain ⟨-, h⟩ := am_if_some h
        obtain ⟨-, h⟩ := am_if_some h
        rcases am_ite h with ⟨c3358, h⟩ | ⟨c3358, h⟩
        · skip
          obtain ⟨q3359, e3360, h⟩ := am_bind_some h
          obtain ⟨-, h⟩ := am_if_some h
          obtain ⟨-, h⟩ := am_if_some h
          rcases am_ite h with ⟨c3361, h⟩ | ⟨c3361, h⟩
          · skip
            exact (frJ_UpRiverModel_logged_L61  _ _ _ _ _ h hw).trans rfl
          · skip
            obtain rfl := Option.some.inj h
            exact rfl
        · skip
          obtain rfl := Option.some.inj h
          exact rfl
      · skip
        exact (frJ_UpRiverModel_logged_L61  _ _ _ _ _ h hw).trans rfl
theorem frJ_UpRiverModel_stretch_L35  {a j : Nat}  : ∀ (n : Nat) (x2 : Int) (x3 : Int) (x4 : Int) (J : am_J) (r : Int × am_J), f_UpRiverModel_stretch_L35   n x2 x3 x4 J = some r → am_nw [(65, some 16), (65, some 17), (65, some 18), (65, some 19), (65, some 21), (65, some 22), (65, some 23), (65, some 24), (72, none)] a j = true → r.2 a j = J a j := by
  intro n
  induction n with
  | zero =>
    intro x2 x3 x4 J r h hw
    cases h
  | succ n ih =>
    intro x2 x3 x4 J r h hw
    rw [f_UpRiverModel_stretch_L35.eq_2] at h
    obtain ⟨-, h⟩ := am_if_some h
    rcases am_ite h with ⟨c3362, h⟩ | ⟨c3362, h⟩
    · skip
      obtain ⟨q3363, e3364, h⟩ := am_bind_some h
      obtain ⟨-, h⟩ := am_if_some h
      rcases am_ite h with ⟨c3365, h⟩ | ⟨c3365, h⟩
      · skip
        exact (ih _ _ _ _ _ h hw).trans rfl
      · skip
        obtain ⟨q3366, e3367, h⟩ := am_bind_some h
        obtain ⟨q3368, e3369, h⟩ := am_bind_some h
        exact (ih _ _ _ _ _ h hw).trans ((frJ_UpRiverModel_marks e3369 (am_nw_pick hw [8] rfl)).trans ((frJ_UpRiverModel_marks e3367 (am_nw_pick hw [8] rfl)).trans rfl))
    · skip
      obtain ⟨q3370, e3371, h⟩ := am_bind_some h
      obtain rfl := Option.some.inj h
      exact ((frJ_UpRiverModel_spreads e3371 (am_nw_pick hw [0, 1, 2, 3, 4, 8] rfl)).trans rfl)
theorem frJ_UpRiverModel_stretch  {x1 : Int} {J : am_J} {r : Int × am_J} {a j : Nat} (h : f_UpRiverModel_stretch  x1 J = some r) (hw : am_nw [(65, some 16), (65, some 17), (65, some 18), (65, some 19), (65, some 21), (65, some 22), (65, some 23), (65, some 24), (72, none)] a j = true) : r.2 a j = J a j := by
  unfold f_UpRiverModel_stretch at h
  obtain ⟨q3372, e3373, h⟩ := am_bind_some h
  obtain ⟨q3374, e3375, h⟩ := am_bind_some h
  obtain ⟨q3376, e3377, h⟩ := am_bind_some h
  obtain ⟨q3378, e3379, h⟩ := am_bind_some h
  exact (frJ_UpRiverModel_stretch_L35  _ _ _ _ _ _ h hw).trans ((frJ_UpRiverModel_clears e3379 (am_nw_pick hw [4, 5, 6, 7, 8] rfl)).trans rfl)
theorem frJ_UpRiverModel_lost_L95  {a j : Nat} {kb22 : Int → Int → Int → Int → am_J → Option (Int × am_J)} (hk22 : ∀ (x1 : Int) (x2 : Int) (x3 : Int) (x4 : Int) (J : am_J) (r : Int × am_J), kb22 x1 x2 x3 x4 J = some r → am_nw [(65, some 16), (65, some 17), (65, some 18), (65, some 19), (65, some 21), (65, some 22), (65, some 23), (65, some 24), (72, none)] a j = true → r.2 a j = J a j) : ∀ (x1 : Int) (x3 : Int) (x4 : Int) (x6 : Int) (x7 : Int) (s0 : Int) (J : am_J) (r : Int × am_J), f_UpRiverModel_lost_L95  kb22  x1 x3 x4 x6 x7 s0 J = some r → am_nw [(65, some 16), (65, some 17), (65, some 18), (65, some 19), (65, some 21), (65, some 22), (65, some 23), (65, some 24), (72, none)] a j = true → r.2 a j = J a j := by
  intro x1 x3 x4 x6 x7 s0 J r h hw
  unfold f_UpRiverModel_lost_L95 at h
  obtain ⟨-, h⟩ := am_if_some h
  rcases am_ite h with ⟨c3380, h⟩ | ⟨c3380, h⟩
  · skip
    exact (hk22 _ _ _ _ _ _ h hw).trans rfl
  · skip
    exact (hk22 _ _ _ _ _ _ h hw).trans rfl
theorem frJ_UpRiverModel_lost_L82  {a j : Nat} {kb22 : Int → Int → Int → Int → am_J → Option (Int × am_J)} (hk22 : ∀ (x1 : Int) (x2 : Int) (x3 : Int) (x4 : Int) (J : am_J) (r : Int × am_J), kb22 x1 x2 x3 x4 J = some r → am_nw [(65, some 16), (65, some 17), (65, some 18), (65, some 19), (65, some 21), (65, some 22), (65, some 23), (65, some 24), (72, none)] a j = true → r.2 a j = J a j) : ∀ (x1 : Int) (x2 : Int) (x3 : Int) (x4 : Int) (x6 : Int) (s0 : Int) (J : am_J) (r : Int × am_J), f_UpRiverModel_lost_L82  kb22  x1 x2 x3 x4 x6 s0 J = some r → am_nw [(65, some 16), (65, some 17), (65, some 18), (65, some 19), (65, some 21), (65, some 22), (65, some 23), (65, some 24), (72, none)] a j = true → r.2 a j = J a j := by
  intro x1 x2 x3 x4 x6 s0 J r h hw
  unfold f_UpRiverModel_lost_L82 at h
  obtain ⟨-, h⟩ := am_if_some h
  rcases am_ite h with ⟨c3381, h⟩ | ⟨c3381, h⟩
  · skip
    exact (frJ_UpRiverModel_lost_L95 hk22 _ _ _ _ _ _ _ _ h hw).trans rfl
  · skip
    exact (frJ_UpRiverModel_lost_L95 hk22 _ _ _ _ _ _ _ _ h hw).trans rfl
theorem frJ_UpRiverModel_lost_L22  {a j : Nat}  : ∀ (n : Nat) (x1 : Int) (x2 : Int) (x3 : Int) (x4 : Int) (J : am_J) (r : Int × am_J), f_UpRiverModel_lost_L22   n x1 x2 x3 x4 J = some r → am_nw [(65, some 16), (65, some 17), (65, some 18), (65, some 19), (65, some 21), (65, some 22), (65, some 23), (65, some 24), (72, none)] a j = true → r.2 a j = J a j := by
  intro n
  induction n with
  | zero =>
    intro x1 x2 x3 x4 J r h hw
    cases h
  | succ n ih =>
    intro x1 x2 x3 x4 J r h hw
    rw [f_UpRiverModel_lost_L22.eq_2] at h
    obtain ⟨-, h⟩ := am_if_some h
    obtain ⟨-, h⟩ := am_if_some h
    rcases am_ite h with ⟨c3382, h⟩ | ⟨c3382, h⟩
    · skip
      obtain ⟨q3383, e3384, h⟩ := am_bind_some h
      obtain ⟨-, h⟩ := am_if_some h
      rcases am_ite h with ⟨c3385, h⟩ | ⟨c3385, h⟩
      · skip
        exact (ih _ _ _ _ _ _ h hw).trans ((frJ_UpRiverModel_stretch e3384 (am_nw_pick hw [0, 1, 2, 3, 4, 5, 6, 7, 8] rfl)).trans rfl)
      · skip
        obtain ⟨q3386, e3387, h⟩ := am_bind_some h
        obtain ⟨-, h⟩ := am_if_some h
        rcases am_ite h with ⟨c3388, h⟩ | ⟨c3388, h⟩
        · skip
          exact (frJ_UpRiverModel_lost_L82 ih _ _ _ _ _ _ _ _ h hw).trans ((frJ_UpRiverModel_stretch e3384 (am_nw_pick hw [0, 1, 2, 3, 4, 5, 6, 7, 8] rfl)).trans rfl)
        · skip
          obtain ⟨-, h⟩ := am_if_some h
          obtain ⟨-, h⟩ := am_if_some h
          rcases am_ite h with ⟨c3389, h⟩ | ⟨c3389, h⟩
          · skip
            exact (frJ_UpRiverModel_lost_L82 ih _ _ _ _ _ _ _ _ h hw).trans ((frJ_UpRiverModel_stretch e3384 (am_nw_pick hw [0, 1, 2, 3, 4, 5, 6, 7, 8] rfl)).trans rfl)
          · skip
            exact (frJ_UpRiverModel_lost_L82 ih _ _ _ _ _ _ _ _ h hw).trans ((frJ_UpRiverModel_stretch e3384 (am_nw_pick hw [0, 1, 2, 3, 4, 5, 6, 7, 8] rfl)).trans rfl)
    · skip
      obtain ⟨-, h⟩ := am_if_some h
      rcases am_ite h with ⟨c3390, h⟩ | ⟨c3390, h⟩
      · skip
        obtain rfl := Option.some.inj h
        exact rfl
      · skip
        obtain ⟨-, h⟩ := am_if_some h
        rcases am_ite h with ⟨c3391, h⟩ | ⟨c3391, h⟩
        · skip
          obtain rfl := Option.some.inj h
          exact rfl
        · skip
          obtain rfl := Option.some.inj h
          exact rfl
theorem frJ_UpRiverModel_lost  {x1 : Int} {J : am_J} {r : Int × am_J} {a j : Nat} (h : f_UpRiverModel_lost  x1 J = some r) (hw : am_nw [(65, some 16), (65, some 17), (65, some 18), (65, some 19), (65, some 21), (65, some 22), (65, some 23), (65, some 24), (72, none)] a j = true) : r.2 a j = J a j := by
  unfold f_UpRiverModel_lost at h
  obtain ⟨q3392, e3393, h⟩ := am_bind_some h
  obtain ⟨-, h⟩ := am_if_some h
  rcases am_ite h with ⟨c3394, h⟩ | ⟨c3394, h⟩
  · skip
    obtain rfl := Option.some.inj h
    exact rfl
  · skip
    exact (frJ_UpRiverModel_lost_L22  _ _ _ _ _ _ _ h hw).trans rfl
theorem frJ_UpRiverModel_swing  {x1 : Int} {J : am_J} {r : Int × am_J} {a j : Nat} (h : f_UpRiverModel_swing  x1 J = some r) (hw : am_nw [(68, none)] a j = true) : r.2 a j = J a j := by
  unfold f_UpRiverModel_swing at h
  obtain ⟨q3395, e3396, h⟩ := am_bind_some h
  obtain ⟨-, h⟩ := am_if_some h
  rcases am_ite h with ⟨c3397, h⟩ | ⟨c3397, h⟩
  · skip
    obtain rfl := Option.some.inj h
    exact rfl
  · skip
    obtain ⟨-, h⟩ := am_if_some h
    rcases am_ite h with ⟨c3398, h⟩ | ⟨c3398, h⟩
    · skip
      obtain rfl := Option.some.inj h
      exact rfl
    · skip
      obtain ⟨-, h⟩ := am_if_some h
      obtain rfl := Option.some.inj h
      exact ((am_upn (am_nw_a hw 0 rfl)).trans ((am_upn (am_nw_a hw 0 rfl)).trans rfl))
theorem frJ_UpRiverModel_barge  {x1 : Int} {x2 : Int} {x3 : Int} {x4 : Int} {x5 : Int} {J : am_J} {r : Int × am_J} {a j : Nat} (h : f_UpRiverModel_barge  x1 x2 x3 x4 x5 J = some r) (hw : am_nw [(65, some 16), (65, some 17), (65, some 18), (65, some 19), (65, some 27), (65, some 28), (65, some 29), (65, some 30), (65, some 31), (65, some 32), (65, some 33), (65, some 34), (65, some 35), (65, some 36), (65, some 37)] a j = true) : r.2 a j = J a j := by
  unfold f_UpRiverModel_barge at h
  obtain ⟨q3399, e3400, h⟩ := am_bind_some h
  obtain ⟨-, h⟩ := am_if_some h
  rcases am_ite h with ⟨c3401, h⟩ | ⟨c3401, h⟩
  · skip
    obtain rfl := Option.some.inj h
    exact rfl
  · skip
    obtain ⟨q3402, e3403, h⟩ := am_bind_some h
    obtain ⟨-, h⟩ := am_if_some h
    rcases am_ite h with ⟨c3404, h⟩ | ⟨c3404, h⟩
    · skip
      obtain rfl := Option.some.inj h
      exact rfl
    · skip
      obtain ⟨q3405, e3406, h⟩ := am_bind_some h
      obtain ⟨-, h⟩ := am_if_some h
      rcases am_ite h with ⟨c3407, h⟩ | ⟨c3407, h⟩
      · skip
        obtain rfl := Option.some.inj h
        exact rfl
      · skip
        obtain ⟨q3408, e3409, h⟩ := am_bind_some h
        obtain ⟨-, h⟩ := am_if_some h
        rcases am_ite h with ⟨c3410, h⟩ | ⟨c3410, h⟩
        · skip
          obtain rfl := Option.some.inj h
          exact rfl
        · skip
          obtain ⟨q3411, e3412, h⟩ := am_bind_some h
          obtain ⟨-, h⟩ := am_if_some h
          rcases am_ite h with ⟨c3413, h⟩ | ⟨c3413, h⟩
          · skip
            obtain ⟨q3414, e3415, h⟩ := am_bind_some h
            obtain ⟨-, h⟩ := am_if_some h
            rcases am_ite h with ⟨c3416, h⟩ | ⟨c3416, h⟩
            · skip
              obtain rfl := Option.some.inj h
              exact ((frJ_UpRiverModel_skips e3415 (am_nw_pick hw [0, 1, 2, 3, 4, 5, 6, 7, 8, 9, 10, 11, 12, 13, 14] rfl)).trans rfl)
            · skip
              obtain rfl := Option.some.inj h
              exact ((frJ_UpRiverModel_skips e3415 (am_nw_pick hw [0, 1, 2, 3, 4, 5, 6, 7, 8, 9, 10, 11, 12, 13, 14] rfl)).trans rfl)
          · skip
            obtain rfl := Option.some.inj h
            exact rfl
theorem frJ_UpRiverModel_copies_L2  {a j : Nat}  : ∀ (n : Nat) (x1 : Int) (x2 : Int) (x3 : Int) (J : am_J) (r : am_J), f_UpRiverModel_copies_L2   n x1 x2 x3 J = some r → am_nw [(68, none)] a j = true → r a j = J a j := by
  intro n
  induction n with
  | zero =>
    intro x1 x2 x3 J r h hw
    cases h
  | succ n ih =>
    intro x1 x2 x3 J r h hw
    rw [f_UpRiverModel_copies_L2.eq_2] at h
    obtain ⟨-, h⟩ := am_if_some h
    rcases am_ite h with ⟨c3417, h⟩ | ⟨c3417, h⟩
    · skip
      obtain ⟨-, h⟩ := am_if_some h
      obtain ⟨-, h⟩ := am_if_some h
      exact (ih _ _ _ _ _ h hw).trans ((am_upn (am_nw_a hw 0 rfl)).trans rfl)
    · skip
      obtain rfl := Option.some.inj h
      exact rfl
theorem frJ_UpRiverModel_copies  {x1 : Int} {x2 : Int} {J : am_J} {r : am_J} {a j : Nat} (h : f_UpRiverModel_copies  x1 x2 J = some r) (hw : am_nw [(68, none)] a j = true) : r a j = J a j := by
  unfold f_UpRiverModel_copies at h
  exact (frJ_UpRiverModel_copies_L2  _ _ _ _ _ _ h hw).trans rfl
theorem frJ_UpRiverModel_keep  {x1 : Int} {J : am_J} {r : Int × am_J} {a j : Nat} (h : f_UpRiverModel_keep  x1 J = some r) (hw : am_nw [(68, none), (69, none)] a j = true) : r.2 a j = J a j := by
  unfold f_UpRiverModel_keep at h
  obtain ⟨q3418, e3419, h⟩ := am_bind_some h
  obtain ⟨-, h⟩ := am_if_some h
  rcases am_ite h with ⟨c3420, h⟩ | ⟨c3420, h⟩
  · skip
    obtain rfl := Option.some.inj h
    exact rfl
  · skip
    obtain ⟨-, h⟩ := am_if_some h
    obtain ⟨q3421, e3422, h⟩ := am_bind_some h
    obtain ⟨q3423, e3424, h⟩ := am_bind_some h
    obtain rfl := Option.some.inj h
    exact ((frJ_UpRiverModel_copies e3424 (am_nw_pick hw [0] rfl)).trans ((am_upn (am_nw_a hw 1 rfl)).trans rfl))
theorem frJ_UpRiverModel_back  {x1 : Int} {J : am_J} {r : Int × am_J} {a j : Nat} (h : f_UpRiverModel_back  x1 J = some r) (hw : am_nw [(68, none)] a j = true) : r.2 a j = J a j := by
  unfold f_UpRiverModel_back at h
  obtain ⟨q3425, e3426, h⟩ := am_bind_some h
  obtain ⟨-, h⟩ := am_if_some h
  rcases am_ite h with ⟨c3427, h⟩ | ⟨c3427, h⟩
  · skip
    obtain rfl := Option.some.inj h
    exact rfl
  · skip
    obtain ⟨-, h⟩ := am_if_some h
    obtain ⟨-, h⟩ := am_if_some h
    rcases am_ite h with ⟨c3428, h⟩ | ⟨c3428, h⟩
    · skip
      obtain rfl := Option.some.inj h
      exact rfl
    · skip
      obtain ⟨q3429, e3430, h⟩ := am_bind_some h
      obtain rfl := Option.some.inj h
      exact ((frJ_UpRiverModel_copies e3430 (am_nw_pick hw [0] rfl)).trans rfl)
theorem frJ_UpRiverModel_sheet_L40  {a j : Nat}  : ∀ (n : Nat) (x1 : Int) (x4 : Int) (J : am_J) (r : Int × am_J), f_UpRiverModel_sheet_L40   n x1 x4 J = some r → am_nw [(75, none), (76, none), (77, none)] a j = true → r.2 a j = J a j := by
  intro n
  induction n with
  | zero =>
    intro x1 x4 J r h hw
    cases h
  | succ n ih =>
    intro x1 x4 J r h hw
    rw [f_UpRiverModel_sheet_L40.eq_2] at h
    obtain ⟨-, h⟩ := am_if_some h
    rcases am_ite h with ⟨c3431, h⟩ | ⟨c3431, h⟩
    · skip
      obtain ⟨-, h⟩ := am_if_some h
      exact (ih _ _ _ _ h hw).trans ((am_upn (am_nw_a hw 2 rfl)).trans rfl)
    · skip
      obtain rfl := Option.some.inj h
      exact rfl
theorem frJ_UpRiverModel_sheet  {x1 : Int} {x2 : Int} {x3 : Int} {J : am_J} {r : Int × am_J} {a j : Nat} (h : f_UpRiverModel_sheet  x1 x2 x3 J = some r) (hw : am_nw [(75, none), (76, none), (77, none)] a j = true) : r.2 a j = J a j := by
  unfold f_UpRiverModel_sheet at h
  obtain ⟨q3432, e3433, h⟩ := am_bind_some h
  obtain ⟨-, h⟩ := am_if_some h
  rcases am_ite h with ⟨c3434, h⟩ | ⟨c3434, h⟩
  · skip
    obtain rfl := Option.some.inj h
    exact rfl
  · skip
    obtain ⟨-, h⟩ := am_if_some h
    rcases am_ite h with ⟨c3435, h⟩ | ⟨c3435, h⟩
    · skip
      obtain rfl := Option.some.inj h
      exact rfl
    · skip
      rcases am_ite h with ⟨c3436, h⟩ | ⟨c3436, h⟩
      · skip
        obtain rfl := Option.some.inj h
        exact rfl
      · skip
        obtain ⟨-, h⟩ := am_if_some h
        exact (frJ_UpRiverModel_sheet_L40  _ _ _ _ _ h hw).trans ((am_upn (am_nw_a hw 1 rfl)).trans ((am_upn (am_nw_a hw 0 rfl)).trans rfl))
theorem frJ_UpRiverModel_lay  {x1 : Int} {x2 : Int} {x3 : Int} {J : am_J} {r : Int × am_J} {a j : Nat} (h : f_UpRiverModel_lay  x1 x2 x3 J = some r) (hw : am_nw [(77, none)] a j = true) : r.2 a j = J a j := by
  unfold f_UpRiverModel_lay at h
  obtain ⟨q3437, e3438, h⟩ := am_bind_some h
  obtain ⟨-, h⟩ := am_if_some h
  rcases am_ite h with ⟨c3439, h⟩ | ⟨c3439, h⟩
  · skip
    obtain rfl := Option.some.inj h
    exact rfl
  · skip
    obtain ⟨-, h⟩ := am_if_some h
    obtain ⟨-, h⟩ := am_if_some h
    rcases am_ite h with ⟨c3440, h⟩ | ⟨c3440, h⟩
    · skip
      obtain rfl := Option.some.inj h
      exact rfl
    · skip
      obtain ⟨q3441, e3442, h⟩ := am_bind_some h
      obtain ⟨-, h⟩ := am_if_some h
      rcases am_ite h with ⟨c3443, h⟩ | ⟨c3443, h⟩
      · skip
        obtain rfl := Option.some.inj h
        exact rfl
      · skip
        rcases am_ite h with ⟨c3444, h⟩ | ⟨c3444, h⟩
        · skip
          obtain ⟨-, h⟩ := am_if_some h
          obtain rfl := Option.some.inj h
          exact ((am_upn (am_nw_a hw 0 rfl)).trans rfl)
        · skip
          rcases am_ite h with ⟨c3445, h⟩ | ⟨c3445, h⟩
          · skip
            obtain ⟨-, h⟩ := am_if_some h
            obtain rfl := Option.some.inj h
            exact ((am_upn (am_nw_a hw 0 rfl)).trans rfl)
          · skip
            obtain ⟨-, h⟩ := am_if_some h
            obtain rfl := Option.some.inj h
            exact ((am_upn (am_nw_a hw 0 rfl)).trans rfl)
theorem frJ_UpRiverModel_read_L143  {a j : Nat} {kb41 : Int → Int → Int → Int → Int → Int → Int → Int → am_J → Option (Int × am_J)} (hk41 : ∀ (x1 : Int) (x2 : Int) (x3 : Int) (x4 : Int) (x5 : Int) (x6 : Int) (x7 : Int) (x8 : Int) (J : am_J) (r : Int × am_J), kb41 x1 x2 x3 x4 x5 x6 x7 x8 J = some r → am_nw [(65, some 41), (68, none)] a j = true → r.2 a j = J a j) : ∀ (x1 : Int) (x2 : Int) (x3 : Int) (x4 : Int) (x5 : Int) (x6 : Int) (x7 : Int) (x8 : Int) (J : am_J) (r : Int × am_J), f_UpRiverModel_read_L143  kb41  x1 x2 x3 x4 x5 x6 x7 x8 J = some r → am_nw [(65, some 41), (68, none)] a j = true → r.2 a j = J a j := by
  intro x1 x2 x3 x4 x5 x6 x7 x8 J r h hw
  unfold f_UpRiverModel_read_L143 at h
  obtain ⟨-, h⟩ := am_if_some h
  rcases am_ite h with ⟨c3446, h⟩ | ⟨c3446, h⟩
  · skip
    obtain ⟨-, h⟩ := am_if_some h
    obtain ⟨-, h⟩ := am_if_some h
    obtain ⟨q3447, e3448, h⟩ := am_bind_some h
    obtain ⟨-, h⟩ := am_if_some h
    rcases am_ite h with ⟨c3449, h⟩ | ⟨c3449, h⟩
    · skip
      obtain rfl := Option.some.inj h
      exact ((am_upn (am_nw_a hw 1 rfl)).trans ((frJ_UpRiverModel_logged e3448 (am_nw_pick hw [1] rfl)).trans rfl))
    · skip
      exact (hk41 _ _ _ _ _ _ _ _ _ _ h hw).trans ((frJ_UpRiverModel_logged e3448 (am_nw_pick hw [1] rfl)).trans rfl)
  · skip
    exact (hk41 _ _ _ _ _ _ _ _ _ _ h hw).trans rfl
theorem frJ_UpRiverModel_read_L56  {a j : Nat} {kb41 : Int → Int → Int → Int → Int → Int → Int → Int → am_J → Option (Int × am_J)} (hk41 : ∀ (x1 : Int) (x2 : Int) (x3 : Int) (x4 : Int) (x5 : Int) (x6 : Int) (x7 : Int) (x8 : Int) (J : am_J) (r : Int × am_J), kb41 x1 x2 x3 x4 x5 x6 x7 x8 J = some r → am_nw [(65, some 41), (68, none)] a j = true → r.2 a j = J a j) : ∀ (n : Nat) (x1 : Int) (x2 : Int) (x3 : Int) (x4 : Int) (x5 : Int) (x6 : Int) (x7 : Int) (x8 : Int) (x9 : Int) (J : am_J) (r : Int × am_J), f_UpRiverModel_read_L56  kb41 n x1 x2 x3 x4 x5 x6 x7 x8 x9 J = some r → am_nw [(65, some 41), (68, none)] a j = true → r.2 a j = J a j := by
  intro n
  induction n with
  | zero =>
    intro x1 x2 x3 x4 x5 x6 x7 x8 x9 J r h hw
    cases h
  | succ n ih =>
    intro x1 x2 x3 x4 x5 x6 x7 x8 x9 J r h hw
    rw [f_UpRiverModel_read_L56.eq_2] at h
    obtain ⟨-, h⟩ := am_if_some h
    rcases am_ite h with ⟨c3450, h⟩ | ⟨c3450, h⟩
    · skip
      obtain ⟨-, h⟩ := am_if_some h
      rcases am_ite h with ⟨c3451, h⟩ | ⟨c3451, h⟩
      · skip
        obtain ⟨-, h⟩ := am_if_some h
        obtain ⟨-, h⟩ := am_if_some h
        rcases am_ite h with ⟨c3452, h⟩ | ⟨c3452, h⟩
        · skip
          exact (ih _ _ _ _ _ _ _ _ _ _ _ h hw).trans rfl
        · skip
          obtain ⟨-, h⟩ := am_if_some h
          rcases am_ite h with ⟨c3453, h⟩ | ⟨c3453, h⟩
          · skip
            obtain ⟨-, h⟩ := am_if_some h
            rcases am_ite h with ⟨c3454, h⟩ | ⟨c3454, h⟩
            · skip
              exact (ih _ _ _ _ _ _ _ _ _ _ _ h hw).trans rfl
            · skip
              obtain ⟨-, h⟩ := am_if_some h
              rcases am_ite h with ⟨c3455, h⟩ | ⟨c3455, h⟩
              · skip
                exact (ih _ _ _ _ _ _ _ _ _ _ _ h hw).trans rfl
              · skip
                exact (ih _ _ _ _ _ _ _ _ _ _ _ h hw).trans rfl
          · skip
            exact (ih _ _ _ _ _ _ _ _ _ _ _ h hw).trans rfl
      · skip
        exact (frJ_UpRiverModel_read_L143 hk41 _ _ _ _ _ _ _ _ _ _ h hw).trans rfl
    · skip
      exact (frJ_UpRiverModel_read_L143 hk41 _ _ _ _ _ _ _ _ _ _ h hw).trans rfl
theorem frJ_UpRiverModel_read_L41  {a j : Nat}  : ∀ (n : Nat) (x1 : Int) (x2 : Int) (x3 : Int) (x4 : Int) (x5 : Int) (x6 : Int) (x7 : Int) (x8 : Int) (J : am_J) (r : Int × am_J), f_UpRiverModel_read_L41   n x1 x2 x3 x4 x5 x6 x7 x8 J = some r → am_nw [(65, some 41), (68, none)] a j = true → r.2 a j = J a j := by
  intro n
  induction n with
  | zero =>
    intro x1 x2 x3 x4 x5 x6 x7 x8 J r h hw
    cases h
  | succ n ih =>
    intro x1 x2 x3 x4 x5 x6 x7 x8 J r h hw
    rw [f_UpRiverModel_read_L41.eq_2] at h
    obtain ⟨-, h⟩ := am_if_some h
    obtain ⟨-, h⟩ := am_if_some h
    rcases am_ite h with ⟨c3456, h⟩ | ⟨c3456, h⟩
    · skip
      obtain ⟨-, h⟩ := am_if_some h
      rcases am_ite h with ⟨c3457, h⟩ | ⟨c3457, h⟩
      · skip
        exact (frJ_UpRiverModel_read_L56 ih _ _ _ _ _ _ _ _ _ _ _ _ h hw).trans rfl
      · skip
        obtain rfl := Option.some.inj h
        exact ((am_upn (am_nw_f hw 0 rfl)).trans rfl)
    · skip
      obtain rfl := Option.some.inj h
      exact ((am_upn (am_nw_f hw 0 rfl)).trans rfl)
theorem frJ_UpRiverModel_read  {x1 : Int} {x2 : Int} {x3 : Int} {x4 : Int} {J : am_J} {r : Int × am_J} {a j : Nat} (h : f_UpRiverModel_read  x1 x2 x3 x4 J = some r) (hw : am_nw [(65, some 41), (68, none)] a j = true) : r.2 a j = J a j := by
  unfold f_UpRiverModel_read at h
  obtain ⟨q3458, e3459, h⟩ := am_bind_some h
  obtain ⟨-, h⟩ := am_if_some h
  rcases am_ite h with ⟨c3460, h⟩ | ⟨c3460, h⟩
  · skip
    obtain rfl := Option.some.inj h
    exact rfl
  · skip
    obtain ⟨q3461, e3462, h⟩ := am_bind_some h
    obtain ⟨-, h⟩ := am_if_some h
    rcases am_ite h with ⟨c3463, h⟩ | ⟨c3463, h⟩
    · skip
      obtain rfl := Option.some.inj h
      exact rfl
    · skip
      exact (frJ_UpRiverModel_read_L41  _ _ _ _ _ _ _ _ _ _ _ h hw).trans rfl
