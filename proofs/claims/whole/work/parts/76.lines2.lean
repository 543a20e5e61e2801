theorem gm_bank : ∀ r, r < 8 → gm (14 + r) (0 + r) := fun r hr => Or.inl ⟨r, hr, rfl, by omega⟩
theorem gm_lee : ∀ r, r < 8 → gm (22 + r) (12 + r) := fun r hr => Or.inr (Or.inl ⟨r, hr, rfl, rfl⟩)
theorem gm_wind : ∀ r, r < 8 → gm (30 + r) (24 + r) := fun r hr => Or.inr (Or.inr (Or.inl ⟨r, hr, rfl, rfl⟩))
theorem gm_deep : ∀ i, i < 72 → gm (38 + i) (36 + i) := fun i hi => Or.inr (Or.inr (Or.inr (Or.inl ⟨i, hi, rfl, rfl⟩)))
theorem gm_eddy : ∀ i, i < 72 → gm (110 + i) (144 + i) := fun i hi => Or.inr (Or.inr (Or.inr (Or.inr ⟨i, hi, rfl, rfl⟩)))
/-- a reach that is told: the highest -/
theorem tell_r {b : Bool} {kc : Int} {J1 A : am_J} (hk : kc = 7 ∨ kc = 8 ∨ kc = 9 ∨ kc = 10 ∨ kc = 11) (h : f_Reader_tellReach b kc (J1 5 0) J1 = some A) (h9 : am_i32 (A 1 9)) (h5 : am_i32 (A 5 0)) : f_Reader_tell b kc J1 = some (am_up A 1 9 (if A 1 9 < A 5 0 then A 5 0 else A 1 9)) := by
  unfold f_Reader_tell
  rw [if_pos (show am_i32 kc by omega), if_neg (show ¬ kc < 7 by omega), if_neg (show ¬ kc = 12 by omega), if_neg (show ¬ kc = 13 by omega), h]
  simp only [Option.bind_some]
  rw [j_max h9 h5]
  rfl
theorem line_lee {N : Nat} {T : Nat → Int} (hT : tpO N T) {b : Bool} {p : Nat} {J J2 : am_J} (h : PRE N T p J J2) (hL : LB b J J2) : LR b N T p (f_Reader_readLine_L74 b am_FU 10 0 J) ((f_UpRiverModel_readLineOf 11 J2).bind rfE) := by
  obtain ⟨n, hn⟩ : ∃ n, am_FU = n + 2 := ⟨19998, rfl⟩
  have h6 := HT_6 hL.2.2.2
  have h70 := hL.1.1.1.1
  have h19 := hL.2.2.2.1
  obtain ⟨r, J2', x1, x2, x3, x4, x5⟩ := lnR hT (b := b) (n := n + 1) (kc := 10) (cnt := 1) h hL.2.1 h6 rfl (by decide) rfl rfl (cm := 22) (rows := 12) (fun A => rfl) gm_lee
  have x1' : f_UpRiverModel_readReach 1 12 J2 = some (r, J2') := x1
  have ml : f_UpRiverModel_readLineOf 11 J2 = some (am_up J2' 67 (31 + r).toNat 1) := by
    unfold f_UpRiverModel_readLineOf
    rw [if_pos (show am_i32 11 by decide), if_neg (show ¬ (11 : Int) < 7 by decide), if_neg (show ¬ (11 : Int) = 7 by decide), if_neg (show ¬ (11 : Int) = 8 by decide), if_neg (show ¬ (11 : Int) = 10 by decide), if_pos (show (11 : Int) = 11 from rfl), x1']
    simp only [Option.bind_some]
    rw [if_pos (show 0 ≤ 31 + r ∧ 31 + r < 295 by omega)]
  rw [ml, hn]
  simp only [Option.bind_some]
  obtain ⟨rn, hrn⟩ : ∃ rn : Nat, r = (rn : Int) := ⟨r.toNat, by omega⟩
  have hr8 : rn < 8 := by omega
  rw [show (31 + r).toNat = 31 + rn by omega]
  rcases x5 with ⟨J'', p', y1, y2, y3, y4, y5, y6, y7⟩ | ⟨J', y1, y2, y3⟩
  · rw [y2, L74_end (cnt := 1) rfl (by decide) (by decide)]
    rw [show r.toNat = rn by omega] at y5 y6
    refine endL hT (Nat.le_of_lt y1) (PRE_67 y3 (31 + rn) 1) (by rw [up_ne (by omega), x3.1 67 (by decide) (by decide)]; omega) (by rw [up_row (by decide)]; exact x4) fun J1 u1 u2 => ?_
    have od := dr_o b
    have j50 : J1 5 0 = r := by rw [u1 5 (by decide)]; exact y4.1
    have kpr : ∀ a, a ≠ 1 → a ≠ 4 → a ≠ 5 → J1 a = J a := fun a a1 a4 a5 => by rw [u1 a a1, y4.2.2.1 a a1 a4 a5]
    have tr : f_Reader_tellReach b 10 (J1 5 0) J1 = some (am_up J1 (am_dr b + 7) rn 1) := by
      unfold f_Reader_tellReach
      rw [if_pos (show am_i32 10 by decide), if_neg (show ¬ (10 : Int) = 7 by decide), if_neg (show ¬ (10 : Int) = 8 by decide), if_neg (show ¬ (10 : Int) = 9 by decide), if_pos (show (10 : Int) = 10 from rfl), j50, if_pos (show 0 ≤ r ∧ r < 8 by omega), show r.toNat = rn by omega]
    have j19 : J1 1 9 = J 1 9 := by rw [u2]; exact y4.2.2.2
    have tl := tell_r (kc := 10) (by omega) tr (by rw [up_row (by omega), j19]; omega) (by rw [up_row (by omega), j50]; omega)
    refine ⟨_, tl, fun J2'' v1 v2 v3 => ?_⟩
    have e67 : J2'' 67 = vu (J2 67) (31 + rn) 1 := by rw [v1 67 (by decide), up_vu, x3.1 67 (by decide) (by decide)]
    refine ⟨⟨?_, ?_⟩, MR_set hL.2.1 (gm_lee rn hr8) ?_ ?_, ML_set hL.2.2.1 (c := 22 + rn) (by omega) ?_ ?_, HT_r hL.2.2.2 (r := r) (by omega) ?_ ?_ ?_ ?_⟩
    · rw [e67]; exact rv_lee hL.1.1 hr8
    · rw [e67]
      refine rq_fr (rq_lee (rq_fr (J' := J1) hL.1.2 fun i h1 h9 j => by rw [kpr _ (by omega) (by omega) (by omega)]) hr8) fun i h1 h9 j => by rw [up_row (by omega)]
    · rw [up_row (by decide), up_row (by omega), u1 4 (by decide)]; exact y5
    · rw [v1 70 (by decide), up_row (by decide)]; exact y6
    · rw [up_row (by decide), up_row (by omega), u1 4 (by decide)]; exact y5
    · rw [v2, up_row (by decide)]; exact x3.2
    · rw [up_at, up_row (by omega), up_row (by omega), j19, j50]
    · rw [v3, up_row (by decide)]; exact y7
    · intro i hi ne; rw [e67, vu_ne (by omega)]
    · intro i hi ne; rw [e67, vu_ne (by omega)]
  · have h12 := h.2.2.1.1
    exact LR_f y1 (FL_67 ⟨y2, by rw [y3]; exact h12, x4, by rw [x3.1 67 (by decide) (by decide)]; omega⟩ _ (by decide)) rfl
theorem line_wind {N : Nat} {T : Nat → Int} (hT : tpO N T) {b : Bool} {p : Nat} {J J2 : am_J} (h : PRE N T p J J2) (hL : LB b J J2) : LR b N T p (f_Reader_readLine_L74 b am_FU 11 0 J) ((f_UpRiverModel_readLineOf 12 J2).bind rfE) := by
  obtain ⟨n, hn⟩ : ∃ n, am_FU = n + 3 := ⟨19997, rfl⟩
  have h6 := HT_6 hL.2.2.2
  have h70 := hL.1.1.1.1
  have h19 := hL.2.2.2.1
  have h12 := h.2.2.1.1
  obtain ⟨r, J2', x1, x2, x3, x4, x5⟩ := lnR hT (b := b) (n := n + 2) (kc := 11) (cnt := 2) h hL.2.1 h6 rfl (by decide) rfl rfl (cm := 30) (rows := 24) (fun A => rfl) gm_wind
  have x1' : f_UpRiverModel_readReach 1 24 J2 = some (r, J2') := x1
  have mlG : ∀ w J3, f_UpRiverModel_readNumber 0 2 J2' = some (w, J3) → f_UpRiverModel_readLineOf 12 J2 = some (am_up J3 67 (43 + r).toNat w) := by
    intro w J3 u
    unfold f_UpRiverModel_readLineOf
    rw [if_pos (show am_i32 12 by decide), if_neg (show ¬ (12 : Int) < 7 by decide), if_neg (show ¬ (12 : Int) = 7 by decide), if_neg (show ¬ (12 : Int) = 8 by decide), if_neg (show ¬ (12 : Int) = 10 by decide), if_neg (show ¬ (12 : Int) = 11 by decide), if_pos (show (12 : Int) = 12 from rfl), x1']
    simp only [Option.bind_some]
    rw [u]
    simp only [Option.bind_some]
    rw [if_pos (show 0 ≤ 43 + r ∧ 43 + r < 295 by omega)]
  obtain ⟨rn, hrn⟩ : ∃ rn : Nat, r = (rn : Int) := ⟨r.toNat, by omega⟩
  have hr8 : rn < 8 := by omega
  rw [hn]
  rcases x5 with ⟨J'', p', y1, y2, y3, y4, y5, y6, y7⟩ | ⟨J', y1, y2, y3⟩
  · rw [show r.toNat = rn by omega] at y5 y6
    obtain ⟨w, J3, z1, z2, z3, z4, z5, z6⟩ := lnN hT (b := b) (n := n + 1) (kc := 11) (i := 0 + 1) (cnt := 2) (lo := 0) (hi := 2) y3 rfl (by decide) (by decide) rfl rfl (fun A => rfl) (by decide) (by decide)
    rw [mlG w J3 z1, y2]
    simp only [Option.bind_some]
    rw [show (43 + r).toNat = 43 + rn by omega]
    have e67' : J3 67 = J2 67 := by rw [z3.1 67 (by decide) (by decide), x3.1 67 (by decide) (by decide)]
    rcases z6 with ⟨J3', p'', q1, q2, q3, q4, q5, q6⟩ | ⟨J', q1, q2, q3⟩
    · rw [q2, L74_end (cnt := 2) rfl (by decide) (by decide)]
      refine endL hT (Nat.le_of_lt (Nat.lt_trans y1 q1)) (PRE_67 q3 (43 + rn) w) (by rw [up_ne (by omega), e67']; omega) (by rw [up_row (by decide), z5]; exact x4) fun J1 u1 u2 => ?_
      have od := dr_o b
      have j50 : J1 5 0 = r := by rw [u1 5 (by decide), q5.2.1 0 (by decide)]; exact y4.1
      have j51 : J1 5 1 = w := by rw [u1 5 (by decide)]; exact q5.1
      have kpr : ∀ a, a ≠ 1 → a ≠ 4 → a ≠ 5 → J1 a = J a := fun a a1 a4 a5 => by rw [u1 a a1, q5.2.2.1 a a1 a4 a5, y4.2.2.1 a a1 a4 a5]
      have tr : f_Reader_tellReach b 11 (J1 5 0) J1 = some (am_up J1 (am_dr b + 6) rn w) := by
        unfold f_Reader_tellReach
        rw [if_pos (show am_i32 11 by decide), if_neg (show ¬ (11 : Int) = 7 by decide), if_neg (show ¬ (11 : Int) = 8 by decide), if_neg (show ¬ (11 : Int) = 9 by decide), if_neg (show ¬ (11 : Int) = 10 by decide), j50, j51, if_pos (show 0 ≤ r ∧ r < 8 by omega), show r.toNat = rn by omega]
      have j19 : J1 1 9 = J 1 9 := by rw [u2, q5.2.2.2]; exact y4.2.2.2
      have tl := tell_r (kc := 11) (by omega) tr (by rw [up_row (by omega), j19]; omega) (by rw [up_row (by omega), j50]; omega)
      refine ⟨_, tl, fun J2'' v1 v2 v3 => ?_⟩
      have e67 : J2'' 67 = vu (J2 67) (43 + rn) w := by rw [v1 67 (by decide), up_vu, e67']
      have j4 : J1 4 = (am_up J 4 (30 + rn) 1) 4 := by rw [u1 4 (by decide), q6, y5]
      refine ⟨⟨?_, ?_⟩, MR_set hL.2.1 (gm_wind rn hr8) ?_ ?_, ML_set hL.2.2.1 (c := 30 + rn) (by omega) ?_ ?_, HT_r hL.2.2.2 (r := r) (by omega) ?_ ?_ ?_ ?_⟩
      · rw [e67]; exact rv_wind hL.1.1 hr8 q4
      · rw [e67]
        refine rq_fr (rq_wind (rq_fr (J' := J1) hL.1.2 fun i h1 h9 j => by rw [kpr _ (by omega) (by omega) (by omega)]) hr8 w) fun i h1 h9 j => by rw [up_row (by omega)]
      · rw [up_row (by decide), up_row (by omega)]; exact j4
      · rw [v1 70 (by decide), up_row (by decide), z4]; exact y6
      · rw [up_row (by decide), up_row (by omega)]; exact j4
      · rw [v2, up_row (by decide), z3.2]; exact x3.2
      · rw [up_at, up_row (by omega), up_row (by omega), j19, j50]
      · rw [v3, up_row (by decide), z5]; exact y7
      · intro i hi ne; rw [e67, vu_ne (by omega)]
      · intro i hi ne; rw [e67, vu_ne (by omega)]
    · have h12' := y3.2.2.1.1
      exact LR_f q1 (FL_67 ⟨q2, by rw [q3]; exact h12', by rw [z5]; exact x4, by rw [e67']; omega⟩ _ (by omega)) rfl
  · have h12' : 0 ≤ J2' 65 12 ∧ J2' 65 12 ≤ 999 := by rw [y3]; exact h12
    rw [mlG _ _ (m_readN_f y2.2.2.1 0 2)]
    exact LR_f y1 (FL_67 ⟨y2, h12', x4, by rw [x3.1 67 (by decide) (by decide)]; omega⟩ _ (by omega)) rfl
theorem line_bank {N : Nat} {T : Nat → Int} (hT : tpO N T) {b : Bool} {p : Nat} {J J2 : am_J} (h : PRE N T p J J2) (hL : LB b J J2) : LR b N T p (f_Reader_readLine_L74 b am_FU 7 0 J) ((f_UpRiverModel_readLineOf 10 J2).bind rfE) := by
  obtain ⟨n, hn⟩ : ∃ n, am_FU = n + 4 := ⟨19996, rfl⟩
  have h6 := HT_6 hL.2.2.2
  have h70 := hL.1.1.1.1
  have h19 := hL.2.2.2.1
  have h12 := h.2.2.1.1
  obtain ⟨r, J2', x1, x2, x3, x4, x5⟩ := lnR hT (b := b) (n := n + 3) (kc := 7) (cnt := 3) h hL.2.1 h6 rfl (by decide) rfl rfl (cm := 14) (rows := 0) (fun A => rfl) gm_bank
  have x1' : f_UpRiverModel_readReach 1 0 J2 = some (r, J2') := x1
  have mlG : ∀ w J3 w2 J4, f_UpRiverModel_readNumber 0 8 J2' = some (w, J3) → f_UpRiverModel_readNumber w 8 (am_up J3 67 (7 + r).toNat w) = some (w2, J4) → f_UpRiverModel_readLineOf 10 J2 = some (am_up J4 67 (19 + r).toNat w2) := by
    intro w J3 w2 J4 u1 u2
    unfold f_UpRiverModel_readLineOf
    rw [if_pos (show am_i32 10 by decide), if_neg (show ¬ (10 : Int) < 7 by decide), if_neg (show ¬ (10 : Int) = 7 by decide), if_neg (show ¬ (10 : Int) = 8 by decide), if_pos (show (10 : Int) = 10 from rfl), x1']
    simp only [Option.bind_some]
    rw [u1]
    simp only [Option.bind_some]
    rw [if_pos (show 0 ≤ 7 + r ∧ 7 + r < 295 by omega), up_at, u2]
    simp only [Option.bind_some]
    rw [if_pos (show 0 ≤ 19 + r ∧ 19 + r < 295 by omega)]
  obtain ⟨rn, hrn⟩ : ∃ rn : Nat, r = (rn : Int) := ⟨r.toNat, by omega⟩
  have hr8 : rn < 8 := by omega
  have e7 : (7 + r).toNat = 7 + rn := by omega
  have e19 : (19 + r).toNat = 19 + rn := by omega
  rw [hn]
  rcases x5 with ⟨J'', p', y1, y2, y3, y4, y5, y6, y7⟩ | ⟨J', y1, y2, y3⟩
  · rw [show r.toNat = rn by omega] at y5 y6
    obtain ⟨w, J3, z1, z2, z3, z4, z5, z6⟩ := lnN hT (b := b) (n := n + 2) (kc := 7) (i := 0 + 1) (cnt := 3) (lo := 0) (hi := 8) y3 rfl (by decide) (by decide) rfl rfl (fun A => rfl) (by decide) (by decide)
    have e67' : J3 67 = J2 67 := by rw [z3.1 67 (by decide) (by decide), x3.1 67 (by decide) (by decide)]
    rcases z6 with ⟨J3', p'', q1, q2, q3, q4, q5, q6⟩ | ⟨J', q1, q2, q3⟩
    · have lst : f_Reader_leastOf J3' 7 (0 + 1 + 1) = some w := by
        show some (J3' 5 1) = some w
        rw [show J3' 5 1 = w from q5.1]
      obtain ⟨w2, J4, g1, g2, g3, g4, g5, g6⟩ := lnN hT (b := b) (n := n + 1) (kc := 7) (i := 0 + 1 + 1) (cnt := 3) (lo := w) (hi := 8) (PRE_67 q3 (7 + rn) w) rfl (by decide) (by decide) lst rfl (fun A => rfl) (by omega) (by decide)
      rw [mlG w J3 w2 J4 z1 (by rw [e7]; exact g1), y2, q2, e19]
      simp only [Option.bind_some]
      have e67b : J4 67 = vu (J2 67) (7 + rn) w := by rw [g3.1 67 (by decide) (by decide), up_vu, e67']
      rcases g6 with ⟨J5, p3, f1, f2, f3, f4, f5, f6⟩ | ⟨J', f1, f2, f3⟩
      · rw [f2, L74_end (cnt := 3) rfl (by decide) (by decide)]
        refine endL hT (Nat.le_of_lt (Nat.lt_trans y1 (Nat.lt_trans q1 f1))) (PRE_67 f3 (19 + rn) w2) (by rw [up_ne (by omega), e67b, vu_ne (by omega)]; omega) (by rw [up_row (by decide), g5, up_row (by decide), z5]; exact x4) fun J1 u1 u2 => ?_
        have od := dr_o b
        have j50 : J1 5 0 = r := by rw [u1 5 (by decide), f5.2.1 0 (by decide), q5.2.1 0 (by decide)]; exact y4.1
        have j51 : J1 5 1 = w := by rw [u1 5 (by decide), f5.2.1 1 (by decide)]; exact q5.1
        have j52 : J1 5 2 = w2 := by rw [u1 5 (by decide)]; exact f5.1
        have kpr : ∀ a, a ≠ 1 → a ≠ 4 → a ≠ 5 → J1 a = J a := fun a a1 a4 a5 => by rw [u1 a a1, f5.2.2.1 a a1 a4 a5, q5.2.2.1 a a1 a4 a5, y4.2.2.1 a a1 a4 a5]
        have tr : f_Reader_tellReach b 7 (J1 5 0) J1 = some (am_up (am_up J1 (am_dr b + 4) rn w) (am_dr b + 5) rn w2) := by
          unfold f_Reader_tellReach
          rw [if_pos (show am_i32 7 by decide), if_pos (show (7 : Int) = 7 from rfl), j50, j51, j52, if_pos (show 0 ≤ r ∧ r < 8 by omega), show r.toNat = rn by omega]
        have j19 : J1 1 9 = J 1 9 := by rw [u2, f5.2.2.2, q5.2.2.2]; exact y4.2.2.2
        have tl := tell_r (kc := 7) (by omega) tr (by rw [up_row (by omega), up_row (by omega), j19]; omega) (by rw [up_row (by omega), up_row (by omega), j50]; omega)
        refine ⟨_, tl, fun J2'' v1 v2 v3 => ?_⟩
        have e67 : J2'' 67 = vu (vu (J2 67) (7 + rn) w) (19 + rn) w2 := by rw [v1 67 (by decide), up_vu, e67b]
        have j4 : J1 4 = (am_up J 4 (14 + rn) 1) 4 := by rw [u1 4 (by decide), f6, q6, y5]
        refine ⟨⟨?_, ?_⟩, MR_set hL.2.1 (gm_bank rn hr8) ?_ ?_, ML_set hL.2.2.1 (c := 14 + rn) (by omega) ?_ ?_, HT_r hL.2.2.2 (r := r) (by omega) ?_ ?_ ?_ ?_⟩
        · rw [e67]; exact rv_bank hL.1.1 hr8 (by omega)
        · rw [e67]
          refine rq_fr (rq_bank (rq_fr (J' := J1) hL.1.2 fun i h1 h9 j => by rw [kpr _ (by omega) (by omega) (by omega)]) hr8 w w2) fun i h1 h9 j => by rw [up_row (by omega)]
        · rw [up_row (by decide), up_row (by omega), up_row (by omega)]; exact j4
        · rw [v1 70 (by decide), up_row (by decide), g4, up_row (by decide), z4]; exact y6
        · rw [up_row (by decide), up_row (by omega), up_row (by omega)]; exact j4
        · rw [v2, up_row (by decide), g3.2, up_row (by decide), z3.2]; exact x3.2
        · rw [up_at, up_row (by omega), up_row (by omega), up_row (by omega), up_row (by omega), j19, j50]
        · rw [v3, up_row (by decide), g5, up_row (by decide), z5]; exact y7
        · intro i hi ne; rw [e67, vu_ne (by omega), vu_ne (by omega)]
        · intro i hi ne; rw [e67, vu_ne (by omega), vu_ne (by omega)]
      · have h12' := q3.2.2.1.1
        exact LR_f f1 (FL_67 ⟨f2, by rw [f3, up_row (by decide)]; exact h12', by rw [g5, up_row (by decide), z5]; exact x4, by rw [e67b, vu_ne (by omega)]; omega⟩ _ (by omega)) rfl
    · have h12' := y3.2.2.1.1
      have h12'' : 0 ≤ J3 65 12 ∧ J3 65 12 ≤ 999 := by rw [q3]; exact h12'
      have F3 : FL J' J3 := ⟨q2, h12'', by rw [z5]; exact x4, by rw [e67']; omega⟩
      have F4 := FL_67 F3 (7 + rn) (w := w) (by omega)
      rw [mlG w J3 _ _ z1 (by rw [e7]; exact m_readN_f F4.1.2.2.1 w 8), y2]
      exact LR_f q1 (FL_67 F4 _ (by rw [up_row (by decide)]; omega)) rfl
  · have h12' : 0 ≤ J2' 65 12 ∧ J2' 65 12 ≤ 999 := by rw [y3]; exact h12
    have F3 : FL J' J2' := ⟨y2, h12', x4, by rw [x3.1 67 (by decide) (by decide)]; omega⟩
    have F4 := FL_67 F3 (7 + rn) (w := J2' 65 12) (by omega)
    rw [mlG _ _ _ _ (m_readN_f y2.2.2.1 0 8) (by rw [e7]; exact m_readN_f F4.1.2.2.1 _ 8)]
    exact LR_f y1 (FL_67 F4 _ (by rw [up_row (by decide)]; omega)) rfl
