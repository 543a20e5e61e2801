theorem line_eddy {N : Nat} {T : Nat → Int} (hT : tpO N T) {b : Bool} {p : Nat} {J J2 : am_J} (h : PRE N T p J J2) (hL : LB b J J2) : LR b N T p (f_Reader_readLine_L74 b am_FU 9 0 J) ((f_UpRiverModel_readLineOf 14 J2).bind rfE) := by
  obtain ⟨n, hn⟩ : ∃ n, am_FU = n + 3 := ⟨19997, rfl⟩
  have h6 := HT_6 hL.2.2.2
  have h70 := hL.1.1.1.1
  have h19 := hL.2.2.2.1
  have h12 := h.2.2.1.1
  obtain ⟨r, J2', x1, x2, x3, x3b, x4, x5⟩ := lnR0 hT (b := b) (n := n + 2) (kc := 9) (cnt := 2) h h6 rfl (by decide) rfl rfl (fun A => rfl)
  have mlG : ∀ l J3, plT 144 r J2' = some (9 * r + l, J3) → (0 ≤ l ∧ l ≤ 8) → f_UpRiverModel_readLineOf 14 J2 = some (am_up J3 67 (163 + (9 * r + l)).toNat 1) := by
    intro l J3 u hl
    unfold f_UpRiverModel_readLineOf
    rw [if_pos (show am_i32 14 by decide), if_neg (show ¬ (14 : Int) < 7 by decide), if_neg (show ¬ (14 : Int) = 7 by decide), if_neg (show ¬ (14 : Int) = 8 by decide), if_neg (show ¬ (14 : Int) = 10 by decide), if_neg (show ¬ (14 : Int) = 11 by decide), if_neg (show ¬ (14 : Int) = 12 by decide), if_neg (show ¬ (14 : Int) = 13 by decide), place_eq x1, u]
    simp only [Option.bind_some]
    rw [if_pos (show 0 ≤ 163 + (9 * r + l) ∧ 163 + (9 * r + l) < 295 by omega)]
  rw [hn]
  rcases x5 with ⟨J'', p', y1, y2, y3, y4, y5, y7⟩ | ⟨J', y1, y2, y3⟩
  · obtain ⟨l, J3, z1, z2, z3, z5, z6⟩ := lnP hT (b := b) (n := n + 1) (kc := 9) (cnt := 2) (r := r) y3 (MR_row hL.2.1 y5 x3b) x2 y4.1 rfl (by decide) rfl rfl (cm := 110) (rows := 144) (fun A => rfl) gm_eddy
    obtain ⟨k, hk⟩ : ∃ k : Nat, 9 * r + l = (k : Int) := ⟨(9 * r + l).toNat, by omega⟩
    have hk72 : k < 72 := by omega
    have ek : (9 * r + l).toNat = k := by omega
    rw [mlG l J3 z1 z2, y2, show (163 + (9 * r + l)).toNat = 163 + k by omega]
    simp only [Option.bind_some]
    have e67' : J3 67 = J2 67 := by rw [z3.1 67 (by decide) (by decide), x3.1 67 (by decide) (by decide)]
    rcases z6 with ⟨J3', p'', q1, q2, q3, q4, q5, q6⟩ | ⟨J', q1, q2, q3⟩
    · rw [show f_Reader_readLine_L74 b (n + 1 + 1) 9 (0 + 1) J'' = _ from q2, L74_end (cnt := 2) rfl (by decide) (by decide)]
      rw [ek] at q5 q6
      refine endL hT (Nat.le_of_lt (Nat.lt_trans y1 q1)) (PRE_67 q3 (163 + k) 1) (by rw [up_ne (by omega), e67']; omega) (by rw [up_row (by decide), z5]; exact x4) fun J1 u1 u2 => ?_
      have od := dr_o b
      have j50 : J1 5 0 = r := by rw [u1 5 (by decide), q4.2.1 0 (by decide)]; exact y4.1
      have j51 : J1 5 1 = l := by rw [u1 5 (by decide)]; exact q4.1
      have kpr : ∀ a, a ≠ 1 → a ≠ 4 → a ≠ 5 → J1 a = J a := fun a a1 a4 a5 => by rw [u1 a a1, q4.2.2.1 a a1 a4 a5, y4.2.2.1 a a1 a4 a5]
      have tr : f_Reader_tellReach b 9 (J1 5 0) J1 = some (am_up J1 (am_dr b + 9) k 1) := by
        unfold f_Reader_tellReach
        rw [if_pos (show am_i32 9 by decide), if_neg (show ¬ (9 : Int) = 7 by decide), if_neg (show ¬ (9 : Int) = 8 by decide), if_pos (show (9 : Int) = 9 from rfl), j50, j51, if_pos (show 0 ≤ r * 9 + l ∧ r * 9 + l < 72 by omega), show (r * 9 + l).toNat = k by omega]
      have j19 : J1 1 9 = J 1 9 := by rw [u2, q4.2.2.2]; exact y4.2.2.2
      have tl := tell_r (kc := 9) (by omega) tr (by rw [up_row (by omega), j19]; omega) (by rw [up_row (by omega), j50]; omega)
      refine ⟨_, tl, fun J2'' v1 v2 v3 => ?_⟩
      have e67 : J2'' 67 = vu (J2 67) (163 + k) 1 := by rw [v1 67 (by decide), up_vu, e67']
      have j4 : J1 4 = (am_up J 4 (110 + k) 1) 4 := by
        rw [u1 4 (by decide), q5]
        funext j
        by_cases e : j = 110 + k
        · rw [e, up_at, up_at]
        · rw [up_ne e, up_ne e, y5]
      have j70 : J2'' 70 = (am_up J2 70 (144 + k) 1) 70 := by
        rw [v1 70 (by decide), up_row (by decide), q6]
        funext j
        by_cases e : j = 144 + k
        · rw [e, up_at, up_at]
        · rw [up_ne e, up_ne e, x3b]
      refine ⟨⟨?_, ?_⟩, MR_set hL.2.1 (gm_eddy k hk72) ?_ j70, ML_set hL.2.2.1 (c := 110 + k) (by omega) ?_ ?_, HT_r hL.2.2.2 (r := r) (by omega) ?_ ?_ ?_ ?_⟩
      · rw [e67]; exact rv_eddy hL.1.1 hk72
      · rw [e67]
        refine rq_fr (rq_eddy (rq_fr (J' := J1) hL.1.2 fun i h1 h9 j => by rw [kpr _ (by omega) (by omega) (by omega)]) hk72) fun i h1 h9 j => by rw [up_row (by omega)]
      · rw [up_row (by decide), up_row (by omega)]; exact j4
      · rw [up_row (by decide), up_row (by omega)]; exact j4
      · rw [v2, up_row (by decide), z3.2]; exact x3.2
      · rw [up_at, up_row (by omega), up_row (by omega), j19, j50]
      · rw [v3, up_row (by decide), z5]; exact y7
      · intro i hi ne; rw [e67, vu_ne (by omega)]
      · intro i hi ne; rw [e67, vu_ne (by omega)]
    · have h12' := y3.2.2.1.1
      exact LR_f q1 (FL_67 ⟨q2, by rw [q3]; exact h12', by rw [z5]; exact x4, by rw [e67']; omega⟩ _ (by decide)) rfl
  · have h12' : 0 ≤ J2' 65 12 ∧ J2' 65 12 ≤ 999 := by rw [y3]; exact h12
    rw [mlG 0 _ (plT_f y2.2.2.1) (by omega)]
    exact LR_f y1 (FL_67 ⟨y2, h12', x4, by rw [x3.1 67 (by decide) (by decide)]; omega⟩ _ (by decide)) rfl
theorem line_deep {N : Nat} {T : Nat → Int} (hT : tpO N T) {b : Bool} {p : Nat} {J J2 : am_J} (h : PRE N T p J J2) (hL : LB b J J2) : LR b N T p (f_Reader_readLine_L74 b am_FU 8 0 J) ((f_UpRiverModel_readLineOf 13 J2).bind rfE) := by
  obtain ⟨n, hn⟩ : ∃ n, am_FU = n + 4 := ⟨19996, rfl⟩
  have h6 := HT_6 hL.2.2.2
  have h70 := hL.1.1.1.1
  have h19 := hL.2.2.2.1
  have h12 := h.2.2.1.1
  obtain ⟨r, J2', x1, x2, x3, x3b, x4, x5⟩ := lnR0 hT (b := b) (n := n + 3) (kc := 8) (cnt := 3) h h6 rfl (by decide) rfl rfl (fun A => rfl)
  have mlG : ∀ l J3 w J4, plT 36 r J2' = some (9 * r + l, J3) → (0 ≤ l ∧ l ≤ 8) → f_UpRiverModel_readNumber 0 30 J3 = some (w, J4) → f_UpRiverModel_readLineOf 13 J2 = some (am_up J4 67 (55 + (9 * r + l)).toNat w) := by
    intro l J3 w J4 u hl u2
    unfold f_UpRiverModel_readLineOf
    rw [if_pos (show am_i32 13 by decide), if_neg (show ¬ (13 : Int) < 7 by decide), if_neg (show ¬ (13 : Int) = 7 by decide), if_neg (show ¬ (13 : Int) = 8 by decide), if_neg (show ¬ (13 : Int) = 10 by decide), if_neg (show ¬ (13 : Int) = 11 by decide), if_neg (show ¬ (13 : Int) = 12 by decide), if_pos (show (13 : Int) = 13 from rfl), place_eq x1, u]
    simp only [Option.bind_some]
    rw [u2]
    simp only [Option.bind_some]
    rw [if_pos (show 0 ≤ 55 + (9 * r + l) ∧ 55 + (9 * r + l) < 295 by omega)]
  rw [hn]
  rcases x5 with ⟨J'', p', y1, y2, y3, y4, y5, y7⟩ | ⟨J', y1, y2, y3⟩
  · obtain ⟨l, J3, z1, z2, z3, z5, z6⟩ := lnP hT (b := b) (n := n + 2) (kc := 8) (cnt := 3) (r := r) y3 (MR_row hL.2.1 y5 x3b) x2 y4.1 rfl (by decide) rfl rfl (cm := 38) (rows := 36) (fun A => rfl) gm_deep
    obtain ⟨k, hk⟩ : ∃ k : Nat, 9 * r + l = (k : Int) := ⟨(9 * r + l).toNat, by omega⟩
    have hk72 : k < 72 := by omega
    have ek : (9 * r + l).toNat = k := by omega
    have e67' : J3 67 = J2 67 := by rw [z3.1 67 (by decide) (by decide), x3.1 67 (by decide) (by decide)]
    rcases z6 with ⟨J3', p'', q1, q2, q3, q4, q5, q6⟩ | ⟨J', q1, q2, q3⟩
    · rw [ek] at q5 q6
      obtain ⟨w, J4, g1, g2, g3, g4, g5, g6⟩ := lnN hT (b := b) (n := n + 1) (kc := 8) (i := 1 + 1) (cnt := 3) (lo := 0) (hi := 30) q3 rfl (by decide) (by decide) rfl rfl (fun A => rfl) (by decide) (by decide)
      rw [mlG l J3 w J4 z1 z2 g1, y2, show (55 + (9 * r + l)).toNat = 55 + k by omega, show f_Reader_readLine_L74 b (n + 2 + 1) 8 (0 + 1) J'' = _ from q2]
      simp only [Option.bind_some]
      have e67b : J4 67 = J2 67 := by rw [g3.1 67 (by decide) (by decide), e67']
      rcases g6 with ⟨J5, p3, f1, f2, f3, f4, f5, f6⟩ | ⟨J', f1, f2, f3⟩
      · rw [f2, L74_end (cnt := 3) rfl (by decide) (by decide)]
        refine endL hT (Nat.le_of_lt (Nat.lt_trans y1 (Nat.lt_trans q1 f1))) (PRE_67 f3 (55 + k) w) (by rw [up_ne (by omega), e67b]; omega) (by rw [up_row (by decide), g5, z5]; exact x4) fun J1 u1 u2 => ?_
        have od := dr_o b
        have j50 : J1 5 0 = r := by rw [u1 5 (by decide), f5.2.1 0 (by decide), q4.2.1 0 (by decide)]; exact y4.1
        have j51 : J1 5 1 = l := by rw [u1 5 (by decide), f5.2.1 1 (by decide)]; exact q4.1
        have j52 : J1 5 2 = w := by rw [u1 5 (by decide)]; exact f5.1
        have kpr : ∀ a, a ≠ 1 → a ≠ 4 → a ≠ 5 → J1 a = J a := fun a a1 a4 a5 => by rw [u1 a a1, f5.2.2.1 a a1 a4 a5, q4.2.2.1 a a1 a4 a5, y4.2.2.1 a a1 a4 a5]
        have tr : f_Reader_tellReach b 8 (J1 5 0) J1 = some (am_up J1 (am_dr b + 8) k w) := by
          unfold f_Reader_tellReach
          rw [if_pos (show am_i32 8 by decide), if_neg (show ¬ (8 : Int) = 7 by decide), if_pos (show (8 : Int) = 8 from rfl), j50, j51, j52, if_pos (show 0 ≤ r * 9 + l ∧ r * 9 + l < 72 by omega), show (r * 9 + l).toNat = k by omega]
        have j19 : J1 1 9 = J 1 9 := by rw [u2, f5.2.2.2, q4.2.2.2]; exact y4.2.2.2
        have tl := tell_r (kc := 8) (by omega) tr (by rw [up_row (by omega), j19]; omega) (by rw [up_row (by omega), j50]; omega)
        refine ⟨_, tl, fun J2'' v1 v2 v3 => ?_⟩
        have e67 : J2'' 67 = vu (J2 67) (55 + k) w := by rw [v1 67 (by decide), up_vu, e67b]
        have j4 : J1 4 = (am_up J 4 (38 + k) 1) 4 := by
          rw [u1 4 (by decide), f6, q5]
          funext j
          by_cases e : j = 38 + k
          · rw [e, up_at, up_at]
          · rw [up_ne e, up_ne e, y5]
        have j70 : J2'' 70 = (am_up J2 70 (36 + k) 1) 70 := by
          rw [v1 70 (by decide), up_row (by decide), g4, q6]
          funext j
          by_cases e : j = 36 + k
          · rw [e, up_at, up_at]
          · rw [up_ne e, up_ne e, x3b]
        refine ⟨⟨?_, ?_⟩, MR_set hL.2.1 (gm_deep k hk72) ?_ j70, ML_set hL.2.2.1 (c := 38 + k) (by omega) ?_ ?_, HT_r hL.2.2.2 (r := r) (by omega) ?_ ?_ ?_ ?_⟩
        · rw [e67]; exact rv_deep hL.1.1 hk72 f4
        · rw [e67]
          refine rq_fr (rq_deep (rq_fr (J' := J1) hL.1.2 fun i h1 h9 j => by rw [kpr _ (by omega) (by omega) (by omega)]) hk72 w) fun i h1 h9 j => by rw [up_row (by omega)]
        · rw [up_row (by decide), up_row (by omega)]; exact j4
        · rw [up_row (by decide), up_row (by omega)]; exact j4
        · rw [v2, up_row (by decide), g3.2, z3.2]; exact x3.2
        · rw [up_at, up_row (by omega), up_row (by omega), j19, j50]
        · rw [v3, up_row (by decide), g5, z5]; exact y7
        · intro i hi ne; rw [e67, vu_ne (by omega)]
        · intro i hi ne; rw [e67, vu_ne (by omega)]
      · have h12' := q3.2.2.1.1
        exact LR_f f1 (FL_67 ⟨f2, by rw [f3]; exact h12', by rw [g5, z5]; exact x4, by rw [e67b]; omega⟩ _ (by omega)) rfl
    · have h12' := y3.2.2.1.1
      have h12'' : 0 ≤ J3 65 12 ∧ J3 65 12 ≤ 999 := by rw [q3]; exact h12'
      rw [mlG l J3 _ _ z1 z2 (m_readN_f q2.2.2.1 0 30), y2]
      exact LR_f q1 (FL_67 ⟨q2, h12'', by rw [z5]; exact x4, by rw [e67']; omega⟩ _ (by omega)) rfl
  · have h12' : 0 ≤ J2' 65 12 ∧ J2' 65 12 ≤ 999 := by rw [y3]; exact h12
    rw [mlG 0 _ _ _ (plT_f y2.2.2.1) (by omega) (m_readN_f y2.2.2.1 0 30)]
    exact LR_f y1 (FL_67 ⟨y2, h12', x4, by rw [x3.1 67 (by decide) (by decide)]; omega⟩ _ (by omega)) rfl
