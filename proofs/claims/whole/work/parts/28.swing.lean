/-! a wind that swings -/
def sW (J : am_J) : Prop := J 22 1 = J 68 31 ∧ 0 ≤ J 22 1 ∧ J 22 1 ≤ 40 ∧ ∀ i : Nat, (i : Int) < J 22 1 → J 23 i = J 68 (32 + i) ∧ 0 ≤ J 23 i ∧ J 23 i ≤ 2
theorem sW_at {J : am_J} (h : sW J) {i : Int} (h0 : 0 ≤ i) (h1 : i < J 22 1) : J 23 i.toNat = J 68 (32 + i).toNat ∧ 0 ≤ J 23 i.toNat ∧ J 23 i.toNat ≤ 2 := by
  rw [show (32 + i).toNat = 32 + i.toNat by omega]
  exact h.2.2.2 i.toNat (by omega)
theorem e_swing {J : am_J} {x : Int} (h : sW J) (hx : am_i32 x) : ∃ r J' J2, f_UpRiver_swing x J = some (r, J') ∧ f_UpRiverModel_swing x J' = some (r, J2) ∧ am_i32 r ∧ sW J2 := by
  have h' := h
  obtain ⟨e, s0, s4, ha⟩ := h'
  by_cases c : 0 ≤ x ∧ x ≤ 2
  · have n1 : ¬ ¬ (0 ≤ x ∧ x ≤ 2) := fun z => z c
    by_cases full : J 22 1 < 40
    · generalize hJ1 : am_up (am_up J 23 (J 22 1).toNat x) 22 1 (J 22 1 + 1) = J1
      have a1 : J1 22 1 = J 22 1 + 1 := by rw [← hJ1, up_at]
      have a23 : J1 23 (J 22 1).toNat = x := by rw [← hJ1, up_row (by decide), up_at]
      have a23n : ∀ i, i ≠ (J 22 1).toNat → J1 23 i = J 23 i := fun i hi => by rw [← hJ1, up_row (by decide), up_ne hi]
      have a68 : J1 68 = J 68 := by rw [← hJ1, up_row (by decide), up_row (by decide)]
      refine ⟨J 22 1 + 1, J1, am_up (am_up J1 68 (32 + J 68 31).toNat x) 68 31 (J 68 31 + 1), ?_, ?_, ⟨by omega, by omega⟩, ?_⟩
      · unfold f_UpRiver_swing f_Swings_add
        rw [if_pos hx, if_neg (by omega), if_neg (by omega), if_pos (show am_i32 (J 22 1) from ⟨by omega, by omega⟩), if_pos full, if_pos (by omega), hJ1]
        rfl
      · unfold f_UpRiverModel_swing
        rw [show (0 : Int64) = am_i2l 0 from rfl, show (2 : Int64) = am_i2l 2 from rfl, m_in hx (by decide) (by decide), a68]
        simp only [Option.bind_some, fl_32, if_true, fl_0]
        rw [if_neg n1, if_pos (show am_i32 (J 68 31) from ⟨by omega, by omega⟩), if_neg (by omega), if_pos (by omega), up_ne (show 31 ≠ (32 + J 68 31).toNat by omega), a68, e]
      · refine ⟨?_, ?_, ?_, ?_⟩
        · rw [up_row (by decide), up_row (by decide), up_at, a1, e]
        · rw [up_row (by decide), up_row (by decide), a1]; omega
        · rw [up_row (by decide), up_row (by decide), a1]; omega
        · intro i hi
          rw [up_row (by decide), up_row (by decide), a1] at hi
          rw [up_row (show 23 ≠ 68 by decide), up_row (show 23 ≠ 68 by decide), up_ne (show 32 + i ≠ 31 by omega)]
          by_cases ei : i = (J 22 1).toNat
          · rw [ei, a23, show (32 + (J 22 1).toNat) = (32 + J 68 31).toNat by omega, up_at]
            exact ⟨rfl, c⟩
          · rw [a23n i ei, up_ne (show 32 + i ≠ (32 + J 68 31).toNat by omega), a68]
            exact ha i (by omega)
    · refine ⟨-3, J, J, ?_, ?_, by decide, h⟩
      · unfold f_UpRiver_swing f_Swings_add
        rw [if_pos hx, if_neg (by omega), if_neg (by omega), if_pos (show am_i32 (J 22 1) from ⟨by omega, by omega⟩), if_neg full]
        rfl
      · unfold f_UpRiverModel_swing
        rw [show (0 : Int64) = am_i2l 0 from rfl, show (2 : Int64) = am_i2l 2 from rfl, m_in hx (by decide) (by decide)]
        simp only [Option.bind_some, fl_32, if_true, fl_0]
        rw [if_neg n1, if_pos (show am_i32 (J 68 31) from ⟨by omega, by omega⟩), if_pos (by omega)]
  · refine ⟨-1, J, J, ?_, ?_, by decide, h⟩
    · unfold f_UpRiver_swing f_Swings_add
      rw [if_pos hx]
      by_cases a : x < 0
      · rw [if_pos a]; rfl
      · rw [if_neg a, if_pos (by omega)]; rfl
    · unfold f_UpRiverModel_swing
      rw [show (0 : Int64) = am_i2l 0 from rfl, show (2 : Int64) = am_i2l 2 from rfl, m_in hx (by decide) (by decide)]
      simp only [Option.bind_some, fl_32, if_true, fl_0]
      rw [if_pos c]
theorem mean_loop {J : am_J} (h : sW J) {x1 x2 x3 : Int} {kb : Int → Int → Int → Option Int} (hx1 : 1 ≤ x1 ∧ x1 ≤ 20) (hx3 : x1 ≤ x3 ∧ x3 < J 22 1) : ∀ (k n n' : Nat) (s i : Int), k < n → k < n' → x3 - i = (k : Int) → x3 - x1 ≤ i → 0 ≤ s → s ≤ 2 * (i - (x3 - x1)) → ∃ m, f_Swings_meanAhead_L11 J n x3 x1 s i = some m ∧ (0 ≤ m ∧ m ≤ 100) ∧ f_UpRiverModel_rightBy_L23 J kb n' x1 x2 x3 s i = if m = J 23 x3.toNat then f_UpRiverModel_rightBy_L78 J kb x1 x3 x2 1 else f_UpRiverModel_rightBy_L78 J kb x1 x3 x2 0 := by
  have h' := h
  obtain ⟨e, s0, s4, ha⟩ := h'
  intro k
  induction k with
  | zero =>
    intro n n' s i hn hn' hk hi hs hs2
    obtain ⟨n, rfl⟩ : ∃ m, n = m + 1 := ⟨n - 1, by omega⟩
    obtain ⟨n', rfl⟩ : ∃ m, n' = m + 1 := ⟨n' - 1, by omega⟩
    have hd0 := Int.ediv_nonneg (show 0 ≤ 2 * s + x1 by omega) (show 0 ≤ 2 * x1 by omega)
    have hd1 := Int.ediv_le_self (2 * x1) (show 0 ≤ 2 * s + x1 by omega)
    have hat := sW_at h (show 0 ≤ x3 by omega) hx3.2
    rw [f_Swings_meanAhead_L11.eq_2, f_UpRiverModel_rightBy_L23.eq_2, if_pos (show am_i32 x3 from ⟨by omega, by omega⟩), if_pos (show am_i32 x3 from ⟨by omega, by omega⟩), if_pos (show am_i32 i from ⟨by omega, by omega⟩), if_pos (show am_i32 i from ⟨by omega, by omega⟩), if_neg (show ¬ i < x3 by omega), if_neg (show ¬ i < x3 by omega)]
    unfold f_Swings_meanAhead_L42
    have g2 : 0 < 2 * x1 ∧ am_i32 (2 * x1) := ⟨by omega, by omega, by omega⟩
    have g3 : am_i32 (2 * s + x1) := ⟨by omega, by omega⟩
    rw [if_pos (show am_i32 x1 from ⟨by omega, by omega⟩), if_neg (show ¬ x1 < 1 by omega), if_pos g2, if_pos g2, if_pos g3, if_pos g3, am_dv_pos (by omega), if_pos (by omega), ← hat.1, if_pos (show am_i32 (J 23 x3.toNat) from ⟨by omega, by omega⟩), if_pos (show am_i32 ((2 * s + x1) / (2 * x1)) from ⟨by omega, by omega⟩)]
    exact ⟨_, rfl, ⟨hd0, by omega⟩, rfl⟩
  | succ k ih =>
    intro n n' s i hn hn' hk hi hs hs2
    obtain ⟨n, rfl⟩ : ∃ m, n = m + 1 := ⟨n - 1, by omega⟩
    obtain ⟨n', rfl⟩ : ∃ m, n' = m + 1 := ⟨n' - 1, by omega⟩
    have hat := sW_at h (show 0 ≤ i by omega) (show i < J 22 1 by omega)
    rw [f_Swings_meanAhead_L11.eq_2, f_UpRiverModel_rightBy_L23.eq_2, if_pos (show am_i32 x3 from ⟨by omega, by omega⟩), if_pos (show am_i32 x3 from ⟨by omega, by omega⟩), if_pos (show am_i32 i from ⟨by omega, by omega⟩), if_pos (show am_i32 i from ⟨by omega, by omega⟩), if_pos (show i < x3 by omega), if_pos (show i < x3 by omega), if_pos (show am_i32 (J 22 1) from ⟨by omega, by omega⟩), if_pos (show i < J 22 1 by omega), if_pos (by omega), if_pos (by omega), ← hat.1]
    exact ih n n' (s + J 23 i.toNat) (i + 1) (by omega) (by omega) (by omega) (by omega) (by omega) (by omega)
theorem right_loop {J : am_J} (h : sW J) {x1 : Int} (hx1 : 1 ≤ x1 ∧ x1 ≤ 20) : ∀ (k n : Nat) (c i : Int), k < n → (J 22 1 - i).toNat = k → x1 ≤ i → 0 ≤ c → c ≤ i → i ≤ 41 → ∃ r, f_Swings_rightBy_L8 J n x1 c i = some r ∧ f_UpRiverModel_rightBy_L4 J n x1 c i = some r ∧ 0 ≤ r ∧ r ≤ 100 := by
  have h' := h
  obtain ⟨e, s0, s4, ha⟩ := h'
  intro k
  induction k with
  | zero =>
    intro n c i hn hk hi c0 ci i4
    obtain ⟨n, rfl⟩ : ∃ m, n = m + 1 := ⟨n - 1, by omega⟩
    rw [f_Swings_rightBy_L8.eq_2, f_UpRiverModel_rightBy_L4.eq_2, ← e, if_pos (show am_i32 (J 22 1) from ⟨by omega, by omega⟩), if_pos (show am_i32 (J 22 1) from ⟨by omega, by omega⟩), if_pos (show am_i32 i from ⟨by omega, by omega⟩), if_pos (show am_i32 i from ⟨by omega, by omega⟩), if_neg (show ¬ i < J 22 1 by omega), if_neg (show ¬ i < J 22 1 by omega)]
    exact ⟨c, rfl, rfl, c0, by omega⟩
  | succ k ih =>
    intro n c i hn hk hi c0 ci i4
    obtain ⟨n, rfl⟩ : ∃ m, n = m + 1 := ⟨n - 1, by omega⟩
    have hat := sW_at h (show 0 ≤ i by omega) (show i < J 22 1 by omega)
    obtain ⟨m, m1, m2, m3⟩ := mean_loop (kb := f_UpRiverModel_rightBy_L4 J n) (x2 := c) h hx1 (x3 := i) ⟨hi, by omega⟩ x1.toNat am_FU am_FU 0 (i - x1) (by have : am_FU = 20000 := rfl; omega) (by have : am_FU = 20000 := rfl; omega) (by omega) (by omega) (by omega) (by omega)
    have em : f_Swings_meanAhead J i x1 = some m := by
      unfold f_Swings_meanAhead
      rw [j_max (by decide) ⟨by omega, by omega⟩]
      simp only [Option.bind_some]
      rw [show (if 0 < i - x1 then i - x1 else 0) = i - x1 by split <;> omega]
      exact m1
    rw [f_Swings_rightBy_L8.eq_2, f_UpRiverModel_rightBy_L4.eq_2, ← e, if_pos (show am_i32 (J 22 1) from ⟨by omega, by omega⟩), if_pos (show am_i32 (J 22 1) from ⟨by omega, by omega⟩), if_pos (show am_i32 i from ⟨by omega, by omega⟩), if_pos (show am_i32 i from ⟨by omega, by omega⟩), if_pos (show i < J 22 1 by omega), if_pos (show i < J 22 1 by omega), em, m3]
    simp only [Option.bind_some]
    rw [if_pos (show 0 ≤ i ∧ i < 40 by omega), if_pos (show am_i32 (J 23 i.toNat) from ⟨by omega, by omega⟩), if_pos (show am_i32 m from ⟨by omega, by omega⟩)]
    unfold f_Swings_rightBy_L37 f_UpRiverModel_rightBy_L78
    by_cases g : m = J 23 i.toNat
    · rw [if_pos g, if_pos g, c_asInt (Or.inr rfl), m_flag (Or.inr rfl)]
      exact ih n (c + 1) (i + 1) (by omega) (by omega) (by omega) (by omega) (by omega) (by omega)
    · rw [if_neg g, if_neg g, c_asInt (Or.inl rfl), m_flag (Or.inl rfl)]
      exact ih n (c + 0) (i + 1) (by omega) (by omega) (by omega) (by omega) (by omega) (by omega)
theorem e_right {J : am_J} (h : sW J) {x1 : Int} (hx1 : 1 ≤ x1 ∧ x1 ≤ 20) : ∃ r, f_Swings_rightBy J x1 = some r ∧ f_UpRiverModel_rightBy J x1 = some r ∧ 0 ≤ r ∧ r ≤ 100 := by
  unfold f_Swings_rightBy f_UpRiverModel_rightBy
  rw [j_max (by decide) ⟨by omega, by omega⟩]
  simp only [Option.bind_some]
  rw [show (if 1 < x1 then x1 else 1) = x1 by split <;> omega]
  have h4 := h.2.2.1
  exact right_loop h hx1 (J 22 1 - x1).toNat am_FU 0 x1 (by have : am_FU = 20000 := rfl; omega) rfl (by omega) (by omega) (by omega) (by omega)
theorem e_judged {J : am_J} (h : sW J) {x : Int} (hx : am_i32 x) : ∃ r, f_UpRiver_judged J x = some r ∧ f_UpRiverModel_judged J x = some r ∧ am_i32 r := by
  unfold f_UpRiver_judged f_UpRiverModel_judged
  rw [show (1 : Int64) = am_i2l 1 from rfl, show (20 : Int64) = am_i2l 20 from rfl, m_in hx (by decide) (by decide), if_pos hx]
  simp only [Option.bind_some, fl_32, if_true, fl_0]
  by_cases c : 1 ≤ x ∧ x ≤ 20
  · have n1 : ¬ ¬ (1 ≤ x ∧ x ≤ 20) := fun z => z c
    obtain ⟨r, r1, r2, r3, r4⟩ := e_right h c
    rw [if_neg n1, if_neg (by omega), if_neg (by omega), r1, r2]
    exact ⟨r, rfl, rfl, ⟨by omega, by omega⟩⟩
  · rw [if_pos c]
    refine ⟨-1, ?_, rfl, by decide⟩
    by_cases a : x < 1
    · rw [if_pos a]
    · rw [if_neg a, if_pos (by omega)]
theorem judge_loop {J : am_J} (h : sW J) {x : Int} (hx : 0 ≤ x ∧ x ≤ 2) : ∀ (k n : Nat) (a r l r' l' i : Int), k < n → 21 - i = (k : Int) → 1 ≤ i → (a = -4 ∧ r = -4 ∧ l = -4) ∨ (1 ≤ a ∧ a ≤ 20 ∧ 0 ≤ r ∧ r ≤ 100 ∧ 0 ≤ l ∧ l ≤ 40 ∧ r' = r ∧ l' = l) → ∃ q, f_UpRiver_judge_L24 J n x a r l i = some q ∧ f_UpRiverModel_judge_L25 J n x a r' l' i = some q ∧ am_i32 q := by
  have h' := h
  obtain ⟨e, s0, s4, ha⟩ := h'
  have fin : ∀ a r l r' l' : Int, (a = -4 ∧ r = -4 ∧ l = -4) ∨ (1 ≤ a ∧ a ≤ 20 ∧ 0 ≤ r ∧ r ≤ 100 ∧ 0 ≤ l ∧ l ≤ 40 ∧ r' = r ∧ l' = l) → ∃ q, f_UpRiver_judge_L109 J x a r l = some q ∧ f_UpRiverModel_judge_L133 J x a r' l' = some q ∧ am_i32 q := by
    intro a r l r' l' hc
    unfold f_UpRiver_judge_L109 f_UpRiverModel_judge_L133
    have hx32 : am_i32 x := ⟨by omega, by omega⟩
    rw [if_pos hx32, if_pos hx32]
    rcases hc with ⟨rfl, rfl, rfl⟩ | ⟨a1, a2, r1, r2, l1, l2, rfl, rfl⟩
    · refine ⟨-4, ?_, rfl, by decide⟩
      split
      · rfl
      · split <;> rfl
    · rw [if_pos (show am_i32 a from ⟨by omega, by omega⟩), if_neg (show ¬ a = -4 by omega)]
      by_cases c0 : x = 0
      · rw [if_pos c0]; exact ⟨_, rfl, rfl, ⟨by omega, by omega⟩⟩
      · rw [if_neg c0]
        by_cases c1 : x = 1
        · rw [if_pos c1]; exact ⟨_, rfl, rfl, ⟨by omega, by omega⟩⟩
        · rw [if_neg c1]; exact ⟨_, rfl, rfl, ⟨by omega, by omega⟩⟩
  intro k
  induction k with
  | zero =>
    intro n a r l r' l' i hn hk hi hc
    obtain ⟨n, rfl⟩ : ∃ m, n = m + 1 := ⟨n - 1, by omega⟩
    have i32 : am_i32 i := ⟨by omega, by omega⟩
    rw [f_UpRiver_judge_L24.eq_2, f_UpRiverModel_judge_L25.eq_2, if_pos i32, if_pos i32, if_pos (show 20 < i by omega), if_pos (show 20 < i by omega)]
    exact fin a r l r' l' hc
  | succ k ih =>
    intro n a r l r' l' i hn hk hi hc
    obtain ⟨n, rfl⟩ : ∃ m, n = m + 1 := ⟨n - 1, by omega⟩
    have i32 : am_i32 i := ⟨by omega, by omega⟩
    rw [f_UpRiver_judge_L24.eq_2, f_UpRiverModel_judge_L25.eq_2, ← e, if_pos i32, if_pos i32, if_neg (show ¬ 20 < i by omega), if_neg (show ¬ 20 < i by omega), if_pos (show am_i32 (J 22 1) from ⟨by omega, by omega⟩), if_pos (show am_i32 (J 22 1) from ⟨by omega, by omega⟩)]
    by_cases g : i < J 22 1
    · obtain ⟨rr, r1, r2, r3, r4⟩ := e_right h (x1 := i) ⟨by omega, by omega⟩
      rw [if_pos g, if_pos g, r1, r2]
      simp only [Option.bind_some]
      unfold f_UpRiverModel_judge_L87 f_UpRiverModel_judge_L100 f_UpRiverModel_judge_L112
      rw [if_pos (show am_i32 0 by decide), if_pos (show am_i32 1 by decide), if_pos (show (0 : Int) = 0 from rfl), if_neg (show ¬ (1 : Int) = 0 by decide)]
      rcases hc with ⟨rfl, rfl, rfl⟩ | ⟨a1, a2, b1, b2, l1, l2, rfl, rfl⟩
      · rw [if_pos (show am_i32 (-4) by decide), if_pos (show am_i32 (-4) by decide), if_pos (show (-4 : Int) = -4 from rfl), if_pos (show (-4 : Int) = -4 from rfl)]
        exact ih n i rr (J 22 1 - i) rr (J 22 1 - i) (i + 1) (by omega) (by omega) (by omega) (Or.inr ⟨by omega, by omega, r3, r4, by omega, by omega, rfl, rfl⟩)
      · have p1 : am_i32 (r' * (J 22 1 - i)) := by
          have q1 := Int.mul_nonneg b1 (show 0 ≤ J 22 1 - i by omega)
          have q2 := Int.mul_le_mul b2 (show J 22 1 - i ≤ 40 by omega) (show 0 ≤ J 22 1 - i by omega) (show (0 : Int) ≤ 100 by omega)
          exact ⟨by omega, by omega⟩
        have p2 : am_i32 (rr * l') := by
          have q1 := Int.mul_nonneg r3 l1
          have q2 := Int.mul_le_mul r4 l2 l1 (show (0 : Int) ≤ 100 by omega)
          exact ⟨by omega, by omega⟩
        have a32 : am_i32 a := ⟨by omega, by omega⟩
        have a4 : ¬ a = -4 := by omega
        rw [if_pos a32, if_pos a32, if_neg a4, if_neg a4, if_pos p1, if_pos p1, if_pos p2, if_pos p2]
        by_cases better : r' * (J 22 1 - i) < rr * l'
        · rw [if_pos better, if_pos better]
          exact ih n i rr (J 22 1 - i) rr (J 22 1 - i) (i + 1) (by omega) (by omega) (by omega) (Or.inr ⟨by omega, by omega, r3, r4, by omega, by omega, rfl, rfl⟩)
        · rw [if_neg better, if_neg better]
          exact ih n a r' l' r' l' (i + 1) (by omega) (by omega) (by omega) (Or.inr ⟨a1, a2, b1, b2, l1, l2, rfl, rfl⟩)
    · rw [if_neg g, if_neg g]
      exact fin a r l r' l' hc
theorem e_judge {J : am_J} (h : sW J) {x : Int} (hx : am_i32 x) : ∃ r, f_UpRiver_judge J x = some r ∧ f_UpRiverModel_judge J x = some r ∧ am_i32 r := by
  unfold f_UpRiver_judge f_UpRiverModel_judge
  rw [show (0 : Int64) = am_i2l 0 from rfl, show (2 : Int64) = am_i2l 2 from rfl, m_in hx (by decide) (by decide), if_pos hx]
  simp only [Option.bind_some, fl_32, if_true, fl_0]
  by_cases c : 0 ≤ x ∧ x ≤ 2
  · have n1 : ¬ ¬ (0 ≤ x ∧ x ≤ 2) := fun z => z c
    rw [if_neg n1, if_neg (by omega), if_neg (by omega)]
    exact judge_loop h c 20 am_FU (-4) (-4) (-4) 0 0 1 (by decide) (by decide) (by omega) (Or.inl ⟨rfl, rfl, rfl⟩)
  · rw [if_pos c]
    refine ⟨-1, ?_, rfl, by decide⟩
    by_cases a : x < 0
    · rw [if_pos a]
    · rw [if_neg a, if_pos (by omega)]
