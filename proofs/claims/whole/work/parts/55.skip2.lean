/-! the reference's skipper -/
def hmS (J : am_J) : Int × Int × Int × Int × Int × Int × Int := (J 65 27, J 65 28, J 65 29, J 65 30, J 65 31, J 65 32, J 65 33)
/-- whom he meets while he is where he is, from minute t up to u: z, y what was met before -/
def metW (n f l bl ba t u z y z' y' : Int) : Prop := (z = -4 ∧ bl = l ∧ (t ≤ ba + n - 1 - f / 8 ∧ ba + n - 1 - f / 8 < u ∧ ba + n - 1 - f / 8 ≤ 300) ∧ z' = ba + n - 1 - f / 8 ∧ y' = f / 8) ∨ (¬ (z = -4 ∧ bl = l ∧ (t ≤ ba + n - 1 - f / 8 ∧ ba + n - 1 - f / 8 < u ∧ ba + n - 1 - f / 8 ≤ 300)) ∧ z' = z ∧ y' = y)
abbrev bgO (bl ba : Int) : Prop := (-4 ≤ bl ∧ bl ≤ 8) ∧ (0 ≤ ba ∧ ba ≤ 300)
theorem meet_loop {n0 f l bl ba u : Int} (hn0 : 2 ≤ n0 ∧ n0 ≤ 8) (hf : 0 ≤ f ∧ f < 8 * n0) (hl : 0 ≤ l ∧ l ≤ 8) (hbg : bgO bl ba) (hu : 0 ≤ u ∧ u ≤ 1000) : ∀ (k n : Nat) (t z y : Int) (J : am_J), k < n → (u - t).toNat = k → 0 ≤ t → t ≤ 1000 → J 66 0 = n0 → J 65 27 = f → J 65 28 = l → J 65 34 = bl → J 65 35 = ba → J 65 36 = z → J 65 37 = y → (z = -4 ∨ (0 ≤ z ∧ z ≤ 300)) → ∃ J', f_UpRiverModel_meets_L2 n u t J = some J' ∧ metW n0 f l bl ba t u z y (J' 65 36) (J' 65 37) := by
  intro k
  induction k with
  | zero =>
    intro n t z y J hn hk t0 t1 e0 e27 e28 e34 e35 e36 e37 hz
    obtain ⟨n, rfl⟩ : ∃ m, n = m + 1 := ⟨n - 1, by omega⟩
    rw [f_UpRiverModel_meets_L2.eq_2, if_pos (show am_i32 u by omega), if_pos (show am_i32 t by omega), if_neg (show ¬ t < u by omega)]
    exact ⟨J, rfl, Or.inr ⟨by omega, e36, e37⟩⟩
  | succ k ih =>
    intro n t z y J hn hk t0 t1 e0 e27 e28 e34 e35 e36 e37 hz
    obtain ⟨n, rfl⟩ : ∃ m, n = m + 1 := ⟨n - 1, by omega⟩
    rw [f_UpRiverModel_meets_L2.eq_2, if_pos (show am_i32 u by omega), if_pos (show am_i32 t by omega), if_pos (show t < u by omega)]
    by_cases c0 : 300 < t
    · rw [if_pos c0]
      exact ⟨J, rfl, Or.inr ⟨by omega, e36, e37⟩⟩
    have next : ¬ (z = -4 ∧ bl = l ∧ t = ba + n0 - 1 - f / 8) → ∃ J', f_UpRiverModel_meets_L2 n u (t + 1) J = some J' ∧ metW n0 f l bl ba t u z y (J' 65 36) (J' 65 37) := by
      intro nm
      obtain ⟨J', w1, w2⟩ := ih n (t + 1) z y J (by omega) (by omega) (by omega) (by omega) e0 e27 e28 e34 e35 e36 e37 hz
      refine ⟨J', w1, ?_⟩
      rcases w2 with w2 | w2
      · exact Or.inl (by omega)
      · exact Or.inr (by omega)
    rw [if_neg c0, e36, if_pos (show am_i32 z by omega)]
    by_cases c1 : z = -4
    · rw [if_pos c1, e35, if_pos (show am_i32 ba by omega)]
      by_cases c2 : t < ba
      · rw [if_pos c2]
        exact next (by omega)
      · rw [if_neg c2, e0, if_pos (show am_i32 (n0 - 1 - (t - ba)) by omega)]
        by_cases c3 : n0 - 1 - (t - ba) < 0
        · rw [if_pos c3]
          exact next (by omega)
        · rw [if_neg c3, e28, if_pos (show am_i32 l by omega), e34, if_pos (show am_i32 bl by omega)]
          by_cases c4 : bl = l
          · rw [if_pos c4, e27, if_pos (show am_i32 f by omega), am_dv_pos hf.1, if_pos (show am_i32 (f / 8) by omega)]
            by_cases c5 : n0 - 1 - (t - ba) = f / 8
            · rw [if_pos c5]
              obtain ⟨J', w1, w2⟩ := ih n (t + 1) t (f / 8) (am_up (am_up J 65 36 t) 65 37 (f / 8)) (by omega) (by omega) (by omega) (by omega) (by rw [up_row (by decide), up_row (by decide)]; exact e0) (by rw [up_ne (by decide), up_ne (by decide)]; exact e27) (by rw [up_ne (by decide), up_ne (by decide)]; exact e28) (by rw [up_ne (by decide), up_ne (by decide)]; exact e34) (by rw [up_ne (by decide), up_ne (by decide)]; exact e35) (by rw [up_ne (by decide), up_at]) (by rw [up_at]) (by omega)
              rw [c5]
              refine ⟨J', w1, ?_⟩
              rcases w2 with w2 | w2
              · exact Or.inl (by omega)
              · exact Or.inl (by omega)
            · rw [if_neg c5]
              exact next (by omega)
          · rw [if_neg c4]
            exact next (by omega)
    · rw [if_neg c1]
      exact next (by omega)
theorem m_meets {J : am_J} {n0 f l bl ba t u z y : Int} (hn0 : 2 ≤ n0 ∧ n0 ≤ 8) (hf : 0 ≤ f ∧ f < 8 * n0) (hl : 0 ≤ l ∧ l ≤ 8) (hbg : bgO bl ba) (hu : 0 ≤ u ∧ u ≤ 1000) (ht : 0 ≤ t ∧ t ≤ 1000) (e0 : J 66 0 = n0) (e27 : J 65 27 = f) (e28 : J 65 28 = l) (e34 : J 65 34 = bl) (e35 : J 65 35 = ba) (e36 : J 65 36 = z) (e37 : J 65 37 = y) (hz : z = -4 ∨ (0 ≤ z ∧ z ≤ 300)) : ∃ J', f_UpRiverModel_meets t u J = some J' ∧ metW n0 f l bl ba t u z y (J' 65 36) (J' 65 37) :=
  meet_loop hn0 hf hl hbg hu (u - t).toNat am_FU t z y J (by have : am_FU = 20000 := rfl; omega) rfl ht.1 ht.2 e0 e27 e28 e34 e35 e36 e37 hz
/-- what stays as it was in his cells -/
def hmK (J J' : am_J) : Prop := J' 65 34 = J 65 34 ∧ J' 65 35 = J 65 35
theorem m_move_stay {v : Nat → Int} (hv : rv_ok v) {J : am_J} (e66 : J 66 = v) {s : Int × Int × Int × Int × Int × Int × Int} (hs : hmS J = s) (ho : skO s) (hu : s.1 < 8 * v 0) (hbg : bgO (J 65 34) (J 65 35)) (hz : J 65 36 = -4 ∨ (0 ≤ J 65 36 ∧ J 65 36 ≤ 300)) : ∃ J', f_UpRiverModel_hisMove_L19 0 J = some J' ∧ hmS J' = (s.1, s.2.1, s.2.2.1, s.2.2.2.1 + 1, s.2.2.2.2.1, s.2.2.2.2.2.1, s.2.2.2.2.2.2) ∧ metW (v 0) s.1 s.2.1 (J 65 34) (J 65 35) s.2.2.2.1 (s.2.2.2.1 + 1) (J 65 36) (J 65 37) (J' 65 36) (J' 65 37) := by
  subst hs
  obtain ⟨h1, h2, h3, h4, h5, h6, h7, h8⟩ := ho
  unfold hmS at *
  dsimp only at *
  obtain ⟨J1, w1, w2⟩ := m_meets (J := J) (n0 := v 0) (t := J 65 30) (u := J 65 30 + 1) hv.1.1 ⟨h1.1, hu⟩ h2 hbg (by omega) (by omega) (by rw [e66]) rfl rfl rfl rfl rfl rfl hz
  have fr : ∀ j, j ≠ 36 → j ≠ 37 → J1 65 j = J 65 j := fun j j1 j2 => frJ_UpRiverModel_meets w1 (by
    unfold am_nw
    have a : Nat.beq 36 j = false := by
      cases e : Nat.beq 36 j with
      | false => rfl
      | true => exact absurd (Nat.eq_of_beq_eq_true e).symm j1
    have b : Nat.beq 37 j = false := by
      cases e : Nat.beq 37 j with
      | false => rfl
      | true => exact absurd (Nat.eq_of_beq_eq_true e).symm j2
    simp [a, b])
  unfold f_UpRiverModel_hisMove_L19 f_UpRiverModel_hisMove_L42
  rw [if_pos (show am_i32 0 by decide), if_pos (show (0 : Int) = 0 from rfl), w1]
  simp only [Option.bind_some]
  rw [if_pos (show am_i32 0 by decide), if_pos trivial]
  refine ⟨_, rfl, ?_, ?_⟩
  · rw [up_at, up_ne (by decide), up_ne (by decide), up_ne (by decide), up_ne (by decide), up_ne (by decide), up_ne (by decide), fr 27 (by decide) (by decide), fr 28 (by decide) (by decide), fr 29 (by decide) (by decide), fr 30 (by decide) (by decide), fr 31 (by decide) (by decide), fr 32 (by decide) (by decide), fr 33 (by decide) (by decide)]
  · rw [up_ne (by decide), up_ne (by decide)]
    exact w2
theorem m_move_go {v : Nat → Int} (hv : rv_ok v) {J : am_J} (e66 : J 66 = v) {s : Int × Int × Int × Int × Int × Int × Int} (hs : hmS J = s) (ho : skO s) (hu : s.1 < 8 * v 0) (hbg : bgO (J 65 34) (J 65 35)) (hz : J 65 36 = -4 ∨ (0 ≤ J 65 36 ∧ J 65 36 ≤ 300)) {f l d t : Int} (h : toAt J f l d t) (hd : d = 0 ∨ d = 1) (ht : s.2.2.2.1 < t ∧ t ≤ 300) : ∃ J', f_UpRiverModel_hisMove_L19 1 J = some J' ∧ hmS J' = (f, l, d, t, (if d = s.2.2.1 then s.2.2.2.2.1 else s.2.2.2.2.1 + 1), (if d = s.2.2.1 then s.2.2.2.2.2.1 + 1 else s.2.2.2.2.2.1), (if d = s.2.2.1 then 1 else 0)) ∧ metW (v 0) s.1 s.2.1 (J 65 34) (J 65 35) s.2.2.2.1 t (J 65 36) (J 65 37) (J' 65 36) (J' 65 37) := by
  subst hs
  obtain ⟨h1, h2, h3, h4, h5, h6, h7, h8⟩ := ho
  obtain ⟨a1, a2, a3, a4⟩ := h
  unfold hmS at *
  dsimp only at *
  obtain ⟨J1, w1, w2⟩ := m_meets (J := J) (n0 := v 0) (t := J 65 30) (u := t) hv.1.1 ⟨h1.1, hu⟩ h2 hbg (by omega) (by omega) (by rw [e66]) rfl rfl rfl rfl rfl rfl hz
  have fr : ∀ j, j ≠ 36 → j ≠ 37 → J1 65 j = J 65 j := fun j j1 j2 => frJ_UpRiverModel_meets w1 (by
    unfold am_nw
    have a : Nat.beq 36 j = false := by
      cases e : Nat.beq 36 j with
      | false => rfl
      | true => exact absurd (Nat.eq_of_beq_eq_true e).symm j1
    have b : Nat.beq 37 j = false := by
      cases e : Nat.beq 37 j with
      | false => rfl
      | true => exact absurd (Nat.eq_of_beq_eq_true e).symm j2
    simp [a, b])
  unfold f_UpRiverModel_hisMove_L19 f_UpRiverModel_hisMove_L42
  rw [if_pos (show am_i32 1 by decide), if_neg (show ¬ (1 : Int) = 0 by decide), a4, w1]
  simp only [Option.bind_some]
  rw [if_pos (show am_i32 1 by decide), if_neg (show ¬ (1 : Int) = 0 by decide), fr 29 (by decide) (by decide), fr 18 (by decide) (by decide), fr 16 (by decide) (by decide), fr 17 (by decide) (by decide), a1, a2, a3, if_pos (show am_i32 (J 65 29) by omega), if_pos (show am_i32 d by omega)]
  generalize hJ2 : am_up (am_up J1 65 27 f) 65 28 l = J2
  have g27 : J2 65 27 = f := by rw [← hJ2, up_ne (by decide), up_at]
  have g28 : J2 65 28 = l := by rw [← hJ2, up_at]
  have g : ∀ j, j ≠ 27 → j ≠ 28 → J2 65 j = J1 65 j := fun j j1 j2 => by rw [← hJ2, up_ne j2, up_ne j1]
  have g18 : J2 65 18 = d := by rw [g 18 (by decide) (by decide), fr 18 (by decide) (by decide), a3]
  have g19 : J2 65 19 = t := by rw [g 19 (by decide) (by decide), fr 19 (by decide) (by decide), a4]
  have g29 : J2 65 29 = J 65 29 := by rw [g 29 (by decide) (by decide), fr 29 (by decide) (by decide)]
  have g31 : J2 65 31 = J 65 31 := by rw [g 31 (by decide) (by decide), fr 31 (by decide) (by decide)]
  have g32 : J2 65 32 = J 65 32 := by rw [g 32 (by decide) (by decide), fr 32 (by decide) (by decide)]
  have g36 : J2 65 36 = J1 65 36 := g 36 (by decide) (by decide)
  have g37 : J2 65 37 = J1 65 37 := g 37 (by decide) (by decide)
  clear hJ2 g
  unfold f_UpRiverModel_hisMove_L82 f_UpRiverModel_hisMove_L106 f_UpRiverModel_hisMove_L134
  rw [g18, g29, g31, m_flag (Or.inl rfl), m_flag (Or.inr rfl), if_pos (show am_i32 (J 65 29) by omega), if_pos (show am_i32 d by omega)]
  simp only [Option.bind_some]
  have e29 : ∀ y, am_up J2 65 33 y 65 29 = J 65 29 := fun y => by rw [up_ne (by decide)]; exact g29
  have e18 : ∀ y, am_up J2 65 33 y 65 18 = d := fun y => by rw [up_ne (by decide)]; exact g18
  have w3 : metW (v 0) (J 65 27) (J 65 28) (J 65 34) (J 65 35) (J 65 30) t (J 65 36) (J 65 37) (J2 65 36) (J2 65 37) := by
    rw [g36, g37]; exact w2
  by_cases c0 : d = J 65 29
  · rw [if_pos c0, if_pos (show (1 : Int) = 0 ∨ True from Or.inr trivial)]
    simp only [if_pos c0, e29, e18]
    rw [if_pos (show am_i32 (J 65 29) by omega), if_pos (show am_i32 d by omega)]
    refine ⟨_, rfl, ?_, ?_⟩
    · simp [am_up, g27, g28, g18, g19, g31, g32]
    · rw [up_ne (by decide), up_ne (by decide), up_ne (by decide), up_ne (by decide), up_ne (by decide), up_ne (by decide), up_ne (by decide), up_ne (by decide), up_ne (by decide), up_ne (by decide)]
      exact w3
  · rw [if_neg c0, if_pos (show True ∨ (0 : Int) = 1 from Or.inl trivial)]
    simp only [if_neg c0, e29, e18]
    rw [if_pos (show am_i32 (J 65 29) by omega), if_pos (show am_i32 d by omega), if_pos (show am_i32 (J 65 29) by omega), if_pos (show am_i32 d by omega)]
    refine ⟨_, rfl, ?_, ?_⟩
    · simp [am_up, g27, g28, g18, g19, g31, g32]
    · rw [up_ne (by decide), up_ne (by decide), up_ne (by decide), up_ne (by decide), up_ne (by decide), up_ne (by decide), up_ne (by decide), up_ne (by decide), up_ne (by decide), up_ne (by decide)]
      exact w3
