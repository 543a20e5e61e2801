/-! set, narrow, swing, logged, end -/
theorem e_set {b : Bool} {J : am_J} {x y z t : Int} (hr : sR b J) (hb : sB J) (hx : am_i32 x) (hy : am_i32 y) (hz : am_i32 z) (ht : am_i32 t) : ∃ r J' J2, f_UpRiver_set b x y z t J = some (r, J') ∧ f_UpRiverModel_set x y z t J' = some (r, J2) ∧ am_i32 r ∧ sB J2 := by
  obtain ⟨h, q, e15⟩ := hr
  have hv := h.1.1
  have mtop : ∀ J1 : am_J, J1 66 = J 66 → f_UpRiverModel_in (am_i2l x) (0 : Int64) (am_i2l (8 * J1 66 0 - 1)) = some (fl (0 ≤ x ∧ x < 8 * J 66 0)) := by
    intro J1 e
    rw [e, show (0 : Int64) = am_i2l 0 from rfl, m_in hx (by decide) ⟨by omega, by omega⟩]
    congr 1
    exact fl_c (by omega)
  by_cases c1 : 0 ≤ x ∧ x < 8 * J 66 0
  · have n1 : ¬ ¬ (0 ≤ x ∧ x < 8 * J 66 0) := fun z => z c1
    have v1 := rv_r h (show 0 ≤ x / 8 by omega) (show x / 8 < 8 by omega)
    by_cases c2 : rOp (J 66) (x / 8) y ∧ (0 ≤ z ∧ z ≤ 1) ∧ (0 ≤ t ∧ t ≤ 300)
    · obtain ⟨o1, o2, o3⟩ := c2
      have n2 : ¬ ¬ rOp (J 66) (x / 8) y := fun z => z o1
      have n3 : ¬ ¬ (0 ≤ z ∧ z ≤ 1) := fun z => z o2
      have n4 : ¬ ¬ (0 ≤ t ∧ t ≤ 300) := fun z => z o3
      have n5 : ¬ ¬ (0 ≤ x / 8 ∧ x / 8 < J 66 0 ∧ rOp (J 66) (x / 8) y) := fun z => z ⟨by omega, by omega, o1⟩
      generalize hJ1 : am_up (am_up (am_up (am_up (am_up (am_up J 18 0 x) 18 1 y) 18 2 z) 18 3 t) 18 4 0) 18 5 0 = J1
      have a0 : J1 18 0 = x := by rw [← hJ1, up_ne (by decide), up_ne (by decide), up_ne (by decide), up_ne (by decide), up_ne (by decide), up_at]
      have a1 : J1 18 1 = y := by rw [← hJ1, up_ne (by decide), up_ne (by decide), up_ne (by decide), up_ne (by decide), up_at]
      have a2 : J1 18 2 = z := by rw [← hJ1, up_ne (by decide), up_ne (by decide), up_ne (by decide), up_at]
      have a3 : J1 18 3 = t := by rw [← hJ1, up_ne (by decide), up_ne (by decide), up_at]
      have a4 : J1 18 4 = 0 := by rw [← hJ1, up_ne (by decide), up_at]
      have a5 : J1 18 5 = 0 := by rw [← hJ1, up_at]
      have ar : ∀ a, a ≠ 18 → J1 a = J a := fun a ha => by rw [← hJ1, up_row ha, up_row ha, up_row ha, up_row ha, up_row ha, up_row ha]
      have q1 : rq (am_rv b) J1 (J 66) := rq_rows q ar
      generalize hJ2 : am_up (am_up (am_up (am_up (am_up (am_up J1 68 1 x) 68 2 y) 68 3 z) 68 0 t) 68 4 0) 68 5 0 = J2
      have b1 : J2 68 1 = x := by rw [← hJ2, up_ne (by decide), up_ne (by decide), up_ne (by decide), up_ne (by decide), up_ne (by decide), up_at]
      have b2 : J2 68 2 = y := by rw [← hJ2, up_ne (by decide), up_ne (by decide), up_ne (by decide), up_ne (by decide), up_at]
      have b3 : J2 68 3 = z := by rw [← hJ2, up_ne (by decide), up_ne (by decide), up_ne (by decide), up_at]
      have b0 : J2 68 0 = t := by rw [← hJ2, up_ne (by decide), up_ne (by decide), up_at]
      have b4 : J2 68 4 = 0 := by rw [← hJ2, up_ne (by decide), up_at]
      have b5 : J2 68 5 = 0 := by rw [← hJ2, up_at]
      have br : ∀ a, a ≠ 68 → J2 a = J1 a := fun a ha => by rw [← hJ2, up_row ha, up_row ha, up_row ha, up_row ha, up_row ha, up_row ha]
      have e66 : J2 66 = J 66 := by rw [br _ (by decide), ar _ (by decide)]
      have e15' : J2 65 15 = 0 := by rw [br _ (by decide), ar _ (by decide)]; exact e15
      refine ⟨fl (rAf (J 66) 0 (x / 8) y t), J1, J2, ?_, ?_, (fl_32 _).mpr trivial, ?_⟩
      · unfold f_UpRiver_set f_Boat_lieAt
        rw [hJ1, if_pos hx, if_neg (by omega), c_top q]
        simp only [Option.bind_some]
        rw [if_pos (show am_i32 (8 * J 66 0) from ⟨by omega, by omega⟩), if_pos (by omega), am_dv_pos c1.1, c_isOpen h q ⟨by omega, by omega⟩ hy, c_isYesOrNo hz, c_isMinute ht, c_isAfloat h q1 (by rw [a0]; omega) (by rw [a0]; omega) (by rw [a1]; exact hy) (by rw [a3]; exact ht)]
        simp only [Option.bind_some, fl_32, if_true, fl_0]
        rw [if_neg n5, if_neg n3, if_neg n4, c_asInt ((fl_01 _).mpr trivial), a0, a1, a3]
        simp only [Option.bind_some]
        congr 2
        exact fl_c ⟨fun z => z.2, fun z => ⟨by omega, z⟩⟩
      · unfold f_UpRiverModel_set f_UpRiverModel_top
        rw [hJ2]
        simp only [Option.bind_some]
        rw [mtop J1 (ar _ (by decide)), if_pos hx, am_dv_pos c1.1, m_isOpen (by rw [ar _ (by decide)]; exact h) (by omega) (by omega) hy, ar _ (show 66 ≠ 18 by decide), m_in3 hz, m_isMinute ht, m_isFloating (by rw [e66]; exact h) (by rw [b1]; omega) (by rw [b1]; omega) (by rw [b2]; exact hy) (by rw [b0, e15']; omega)]
        simp only [Option.bind_some, fl_32, if_true, fl_0]
        rw [if_neg n1, if_neg n2, if_neg n3, if_neg n4, m_flag ((fl_01 _).mpr trivial), e66, e15', b1, b2, b0]
        simp only [Option.bind_some]
        congr 2
        exact fl_c ⟨fun z => by rcases z with z | z; exact absurd z (by omega); exact z, Or.inr⟩
      · have o11 := o1.1
        have o12 := o1.2
        unfold sB bR bm
        rw [br _ (by decide), a0, a1, a2, a3, a4, a5, b0, b1, b2, b3, b4, b5]
        exact ⟨⟨by omega, by omega, by omega, by omega, by omega, by omega, by omega⟩, rfl, rfl, rfl, rfl, rfl, by omega⟩
    · refine ⟨-1, J, J, ?_, ?_, by decide, hb⟩
      · unfold f_UpRiver_set
        rw [if_pos hx, if_neg (by omega), c_top q]
        simp only [Option.bind_some]
        rw [if_pos (show am_i32 (8 * J 66 0) from ⟨by omega, by omega⟩), if_pos (by omega), am_dv_pos c1.1, c_isOpen h q ⟨by omega, by omega⟩ hy, c_isYesOrNo hz, c_isMinute ht]
        simp only [Option.bind_some, fl_32, if_true, fl_0]
        by_cases o1 : rOp (J 66) (x / 8) y
        · have n5 : ¬ ¬ (0 ≤ x / 8 ∧ x / 8 < J 66 0 ∧ rOp (J 66) (x / 8) y) := fun z => z ⟨by omega, by omega, o1⟩
          rw [if_neg n5]
          by_cases o2 : 0 ≤ z ∧ z ≤ 1
          · have n3 : ¬ ¬ (0 ≤ z ∧ z ≤ 1) := fun z => z o2
            rw [if_neg n3, if_pos (show ¬ (0 ≤ t ∧ t ≤ 300) from fun z => c2 ⟨o1, o2, z⟩)]
          · rw [if_pos o2]
        · rw [if_pos (show ¬ (0 ≤ x / 8 ∧ x / 8 < J 66 0 ∧ rOp (J 66) (x / 8) y) from fun z => o1 z.2.2)]
      · unfold f_UpRiverModel_set f_UpRiverModel_top
        simp only [Option.bind_some]
        rw [mtop J rfl, if_pos hx, am_dv_pos c1.1, m_isOpen h (by omega) (by omega) hy, m_in3 hz, m_isMinute ht]
        simp only [Option.bind_some, fl_32, if_true, fl_0]
        rw [if_neg n1]
        by_cases o1 : rOp (J 66) (x / 8) y
        · have n5 : ¬ ¬ rOp (J 66) (x / 8) y := fun z => z o1
          rw [if_neg n5]
          by_cases o2 : 0 ≤ z ∧ z ≤ 1
          · have n3 : ¬ ¬ (0 ≤ z ∧ z ≤ 1) := fun z => z o2
            rw [if_neg n3, if_pos (show ¬ (0 ≤ t ∧ t ≤ 300) from fun z => c2 ⟨o1, o2, z⟩)]
          · rw [if_pos o2]
        · rw [if_pos o1]
  · refine ⟨-1, J, J, ?_, ?_, by decide, hb⟩
    · unfold f_UpRiver_set
      rw [if_pos hx, c_top q]
      simp only [Option.bind_some]
      rw [if_pos (show am_i32 (8 * J 66 0) from ⟨by omega, by omega⟩)]
      by_cases a : x < 0
      · rw [if_pos a]
      · rw [if_neg a, if_neg (by omega)]
    · unfold f_UpRiverModel_set f_UpRiverModel_top
      simp only [Option.bind_some]
      rw [mtop J rfl]
      simp only [Option.bind_some, fl_32, if_true, fl_0]
      rw [if_pos c1]
theorem nar_loop {b : Bool} {J : am_J} {x : Int} (hr : sR b J) (hx : -9 ≤ x ∧ x ≤ 9) : ∀ (k n : Nat) (w : Int), k < n → 10 - w = (k : Int) → 2 ≤ w → ∃ r, f_UpRiver_narrow_L16 b J n x w = some r ∧ f_UpRiverModel_narrow_L18 J n x w = some r ∧ am_i32 r := by
  obtain ⟨h, q, e15⟩ := hr
  have h3 := h.1.2.2.2.1
  have h5 := h.1.2.2.2.2.2.1
  have e3 := q.1 3 (by omega)
  have e5 := q.1 5 (by omega)
  intro k
  induction k with
  | zero =>
    intro n w hn hk w2
    obtain ⟨n, rfl⟩ : ∃ n', n = n' + 1 := ⟨n - 1, by omega⟩
    rw [f_UpRiver_narrow_L16.eq_2, f_UpRiverModel_narrow_L18.eq_2, if_pos (show am_i32 w from ⟨by omega, by omega⟩), if_pos (show am_i32 w from ⟨by omega, by omega⟩), if_pos (show 9 < w by omega), if_pos (show 9 < w by omega)]
    exact ⟨-4, rfl, rfl, by decide⟩
  | succ k ih =>
    intro n w hn hk w2
    obtain ⟨n, rfl⟩ : ∃ n', n = n' + 1 := ⟨n - 1, by omega⟩
    have hbd : am_i32 ((w - 1) * (J 66 3 + x) + J 66 5 * x) := by
      have aw : w = 2 ∨ w = 3 ∨ w = 4 ∨ w = 5 ∨ w = 6 ∨ w = 7 ∨ w = 8 ∨ w = 9 := by omega
      have a5 : J 66 5 = 1 ∨ J 66 5 = 2 ∨ J 66 5 = 3 ∨ J 66 5 = 4 ∨ J 66 5 = 5 ∨ J 66 5 = 6 ∨ J 66 5 = 7 ∨ J 66 5 = 8 ∨ J 66 5 = 9 := by omega
      rcases aw with e | e | e | e | e | e | e | e <;> rw [e] <;> rcases a5 with g | g | g | g | g | g | g | g | g <;> rw [g] <;> exact ⟨by omega, by omega⟩
    rw [f_UpRiver_narrow_L16.eq_2, f_UpRiverModel_narrow_L18.eq_2, e3, e5, if_pos (show am_i32 w from ⟨by omega, by omega⟩), if_pos (show am_i32 w from ⟨by omega, by omega⟩), if_neg (show ¬ 9 < w by omega), if_neg (show ¬ 9 < w by omega), if_pos hbd, if_pos hbd]
    by_cases g : 0 < (w - 1) * (J 66 3 + x) + J 66 5 * x
    · rw [if_pos g, if_pos g]
      exact ⟨w, rfl, rfl, ⟨by omega, by omega⟩⟩
    · rw [if_neg g, if_neg g]
      exact ih n (w + 1) (by omega) (by omega) (by omega)
theorem e_narrow {b : Bool} {J : am_J} {x : Int} (hr : sR b J) (hx : am_i32 x) : ∃ r, f_UpRiver_narrow b J x = some r ∧ f_UpRiverModel_narrow J x = some r ∧ am_i32 r := by
  unfold f_UpRiver_narrow f_UpRiverModel_narrow
  rw [show (-9 : Int64) = am_i2l (-9) from rfl, show (9 : Int64) = am_i2l 9 from rfl, m_in hx (by decide) (by decide), if_pos hx]
  simp only [Option.bind_some, fl_32, if_true, fl_0]
  by_cases c : -9 ≤ x ∧ x ≤ 9
  · have n1 : ¬ ¬ (-9 ≤ x ∧ x ≤ 9) := fun z => z c
    rw [if_neg n1, if_neg (by omega), if_neg (by omega)]
    exact nar_loop hr c 8 am_FU 2 (by decide) (by omega) (by omega)
  · rw [if_pos c]
    refine ⟨-1, ?_, rfl, by decide⟩
    by_cases a : x < -9
    · rw [if_pos a]
    · rw [if_neg a, if_pos (by omega)]
