/-! the log -/
def sLg (J : am_J) : Prop := J 19 2 = J 68 6 ∧ 0 ≤ J 19 2 ∧ J 19 2 ≤ 12 ∧ (∀ i : Nat, (i : Int) < J 19 2 → J 20 i = J 68 (7 + 2 * i) ∧ J 21 i = J 68 (8 + 2 * i) ∧ 0 ≤ J 20 i ∧ J 20 i ≤ J 66 0 ∧ 0 ≤ J 21 i ∧ J 21 i ≤ 300) ∧ (∀ i : Nat, (i : Int) + 1 < J 19 2 → J 20 i < J 20 (i + 1) ∧ J 21 i < J 21 (i + 1))
theorem sLg_at {J : am_J} (h : sLg J) {i : Int} (h0 : 0 ≤ i) (h1 : i < J 19 2) : J 20 i.toNat = J 68 (7 + 2 * i).toNat ∧ J 21 i.toNat = J 68 (7 + 2 * i + 1).toNat ∧ 0 ≤ J 20 i.toNat ∧ J 20 i.toNat ≤ J 66 0 ∧ 0 ≤ J 21 i.toNat ∧ J 21 i.toNat ≤ 300 := by
  rw [show (7 + 2 * i).toNat = 7 + 2 * i.toNat by omega, show (7 + 2 * i + 1).toNat = 8 + 2 * i.toNat by omega]
  exact h.2.2.2.1 i.toNat (by omega)
theorem e_logged {b : Bool} {J : am_J} {x t : Int} (hr : sR b J) (h : sLg J) (hx : am_i32 x) (ht : am_i32 t) : ∃ r J' J2, f_UpRiver_logged b x t J = some (r, J') ∧ f_UpRiverModel_logged x t J' = some (r, J2) ∧ am_i32 r ∧ sLg J2 := by
  obtain ⟨hv, q, -⟩ := hr
  have hm := hv.1.1
  have e0 := q.1 0 (by omega)
  have h' := h
  obtain ⟨e, s0, s4, ha, hi⟩ := h'
  have bad : f_UpRiver_logged b x t J = some (-1, J) → f_UpRiverModel_logged x t J = some (-1, J) → ∃ r J' J2, f_UpRiver_logged b x t J = some (r, J') ∧ f_UpRiverModel_logged x t J' = some (r, J2) ∧ am_i32 r ∧ sLg J2 := fun u w => ⟨-1, J, J, u, w, by decide, h⟩
  have n66 : am_i32 (J 66 0) := ⟨by omega, by omega⟩
  have s32 : am_i32 (J 19 2) := ⟨by omega, by omega⟩
  have s32' : am_i32 (J 68 6) := ⟨by omega, by omega⟩
  by_cases c1 : 0 ≤ x ∧ x ≤ J 66 0
  · have n1 : ¬ ¬ (0 ≤ x ∧ x ≤ J 66 0) := fun z => z c1
    by_cases c2 : 0 ≤ t ∧ t ≤ 300
    · have n2 : ¬ ¬ (0 ≤ t ∧ t ≤ 300) := fun z => z c2
      -- the entry is put
      have put : (0 < J 19 2 → J 20 (J 19 2 - 1).toNat < x ∧ J 21 (J 19 2 - 1).toNat < t) → ∃ r J' J2, f_Log_add_L57 x t J = some (r, J') ∧ (∀ j, J' 68 j = J 68 j) ∧ (∀ j, J' 66 j = J 66 j) ∧ f_UpRiverModel_logged_L61 x t (J 68 6) J' = some (r, J2) ∧ am_i32 r ∧ sLg J2 := by
        intro last
        unfold f_Log_add_L57 f_UpRiverModel_logged_L61
        rw [← e]
        simp only [if_pos s32]
        by_cases full : J 19 2 < 12
        · simp only [if_pos full, if_pos (show 0 ≤ J 19 2 ∧ J 19 2 < 12 by omega), if_neg (show ¬ J 19 2 = 12 by omega), if_pos (show 0 ≤ 7 + 2 * J 19 2 ∧ 7 + 2 * J 19 2 < 216 by omega), if_pos (show 0 ≤ 7 + 2 * J 19 2 + 1 ∧ 7 + 2 * J 19 2 + 1 < 216 by omega)]
          refine ⟨_, _, _, rfl, ?_, ?_, rfl, ⟨by omega, by omega⟩, ?_⟩
          · intro j; rw [up_row (by decide), up_row (by decide), up_row (by decide)]
          · intro j; rw [up_row (by decide), up_row (by decide), up_row (by decide)]
          · generalize hJ1 : am_up (am_up (am_up J 20 (J 19 2).toNat x) 21 (J 19 2).toNat t) 19 2 (J 19 2 + 1) = J1
            have a1 : J1 19 2 = J 19 2 + 1 := by rw [← hJ1, up_at]
            have a20 : J1 20 (J 19 2).toNat = x := by rw [← hJ1, up_row (by decide), up_row (by decide), up_at]
            have a21 : J1 21 (J 19 2).toNat = t := by rw [← hJ1, up_row (by decide), up_at]
            have a20n : ∀ i, i ≠ (J 19 2).toNat → J1 20 i = J 20 i := fun i hi => by rw [← hJ1, up_row (by decide), up_row (by decide), up_ne hi]
            have a21n : ∀ i, i ≠ (J 19 2).toNat → J1 21 i = J 21 i := fun i hi => by rw [← hJ1, up_row (by decide), up_ne hi, up_row (by decide)]
            have a68 : J1 68 = J 68 := by rw [← hJ1, up_row (by decide), up_row (by decide), up_row (by decide)]
            have a66 : J1 66 = J 66 := by rw [← hJ1, up_row (by decide), up_row (by decide), up_row (by decide)]
            generalize hJ2 : am_up (am_up (am_up J1 68 (7 + 2 * J 19 2).toNat x) 68 (7 + 2 * J 19 2 + 1).toNat t) 68 6 (J 19 2 + 1) = J2
            have b6 : J2 68 6 = J 19 2 + 1 := by rw [← hJ2, up_at]
            have bx : J2 68 (7 + 2 * J 19 2).toNat = x := by rw [← hJ2, up_ne (by omega), up_ne (by omega), up_at]
            have bt : J2 68 (7 + 2 * J 19 2 + 1).toNat = t := by rw [← hJ2, up_ne (by omega), up_at]
            have bn : ∀ j, j ≠ 6 → j ≠ (7 + 2 * J 19 2).toNat → j ≠ (7 + 2 * J 19 2 + 1).toNat → J2 68 j = J 68 j := fun j j1 j2 j3 => by rw [← hJ2, up_ne j1, up_ne j3, up_ne j2, a68]
            have br : ∀ a, a ≠ 68 → J2 a = J1 a := fun a ha => by rw [← hJ2, up_row ha, up_row ha, up_row ha]
            refine ⟨?_, ?_, ?_, ?_, ?_⟩
            · rw [br _ (by decide), a1, b6]
            · rw [br _ (by decide), a1]; omega
            · rw [br _ (by decide), a1]; omega
            · intro i hii
              rw [br _ (by decide), a1] at hii
              rw [br 20 (by decide), br 21 (by decide), br 66 (by decide), a66]
              by_cases ei : i = (J 19 2).toNat
              · rw [ei, a20, a21, show 7 + 2 * (J 19 2).toNat = (7 + 2 * J 19 2).toNat by omega, show 8 + 2 * (J 19 2).toNat = (7 + 2 * J 19 2 + 1).toNat by omega, bx, bt]
                exact ⟨rfl, rfl, by omega, by omega, by omega, by omega⟩
              · rw [a20n i ei, a21n i ei, bn _ (by omega) (by omega) (by omega), bn _ (by omega) (by omega) (by omega)]
                exact ha i (by omega)
            · intro i hii
              rw [br _ (by decide), a1] at hii
              rw [br 20 (by decide), br 21 (by decide), a20n i (by omega), a21n i (by omega)]
              by_cases ei : i + 1 = (J 19 2).toNat
              · have := last (by omega)
                rw [ei, a20, a21, show i = (J 19 2 - 1).toNat by omega]
                exact this
              · rw [a20n _ ei, a21n _ ei]
                exact hi i (by omega)
        · simp only [if_neg full, if_pos (show J 19 2 = 12 by omega)]
          exact ⟨-3, J, J, rfl, fun _ => rfl, fun _ => rfl, rfl, by decide, h⟩
      by_cases some1 : 0 < J 19 2
      · have hl := sLg_at h (i := J 19 2 - 1) (by omega) (by omega)
        have g0 : 0 ≤ J 19 2 - 1 ∧ J 19 2 - 1 < 12 := by omega
        have l20 : am_i32 (J 20 (J 19 2 - 1).toNat) := ⟨by omega, by omega⟩
        have l21 : am_i32 (J 21 (J 19 2 - 1).toNat) := ⟨by omega, by omega⟩
        have cls : f_UpRiver_logged b x t J = if J 20 (J 19 2 - 1).toNat < x ∧ J 21 (J 19 2 - 1).toNat < t then (f_Log_add_L57 x t J).bind fun q => some (q.1, q.2) else some (-1, J) := by
          unfold f_UpRiver_logged f_Log_add
          rw [e0, if_pos hx, if_neg (show ¬ x < 0 by omega), if_pos n66, if_neg (show ¬ J 66 0 < x by omega), c_isMinute ht]
          simp only [Option.bind_some, fl_32, if_true, fl_0]
          rw [if_neg n2, if_pos s32, if_pos some1, if_pos g0, if_pos l20, if_pos l21, if_pos ht]
          by_cases a1 : J 20 (J 19 2 - 1).toNat < x
          · rw [if_pos a1]
            by_cases a2 : J 21 (J 19 2 - 1).toNat < t
            · rw [if_pos a2, if_pos (show J 20 (J 19 2 - 1).toNat < x ∧ J 21 (J 19 2 - 1).toNat < t from ⟨a1, a2⟩)]
            · rw [if_neg a2, if_neg (show ¬ (J 20 (J 19 2 - 1).toNat < x ∧ J 21 (J 19 2 - 1).toNat < t) from fun z => a2 z.2)]; rfl
          · rw [if_neg a1, if_neg (show ¬ (J 20 (J 19 2 - 1).toNat < x ∧ J 21 (J 19 2 - 1).toNat < t) from fun z => a1 z.1)]; rfl
        have mdl : ∀ J1 : am_J, (∀ j, J1 68 j = J 68 j) → (∀ j, J1 66 j = J 66 j) → f_UpRiverModel_logged x t J1 = if J 20 (J 19 2 - 1).toNat < x ∧ J 21 (J 19 2 - 1).toNat < t then f_UpRiverModel_logged_L61 x t (J 68 6) J1 else some (-1, J1) := by
          intro J1 d68 d66
          unfold f_UpRiverModel_logged f_UpRiverModel_logOf
          rw [show (0 : Int64) = am_i2l 0 from rfl, d66, m_in hx (by decide) n66, m_isMinute ht, d68, d68, d68, ← e, if_pos (show 0 ≤ 7 + 2 * (J 19 2 - 1) + 0 ∧ 7 + 2 * (J 19 2 - 1) + 0 < 216 by omega), if_pos (show 0 ≤ 7 + 2 * (J 19 2 - 1) + 1 ∧ 7 + 2 * (J 19 2 - 1) + 1 < 216 by omega), Int.add_zero, ← hl.1, ← hl.2.1]
          simp only [Option.bind_some, fl_32, if_true, fl_0]
          rw [if_neg n1, if_neg n2, if_pos s32, if_pos some1, if_pos l20, if_pos hx, if_pos l21, if_pos ht]
          by_cases a1 : J 20 (J 19 2 - 1).toNat < x
          · rw [if_pos a1]
            by_cases a2 : J 21 (J 19 2 - 1).toNat < t
            · rw [if_pos a2, if_pos (show J 20 (J 19 2 - 1).toNat < x ∧ J 21 (J 19 2 - 1).toNat < t from ⟨a1, a2⟩)]
            · rw [if_neg a2, if_neg (show ¬ (J 20 (J 19 2 - 1).toNat < x ∧ J 21 (J 19 2 - 1).toNat < t) from fun z => a2 z.2)]
          · rw [if_neg a1, if_neg (show ¬ (J 20 (J 19 2 - 1).toNat < x ∧ J 21 (J 19 2 - 1).toNat < t) from fun z => a1 z.1)]
        by_cases g : J 20 (J 19 2 - 1).toNat < x ∧ J 21 (J 19 2 - 1).toNat < t
        · obtain ⟨r, J', J2, p1, p2, p3, p4, p5, p6⟩ := put fun _ => g
          refine ⟨r, J', J2, ?_, ?_, p5, p6⟩
          · rw [cls, if_pos g, p1]; rfl
          · rw [mdl J' p2 p3, if_pos g, p4]
        · refine bad ?_ ?_
          · rw [cls, if_neg g]
          · rw [mdl J (fun _ => rfl) (fun _ => rfl), if_neg g]
      · obtain ⟨r, J', J2, p1, p2, p3, p4, p5, p6⟩ := put fun z => absurd z some1
        refine ⟨r, J', J2, ?_, ?_, p5, p6⟩
        · unfold f_UpRiver_logged f_Log_add
          rw [e0, if_pos hx, if_neg (show ¬ x < 0 by omega), if_pos n66, if_neg (show ¬ J 66 0 < x by omega), c_isMinute ht]
          simp only [Option.bind_some, fl_32, if_true, fl_0]
          rw [if_neg n2, if_pos s32, if_neg some1, p1]
          rfl
        · unfold f_UpRiverModel_logged
          rw [show (0 : Int64) = am_i2l 0 from rfl, p3, m_in hx (by decide) n66, m_isMinute ht, p2]
          simp only [Option.bind_some, fl_32, if_true, fl_0]
          rw [if_neg n1, if_neg n2, if_pos s32', if_neg (show ¬ 0 < J 68 6 by omega), p4]
    · refine bad ?_ ?_
      · unfold f_UpRiver_logged f_Log_add
        rw [e0, if_pos hx, if_neg (show ¬ x < 0 by omega), if_pos n66, if_neg (show ¬ J 66 0 < x by omega), c_isMinute ht]
        simp only [Option.bind_some, fl_32, if_true, fl_0]
        rw [if_pos c2]
        rfl
      · unfold f_UpRiverModel_logged
        rw [show (0 : Int64) = am_i2l 0 from rfl, m_in hx (by decide) n66, m_isMinute ht]
        simp only [Option.bind_some, fl_32, if_true, fl_0]
        rw [if_neg n1, if_pos c2]
  · refine bad ?_ ?_
    · unfold f_UpRiver_logged f_Log_add
      rw [e0, if_pos hx, if_pos n66]
      by_cases a : x < 0
      · rw [if_pos a]; rfl
      · rw [if_neg a, if_pos (show J 66 0 < x by omega)]; rfl
    · unfold f_UpRiverModel_logged
      rw [show (0 : Int64) = am_i2l 0 from rfl, m_in hx (by decide) n66]
      simp only [Option.bind_some, fl_32, if_true, fl_0]
      rw [if_pos c1]
