/-! barge -/
/-- once met, met -/
theorem m_run_met {v : Nat → Int} (hv : rv_ok v) {m e : Int} (hm : 0 ≤ m ∧ m ≤ 20) (he : e = 0 ∨ e = 1) : ∀ (k n : Nat) (J : am_J) (s : Int × Int × Int × Int × Int × Int × Int), k < n → (300 - s.2.2.2.1).toNat ≤ k → J 66 = v → J 65 15 = 0 → hmS J = s → skO s → bgO (J 65 34) (J 65 35) → (0 ≤ J 65 36 ∧ J 65 36 ≤ 300) → ∃ r J', f_UpRiverModel_skips_L7 n m e J = some (r, J') ∧ J' 65 36 = J 65 36 ∧ J' 65 37 = J 65 37 := by
  intro k
  induction k with
  | zero =>
    intro n J s hn hk e66 e15 hs ho hbg hz
    obtain ⟨n, rfl⟩ : ∃ m, n = m + 1 := ⟨n - 1, by omega⟩
    rw [(m_L7 hv e66 e15 hs ho hbg (Or.inr hz) hm he n).2 (by omega)]
    by_cases up : s.1 < 8 * v 0
    · obtain ⟨J3, y1, -, -, y4⟩ := (m_skips_end hv e66 hs ho hbg (Or.inr hz)).1 up
      exact ⟨-4, J3, y1, metW_k y4 (by omega)⟩
    · exact ⟨_, J, (m_skips_end hv e66 hs ho hbg (Or.inr hz)).2 (by omega), rfl, rfl⟩
  | succ k ih =>
    intro n J s hn hk e66 e15 hs ho hbg hz
    obtain ⟨n, rfl⟩ : ∃ m, n = m + 1 := ⟨n - 1, by omega⟩
    by_cases c0 : s.1 < 8 * v 0 ∧ s.2.2.2.1 < 300
    · obtain ⟨J2', y1, y2, y3, y4, y5, y6, y7⟩ := (m_L7 hv e66 e15 hs ho hbg (Or.inr hz) hm he n).1 c0
      obtain ⟨k1, k2, k3⟩ := skN_ok hv (m := m) (e := e) ho c0.1 c0.2
      have kk := metW_k y3 (by omega)
      obtain ⟨r, J', w1, w2, w3⟩ := ih n J2' (skN v m e s) (by omega) (by omega) y4 y5 y2 k1 (by rw [y6, y7]; exact hbg) (by rw [kk.1]; exact hz)
      rw [y1]
      exact ⟨r, J', w1, by rw [w2, kk.1], by rw [w3, kk.2]⟩
    · rw [(m_L7 hv e66 e15 hs ho hbg (Or.inr hz) hm he n).2 c0]
      by_cases up : s.1 < 8 * v 0
      · obtain ⟨J3, y1, -, -, y4⟩ := (m_skips_end hv e66 hs ho hbg (Or.inr hz)).1 up
        exact ⟨-4, J3, y1, metW_k y4 (by omega)⟩
      · exact ⟨_, J, (m_skips_end hv e66 hs ho hbg (Or.inr hz)).2 (by omega), rfl, rfl⟩
theorem c_L174 {b : Bool} {kb : Int → Int → Int → Int → am_J → Option (Int × am_J)} {x1 x2 x5 x6 x7 x8 x9 x10 s : Int} {J : am_J} (hs : s = 0 ∨ s = 1) (h1 : am_i32 x1) (h8 : am_i32 x8) (h9 : am_i32 x9) (h10 : am_i32 x10) (h5 : x5 = 0 ∨ x5 = 1) (h3 : am_i32 (J 29 3 - 1)) : f_UpRiver_barge_L174 b kb x1 x2 x5 x6 x7 x8 x9 x10 s J = if x8 = x1 ∧ x9 ≤ x10 ∧ x10 ≤ (if s = 0 then J 29 3 - 1 else x9) then some (if x5 = 0 then x10 else x7, J) else (if s = 0 then kb x1 x2 x5 (x6 + 1) J else some (-4, J)) := by
  have L233 : f_UpRiver_barge_L233 b kb x1 x2 x5 x6 s J = (if s = 0 then kb x1 x2 x5 (x6 + 1) J else some (-4, J)) := by
    unfold f_UpRiver_barge_L233
    rw [if_pos (show am_i32 s by omega)]
  have L198 : ∀ y : Int, am_i32 y → f_UpRiver_barge_L198 b kb x1 x2 x5 x6 x7 x8 x9 x10 s y J = if x8 = x1 ∧ x9 ≤ x10 ∧ x10 ≤ y then some (if x5 = 0 then x10 else x7, J) else (if s = 0 then kb x1 x2 x5 (x6 + 1) J else some (-4, J)) := by
    intro y hy
    unfold f_UpRiver_barge_L198
    rw [L233, if_pos h1, if_pos h8, if_pos h9, if_pos h10, if_pos hy, if_pos (show am_i32 x5 by omega)]
    by_cases c0 : x8 = x1
    · rw [if_pos c0]
      by_cases c1 : x10 < x9
      · rw [if_pos c1, if_neg (show ¬ (x8 = x1 ∧ x9 ≤ x10 ∧ x10 ≤ y) by omega)]
      · rw [if_neg c1]
        by_cases c2 : y < x10
        · rw [if_pos c2, if_neg (show ¬ (x8 = x1 ∧ x9 ≤ x10 ∧ x10 ≤ y) by omega)]
        · rw [if_neg c2, if_pos (show x8 = x1 ∧ x9 ≤ x10 ∧ x10 ≤ y by omega)]
          by_cases c3 : x5 = 0
          · rw [if_pos c3, if_pos c3]
          · rw [if_neg c3, if_neg c3]
    · rw [if_neg c0, if_neg (show ¬ (x8 = x1 ∧ x9 ≤ x10 ∧ x10 ≤ y) from fun z => c0 z.1)]
  unfold f_UpRiver_barge_L174
  rw [if_pos (show am_i32 s by omega)]
  by_cases c0 : s = 0
  · rw [if_pos c0, L198 _ h3]; simp only [if_pos c0]
  · rw [if_neg c0, L198 _ h9]; simp only [if_neg c0]
theorem barge_loop {b : Bool} {v : Nat → Int} (hv : rv_ok v) {m e ln at1 w : Int} (hm : 0 ≤ m ∧ m ≤ 20) (he : e = 0 ∨ e = 1) (hln : 0 ≤ ln ∧ ln ≤ 8) (hat : 0 ≤ at1 ∧ at1 ≤ 300) (hw : w = 0 ∨ w = 1) : ∀ (k n n' : Nat) (i : Int) (J J2 : am_J) (s : Int × Int × Int × Int × Int × Int × Int), k < n → k < n' → (300 - s.2.2.2.1).toNat ≤ k → 0 ≤ i → i ≤ s.2.2.2.1 → rq (am_rv b) J v → hcS J = s → J 28 1 = m → J 28 2 = e → J2 66 = v → J2 65 15 = 0 → hmS J2 = s → skO s → J2 65 34 = ln → J2 65 35 = at1 → J2 65 36 = -4 → J2 65 37 = -4 → ∃ r J' p J2', f_UpRiver_barge_L73 b n ln at1 w i J = some (r, J') ∧ f_UpRiverModel_skips_L7 n' m e J2 = some (p, J2') ∧ r = (if w = 0 then J2' 65 36 else J2' 65 37) ∧ am_i32 r := by
  have hv0 := hv.1.1
  intro k
  induction k with
  | zero =>
    intro n n' i J J2 s hn hn' hk i0 i1 q hc e1 e2 e66 e15 hs ho e34 e35 e36 e37
    obtain ⟨n, rfl⟩ : ∃ m, n = m + 1 := ⟨n - 1, by omega⟩
    obtain ⟨n', rfl⟩ : ∃ m, n' = m + 1 := ⟨n' - 1, by omega⟩
    have ho' := ho
    obtain ⟨h1, h2, h3, h4, h5, h6, h7, h8⟩ := ho'
    obtain ⟨a1, a2, a3, a4, a5⟩ := hcS_t hc
    have hbg : bgO (J2 65 34) (J2 65 35) := by omega
    rw [f_UpRiver_barge_L73.eq_2, if_pos (show am_i32 i by omega), if_neg (show ¬ 300 < i by omega), c_isUp hv q (by omega), a1, (m_L7 hv e66 e15 hs ho hbg (Or.inl e36) hm he n').2 (by omega)]
    simp only [Option.bind_some, fl_32, if_true, fl_0]
    by_cases up : 8 * v 0 ≤ s.1
    · rw [if_neg (show ¬ ¬ (8 * v 0 ≤ s.1) from fun z => z up), (m_skips_end hv e66 hs ho hbg (Or.inl e36)).2 up]
      refine ⟨-4, J, _, J2, rfl, rfl, ?_, by decide⟩
      rw [e36, e37]
      split <;> rfl
    · obtain ⟨J3, y1, -, -, y4⟩ := (m_skips_end hv e66 hs ho hbg (Or.inl e36)).1 (by omega)
      rw [if_pos up, if_pos (show am_i32 s.1 by omega), c_act hv q (by rw [hc]; exact ho) (by omega) e1 e2 hm he, if_neg (show ¬ J 29 3 < 300 by omega), q.1 0 (by omega), a2, a3, am_dv_pos h1.1, y1]
      simp only [Option.bind_some]
      rw [if_pos (show am_i32 0 by decide), if_pos trivial, c_L174 (Or.inr rfl) (by omega) (by omega) (by omega) (by omega) hw (by omega), if_neg (show ¬ (1 : Int) = 0 by decide), if_neg (show ¬ (1 : Int) = 0 by decide)]
      rw [e34, e35, e36, e37] at y4
      by_cases c0 : s.2.1 = ln ∧ s.2.2.2.1 ≤ at1 + v 0 - 1 - s.1 / 8 ∧ at1 + v 0 - 1 - s.1 / 8 ≤ s.2.2.2.1
      · rw [if_pos c0]
        refine ⟨_, J, -4, J3, rfl, rfl, ?_, by split <;> omega⟩
        rcases y4 with y4 | y4
        · rw [y4.2.2.2.1, y4.2.2.2.2]
        · exact absurd ⟨rfl, c0.1.symm, by omega⟩ y4.1
      · rw [if_neg c0]
        refine ⟨_, J, -4, J3, rfl, rfl, ?_, by decide⟩
        rcases y4 with y4 | y4
        · exact absurd ⟨y4.2.1.symm, by omega⟩ c0
        · rw [y4.2.1, y4.2.2]
          split <;> rfl
  | succ k ih =>
    intro n n' i J J2 s hn hn' hk i0 i1 q hc e1 e2 e66 e15 hs ho e34 e35 e36 e37
    obtain ⟨n, rfl⟩ : ∃ m, n = m + 1 := ⟨n - 1, by omega⟩
    obtain ⟨n', rfl⟩ : ∃ m, n' = m + 1 := ⟨n' - 1, by omega⟩
    have ho' := ho
    obtain ⟨h1, h2, h3, h4, h5, h6, h7, h8⟩ := ho'
    obtain ⟨a1, a2, a3, a4, a5⟩ := hcS_t hc
    have hbg : bgO (J2 65 34) (J2 65 35) := by omega
    rw [f_UpRiver_barge_L73.eq_2, if_pos (show am_i32 i by omega), if_neg (show ¬ 300 < i by omega), c_isUp hv q (by omega), a1]
    simp only [Option.bind_some, fl_32, if_true, fl_0]
    by_cases up : 8 * v 0 ≤ s.1
    · rw [if_neg (show ¬ ¬ (8 * v 0 ≤ s.1) from fun z => z up), (m_L7 hv e66 e15 hs ho hbg (Or.inl e36) hm he n').2 (by omega), (m_skips_end hv e66 hs ho hbg (Or.inl e36)).2 up]
      refine ⟨-4, J, _, J2, rfl, rfl, ?_, by decide⟩
      rw [e36, e37]
      split <;> rfl
    · by_cases ct : s.2.2.2.1 < 300
      · obtain ⟨J', w1, w2, w3, w4⟩ := c_act_s hv q (by rw [hc]; exact ho) (by omega) e1 e2 hm he (by omega)
        rw [hc] at w2
        obtain ⟨k1, k2, k3⟩ := skN_ok hv (m := m) (e := e) ho (by omega) ct
        obtain ⟨J2', y1, y2, y3, y4, y5, y6, y7⟩ := (m_L7 hv e66 e15 hs ho hbg (Or.inl e36) hm he n').1 ⟨by omega, ct⟩
        rw [e34, e35, e36, e37] at y3
        have g3 : J' 29 3 = (skN v m e s).2.2.2.1 := (hcS_t w2).2.2.1
        have k4 := k1.2.2.2.1
        rw [if_pos up, if_pos (show am_i32 s.1 by omega), w1, q.1 0 (by omega), a2, a3, am_dv_pos h1.1, y1]
        simp only [Option.bind_some]
        rw [if_pos (show am_i32 1 by decide), if_neg (show ¬ (1 : Int) = 0 by decide), c_L174 (Or.inl rfl) (by omega) (by omega) (by omega) (by omega) hw (by omega), if_pos (show (0 : Int) = 0 from rfl), if_pos (show (0 : Int) = 0 from rfl), g3]
        by_cases c0 : s.2.1 = ln ∧ s.2.2.2.1 ≤ at1 + v 0 - 1 - s.1 / 8 ∧ at1 + v 0 - 1 - s.1 / 8 ≤ (skN v m e s).2.2.2.1 - 1
        · rw [if_pos c0]
          have y8 : J2' 65 36 = at1 + v 0 - 1 - s.1 / 8 ∧ J2' 65 37 = s.1 / 8 := by
            rcases y3 with y3 | y3
            · exact ⟨y3.2.2.2.1, y3.2.2.2.2⟩
            · exact absurd ⟨rfl, c0.1.symm, by omega⟩ y3.1
          obtain ⟨p, J4, x1, x2, x3⟩ := m_run_met hv hm he k n' J2' (skN v m e s) (by omega) (by omega) y4 y5 y2 k1 (by rw [y6, y7]; exact hbg) (by rw [y8.1]; omega)
          refine ⟨_, J', p, J4, rfl, x1, ?_, by split <;> omega⟩
          rw [x2, x3, y8.1, y8.2]
        · rw [if_neg c0]
          have y8 : J2' 65 36 = -4 ∧ J2' 65 37 = -4 := by
            rcases y3 with y3 | y3
            · exact absurd ⟨y3.2.1.symm, by omega⟩ c0
            · exact y3.2
          exact ih n n' (i + 1) J' J2' (skN v m e s) (by omega) (by omega) (by omega) (by omega) (by omega) (rq_nw q (fun a j hw => frJ_Skipper_act w1 hw) rfl rfl) w2 w3 w4 y4 y5 y2 k1 (by rw [y6]; exact e34) (by rw [y7]; exact e35) y8.1 y8.2
      · obtain ⟨J3, y1, -, -, y4⟩ := (m_skips_end hv e66 hs ho hbg (Or.inl e36)).1 (by omega)
        rw [if_pos up, if_pos (show am_i32 s.1 by omega), c_act hv q (by rw [hc]; exact ho) (by omega) e1 e2 hm he, if_neg (show ¬ J 29 3 < 300 by omega), q.1 0 (by omega), a2, a3, am_dv_pos h1.1, (m_L7 hv e66 e15 hs ho hbg (Or.inl e36) hm he n').2 (by omega), y1]
        simp only [Option.bind_some]
        rw [if_pos (show am_i32 0 by decide), if_pos trivial, c_L174 (Or.inr rfl) (by omega) (by omega) (by omega) (by omega) hw (by omega), if_neg (show ¬ (1 : Int) = 0 by decide), if_neg (show ¬ (1 : Int) = 0 by decide)]
        rw [e34, e35, e36, e37] at y4
        by_cases c0 : s.2.1 = ln ∧ s.2.2.2.1 ≤ at1 + v 0 - 1 - s.1 / 8 ∧ at1 + v 0 - 1 - s.1 / 8 ≤ s.2.2.2.1
        · rw [if_pos c0]
          refine ⟨_, J, -4, J3, rfl, rfl, ?_, by split <;> omega⟩
          rcases y4 with y4 | y4
          · rw [y4.2.2.2.1, y4.2.2.2.2]
          · exact absurd ⟨rfl, c0.1.symm, by omega⟩ y4.1
        · rw [if_neg c0]
          refine ⟨_, J, -4, J3, rfl, rfl, ?_, by decide⟩
          rcases y4 with y4 | y4
          · exact absurd ⟨y4.2.1.symm, by omega⟩ c0
          · rw [y4.2.1, y4.2.2]
            split <;> rfl
abbrev bgOk (x1 x2 x3 x4 x5 : Int) : Prop := (0 ≤ x1 ∧ x1 ≤ 8) ∧ (0 ≤ x2 ∧ x2 ≤ 300) ∧ ((0 ≤ x3 ∧ x3 ≤ 20) ∧ (0 ≤ x4 ∧ x4 ≤ 1)) ∧ (0 ≤ x5 ∧ x5 ≤ 1)
theorem e_barge {b : Bool} {J : am_J} {x1 x2 x3 x4 x5 : Int} (hr : sR b J) (hb : sB J) (h1 : am_i32 x1) (h2 : am_i32 x2) (h3 : am_i32 x3) (h4 : am_i32 x4) (h5 : am_i32 x5) : ∃ r J' J2, f_UpRiver_barge b x1 x2 x3 x4 x5 J = some (r, J') ∧ f_UpRiverModel_barge x1 x2 x3 x4 x5 J' = some (r, J2) ∧ am_i32 r := by
  obtain ⟨h, q, e15⟩ := hr
  obtain ⟨bR1, bm1⟩ := hb
  have bR2 := bR1
  obtain ⟨r0, r1, r2, r3, r4, r5, r6⟩ := bR2
  have bm2 := bm1
  obtain ⟨m0, m1, m2, m3, m4, m5⟩ := bm2
  have mo : ∀ J1 : am_J, f_UpRiverModel_barge x1 x2 x3 x4 x5 J1 = if bgOk x1 x2 x3 x4 x5 then ((f_UpRiverModel_isUp J1).bind fun q2817 => if am_i32 q2817 then (if q2817 = 0 then ((f_UpRiverModel_skips x3 x4 x1 x2 J1).bind fun q2821 => if am_i32 x5 then (if x5 = 0 then (some (q2821.2 65 36, q2821.2)) else (some (q2821.2 65 37, q2821.2))) else none) else (some ((-2), J1))) else none) else some (-1, J1) := by
    intro J1
    unfold f_UpRiverModel_barge
    rw [m_isLane h1, m_isMinute h2, m_isSkipper h3 h4, m_in3 h5]
    simp only [Option.bind_some, fl_32, if_true, fl_0]
    by_cases c1 : 0 ≤ x1 ∧ x1 ≤ 8
    · rw [if_neg (show ¬ ¬ (0 ≤ x1 ∧ x1 ≤ 8) from fun w => w c1)]
      by_cases c2 : 0 ≤ x2 ∧ x2 ≤ 300
      · rw [if_neg (show ¬ ¬ (0 ≤ x2 ∧ x2 ≤ 300) from fun w => w c2)]
        by_cases c3 : (0 ≤ x3 ∧ x3 ≤ 20) ∧ (0 ≤ x4 ∧ x4 ≤ 1)
        · rw [if_neg (show ¬ ¬ ((0 ≤ x3 ∧ x3 ≤ 20) ∧ (0 ≤ x4 ∧ x4 ≤ 1)) from fun w => w c3)]
          by_cases c4 : 0 ≤ x5 ∧ x5 ≤ 1
          · rw [if_neg (show ¬ ¬ (0 ≤ x5 ∧ x5 ≤ 1) from fun w => w c4), if_pos (show bgOk x1 x2 x3 x4 x5 from ⟨c1, c2, c3, c4⟩)]
          · rw [if_pos c4, if_neg (show ¬ bgOk x1 x2 x3 x4 x5 from fun w => c4 w.2.2.2)]
        · rw [if_pos c3, if_neg (show ¬ bgOk x1 x2 x3 x4 x5 from fun w => c3 w.2.2.1)]
      · rw [if_pos c2, if_neg (show ¬ bgOk x1 x2 x3 x4 x5 from fun w => c2 w.2.1)]
    · rw [if_pos c1, if_neg (show ¬ bgOk x1 x2 x3 x4 x5 from fun w => c1 w.1)]
  have co : f_UpRiver_barge b x1 x2 x3 x4 x5 J = if bgOk x1 x2 x3 x4 x5 then ((f_Boat_isUp 18 (am_rv b) J).bind fun q1272 => if am_i32 q1272 then (if q1272 = 0 then ((f_Skipper_begin x3 x4 J).bind fun q1276 => f_UpRiver_barge_L73 b am_FU x1 x2 x5 0 q1276) else (some ((-2), J))) else none) else some (-1, J) := by
    unfold f_UpRiver_barge
    rw [c_isLane h1, c_isMinute h2, c_isSkipper h3 h4, c_isYesOrNo h5]
    simp only [Option.bind_some, fl_32, if_true, fl_0]
    by_cases c1 : 0 ≤ x1 ∧ x1 ≤ 8
    · rw [if_neg (show ¬ ¬ (0 ≤ x1 ∧ x1 ≤ 8) from fun w => w c1)]
      by_cases c2 : 0 ≤ x2 ∧ x2 ≤ 300
      · rw [if_neg (show ¬ ¬ (0 ≤ x2 ∧ x2 ≤ 300) from fun w => w c2)]
        by_cases c3 : (0 ≤ x3 ∧ x3 ≤ 20) ∧ (0 ≤ x4 ∧ x4 ≤ 1)
        · rw [if_neg (show ¬ ¬ ((0 ≤ x3 ∧ x3 ≤ 20) ∧ (0 ≤ x4 ∧ x4 ≤ 1)) from fun w => w c3)]
          by_cases c4 : 0 ≤ x5 ∧ x5 ≤ 1
          · rw [if_neg (show ¬ ¬ (0 ≤ x5 ∧ x5 ≤ 1) from fun w => w c4), if_pos (show bgOk x1 x2 x3 x4 x5 from ⟨c1, c2, c3, c4⟩)]
          · rw [if_pos c4, if_neg (show ¬ bgOk x1 x2 x3 x4 x5 from fun w => c4 w.2.2.2)]
        · rw [if_pos c3, if_neg (show ¬ bgOk x1 x2 x3 x4 x5 from fun w => c3 w.2.2.1)]
      · rw [if_pos c2, if_neg (show ¬ bgOk x1 x2 x3 x4 x5 from fun w => c2 w.2.1)]
    · rw [if_pos c1, if_neg (show ¬ bgOk x1 x2 x3 x4 x5 from fun w => c1 w.1)]
  by_cases c0 : bgOk x1 x2 x3 x4 x5
  · rw [if_pos c0, c_isUp h q (by omega)] at co
    simp only [Option.bind_some, fl_32, if_true, fl_0] at co
    by_cases up : 8 * J 66 0 ≤ J 18 0
    · rw [if_neg (show ¬ ¬ (8 * J 66 0 ≤ J 18 0) from fun w => w up)] at co
      refine ⟨-2, J, J, co, ?_, by decide⟩
      rw [mo, if_pos c0, m_isUp h (by omega)]
      simp only [Option.bind_some, fl_32, if_true, fl_0]
      rw [if_neg (show ¬ ¬ (8 * J 66 0 ≤ J 68 1) from fun w => w (by omega))]
    · rw [if_pos up] at co
      have run : ∀ J2 : am_J, J2 66 = J 66 → J2 65 15 = 0 → bm J J2 0 → ∃ r J' p J2', ((f_Skipper_begin x3 x4 J).bind fun q1276 => f_UpRiver_barge_L73 b am_FU x1 x2 x5 0 q1276) = some (r, J') ∧ f_UpRiverModel_skips x3 x4 x1 x2 J2 = some (p, J2') ∧ r = (if x5 = 0 then J2' 65 36 else J2' 65 37) ∧ am_i32 r := by
        intro J2 f66 f15 fbm
        obtain ⟨n0, n1, n2, n3, n4, n5⟩ := fbm
        unfold f_Skipper_begin f_Boat_lieAt f_UpRiverModel_skips f_UpRiverModel_hisBegin
        simp only [Option.bind_some]
        refine barge_loop h c0.2.2.1.1 (by omega) c0.1 c0.2.1 (by omega) 300 am_FU am_FU 0 _ _ (J 18 0, J 18 1, J 18 2, J 18 3, 0, 0, 1) (by decide) (by decide) (by dsimp only; omega) (by omega) (by dsimp only; omega) ?_ rfl rfl rfl ?_ ?_ ?_ ?_ rfl rfl rfl rfl
        · exact rq_cong q rfl fun a ha j => by rw [up_row (by omega), up_row (by omega), up_row (by omega), up_row (by omega), up_row (by omega), up_row (by omega), up_row (by omega), up_row (by omega), up_row (by omega)]
        · rw [← f66]; rfl
        · rw [← f15]; rfl
        · rw [n0, n1, n2, n3]; rfl
        · refine ⟨?_, ?_, ?_, ?_, ?_, ?_, ?_, ?_⟩ <;> dsimp only <;> omega
      obtain ⟨r, J', -, -, u1, -⟩ := run J rfl e15 bm1
      have u1' := co.trans u1
      have f66 : J' 66 = J 66 := by funext j; exact frJ_UpRiver_barge u1' rfl
      have f15 : J' 65 15 = 0 := by rw [← e15]; exact frJ_UpRiver_barge u1' rfl
      have f68 : ∀ j, J' 68 j = J 68 j := fun j => frJ_UpRiver_barge u1' rfl
      obtain ⟨r', J'', p, J2, w1, w2, w3, w4⟩ := run J' f66 f15 (by unfold bm; rw [f68, f68, f68, f68, f68, f68]; exact bm1)
      obtain ⟨rfl, rfl⟩ := Prod.mk.inj (Option.some.inj (u1.symm.trans w1))
      refine ⟨r, J', J2, u1', ?_, w4⟩
      rw [mo, if_pos c0, m_isUp (by rw [f66]; exact h) (by rw [f68]; omega), f66, f68]
      simp only [Option.bind_some, fl_32, if_true, fl_0]
      rw [if_pos (show ¬ (8 * J 66 0 ≤ J 68 1) by omega), w2]
      simp only [Option.bind_some]
      rw [if_pos h5]
      by_cases c5 : x5 = 0
      · rw [if_pos c5]
        rw [if_pos c5] at w3
        rw [w3]
      · rw [if_neg c5]
        rw [if_neg c5] at w3
        rw [w3]
  · rw [if_neg c0] at co
    exact ⟨-1, J, J, co, by rw [mo, if_neg c0], by decide⟩
