/-! skipper, best, loses -/
theorem m_skips_end {v : Nat → Int} (hv : rv_ok v) {J : am_J} (e66 : J 66 = v) {s : Int × Int × Int × Int × Int × Int × Int} (hs : hmS J = s) (ho : skO s) (hbg : bgO (J 65 34) (J 65 35)) (hz : J 65 36 = -4 ∨ (0 ≤ J 65 36 ∧ J 65 36 ≤ 300)) : (s.1 < 8 * v 0 → ∃ J', f_UpRiverModel_skips_L37 J = some (-4, J') ∧ J' 65 31 = s.2.2.2.2.1 ∧ J' 65 32 = s.2.2.2.2.2.1 ∧ metW (v 0) s.1 s.2.1 (J 65 34) (J 65 35) s.2.2.2.1 (s.2.2.2.1 + 1) (J 65 36) (J 65 37) (J' 65 36) (J' 65 37)) ∧ (8 * v 0 ≤ s.1 → f_UpRiverModel_skips_L37 J = some (s.2.2.2.1, J)) := by
  have hv0 := hv.1.1
  have ho' := ho
  obtain ⟨h1, h2, h3, h4, h5, h6, h7, h8⟩ := ho'
  have c27 : J 65 27 = s.1 := by rw [← hs]; rfl
  have c28 : J 65 28 = s.2.1 := by rw [← hs]; rfl
  have c30 : J 65 30 = s.2.2.2.1 := by rw [← hs]; rfl
  have c31 : J 65 31 = s.2.2.2.2.1 := by rw [← hs]; rfl
  have c32 : J 65 32 = s.2.2.2.2.2.1 := by rw [← hs]; rfl
  refine ⟨fun hu => ?_, fun hu => ?_⟩
  · obtain ⟨J1, w1, w2⟩ := m_meets (J := J) (n0 := v 0) (t := J 65 30) (u := J 65 30 + 1) hv0 (f := s.1) (l := s.2.1) (by omega) h2 hbg (by omega) (by omega) (by rw [e66]) c27 c28 rfl rfl rfl rfl hz
    unfold f_UpRiverModel_skips_L37 f_UpRiverModel_top
    simp only [Option.bind_some]
    rw [e66, c27, if_pos (show am_i32 (8 * v 0) by omega), if_pos (show am_i32 s.1 by omega), if_pos hu, w1]
    simp only [Option.bind_some]
    unfold f_UpRiverModel_skips_L62 f_UpRiverModel_top
    simp only [Option.bind_some]
    have f66 : J1 66 = v := by rw [← e66]; funext j; exact frJ_UpRiverModel_meets w1 rfl
    have f27 : J1 65 27 = s.1 := by rw [← c27]; exact frJ_UpRiverModel_meets w1 rfl
    rw [f66, f27, if_pos (show am_i32 (8 * v 0) by omega), if_pos (show am_i32 s.1 by omega), if_pos hu]
    rw [c30] at w2
    exact ⟨J1, rfl, by rw [← c31]; exact frJ_UpRiverModel_meets w1 rfl, by rw [← c32]; exact frJ_UpRiverModel_meets w1 rfl, w2⟩
  · unfold f_UpRiverModel_skips_L37 f_UpRiverModel_skips_L62 f_UpRiverModel_top
    simp only [Option.bind_some]
    rw [e66, c27, if_pos (show am_i32 (8 * v 0) by omega), if_pos (show am_i32 s.1 by omega), if_neg (show ¬ s.1 < 8 * v 0 by omega), if_pos (show am_i32 (8 * v 0) by omega), if_pos (show am_i32 s.1 by omega), if_neg (show ¬ s.1 < 8 * v 0 by omega), c30]
theorem metW_z {n f l bl ba t u z y z' y' : Int} (h : metW n f l bl ba t u z y z' y') (hz : z = -4 ∨ (0 ≤ z ∧ z ≤ 300)) (ht : 0 ≤ t) : z' = -4 ∨ (0 ≤ z' ∧ z' ≤ 300) := by
  rcases h with h | h <;> omega
theorem metW_k {n f l bl ba t u z y z' y' : Int} (h : metW n f l bl ba t u z y z' y') (hz : z ≠ -4) : z' = z ∧ y' = y := by
  rcases h with h | h <;> omega
theorem hmS_t {J : am_J} {s : Int × Int × Int × Int × Int × Int × Int} (hs : hmS J = s) : J 65 27 = s.1 ∧ J 65 30 = s.2.2.2.1 := by
  rw [← hs]
  exact ⟨rfl, rfl⟩
theorem hcS_t {J : am_J} {s : Int × Int × Int × Int × Int × Int × Int} (hs : hcS J = s) : J 29 0 = s.1 ∧ J 29 1 = s.2.1 ∧ J 29 3 = s.2.2.2.1 ∧ J 29 4 = s.2.2.2.2.1 ∧ J 29 5 = s.2.2.2.2.2.1 := by
  rw [← hs]
  exact ⟨rfl, rfl, rfl, rfl, rfl⟩
/-- one round of the reference's loop -/
theorem m_L7 {v : Nat → Int} (hv : rv_ok v) {J : am_J} (e66 : J 66 = v) (e15 : J 65 15 = 0) {s : Int × Int × Int × Int × Int × Int × Int} (hs : hmS J = s) (ho : skO s) (hbg : bgO (J 65 34) (J 65 35)) (hz : J 65 36 = -4 ∨ (0 ≤ J 65 36 ∧ J 65 36 ≤ 300)) {m e : Int} (hm : 0 ≤ m ∧ m ≤ 20) (he : e = 0 ∨ e = 1) (n : Nat) : (s.1 < 8 * v 0 ∧ s.2.2.2.1 < 300 → ∃ J', f_UpRiverModel_skips_L7 (n + 1) m e J = f_UpRiverModel_skips_L7 n m e J' ∧ hmS J' = skN v m e s ∧ metW (v 0) s.1 s.2.1 (J 65 34) (J 65 35) s.2.2.2.1 (skN v m e s).2.2.2.1 (J 65 36) (J 65 37) (J' 65 36) (J' 65 37) ∧ J' 66 = v ∧ J' 65 15 = 0 ∧ J' 65 34 = J 65 34 ∧ J' 65 35 = J 65 35) ∧ (¬ (s.1 < 8 * v 0 ∧ s.2.2.2.1 < 300) → f_UpRiverModel_skips_L7 (n + 1) m e J = f_UpRiverModel_skips_L37 J) := by
  have hv0 := hv.1.1
  obtain ⟨c27, c30⟩ := hmS_t hs
  have ho' := ho
  obtain ⟨h1, h2, h3, h4, h5, h6, h7, h8⟩ := ho'
  refine ⟨fun hu => ?_, fun hu => ?_⟩
  · obtain ⟨J1, w1, w2, w3⟩ := m_hisStep hv e66 e15 hs ho hu.1 hu.2 hbg hz hm he
    refine ⟨J1, ?_, w2, w3, by rw [← e66]; funext j; exact frJ_UpRiverModel_hisStep w1 rfl, by rw [← e15]; exact frJ_UpRiverModel_hisStep w1 rfl, frJ_UpRiverModel_hisStep w1 rfl, frJ_UpRiverModel_hisStep w1 rfl⟩
    rw [f_UpRiverModel_skips_L7.eq_2]
    unfold f_UpRiverModel_top
    simp only [Option.bind_some]
    rw [e66, c27, c30, if_pos (show am_i32 (8 * v 0) by omega), if_pos (show am_i32 s.1 by omega), if_pos hu.1, if_pos (show am_i32 s.2.2.2.1 by omega), if_pos hu.2, w1]
    rfl
  · rw [f_UpRiverModel_skips_L7.eq_2]
    unfold f_UpRiverModel_top
    simp only [Option.bind_some]
    rw [e66, c27, c30, if_pos (show am_i32 (8 * v 0) by omega), if_pos (show am_i32 s.1 by omega), if_pos (show am_i32 s.2.2.2.1 by omega)]
    by_cases c0 : s.1 < 8 * v 0
    · rw [if_pos c0, if_neg (fun z => hu ⟨c0, z⟩)]
    · rw [if_neg c0]
theorem sk_loop {b : Bool} {v : Nat → Int} (hv : rv_ok v) {m e : Int} (hm : 0 ≤ m ∧ m ≤ 20) (he : e = 0 ∨ e = 1) : ∀ (k n n' : Nat) (i : Int) (J J2 : am_J) (s : Int × Int × Int × Int × Int × Int × Int), k < n → k < n' → (300 - s.2.2.2.1).toNat ≤ k → 0 ≤ i → i ≤ s.2.2.2.1 → rq (am_rv b) J v → hcS J = s → J 28 1 = m → J 28 2 = e → J2 66 = v → J2 65 15 = 0 → hmS J2 = s → skO s → bgO (J2 65 34) (J2 65 35) → (J2 65 36 = -4 ∨ (0 ≤ J2 65 36 ∧ J2 65 36 ≤ 300)) → ∃ r J' J2', f_UpRiver_skipperArrival_L18 b n i J = some (r, J') ∧ f_UpRiverModel_skips_L7 n' m e J2 = some (r, J2') ∧ (r = -4 ∨ (0 ≤ r ∧ r ≤ 300)) ∧ J' 29 4 = J2' 65 31 ∧ J' 29 5 = J2' 65 32 ∧ (0 ≤ J' 29 4 ∧ J' 29 4 ≤ 300) ∧ (0 ≤ J' 29 5 ∧ J' 29 5 ≤ 300) := by
  have hv0 := hv.1.1
  intro k
  induction k with
  | zero =>
    intro n n' i J J2 s hn hn' hk i0 i1 q hc e1 e2 e66 e15 hs ho hbg hz
    obtain ⟨n, rfl⟩ : ∃ m, n = m + 1 := ⟨n - 1, by omega⟩
    obtain ⟨n', rfl⟩ : ∃ m, n' = m + 1 := ⟨n' - 1, by omega⟩
    have ho' := ho
    obtain ⟨h1, h2, h3, h4, h5, h6, h7, h8⟩ := ho'
    obtain ⟨a1, a2, a3, a4, a5⟩ := hcS_t hc
    rw [f_UpRiver_skipperArrival_L18.eq_2, if_pos (show am_i32 i by omega), if_neg (show ¬ 300 < i by omega), c_isUp hv q (by omega), a1, (m_L7 hv e66 e15 hs ho hbg hz hm he n').2 (by omega)]
    simp only [Option.bind_some, fl_32, if_true, fl_0]
    by_cases up : 8 * v 0 ≤ s.1
    · rw [if_neg (show ¬ ¬ (8 * v 0 ≤ s.1) from fun z => z up)]
      unfold f_UpRiver_skipperArrival_L65
      rw [c_isUp hv q (by omega), a1]
      simp only [Option.bind_some, fl_32, if_true, fl_0]
      rw [if_neg (show ¬ ¬ (8 * v 0 ≤ s.1) from fun z => z up), (m_skips_end hv e66 hs ho hbg hz).2 up, a3]
      have c31 : J2 65 31 = s.2.2.2.2.1 := by rw [← hs]; rfl
      have c32 : J2 65 32 = s.2.2.2.2.2.1 := by rw [← hs]; rfl
      exact ⟨_, J, J2, rfl, rfl, by omega, by omega, by omega, by omega, by omega⟩
    · rw [if_pos up, c_act hv q (by rw [hc]; exact ho) (by omega) e1 e2 hm he, if_neg (show ¬ J 29 3 < 300 by omega)]
      simp only [Option.bind_some]
      rw [if_pos (show am_i32 0 by decide), if_pos trivial]
      obtain ⟨J3, y1, y2, y3, -⟩ := (m_skips_end hv e66 hs ho hbg hz).1 (by omega)
      rw [y1]
      exact ⟨-4, J, J3, rfl, rfl, by omega, by omega, by omega, by omega, by omega⟩
  | succ k ih =>
    intro n n' i J J2 s hn hn' hk i0 i1 q hc e1 e2 e66 e15 hs ho hbg hz
    obtain ⟨n, rfl⟩ : ∃ m, n = m + 1 := ⟨n - 1, by omega⟩
    obtain ⟨n', rfl⟩ : ∃ m, n' = m + 1 := ⟨n' - 1, by omega⟩
    have ho' := ho
    obtain ⟨h1, h2, h3, h4, h5, h6, h7, h8⟩ := ho'
    obtain ⟨a1, a2, a3, a4, a5⟩ := hcS_t hc
    rw [f_UpRiver_skipperArrival_L18.eq_2, if_pos (show am_i32 i by omega), if_neg (show ¬ 300 < i by omega), c_isUp hv q (by omega), a1]
    simp only [Option.bind_some, fl_32, if_true, fl_0]
    by_cases up : 8 * v 0 ≤ s.1
    · rw [if_neg (show ¬ ¬ (8 * v 0 ≤ s.1) from fun z => z up), (m_L7 hv e66 e15 hs ho hbg hz hm he n').2 (by omega)]
      unfold f_UpRiver_skipperArrival_L65
      rw [c_isUp hv q (by omega), a1]
      simp only [Option.bind_some, fl_32, if_true, fl_0]
      rw [if_neg (show ¬ ¬ (8 * v 0 ≤ s.1) from fun z => z up), (m_skips_end hv e66 hs ho hbg hz).2 up, a3]
      have c31 : J2 65 31 = s.2.2.2.2.1 := by rw [← hs]; rfl
      have c32 : J2 65 32 = s.2.2.2.2.2.1 := by rw [← hs]; rfl
      exact ⟨_, J, J2, rfl, rfl, by omega, by omega, by omega, by omega, by omega⟩
    · rw [if_pos up]
      by_cases ct : s.2.2.2.1 < 300
      · obtain ⟨J', w1, w2, w3, w4⟩ := c_act_s hv q (by rw [hc]; exact ho) (by omega) e1 e2 hm he (by omega)
        rw [hc] at w2
        obtain ⟨J2', y1, y2, y3, y4, y5, y6, y7⟩ := (m_L7 hv e66 e15 hs ho hbg hz hm he n').1 ⟨by omega, ct⟩
        obtain ⟨k1, k2, k3⟩ := skN_ok hv (m := m) (e := e) ho (by omega) ct
        rw [w1, y1]
        simp only [Option.bind_some]
        rw [if_pos (show am_i32 1 by decide), if_neg (show ¬ (1 : Int) = 0 by decide)]
        exact ih n n' (i + 1) J' J2' (skN v m e s) (by omega) (by omega) (by omega) (by omega) (by omega) (rq_nw q (fun a j hw => frJ_Skipper_act w1 hw) rfl rfl) w2 w3 w4 y4 y5 y2 k1 (by rw [y6, y7]; exact hbg) (metW_z y3 hz (by omega))
      · rw [c_act hv q (by rw [hc]; exact ho) (by omega) e1 e2 hm he, if_neg (show ¬ J 29 3 < 300 by omega), (m_L7 hv e66 e15 hs ho hbg hz hm he n').2 (by omega)]
        simp only [Option.bind_some]
        rw [if_pos (show am_i32 0 by decide), if_pos trivial]
        obtain ⟨J3, y1, y2, y3, -⟩ := (m_skips_end hv e66 hs ho hbg hz).1 (by omega)
        rw [y1]
        exact ⟨-4, J, J3, rfl, rfl, by omega, by omega, by omega, by omega, by omega⟩
theorem sk_run {b : Bool} {v : Nat → Int} (hv : rv_ok v) {m e : Int} (hm : 0 ≤ m ∧ m ≤ 20) (he : e = 0 ∨ e = 1) {J J2 : am_J} (q : rq (am_rv b) J v) (hb : bR J) (e66 : J2 66 = v) (e15 : J2 65 15 = 0) (hbm : bm J J2 0) {bl ba : Int} (hbg : bgO bl ba) : ∃ r J' J2', f_UpRiver_skipperArrival b m e J = some (r, J') ∧ f_UpRiverModel_skips m e bl ba J2 = some (r, J2') ∧ (r = -4 ∨ (0 ≤ r ∧ r ≤ 300)) ∧ J' 29 4 = J2' 65 31 ∧ J' 29 5 = J2' 65 32 ∧ (0 ≤ J' 29 4 ∧ J' 29 4 ≤ 300) ∧ (0 ≤ J' 29 5 ∧ J' 29 5 ≤ 300) := by
  obtain ⟨r0, r1, r2, r3, r4, r5, r6⟩ := hb
  obtain ⟨m0, m1, m2, m3, m4, m5⟩ := hbm
  unfold f_UpRiver_skipperArrival f_Skipper_begin f_Boat_lieAt f_UpRiverModel_skips f_UpRiverModel_hisBegin
  simp only [Option.bind_some]
  refine sk_loop hv hm he 300 am_FU am_FU 0 _ _ (J 18 0, J 18 1, J 18 2, J 18 3, 0, 0, 1) (by decide) (by decide) (by dsimp only; omega) (by omega) (by dsimp only; omega) ?_ rfl rfl rfl ?_ ?_ ?_ ?_ ?_ ?_
  · exact rq_cong q rfl fun a ha j => by rw [up_row (by omega), up_row (by omega), up_row (by omega), up_row (by omega), up_row (by omega), up_row (by omega), up_row (by omega), up_row (by omega), up_row (by omega)]
  · rw [← e66]; rfl
  · rw [← e15]; rfl
  · rw [m0, m1, m2, m3]; rfl
  · refine ⟨?_, ?_, ?_, ?_, ?_, ?_, ?_, ?_⟩ <;> dsimp only <;> omega
  · exact hbg
  · exact Or.inl rfl
theorem c_isSkipper {x y : Int} (hx : am_i32 x) (hy : am_i32 y) : f_UpRiver_isSkipper x y = some (fl ((0 ≤ x ∧ x ≤ 20) ∧ (0 ≤ y ∧ y ≤ 1))) := by
  unfold f_UpRiver_isSkipper
  rw [if_pos hx, c_isYesOrNo hy]
  simp only [Option.bind_some, fl_32, if_true, fl_0]
  by_cases a : x < 0
  · rw [if_pos a, fl_f (by omega)]
  · rw [if_neg a]
    by_cases c : 20 < x
    · rw [if_pos c, fl_f (by omega)]
    · rw [if_neg c]
      by_cases d : 0 ≤ y ∧ y ≤ 1
      · rw [if_neg (show ¬ ¬ (0 ≤ y ∧ y ≤ 1) from fun z => z d), fl_t (by omega)]
      · rw [if_pos d, fl_f (by omega)]
theorem m_isSkipper {x y : Int} (hx : am_i32 x) (hy : am_i32 y) : f_UpRiverModel_isSkipper x y = some (fl ((0 ≤ x ∧ x ≤ 20) ∧ (0 ≤ y ∧ y ≤ 1))) := by
  unfold f_UpRiverModel_isSkipper
  rw [m_in3 hy, show (0 : Int64) = am_i2l 0 from rfl, show (20 : Int64) = am_i2l 20 from rfl, m_in hx (by decide) (by decide)]
  simp only [Option.bind_some, fl_32, if_true, fl_0]
  by_cases a : 0 ≤ x ∧ x ≤ 20
  · rw [if_neg (show ¬ ¬ (0 ≤ x ∧ x ≤ 20) from fun z => z a)]
    by_cases d : 0 ≤ y ∧ y ≤ 1
    · rw [if_neg (show ¬ ¬ (0 ≤ y ∧ y ≤ 1) from fun z => z d), fl_t ⟨a, d⟩]
    · rw [if_pos d, fl_f (fun z => d z.2)]
  · rw [if_pos a, fl_f (fun z => a z.1)]
theorem e_skipper {b : Bool} {J : am_J} {x y z : Int} (hr : sR b J) (hb : sB J) (hx : am_i32 x) (hy : am_i32 y) (hz : am_i32 z) : ∃ r J' J2, f_UpRiver_skipper b x y z J = some (r, J') ∧ f_UpRiverModel_skipper x y z J' = some (r, J2) ∧ am_i32 r := by
  obtain ⟨h, q, e15⟩ := hr
  obtain ⟨bR1, bm1⟩ := hb
  have bR2 := bR1
  obtain ⟨r0, r1, r2, r3, r4, r5, r6⟩ := bR2
  have m0 := bm1.1
  have mo : ∀ J1 : am_J, f_UpRiverModel_skipper x y z J1 = if ((0 ≤ x ∧ x ≤ 20) ∧ (0 ≤ y ∧ y ≤ 1)) ∧ (0 ≤ z ∧ z ≤ 2) then ((f_UpRiverModel_isUp J1).bind fun q2549 => if am_i32 q2549 then (if q2549 = 0 then ((f_UpRiverModel_skips x y (-4) 0 J1).bind fun q2553 => if am_i32 z then (if z = 0 then (some (q2553.1, q2553.2)) else (if z = 1 then (some (q2553.2 65 31, q2553.2)) else (some (q2553.2 65 32, q2553.2)))) else none) else (some ((-2), J1))) else none) else some (-1, J1) := by
    intro J1
    unfold f_UpRiverModel_skipper
    rw [m_isSkipper hx hy, show (0 : Int64) = am_i2l 0 from rfl, show (2 : Int64) = am_i2l 2 from rfl, m_in hz (by decide) (by decide)]
    simp only [Option.bind_some, fl_32, if_true, fl_0]
    by_cases c0 : (0 ≤ x ∧ x ≤ 20) ∧ (0 ≤ y ∧ y ≤ 1)
    · rw [if_neg (show ¬ ¬ ((0 ≤ x ∧ x ≤ 20) ∧ (0 ≤ y ∧ y ≤ 1)) from fun w => w c0)]
      by_cases c1 : 0 ≤ z ∧ z ≤ 2
      · rw [if_neg (show ¬ ¬ (0 ≤ z ∧ z ≤ 2) from fun w => w c1), if_pos (show ((0 ≤ x ∧ x ≤ 20) ∧ (0 ≤ y ∧ y ≤ 1)) ∧ (0 ≤ z ∧ z ≤ 2) from ⟨c0, c1⟩)]
      · rw [if_pos c1, if_neg (show ¬ (((0 ≤ x ∧ x ≤ 20) ∧ (0 ≤ y ∧ y ≤ 1)) ∧ (0 ≤ z ∧ z ≤ 2)) from fun w => c1 w.2)]
    · rw [if_pos c0, if_neg (show ¬ (((0 ≤ x ∧ x ≤ 20) ∧ (0 ≤ y ∧ y ≤ 1)) ∧ (0 ≤ z ∧ z ≤ 2)) from fun w => c0 w.1)]
  have co : f_UpRiver_skipper b x y z J = if ((0 ≤ x ∧ x ≤ 20) ∧ (0 ≤ y ∧ y ≤ 1)) ∧ (0 ≤ z ∧ z ≤ 2) then ((f_Boat_isUp 18 (am_rv b) J).bind fun q997 => if am_i32 q997 then (if q997 = 0 then ((f_UpRiver_skipperArrival b x y J).bind fun q1001 => if z = 0 then (some (q1001.1, q1001.2)) else (if z = 1 then (some (q1001.2 29 4, q1001.2)) else (some (q1001.2 29 5, q1001.2)))) else (some ((-2), J))) else none) else some (-1, J) := by
    unfold f_UpRiver_skipper
    rw [c_isSkipper hx hy]
    simp only [Option.bind_some, fl_32, if_true, fl_0]
    rw [if_pos hz]
    by_cases c0 : (0 ≤ x ∧ x ≤ 20) ∧ (0 ≤ y ∧ y ≤ 1)
    · rw [if_neg (show ¬ ¬ ((0 ≤ x ∧ x ≤ 20) ∧ (0 ≤ y ∧ y ≤ 1)) from fun w => w c0)]
      by_cases c1 : 0 ≤ z ∧ z ≤ 2
      · rw [if_neg (show ¬ z < 0 by omega), if_neg (show ¬ 2 < z by omega), if_pos (show ((0 ≤ x ∧ x ≤ 20) ∧ (0 ≤ y ∧ y ≤ 1)) ∧ (0 ≤ z ∧ z ≤ 2) from ⟨c0, c1⟩)]
      · rw [if_neg (show ¬ (((0 ≤ x ∧ x ≤ 20) ∧ (0 ≤ y ∧ y ≤ 1)) ∧ (0 ≤ z ∧ z ≤ 2)) from fun w => c1 w.2)]
        by_cases c2 : z < 0
        · rw [if_pos c2]
        · rw [if_neg c2, if_pos (show 2 < z by omega)]
    · rw [if_pos c0, if_neg (show ¬ (((0 ≤ x ∧ x ≤ 20) ∧ (0 ≤ y ∧ y ≤ 1)) ∧ (0 ≤ z ∧ z ≤ 2)) from fun w => c0 w.1)]
  by_cases c0 : ((0 ≤ x ∧ x ≤ 20) ∧ (0 ≤ y ∧ y ≤ 1)) ∧ (0 ≤ z ∧ z ≤ 2)
  · rw [if_pos c0, c_isUp h q (by omega)] at co
    simp only [Option.bind_some, fl_32, if_true, fl_0] at co
    by_cases up : 8 * J 66 0 ≤ J 18 0
    · rw [if_neg (show ¬ ¬ (8 * J 66 0 ≤ J 18 0) from fun w => w up)] at co
      refine ⟨-2, J, J, co, ?_, by decide⟩
      rw [mo, if_pos c0, m_isUp h (by omega)]
      simp only [Option.bind_some, fl_32, if_true, fl_0]
      rw [if_neg (show ¬ ¬ (8 * J 66 0 ≤ J 68 1) from fun w => w (by omega))]
    · rw [if_pos up] at co
      obtain ⟨r, J', -, u1, -⟩ := sk_run h c0.1.1 (by omega) (b := b) q bR1 (J2 := J) rfl e15 bm1 (bl := -4) (ba := 0) (by omega) (m := x) (e := y)
      have f66 : J' 66 = J 66 := by funext j; exact frJ_UpRiver_skipperArrival u1 rfl
      have f15 : J' 65 15 = 0 := by rw [← e15]; exact frJ_UpRiver_skipperArrival u1 rfl
      have f68 : ∀ j, J' 68 j = J 68 j := fun j => frJ_UpRiver_skipperArrival u1 rfl
      obtain ⟨r', J'', J2, w1, w2, w3, w4, w5, w6, w7⟩ := sk_run h c0.1.1 (by omega) (b := b) q bR1 (J2 := J') f66 f15 (by unfold bm; rw [f68, f68, f68, f68, f68, f68]; exact bm1) (bl := -4) (ba := 0) (by omega) (m := x) (e := y)
      obtain ⟨rfl, rfl⟩ := Prod.mk.inj (Option.some.inj (u1.symm.trans w1))
      rw [u1] at co
      simp only [Option.bind_some] at co
      have ml : f_UpRiverModel_skipper x y z J' = if z = 0 then some (r, J2) else (if z = 1 then some (J2 65 31, J2) else some (J2 65 32, J2)) := by
        rw [mo, if_pos c0, m_isUp (by rw [f66]; exact h) (by rw [f68]; omega), f66, f68]
        simp only [Option.bind_some, fl_32, if_true, fl_0]
        rw [if_pos (show ¬ (8 * J 66 0 ≤ J 68 1) by omega), w2]
        simp only [Option.bind_some]
        rw [if_pos hz]
      have hzc : z = 0 ∨ z = 1 ∨ z = 2 := by omega
      rcases hzc with rfl | rfl | rfl
      · exact ⟨r, J', J2, co.trans (if_pos rfl), ml.trans (if_pos rfl), by omega⟩
      · exact ⟨J' 29 4, J', J2, co.trans ((if_neg (by decide)).trans (if_pos rfl)), by rw [w4]; exact ml.trans ((if_neg (by decide)).trans (if_pos rfl)), by omega⟩
      · exact ⟨J' 29 5, J', J2, co.trans ((if_neg (by decide)).trans (if_neg (by decide))), by rw [w5]; exact ml.trans ((if_neg (by decide)).trans (if_neg (by decide))), by omega⟩
  · rw [if_neg c0] at co
    exact ⟨-1, J, J, co, by rw [mo, if_neg c0], by decide⟩
