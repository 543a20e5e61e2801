/-! best, loses, barge -/
theorem m_best_L86 {kb : Int → Int → Int → Int → Int → am_J → Option (Int × am_J)} {x1 x2 x3 x4 x5 x6 s : Int} {J : am_J} (hs : s = 0 ∨ s = 1) : f_UpRiverModel_best_L86 kb x1 x2 x3 x4 x5 x6 s J = kb x1 x2 (if s = 0 then x3 else x5) (if s = 0 then x4 else x6) (x5 + 1) J := by
  unfold f_UpRiverModel_best_L86 f_UpRiverModel_best_L99
  rcases hs with rfl | rfl
  · rw [if_pos (show am_i32 0 by decide), if_pos (show (0 : Int) = 0 from rfl), if_pos (show am_i32 0 by decide), if_pos (show (0 : Int) = 0 from rfl)]; rfl
  · rw [if_pos (show am_i32 1 by decide), if_neg (show ¬ (1 : Int) = 0 by decide), if_pos (show am_i32 1 by decide), if_neg (show ¬ (1 : Int) = 0 by decide)]; rfl
theorem best_loop {b : Bool} {v : Nat → Int} (hv : rv_ok v) {e w : Int} (he : e = 0 ∨ e = 1) (hw : w = 0 ∨ w = 1) {J0 : am_J} (hb : bR J0) : ∀ (k n : Nat) (p u m : Int) (J J2 : am_J), k < n → 21 - m = (k : Int) → 0 ≤ m → (p = -4 ∧ u = -4) ∨ ((0 ≤ p ∧ p ≤ 20) ∧ (0 ≤ u ∧ u ≤ 300)) → rq (am_rv b) J v → J 18 = J0 18 → J2 66 = v → J2 65 15 = 0 → bm J0 J2 0 → ∃ r J' J2', f_UpRiver_best_L46 b n e w p u m J = some (r, J') ∧ f_UpRiverModel_best_L42 n e w p u m J2 = some (r, J2') ∧ am_i32 r := by
  intro k
  induction k with
  | zero =>
    intro n p u m J J2 hn hk m0 rel q e18 e66 e15 hbm
    obtain ⟨n, rfl⟩ : ∃ m, n = m + 1 := ⟨n - 1, by omega⟩
    rw [f_UpRiver_best_L46.eq_2, f_UpRiverModel_best_L42.eq_2, if_pos (show am_i32 m by omega), if_pos (show 20 < m by omega), if_pos (show am_i32 w by omega), if_pos (show am_i32 m by omega), if_pos (show 20 < m by omega), if_pos (show am_i32 w by omega)]
    rcases hw with rfl | rfl
    · exact ⟨p, J, J2, rfl, rfl, by omega⟩
    · exact ⟨u, J, J2, rfl, rfl, by omega⟩
  | succ k ih =>
    intro n p u m J J2 hn hk m0 rel q e18 e66 e15 hbm
    obtain ⟨n, rfl⟩ : ∃ m, n = m + 1 := ⟨n - 1, by omega⟩
    obtain ⟨r, J', J2', u1, u2, u3, -, -, -, -⟩ := sk_run hv (m := m) (e := e) (by omega) he (b := b) q (J := J) (by unfold bR; rw [e18]; exact hb) (J2 := J2) e66 e15 (by unfold bm; rw [e18]; exact hbm) (bl := -4) (ba := 0) (by omega)
    have q' : rq (am_rv b) J' v := rq_nw q (fun a j hw => frJ_UpRiver_skipperArrival u1 hw) rfl rfl
    have g18 : J' 18 = J0 18 := by rw [← e18]; funext j; exact frJ_UpRiver_skipperArrival u1 rfl
    have g66 : J2' 66 = v := by rw [← e66]; funext j; exact frJ_UpRiverModel_skips u2 rfl
    have g15 : J2' 65 15 = 0 := by rw [← e15]; exact frJ_UpRiverModel_skips u2 rfl
    have g68 : ∀ j, J2' 68 j = J2 68 j := fun j => frJ_UpRiverModel_skips u2 rfl
    have gbm : bm J0 J2' 0 := by unfold bm; rw [g68, g68, g68, g68, g68, g68]; exact hbm
    rw [f_UpRiver_best_L46.eq_2, f_UpRiverModel_best_L42.eq_2, if_pos (show am_i32 m by omega), if_neg (show ¬ 20 < m by omega), u1, if_pos (show am_i32 m by omega), if_neg (show ¬ 20 < m by omega), u2]
    simp only [Option.bind_some]
    rw [if_pos (show am_i32 r by omega), if_pos (show am_i32 r by omega), if_pos (show am_i32 u by omega), if_pos (show am_i32 p by omega), m_best_L86 (Or.inl rfl), m_best_L86 (Or.inr rfl), if_pos (show (0 : Int) = 0 from rfl), if_pos (show (0 : Int) = 0 from rfl), if_neg (show ¬ (1 : Int) = 0 by decide), if_neg (show ¬ (1 : Int) = 0 by decide)]
    by_cases c0 : r = -4
    · rw [if_pos c0, if_pos c0]
      exact ih n p u (m + 1) J' J2' (by omega) (by omega) (by omega) rel q' g18 g66 g15 gbm
    · rw [if_neg c0, if_neg c0]
      have win : ∃ r' J'' J2'', f_UpRiver_best_L46 b n e w m r (m + 1) J' = some (r', J'') ∧ f_UpRiverModel_best_L42 n e w m r (m + 1) J2' = some (r', J2'') ∧ am_i32 r' :=
        ih n m r (m + 1) J' J2' (by omega) (by omega) (by omega) (Or.inr (by omega)) q' g18 g66 g15 gbm
      rcases rel with ⟨r1, r2⟩ | ⟨r1, r2⟩
      · rw [if_pos r2, if_pos r1]
        exact win
      · rw [if_neg (show ¬ u = -4 by omega), if_neg (show ¬ p = -4 by omega)]
        by_cases c1 : r < u
        · rw [if_pos c1, if_pos (show am_i32 u by omega), if_pos c1]
          exact win
        · rw [if_neg c1, if_pos (show am_i32 u by omega), if_neg c1]
          exact ih n p u (m + 1) J' J2' (by omega) (by omega) (by omega) (Or.inr ⟨r1, r2⟩) q' g18 g66 g15 gbm
theorem e_best {b : Bool} {J : am_J} {x y : Int} (hr : sR b J) (hb : sB J) (hx : am_i32 x) (hy : am_i32 y) : ∃ r J' J2, f_UpRiver_best b x y J = some (r, J') ∧ f_UpRiverModel_best x y J' = some (r, J2) ∧ am_i32 r := by
  obtain ⟨h, q, e15⟩ := hr
  obtain ⟨bR1, bm1⟩ := hb
  have r0 := bR1.1
  have m0 := bm1.1
  have mo : ∀ J1 : am_J, f_UpRiverModel_best x y J1 = if (0 ≤ x ∧ x ≤ 1) ∧ (0 ≤ y ∧ y ≤ 1) then ((f_UpRiverModel_isUp J1).bind fun q => if am_i32 q then (if q = 0 then (f_UpRiverModel_best_L42 am_FU x y (-4) (-4) 0 J1) else (some ((-2), J1))) else none) else some (-1, J1) := by
    intro J1
    unfold f_UpRiverModel_best
    rw [m_in3 hx, m_in3 hy]
    simp only [Option.bind_some, fl_32, if_true, fl_0]
    by_cases c0 : 0 ≤ x ∧ x ≤ 1
    · rw [if_neg (show ¬ ¬ (0 ≤ x ∧ x ≤ 1) from fun w => w c0)]
      by_cases c1 : 0 ≤ y ∧ y ≤ 1
      · rw [if_neg (show ¬ ¬ (0 ≤ y ∧ y ≤ 1) from fun w => w c1), if_pos (show (0 ≤ x ∧ x ≤ 1) ∧ (0 ≤ y ∧ y ≤ 1) from ⟨c0, c1⟩)]
      · rw [if_pos c1, if_neg (show ¬ ((0 ≤ x ∧ x ≤ 1) ∧ (0 ≤ y ∧ y ≤ 1)) from fun w => c1 w.2)]
    · rw [if_pos c0, if_neg (show ¬ ((0 ≤ x ∧ x ≤ 1) ∧ (0 ≤ y ∧ y ≤ 1)) from fun w => c0 w.1)]
  have co : f_UpRiver_best b x y J = if (0 ≤ x ∧ x ≤ 1) ∧ (0 ≤ y ∧ y ≤ 1) then ((f_Boat_isUp 18 (am_rv b) J).bind fun q => if am_i32 q then (if q = 0 then (f_UpRiver_best_L46 b am_FU x y (-4) (-4) 0 J) else (some ((-2), J))) else none) else some (-1, J) := by
    unfold f_UpRiver_best
    rw [c_isYesOrNo hx, c_isYesOrNo hy]
    simp only [Option.bind_some, fl_32, if_true, fl_0]
    by_cases c0 : 0 ≤ x ∧ x ≤ 1
    · rw [if_neg (show ¬ ¬ (0 ≤ x ∧ x ≤ 1) from fun w => w c0)]
      by_cases c1 : 0 ≤ y ∧ y ≤ 1
      · rw [if_neg (show ¬ ¬ (0 ≤ y ∧ y ≤ 1) from fun w => w c1), if_pos (show (0 ≤ x ∧ x ≤ 1) ∧ (0 ≤ y ∧ y ≤ 1) from ⟨c0, c1⟩)]
      · rw [if_pos c1, if_neg (show ¬ ((0 ≤ x ∧ x ≤ 1) ∧ (0 ≤ y ∧ y ≤ 1)) from fun w => c1 w.2)]
    · rw [if_pos c0, if_neg (show ¬ ((0 ≤ x ∧ x ≤ 1) ∧ (0 ≤ y ∧ y ≤ 1)) from fun w => c0 w.1)]
  by_cases c0 : (0 ≤ x ∧ x ≤ 1) ∧ (0 ≤ y ∧ y ≤ 1)
  · rw [if_pos c0, c_isUp h q (by omega)] at co
    simp only [Option.bind_some, fl_32, if_true, fl_0] at co
    by_cases up : 8 * J 66 0 ≤ J 18 0
    · rw [if_neg (show ¬ ¬ (8 * J 66 0 ≤ J 18 0) from fun w => w up)] at co
      refine ⟨-2, J, J, co, ?_, by decide⟩
      rw [mo, if_pos c0, m_isUp h (by omega)]
      simp only [Option.bind_some, fl_32, if_true, fl_0]
      rw [if_neg (show ¬ ¬ (8 * J 66 0 ≤ J 68 1) from fun w => w (by omega))]
    · rw [if_pos up] at co
      have run : ∀ J2 : am_J, J2 66 = J 66 → J2 65 15 = 0 → bm J J2 0 → ∃ r J' J2', f_UpRiver_best_L46 b am_FU x y (-4) (-4) 0 J = some (r, J') ∧ f_UpRiverModel_best_L42 am_FU x y (-4) (-4) 0 J2 = some (r, J2') ∧ am_i32 r :=
        fun J2 a1 a2 a3 => best_loop h (by omega) (by omega) bR1 21 am_FU (-4) (-4) 0 J J2 (by decide) (by omega) (by omega) (Or.inl ⟨rfl, rfl⟩) q rfl a1 a2 a3
      obtain ⟨r, J', -, u1, -⟩ := run J rfl e15 bm1
      have u1' := co.trans u1
      have f66 : J' 66 = J 66 := by funext j; exact frJ_UpRiver_best u1' rfl
      have f15 : J' 65 15 = 0 := by rw [← e15]; exact frJ_UpRiver_best u1' rfl
      have f68 : ∀ j, J' 68 j = J 68 j := fun j => frJ_UpRiver_best u1' rfl
      obtain ⟨r', J'', J2, w1, w2, w3⟩ := run J' f66 f15 (by unfold bm; rw [f68, f68, f68, f68, f68, f68]; exact bm1)
      obtain ⟨rfl, rfl⟩ := Prod.mk.inj (Option.some.inj (u1.symm.trans w1))
      refine ⟨r, J', J2, u1', ?_, w3⟩
      rw [mo, if_pos c0, m_isUp (by rw [f66]; exact h) (by rw [f68]; omega), f66, f68]
      simp only [Option.bind_some, fl_32, if_true, fl_0]
      rw [if_pos (show ¬ (8 * J 66 0 ≤ J 68 1) by omega)]
      exact w2
  · rw [if_neg c0] at co
    exact ⟨-1, J, J, co, by rw [mo, if_neg c0], by decide⟩
theorem e_loses {b : Bool} {J : am_J} {K : am_K} {x y : Int} (hr : sR b J) (hk : rK (am_rv b) K (J 66)) (hb : sB J) (hx : am_i32 x) (hy : am_i32 y) : ∃ r J' K' J2, f_UpRiver_loses b x y J K = some (r, J', K') ∧ f_UpRiverModel_loses x y J' = some (r, J2) ∧ am_i32 r := by
  obtain ⟨h, q, e15⟩ := hr
  obtain ⟨bR1, bm1⟩ := hb
  have bR2 := bR1
  obtain ⟨r0, r1, r2, r3, r4, r5, r6⟩ := bR2
  have bm2 := bm1
  obtain ⟨m0, m1, m2, m3, m4, m5⟩ := bm2
  have co : f_UpRiver_loses b x y J K = if (0 ≤ x ∧ x ≤ 20) ∧ (0 ≤ y ∧ y ≤ 1) then ((f_Boat_isUp 18 (am_rv b) J).bind fun q1032 => if am_i32 q1032 then (if q1032 = 0 then ((f_UpRiver_skipperArrival b x y J).bind fun q1036 => if am_i32 q1036.1 then (if q1036.1 = (-4) then (some ((-4), q1036.2, K)) else ((f_UpRiver_arrivalOf 18 b 0 8 q1036.2 K).bind fun q1040 => some (q1036.1 - q1040.1, q1040.2.1, q1040.2.2))) else none) else (some ((-2), J, K))) else none) else some (-1, J, K) := by
    unfold f_UpRiver_loses
    rw [c_isSkipper hx hy]
    simp only [Option.bind_some, fl_32, if_true, fl_0]
    by_cases c0 : (0 ≤ x ∧ x ≤ 20) ∧ (0 ≤ y ∧ y ≤ 1)
    · rw [if_neg (show ¬ ¬ ((0 ≤ x ∧ x ≤ 20) ∧ (0 ≤ y ∧ y ≤ 1)) from fun w => w c0), if_pos c0]
    · rw [if_pos c0, if_neg c0]
  have mo : ∀ J1 : am_J, f_UpRiverModel_loses x y J1 = if (0 ≤ x ∧ x ≤ 20) ∧ (0 ≤ y ∧ y ≤ 1) then ((f_UpRiverModel_isUp J1).bind fun q2590 => if am_i32 q2590 then (if q2590 = 0 then ((f_UpRiverModel_skips x y (-4) 0 J1).bind fun q2594 => if am_i32 q2594.1 then (if q2594.1 = (-4) then (some ((-4), q2594.2)) else ((f_UpRiverModel_soonestNow 0 8 q2594.2).bind fun q2598 => some (q2594.1 - q2598.1, q2598.2))) else none) else (some ((-2), J1))) else none) else some (-1, J1) := by
    intro J1
    unfold f_UpRiverModel_loses
    rw [m_isSkipper hx hy]
    simp only [Option.bind_some, fl_32, if_true, fl_0]
    by_cases c0 : (0 ≤ x ∧ x ≤ 20) ∧ (0 ≤ y ∧ y ≤ 1)
    · rw [if_neg (show ¬ ¬ ((0 ≤ x ∧ x ≤ 20) ∧ (0 ≤ y ∧ y ≤ 1)) from fun w => w c0), if_pos c0]
    · rw [if_pos c0, if_neg c0]
  by_cases c0 : (0 ≤ x ∧ x ≤ 20) ∧ (0 ≤ y ∧ y ≤ 1)
  · rw [if_pos c0, c_isUp h q (by omega)] at co
    simp only [Option.bind_some, fl_32, if_true, fl_0] at co
    by_cases up : 8 * J 66 0 ≤ J 18 0
    · rw [if_neg (show ¬ ¬ (8 * J 66 0 ≤ J 18 0) from fun w => w up)] at co
      refine ⟨-2, J, K, J, co, ?_, by decide⟩
      rw [mo, if_pos c0, m_isUp h (by omega)]
      simp only [Option.bind_some, fl_32, if_true, fl_0]
      rw [if_neg (show ¬ ¬ (8 * J 66 0 ≤ J 68 1) from fun w => w (by omega))]
    · rw [if_pos up] at co
      obtain ⟨r, J1, -, u1, -, u3, -⟩ := sk_run h c0.1 (by omega) (b := b) q bR1 (J2 := J) rfl e15 bm1 (bl := -4) (ba := 0) (by omega) (m := x) (e := y)
      have g18 : J1 18 = J 18 := by funext j; exact frJ_UpRiver_skipperArrival u1 rfl
      have q1 : rq (am_rv b) J1 (J 66) := rq_nw q (fun a j hw => frJ_UpRiver_skipperArrival u1 hw) rfl rfl
      obtain ⟨p, J2, K2, w1, w2⟩ := c_arrivalOf h q1 hk (o1 := 18) (by decide) (a := 0) (c := 8) rfl rfl rfl rfl (by rw [g18]; omega) (by rw [g18]; exact r1) (by rw [g18]; exact r2) (by rw [g18]; exact r3) (by omega) (by omega) (by omega)
      rw [g18] at w2
      have p32 := w2.1
      rw [u1] at co
      simp only [Option.bind_some] at co
      rw [if_pos (show am_i32 r by omega), w1] at co
      -- the reference from any state with the same river and boat
      have ml : ∀ J3 : am_J, J3 66 = J 66 → J3 65 15 = 0 → (∀ j, J3 68 j = J 68 j) → ∃ J4, f_UpRiverModel_loses x y J3 = some (if r = -4 then -4 else r - p, J4) := by
        intro J3 f66 f15 f68
        obtain ⟨r', J'', J4, z1, z2, z3, -⟩ := sk_run h c0.1 (by omega) (b := b) q bR1 (J2 := J3) f66 f15 (by unfold bm; rw [f68, f68, f68, f68, f68, f68]; exact bm1) (bl := -4) (ba := 0) (by omega) (m := x) (e := y)
        obtain ⟨rfl, -⟩ := Prod.mk.inj (Option.some.inj (u1.symm.trans z1))
        have k66 : J4 66 = J 66 := by rw [← f66]; funext j; exact frJ_UpRiverModel_skips z2 rfl
        have k15 : J4 65 15 = 0 := by rw [← f15]; exact frJ_UpRiverModel_skips z2 rfl
        have k68 : ∀ j, J4 68 j = J 68 j := fun j => (frJ_UpRiverModel_skips z2 rfl).trans (f68 j)
        obtain ⟨p', J5, y1, y2, -⟩ := m_soonestFrom (J := J4) (f := J 68 1) (l := J 68 2) (b := J 68 3) (t := J 68 0) (a := 0) (c := 8) (by rw [k66]; exact h) (by omega) (by omega) (by omega) (by omega) (by omega) (by omega) (by omega)
        rw [k66, k15, ← m0, ← m1, ← m2, ← m3] at y2
        have ep : p' = p := arr_eq (y2 (by omega)) w2
        rw [mo, if_pos c0, m_isUp (by rw [f66]; exact h) (by rw [f68]; omega), f66, f68]
        simp only [Option.bind_some, fl_32, if_true, fl_0]
        rw [if_pos (show ¬ (8 * J 66 0 ≤ J 68 1) by omega), z2]
        simp only [Option.bind_some]
        rw [if_pos (show am_i32 r by omega)]
        by_cases c1 : r = -4
        · rw [if_pos c1, if_pos c1]
          exact ⟨_, rfl⟩
        · rw [if_neg c1, if_neg c1]
          unfold f_UpRiverModel_soonestNow
          rw [k68, k68, k68, k68, y1, ep]
          exact ⟨_, rfl⟩
      by_cases c1 : r = -4
      · rw [if_pos c1] at co
        obtain ⟨J4, y1⟩ := ml J1 (by funext j; exact frJ_UpRiver_loses co rfl) (by rw [← e15]; exact frJ_UpRiver_loses co rfl) (fun j => frJ_UpRiver_loses co rfl)
        rw [if_pos c1] at y1
        exact ⟨-4, J1, K, J4, co, y1, by decide⟩
      · rw [if_neg c1] at co
        have co' : f_UpRiver_loses b x y J K = some (r - p, J2, K2) := co
        obtain ⟨J4, y1⟩ := ml J2 (by funext j; exact frJ_UpRiver_loses co' rfl) (by rw [← e15]; exact frJ_UpRiver_loses co' rfl) (fun j => frJ_UpRiver_loses co' rfl)
        rw [if_neg c1] at y1
        exact ⟨r - p, J2, K2, J4, co', y1, by omega⟩
  · rw [if_neg c0] at co
    exact ⟨-1, J, K, J, co, by rw [mo, if_neg c0], by decide⟩
