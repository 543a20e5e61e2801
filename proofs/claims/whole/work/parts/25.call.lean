/-! the calls by hand, class against reference -/
def sR (b : Bool) (J : am_J) : Prop := rv_ok (J 66) ∧ rq (am_rv b) J (J 66) ∧ J 65 15 = 0
def sB (J : am_J) : Prop := bR J ∧ bm J J 0
theorem sB_of {J J2 : am_J} (h : bR J) (m : bm J J2 0) (e : ∀ j, J2 18 j = J 18 j) : sB J2 := by
  unfold sB bR bm
  rw [e, e, e, e, e, e]
  exact ⟨h, m⟩
theorem rq_cong {b : Bool} {J J' : am_J} {v v' : Nat → Int} (q : rq (am_rv b) J v) (hv : v = v') (e : ∀ a, (7 ≤ a ∧ a ≤ 15) ∨ (33 ≤ a ∧ a ≤ 41) → ∀ j, J' a j = J a j) : rq (am_rv b) J' v' := by
  subst hv
  refine rq_fr q fun i h1 h9 j => e _ ?_ j
  cases b
  · have e0 : am_rv false = 32 := rfl
    omega
  · have e0 : am_rv true = 6 := rfl
    omega
theorem m_in1 {x : Int} (hx : am_i32 x) : f_UpRiverModel_in (am_i2l x) (1 : Int64) (99 : Int64) = some (fl (1 ≤ x ∧ x ≤ 99)) := m_in hx (lo := 1) (hi := 99) (by decide) (by decide)
theorem m_in2 {x : Int} (hx : am_i32 x) : f_UpRiverModel_in (am_i2l x) (1 : Int64) (300 : Int64) = some (fl (1 ≤ x ∧ x ≤ 300)) := m_in hx (lo := 1) (hi := 300) (by decide) (by decide)
theorem m_in3 {x : Int} (hx : am_i32 x) : f_UpRiverModel_in (am_i2l x) (0 : Int64) (1 : Int64) = some (fl (0 ≤ x ∧ x ≤ 1)) := m_in hx (lo := 0) (hi := 1) (by decide) (by decide)
theorem e_sail {b : Bool} {J : am_J} {x : Int} (hr : sR b J) (hb : sB J) (hx : am_i32 x) : ∃ r J' J2, f_UpRiver_sail b x J = some (r, J') ∧ f_UpRiverModel_sail x J' = some (r, J2) ∧ am_i32 r ∧ sB J2 := by
  obtain ⟨h, q, e15⟩ := hr
  have hv := h.1.1
  obtain ⟨bR1, bm1⟩ := hb
  have bR2 := bR1
  have bm2 := bm1
  obtain ⟨r0, r1, r2, r3, r4, r5, r6⟩ := bR2
  obtain ⟨m0, m1, m2, m3, m4, m5⟩ := bm2
  by_cases hx1 : 1 ≤ x ∧ x ≤ 99
  · by_cases up : 8 * J 66 0 ≤ J 18 0
    · refine ⟨-2, J, J, ?_, ?_, by decide, bR1, bm1⟩
      · unfold f_UpRiver_sail
        rw [if_pos hx, if_neg (by omega), if_neg (by omega), c_isUp h q ⟨by omega, by omega⟩]
        simp only [Option.bind_some, fl_32, if_true, fl_0]
        rw [if_neg (fun z => z up)]
      · unfold f_UpRiverModel_sail
        rw [m_in1 hx, m_isUp h ⟨by omega, by omega⟩]
        simp only [Option.bind_some, fl_32, if_true, fl_0]
        rw [if_neg (fun z => z hx1), if_neg (fun z => z (by omega))]
    · by_cases full : 300 < J 18 3 + x
      · refine ⟨-3, J, J, ?_, ?_, by decide, bR1, bm1⟩
        · unfold f_UpRiver_sail
          rw [if_pos hx, if_neg (by omega), if_neg (by omega), c_isUp h q ⟨by omega, by omega⟩]
          simp only [Option.bind_some, fl_32, if_true, fl_0]
          rw [if_pos up, if_pos (show am_i32 (J 18 3 + x) from ⟨by omega, by omega⟩), if_pos full]
        · unfold f_UpRiverModel_sail
          rw [m_in1 hx, m_isUp h ⟨by omega, by omega⟩]
          simp only [Option.bind_some, fl_32, if_true, fl_0]
          rw [if_neg (fun z => z hx1), if_pos (by omega), if_pos (show am_i32 (J 68 0 + x) from ⟨by omega, by omega⟩), if_pos (by omega)]
      · have run : ∀ J2 : am_J, J2 66 = J 66 → J2 65 15 = 0 → bm J J2 0 → ∃ r J' J2', f_UpRiver_sail_L55 b am_FU x 0 0 J = some (r, J') ∧ f_UpRiverModel_sail_L45 am_FU x 0 0 J2 = some (r, J2') ∧ (0 ≤ r ∧ r ≤ 99) ∧ bR J' ∧ bm J' J2' 0 :=
          fun J2 e1 e2 e3 => sail_loop h x.toNat am_FU x 0 0 J J2 (by have : am_FU = 20000 := rfl; omega) (by omega) (by omega) (by omega) (by omega) (by omega) q e1 e2 (by omega) bR1 e3
        obtain ⟨r, J', -, u1, -⟩ := run J rfl e15 bm1
        have f68 : ∀ j, J' 68 j = J 68 j := fun j => frJ_UpRiver_sail_L55 _ _ _ _ _ _ u1 rfl
        have f66 : J' 66 = J 66 := by funext j; exact frJ_UpRiver_sail_L55 _ _ _ _ _ _ u1 rfl
        have f15 : J' 65 15 = 0 := by rw [← e15]; exact frJ_UpRiver_sail_L55 _ _ _ _ _ _ u1 rfl
        obtain ⟨r', J'', J2', w1, w2, w3, w4, w5⟩ := run J' f66 f15 (by unfold bm; rw [f68, f68, f68, f68, f68, f68]; exact bm1)
        obtain ⟨rfl, rfl⟩ := Prod.mk.inj (Option.some.inj (u1.symm.trans w1))
        refine ⟨r, J', J2', ?_, ?_, ⟨by omega, by omega⟩, ?_⟩
        · unfold f_UpRiver_sail
          rw [if_pos hx, if_neg (by omega), if_neg (by omega), c_isUp h q ⟨by omega, by omega⟩]
          simp only [Option.bind_some, fl_32, if_true, fl_0]
          rw [if_pos up, if_pos (show am_i32 (J 18 3 + x) from ⟨by omega, by omega⟩), if_neg full]
          exact u1
        · unfold f_UpRiverModel_sail
          rw [m_in1 hx, m_isUp (by rw [f66]; exact h) (by rw [f68]; exact ⟨by omega, by omega⟩), f68, f68, f66]
          simp only [Option.bind_some, fl_32, if_true, fl_0]
          rw [if_neg (fun z => z hx1), if_pos (by omega), if_pos (show am_i32 (J 68 0 + x) from ⟨by omega, by omega⟩), if_neg (by omega)]
          exact w2
        · exact sB_of w4 w5 fun j => frJ_UpRiverModel_sail_L45 _ _ _ _ _ _ w2 rfl
  · refine ⟨-1, J, J, ?_, ?_, by decide, bR1, bm1⟩
    · unfold f_UpRiver_sail
      rw [if_pos hx]
      by_cases a : x < 1
      · rw [if_pos a]
      · rw [if_neg a, if_pos (by omega)]
    · unfold f_UpRiverModel_sail
      rw [m_in1 hx]
      simp only [Option.bind_some, fl_32, if_true, fl_0]
      rw [if_pos hx1]
theorem e_anchor {J : am_J} {x : Int} (hb : sB J) (hx : am_i32 x) : ∃ r J' J2, f_UpRiver_anchor x J = some (r, J') ∧ f_UpRiverModel_anchor x J' = some (r, J2) ∧ am_i32 r ∧ sB J2 := by
  obtain ⟨bR1, bm1⟩ := hb
  have bR2 := bR1
  have bm2 := bm1
  obtain ⟨r0, r1, r2, r3, r4, r5, r6⟩ := bR2
  obtain ⟨m0, m1, m2, m3, m4, m5⟩ := bm2
  by_cases hx1 : 1 ≤ x ∧ x ≤ 300
  · by_cases full : 300 < J 18 3 + x
    · refine ⟨-3, J, J, ?_, ?_, by decide, bR1, bm1⟩
      · unfold f_UpRiver_anchor
        rw [if_pos hx, if_neg (by omega), if_neg (by omega), if_pos (show am_i32 (J 18 3 + x) from ⟨by omega, by omega⟩), if_pos full]
      · unfold f_UpRiverModel_anchor
        rw [m_in2 hx]
        simp only [Option.bind_some, fl_32, if_true, fl_0]
        rw [if_neg (fun z => z hx1), if_pos (show am_i32 (J 68 0 + x) from ⟨by omega, by omega⟩), if_pos (by omega)]
    · refine ⟨J 18 3 + x, am_up J 18 3 (J 18 3 + x), am_up (am_up J 18 3 (J 18 3 + x)) 68 0 (J 68 0 + x), ?_, ?_, ⟨by omega, by omega⟩, ?_⟩
      · unfold f_UpRiver_anchor
        rw [if_pos hx, if_neg (by omega), if_neg (by omega), if_pos (show am_i32 (J 18 3 + x) from ⟨by omega, by omega⟩), if_neg full]
      · unfold f_UpRiverModel_anchor
        rw [m_in2 hx]
        simp only [Option.bind_some, fl_32, if_true, fl_0]
        rw [if_neg (fun z => z hx1), up_row (show 68 ≠ 18 by decide), if_pos (show am_i32 (J 68 0 + x) from ⟨by omega, by omega⟩), if_neg (by omega), m3]
      · unfold sB bR bm
        simp [am_up]
        refine ⟨⟨?_, ?_, ?_, ?_, ?_, ?_, ?_⟩, ?_, ?_, ?_, ?_, ?_, ?_⟩ <;> omega
  · refine ⟨-1, J, J, ?_, ?_, by decide, bR1, bm1⟩
    · unfold f_UpRiver_anchor
      rw [if_pos hx]
      by_cases a : x < 1
      · rw [if_pos a]
      · rw [if_neg a, if_pos (by omega)]
    · unfold f_UpRiverModel_anchor
      rw [m_in2 hx]
      simp only [Option.bind_some, fl_32, if_true, fl_0]
      rw [if_pos hx1]
theorem e_turn {b : Bool} {J : am_J} (hr : sR b J) (hb : sB J) : ∃ r J' J2, f_UpRiver_turn b J = some (r, J') ∧ f_UpRiverModel_turn J' = some (r, J2) ∧ am_i32 r ∧ sB J2 := by
  obtain ⟨h, q, e15⟩ := hr
  have hv := h.1.1
  have h5 := h.1.2.2.2.2.2.1
  have e5 := q.1 5 (by omega)
  obtain ⟨bR1, bm1⟩ := hb
  have bR2 := bR1
  have bm2 := bm1
  obtain ⟨r0, r1, r2, r3, r4, r5, r6⟩ := bR2
  obtain ⟨m0, m1, m2, m3, m4, m5⟩ := bm2
  by_cases up : 8 * J 66 0 ≤ J 18 0
  · refine ⟨-2, J, J, ?_, ?_, by decide, bR1, bm1⟩
    · unfold f_UpRiver_turn
      rw [c_isUp h q ⟨by omega, by omega⟩]
      simp only [Option.bind_some, fl_32, if_true, fl_0]
      rw [if_neg (fun z => z up)]
    · unfold f_UpRiverModel_turn
      rw [m_isUp h ⟨by omega, by omega⟩]
      simp only [Option.bind_some, fl_32, if_true, fl_0]
      rw [if_neg (fun z => z (by omega))]
  by_cases full : 300 < J 18 3 + J 66 5
  · refine ⟨-3, J, J, ?_, ?_, by decide, bR1, bm1⟩
    · unfold f_UpRiver_turn
      rw [c_isUp h q ⟨by omega, by omega⟩]
      simp only [Option.bind_some, fl_32, if_true, fl_0]
      rw [if_pos up, e5, if_pos (show am_i32 (J 18 3 + J 66 5) from ⟨by omega, by omega⟩), if_pos full]
    · unfold f_UpRiverModel_turn
      rw [m_isUp h ⟨by omega, by omega⟩]
      simp only [Option.bind_some, fl_32, if_true, fl_0]
      rw [if_pos (by omega), if_pos (show am_i32 (J 68 0 + J 66 5) from ⟨by omega, by omega⟩), if_pos (by omega)]
  have hs := tF_bd h r0.1 0 (J 18 1) (J 18 3)
  -- the class's half
  have cl : f_UpRiver_turn b J = some (if rAf (J 66) 0 (J 18 0 / 8) (J 18 1) (J 18 3) ∧ tOk (J 66) 0 (J 18 0) (J 18 1) (J 18 3) then (1, tTo (J 66) 18 J) else (0, am_up J 18 3 (J 18 3 + 1))) := by
    unfold f_UpRiver_turn
    rw [c_isUp h q ⟨by omega, by omega⟩]
    simp only [Option.bind_some, fl_32, if_true, fl_0]
    rw [if_pos up, e5, if_pos (show am_i32 (J 18 3 + J 66 5) from ⟨by omega, by omega⟩), if_neg full, c_tryTurn h q r0.1 (by omega) r1.1 r1.2 r3.1 (by omega)]
    simp only [Option.bind_some]
    by_cases g : rAf (J 66) 0 (J 18 0 / 8) (J 18 1) (J 18 3) ∧ tOk (J 66) 0 (J 18 0) (J 18 1) (J 18 3)
    · rw [if_pos (show J 18 3 + J 66 5 ≤ 300 ∧ rAf (J 66) 0 (J 18 0 / 8) (J 18 1) (J 18 3) ∧ tOk (J 66) 0 (J 18 0) (J 18 1) (J 18 3) from ⟨by omega, g⟩), if_pos g]
      rfl
    · rw [if_neg (show ¬ (J 18 3 + J 66 5 ≤ 300 ∧ rAf (J 66) 0 (J 18 0 / 8) (J 18 1) (J 18 3) ∧ tOk (J 66) 0 (J 18 0) (J 18 1) (J 18 3)) from fun z => g z.2), if_neg g]
      rfl
  -- the reference's half, from any state with the same river and boat
  have ml : ∀ J1 : am_J, J1 66 = J 66 → J1 65 15 = 0 → (∀ j, J1 68 j = J 68 j) → (rAf (J 66) 0 (J 18 0 / 8) (J 18 1) (J 18 3) ∧ tOk (J 66) 0 (J 18 0) (J 18 1) (J 18 3) → ∃ J2, f_UpRiverModel_turn J1 = some (1, J2) ∧ J2 68 1 = tF (J 66) 0 (J 18 0) (J 18 1) (J 18 3) ∧ J2 68 2 = J 18 1 ∧ J2 68 3 = 1 - J 18 2 ∧ J2 68 0 = J 18 3 + J 66 5 ∧ J2 68 4 = J 18 4 + 1 ∧ J2 68 5 = J 18 5) ∧ (¬ (rAf (J 66) 0 (J 18 0 / 8) (J 18 1) (J 18 3) ∧ tOk (J 66) 0 (J 18 0) (J 18 1) (J 18 3)) → ∃ J2, f_UpRiverModel_turn J1 = some (0, J2) ∧ J2 68 1 = J 18 0 ∧ J2 68 2 = J 18 1 ∧ J2 68 3 = J 18 2 ∧ J2 68 0 = J 18 3 + 1 ∧ J2 68 4 = J 18 4 ∧ J2 68 5 = J 18 5) := by
    intro J1 a66 a15 a68
    have h1 : rv_ok (J1 66) := by rw [a66]; exact h
    obtain ⟨J3, s1, s2⟩ := m_turns h1 (f := J 18 0) (l := J 18 1) (b := J 18 2) (t := J 18 3) r0.1 (by rw [a66]; omega) r1.1 r1.2 (by rw [a15]; omega)
    rw [a66, a15] at s1 s2
    have fr68 : ∀ j, J3 68 j = J 68 j := fun j => (frJ_UpRiverModel_turns s1 rfl).trans (a68 j)
    have lose : ∀ J4 : am_J, (∀ j, J4 68 j = J 68 j) → (am_up J4 68 0 (J4 68 0 + 1)) 68 1 = J 18 0 ∧ (am_up J4 68 0 (J4 68 0 + 1)) 68 2 = J 18 1 ∧ (am_up J4 68 0 (J4 68 0 + 1)) 68 3 = J 18 2 ∧ (am_up J4 68 0 (J4 68 0 + 1)) 68 0 = J 18 3 + 1 ∧ (am_up J4 68 0 (J4 68 0 + 1)) 68 4 = J 18 4 ∧ (am_up J4 68 0 (J4 68 0 + 1)) 68 5 = J 18 5 := by
      intro J4 e
      rw [up_at, up_ne (by decide), up_ne (by decide), up_ne (by decide), up_ne (by decide), up_ne (by decide), e, e, e, e, e, e]
      exact ⟨m0.symm, m1.symm, m2.symm, by omega, m4.symm, by omega⟩
    unfold f_UpRiverModel_turn
    rw [m_isUp h1 (by rw [a68]; exact ⟨by omega, by omega⟩), m_isFloating h1 (by rw [a68]; omega) (by rw [a68]; omega) (by rw [a68]; exact ⟨by omega, by omega⟩) (by rw [a68, a15]; omega), a68, a68, a68, a68, a66, a15, ← m0, ← m1, ← m2, ← m3, s1]
    simp only [Option.bind_some, fl_32, if_true, fl_0]
    rw [if_pos up, if_pos (show am_i32 (J 18 3 + J 66 5) from ⟨by omega, by omega⟩), if_neg full]
    refine ⟨fun g => ?_, fun g => ?_⟩
    · obtain ⟨J4, g0, g1, g2, g3, g4, g5, g6, -⟩ := goes_at s2
      rw [if_neg (show ¬ ¬ (8 * J 66 0 ≤ J 18 0 ∨ rAf (J 66) 0 (J 18 0 / 8) (J 18 1) (J 18 3)) from fun z => z (Or.inr g.1)), if_neg (show ¬ ¬ tOk (J 66) 0 (J 18 0) (J 18 1) (J 18 3) from fun z => z g.2), g0]
      refine ⟨_, rfl, ?_⟩
      rw [up_at, up_ne (by decide), up_ne (by decide), up_ne (by decide), up_ne (by decide), up_ne (by decide), g1, g2, g3, g4, g5, g6, fr68, fr68]
      exact ⟨rfl, rfl, rfl, rfl, by omega, by omega⟩
    · by_cases c : rAf (J 66) 0 (J 18 0 / 8) (J 18 1) (J 18 3)
      · rw [if_neg (show ¬ ¬ (8 * J 66 0 ≤ J 18 0 ∨ rAf (J 66) 0 (J 18 0 / 8) (J 18 1) (J 18 3)) from fun z => z (Or.inr c)), if_pos (show ¬ tOk (J 66) 0 (J 18 0) (J 18 1) (J 18 3) from fun z => g ⟨c, z⟩)]
        exact ⟨_, rfl, lose J3 fr68⟩
      · rw [if_pos (show ¬ (8 * J 66 0 ≤ J 18 0 ∨ rAf (J 66) 0 (J 18 0 / 8) (J 18 1) (J 18 3)) from fun z => by rcases z with z | z; exact up z; exact c z)]
        refine ⟨_, rfl, ?_⟩
        have := lose J1 a68
        rw [a68, ← m3] at this
        exact this
  by_cases g : rAf (J 66) 0 (J 18 0 / 8) (J 18 1) (J 18 3) ∧ tOk (J 66) 0 (J 18 0) (J 18 1) (J 18 3)
  · rw [if_pos g] at cl
    obtain ⟨J2, t0, t1, t2, t3, t4, t5, t6⟩ := (ml (tTo (J 66) 18 J) (tTo_r (by decide)) (by rw [tTo_r (by decide)]; exact e15) (fun j => by rw [tTo_r (by decide)])).1 g
    refine ⟨1, _, J2, cl, t0, by decide, sB_of (J := tTo (J 66) 18 J) ?_ ?_ fun j => frJ_UpRiverModel_turn t0 rfl⟩
    · unfold bR
      rw [tTo_0, tTo_1, tTo_2, tTo_3, tTo_4, tTo_5]
      exact ⟨by omega, r1, by omega, by omega, by omega, r5, by omega⟩
    · unfold bm
      rw [tTo_0, tTo_1, tTo_2, tTo_3, tTo_4, tTo_5, t1, t2, t3, t4, t5, t6]
      exact ⟨rfl, rfl, rfl, rfl, rfl, by omega⟩
  · rw [if_neg g] at cl
    obtain ⟨J2, t0, t1, t2, t3, t4, t5, t6⟩ := (ml (am_up J 18 3 (J 18 3 + 1)) (up_row (by decide)) (by rw [up_row (by decide)]; exact e15) (fun j => by rw [up_row (by decide)])).2 g
    refine ⟨0, _, J2, cl, t0, by decide, sB_of (J := am_up J 18 3 (J 18 3 + 1)) ?_ ?_ fun j => frJ_UpRiverModel_turn t0 rfl⟩
    · unfold bR
      rw [up_at, up_ne (by decide), up_ne (by decide), up_ne (by decide), up_ne (by decide), up_ne (by decide)]
      exact ⟨r0, r1, r2, by omega, r4, r5, by omega⟩
    · unfold bm
      rw [up_at, up_ne (by decide), up_ne (by decide), up_ne (by decide), up_ne (by decide), up_ne (by decide), t1, t2, t3, t4, t5, t6]
      exact ⟨rfl, rfl, rfl, rfl, rfl, by omega⟩
