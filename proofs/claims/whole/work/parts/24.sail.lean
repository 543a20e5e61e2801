/-! by hand: sail, turn, anchor, now, set -/
theorem sTo_0 (v : Nat → Int) (o : Nat) (J : am_J) : sTo v o J o 0 = sF v 0 (J o 0) (J o 1) (J o 2) (J o 3) := by
  unfold sTo; rw [up_ne (by decide), up_ne (by decide), up_ne (by decide), up_at]
theorem sTo_1 (v : Nat → Int) (o : Nat) (J : am_J) : sTo v o J o 1 = sL v 0 (J o 0) (J o 1) (J o 2) (J o 3) := by
  unfold sTo; rw [up_ne (by decide), up_ne (by decide), up_at]
theorem sTo_2 (v : Nat → Int) (o : Nat) (J : am_J) : sTo v o J o 2 = J o 2 := by
  unfold sTo; rw [up_ne (by decide), up_ne (by decide), up_ne (by decide), up_ne (by decide)]
theorem sTo_3 (v : Nat → Int) (o : Nat) (J : am_J) : sTo v o J o 3 = J o 3 + 1 := by
  unfold sTo; rw [up_ne (by decide), up_at]
theorem sTo_4 (v : Nat → Int) (o : Nat) (J : am_J) : sTo v o J o 4 = J o 4 := by
  unfold sTo; rw [up_ne (by decide), up_ne (by decide), up_ne (by decide), up_ne (by decide)]
theorem sTo_5 (v : Nat → Int) (o : Nat) (J : am_J) : sTo v o J o 5 = J o 5 + 1 := by
  unfold sTo; rw [up_at]
theorem sTo_r {v : Nat → Int} {o : Nat} {J : am_J} {a : Nat} (h : a ≠ o) : sTo v o J a = J a := by
  unfold sTo; rw [up_row h, up_row h, up_row h, up_row h]
theorem tTo_0 (v : Nat → Int) (o : Nat) (J : am_J) : tTo v o J o 0 = tF v 0 (J o 0) (J o 1) (J o 3) := by
  unfold tTo; rw [up_ne (by decide), up_ne (by decide), up_ne (by decide), up_at]
theorem tTo_1 (v : Nat → Int) (o : Nat) (J : am_J) : tTo v o J o 1 = J o 1 := by
  unfold tTo; rw [up_ne (by decide), up_ne (by decide), up_ne (by decide), up_ne (by decide)]
theorem tTo_2 (v : Nat → Int) (o : Nat) (J : am_J) : tTo v o J o 2 = 1 - J o 2 := by
  unfold tTo; rw [up_ne (by decide), up_ne (by decide), up_at]
theorem tTo_3 (v : Nat → Int) (o : Nat) (J : am_J) : tTo v o J o 3 = J o 3 + v 5 := by
  unfold tTo; rw [up_ne (by decide), up_at]
theorem tTo_4 (v : Nat → Int) (o : Nat) (J : am_J) : tTo v o J o 4 = J o 4 + 1 := by
  unfold tTo; rw [up_at]
theorem tTo_5 (v : Nat → Int) (o : Nat) (J : am_J) : tTo v o J o 5 = J o 5 := by
  unfold tTo; rw [up_ne (by decide), up_ne (by decide), up_ne (by decide), up_ne (by decide)]
theorem tTo_r {v : Nat → Int} {o : Nat} {J : am_J} {a : Nat} (h : a ≠ o) : tTo v o J a = J a := by
  unfold tTo; rw [up_row h, up_row h, up_row h, up_row h]
theorem rq_rows {b : Bool} {J J' : am_J} {v : Nat → Int} (q : rq (am_rv b) J v) (e : ∀ a, a ≠ 18 → J' a = J a) : rq (am_rv b) J' v := by
  refine rq_fr q fun i h1 h9 j => ?_
  rw [e]
  cases b
  · have e0 : am_rv false = 6 ∨ am_rv false = 32 := by decide
    omega
  · have e0 : am_rv true = 6 ∨ am_rv true = 32 := by decide
    omega
/-- the boat as the class holds it is in her bounds -/
def bR (J : am_J) : Prop := (0 ≤ J 18 0 ∧ J 18 0 ≤ 200) ∧ (0 ≤ J 18 1 ∧ J 18 1 ≤ 8) ∧ (J 18 2 = 0 ∨ J 18 2 = 1) ∧ (0 ≤ J 18 3 ∧ J 18 3 ≤ 300) ∧ 0 ≤ J 18 4 ∧ 0 ≤ J 18 5 ∧ J 18 4 + J 18 5 ≤ J 18 3
/-- the same boat in the reference; c: minutes sailed that are not yet booked there -/
def bm (J J2 : am_J) (c : Int) : Prop := J 18 0 = J2 68 1 ∧ J 18 1 = J2 68 2 ∧ J 18 2 = J2 68 3 ∧ J 18 3 = J2 68 0 ∧ J 18 4 = J2 68 4 ∧ J 18 5 = J2 68 5 + c
theorem goes_at {J : am_J} {f l b t : Int} (h : toAt J f l b t) : ∃ J', f_UpRiverModel_goesThere J = some J' ∧ J' 68 1 = f ∧ J' 68 2 = l ∧ J' 68 3 = b ∧ J' 68 0 = t ∧ J' 68 4 = J 68 4 ∧ J' 68 5 = J 68 5 ∧ (∀ a, a ≠ 68 → J' a = J a) := by
  refine ⟨_, rfl, ?_, ?_, ?_, ?_, ?_, ?_, ?_⟩
  · rw [up_ne (by decide), up_ne (by decide), up_ne (by decide), up_at]; exact h.1
  · rw [up_ne (by decide), up_ne (by decide), up_at]; exact h.2.1
  · rw [up_ne (by decide), up_at]; exact h.2.2.1
  · rw [up_at]; exact h.2.2.2
  · rw [up_ne (by decide), up_ne (by decide), up_ne (by decide), up_ne (by decide)]
  · rw [up_ne (by decide), up_ne (by decide), up_ne (by decide), up_ne (by decide)]
  · intro a ha
    rw [up_row ha, up_row ha, up_row ha, up_row ha]
/-- a lane where she is afloat is a lane -/
theorem af_lane {v : Nat → Int} (h : rv_ok v) {lt r l t : Int} (h0 : 0 ≤ r) (h8 : r < 8) (a : rAf v lt r l t) : 0 ≤ l ∧ l ≤ 8 := by
  have h1 := rv_r h h0 h8
  have h2 := a.1.1
  have h3 := a.1.2
  omega
theorem sL_lane {v : Nat → Int} (h : rv_ok v) {lt f l b t : Int} (f0 : 0 ≤ f) (f1 : f < 8 * v 0) (l0 : 0 ≤ l) (l8 : l ≤ 8) (a : sOk v lt f l b t) : 0 ≤ sL v lt f l b t ∧ sL v lt f l b t ≤ 8 := by
  have hs := sF_bd h f0 f1 lt l b t
  have hm := h.1.1
  by_cases c : sF v lt f l b t < 8 * v 0
  · rcases a with a | a
    · omega
    · exact af_lane h (by omega) (by omega) a
  · unfold sL
    rw [if_neg c]
    exact ⟨l0, l8⟩
theorem sail_loop {b : Bool} {v : Nat → Int} (h : rv_ok v) : ∀ (k n : Nat) (x1 c i : Int) (J J2 : am_J), k < n → x1 - i = (k : Int) → 0 ≤ i → x1 ≤ 99 → 0 ≤ c → c ≤ i → rq (am_rv b) J v → J2 66 = v → J2 65 15 = 0 → J 18 3 + (x1 - i) ≤ 300 → bR J → bm J J2 c → ∃ r J' J2', f_UpRiver_sail_L55 b n x1 c i J = some (r, J') ∧ f_UpRiverModel_sail_L45 n x1 c i J2 = some (r, J2') ∧ (0 ≤ r ∧ r ≤ 99) ∧ bR J' ∧ bm J' J2' 0 := by
  intro k
  induction k with
  | zero =>
    intro n x1 c i J J2 hn hk i0 x99 c0 ci q e66 e15 ht hR hm
    obtain ⟨n, rfl⟩ : ∃ n', n = n' + 1 := ⟨n - 1, by omega⟩
    rw [f_UpRiver_sail_L55.eq_2, f_UpRiverModel_sail_L45.eq_2, if_pos (show am_i32 x1 from ⟨by omega, by omega⟩), if_pos (show am_i32 x1 from ⟨by omega, by omega⟩), if_pos (show am_i32 i from ⟨by omega, by omega⟩), if_pos (show am_i32 i from ⟨by omega, by omega⟩), if_neg (by omega), if_neg (by omega)]
    refine ⟨c, J, _, rfl, rfl, ⟨by omega, by omega⟩, hR, ?_⟩
    obtain ⟨m0, m1, m2, m3, m4, m5⟩ := hm
    refine ⟨?_, ?_, ?_, ?_, ?_, ?_⟩
    · rw [up_ne (by decide)]; exact m0
    · rw [up_ne (by decide)]; exact m1
    · rw [up_ne (by decide)]; exact m2
    · rw [up_ne (by decide)]; exact m3
    · rw [up_ne (by decide)]; exact m4
    · rw [up_at]; omega
  | succ k ih =>
    intro n x1 c i J J2 hn hk i0 x99 c0 ci q e66 e15 ht hR hm
    obtain ⟨n, rfl⟩ : ∃ n', n = n' + 1 := ⟨n - 1, by omega⟩
    have hR' := hR
    have hm' := hm
    obtain ⟨r0, r1, r2, r3, r4, r5, r6⟩ := hR'
    obtain ⟨m0, m1, m2, m3, m4, m5⟩ := hm'
    have hv := h.1.1
    have h2 : rv_ok (J2 66) := by rw [e66]; exact h
    rw [f_UpRiver_sail_L55.eq_2, f_UpRiverModel_sail_L45.eq_2, if_pos (show am_i32 x1 from ⟨by omega, by omega⟩), if_pos (show am_i32 x1 from ⟨by omega, by omega⟩), if_pos (show am_i32 i from ⟨by omega, by omega⟩), if_pos (show am_i32 i from ⟨by omega, by omega⟩), if_pos (show i < x1 by omega), if_pos (show i < x1 by omega), c_isUp h q ⟨by omega, by omega⟩, m_isUp h2 ⟨by omega, by omega⟩, e66, ← m0]
    simp only [Option.bind_some, fl_32, if_true, fl_0]
    by_cases up : 8 * v 0 ≤ J 18 0
    · rw [if_neg (fun z => z up), if_neg (fun z => z up)]
      refine ⟨c, J, _, rfl, rfl, ⟨by omega, by omega⟩, hR, ?_⟩
      refine ⟨?_, ?_, ?_, ?_, ?_, ?_⟩
      · rw [up_ne (by decide)]; exact m0
      · rw [up_ne (by decide)]; exact m1
      · rw [up_ne (by decide)]; exact m2
      · rw [up_ne (by decide)]; exact m3
      · rw [up_ne (by decide)]; exact m4
      · rw [up_at]; omega
    · have hs := sF_bd h r0.1 (show J 18 0 < 8 * v 0 by omega) 0 (J 18 1) (J 18 2) (J 18 3)
      -- a minute lost, on both sides
      have lose : ∀ J3 : am_J, J3 66 = v → J3 65 15 = 0 → (∀ j, J3 68 j = J2 68 j) → ∃ r J' J2', f_UpRiver_sail_L55 b n x1 c (i + 1) (am_up J 18 3 (J 18 3 + 1)) = some (r, J') ∧ f_UpRiverModel_sail_L105 (f_UpRiverModel_sail_L45 n) x1 c i J3 = some (r, J2') ∧ (0 ≤ r ∧ r ≤ 99) ∧ bR J' ∧ bm J' J2' 0 := by
        intro J3 a66 a15 a68
        unfold f_UpRiverModel_sail_L105
        refine ih n x1 c (i + 1) _ _ (by omega) (by omega) (by omega) x99 c0 (by omega) (rq_rows q fun a ha => up_row ha) (by rw [up_row (by decide)]; exact a66) (by rw [up_row (by decide)]; exact a15) (by rw [up_at]; omega) ?_ ?_
        · unfold bR
          rw [up_at, up_ne (by decide), up_ne (by decide), up_ne (by decide), up_ne (by decide), up_ne (by decide)]
          exact ⟨r0, r1, r2, by omega, r4, r5, by omega⟩
        · unfold bm
          rw [up_at, up_at, up_ne (by decide), up_ne (by decide), up_ne (by decide), up_ne (by decide), up_ne (by decide), up_ne (by decide), up_ne (by decide), up_ne (by decide), up_ne (by decide), up_ne (by decide), a68, a68, a68, a68, a68, a68]
          exact ⟨m0, m1, m2, by omega, m4, m5⟩
      rw [if_pos up, if_pos up, c_trySail h q r0.1 (by omega) r1.1 r1.2 r2 r3.1 (by omega), m_isFloating h2 (by omega) (by omega) ⟨by omega, by omega⟩ (by rw [e15]; omega), e66, e15, ← m0, ← m1, ← m2, ← m3]
      simp only [Option.bind_some, fl_32, if_true, fl_0]
      by_cases fl1 : rAf v 0 (J 18 0 / 8) (J 18 1) (J 18 3)
      · obtain ⟨J3, s1, s2⟩ := m_sails h2 (f := J 18 0) (l := J 18 1) (b := J 18 2) (t := J 18 3) r0.1 (by rw [e66]; omega) r1.1 r1.2 r2 (by rw [e15]; omega)
        rw [e66, e15] at s1 s2
        have fr68 : ∀ j, J3 68 j = J2 68 j := fun j => frJ_UpRiverModel_sails s1 rfl
        have fr66 : J3 66 = v := by rw [← e66]; funext j; exact frJ_UpRiverModel_sails s1 rfl
        have fr15 : J3 65 15 = 0 := by rw [← e15]; exact frJ_UpRiverModel_sails s1 rfl
        rw [if_neg (show ¬ ¬ (8 * v 0 ≤ J 18 0 ∨ rAf v 0 (J 18 0 / 8) (J 18 1) (J 18 3)) from fun z => z (Or.inr fl1)), s1]
        simp only [Option.bind_some, fl_32, if_true, fl_0]
        by_cases ok : sOk v 0 (J 18 0) (J 18 1) (J 18 2) (J 18 3)
        · have hl := sL_lane h r0.1 (show J 18 0 < 8 * v 0 by omega) r1.1 r1.2 ok
          obtain ⟨J4, g, g1, g2, g3, g4, g5, g6, g7⟩ := goes_at s2
          rw [if_pos (show J 18 3 < 300 ∧ rAf v 0 (J 18 0 / 8) (J 18 1) (J 18 3) ∧ sOk v 0 (J 18 0) (J 18 1) (J 18 2) (J 18 3) from ⟨by omega, fl1, ok⟩), if_neg (show ¬ ¬ sOk v 0 (J 18 0) (J 18 1) (J 18 2) (J 18 3) from fun z => z ok), g]
          simp only [Option.bind_some]
          rw [if_pos (show am_i32 1 by decide), if_neg (show ¬ (1 : Int) = 0 by decide)]
          refine ih n x1 (c + 1) (i + 1) _ _ (by omega) (by omega) (by omega) x99 (by omega) (by omega) (rq_rows q fun a ha => sTo_r ha) (by rw [g7 _ (by decide)]; exact fr66) (by rw [g7 _ (by decide)]; exact fr15) (by rw [sTo_3]; omega) ?_ ?_
          · unfold bR
            rw [sTo_0, sTo_1, sTo_2, sTo_3, sTo_4, sTo_5]
            exact ⟨by omega, hl, r2, by omega, r4, by omega, by omega⟩
          · unfold bm
            rw [sTo_0, sTo_1, sTo_2, sTo_3, sTo_4, sTo_5, g1, g2, g3, g4, g5, g6, fr68, fr68]
            exact ⟨rfl, rfl, rfl, rfl, m4, by omega⟩
        · rw [if_neg (show ¬ (J 18 3 < 300 ∧ rAf v 0 (J 18 0 / 8) (J 18 1) (J 18 3) ∧ sOk v 0 (J 18 0) (J 18 1) (J 18 2) (J 18 3)) from fun z => ok z.2.2), if_pos ok]
          rw [if_pos (show am_i32 0 by decide), if_pos rfl]
          exact lose J3 fr66 fr15 fr68
      · rw [if_neg (show ¬ (J 18 3 < 300 ∧ rAf v 0 (J 18 0 / 8) (J 18 1) (J 18 3) ∧ sOk v 0 (J 18 0) (J 18 1) (J 18 2) (J 18 3)) from fun z => fl1 z.2.1), if_pos (show ¬ (8 * v 0 ≤ J 18 0 ∨ rAf v 0 (J 18 0 / 8) (J 18 1) (J 18 3)) from fun z => by rcases z with z | z; exact up z; exact fl1 z)]
        rw [if_pos (show am_i32 0 by decide), if_pos rfl]
        exact lose J2 e66 e15 (fun _ => rfl)
