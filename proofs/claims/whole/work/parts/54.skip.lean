/-! the skipper: one step of his -/
abbrev skT (v : Nat → Int) (m e f l d t ms : Int) : Prop := (¬ rOp v (f / 8) (if d = 0 then l + 1 else l - 1) ∨ rWt v 0 (f / 8) (if d = 0 then l + 1 else l - 1) t < v 2 + m) ∨ (e = 1 ∧ ms ≠ 0 ∧ rWy v (f / 8) d < rWy v (f / 8) (1 - d))
abbrev skA (v : Nat → Int) (f l t : Int) : Prop := t + v 5 ≤ 300 ∧ rAf v 0 (f / 8) l t ∧ tOk v 0 f l t
abbrev skB (v : Nat → Int) (f l d t : Int) : Prop := rAf v 0 (f / 8) l t ∧ sOk v 0 f l d t
def skN (v : Nat → Int) (m e : Int) (s : Int × Int × Int × Int × Int × Int × Int) : Int × Int × Int × Int × Int × Int × Int :=
  if skT v m e s.1 s.2.1 s.2.2.1 s.2.2.2.1 s.2.2.2.2.2.2 then (if skA v s.1 s.2.1 s.2.2.2.1 then (tF v 0 s.1 s.2.1 s.2.2.2.1, s.2.1, 1 - s.2.2.1, s.2.2.2.1 + v 5, s.2.2.2.2.1 + 1, s.2.2.2.2.2.1, 0) else (s.1, s.2.1, s.2.2.1, s.2.2.2.1 + 1, s.2.2.2.2.1, s.2.2.2.2.2.1, s.2.2.2.2.2.2))
  else (if skB v s.1 s.2.1 s.2.2.1 s.2.2.2.1 then (sF v 0 s.1 s.2.1 s.2.2.1 s.2.2.2.1, sL v 0 s.1 s.2.1 s.2.2.1 s.2.2.2.1, s.2.2.1, s.2.2.2.1 + 1, s.2.2.2.2.1, s.2.2.2.2.2.1 + 1, 1) else (s.1, s.2.1, s.2.2.1, s.2.2.2.1 + 1, s.2.2.2.2.1, s.2.2.2.2.2.1, s.2.2.2.2.2.2))
def skO (s : Int × Int × Int × Int × Int × Int × Int) : Prop := (0 ≤ s.1 ∧ s.1 ≤ 200) ∧ (0 ≤ s.2.1 ∧ s.2.1 ≤ 8) ∧ (s.2.2.1 = 0 ∨ s.2.2.1 = 1) ∧ (0 ≤ s.2.2.2.1 ∧ s.2.2.2.1 ≤ 300) ∧ 0 ≤ s.2.2.2.2.1 ∧ 0 ≤ s.2.2.2.2.2.1 ∧ s.2.2.2.2.1 + s.2.2.2.2.2.1 ≤ s.2.2.2.1 ∧ (s.2.2.2.2.2.2 = 0 ∨ s.2.2.2.2.2.2 = 1)
theorem skN_ok {v : Nat → Int} (hv : rv_ok v) {m e : Int} {s : Int × Int × Int × Int × Int × Int × Int} (h : skO s) (hu : s.1 < 8 * v 0) (ht : s.2.2.2.1 < 300) : skO (skN v m e s) ∧ s.2.2.2.1 < (skN v m e s).2.2.2.1 ∧ (skN v m e s).2.2.2.1 ≤ s.2.2.2.1 + 9 := by
  obtain ⟨f, l, d, t, tu, sa, ms⟩ := s
  obtain ⟨h1, h2, h3, h4, h5, h6, h7, h8⟩ := h
  dsimp only at *
  have hm := hv.1.1
  have hv5 := hv.1.2.2.2.2.2.1
  unfold skN
  dsimp only
  by_cases c0 : skT v m e f l d t ms
  · rw [if_pos c0]
    by_cases c1 : skA v f l t
    · have hb := tF_bd hv h1.1 0 l t
      have := c1.1
      rw [if_pos c1]
      refine ⟨⟨?_, ?_, ?_, ?_, ?_, ?_, ?_, ?_⟩, ?_, ?_⟩ <;> dsimp only <;> omega
    · rw [if_neg c1]
      refine ⟨⟨?_, ?_, ?_, ?_, ?_, ?_, ?_, ?_⟩, ?_, ?_⟩ <;> dsimp only <;> omega
  · rw [if_neg c0]
    by_cases c1 : skB v f l d t
    · have hb := sF_bd hv h1.1 hu 0 l d t
      have hbl := sL_lane hv h1.1 hu h2.1 h2.2 c1.2
      rw [if_pos c1]
      refine ⟨⟨?_, ?_, ?_, ?_, ?_, ?_, ?_, ?_⟩, ?_, ?_⟩ <;> dsimp only <;> omega
    · rw [if_neg c1]
      refine ⟨⟨?_, ?_, ?_, ?_, ?_, ?_, ?_, ?_⟩, ?_, ?_⟩ <;> dsimp only <;> omega
/-! the class -/
def hcS (J : am_J) : Int × Int × Int × Int × Int × Int × Int := (J 29 0, J 29 1, J 29 2, J 29 3, J 29 4, J 29 5, J 28 3)
theorem c_act {o : Nat} {v : Nat → Int} (hv : rv_ok v) {J : am_J} (q : rq o J v) (h : skO (hcS J)) (hu : J 29 0 < 8 * v 0) {m e : Int} (e1 : J 28 1 = m) (e2 : J 28 2 = e) (hm : 0 ≤ m ∧ m ≤ 20) (he : e = 0 ∨ e = 1) : f_Skipper_act o J = (if J 29 3 < 300 then some (1, (if skT v m e (J 29 0) (J 29 1) (J 29 2) (J 29 3) (J 28 3) then (if skA v (J 29 0) (J 29 1) (J 29 3) then am_up (tTo v 29 J) 28 3 0 else am_up J 29 3 (J 29 3 + 1)) else (if skB v (J 29 0) (J 29 1) (J 29 2) (J 29 3) then am_up (sTo v 29 J) 28 3 1 else am_up J 29 3 (J 29 3 + 1)))) else some (0, J)) := by
  obtain ⟨h1, h2, h3, h4, h5, h6, h7, h8⟩ := h
  unfold hcS at *
  dsimp only at *
  have hv0 := hv.1.1
  have hv2 := hv.1.2.2.1
  have hv5 := hv.1.2.2.2.2.2.1
  unfold f_Skipper_act
  rw [if_pos (show am_i32 (J 29 3) by omega)]
  by_cases ct : J 29 3 < 300
  · rw [if_pos ct, if_pos ct]
    obtain ⟨ah, hah⟩ : ∃ ah, (if J 29 2 = 0 then J 29 1 + 1 else J 29 1 - 1) = ah := ⟨_, rfl⟩
    have bah : -1 ≤ ah ∧ ah ≤ 9 := by rw [← hah]; split <;> omega
    have hla : f_Boat_laneAhead 29 J = some ah := by
      unfold f_Boat_laneAhead
      rw [if_pos (show am_i32 (J 29 2) by omega), ← hah]
      split <;> rfl
    have shoal : f_Skipper_isShoalAhead o J = some (fl (¬ rOp v (J 29 0 / 8) ah ∨ rWt v 0 (J 29 0 / 8) ah (J 29 3) < v 2 + m)) := by
      unfold f_Skipper_isShoalAhead
      rw [if_pos (show am_i32 (J 29 0) by omega), hla, am_dv_pos h1.1]
      simp only [Option.bind_some]
      rw [c_waterAt hv q (by omega) (by omega) (by omega), q.1 2 (by omega), e1]
      simp only [Option.bind_some]
      rw [if_pos (show am_i32 (v 2 + m) by omega)]
      by_cases c0 : rOp v (J 29 0 / 8) ah
      · have h9 := rv_r hv (show 0 ≤ J 29 0 / 8 by omega) (show J 29 0 / 8 < 8 by omega)
        have hw := rWt_bd hv 0 (J 29 3) (show 0 ≤ J 29 0 / 8 by omega) (show J 29 0 / 8 < 8 by omega) (show 0 ≤ ah by have := c0.1; omega) (show ah ≤ 8 by have := c0.2; omega)
        rw [if_pos (show 0 ≤ J 29 0 / 8 ∧ J 29 0 / 8 < v 0 ∧ rOp v (J 29 0 / 8) ah from ⟨by omega, by omega, c0⟩), if_pos (show am_i32 (rWt v 0 (J 29 0 / 8) ah (J 29 3)) by omega)]
        by_cases c1 : rWt v 0 (J 29 0 / 8) ah (J 29 3) < v 2 + m
        · rw [if_pos c1, fl_t (Or.inr c1)]
        · rw [if_neg c1, fl_f (fun z => by rcases z with z | z; exact z c0; exact c1 z)]
      · rw [if_neg (show ¬ (0 ≤ J 29 0 / 8 ∧ J 29 0 / 8 < v 0 ∧ rOp v (J 29 0 / 8) ah) from fun z => c0 z.2.2), if_pos (show am_i32 (-1) by decide), if_pos (show (-1 : Int) < v 2 + m by omega), fl_t (Or.inl c0)]
    have better : f_Skipper_isOtherBoardBetter o J = some (fl (e = 1 ∧ J 28 3 ≠ 0 ∧ rWy v (J 29 0 / 8) (J 29 2) < rWy v (J 29 0 / 8) (1 - J 29 2))) := by
      have w1 := rWy_bd hv (show 0 ≤ J 29 0 / 8 by omega) (show J 29 0 / 8 < 8 by omega) (J 29 2)
      have w2 := rWy_bd hv (show 0 ≤ J 29 0 / 8 by omega) (show J 29 0 / 8 < 8 by omega) (1 - J 29 2)
      have L45 : ∀ s, (s = 0 ∨ s = 1) → f_Skipper_isOtherBoardBetter_L45 o J s = some (fl (e = 1 ∧ J 28 3 ≠ 0 ∧ s = 1)) := by
        intro s hs
        unfold f_Skipper_isOtherBoardBetter_L45
        rw [e2, if_pos (show am_i32 e by omega), if_pos (show am_i32 (J 28 3) by omega), if_pos (show am_i32 s by omega)]
        by_cases c0 : e = 1
        · rw [if_pos c0]
          by_cases c1 : J 28 3 = 0
          · rw [if_pos c1, fl_f (fun z => z.2.1 c1)]
          · rw [if_neg c1]
            by_cases c2 : s = 0
            · rw [if_pos c2, fl_f (fun z => by omega)]
            · rw [if_neg c2, fl_t ⟨c0, c1, by omega⟩]
        · rw [if_neg c0, fl_f (fun z => c0 z.1)]
      unfold f_Skipper_isOtherBoardBetter
      rw [if_pos (show am_i32 (J 29 0) by omega), am_dv_pos h1.1, c_wayOn hv q (by omega) (by omega), c_wayOn hv q (by omega) (by omega), if_pos (show 0 ≤ J 29 0 / 8 ∧ J 29 0 / 8 < v 0 by omega), if_pos (show 0 ≤ J 29 0 / 8 ∧ J 29 0 / 8 < v 0 by omega)]
      simp only [Option.bind_some]
      rw [if_pos (show am_i32 (rWy v (J 29 0 / 8) (J 29 2)) by omega), if_pos (show am_i32 (rWy v (J 29 0 / 8) (1 - J 29 2)) by omega)]
      by_cases c0 : rWy v (J 29 0 / 8) (J 29 2) < rWy v (J 29 0 / 8) (1 - J 29 2)
      · rw [if_pos c0, L45 1 (Or.inr rfl)]
        congr 1
        exact fl_c ⟨fun z => ⟨z.1, z.2.1, c0⟩, fun z => ⟨z.1, z.2.1, rfl⟩⟩
      · rw [if_neg c0, L45 0 (Or.inl rfl)]
        congr 1
        exact fl_c ⟨fun z => absurd z.2.2 (by decide), fun z => absurd z.2.2 c0⟩
    have turn : f_Skipper_act_L36 o 1 J = some (1, if skA v (J 29 0) (J 29 1) (J 29 3) then am_up (tTo v 29 J) 28 3 0 else am_up J 29 3 (J 29 3 + 1)) := by
      unfold f_Skipper_act_L36
      rw [if_pos (show am_i32 1 by decide), if_neg (show ¬ (1 : Int) = 0 by decide), c_tryTurn hv q h1.1 hu h2.1 h2.2 h4.1 (by omega)]
      simp only [Option.bind_some]
      by_cases c0 : skA v (J 29 0) (J 29 1) (J 29 3)
      · rw [if_pos c0, if_pos c0]; rfl
      · rw [if_neg c0, if_neg c0]; rfl
    have sail : f_Skipper_act_L36 o 0 J = some (1, if skB v (J 29 0) (J 29 1) (J 29 2) (J 29 3) then am_up (sTo v 29 J) 28 3 1 else am_up J 29 3 (J 29 3 + 1)) := by
      unfold f_Skipper_act_L36
      rw [if_pos (show am_i32 0 by decide), if_pos (show (0 : Int) = 0 from rfl), c_trySail hv q h1.1 hu h2.1 h2.2 h3 h4.1 (by omega)]
      simp only [Option.bind_some]
      by_cases c0 : skB v (J 29 0) (J 29 1) (J 29 2) (J 29 3)
      · rw [if_pos (show J 29 3 < 300 ∧ rAf v 0 (J 29 0 / 8) (J 29 1) (J 29 3) ∧ sOk v 0 (J 29 0) (J 29 1) (J 29 2) (J 29 3) from ⟨ct, c0⟩), if_pos c0]; rfl
      · rw [if_neg (show ¬ (J 29 3 < 300 ∧ rAf v 0 (J 29 0 / 8) (J 29 1) (J 29 3) ∧ sOk v 0 (J 29 0) (J 29 1) (J 29 2) (J 29 3)) from fun z => c0 z.2), if_neg c0]; rfl
    rw [shoal, better]
    simp only [Option.bind_some, fl_32, if_true, fl_0]
    rw [turn, sail]
    have skE : skT v m e (J 29 0) (J 29 1) (J 29 2) (J 29 3) (J 28 3) ↔ (¬ rOp v (J 29 0 / 8) ah ∨ rWt v 0 (J 29 0 / 8) ah (J 29 3) < v 2 + m) ∨ (e = 1 ∧ J 28 3 ≠ 0 ∧ rWy v (J 29 0 / 8) (J 29 2) < rWy v (J 29 0 / 8) (1 - J 29 2)) := by
      rw [← hah]
    by_cases c0 : ¬ rOp v (J 29 0 / 8) ah ∨ rWt v 0 (J 29 0 / 8) ah (J 29 3) < v 2 + m
    · rw [if_neg (fun z => z c0), if_pos (skE.mpr (Or.inl c0))]
    · rw [if_pos c0]
      by_cases c1 : e = 1 ∧ J 28 3 ≠ 0 ∧ rWy v (J 29 0 / 8) (J 29 2) < rWy v (J 29 0 / 8) (1 - J 29 2)
      · rw [if_neg (fun z => z c1), if_pos (skE.mpr (Or.inr c1))]
      · rw [if_pos c1, if_neg (show ¬ skT v m e (J 29 0) (J 29 1) (J 29 2) (J 29 3) (J 28 3) from fun z => by rcases skE.mp z with z | z; exact c0 z; exact c1 z)]
  · rw [if_neg ct, if_neg ct]
theorem c_act_s {o : Nat} {v : Nat → Int} (hv : rv_ok v) {J : am_J} (q : rq o J v) (h : skO (hcS J)) (hu : J 29 0 < 8 * v 0) {m e : Int} (e1 : J 28 1 = m) (e2 : J 28 2 = e) (hm : 0 ≤ m ∧ m ≤ 20) (he : e = 0 ∨ e = 1) (ht : J 29 3 < 300) : ∃ J', f_Skipper_act o J = some (1, J') ∧ hcS J' = skN v m e (hcS J) ∧ J' 28 1 = m ∧ J' 28 2 = e := by
  refine ⟨_, by rw [c_act hv q h hu e1 e2 hm he, if_pos ht], ?_, ?_, ?_⟩
  · unfold skN hcS
    dsimp only
    by_cases c0 : skT v m e (J 29 0) (J 29 1) (J 29 2) (J 29 3) (J 28 3)
    · rw [if_pos c0, if_pos c0]
      by_cases c1 : skA v (J 29 0) (J 29 1) (J 29 3)
      · rw [if_pos c1, if_pos c1, up_row (show 29 ≠ 28 by decide), up_at, tTo_0, tTo_1, tTo_2, tTo_3, tTo_4, tTo_5]
      · rw [if_neg c1, if_neg c1, up_at, up_ne (by decide), up_ne (by decide), up_ne (by decide), up_ne (by decide), up_ne (by decide), up_row (by decide)]
    · rw [if_neg c0, if_neg c0]
      by_cases c1 : skB v (J 29 0) (J 29 1) (J 29 2) (J 29 3)
      · rw [if_pos c1, if_pos c1, up_row (show 29 ≠ 28 by decide), up_at, sTo_0, sTo_1, sTo_2, sTo_3, sTo_4, sTo_5]
      · rw [if_neg c1, if_neg c1, up_at, up_ne (by decide), up_ne (by decide), up_ne (by decide), up_ne (by decide), up_ne (by decide), up_row (by decide)]
  · rw [← e1]
    split <;> split <;> first | rw [up_ne (by decide), tTo_r (by decide)] | rw [up_ne (by decide), sTo_r (by decide)] | rw [up_row (by decide)]
  · rw [← e2]
    split <;> split <;> first | rw [up_ne (by decide), tTo_r (by decide)] | rw [up_ne (by decide), sTo_r (by decide)] | rw [up_row (by decide)]
