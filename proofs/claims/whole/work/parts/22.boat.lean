/-! a boat's two ways: she sails, she turns -/
theorem up_row {J : am_J} {c i a : Nat} {x : Int} (h : a ≠ c) : am_up J c i x a = J a := by
  funext b
  unfold am_up
  rw [if_neg h]
theorem up_at (J : am_J) (c i : Nat) (x : Int) : am_up J c i x c i = x := by
  unfold am_up
  rw [if_pos rfl, if_pos rfl]
theorem up_ne {J : am_J} {c i k : Nat} {x : Int} (h : k ≠ i) : am_up J c i x c k = J c k := by
  unfold am_up
  rw [if_pos rfl, if_neg h]
def sF (v : Nat → Int) (lt f l b t : Int) : Int := if f + rWy v (f / 8) b + rFl v lt (f / 8) l t < 0 then 0 else f + rWy v (f / 8) b + rFl v lt (f / 8) l t
def sL (v : Nat → Int) (lt f l b t : Int) : Int := if sF v lt f l b t < 8 * v 0 then (if b = 0 then l + 1 else l - 1) else l
abbrev sOk (v : Nat → Int) (lt f l b t : Int) : Prop := 8 * v 0 ≤ sF v lt f l b t ∨ rAf v lt (sF v lt f l b t / 8) (sL v lt f l b t) (t + 1)
def tF (v : Nat → Int) (lt f l t : Int) : Int := if f + v 5 * rFl v lt (f / 8) l t < 0 then 0 else f + v 5 * rFl v lt (f / 8) l t
abbrev tOk (v : Nat → Int) (lt f l t : Int) : Prop := 8 * v 0 ≤ tF v lt f l t ∨ rAf v lt (tF v lt f l t / 8) l (t + v 5)
theorem sF_bd {v : Nat → Int} (h : rv_ok v) {f : Int} (h0 : 0 ≤ f) (h1 : f < 8 * v 0) (lt l b t : Int) : 0 ≤ sF v lt f l b t ∧ sF v lt f l b t ≤ f + 25 := by
  have hm := h.1.1
  have hw := rWy_bd h (show 0 ≤ f / 8 by omega) (show f / 8 < 8 by omega) b
  have hf := rFl_bd h lt (f / 8) l t
  unfold sF
  split <;> omega
theorem tF_bd {v : Nat → Int} (h : rv_ok v) {f : Int} (h0 : 0 ≤ f) (lt l t : Int) : 0 ≤ tF v lt f l t ∧ tF v lt f l t ≤ f + 81 := by
  have h5 := h.1.2.2.2.2.2.1
  have hf := rFl_bd h lt (f / 8) l t
  have hm : v 5 * rFl v lt (f / 8) l t ≤ 81 := by
    have a : v 5 = 1 ∨ v 5 = 2 ∨ v 5 = 3 ∨ v 5 = 4 ∨ v 5 = 5 ∨ v 5 = 6 ∨ v 5 = 7 ∨ v 5 = 8 ∨ v 5 = 9 := by omega
    rcases a with e | e | e | e | e | e | e | e | e <;> rw [e] <;> omega
  unfold tF
  split <;> omega
theorem m_isThere {J : am_J} (h : rv_ok (J 66)) (h0 : 0 ≤ J 65 16) (h1 : J 65 16 ≤ 1000) (hl : am_i32 (J 65 17)) (ht : -100000 ≤ J 65 19 - J 65 15 ∧ J 65 19 - J 65 15 ≤ 100000) : f_UpRiverModel_isThere J = some (fl (8 * J 66 0 ≤ J 65 16 ∨ rAf (J 66) (J 65 15) (J 65 16 / 8) (J 65 17) (J 65 19))) := by
  have hm := h.1.1
  unfold f_UpRiverModel_isThere f_UpRiverModel_top
  simp only [Option.bind_some]
  rw [if_pos (show am_i32 (8 * J 66 0) from ⟨by omega, by omega⟩), if_pos (show am_i32 (J 65 16) from ⟨by omega, by omega⟩)]
  by_cases a : J 65 16 < 8 * J 66 0
  · rw [if_pos a, am_dv_pos h0, m_isAfloat h (by omega) (by omega) hl ht]
    simp only [Option.bind_some, fl_32, if_true, fl_0]
    by_cases c : rAf (J 66) (J 65 15) (J 65 16 / 8) (J 65 17) (J 65 19)
    · rw [if_neg (fun z => z c), fl_t (Or.inr c)]
    · rw [if_pos c, fl_f (fun z => by rcases z with z | z; exact absurd z (by omega); exact c z)]
  · rw [if_neg a, fl_t (Or.inl (by omega))]
/-- what a try of hers leaves in the reference's own cells -/
def toAt (J : am_J) (f l b t : Int) : Prop := J 65 16 = f ∧ J 65 17 = l ∧ J 65 18 = b ∧ J 65 19 = t
theorem m_sails {J : am_J} (h : rv_ok (J 66)) {f l b t : Int} (h0 : 0 ≤ f) (h1 : f < 8 * J 66 0) (l0 : 0 ≤ l) (l8 : l ≤ 8) (hb : b = 0 ∨ b = 1) (ht : -50000 ≤ t - J 65 15 ∧ t - J 65 15 ≤ 50000) : ∃ J', f_UpRiverModel_sails f l b t J = some (fl (sOk (J 66) (J 65 15) f l b t), J') ∧ toAt J' (sF (J 66) (J 65 15) f l b t) (sL (J 66) (J 65 15) f l b t) b (t + 1) := by
  have hm := h.1.1
  have hw := rWy_bd h (show 0 ≤ f / 8 by omega) (show f / 8 < 8 by omega) b
  have hf := rFl_bd h (J 65 15) (f / 8) l t
  have hs := sF_bd h h0 h1 (J 65 15) l b t
  have L77 : ∀ (J1 : am_J) (x : Int), J1 66 = J 66 → J1 65 15 = J 65 15 → J1 65 16 = sF (J 66) (J 65 15) f l b t → x = sL (J 66) (J 65 15) f l b t → ∃ J', f_UpRiverModel_sails_L77 b t x J1 = some (fl (sOk (J 66) (J 65 15) f l b t), J') ∧ toAt J' (sF (J 66) (J 65 15) f l b t) (sL (J 66) (J 65 15) f l b t) b (t + 1) := by
    intro J1 x e66 e15 e16 ex
    have hx : am_i32 x := by rw [ex]; unfold sL; split <;> (try split) <;> exact ⟨by omega, by omega⟩
    unfold f_UpRiverModel_sails_L77
    have hr : (am_up (am_up (am_up J1 65 17 x) 65 18 b) 65 19 (t + 1)) 66 = J 66 := by rw [up_row (by decide), up_row (by decide), up_row (by decide), e66]
    have h15 : (am_up (am_up (am_up J1 65 17 x) 65 18 b) 65 19 (t + 1)) 65 15 = J 65 15 := by rw [up_ne (by decide), up_ne (by decide), up_ne (by decide), e15]
    have h16 : (am_up (am_up (am_up J1 65 17 x) 65 18 b) 65 19 (t + 1)) 65 16 = sF (J 66) (J 65 15) f l b t := by rw [up_ne (by decide), up_ne (by decide), up_ne (by decide), e16]
    have h17 : (am_up (am_up (am_up J1 65 17 x) 65 18 b) 65 19 (t + 1)) 65 17 = x := by rw [up_ne (by decide), up_ne (by decide), up_at]
    have h18 : (am_up (am_up (am_up J1 65 17 x) 65 18 b) 65 19 (t + 1)) 65 18 = b := by rw [up_ne (by decide), up_at]
    have h19 : (am_up (am_up (am_up J1 65 17 x) 65 18 b) 65 19 (t + 1)) 65 19 = t + 1 := up_at _ _ _ _
    generalize am_up (am_up (am_up J1 65 17 x) 65 18 b) 65 19 (t + 1) = J2 at hr h15 h16 h17 h18 h19 ⊢
    rw [m_isThere (by rw [hr]; exact h) (by rw [h16]; omega) (by rw [h16]; omega) (by rw [h17]; exact hx) (by rw [h19, h15]; omega)]
    simp only [Option.bind_some]
    rw [if_pos ((fl_01 _).mpr trivial), hr, h15, h16, h17, h19, ex]
    exact ⟨J2, rfl, h16, by rw [h17, ex], h18, h19⟩
  have L45 : ∀ (J1 : am_J) (x : Int), J1 66 = J 66 → J1 65 15 = J 65 15 → x = sF (J 66) (J 65 15) f l b t → ∃ J', f_UpRiverModel_sails_L45 l b t x J1 = some (fl (sOk (J 66) (J 65 15) f l b t), J') ∧ toAt J' (sF (J 66) (J 65 15) f l b t) (sL (J 66) (J 65 15) f l b t) b (t + 1) := by
    intro J1 x e66 e15 ex
    unfold f_UpRiverModel_sails_L45 f_UpRiverModel_top
    simp only [Option.bind_some]
    rw [up_row (by decide), e66, if_pos (show am_i32 (8 * J 66 0) from ⟨by omega, by omega⟩), if_pos (show am_i32 x from ⟨by omega, by omega⟩), if_pos (show am_i32 b from ⟨by omega, by omega⟩)]
    have r66 : (am_up J1 65 16 x) 66 = J 66 := by rw [up_row (by decide), e66]
    have r15 : (am_up J1 65 16 x) 65 15 = J 65 15 := by rw [up_ne (by decide), e15]
    have r16 : (am_up J1 65 16 x) 65 16 = sF (J 66) (J 65 15) f l b t := by rw [up_at, ex]
    by_cases a : x < 8 * J 66 0
    · rw [if_pos a]
      have e : sL (J 66) (J 65 15) f l b t = if b = 0 then l + 1 else l - 1 := by unfold sL; rw [if_pos (by rw [← ex]; exact a)]
      by_cases c : b = 0
      · rw [if_pos c]; exact L77 _ _ r66 r15 r16 (by rw [e, if_pos c])
      · rw [if_neg c]; exact L77 _ _ r66 r15 r16 (by rw [e, if_neg c])
    · rw [if_neg a]
      exact L77 _ _ r66 r15 r16 (by unfold sL; rw [if_neg (by rw [← ex]; exact a)])
  unfold f_UpRiverModel_sails
  rw [if_pos (show am_i32 f from ⟨by omega, by omega⟩), am_dv_pos h0, m_wayOf h (by omega) (by omega) ⟨by omega, by omega⟩]
  simp only [Option.bind_some]
  rw [m_flowAt h (by omega) (by omega) l0 l8 (by omega)]
  simp only [Option.bind_some]
  rw [if_pos (show am_i32 (f + rWy (J 66) (f / 8) b + rFl (J 66) (J 65 15) (f / 8) l t) from ⟨by omega, by omega⟩)]
  by_cases a : f + rWy (J 66) (f / 8) b + rFl (J 66) (J 65 15) (f / 8) l t < 0
  · rw [if_pos a]
    exact L45 _ _ (up_row (by decide)) (up_ne (by decide)) (by unfold sF; rw [if_pos a])
  · rw [if_neg a]
    exact L45 _ _ (up_row (by decide)) (up_ne (by decide)) (by unfold sF; rw [if_neg a])
theorem m_turns {J : am_J} (h : rv_ok (J 66)) {f l b t : Int} (h0 : 0 ≤ f) (h1 : f < 8 * J 66 0) (l0 : 0 ≤ l) (l8 : l ≤ 8) (ht : -50000 ≤ t - J 65 15 ∧ t - J 65 15 ≤ 50000) : ∃ J', f_UpRiverModel_turns f l b t J = some (fl (tOk (J 66) (J 65 15) f l t), J') ∧ toAt J' (tF (J 66) (J 65 15) f l t) l (1 - b) (t + J 66 5) := by
  have hm := h.1.1
  have h5 := h.1.2.2.2.2.2.1
  have hf := rFl_bd h (J 65 15) (f / 8) l t
  have hs := tF_bd h h0 (J 65 15) l t
  have hmul : -81 ≤ J 66 5 * rFl (J 66) (J 65 15) (f / 8) l t ∧ J 66 5 * rFl (J 66) (J 65 15) (f / 8) l t ≤ 81 := by
    have a : J 66 5 = 1 ∨ J 66 5 = 2 ∨ J 66 5 = 3 ∨ J 66 5 = 4 ∨ J 66 5 = 5 ∨ J 66 5 = 6 ∨ J 66 5 = 7 ∨ J 66 5 = 8 ∨ J 66 5 = 9 := by omega
    rcases a with e | e | e | e | e | e | e | e | e <;> rw [e] <;> omega
  have L40 : ∀ (J1 : am_J) (x : Int), J1 66 = J 66 → J1 65 15 = J 65 15 → x = tF (J 66) (J 65 15) f l t → ∃ J', f_UpRiverModel_turns_L40 l b t x J1 = some (fl (tOk (J 66) (J 65 15) f l t), J') ∧ toAt J' (tF (J 66) (J 65 15) f l t) l (1 - b) (t + J 66 5) := by
    intro J1 x e66 e15 ex
    unfold f_UpRiverModel_turns_L40
    rw [e66]
    have hr : (am_up (am_up (am_up (am_up J1 65 16 x) 65 17 l) 65 18 (1 - b)) 65 19 (t + J 66 5)) 66 = J 66 := by rw [up_row (by decide), up_row (by decide), up_row (by decide), up_row (by decide), e66]
    have h15 : (am_up (am_up (am_up (am_up J1 65 16 x) 65 17 l) 65 18 (1 - b)) 65 19 (t + J 66 5)) 65 15 = J 65 15 := by rw [up_ne (by decide), up_ne (by decide), up_ne (by decide), up_ne (by decide), e15]
    have h16 : (am_up (am_up (am_up (am_up J1 65 16 x) 65 17 l) 65 18 (1 - b)) 65 19 (t + J 66 5)) 65 16 = tF (J 66) (J 65 15) f l t := by rw [up_ne (by decide), up_ne (by decide), up_ne (by decide), up_at, ex]
    have h17 : (am_up (am_up (am_up (am_up J1 65 16 x) 65 17 l) 65 18 (1 - b)) 65 19 (t + J 66 5)) 65 17 = l := by rw [up_ne (by decide), up_ne (by decide), up_at]
    have h18 : (am_up (am_up (am_up (am_up J1 65 16 x) 65 17 l) 65 18 (1 - b)) 65 19 (t + J 66 5)) 65 18 = 1 - b := by rw [up_ne (by decide), up_at]
    have h19 : (am_up (am_up (am_up (am_up J1 65 16 x) 65 17 l) 65 18 (1 - b)) 65 19 (t + J 66 5)) 65 19 = t + J 66 5 := up_at _ _ _ _
    generalize am_up (am_up (am_up (am_up J1 65 16 x) 65 17 l) 65 18 (1 - b)) 65 19 (t + J 66 5) = J2 at hr h15 h16 h17 h18 h19 ⊢
    rw [m_isThere (by rw [hr]; exact h) (by rw [h16]; omega) (by rw [h16]; omega) (by rw [h17]; exact ⟨by omega, by omega⟩) (by rw [h19, h15]; omega)]
    simp only [Option.bind_some]
    rw [if_pos ((fl_01 _).mpr trivial), hr, h15, h16, h17, h19]
    exact ⟨J2, rfl, h16, h17, h18, h19⟩
  unfold f_UpRiverModel_turns
  rw [if_pos (show am_i32 f from ⟨by omega, by omega⟩), am_dv_pos h0, m_flowAt h (by omega) (by omega) l0 l8 (by omega)]
  simp only [Option.bind_some]
  rw [if_pos (show am_i32 (f + J 66 5 * rFl (J 66) (J 65 15) (f / 8) l t) from ⟨by omega, by omega⟩)]
  by_cases a : f + J 66 5 * rFl (J 66) (J 65 15) (f / 8) l t < 0
  · rw [if_pos a]
    exact L40 _ _ (up_row (by decide)) (up_ne (by decide)) (by unfold tF; rw [if_pos a])
  · rw [if_neg a]
    exact L40 _ _ (up_row (by decide)) (up_ne (by decide)) (by unfold tF; rw [if_neg a])
