/-! the class's boat; by hand: both boats go the same way -/
theorem rq_fr {o : Nat} {J J' : am_J} {v : Nat → Int} (q : rq o J v) (e : ∀ i, 1 ≤ i → i ≤ 9 → ∀ j, J' (o + i) j = J (o + i) j) : rq o J' v := by
  refine ⟨fun i hi => ?_, fun p hp => ?_, fun r hr => ?_, fun k hk => ?_⟩
  · rw [e 1 (by omega) (by omega)]; exact q.1 i hi
  · rw [e 2 (by omega) (by omega), e 3 (by omega) (by omega)]; exact q.2.1 p hp
  · rw [e 4 (by omega) (by omega), e 5 (by omega) (by omega), e 6 (by omega) (by omega), e 7 (by omega) (by omega)]; exact q.2.2.1 r hr
  · rw [e 8 (by omega) (by omega), e 9 (by omega) (by omega)]; exact q.2.2.2 k hk
theorem c_isUp {o1 o2 : Nat} {J : am_J} {v : Nat → Int} (h : rv_ok v) (q : rq o2 J v) (hf : am_i32 (J o1 0)) : f_Boat_isUp o1 o2 J = some (fl (8 * v 0 ≤ J o1 0)) := by
  have hm := h.1.1
  unfold f_Boat_isUp
  rw [c_top q]
  simp only [Option.bind_some]
  rw [if_pos (show am_i32 (8 * v 0) from ⟨by omega, by omega⟩), if_pos hf]
  by_cases a : J o1 0 < 8 * v 0
  · rw [if_pos a, fl_f (by omega)]
  · rw [if_neg a, fl_t (by omega)]
theorem c_isAfloat {o1 o2 : Nat} {J : am_J} {v : Nat → Int} (h : rv_ok v) (q : rq o2 J v) (h0 : 0 ≤ J o1 0) (h1 : J o1 0 ≤ 100000) (hl : am_i32 (J o1 1)) (ht : am_i32 (J o1 3)) : f_Boat_isAfloat o1 o2 J = some (fl (J o1 0 < 8 * v 0 ∧ rAf v 0 (J o1 0 / 8) (J o1 1) (J o1 3))) := by
  have hm := h.1.1
  unfold f_Boat_isAfloat
  rw [if_pos (show am_i32 (J o1 0) from ⟨by omega, by omega⟩), am_dv_pos h0, c_carries h q ⟨by omega, by omega⟩ hl ht]
  simp only [Option.bind_some]
  rw [if_pos ((fl_01 _).mpr trivial)]
  congr 1
  refine fl_c ⟨fun z => ⟨by have := z.2.1; omega, z.2.2⟩, fun z => ⟨by omega, by have := z.1; omega, z.2⟩⟩
def sTo (v : Nat → Int) (o : Nat) (J : am_J) : am_J := am_up (am_up (am_up (am_up J o 0 (sF v 0 (J o 0) (J o 1) (J o 2) (J o 3))) o 1 (sL v 0 (J o 0) (J o 1) (J o 2) (J o 3))) o 3 (J o 3 + 1)) o 5 (J o 5 + 1)
def tTo (v : Nat → Int) (o : Nat) (J : am_J) : am_J := am_up (am_up (am_up (am_up J o 0 (tF v 0 (J o 0) (J o 1) (J o 3))) o 2 (1 - J o 2)) o 3 (J o 3 + v 5)) o 4 (J o 4 + 1)
theorem c_trySail {o1 o2 : Nat} {J : am_J} {v : Nat → Int} (h : rv_ok v) (q : rq o2 J v) (f0 : 0 ≤ J o1 0) (f1 : J o1 0 < 8 * v 0) (l0 : 0 ≤ J o1 1) (l8 : J o1 1 ≤ 8) (hb : J o1 2 = 0 ∨ J o1 2 = 1) (t0 : 0 ≤ J o1 3) (t3 : J o1 3 ≤ 1000) : f_Boat_trySail o1 o2 J = some (if J o1 3 < 300 ∧ rAf v 0 (J o1 0 / 8) (J o1 1) (J o1 3) ∧ sOk v 0 (J o1 0) (J o1 1) (J o1 2) (J o1 3) then (1, sTo v o1 J) else (0, J)) := by
  have hm := h.1.1
  have hs := sF_bd h f0 f1 0 (J o1 1) (J o1 2) (J o1 3)
  have hw := rWy_bd h (show 0 ≤ J o1 0 / 8 by omega) (show J o1 0 / 8 < 8 by omega) (J o1 2)
  have hf := rFl_bd h 0 (J o1 0 / 8) (J o1 1) (J o1 3)
  have L80 : ∀ x s, x = sF v 0 (J o1 0) (J o1 1) (J o1 2) (J o1 3) → s = sL v 0 (J o1 0) (J o1 1) (J o1 2) (J o1 3) → f_Boat_trySail_L80 o1 o2 x s J = some (if sOk v 0 (J o1 0) (J o1 1) (J o1 2) (J o1 3) then (1, sTo v o1 J) else (0, J)) := by
    intro x s ex es
    have hs32 : am_i32 s := by rw [es]; unfold sL; split <;> (try split) <;> exact ⟨by omega, by omega⟩
    have e111 : f_Boat_trySail_L111 o1 o2 x s J = some (1, sTo v o1 J) := by
      unfold f_Boat_trySail_L111 sTo
      rw [ex, es]
    unfold f_Boat_trySail_L80
    rw [c_top q]
    simp only [Option.bind_some]
    rw [if_pos (show am_i32 (8 * v 0) from ⟨by omega, by omega⟩), if_pos (show am_i32 x from ⟨by omega, by omega⟩)]
    by_cases a : x < 8 * v 0
    · rw [if_pos a, am_dv_pos (by omega), c_carries h q ⟨by omega, by omega⟩ hs32 ⟨by omega, by omega⟩]
      simp only [Option.bind_some, fl_32, if_true, fl_0]
      by_cases c : rAf v 0 (x / 8) s (J o1 3 + 1)
      · rw [if_neg (fun z => z ⟨by omega, by omega, c⟩), e111, if_pos (Or.inr (by rw [← ex, ← es]; exact c))]
      · rw [if_pos (fun z => c z.2.2), if_neg (fun z => by rcases z with z | z; exact absurd z (by omega); rw [← ex, ← es] at z; exact c z)]
    · rw [if_neg a, e111, if_pos (Or.inl (by omega))]
  unfold f_Boat_trySail
  rw [if_pos (show am_i32 (J o1 3) from ⟨by omega, by omega⟩)]
  by_cases a : J o1 3 < 300
  · rw [if_pos a, c_isAfloat h q f0 (by omega) ⟨by omega, by omega⟩ ⟨by omega, by omega⟩]
    simp only [Option.bind_some, fl_32, if_true, fl_0]
    by_cases c : rAf v 0 (J o1 0 / 8) (J o1 1) (J o1 3)
    · rw [if_neg (fun z => z ⟨f1, c⟩), if_pos (show am_i32 (J o1 0) from ⟨by omega, by omega⟩), am_dv_pos f0, c_wayOn h q ⟨by omega, by omega⟩ ⟨by omega, by omega⟩, c_flowAt h q ⟨by omega, by omega⟩ ⟨by omega, by omega⟩ ⟨by omega, by omega⟩, if_pos (show 0 ≤ J o1 0 / 8 ∧ J o1 0 / 8 < v 0 by omega), if_pos (show 0 ≤ J o1 0 / 8 ∧ J o1 0 / 8 < v 0 ∧ rOp v (J o1 0 / 8) (J o1 1) from ⟨by omega, by omega, c.1⟩)]
      simp only [Option.bind_some]
      rw [j_max (by decide) ⟨by omega, by omega⟩]
      simp only [Option.bind_some]
      have em : (if 0 < J o1 0 + rWy v (J o1 0 / 8) (J o1 2) + rFl v 0 (J o1 0 / 8) (J o1 1) (J o1 3) then J o1 0 + rWy v (J o1 0 / 8) (J o1 2) + rFl v 0 (J o1 0 / 8) (J o1 1) (J o1 3) else 0) = sF v 0 (J o1 0) (J o1 1) (J o1 2) (J o1 3) := by
        unfold sF
        split <;> split <;> omega
      rw [em, c_top q]
      simp only [Option.bind_some]
      rw [if_pos (show am_i32 (8 * v 0) from ⟨by omega, by omega⟩), if_pos (show am_i32 (sF v 0 (J o1 0) (J o1 1) (J o1 2) (J o1 3)) from ⟨by omega, by omega⟩)]
      have efin : (if J o1 3 < 300 ∧ rAf v 0 (J o1 0 / 8) (J o1 1) (J o1 3) ∧ sOk v 0 (J o1 0) (J o1 1) (J o1 2) (J o1 3) then ((1 : Int), sTo v o1 J) else (0, J)) = if sOk v 0 (J o1 0) (J o1 1) (J o1 2) (J o1 3) then (1, sTo v o1 J) else (0, J) := by
        by_cases d : sOk v 0 (J o1 0) (J o1 1) (J o1 2) (J o1 3)
        · rw [if_pos ⟨a, c, d⟩, if_pos d]
        · rw [if_neg (fun z => d z.2.2), if_neg d]
      rw [efin]
      by_cases d : sF v 0 (J o1 0) (J o1 1) (J o1 2) (J o1 3) < 8 * v 0
      · rw [if_pos d]
        have ea : f_Boat_laneAhead o1 J = some (sL v 0 (J o1 0) (J o1 1) (J o1 2) (J o1 3)) := by
          unfold f_Boat_laneAhead sL
          rw [if_pos (show am_i32 (J o1 2) from ⟨by omega, by omega⟩), if_pos d]
          split <;> rfl
        rw [ea]
        simp only [Option.bind_some]
        exact L80 _ _ rfl rfl
      · rw [if_neg d]
        exact L80 _ _ rfl (by unfold sL; rw [if_neg d])
    · rw [if_pos (fun z => c z.2), if_neg (fun z => c z.2.1)]
  · rw [if_neg a, if_neg (fun z => a z.1)]
theorem c_tryTurn {o1 o2 : Nat} {J : am_J} {v : Nat → Int} (h : rv_ok v) (q : rq o2 J v) (f0 : 0 ≤ J o1 0) (f1 : J o1 0 < 8 * v 0) (l0 : 0 ≤ J o1 1) (l8 : J o1 1 ≤ 8) (t0 : 0 ≤ J o1 3) (t3 : J o1 3 ≤ 1000) : f_Boat_tryTurn o1 o2 J = some (if J o1 3 + v 5 ≤ 300 ∧ rAf v 0 (J o1 0 / 8) (J o1 1) (J o1 3) ∧ tOk v 0 (J o1 0) (J o1 1) (J o1 3) then (1, tTo v o1 J) else (0, J)) := by
  have hm := h.1.1
  have h5 := h.1.2.2.2.2.2.1
  have e5 := q.1 5 (by omega)
  have hs := tF_bd h f0 0 (J o1 1) (J o1 3)
  have hf := rFl_bd h 0 (J o1 0 / 8) (J o1 1) (J o1 3)
  have hmul : -81 ≤ v 5 * rFl v 0 (J o1 0 / 8) (J o1 1) (J o1 3) ∧ v 5 * rFl v 0 (J o1 0 / 8) (J o1 1) (J o1 3) ≤ 81 := by
    have a : v 5 = 1 ∨ v 5 = 2 ∨ v 5 = 3 ∨ v 5 = 4 ∨ v 5 = 5 ∨ v 5 = 6 ∨ v 5 = 7 ∨ v 5 = 8 ∨ v 5 = 9 := by omega
    rcases a with e | e | e | e | e | e | e | e | e <;> rw [e] <;> omega
  have e91 : ∀ x, x = tF v 0 (J o1 0) (J o1 1) (J o1 3) → f_Boat_tryTurn_L91 o1 o2 (v 5) x J = some (1, tTo v o1 J) := by
    intro x ex
    unfold f_Boat_tryTurn_L91 tTo
    rw [ex]
  unfold f_Boat_tryTurn
  rw [e5, if_pos (show am_i32 (J o1 3 + v 5) from ⟨by omega, by omega⟩)]
  by_cases a : 300 < J o1 3 + v 5
  · rw [if_pos a, if_neg (fun z => by have := z.1; omega)]
  · rw [if_neg a, c_isAfloat h q f0 (by omega) ⟨by omega, by omega⟩ ⟨by omega, by omega⟩]
    simp only [Option.bind_some, fl_32, if_true, fl_0]
    by_cases c : rAf v 0 (J o1 0 / 8) (J o1 1) (J o1 3)
    · rw [if_neg (fun z => z ⟨f1, c⟩), if_pos (show am_i32 (J o1 0) from ⟨by omega, by omega⟩), am_dv_pos f0, c_flowAt h q ⟨by omega, by omega⟩ ⟨by omega, by omega⟩ ⟨by omega, by omega⟩, if_pos (show 0 ≤ J o1 0 / 8 ∧ J o1 0 / 8 < v 0 ∧ rOp v (J o1 0 / 8) (J o1 1) from ⟨by omega, by omega, c.1⟩)]
      simp only [Option.bind_some]
      rw [j_max (by decide) ⟨by omega, by omega⟩]
      simp only [Option.bind_some]
      have em : (if 0 < J o1 0 + v 5 * rFl v 0 (J o1 0 / 8) (J o1 1) (J o1 3) then J o1 0 + v 5 * rFl v 0 (J o1 0 / 8) (J o1 1) (J o1 3) else 0) = tF v 0 (J o1 0) (J o1 1) (J o1 3) := by
        unfold tF
        split <;> split <;> omega
      rw [em, c_top q]
      simp only [Option.bind_some]
      rw [if_pos (show am_i32 (8 * v 0) from ⟨by omega, by omega⟩), if_pos (show am_i32 (tF v 0 (J o1 0) (J o1 1) (J o1 3)) from ⟨by omega, by omega⟩)]
      by_cases d : tF v 0 (J o1 0) (J o1 1) (J o1 3) < 8 * v 0
      · rw [if_pos d, am_dv_pos (by omega), c_carries h q ⟨by omega, by omega⟩ ⟨by omega, by omega⟩ ⟨by omega, by omega⟩]
        simp only [Option.bind_some, fl_32, if_true, fl_0]
        by_cases g : rAf v 0 (tF v 0 (J o1 0) (J o1 1) (J o1 3) / 8) (J o1 1) (J o1 3 + v 5)
        · rw [if_neg (fun z => z ⟨by omega, by omega, g⟩), e91 _ rfl, if_pos ⟨by omega, c, Or.inr g⟩]
        · rw [if_pos (fun z => g z.2.2), if_neg (fun z => by rcases z.2.2 with z | z; exact absurd z (by omega); exact g z)]
      · rw [if_neg d, e91 _ rfl, if_pos ⟨by omega, c, Or.inl (by omega)⟩]
    · rw [if_pos (fun z => c z.2), if_neg (fun z => c z.2.1)]
theorem m_isUp {J : am_J} (h : rv_ok (J 66)) (hf : am_i32 (J 68 1)) : f_UpRiverModel_isUp J = some (fl (8 * J 66 0 ≤ J 68 1)) := by
  have hm := h.1.1
  unfold f_UpRiverModel_isUp f_UpRiverModel_top
  simp only [Option.bind_some]
  rw [if_pos (show am_i32 (8 * J 66 0) from ⟨by omega, by omega⟩), if_pos hf]
  by_cases a : J 68 1 < 8 * J 66 0
  · rw [if_pos a, fl_f (by omega)]
  · rw [if_neg a, fl_t (by omega)]
theorem m_isFloating {J : am_J} (h : rv_ok (J 66)) (h0 : 0 ≤ J 68 1) (h1 : J 68 1 ≤ 100000) (hl : am_i32 (J 68 2)) (ht : -100000 ≤ J 68 0 - J 65 15 ∧ J 68 0 - J 65 15 ≤ 100000) : f_UpRiverModel_isFloating J = some (fl (8 * J 66 0 ≤ J 68 1 ∨ rAf (J 66) (J 65 15) (J 68 1 / 8) (J 68 2) (J 68 0))) := by
  have hm := h.1.1
  unfold f_UpRiverModel_isFloating
  rw [m_isUp h ⟨by omega, by omega⟩]
  simp only [Option.bind_some, fl_32, if_true, fl_0]
  by_cases a : 8 * J 66 0 ≤ J 68 1
  · rw [if_neg (fun z => z a), fl_t (Or.inl a)]
  · rw [if_pos a, if_pos (show am_i32 (J 68 1) from ⟨by omega, by omega⟩), am_dv_pos h0, m_isAfloat h (by omega) (by omega) hl ht]
    simp only [Option.bind_some, fl_32, if_true, fl_0]
    by_cases c : rAf (J 66) (J 65 15) (J 68 1 / 8) (J 68 2) (J 68 0)
    · rw [if_neg (fun z => z c), fl_t (Or.inr c)]
    · rw [if_pos c, fl_f (fun z => by rcases z with z | z; exact a z; exact c z)]
