/-! the questions: rule, reach, flow, afloat, now; and set -/
theorem c_isMinute {x : Int} (hx : am_i32 x) : f_UpRiver_isMinute x = some (fl (0 ≤ x ∧ x ≤ 300)) := by
  unfold f_UpRiver_isMinute
  rw [if_pos hx]
  by_cases a : x < 0
  · rw [if_pos a, fl_f (by omega)]
  · rw [if_neg a]
    by_cases c : 300 < x
    · rw [if_pos c, fl_f (by omega)]
    · rw [if_neg c, fl_t (by omega)]
theorem c_isLane {x : Int} (hx : am_i32 x) : f_UpRiver_isLane x = some (fl (0 ≤ x ∧ x ≤ 8)) := by
  unfold f_UpRiver_isLane
  rw [if_pos hx]
  by_cases a : x < 0
  · rw [if_pos a, fl_f (by omega)]
  · rw [if_neg a]
    by_cases c : x < 9
    · rw [if_pos c, fl_t (by omega)]
    · rw [if_neg c, fl_f (by omega)]
theorem c_isYesOrNo {x : Int} (hx : am_i32 x) : f_UpRiver_isYesOrNo x = some (fl (0 ≤ x ∧ x ≤ 1)) := by
  unfold f_UpRiver_isYesOrNo
  rw [if_pos hx]
  by_cases a : x = 0
  · rw [if_pos a, fl_t (by omega)]
  · rw [if_neg a]
    by_cases c : x = 1
    · rw [if_pos c, fl_t (by omega)]
    · rw [if_neg c, fl_f (by omega)]
theorem c_asInt {x : Int} (h : x = 0 ∨ x = 1) : f_UpRiver_asInt x = some x := by
  unfold f_UpRiver_asInt
  rcases h with rfl | rfl
  · rfl
  · rfl
theorem m_flag {x : Int} (h : x = 0 ∨ x = 1) : f_UpRiverModel_flag x = some x := by
  unfold f_UpRiverModel_flag
  rcases h with rfl | rfl
  · rfl
  · rfl
theorem m_isMinute {x : Int} (hx : am_i32 x) : f_UpRiverModel_isMinute x = some (fl (0 ≤ x ∧ x ≤ 300)) := by
  unfold f_UpRiverModel_isMinute
  rw [show (0 : Int64) = am_i2l 0 from rfl, show (300 : Int64) = am_i2l 300 from rfl, m_in hx (by decide) (by decide)]
  simp only [Option.bind_some]
  rw [if_pos ((fl_01 _).mpr trivial)]
theorem m_isLane {x : Int} (hx : am_i32 x) : f_UpRiverModel_isLane x = some (fl (0 ≤ x ∧ x ≤ 8)) := by
  unfold f_UpRiverModel_isLane
  rw [show (0 : Int64) = am_i2l 0 from rfl, show (8 : Int64) = am_i2l 8 from rfl, m_in hx (by decide) (by decide)]
  simp only [Option.bind_some]
  rw [if_pos ((fl_01 _).mpr trivial)]
theorem rv_32 {v : Nat → Int} (h : rv_ok v) {i : Nat} (hi : i < 7) : am_i32 (v i) := by
  have h1 := h.1
  have hc : i = 0 ∨ i = 1 ∨ i = 2 ∨ i = 3 ∨ i = 4 ∨ i = 5 ∨ i = 6 := by omega
  rcases hc with rfl | rfl | rfl | rfl | rfl | rfl | rfl <;> exact ⟨by omega, by omega⟩
theorem e_rule {b : Bool} {J : am_J} {x : Int} (hr : sR b J) (hx : am_i32 x) : ∃ r, f_UpRiver_rule b J x = some r ∧ f_UpRiverModel_rule J x = some r ∧ am_i32 r := by
  obtain ⟨h, q, -⟩ := hr
  unfold f_UpRiverModel_rule
  rw [show (0 : Int64) = am_i2l 0 from rfl, show (6 : Int64) = am_i2l 6 from rfl, show (10 : Int64) = am_i2l 10 from rfl, show (21 : Int64) = am_i2l 21 from rfl, show (30 : Int64) = am_i2l 30 from rfl, show (41 : Int64) = am_i2l 41 from rfl, m_in hx (by decide) (by decide), m_in hx (by decide) (by decide), m_in hx (by decide) (by decide)]
  simp only [Option.bind_some, fl_32, if_true, fl_0]
  unfold f_UpRiver_rule f_UpRiver_rule_L20 f_UpRiver_rule_L48
  by_cases c1 : 0 ≤ x ∧ x ≤ 6
  · refine ⟨J 66 x.toNat, ?_, ?_, rv_32 h (by omega)⟩
    · rw [if_pos hx, if_neg (by omega), if_pos (by omega), if_pos (by omega), q.1 _ (by omega)]
    · rw [if_neg (fun z => z c1), if_pos (by omega)]
  by_cases c2 : 10 ≤ x ∧ x ≤ 21
  · have hp := rq_p q (p := x - 10) (by omega) (by omega)
    have hb := rv_p h (p := x - 10) (by omega) (by omega)
    have e : 271 + x - 10 = 271 + (x - 10) := by omega
    refine ⟨J 66 (271 + (x - 10)).toNat, ?_, ?_, ⟨by omega, by omega⟩⟩
    · rw [if_pos hx, if_neg (by omega), if_neg (by omega), if_pos hx, if_neg (by omega), if_pos (by omega), if_pos (by omega), hp.1]
      congr 1
      omega
    · rw [if_pos c1, if_neg (fun z => z c2), if_pos (by omega), e]
  by_cases c3 : 30 ≤ x ∧ x ≤ 41
  · have hp := rq_p q (p := x - 30) (by omega) (by omega)
    have hb := rv_p h (p := x - 30) (by omega) (by omega)
    have e : 283 + x - 30 = 283 + (x - 30) := by omega
    refine ⟨J 66 (283 + (x - 30)).toNat, ?_, ?_, ⟨by omega, by omega⟩⟩
    · rw [if_pos hx, if_neg (by omega), if_neg (by omega), if_pos hx, if_neg (by omega), if_neg (by omega), if_pos hx, if_neg (by omega), if_pos (by omega), if_pos (by omega), hp.2]
    · rw [if_pos c1, if_pos c2, if_neg (fun z => z c3), if_pos (by omega), e]
  refine ⟨-1, ?_, ?_, by decide⟩
  · have L48 : (if am_i32 x then (if x < 30 then some (-1) else (if x < 42 then (if 0 ≤ x - 30 ∧ x - 30 < 12 then some (J (am_rv b + 3) (x - 30).toNat) else none) else some (-1))) else none) = some (-1 : Int) := by
      rw [if_pos hx]
      by_cases a : x < 30
      · rw [if_pos a]
      · rw [if_neg a, if_neg (by omega)]
    rw [if_pos hx, L48]
    by_cases a : x < 0
    · rw [if_pos a, if_pos hx, if_pos (by omega)]
    · rw [if_neg a, if_neg (by omega), if_pos hx]
      by_cases a2 : x < 10
      · rw [if_pos a2]
      · rw [if_neg a2, if_neg (by omega)]
  · rw [if_pos c1, if_pos c2, if_pos c3]
theorem e_reach {b : Bool} {J : am_J} {x y : Int} (hr : sR b J) (hx : am_i32 x) (hy : am_i32 y) : ∃ r, f_UpRiver_reach b J x y = some r ∧ f_UpRiverModel_reach J x y = some r ∧ am_i32 r := by
  obtain ⟨h, q, -⟩ := hr
  have hm := h.1.1
  unfold f_UpRiverModel_reach f_UpRiver_reach
  rw [c_hasReach h q hx, m_isReach h hx]
  simp only [Option.bind_some, fl_32, if_true, fl_0]
  by_cases ho : 0 ≤ x ∧ x < J 66 0
  · have hnn : ¬ ¬ (0 ≤ x ∧ x < J 66 0) := fun z => z ho
    rw [if_neg hnn, if_neg hnn, if_pos hy, if_pos hy]
    have q1 := rq_r q ho.1 (show x < 8 by omega)
    have v1 := rv_r h ho.1 (show x < 8 by omega)
    have w0 := rWy_bd h ho.1 (show x < 8 by omega) 0
    have w1 := rWy_bd h ho.1 (show x < 8 by omega) 1
    rw [show (10 : Int64) = am_i2l 10 from rfl, show (18 : Int64) = am_i2l 18 from rfl, show (20 : Int64) = am_i2l 20 from rfl, show (28 : Int64) = am_i2l 28 from rfl, m_in hy (by decide) (by decide), m_in hy (by decide) (by decide), m_wayOf h ho.1 (by omega) (by decide), m_wayOf h ho.1 (by omega) (by decide)]
    simp only [Option.bind_some, fl_32, if_true, fl_0]
    have L76 : y < 10 ∨ 28 < y ∨ y = 19 → f_UpRiver_reach_L76 b J x y = some (if y = 0 then J 66 (7 + x).toNat else if y = 1 then J 66 (19 + x).toNat else if y = 2 then J 66 (31 + x).toNat else if y = 3 then J 66 (43 + x).toNat else if y = 4 then rWy (J 66) x 0 else if y = 5 then rWy (J 66) x 1 else -1) := by
      intro _
      unfold f_UpRiver_reach_L76
      rw [if_pos hy, q1.1, q1.2.1, q1.2.2.1, q1.2.2.2, c_asInt v1.2.2.2.1, c_wayOn h q hx (by decide), c_wayOn h q hx (by decide), if_pos ho, if_pos ho]
      simp only [Option.bind_some]
      rw [if_pos (show 0 ≤ x ∧ x < 8 by omega), if_pos (show 0 ≤ x ∧ x < 8 by omega), if_pos (show 0 ≤ x ∧ x < 8 by omega), if_pos (show 0 ≤ x ∧ x < 8 by omega)]
      repeat' split
      all_goals rfl
    by_cases c1 : 10 ≤ y ∧ y ≤ 18
    · have qk := rq_k q ho.1 (show x < 8 by omega) (l := y - 10) (by omega) (by omega)
      have vk := rv_k h ho.1 (show x < 8 by omega) (l := y - 10) (by omega) (by omega)
      have e : 55 + 9 * x + y - 10 = 55 + 9 * x + (y - 10) := by omega
      have e2 : x * 9 + y - 10 = x * 9 + (y - 10) := by omega
      refine ⟨J 66 (55 + 9 * x + (y - 10)).toNat, ?_, ?_, ⟨by omega, by omega⟩⟩
      · rw [if_neg (by omega), if_pos (by omega), if_pos (by omega), e2, qk.1]
      · rw [if_neg (by omega), if_neg (by omega), if_neg (by omega), if_neg (by omega), if_neg (by omega), if_neg (by omega), if_neg (fun z => z c1), if_pos (by omega), e]
    by_cases c2 : 20 ≤ y ∧ y ≤ 28
    · have qk := rq_k q ho.1 (show x < 8 by omega) (l := y - 20) (by omega) (by omega)
      have vk := rv_k h ho.1 (show x < 8 by omega) (l := y - 20) (by omega) (by omega)
      have e : 163 + 9 * x + y - 20 = 163 + 9 * x + (y - 20) := by omega
      have e2 : x * 9 + y - 20 = x * 9 + (y - 20) := by omega
      refine ⟨J 66 (163 + 9 * x + (y - 20)).toNat, ?_, ?_, ⟨by omega, by omega⟩⟩
      · unfold f_UpRiver_reach_L43
        rw [if_neg (by omega), if_neg (by omega), if_pos hy, if_neg (by omega), if_pos (by omega), if_pos (by omega), e2, qk.2, c_asInt vk.2.2]
        rfl
      · rw [if_neg (by omega), if_neg (by omega), if_neg (by omega), if_neg (by omega), if_neg (by omega), if_neg (by omega), if_pos c1, if_neg (fun z => z c2), if_pos (by omega), e]
    · refine ⟨(if y = 0 then J 66 (7 + x).toNat else if y = 1 then J 66 (19 + x).toNat else if y = 2 then J 66 (31 + x).toNat else if y = 3 then J 66 (43 + x).toNat else if y = 4 then rWy (J 66) x 0 else if y = 5 then rWy (J 66) x 1 else -1), ?_, ?_, ?_⟩
      rotate_left
      · rw [if_pos (show 0 ≤ 7 + x ∧ 7 + x < 295 by omega), if_pos (show 0 ≤ 19 + x ∧ 19 + x < 295 by omega), if_pos (show 0 ≤ 31 + x ∧ 31 + x < 295 by omega), if_pos (show 0 ≤ 43 + x ∧ 43 + x < 295 by omega), if_pos c1, if_pos c2]
        repeat' split
        all_goals rfl
      · repeat' split
        all_goals exact ⟨by omega, by omega⟩
      · unfold f_UpRiver_reach_L43
        rw [if_pos hy, L76 (by omega)]
        by_cases a : y < 10
        · rw [if_pos a, if_pos (by omega)]
        · rw [if_neg a, if_neg (by omega)]
          by_cases a2 : y < 20
          · rw [if_pos a2]
          · rw [if_neg a2, if_neg (by omega)]
  · rw [if_pos ho, if_pos ho]
    exact ⟨-1, rfl, rfl, by decide⟩
theorem e_flow {b : Bool} {J : am_J} {x y t : Int} (hr : sR b J) (hx : am_i32 x) (hy : am_i32 y) (ht : am_i32 t) : ∃ r, f_UpRiver_flow b J x y t = some r ∧ f_UpRiverModel_flow J x y t = some r ∧ am_i32 r := by
  obtain ⟨h, q, e15⟩ := hr
  have hm := h.1.1
  unfold f_UpRiverModel_flow f_UpRiver_flow
  rw [c_isOpen h q hx hy, m_isReach h hx, c_isMinute ht, m_isMinute ht]
  simp only [Option.bind_some, fl_32, if_true, fl_0]
  by_cases ho : 0 ≤ x ∧ x < J 66 0
  · rw [if_neg (show ¬ ¬ (0 ≤ x ∧ x < J 66 0) from fun z => z ho), m_isOpen h ho.1 (by omega) hy]
    simp only [Option.bind_some, fl_32, if_true, fl_0]
    have v1 := rv_r h ho.1 (show x < 8 by omega)
    by_cases o2 : rOp (J 66) x y
    · rw [if_neg (show ¬ ¬ (0 ≤ x ∧ x < J 66 0 ∧ rOp (J 66) x y) from fun z => z ⟨ho.1, ho.2, o2⟩), if_neg (show ¬ ¬ rOp (J 66) x y from fun z => z o2)]
      by_cases mi : 0 ≤ t ∧ t ≤ 300
      · have hf := rFl_bd h 0 x y t
        refine ⟨rFl (J 66) 0 x y t, ?_, ?_, ⟨by omega, by omega⟩⟩
        · rw [if_neg (fun z => z mi), c_flowAt h q hx hy ht, if_pos ⟨ho.1, ho.2, o2⟩]
          rfl
        · rw [if_neg (fun z => z mi), m_flowAt h ho.1 (by omega) (by have := o2.1; omega) (by have := o2.2; omega) (by rw [e15]; omega), e15]
          rfl
      · rw [if_pos mi, if_pos mi]
        exact ⟨-1000, rfl, rfl, by decide⟩
    · rw [if_pos (show ¬ (0 ≤ x ∧ x < J 66 0 ∧ rOp (J 66) x y) from fun z => o2 z.2.2), if_pos o2]
      exact ⟨-1000, rfl, rfl, by decide⟩
  · rw [if_pos (show ¬ (0 ≤ x ∧ x < J 66 0 ∧ rOp (J 66) x y) from fun z => ho ⟨z.1, z.2.1⟩), if_pos ho]
    exact ⟨-1000, rfl, rfl, by decide⟩
theorem af_loop {b : Bool} {J : am_J} {x y c : Int} (hr : sR b J) (hx : 0 ≤ x ∧ x < J 66 0) (hy : am_i32 y) (hc : c = 0 ∨ c = 1) : ∀ (k n : Nat) (t : Int), k < n → 301 - t = (k : Int) → 0 ≤ t → ∃ r, f_UpRiver_afloat_L50 b J n x y (1 - c) t = some r ∧ f_UpRiverModel_afloat_L38 J n x y c t = some r ∧ am_i32 r := by
  obtain ⟨h, q, e15⟩ := hr
  have hm := h.1.1
  intro k
  induction k with
  | zero =>
    intro n t hn hk t0
    obtain ⟨n, rfl⟩ : ∃ n', n = n' + 1 := ⟨n - 1, by omega⟩
    rw [f_UpRiver_afloat_L50.eq_2, f_UpRiverModel_afloat_L38.eq_2, if_pos (show am_i32 t from ⟨by omega, by omega⟩), if_pos (show am_i32 t from ⟨by omega, by omega⟩), if_pos (show 300 < t by omega), if_pos (show 300 < t by omega)]
    exact ⟨-4, rfl, rfl, by decide⟩
  | succ k ih =>
    intro n t hn hk t0
    obtain ⟨n, rfl⟩ : ∃ n', n = n' + 1 := ⟨n - 1, by omega⟩
    rw [f_UpRiver_afloat_L50.eq_2, f_UpRiverModel_afloat_L38.eq_2, if_pos (show am_i32 t from ⟨by omega, by omega⟩), if_pos (show am_i32 t from ⟨by omega, by omega⟩), if_neg (show ¬ 300 < t by omega), if_neg (show ¬ 300 < t by omega), c_carries h q ⟨by omega, by omega⟩ hy ⟨by omega, by omega⟩, m_isAfloat h hx.1 (by omega) hy (by rw [e15]; omega), e15]
    simp only [Option.bind_some]
    unfold f_UpRiverModel_afloat_L64
    obtain ⟨r, i1, i2, i3⟩ := ih n (t + 1) (by omega) (by omega) (by omega)
    rw [i1, i2]
    by_cases a : rAf (J 66) 0 x y t
    · rw [fl_t (show 0 ≤ x ∧ x < J 66 0 ∧ rAf (J 66) 0 x y t from ⟨hx.1, hx.2, a⟩), fl_t a]
      rcases hc with rfl | rfl
      · exact ⟨t, rfl, rfl, ⟨by omega, by omega⟩⟩
      · exact ⟨r, rfl, rfl, i3⟩
    · rw [fl_f (show ¬ (0 ≤ x ∧ x < J 66 0 ∧ rAf (J 66) 0 x y t) from fun z => a z.2.2), fl_f a]
      rcases hc with rfl | rfl
      · exact ⟨r, rfl, rfl, i3⟩
      · exact ⟨t, rfl, rfl, ⟨by omega, by omega⟩⟩
theorem e_afloat {b : Bool} {J : am_J} {x y t c : Int} (hr : sR b J) (hx : am_i32 x) (hy : am_i32 y) (ht : am_i32 t) (hc : am_i32 c) : ∃ r, f_UpRiver_afloat b J x y t c = some r ∧ f_UpRiverModel_afloat J x y t c = some r ∧ am_i32 r := by
  have hr' := hr
  obtain ⟨h, q, e15⟩ := hr'
  unfold f_UpRiver_afloat f_UpRiverModel_afloat
  rw [c_hasReach h q hx, m_isReach h hx, c_isLane hy, m_isLane hy, c_isMinute ht, m_isMinute ht, c_isYesOrNo hc, m_in3 hc]
  simp only [Option.bind_some, fl_32, if_true, fl_0]
  by_cases ho : 0 ≤ x ∧ x < J 66 0
  · have n1 : ¬ ¬ (0 ≤ x ∧ x < J 66 0) := fun z => z ho
    rw [if_neg n1, if_neg n1]
    by_cases h2 : 0 ≤ y ∧ y ≤ 8
    · have n2 : ¬ ¬ (0 ≤ y ∧ y ≤ 8) := fun z => z h2
      rw [if_neg n2, if_neg n2]
      by_cases h3 : 0 ≤ t ∧ t ≤ 300
      · have n3 : ¬ ¬ (0 ≤ t ∧ t ≤ 300) := fun z => z h3
        rw [if_neg n3, if_neg n3]
        by_cases h4 : 0 ≤ c ∧ c ≤ 1
        · have n4 : ¬ ¬ (0 ≤ c ∧ c ≤ 1) := fun z => z h4
          rw [if_neg n4, if_neg n4, if_pos hc]
          obtain ⟨r, i1, i2, i3⟩ := af_loop hr ho hy (c := c) (by omega) (301 - t).toNat am_FU t (by have : am_FU = 20000 := rfl; omega) (by omega) (by omega)
          refine ⟨r, ?_, i2, i3⟩
          by_cases c0 : c = 0
          · rw [if_pos c0]
            rw [c0] at i1
            exact i1
          · have c1 : c = 1 := by omega
            rw [if_neg c0]
            rw [c1] at i1
            exact i1
        · rw [if_pos h4, if_pos h4]
          exact ⟨-1, rfl, rfl, by decide⟩
      · rw [if_pos h3, if_pos h3]
        exact ⟨-1, rfl, rfl, by decide⟩
    · rw [if_pos h2, if_pos h2]
      exact ⟨-1, rfl, rfl, by decide⟩
  · rw [if_pos ho, if_pos ho]
    exact ⟨-1, rfl, rfl, by decide⟩
theorem e_now {b : Bool} {J : am_J} {x : Int} (hr : sR b J) (hb : sB J) (hx : am_i32 x) : ∃ r, f_UpRiver_now b J x = some r ∧ f_UpRiverModel_now J x = some r ∧ am_i32 r := by
  obtain ⟨h, q, e15⟩ := hr
  have hv := h.1.1
  obtain ⟨⟨r0, r1, r2, r3, r4, r5, r6⟩, m0, m1, m2, m3, m4, m5⟩ := hb
  unfold f_UpRiver_now f_UpRiverModel_now f_UpRiver_now_L103
  rw [if_pos hx, if_pos hx, c_isUp h q ⟨by omega, by omega⟩, c_isAfloat h q r0.1 (by omega) ⟨by omega, by omega⟩ ⟨by omega, by omega⟩, m_isUp h ⟨by omega, by omega⟩, m_isFloating h (by omega) (by omega) ⟨by omega, by omega⟩ (by rw [e15]; omega), e15, ← m0, ← m1, ← m3, ← m4]
  simp only [Option.bind_some, fl_32, if_true, fl_0]
  by_cases c0 : x = 0
  · rw [if_pos c0, if_pos c0, if_pos (by omega), c0]
    exact ⟨_, rfl, congrArg some m3.symm, ⟨by omega, by omega⟩⟩
  rw [if_neg c0, if_neg c0]
  by_cases c1 : x = 1
  · rw [if_pos c1, if_pos c1, if_pos (by omega), c1]
    exact ⟨_, rfl, congrArg some m0.symm, ⟨by omega, by omega⟩⟩
  rw [if_neg c1, if_neg c1]
  by_cases c2 : x = 2
  · rw [if_pos c2, if_pos c2, if_pos (by omega), c2]
    exact ⟨_, rfl, congrArg some m1.symm, ⟨by omega, by omega⟩⟩
  rw [if_neg c2, if_neg c2]
  by_cases c3 : x = 3
  · rw [if_pos c3, if_pos c3, if_pos (by omega), c3]
    exact ⟨_, rfl, congrArg some m2.symm, ⟨by omega, by omega⟩⟩
  rw [if_neg c3, if_neg c3]
  by_cases c4 : x = 4
  · rw [if_pos c4, if_pos c4, m_flag ((fl_01 _).mpr trivial)]
    by_cases up : 8 * J 66 0 ≤ J 18 0
    · have n1 : ¬ ¬ (8 * J 66 0 ≤ J 18 0) := fun z => z up
      rw [if_neg n1, fl_t (Or.inl up)]
      exact ⟨1, rfl, rfl, by decide⟩
    · rw [if_pos up]
      by_cases a : rAf (J 66) 0 (J 18 0 / 8) (J 18 1) (J 18 3)
      · have n2 : ¬ ¬ (J 18 0 < 8 * J 66 0 ∧ rAf (J 66) 0 (J 18 0 / 8) (J 18 1) (J 18 3)) := fun z => z ⟨by omega, a⟩
        rw [if_neg n2, fl_t (Or.inr a)]
        exact ⟨1, rfl, rfl, by decide⟩
      · have n2 : ¬ (J 18 0 < 8 * J 66 0 ∧ rAf (J 66) 0 (J 18 0 / 8) (J 18 1) (J 18 3)) := fun z => a z.2
        rw [if_pos n2, fl_f (show ¬ (8 * J 66 0 ≤ J 18 0 ∨ rAf (J 66) 0 (J 18 0 / 8) (J 18 1) (J 18 3)) from fun z => by rcases z with z | z; exact up z; exact a z)]
        exact ⟨0, rfl, rfl, by decide⟩
  rw [if_neg c4, if_neg c4]
  by_cases c5 : x = 5
  · rw [if_pos c5, if_pos c5, m_flag ((fl_01 _).mpr trivial), c_asInt ((fl_01 _).mpr trivial)]
    exact ⟨_, rfl, rfl, (fl_32 _).mpr trivial⟩
  rw [if_neg c5, if_neg c5]
  by_cases c6 : x = 6
  · rw [if_pos c6, if_pos c6]
    exact ⟨_, rfl, rfl, ⟨by omega, by omega⟩⟩
  rw [if_neg c6, if_neg c6]
  by_cases c7 : x = 7
  · rw [if_pos c7, if_pos c7]
    exact ⟨J 18 5, rfl, congrArg some (by omega), ⟨by omega, by omega⟩⟩
  rw [if_neg c7, if_neg c7]
  exact ⟨-1, rfl, rfl, by decide⟩
