/-! from, days, lost -/
theorem rv_7 {v : Nat → Int} (hv : rv_ok v) : 0 ≤ v 7 ∧ v 7 ≤ 8 := by
  have h := hv.2.1 0 (by omega)
  simp only [Nat.add_zero] at h
  omega
def startQ (v : Nat → Int) (lt t x : Int) : Prop := 0 ≤ v 7 ∧ v 7 ≤ 8 ∧ Cn v lt (8 * v 0) 0 8 x t 0 (v 7) 0
/-- the arrivals that the class has kept -/
def sA (v : Nat → Int) (J : am_J) : Prop := ∀ t : Nat, t ≤ 300 → J 31 t = 0 ∨ arr (startQ v 0 t) (J 31 t)
theorem lie_30 {b : Bool} {v : Nat → Int} {J : am_J} (q : rq (am_rv b) J v) {t : Int} : ∃ J', f_Boat_lieAtStart 30 (am_rv b) t J = some J' ∧ J' 30 0 = 0 ∧ J' 30 1 = v 7 ∧ J' 30 2 = 0 ∧ J' 30 3 = t ∧ (∀ a, a ≠ 30 → J' a = J a) := by
  unfold f_Boat_lieAtStart f_Boat_lieAt
  simp only [Option.bind_some]
  refine ⟨_, rfl, rfl, (q.2.2.1 0 (by omega)).1, rfl, rfl, fun a ha => ?_⟩
  rw [up_row ha, up_row ha, up_row ha, up_row ha, up_row ha, up_row ha]
theorem c_startArrival {b : Bool} {v : Nat → Int} (hv : rv_ok v) {J : am_J} {K : am_K} (q : rq (am_rv b) J v) (k : rK (am_rv b) K v) (hA : sA v J) {t : Int} (ht : 0 ≤ t ∧ t ≤ 300) : ∃ r J' K', f_UpRiver_startArrival b t J K = some (r, J', K') ∧ arr (startQ v 0 t) r ∧ sA v J' := by
  have h0 := rv_7 hv
  have hm := hv.1.1
  have e7 : 0 ≤ v 7 ∧ v 7 ≤ 8 := by omega
  have ha := hA t.toNat (by omega)
  rw [show ((t.toNat : Nat) : Int) = t by omega] at ha
  unfold f_UpRiver_startArrival
  rw [if_pos (show 0 ≤ t ∧ t < 301 by omega), if_pos (show am_i32 (J 31 t.toNat) by rcases ha with ha | ha; rw [ha]; decide; exact arr_32 ha)]
  by_cases c0 : J 31 t.toNat = 0
  · obtain ⟨J1, t1, t2, t3, t4, t5, t6⟩ := lie_30 q (t := t)
    have q1 : rq (am_rv b) J1 v := rq_cong q rfl fun a ha j => by rw [t6 a (by omega)]
    rw [if_pos c0, t1]
    simp only [Option.bind_some]
    obtain ⟨r, J2, K2, w1, w2⟩ := c_arrivalOf hv q1 k (o1 := 30) (by decide) (a := 0) (c := 8) t2 t3 t4 t5 (by omega) e7 (Or.inl rfl) ht (by omega) (by omega) (by omega)
    rw [w1]
    simp only [Option.bind_some]
    rw [up_at]
    refine ⟨r, _, K2, rfl, w2, fun i hi => ?_⟩
    by_cases e : i = t.toNat
    · rw [e, up_at, show ((t.toNat : Nat) : Int) = t by omega]
      exact Or.inr w2
    · rw [up_ne e]
      have : J2 31 i = J 31 i := (frJ_UpRiver_arrivalOf w1 rfl).trans (by rw [t6 31 (by decide)])
      rw [this]
      exact hA i hi
  · rw [if_neg c0]
    rcases ha with ha | ha
    · exact absurd ha c0
    · exact ⟨_, J, K, rfl, ha, hA⟩
theorem sA_row {v : Nat → Int} {J J' : am_J} (h : sA v J) (e : J' 31 = J 31) : sA v J' := by
  unfold sA
  rw [e]
  exact h
theorem m_startIn {v : Nat → Int} (hv : rv_ok v) {J : am_J} (e66 : J 66 = v) {lt t : Int} (e15 : J 65 15 = lt) (hlt : -10 ≤ lt ∧ lt ≤ 2000) (ht : 0 ≤ t ∧ t ≤ 300) : ∃ r J', f_UpRiverModel_startIn t J = some (r, J') ∧ arr (startQ v lt t) r := by
  have h0 := rv_7 hv
  have hm := hv.1.1
  obtain ⟨r, J', z1, z2, -⟩ := m_soonestFrom (J := J) (f := 0) (l := v 7) (b := 0) (t := t) (a := 0) (c := 8) (by rw [e66]; exact hv) (by omega) (by omega) (by omega) (Or.inl rfl) ht (by omega) (by omega)
  rw [e66, e15] at z2
  unfold f_UpRiverModel_startIn
  rw [e66, z1]
  exact ⟨r, J', rfl, z2 (by omega)⟩
theorem e_from {b : Bool} {J : am_J} {K : am_K} {x : Int} (hr : sR b J) (hk : rK (am_rv b) K (J 66)) (hA : sA (J 66) J) (hx : am_i32 x) : ∃ r J' K' J2, f_UpRiver_from b x J K = some (r, J', K') ∧ f_UpRiverModel_from x J' = some (r, J2) ∧ am_i32 r ∧ sA (J2 66) J2 := by
  obtain ⟨h, q, e15⟩ := hr
  by_cases c0 : 0 ≤ x ∧ x ≤ 300
  · obtain ⟨r, J', K', w1, w2, w3⟩ := c_startArrival h q hk hA c0
    have cl : f_UpRiver_from b x J K = some (r, J', K') := by
      unfold f_UpRiver_from
      rw [c_isMinute hx]
      simp only [Option.bind_some, fl_32, if_true, fl_0]
      rw [if_neg (show ¬ ¬ (0 ≤ x ∧ x ≤ 300) from fun z => z c0), w1]
      rfl
    have f66 : J' 66 = J 66 := by funext j; exact frJ_UpRiver_from cl rfl
    have f15 : J' 65 15 = 0 := by rw [← e15]; exact frJ_UpRiver_from cl rfl
    obtain ⟨r', J2, z1, z2⟩ := m_startIn h f66 f15 (by omega) c0
    have er : r' = r := arr_eq z2 w2
    have ml : f_UpRiverModel_from x J' = some (r, J2) := by
      unfold f_UpRiverModel_from
      rw [m_isMinute hx]
      simp only [Option.bind_some, fl_32, if_true, fl_0]
      rw [if_neg (show ¬ ¬ (0 ≤ x ∧ x ≤ 300) from fun z => z c0), z1, er]
      rfl
    refine ⟨r, J', K', J2, cl, ml, arr_32 w2, ?_⟩
    rw [show J2 66 = J 66 by rw [← f66]; funext j; exact frJ_UpRiverModel_from ml rfl]
    exact sA_row w3 (by funext j; exact frJ_UpRiverModel_from ml rfl)
  · refine ⟨-1, J, K, J, ?_, ?_, by decide, hA⟩
    · unfold f_UpRiver_from
      rw [c_isMinute hx]
      simp only [Option.bind_some, fl_32, if_true, fl_0]
      rw [if_pos c0]
    · unfold f_UpRiverModel_from
      rw [m_isMinute hx]
      simp only [Option.bind_some, fl_32, if_true, fl_0]
      rw [if_pos c0]
/-! days -/
theorem c_day {b : Bool} {v : Nat → Int} (hv : rv_ok v) {J : am_J} {K : am_K} (q : rq (am_rv b) J v) (k : rK (am_rv b) K v) {lt : Int} (hlt : 0 ≤ lt ∧ lt ≤ 2000) : ∃ J1 J2 K2 K3 r J' K', f_Boat_lieAtStart 30 (am_rv b) 0 J = some J1 ∧ f_Search_begin (am_rv b) lt J1 K = some (J2, K2) ∧ f_Search_add 30 J2 K2 = some K3 ∧ J2 (am_rv b + 1) 6 = v 6 ∧ f_Search_arrive (am_rv b) 0 (v 6) J2 K3 = some (r, J', K') ∧ arrL (v 6) (startQ v lt 0) r ∧ rq (am_rv b) J' v ∧ rK (am_rv b) K' v := by
  have hm := hv.1.1
  have h6 := hv.1.2.2.2.2.2.2
  have h0 := rv_7 hv
  have ob := rv_o b
  obtain ⟨J1, t1, t2, t3, t4, t5, t6⟩ := lie_30 q (t := 0)
  have q1 : rq (am_rv b) J1 v := rq_cong q rfl fun a ha j => by rw [t6 a (by omega)]
  obtain ⟨J2, K2, b1, b2, b3, b4⟩ := c_begin ob (lt := lt) q1 k
  obtain ⟨K3, d1, d2, d3, d4⟩ := c_add (o1 := 30) hv ⟨by omega, by omega⟩ b2 (clr_Dc b3) (f := 0) (l := v 7) (b := 0) (t := 0) (by rw [b4 30 (by decide)]; exact t2) (by rw [b4 30 (by decide)]; exact t3) (by rw [b4 30 (by decide)]; exact t4) (by rw [b4 30 (by decide)]; exact t5) (by omega) (by omega) (Or.inl rfl) (by omega)
  have E3 : Eb (am_rv b) J2 K3 v lt (8 * v 0) 0 8 := by
    obtain ⟨q1, q2, q3⟩ := b2
    exact ⟨q1, rK_row q2 (d3 _ (by omega)), q3⟩
  obtain ⟨r, J', K', w1, w2⟩ := c_arrive ob hv (lt := lt) (g := 8 * v 0) (a := 0) (c := 8) ⟨by omega, by omega, by omega, by omega⟩ (by omega) (Q := startQ v lt 0) (L := v 6) (t := 0) (by omega) (by omega) E3 d2 (fun x hx => by
    rw [d4 x]
    constructor
    · rintro (z | z)
      · exact absurd z (clr_PhS b3 0 x)
      · exact ⟨z.1, z.2.1, z.2.2.2⟩
    · exact fun z => Or.inr ⟨z.1, z.2.1, by omega, z.2.2⟩)
  refine ⟨J1, J2, K2, K3, r, J', K', t1, b1, d1, E3.1.1 6 (by omega), w1, w2, rq_nw E3.1 (fun a j hw => frJ_Search_arrive w1 hw) rfl rfl, rK_nw E3.2.1 (fun a j hw => frK_Search_arrive w1 hw)⟩
theorem days_loop {b : Bool} {v : Nat → Int} (hv : rv_ok v) {x y z : Int} (hx : 1 ≤ x ∧ x ≤ 14) (hy : 0 ≤ y ∧ y ≤ 99) (hz : z = 0 ∨ z = 1) : ∀ (k n : Nat) (g w d : Int) (J : am_J) (K : am_K) (J2 : am_J), k < n → x - d = (k : Int) → 0 ≤ d → 0 ≤ g → g ≤ d → (w = -4 ∨ (0 ≤ w ∧ w ≤ d)) → rq (am_rv b) J v → rK (am_rv b) K v → J2 66 = v → ∃ r J' K' J2', f_UpRiver_days_L40 b n x y z g w d J K = some (r, J', K') ∧ f_UpRiverModel_days_L46 n x y z g w d J2 = some (r, J2') ∧ am_i32 r := by
  have h6 := hv.1.2.2.2.2.2.2
  intro k
  induction k with
  | zero =>
    intro n g w d J K J2 hn hk d0 g0 gd hw q kk e66
    obtain ⟨n, rfl⟩ : ∃ m, n = m + 1 := ⟨n - 1, by omega⟩
    rw [f_UpRiver_days_L40.eq_2, f_UpRiverModel_days_L46.eq_2, if_pos (show am_i32 x by omega), if_pos (show am_i32 d by omega), if_neg (show ¬ d < x by omega), if_pos (show am_i32 z by omega), if_pos (show am_i32 x by omega), if_pos (show am_i32 d by omega), if_neg (show ¬ d < x by omega), if_pos (show am_i32 z by omega)]
    rcases hz with rfl | rfl
    · exact ⟨g, _, _, _, rfl, rfl, by omega⟩
    · exact ⟨w, _, _, _, rfl, rfl, by omega⟩
  | succ k ih =>
    intro n g w d J K J2 hn hk d0 g0 gd hw q kk e66
    obtain ⟨n, rfl⟩ : ∃ m, n = m + 1 := ⟨n - 1, by omega⟩
    have hmul : 0 ≤ d * y ∧ d * y ≤ 1386 := by
      have a1 : 0 ≤ d * y := Int.mul_nonneg d0 hy.1
      have a2 : d * y ≤ 14 * 99 := Int.mul_le_mul (by omega) (by omega) hy.1 (by decide)
      omega
    obtain ⟨J1, J3, K3, K4, r, J', K', a1, a2, a3, a4, a5, a6, a7, a8⟩ := c_day hv q kk (lt := d * y) (by omega)
    obtain ⟨r', J2', z1, z2⟩ := m_startIn hv (J := am_up J2 65 15 (d * y)) (by rw [up_row (by decide)]; exact e66) (up_at _ _ _ _) (by omega) (t := 0) (by omega)
    have f66 : J2' 66 = v := by rw [← e66]; funext j; exact (frJ_UpRiverModel_startIn z1 rfl).trans (by rw [up_row (by decide)])
    have key : r ≠ -4 ↔ r' ≠ -4 ∧ r' ≤ v 6 := by
      rw [z2.2 (v 6) (by omega), ← a6.2 (v 6) (by omega)]
      have := a6.1
      omega
    have r32 : am_i32 r := by have := a6.1; omega
    have r32' := arr_32 z2
    rw [f_UpRiver_days_L40.eq_2, f_UpRiverModel_days_L46.eq_2, if_pos (show am_i32 x by omega), if_pos (show am_i32 d by omega), if_pos (show d < x by omega), a1, if_pos (show am_i32 x by omega), if_pos (show am_i32 d by omega), if_pos (show d < x by omega), z1]
    simp only [Option.bind_some]
    rw [a2]
    simp only [Option.bind_some]
    rw [a3, a4]
    simp only [Option.bind_some]
    rw [a5]
    simp only [Option.bind_some]
    rw [if_pos r32, if_pos r32', f66, if_pos (show am_i32 (v 6) by omega)]
    have L91 : ∀ s, (s = 0 ∨ s = 1) → f_UpRiverModel_days_L91 (f_UpRiverModel_days_L46 n) x y z g w d s J2' = f_UpRiverModel_days_L46 n x y z (g + s) (if s = 0 then w else if w = -4 then d else w) (d + 1) J2' := by
      intro s hs
      unfold f_UpRiverModel_days_L91 f_UpRiverModel_days_L112
      rw [if_pos (show am_i32 s by omega), m_flag hs]
      simp only [Option.bind_some]
      by_cases e : s = 0
      · rw [if_pos e, if_pos e]
      · rw [if_neg e, if_neg e, if_pos (show am_i32 w by omega)]
        by_cases e2 : w = -4
        · rw [if_pos e2, if_pos e2]
        · rw [if_neg e2, if_neg e2]
    rw [L91 0 (Or.inl rfl), L91 1 (Or.inr rfl), if_pos (show (0 : Int) = 0 from rfl), if_neg (show ¬ (1 : Int) = 0 by decide), Int.add_zero]
    by_cases c0 : r = -4
    · have nk : ¬ (r' ≠ -4 ∧ r' ≤ v 6) := fun nn => (key.mpr nn) c0
      obtain ⟨p, A, B, C, y1, y2, y3⟩ := ih n g w (d + 1) J' K' J2' (by omega) (by omega) (by omega) g0 (by omega) (by omega) a7 a8 f66
      refine ⟨p, A, B, C, by rw [if_pos c0]; exact y1, ?_, y3⟩
      by_cases c1 : r' = -4
      · rw [if_pos c1]; exact y2
      · rw [if_neg c1, if_pos (show v 6 < r' by omega)]; exact y2
    · obtain ⟨n1, n2⟩ := key.mp c0
      rw [if_neg c0, if_neg n1, if_neg (show ¬ v 6 < r' by omega), if_pos (show am_i32 w by omega)]
      by_cases c1 : w = -4
      · rw [if_pos c1, if_pos c1]
        exact ih n (g + 1) d (d + 1) J' K' J2' (by omega) (by omega) (by omega) (by omega) (by omega) (by omega) a7 a8 f66
      · rw [if_neg c1, if_neg c1]
        exact ih n (g + 1) w (d + 1) J' K' J2' (by omega) (by omega) (by omega) (by omega) (by omega) (by omega) a7 a8 f66
theorem e_days {b : Bool} {J : am_J} {K : am_K} {x y z : Int} (hr : sR b J) (hk : rK (am_rv b) K (J 66)) (hx : am_i32 x) (hy : am_i32 y) (hz : am_i32 z) : ∃ r J' K' J2, f_UpRiver_days b x y z J K = some (r, J', K') ∧ f_UpRiverModel_days x y z J' = some (r, J2) ∧ am_i32 r ∧ J2 65 15 = 0 := by
  obtain ⟨h, q, e15⟩ := hr
  have end0 : ∀ (n : Nat) (x1 x2 x3 x4 x5 x6 : Int) (J1 : am_J) (r : Int) (J2 : am_J), f_UpRiverModel_days_L46 n x1 x2 x3 x4 x5 x6 J1 = some (r, J2) → J2 65 15 = 0 := by
    intro n
    induction n with
    | zero => intro x1 x2 x3 x4 x5 x6 J1 r J2 u; cases u
    | succ n ih =>
      intro x1 x2 x3 x4 x5 x6 J1 r J2 u
      have L91 : ∀ (s : Int) (J3 : am_J), f_UpRiverModel_days_L91 (f_UpRiverModel_days_L46 n) x1 x2 x3 x4 x5 x6 s J3 = some (r, J2) → J2 65 15 = 0 := by
        intro s J3 w
        have L112 : ∀ (s0 : Int), f_UpRiverModel_days_L112 (f_UpRiverModel_days_L46 n) x1 x2 x3 x4 x6 s s0 J3 = some (r, J2) → J2 65 15 = 0 := by
          intro s0 w2
          unfold f_UpRiverModel_days_L112 at w2
          cases hf : f_UpRiverModel_flag s with
          | none => rw [hf] at w2; cases w2
          | some p => rw [hf] at w2; exact ih _ _ _ _ _ _ _ _ _ w2
        unfold f_UpRiverModel_days_L91 at w
        obtain ⟨-, w⟩ := am_if_some w
        rcases am_ite w with ⟨-, w⟩ | ⟨-, w⟩
        · exact L112 _ w
        · obtain ⟨-, w⟩ := am_if_some w
          rcases am_ite w with ⟨-, w⟩ | ⟨-, w⟩
          · exact L112 _ w
          · exact L112 _ w
      rw [f_UpRiverModel_days_L46.eq_2] at u
      obtain ⟨-, u⟩ := am_if_some u
      obtain ⟨-, u⟩ := am_if_some u
      rcases am_ite u with ⟨-, u⟩ | ⟨-, u⟩
      · cases hf : f_UpRiverModel_startIn 0 (am_up J1 65 15 (x6 * x2)) with
        | none => rw [hf] at u; cases u
        | some p =>
          rw [hf] at u
          simp only [Option.bind_some] at u
          obtain ⟨-, u⟩ := am_if_some u
          rcases am_ite u with ⟨-, u⟩ | ⟨-, u⟩
          · exact L91 _ _ u
          · obtain ⟨-, u⟩ := am_if_some u
            rcases am_ite u with ⟨-, u⟩ | ⟨-, u⟩
            · exact L91 _ _ u
            · exact L91 _ _ u
      · obtain ⟨-, u⟩ := am_if_some u
        rcases am_ite u with ⟨-, u⟩ | ⟨-, u⟩
        · obtain ⟨rfl, rfl⟩ := Prod.mk.inj (Option.some.inj u)
          exact up_at _ _ _ _
        · obtain ⟨rfl, rfl⟩ := Prod.mk.inj (Option.some.inj u)
          exact up_at _ _ _ _
  have mo : ∀ J1 : am_J, f_UpRiverModel_days x y z J1 = if 1 ≤ x ∧ x ≤ 14 then (if 0 ≤ y ∧ y ≤ 99 then (if 0 ≤ z ∧ z ≤ 1 then f_UpRiverModel_days_L46 am_FU x y z 0 (-4) 0 J1 else some (-1, J1)) else some (-1, J1)) else some (-1, J1) := by
    intro J1
    unfold f_UpRiverModel_days
    rw [show (1 : Int64) = am_i2l 1 from rfl, show (14 : Int64) = am_i2l 14 from rfl, show (0 : Int64) = am_i2l 0 from rfl, show (99 : Int64) = am_i2l 99 from rfl, m_in hx (by decide) (by decide), m_in hy (by decide) (by decide), m_in hz (by decide) (by decide)]
    simp only [Option.bind_some, fl_32, if_true, fl_0]
    by_cases c0 : 1 ≤ x ∧ x ≤ 14
    · rw [if_neg (show ¬ ¬ (1 ≤ x ∧ x ≤ 14) from fun w => w c0), if_pos c0]
      by_cases c1 : 0 ≤ y ∧ y ≤ 99
      · rw [if_neg (show ¬ ¬ (0 ≤ y ∧ y ≤ 99) from fun w => w c1), if_pos c1]
        by_cases c2 : 0 ≤ z ∧ z ≤ 1
        · rw [if_neg (show ¬ ¬ (0 ≤ z ∧ z ≤ 1) from fun w => w c2), if_pos c2]
        · rw [if_pos c2, if_neg c2]
      · rw [if_pos c1, if_neg c1]
    · rw [if_pos c0, if_neg c0]
  have co : f_UpRiver_days b x y z J K = if 1 ≤ x ∧ x ≤ 14 then (if 0 ≤ y ∧ y ≤ 99 then (if 0 ≤ z ∧ z ≤ 1 then f_UpRiver_days_L40 b am_FU x y z 0 (-4) 0 J K else some (-1, J, K)) else some (-1, J, K)) else some (-1, J, K) := by
    unfold f_UpRiver_days
    rw [if_pos hx, if_pos hy, c_isYesOrNo hz]
    simp only [Option.bind_some, fl_32, if_true, fl_0]
    by_cases c0 : 1 ≤ x ∧ x ≤ 14
    · rw [if_neg (show ¬ x < 1 by omega), if_neg (show ¬ 14 < x by omega), if_pos c0]
      by_cases c1 : 0 ≤ y ∧ y ≤ 99
      · rw [if_neg (show ¬ y < 0 by omega), if_neg (show ¬ 99 < y by omega), if_pos c1]
        by_cases c2 : 0 ≤ z ∧ z ≤ 1
        · rw [if_neg (show ¬ ¬ (0 ≤ z ∧ z ≤ 1) from fun w => w c2), if_pos c2]
        · rw [if_pos c2, if_neg c2]
      · rw [if_neg c1]
        by_cases c3 : y < 0
        · rw [if_pos c3]
        · rw [if_neg c3, if_pos (show 99 < y by omega)]
    · rw [if_neg c0]
      by_cases c3 : x < 1
      · rw [if_pos c3]
      · rw [if_neg c3, if_pos (show 14 < x by omega)]
  by_cases c0 : 1 ≤ x ∧ x ≤ 14
  · by_cases c1 : 0 ≤ y ∧ y ≤ 99
    · by_cases c2 : 0 ≤ z ∧ z ≤ 1
      · rw [if_pos c0, if_pos c1, if_pos c2] at co
        have run : ∀ J2 : am_J, J2 66 = J 66 → ∃ r J' K' J2', f_UpRiver_days_L40 b am_FU x y z 0 (-4) 0 J K = some (r, J', K') ∧ f_UpRiverModel_days_L46 am_FU x y z 0 (-4) 0 J2 = some (r, J2') ∧ am_i32 r :=
          fun J2 e => days_loop h c0 c1 (by omega) x.toNat am_FU 0 (-4) 0 J K J2 (by have : am_FU = 20000 := rfl; omega) (by omega) (by omega) (by omega) (by omega) (Or.inl rfl) q hk e
        obtain ⟨r, J', K', -, u1, -⟩ := run J rfl
        have f66 : J' 66 = J 66 := by funext j; exact frJ_UpRiver_days_L40 _ _ _ _ _ _ _ _ _ _ u1 rfl
        obtain ⟨r', J'', K'', J2, w1, w2, w3⟩ := run J' f66
        have e := Option.some.inj (u1.symm.trans w1)
        obtain ⟨e1, e2⟩ := Prod.mk.inj e
        obtain ⟨e2, e3⟩ := Prod.mk.inj e2
        refine ⟨r, J', K', J2, by rw [co]; exact u1, by rw [mo, if_pos c0, if_pos c1, if_pos c2, e1]; exact w2, by rw [e1]; exact w3, end0 _ _ _ _ _ _ _ _ _ _ w2⟩
      · rw [if_pos c0, if_pos c1, if_neg c2] at co
        exact ⟨-1, J, K, J, co, by rw [mo, if_pos c0, if_pos c1, if_neg c2], by decide, e15⟩
    · rw [if_pos c0, if_neg c1] at co
      exact ⟨-1, J, K, J, co, by rw [mo, if_pos c0, if_neg c1], by decide, e15⟩
  · rw [if_neg c0] at co
    exact ⟨-1, J, K, J, co, by rw [mo, if_neg c0], by decide, e15⟩
