/-! first -/
theorem nw_rng {W : List (Nat × Option Nat)} (lo hi : Nat) (h : W.all (fun q => decide (q.1 < lo) || decide (hi < q.1)) = true) {a j : Nat} (h1 : lo ≤ a) (h2 : a ≤ hi) : am_nw W a j = true := by
  refine List.all_eq_true.mpr fun q hq => ?_
  have h3 := List.all_eq_true.mp h q hq
  have e : Nat.beq q.1 a = false := by
    cases e : Nat.beq q.1 a with
    | false => rfl
    | true =>
      have e2 := Nat.eq_of_beq_eq_true e
      rw [Bool.or_eq_true, decide_eq_true_eq, decide_eq_true_eq] at h3
      omega
  rw [e]
  rfl
theorem rq_nw {b : Bool} {J J' : am_J} {v : Nat → Int} {W : List (Nat × Option Nat)} (q : rq (am_rv b) J v) (f : ∀ a j, am_nw W a j = true → J' a j = J a j) (h1 : W.all (fun q => decide (q.1 < 7) || decide (15 < q.1)) = true) (h2 : W.all (fun q => decide (q.1 < 33) || decide (41 < q.1)) = true) : rq (am_rv b) J' v := by
  refine rq_cong q rfl fun a ha j => ?_
  rcases ha with ha | ha
  · exact f a j (nw_rng 7 15 h1 ha.1 ha.2)
  · exact f a j (nw_rng 33 41 h2 ha.1 ha.2)
theorem rK_nw {b : Bool} {K K' : am_K} {v : Nat → Int} (k : rK (am_rv b) K v) (f : ∀ a j, am_nw [(27, none)] a j = true → K' a j = K a j) : rK (am_rv b) K' v :=
  rK_row k (by funext j; exact f _ _ (nw_row (by have := rv_o b; show am_rv b + 10 ≠ 27; omega)))
def Av (v : Nat → Int) (f l d t r : Int) : Prop := (f < 8 * v 0 → arr (fun x => 0 ≤ l ∧ l ≤ 8 ∧ Cn v 0 (8 * v 0) 0 8 x t f l d) r) ∧ (8 * v 0 ≤ f → r = t)
theorem Av_eq {v : Nat → Int} {f l d t r r' : Int} (h : Av v f l d t r) (h' : Av v f l d t r') : r = r' := by
  by_cases c : f < 8 * v 0
  · exact arr_eq (h.1 c) (h'.1 c)
  · rw [h.2 (by omega), h'.2 (by omega)]
theorem Av_32 {v : Nat → Int} {f l d t r : Int} (h : Av v f l d t r) (ht : am_i32 t) : am_i32 r := by
  by_cases c : f < 8 * v 0
  · exact arr_32 (h.1 c)
  · rw [h.2 (by omega)]; exact ht
theorem c_trialArrival {b : Bool} {v : Nat → Int} (hv : rv_ok v) {J : am_J} {K : am_K} (q : rq (am_rv b) J v) (k : rK (am_rv b) K v) {f l d t : Int} (e0 : J 30 0 = f) (e1 : J 30 1 = l) (e2 : J 30 2 = d) (e3 : J 30 3 = t) (hf : 0 ≤ f ∧ f ≤ 1000) (hl : 0 ≤ l ∧ l ≤ 8) (hd : d = 0 ∨ d = 1) (ht : 0 ≤ t ∧ t ≤ 300) : ∃ r J' K', f_UpRiver_trialArrival b J K = some (r, J', K') ∧ Av v f l d t r := by
  unfold f_UpRiver_trialArrival
  rw [c_isUp hv q (by rw [e0]; omega), e0, e3]
  simp only [Option.bind_some, fl_32, if_true, fl_0]
  by_cases c0 : 8 * v 0 ≤ f
  · rw [if_neg (show ¬ ¬ (8 * v 0 ≤ f) from fun z => z c0)]
    exact ⟨t, J, K, rfl, fun z => by omega, fun _ => rfl⟩
  · obtain ⟨r, J', K', w1, w2⟩ := c_arrivalOf hv q k (o1 := 30) (by decide) (a := 0) (c := 8) e0 e1 e2 e3 (by omega) hl hd ht (by omega) (by omega) (by omega)
    rw [if_pos c0, w1]
    exact ⟨r, J', K', rfl, fun _ => w2, fun z => absurd z c0⟩
theorem m_leadsBy {v : Nat → Int} (hv : rv_ok v) {J : am_J} (e66 : J 66 = v) (e15 : J 65 15 = 0) {f l d t x : Int} (h : toAt J f l d t) (hf : 0 ≤ f ∧ f ≤ 1000) (hl : 0 ≤ l ∧ l ≤ 8) (hd : d = 0 ∨ d = 1) (ht : 0 ≤ t ∧ t ≤ 1000) (hx : am_i32 x) : ∃ s J', f_UpRiverModel_leadsBy x J = some (s, J') ∧ ((s = 1 ∧ t ≤ 300 ∧ Av v f l d t x) ∨ (s = 0 ∧ ¬ (t ≤ 300 ∧ Av v f l d t x))) := by
  obtain ⟨a1, a2, a3, a4⟩ := h
  unfold f_UpRiverModel_leadsBy
  rw [a1, a2, a3, a4, if_pos (show am_i32 t by omega)]
  by_cases c0 : 300 < t
  · rw [if_pos c0]
    exact ⟨0, J, rfl, Or.inr ⟨rfl, by omega⟩⟩
  · obtain ⟨r, J', z1, z2, z3⟩ := m_soonestFrom (J := J) (f := f) (l := l) (b := d) (t := t) (a := 0) (c := 8) (by rw [e66]; exact hv) (by omega) hf hl hd (by omega) (by omega) (by omega)
    rw [e66, e15] at z2
    rw [e66] at z3
    have av : Av v f l d t r := ⟨z2, z3⟩
    rw [if_neg c0, z1]
    simp only [Option.bind_some]
    rw [if_pos hx, if_pos (Av_32 av (by omega))]
    by_cases c1 : r = x
    · rw [if_pos c1]
      exact ⟨1, J', rfl, Or.inl ⟨rfl, by omega, by rw [← c1]; exact av⟩⟩
    · rw [if_neg c1]
      exact ⟨0, J', rfl, Or.inr ⟨rfl, fun z => c1 (Av_eq av z.2)⟩⟩
abbrev fsA (v : Nat → Int) (f l d t x : Int) : Prop := rAf v 0 (f / 8) l t ∧ sOk v 0 f l d t ∧ Av v (sF v 0 f l d t) (sL v 0 f l d t) d (t + 1) x
abbrev fsB (v : Nat → Int) (f l d t x : Int) : Prop := t + v 5 ≤ 300 ∧ rAf v 0 (f / 8) l t ∧ tOk v 0 f l t ∧ Av v (tF v 0 f l t) l (1 - d) (t + v 5) x
theorem take_30 {J : am_J} : ∃ J', f_Boat_take 30 18 J = some J' ∧ J' 30 0 = J 18 0 ∧ J' 30 1 = J 18 1 ∧ J' 30 2 = J 18 2 ∧ J' 30 3 = J 18 3 ∧ (∀ a, a ≠ 30 → J' a = J a) := by
  unfold f_Boat_take f_Boat_lieAt
  simp only [Option.bind_some]
  refine ⟨_, rfl, rfl, rfl, rfl, rfl, fun a ha => ?_⟩
  rw [up_row ha, up_row ha, up_row ha, up_row ha, up_row ha, up_row ha, up_row ha, up_row ha]
theorem c_first_L72 {b : Bool} {v : Nat → Int} (hv : rv_ok v) {J : am_J} {K : am_K} (q : rq (am_rv b) J v) (k : rK (am_rv b) K v) (hb : bR J) (hu : J 18 0 < 8 * v 0) {x : Int} (hx : am_i32 x) : ∃ r J' K', f_UpRiver_first_L72 b x J K = some (r, J', K') ∧ ((fsB v (J 18 0) (J 18 1) (J 18 2) (J 18 3) x ∧ r = 1) ∨ (¬ fsB v (J 18 0) (J 18 1) (J 18 2) (J 18 3) x ∧ r = 2)) := by
  obtain ⟨r0, r1, r2, r3, r4, r5, r6⟩ := hb
  have h5 := hv.1.2.2.2.2.2.1
  obtain ⟨J1, t1, t2, t3, t4, t5, t6⟩ := take_30 (J := J)
  have q1 : rq (am_rv b) J1 v := rq_cong q rfl fun a ha j => by rw [t6 a (by omega)]
  unfold f_UpRiver_first_L72
  rw [t1]
  simp only [Option.bind_some]
  rw [c_tryTurn hv q1 (by omega) (by omega) (by omega) (by omega) (by omega) (by omega), t2, t3, t5]
  simp only [Option.bind_some]
  by_cases ok : J 18 3 + v 5 ≤ 300 ∧ rAf v 0 (J 18 0 / 8) (J 18 1) (J 18 3) ∧ tOk v 0 (J 18 0) (J 18 1) (J 18 3)
  · rw [if_pos ok, if_pos (show am_i32 1 by decide), if_neg (show ¬ (1 : Int) = 0 by decide)]
    have hb := tF_bd hv r0.1 0 (J 18 1) (J 18 3)
    have q2 : rq (am_rv b) (tTo v 30 J1) v := rq_cong q1 rfl fun a ha j => by rw [tTo_r (by omega)]
    obtain ⟨r, J2, K2, w1, w2⟩ := c_trialArrival hv q2 k (f := tF v 0 (J 18 0) (J 18 1) (J 18 3)) (l := J 18 1) (d := 1 - J 18 2) (t := J 18 3 + v 5) (by rw [tTo_0, t2, t3, t5]) (by rw [tTo_1, t3]) (by rw [tTo_2, t4]) (by rw [tTo_3, t5]) (by omega) r1 (by omega) (by omega)
    rw [w1]
    simp only [Option.bind_some]
    rw [if_pos hx, if_pos (Av_32 w2 (by omega))]
    by_cases c1 : r = x
    · rw [if_pos c1]
      exact ⟨1, J2, K2, rfl, Or.inl ⟨⟨ok.1, ok.2.1, ok.2.2, by rw [← c1]; exact w2⟩, rfl⟩⟩
    · rw [if_neg c1]
      exact ⟨2, J2, K2, rfl, Or.inr ⟨fun z => c1 (Av_eq w2 z.2.2.2), rfl⟩⟩
  · rw [if_neg ok, if_pos (show am_i32 0 by decide), if_pos (show (0 : Int) = 0 from rfl)]
    exact ⟨2, _, K, rfl, Or.inr ⟨fun z => ok ⟨z.1, z.2.1, z.2.2.1⟩, rfl⟩⟩
theorem m_first_L77 {v : Nat → Int} (hv : rv_ok v) {J : am_J} (e66 : J 66 = v) (e15 : J 65 15 = 0) {f l d t s x : Int} (e0 : J 68 1 = f) (e1 : J 68 2 = l) (e2 : J 68 3 = d) (e3 : J 68 0 = t) (hf : 0 ≤ f ∧ f < 8 * v 0) (hl : 0 ≤ l ∧ l ≤ 8) (hd : d = 0 ∨ d = 1) (ht : 0 ≤ t ∧ t ≤ 300) (hx : am_i32 x) (hs : s = fl (rAf v 0 (f / 8) l t)) : ∃ r J', f_UpRiverModel_first_L77 x s J = some (r, J') ∧ ((fsB v f l d t x ∧ r = 1) ∨ (¬ fsB v f l d t x ∧ r = 2)) := by
  have hm := hv.1.1
  have h5 := hv.1.2.2.2.2.2.1
  unfold f_UpRiverModel_first_L77
  rw [hs, e0, e1, e2, e3]
  simp only [fl_32, if_true, fl_0]
  by_cases af : rAf v 0 (f / 8) l t
  · rw [if_neg (show ¬ ¬ rAf v 0 (f / 8) l t from fun z => z af)]
    obtain ⟨J1, s1, s2⟩ := m_turns (J := J) (by rw [e66]; exact hv) (f := f) (l := l) (b := d) (t := t) hf.1 (by rw [e66]; exact hf.2) hl.1 hl.2 (by rw [e15]; omega)
    rw [e66, e15] at s1 s2
    rw [s1]
    simp only [Option.bind_some, fl_32, if_true, fl_0]
    by_cases ok : tOk v 0 f l t
    · have hb := tF_bd hv hf.1 0 l t
      obtain ⟨p, J2, w1, w2⟩ := m_leadsBy hv (J := J1) (by rw [← e66]; funext j; exact frJ_UpRiverModel_turns s1 rfl) (by rw [← e15]; exact frJ_UpRiverModel_turns s1 rfl) s2 (by omega) hl (by omega) (by omega) hx
      rw [if_neg (show ¬ ¬ tOk v 0 f l t from fun z => z ok), w1]
      simp only [Option.bind_some]
      rcases w2 with ⟨rfl, w3, w4⟩ | ⟨rfl, w3⟩
      · rw [if_pos (show am_i32 1 by decide), if_neg (show ¬ (1 : Int) = 0 by decide)]
        exact ⟨1, J2, rfl, Or.inl ⟨⟨w3, af, ok, w4⟩, rfl⟩⟩
      · rw [if_pos (show am_i32 0 by decide), if_pos (show (0 : Int) = 0 from rfl)]
        exact ⟨2, J2, rfl, Or.inr ⟨fun z => w3 ⟨z.1, z.2.2.2⟩, rfl⟩⟩
    · rw [if_pos ok]
      exact ⟨2, J1, rfl, Or.inr ⟨fun z => ok z.2.2.1, rfl⟩⟩
  · rw [if_pos af]
    exact ⟨2, J, rfl, Or.inr ⟨fun z => af z.2.1, rfl⟩⟩
theorem e_first {b : Bool} {J : am_J} {K : am_K} (hr : sR b J) (hk : rK (am_rv b) K (J 66)) (hb : sB J) : ∃ r J' K' J2, f_UpRiver_first b J K = some (r, J', K') ∧ f_UpRiverModel_first J' = some (r, J2) ∧ am_i32 r := by
  obtain ⟨h, q, e15⟩ := hr
  have hv := h.1.1
  have h5 := h.1.2.2.2.2.2.1
  obtain ⟨bR1, m0, m1, m2, m3, m4, m5⟩ := hb
  have bR2 := bR1
  obtain ⟨r0, r1, r2, r3, r4, r5, r6⟩ := bR2
  by_cases up : 8 * J 66 0 ≤ J 18 0
  · refine ⟨-2, J, K, J, ?_, ?_, by decide⟩
    · unfold f_UpRiver_first
      rw [c_isUp h q (by omega)]
      simp only [Option.bind_some, fl_32, if_true, fl_0]
      rw [if_neg (show ¬ ¬ (8 * J 66 0 ≤ J 18 0) from fun z => z up)]
    · unfold f_UpRiverModel_first
      rw [m_isUp h (by omega)]
      simp only [Option.bind_some, fl_32, if_true, fl_0]
      rw [if_neg (show ¬ ¬ (8 * J 66 0 ≤ J 68 1) from fun z => z (by omega))]
  obtain ⟨r, J1, K1, w1, w2⟩ := c_arrivalOf h q hk (o1 := 18) (by decide) (a := 0) (c := 8) rfl rfl rfl rfl (by omega) r1 r2 r3 (by omega) (by omega) (by omega)
  have r32 := arr_32 w2
  have due : r ≠ -4 → J 18 3 < 300 := by
    intro n
    have := w2.1
    exact Int.lt_of_lt_of_le (Cn_lt h5.1 ((w2.2 r (by omega)).mp ⟨n, by omega⟩).2.2) (by omega)
  -- the class
  have cls : ∃ s J' K', f_UpRiver_first b J K = some (s, J', K') ∧ ((r = -4 ∧ s = -4) ∨ (r ≠ -4 ∧ ((fsA (J 66) (J 18 0) (J 18 1) (J 18 2) (J 18 3) r ∧ s = 0) ∨ (¬ fsA (J 66) (J 18 0) (J 18 1) (J 18 2) (J 18 3) r ∧ ((fsB (J 66) (J 18 0) (J 18 1) (J 18 2) (J 18 3) r ∧ s = 1) ∨ (¬ fsB (J 66) (J 18 0) (J 18 1) (J 18 2) (J 18 3) r ∧ s = 2)))))) := by
    unfold f_UpRiver_first
    rw [c_isUp h q (by omega)]
    simp only [Option.bind_some, fl_32, if_true, fl_0]
    rw [if_pos up, w1]
    simp only [Option.bind_some]
    rw [if_pos r32]
    by_cases c0 : r = -4
    · rw [if_pos c0]
      exact ⟨_, _, _, rfl, Or.inl ⟨c0, rfl⟩⟩
    rw [if_neg c0]
    have q1 : rq (am_rv b) J1 (J 66) := rq_nw q (fun a j hw => frJ_UpRiver_arrivalOf w1 hw) rfl rfl
    have k1 : rK (am_rv b) K1 (J 66) := rK_nw hk (fun a j hw => frK_UpRiver_arrivalOf w1 hw)
    have e18 : J1 18 = J 18 := by funext j; exact frJ_UpRiver_arrivalOf w1 rfl
    obtain ⟨J2, t1, t2, t3, t4, t5, t6⟩ := take_30 (J := J1)
    rw [e18] at t2 t3 t4 t5
    have q2 : rq (am_rv b) J2 (J 66) := rq_cong q1 rfl fun a ha j => by rw [t6 a (by omega)]
    have e18' : J2 18 = J 18 := by rw [t6 18 (by decide), e18]
    rw [t1]
    simp only [Option.bind_some]
    rw [c_trySail h q2 (by omega) (by omega) (by omega) (by omega) (by omega) (by omega) (by omega), t2, t3, t4, t5]
    simp only [Option.bind_some]
    by_cases ok : J 18 3 < 300 ∧ rAf (J 66) 0 (J 18 0 / 8) (J 18 1) (J 18 3) ∧ sOk (J 66) 0 (J 18 0) (J 18 1) (J 18 2) (J 18 3)
    · rw [if_pos ok, if_pos (show am_i32 1 by decide), if_neg (show ¬ (1 : Int) = 0 by decide)]
      have hbd := sF_bd h r0.1 (by omega) 0 (J 18 1) (J 18 2) (J 18 3)
      have hbl := sL_lane h r0.1 (by omega) r1.1 r1.2 ok.2.2
      have q3 : rq (am_rv b) (sTo (J 66) 30 J2) (J 66) := rq_cong q2 rfl fun a ha j => by rw [sTo_r (by omega)]
      obtain ⟨p, J3, K3, z1, z2⟩ := c_trialArrival h q3 k1 (f := sF (J 66) 0 (J 18 0) (J 18 1) (J 18 2) (J 18 3)) (l := sL (J 66) 0 (J 18 0) (J 18 1) (J 18 2) (J 18 3)) (d := J 18 2) (t := J 18 3 + 1) (by rw [sTo_0, t2, t3, t4, t5]) (by rw [sTo_1, t2, t3, t4, t5]) (by rw [sTo_2, t4]) (by rw [sTo_3, t5]) (by omega) hbl r2 (by omega)
      rw [z1]
      simp only [Option.bind_some]
      rw [if_pos (Av_32 z2 (by omega))]
      by_cases c1 : p = r
      · rw [if_pos c1]
        exact ⟨_, _, _, rfl, Or.inr ⟨c0, Or.inl ⟨⟨ok.2.1, ok.2.2, by rw [← c1]; exact z2⟩, rfl⟩⟩⟩
      · rw [if_neg c1]
        have e18'' : J3 18 = J 18 := by
          rw [← e18']
          funext j
          exact (frJ_UpRiver_trialArrival z1 rfl).trans (by rw [sTo_r (by decide)])
        obtain ⟨s, J', K', y1, y2⟩ := c_first_L72 (b := b) h (J := J3) (K := K3) (rq_nw q3 (fun a j hw => frJ_UpRiver_trialArrival z1 hw) rfl rfl) (rK_nw k1 (fun a j hw => frK_UpRiver_trialArrival z1 hw)) (by unfold bR; rw [e18'']; exact bR1) (by rw [e18'']; omega) r32
        rw [e18''] at y2
        exact ⟨s, J', K', y1, Or.inr ⟨c0, Or.inr ⟨fun z => c1 (Av_eq z2 z.2.2), y2⟩⟩⟩
    · rw [if_neg ok, if_pos (show am_i32 0 by decide), if_pos (show (0 : Int) = 0 from rfl)]
      obtain ⟨s, J', K', y1, y2⟩ := c_first_L72 (b := b) h (J := J2) (K := K1) q2 k1 (by unfold bR; rw [e18']; exact bR1) (by rw [e18']; omega) r32
      rw [e18'] at y2
      exact ⟨s, J', K', y1, Or.inr ⟨c0, Or.inr ⟨fun z => ok ⟨due c0, z.1, z.2.1⟩, y2⟩⟩⟩
  obtain ⟨s, J', K', u1, u2⟩ := cls
  have f66 : J' 66 = J 66 := by funext j; exact frJ_UpRiver_first u1 rfl
  have f15 : J' 65 15 = 0 := by rw [← e15]; exact frJ_UpRiver_first u1 rfl
  have f68 : ∀ j, J' 68 j = J 68 j := fun j => frJ_UpRiver_first u1 rfl
  -- the reference
  have mdl : ∃ s' J2, f_UpRiverModel_first J' = some (s', J2) ∧ ((r = -4 ∧ s' = -4) ∨ (r ≠ -4 ∧ ((fsA (J 66) (J 18 0) (J 18 1) (J 18 2) (J 18 3) r ∧ s' = 0) ∨ (¬ fsA (J 66) (J 18 0) (J 18 1) (J 18 2) (J 18 3) r ∧ ((fsB (J 66) (J 18 0) (J 18 1) (J 18 2) (J 18 3) r ∧ s' = 1) ∨ (¬ fsB (J 66) (J 18 0) (J 18 1) (J 18 2) (J 18 3) r ∧ s' = 2)))))) := by
    obtain ⟨r', J2, z1, z2, -⟩ := m_soonestFrom (J := J') (f := J 68 1) (l := J 68 2) (b := J 68 3) (t := J 68 0) (a := 0) (c := 8) (by rw [f66]; exact h) (by omega) (by omega) (by omega) (by omega) (by omega) (by omega) (by omega)
    rw [f66, f15, ← m0, ← m1, ← m2, ← m3] at z2
    have er : r' = r := arr_eq (z2 (by omega)) w2
    rw [er] at z1
    have g66 : J2 66 = J 66 := by rw [← f66]; funext j; exact frJ_UpRiverModel_soonestFrom z1 rfl
    have g15 : J2 65 15 = 0 := by rw [← f15]; exact frJ_UpRiverModel_soonestFrom z1 rfl
    have g68 : ∀ j, J2 68 j = J 68 j := fun j => (frJ_UpRiverModel_soonestFrom z1 rfl).trans (f68 j)
    unfold f_UpRiverModel_first
    rw [m_isUp (by rw [f66]; exact h) (by rw [f68]; omega), f66, f68]
    simp only [Option.bind_some, fl_32, if_true, fl_0]
    rw [if_pos (show ¬ (8 * J 66 0 ≤ J 68 1) by omega)]
    unfold f_UpRiverModel_soonestNow
    rw [f68, f68, f68, f68, z1]
    simp only [Option.bind_some]
    rw [if_pos r32]
    by_cases c0 : r = -4
    · rw [if_pos c0]
      exact ⟨_, _, rfl, Or.inl ⟨c0, rfl⟩⟩
    rw [if_neg c0, m_isFloating (by rw [g66]; exact h) (by rw [g68]; omega) (by rw [g68]; omega) (by rw [g68]; omega) (by rw [g68, g15]; omega), g68, g68, g68, g68, g66, g15, ← m0, ← m1, ← m2, ← m3]
    simp only [Option.bind_some]
    have ef : fl (8 * J 66 0 ≤ J 18 0 ∨ rAf (J 66) 0 (J 18 0 / 8) (J 18 1) (J 18 3)) = fl (rAf (J 66) 0 (J 18 0 / 8) (J 18 1) (J 18 3)) := fl_c ⟨fun z => by rcases z with z | z; exact absurd z up; exact z, Or.inr⟩
    rw [ef]
    simp only [fl_32, if_true, fl_0]
    have g77 : ∀ J3 : am_J, J3 66 = J 66 → J3 65 15 = 0 → (∀ j, J3 68 j = J 68 j) → ∃ s' J4, f_UpRiverModel_first_L77 r (fl (rAf (J 66) 0 (J 18 0 / 8) (J 18 1) (J 18 3))) J3 = some (s', J4) ∧ ((fsB (J 66) (J 18 0) (J 18 1) (J 18 2) (J 18 3) r ∧ s' = 1) ∨ (¬ fsB (J 66) (J 18 0) (J 18 1) (J 18 2) (J 18 3) r ∧ s' = 2)) :=
      fun J3 x1 x2 x3 => m_first_L77 h x1 x2 (by rw [x3, m0]) (by rw [x3, m1]) (by rw [x3, m2]) (by rw [x3, m3]) (by omega) r1 r2 r3 r32 rfl
    by_cases af : rAf (J 66) 0 (J 18 0 / 8) (J 18 1) (J 18 3)
    · rw [if_neg (show ¬ ¬ rAf (J 66) 0 (J 18 0 / 8) (J 18 1) (J 18 3) from fun z => z af)]
      obtain ⟨J3, s1, s2⟩ := m_sails (J := J2) (by rw [g66]; exact h) (f := J 18 0) (l := J 18 1) (b := J 18 2) (t := J 18 3) r0.1 (by rw [g66]; omega) r1.1 r1.2 r2 (by rw [g15]; omega)
      rw [g66, g15] at s1 s2
      rw [s1]
      simp only [Option.bind_some, fl_32, if_true, fl_0]
      have k66 : J3 66 = J 66 := by rw [← g66]; funext j; exact frJ_UpRiverModel_sails s1 rfl
      have k15 : J3 65 15 = 0 := by rw [← g15]; exact frJ_UpRiverModel_sails s1 rfl
      have k68 : ∀ j, J3 68 j = J 68 j := fun j => (frJ_UpRiverModel_sails s1 rfl).trans (g68 j)
      by_cases ok : sOk (J 66) 0 (J 18 0) (J 18 1) (J 18 2) (J 18 3)
      · rw [if_neg (show ¬ ¬ sOk (J 66) 0 (J 18 0) (J 18 1) (J 18 2) (J 18 3) from fun z => z ok)]
        have hbd := sF_bd h r0.1 (by omega) 0 (J 18 1) (J 18 2) (J 18 3)
        have hbl := sL_lane h r0.1 (by omega) r1.1 r1.2 ok
        obtain ⟨p, J4, y1, y2⟩ := m_leadsBy h k66 k15 s2 (by omega) hbl r2 (by omega) r32
        rw [y1]
        simp only [Option.bind_some]
        rcases y2 with ⟨rfl, y3, y4⟩ | ⟨rfl, y3⟩
        · rw [if_pos (show am_i32 1 by decide), if_neg (show ¬ (1 : Int) = 0 by decide)]
          exact ⟨_, _, rfl, Or.inr ⟨c0, Or.inl ⟨⟨af, ok, y4⟩, rfl⟩⟩⟩
        · rw [if_pos (show am_i32 0 by decide), if_pos (show (0 : Int) = 0 from rfl)]
          obtain ⟨s', J5, x1, x2⟩ := g77 J4 (by rw [← k66]; funext j; exact frJ_UpRiverModel_leadsBy y1 rfl) (by rw [← k15]; exact frJ_UpRiverModel_leadsBy y1 rfl) (fun j => (frJ_UpRiverModel_leadsBy y1 rfl).trans (k68 j))
          refine ⟨s', J5, x1, Or.inr ⟨c0, Or.inr ⟨fun z => y3 ⟨?_, z.2.2⟩, x2⟩⟩⟩
          have := due c0
          omega
      · rw [if_pos ok]
        obtain ⟨s', J5, x1, x2⟩ := g77 J3 k66 k15 k68
        exact ⟨s', J5, x1, Or.inr ⟨c0, Or.inr ⟨fun z => ok z.2.1, x2⟩⟩⟩
    · rw [if_pos af]
      obtain ⟨s', J5, x1, x2⟩ := g77 J2 g66 g15 g68
      exact ⟨s', J5, x1, Or.inr ⟨c0, Or.inr ⟨fun z => af z.1, x2⟩⟩⟩
  obtain ⟨s', J2, v1, v2⟩ := mdl
  have es : s' = s := by
    rcases u2 with ⟨a1, a2⟩ | ⟨a1, ⟨a2, a3⟩ | ⟨a2, ⟨a3, a4⟩ | ⟨a3, a4⟩⟩⟩ <;> rcases v2 with ⟨b1, b2⟩ | ⟨b1, ⟨b2, b3⟩ | ⟨b2, ⟨b3, b4⟩ | ⟨b3, b4⟩⟩⟩ <;> first | omega | (exact absurd b1 a1) | (exact absurd a1 b1) | (exact absurd b2 a2) | (exact absurd a2 b2) | (exact absurd b3 a3) | (exact absurd a3 b3)
  rw [es] at v1
  refine ⟨s, J', K', J2, u1, v1, ?_⟩
  rcases u2 with ⟨a1, a2⟩ | ⟨a1, ⟨a2, a3⟩ | ⟨a2, ⟨a3, a4⟩ | ⟨a3, a4⟩⟩⟩ <;> omega
