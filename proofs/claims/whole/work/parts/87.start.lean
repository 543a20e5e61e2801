/-! the start -/
def ru : List (Nat × Option (Nat × Nat)) → Nat → Nat → Option Nat
  | [] => am_R0
  | (c, none) :: t => am_zr (ru t) c
  | (c, some (i, v)) :: t => am_ur (ru t) c i (some v)
def ruU : List (Nat × Option (Nat × Nat)) := [(65, some (40, 77)), (77, none), (65, some (39, 76)), (76, none), (65, some (38, 75)), (75, none), (65, some (26, 74)), (74, none), (65, some (25, 73)), (73, none), (65, some (20, 72)), (72, none), (65, some (7, 71)), (71, none), (65, some (4, 70)), (70, none), (65, some (3, 69)), (69, none), (65, some (2, 68)), (68, none), (65, some (1, 67)), (67, none), (65, some (0, 66)), (66, none), (65, none), (25, some (3, 63)), (63, some (0, 64)), (64, none), (63, none), (25, some (2, 61)), (61, some (0, 62)), (62, none), (61, none), (25, some (1, 59)), (59, some (0, 60)), (60, none), (59, none), (25, some (0, 57)), (57, some (0, 58)), (58, none), (57, none), (24, some (1, 50)), (50, some (2, 55)), (55, some (0, 56)), (56, none), (55, none), (50, some (1, 52)), (52, some (1, 54)), (54, none), (52, some (0, 53)), (53, none), (52, none), (50, some (0, 51)), (51, none), (50, none), (24, some (0, 43)), (43, some (2, 48)), (48, some (0, 49)), (49, none), (48, none), (43, some (1, 45)), (45, some (1, 47)), (47, none), (45, some (0, 46)), (46, none), (45, none), (43, some (0, 44)), (44, none), (43, none), (0, some (8, 32)), (32, some (9, 42)), (42, none), (32, some (8, 41)), (41, none), (32, some (7, 40)), (40, none), (32, some (6, 39)), (39, none), (32, some (5, 38)), (38, none), (32, some (4, 37)), (37, none), (32, some (3, 36)), (36, none), (32, some (2, 35)), (35, none), (32, some (1, 34)), (34, none), (32, some (0, 33)), (33, none), (32, none), (0, some (7, 31)), (31, none), (0, some (6, 30)), (30, none), (0, some (5, 28)), (28, some (0, 29)), (29, none), (28, none), (0, some (4, 26)), (26, some (0, 27)), (27, none), (26, none), (0, some (3, 25)), (25, none), (0, some (2, 24)), (24, none), (0, some (1, 17)), (17, some (2, 22)), (22, some (0, 23)), (23, none), (22, none), (17, some (1, 19)), (19, some (1, 21)), (21, none), (19, some (0, 20)), (20, none), (19, none), (17, some (0, 18)), (18, none), (17, none), (0, some (0, 1)), (1, some (3, 6)), (6, some (9, 16)), (16, none), (6, some (8, 15)), (15, none), (6, some (7, 14)), (14, none), (6, some (6, 13)), (13, none), (6, some (5, 12)), (12, none), (6, some (4, 11)), (11, none), (6, some (3, 10)), (10, none), (6, some (2, 9)), (9, none), (6, some (1, 8)), (8, none), (6, some (0, 7)), (7, none), (6, none), (1, some (2, 5)), (5, none), (1, some (1, 4)), (4, none), (1, some (0, 2)), (2, some (0, 3)), (3, none), (2, none), (1, none), (0, none)]
set_option maxRecDepth 20000 in
theorem ru_eq : am_R154 = ru ruU := rfl
theorem ru_b : ∀ (U : List (Nat × Option (Nat × Nat))), U.all (fun q => decide (q.1 < 78) && (match q.2 with | none => true | some p => decide (p.1 < 44))) = true → ∀ a j, (78 ≤ a ∨ 44 ≤ j) → ru U a j = none := by
  intro U
  induction U with
  | nil => intro _ a j _; rfl
  | cons q t ih =>
    intro h a j hb
    rw [List.all_cons, Bool.and_eq_true] at h
    have g := ih h.2 a j hb
    obtain ⟨c, p⟩ := q
    cases p with
    | none =>
      show (if a = c then none else ru t a j) = none
      by_cases e : a = c
      · rw [if_pos e]
      · rw [if_neg e]; exact g
    | some p =>
      obtain ⟨i, v⟩ := p
      have h1 := h.1
      simp only [Bool.and_eq_true, decide_eq_true_eq] at h1
      show (if a = c then (if j = i then some v else ru t a j) else ru t a j) = none
      by_cases e : a = c
      · rw [if_pos e, if_neg (show ¬ j = i by omega)]; exact g
      · rw [if_neg e]; exact g
theorem rnth_b : ∀ (l : List (Option Nat)) (j : Nat), l.length ≤ j → am_rnth l j = none := by
  intro l
  induction l with
  | nil => intro j _; rfl
  | cons q t ih =>
    intro j h
    cases j with
    | zero => cases h
    | succ j => exact ih j (Nat.le_of_succ_le_succ h)
theorem rget_b : ∀ (l : List (Nat × List (Option Nat))), l.all (fun q => decide (q.1 < 78) && decide (q.2.length ≤ 44)) = true → ∀ a j, (78 ≤ a ∨ 44 ≤ j) → am_rget l a j = none := by
  intro l
  induction l with
  | nil => intro _ a j _; rfl
  | cons q t ih =>
    intro h a j hb
    rw [List.all_cons, Bool.and_eq_true] at h
    have h1 := h.1
    simp only [Bool.and_eq_true, decide_eq_true_eq] at h1
    show (bif Nat.beq q.1 a then am_rnth q.2 j else am_rget t a j) = none
    cases e : Nat.beq q.1 a with
    | false => exact ih h.2 a j hb
    | true =>
      have := Nat.eq_of_beq_eq_true e
      exact rnth_b _ _ (by omega)
theorem rf_b (a j : Nat) (hb : 78 ≤ a ∨ 44 ≤ j) : am_RF false a j = none := by
  have g := rget_b am_rl0 (by decide) a j hb
  unfold am_RF
  cases e : Nat.beq a 0 with
  | true =>
    have e0 := Nat.eq_of_beq_eq_true e
    cases e8 : Nat.beq j 8 with
    | true => have := Nat.eq_of_beq_eq_true e8; omega
    | false => exact rnth_b _ _ (by show 8 ≤ j; omega)
  | false =>
    cases e1 : (Nat.beq a 1 && Nat.beq j 3) with
    | true =>
      rw [Bool.and_eq_true] at e1
      have := Nat.eq_of_beq_eq_true e1.1
      have := Nat.eq_of_beq_eq_true e1.2
      omega
    | false => exact g
theorem rf_in : ((List.range 78).all fun a => (List.range 44).all fun j => decide (ru ruU a j = am_RF false a j)) = true := by decide +kernel
theorem r154 : am_R154 = am_RF false := by
  rw [ru_eq]
  funext a j
  by_cases h : a < 78 ∧ j < 44
  · have := List.all_eq_true.mp (List.all_eq_true.mp rf_in a (List.mem_range.mpr h.1)) j (List.mem_range.mpr h.2)
    exact of_decide_eq_true this
  · rw [ru_b ruU (by decide) a j (by omega), rf_b a j (by omega)]
theorem rK_v {o : Nat} {K : am_K} {v w : Nat → Int} (h : rK o K v) (hv : rv_ok v) (e : ∀ k, k < 295 → w k = v k) : rK o K w := by
  have hm := hv.1.1
  intro hh l f h1 h2 h3
  have e0 : w 0 = v 0 := e 0 (by omega)
  have e2 : w 2 = v 2 := e 2 (by omega)
  have e7 : w (7 + (f : Int) / 8).toNat = v (7 + (f : Int) / 8).toNat := e _ (by omega)
  have e19 : w (19 + (f : Int) / 8).toNat = v (19 + (f : Int) / 8).toNat := e _ (by omega)
  have e55 : w (55 + 9 * ((f : Int) / 8) + l).toNat = v (55 + 9 * ((f : Int) / 8) + l).toNat := e _ (by omega)
  have g := h hh l f h1 h2 h3
  unfold rOp at g ⊢
  rw [e0, e2, e7, e19, e55]
  exact g
theorem start_sim : ∃ j1 k2 j3 k4 j5 j6, f_River_forget 6 (am_zj (am_zj (am_zj (am_zj (am_zj (am_zj (am_zj (am_zj (am_zj (am_zj (am_zj (am_zj (am_zj (am_zj (am_zj (am_zj (am_zj (fun _ _ => 0) 0) 1) 2) 3) 4) 5) 6) 7) 8) 9) 10) 11) 12) 13) 14) 15) 16) = some j1 ∧ f_River_settle 6 j1 (am_zk (am_zk (am_zk (am_zk (am_zk (am_zk (am_zk (am_zk (am_zk (am_zk (am_zk (am_zk (am_zk (am_zk (am_zk (am_zk (am_zk (fun _ _ => 0) 0) 1) 2) 3) 4) 5) 6) 7) 8) 9) 10) 11) 12) 13) 14) 15) 16) = some k2 ∧ f_River_forget 32 (am_zj (am_zj (am_zj (am_zj (am_zj (am_zj (am_zj (am_zj (am_zj (am_zj (am_zj (am_zj (am_zj (am_zj (am_zj (am_zj (am_zj (am_zj (am_zj (am_zj (am_zj (am_zj (am_zj (am_zj (am_zj (am_zj j1 17) 18) 19) 20) 21) 22) 23) 24) 25) 26) 27) 28) 29) 30) 31) 32) 33) 34) 35) 36) 37) 38) 39) 40) 41) 42) = some j3 ∧ f_River_settle 32 j3 (am_zk (am_zk (am_zk (am_zk (am_zk (am_zk (am_zk (am_zk (am_zk (am_zk (am_zk (am_zk (am_zk (am_zk (am_zk (am_zk (am_zk (am_zk (am_zk (am_zk (am_zk (am_zk (am_zk (am_zk (am_zk (am_zk k2 17) 18) 19) 20) 21) 22) 23) 24) 25) 26) 27) 28) 29) 30) 31) 32) 33) 34) 35) 36) 37) 38) 39) 40) 41) 42) = some k4 ∧ f_UpRiverModel_firstDraft (am_up (am_up (am_up (am_up (am_zj (am_zj (am_zj (am_zj (am_zj (am_zj (am_zj (am_zj (am_zj (am_zj (am_zj (am_zj (am_zj (am_up (am_zj (am_zj (am_up (am_zj (am_zj (am_up (am_zj (am_zj (am_up (am_zj (am_zj (am_zj (am_zj (am_zj (am_zj (am_zj (am_zj (am_zj (am_zj (am_zj (am_zj (am_zj (am_zj (am_zj (am_zj j3 43) 44) 45) 46) 47) 48) 49) 50) 51) 52) 53) 54) 55) 56) 57) 58) 57 2 (-4)) 59) 60) 59 2 (-4)) 61) 62) 61 2 (-4)) 63) 64) 63 2 (-4)) 65) 66) 67) 68) 69) 70) 71) 72) 73) 74) 75) 76) 77) 75 0 (-4)) 75 1 (-4)) 75 2 (-4)) 75 3 (-4)) = some j5 ∧ f_UpRiverModel_keepDraft j5 = some j6 ∧ Sim false j6 (am_zk (am_zk (am_zk (am_zk (am_zk (am_zk (am_zk (am_zk (am_zk (am_zk (am_zk (am_zk (am_zk (am_zk (am_zk (am_zk (am_zk (am_zk (am_zk (am_zk (am_zk (am_zk (am_zk (am_zk (am_zk (am_zk (am_zk (am_zk (am_zk (am_zk (am_zk (am_zk (am_zk (am_zk (am_zk k4 43) 44) 45) 46) 47) 48) 49) 50) 51) 52) 53) 54) 55) 56) 57) 58) 59) 60) 61) 62) 63) 64) 65) 66) 67) 68) 69) 70) 71) 72) 73) 74) 75) 76) 77) := by
  obtain ⟨j1, h1, q1⟩ := c_forget (o := 6) (J := (am_zj (am_zj (am_zj (am_zj (am_zj (am_zj (am_zj (am_zj (am_zj (am_zj (am_zj (am_zj (am_zj (am_zj (am_zj (am_zj (am_zj (fun _ _ => 0) 0) 1) 2) 3) 4) 5) 6) 7) 8) 9) 10) 11) 12) 13) 14) 15) 16))
  obtain ⟨k2, h2, -⟩ := c_settle rv0_ok q1 (am_zk (am_zk (am_zk (am_zk (am_zk (am_zk (am_zk (am_zk (am_zk (am_zk (am_zk (am_zk (am_zk (am_zk (am_zk (am_zk (am_zk (fun _ _ => 0) 0) 1) 2) 3) 4) 5) 6) 7) 8) 9) 10) 11) 12) 13) 14) 15) 16)
  obtain ⟨j3, h3, q3⟩ := c_forget (o := 32) (J := (am_zj (am_zj (am_zj (am_zj (am_zj (am_zj (am_zj (am_zj (am_zj (am_zj (am_zj (am_zj (am_zj (am_zj (am_zj (am_zj (am_zj (am_zj (am_zj (am_zj (am_zj (am_zj (am_zj (am_zj (am_zj (am_zj j1 17) 18) 19) 20) 21) 22) 23) 24) 25) 26) 27) 28) 29) 30) 31) 32) 33) 34) 35) 36) 37) 38) 39) 40) 41) 42))
  obtain ⟨k4, h4, rk4⟩ := c_settle rv0_ok q3 (am_zk (am_zk (am_zk (am_zk (am_zk (am_zk (am_zk (am_zk (am_zk (am_zk (am_zk (am_zk (am_zk (am_zk (am_zk (am_zk (am_zk (am_zk (am_zk (am_zk (am_zk (am_zk (am_zk (am_zk (am_zk (am_zk k2 17) 18) 19) 20) 21) 22) 23) 24) 25) 26) 27) 28) 29) 30) 31) 32) 33) 34) 35) 36) 37) 38) 39) 40) 41) 42)
  obtain ⟨j5, h5, d5, -, -, -⟩ := m_firstDraft (J := (am_up (am_up (am_up (am_up (am_zj (am_zj (am_zj (am_zj (am_zj (am_zj (am_zj (am_zj (am_zj (am_zj (am_zj (am_zj (am_zj (am_up (am_zj (am_zj (am_up (am_zj (am_zj (am_up (am_zj (am_zj (am_up (am_zj (am_zj (am_zj (am_zj (am_zj (am_zj (am_zj (am_zj (am_zj (am_zj (am_zj (am_zj (am_zj (am_zj (am_zj (am_zj j3 43) 44) 45) 46) 47) 48) 49) 50) 51) 52) 53) 54) 55) 56) 57) 58) 57 2 (-4)) 59) 60) 59 2 (-4)) 61) 62) 61 2 (-4)) 63) 64) 63 2 (-4)) 65) 66) 67) 68) 69) 70) 71) 72) 73) 74) 75) 76) 77) 75 0 (-4)) 75 1 (-4)) 75 2 (-4)) 75 3 (-4)))
  obtain ⟨j6, h6, d6, z6, z2, i0, i1⟩ := m_keepDraft (J := j5)
  refine ⟨j1, k2, j3, k4, j5, j6, h1, h2, h3, h4, h5, h6, ?_⟩
  have e66 : ∀ k, k < 295 → j6 66 k = rv0 k := fun k hk => (d6 k hk).trans (d5 k hk)
  have z68 : ∀ j, j < 72 → j6 68 j = 0 := by
    intro j hj
    by_cases e : j = 2
    · rw [e, z2, d5 7 (by decide)]; rfl
    · exact z6 j hj e
  have f6 : ∀ {a j : Nat}, am_nw [(66, none), (68, none), (69, none)] a j = true → j6 a j = j5 a j := fun hw => frJ_UpRiverModel_keepDraft h6 hw
  have f5 : ∀ {a j : Nat}, am_nw [(65, some 5), (65, some 6), (67, none), (70, none)] a j = true → j5 a j = (am_up (am_up (am_up (am_up (am_zj (am_zj (am_zj (am_zj (am_zj (am_zj (am_zj (am_zj (am_zj (am_zj (am_zj (am_zj (am_zj (am_up (am_zj (am_zj (am_up (am_zj (am_zj (am_up (am_zj (am_zj (am_up (am_zj (am_zj (am_zj (am_zj (am_zj (am_zj (am_zj (am_zj (am_zj (am_zj (am_zj (am_zj (am_zj (am_zj (am_zj (am_zj j3 43) 44) 45) 46) 47) 48) 49) 50) 51) 52) 53) 54) 55) 56) 57) 58) 57 2 (-4)) 59) 60) 59 2 (-4)) 61) 62) 61 2 (-4)) 63) 64) 63 2 (-4)) 65) 66) 67) 68) 69) 70) 71) 72) 73) 74) 75) 76) 77) 75 0 (-4)) 75 1 (-4)) 75 2 (-4)) 75 3 (-4)) a j := fun hw => frJ_UpRiverModel_firstDraft h5 hw
  have f3 : ∀ {a j : Nat}, am_nw [(33, none), (34, none), (35, none), (36, none), (37, none), (38, none), (39, none), (40, none), (41, none)] a j = true → j3 a j = (am_zj (am_zj (am_zj (am_zj (am_zj (am_zj (am_zj (am_zj (am_zj (am_zj (am_zj (am_zj (am_zj (am_zj (am_zj (am_zj (am_zj (am_zj (am_zj (am_zj (am_zj (am_zj (am_zj (am_zj (am_zj (am_zj j1 17) 18) 19) 20) 21) 22) 23) 24) 25) 26) 27) 28) 29) 30) 31) 32) 33) 34) 35) 36) 37) 38) 39) 40) 41) 42) a j := fun hw => frJ_River_forget h3 hw
  have f1 : ∀ {a j : Nat}, am_nw [(7, none), (8, none), (9, none), (10, none), (11, none), (12, none), (13, none), (14, none), (15, none)] a j = true → j1 a j = (am_zj (am_zj (am_zj (am_zj (am_zj (am_zj (am_zj (am_zj (am_zj (am_zj (am_zj (am_zj (am_zj (am_zj (am_zj (am_zj (am_zj (fun _ _ => 0) 0) 1) 2) 3) 4) 5) 6) 7) 8) 9) 10) 11) 12) 13) 14) 15) 16) a j := fun hw => frJ_River_forget h1 hw
  have z0_9 : j6 0 9 = 0 := (f6 rfl).trans ((f5 rfl).trans ((show (am_up (am_up (am_up (am_up (am_zj (am_zj (am_zj (am_zj (am_zj (am_zj (am_zj (am_zj (am_zj (am_zj (am_zj (am_zj (am_zj (am_up (am_zj (am_zj (am_up (am_zj (am_zj (am_up (am_zj (am_zj (am_up (am_zj (am_zj (am_zj (am_zj (am_zj (am_zj (am_zj (am_zj (am_zj (am_zj (am_zj (am_zj (am_zj (am_zj (am_zj (am_zj j3 43) 44) 45) 46) 47) 48) 49) 50) 51) 52) 53) 54) 55) 56) 57) 58) 57 2 (-4)) 59) 60) 59 2 (-4)) 61) 62) 61 2 (-4)) 63) 64) 63 2 (-4)) 65) 66) 67) 68) 69) 70) 71) 72) 73) 74) 75) 76) 77) 75 0 (-4)) 75 1 (-4)) 75 2 (-4)) 75 3 (-4)) 0 9 = j3 0 9 from rfl).trans ((f3 rfl).trans ((show (am_zj (am_zj (am_zj (am_zj (am_zj (am_zj (am_zj (am_zj (am_zj (am_zj (am_zj (am_zj (am_zj (am_zj (am_zj (am_zj (am_zj (am_zj (am_zj (am_zj (am_zj (am_zj (am_zj (am_zj (am_zj (am_zj j1 17) 18) 19) 20) 21) 22) 23) 24) 25) 26) 27) 28) 29) 30) 31) 32) 33) 34) 35) 36) 37) 38) 39) 40) 41) 42) 0 9 = j1 0 9 from rfl).trans ((f1 rfl).trans rfl)))))
  have z2_1 : j6 2 1 = 0 := (f6 rfl).trans ((f5 rfl).trans ((show (am_up (am_up (am_up (am_up (am_zj (am_zj (am_zj (am_zj (am_zj (am_zj (am_zj (am_zj (am_zj (am_zj (am_zj (am_zj (am_zj (am_up (am_zj (am_zj (am_up (am_zj (am_zj (am_up (am_zj (am_zj (am_up (am_zj (am_zj (am_zj (am_zj (am_zj (am_zj (am_zj (am_zj (am_zj (am_zj (am_zj (am_zj (am_zj (am_zj (am_zj (am_zj j3 43) 44) 45) 46) 47) 48) 49) 50) 51) 52) 53) 54) 55) 56) 57) 58) 57 2 (-4)) 59) 60) 59 2 (-4)) 61) 62) 61 2 (-4)) 63) 64) 63 2 (-4)) 65) 66) 67) 68) 69) 70) 71) 72) 73) 74) 75) 76) 77) 75 0 (-4)) 75 1 (-4)) 75 2 (-4)) 75 3 (-4)) 2 1 = j3 2 1 from rfl).trans ((f3 rfl).trans ((show (am_zj (am_zj (am_zj (am_zj (am_zj (am_zj (am_zj (am_zj (am_zj (am_zj (am_zj (am_zj (am_zj (am_zj (am_zj (am_zj (am_zj (am_zj (am_zj (am_zj (am_zj (am_zj (am_zj (am_zj (am_zj (am_zj j1 17) 18) 19) 20) 21) 22) 23) 24) 25) 26) 27) 28) 29) 30) 31) 32) 33) 34) 35) 36) 37) 38) 39) 40) 41) 42) 2 1 = j1 2 1 from rfl).trans ((f1 rfl).trans rfl)))))
  have z1_10 : j6 1 10 = 0 := (f6 rfl).trans ((f5 rfl).trans ((show (am_up (am_up (am_up (am_up (am_zj (am_zj (am_zj (am_zj (am_zj (am_zj (am_zj (am_zj (am_zj (am_zj (am_zj (am_zj (am_zj (am_up (am_zj (am_zj (am_up (am_zj (am_zj (am_up (am_zj (am_zj (am_up (am_zj (am_zj (am_zj (am_zj (am_zj (am_zj (am_zj (am_zj (am_zj (am_zj (am_zj (am_zj (am_zj (am_zj (am_zj (am_zj j3 43) 44) 45) 46) 47) 48) 49) 50) 51) 52) 53) 54) 55) 56) 57) 58) 57 2 (-4)) 59) 60) 59 2 (-4)) 61) 62) 61 2 (-4)) 63) 64) 63 2 (-4)) 65) 66) 67) 68) 69) 70) 71) 72) 73) 74) 75) 76) 77) 75 0 (-4)) 75 1 (-4)) 75 2 (-4)) 75 3 (-4)) 1 10 = j3 1 10 from rfl).trans ((f3 rfl).trans ((show (am_zj (am_zj (am_zj (am_zj (am_zj (am_zj (am_zj (am_zj (am_zj (am_zj (am_zj (am_zj (am_zj (am_zj (am_zj (am_zj (am_zj (am_zj (am_zj (am_zj (am_zj (am_zj (am_zj (am_zj (am_zj (am_zj j1 17) 18) 19) 20) 21) 22) 23) 24) 25) 26) 27) 28) 29) 30) 31) 32) 33) 34) 35) 36) 37) 38) 39) 40) 41) 42) 1 10 = j1 1 10 from rfl).trans ((f1 rfl).trans rfl)))))
  have z18 : ∀ j, j6 18 j = 0 := fun j => (f6 rfl).trans ((f5 rfl).trans ((show (am_up (am_up (am_up (am_up (am_zj (am_zj (am_zj (am_zj (am_zj (am_zj (am_zj (am_zj (am_zj (am_zj (am_zj (am_zj (am_zj (am_up (am_zj (am_zj (am_up (am_zj (am_zj (am_up (am_zj (am_zj (am_up (am_zj (am_zj (am_zj (am_zj (am_zj (am_zj (am_zj (am_zj (am_zj (am_zj (am_zj (am_zj (am_zj (am_zj (am_zj (am_zj j3 43) 44) 45) 46) 47) 48) 49) 50) 51) 52) 53) 54) 55) 56) 57) 58) 57 2 (-4)) 59) 60) 59 2 (-4)) 61) 62) 61 2 (-4)) 63) 64) 63 2 (-4)) 65) 66) 67) 68) 69) 70) 71) 72) 73) 74) 75) 76) 77) 75 0 (-4)) 75 1 (-4)) 75 2 (-4)) 75 3 (-4)) 18 j = j3 18 j from rfl).trans ((f3 rfl).trans rfl)))
  have z19_2 : j6 19 2 = 0 := (f6 rfl).trans ((f5 rfl).trans ((show (am_up (am_up (am_up (am_up (am_zj (am_zj (am_zj (am_zj (am_zj (am_zj (am_zj (am_zj (am_zj (am_zj (am_zj (am_zj (am_zj (am_up (am_zj (am_zj (am_up (am_zj (am_zj (am_up (am_zj (am_zj (am_up (am_zj (am_zj (am_zj (am_zj (am_zj (am_zj (am_zj (am_zj (am_zj (am_zj (am_zj (am_zj (am_zj (am_zj (am_zj (am_zj j3 43) 44) 45) 46) 47) 48) 49) 50) 51) 52) 53) 54) 55) 56) 57) 58) 57 2 (-4)) 59) 60) 59 2 (-4)) 61) 62) 61 2 (-4)) 63) 64) 63 2 (-4)) 65) 66) 67) 68) 69) 70) 71) 72) 73) 74) 75) 76) 77) 75 0 (-4)) 75 1 (-4)) 75 2 (-4)) 75 3 (-4)) 19 2 = j3 19 2 from rfl).trans ((f3 rfl).trans rfl)))
  have z22_1 : j6 22 1 = 0 := (f6 rfl).trans ((f5 rfl).trans ((show (am_up (am_up (am_up (am_up (am_zj (am_zj (am_zj (am_zj (am_zj (am_zj (am_zj (am_zj (am_zj (am_zj (am_zj (am_zj (am_zj (am_up (am_zj (am_zj (am_up (am_zj (am_zj (am_up (am_zj (am_zj (am_up (am_zj (am_zj (am_zj (am_zj (am_zj (am_zj (am_zj (am_zj (am_zj (am_zj (am_zj (am_zj (am_zj (am_zj (am_zj (am_zj j3 43) 44) 45) 46) 47) 48) 49) 50) 51) 52) 53) 54) 55) 56) 57) 58) 57 2 (-4)) 59) 60) 59 2 (-4)) 61) 62) 61 2 (-4)) 63) 64) 63 2 (-4)) 65) 66) 67) 68) 69) 70) 71) 72) 73) 74) 75) 76) 77) 75 0 (-4)) 75 1 (-4)) 75 2 (-4)) 75 3 (-4)) 22 1 = j3 22 1 from rfl).trans ((f3 rfl).trans rfl)))
  have z31 : ∀ j, j6 31 j = 0 := fun j => (f6 rfl).trans ((f5 rfl).trans ((show (am_up (am_up (am_up (am_up (am_zj (am_zj (am_zj (am_zj (am_zj (am_zj (am_zj (am_zj (am_zj (am_zj (am_zj (am_zj (am_zj (am_up (am_zj (am_zj (am_up (am_zj (am_zj (am_up (am_zj (am_zj (am_up (am_zj (am_zj (am_zj (am_zj (am_zj (am_zj (am_zj (am_zj (am_zj (am_zj (am_zj (am_zj (am_zj (am_zj (am_zj (am_zj j3 43) 44) 45) 46) 47) 48) 49) 50) 51) 52) 53) 54) 55) 56) 57) 58) 57 2 (-4)) 59) 60) 59 2 (-4)) 61) 62) 61 2 (-4)) 63) 64) 63 2 (-4)) 65) 66) 67) 68) 69) 70) 71) 72) 73) 74) 75) 76) 77) 75 0 (-4)) 75 1 (-4)) 75 2 (-4)) 75 3 (-4)) 31 j = j3 31 j from rfl).trans ((f3 rfl).trans rfl)))
  have z43_3 : j6 43 3 = 0 := (f6 rfl).trans ((f5 rfl).trans rfl)
  have z50_3 : j6 50 3 = 0 := (f6 rfl).trans ((f5 rfl).trans rfl)
  have z65_15 : j6 65 15 = 0 := (f6 rfl).trans ((f5 rfl).trans rfl)
  have z65_41 : j6 65 41 = 0 := (f6 rfl).trans ((f5 rfl).trans rfl)
  have z65_8 : j6 65 8 = 0 := (f6 rfl).trans ((f5 rfl).trans rfl)
  have z65_12 : j6 65 12 = 0 := (f6 rfl).trans ((f5 rfl).trans rfl)
  have z65_13 : j6 65 13 = 0 := (f6 rfl).trans ((f5 rfl).trans rfl)
  have z57_2 : j6 57 2 = -4 := (f6 rfl).trans ((f5 rfl).trans rfl)
  have z75_0 : j6 75 0 = -4 := (f6 rfl).trans ((f5 rfl).trans rfl)
  have z59_2 : j6 59 2 = -4 := (f6 rfl).trans ((f5 rfl).trans rfl)
  have z75_1 : j6 75 1 = -4 := (f6 rfl).trans ((f5 rfl).trans rfl)
  have z61_2 : j6 61 2 = -4 := (f6 rfl).trans ((f5 rfl).trans rfl)
  have z75_2 : j6 75 2 = -4 := (f6 rfl).trans ((f5 rfl).trans rfl)
  have z63_2 : j6 63 2 = -4 := (f6 rfl).trans ((f5 rfl).trans rfl)
  have z75_3 : j6 75 3 = -4 := (f6 rfl).trans ((f5 rfl).trans rfl)
  have rows3 : ∀ i, 1 ≤ i → i ≤ 9 → ∀ j, j6 (32 + i) j = j3 (32 + i) j := by
    intro i g1 g9 j
    have hc : i = 1 ∨ i = 2 ∨ i = 3 ∨ i = 4 ∨ i = 5 ∨ i = 6 ∨ i = 7 ∨ i = 8 ∨ i = 9 := by omega
    rcases hc with rfl | rfl | rfl | rfl | rfl | rfl | rfl | rfl | rfl <;> exact (f6 rfl).trans ((f5 rfl).trans rfl)
  refine ⟨⟨rv_ok_c rv0_ok e66, rq_c (rq_fr q3 rows3) e66, z65_15⟩, ?_, ?_, ?_, ?_, ?_, ?_, ?_, ?_, ?_, ?_, ?_, ?_⟩
  · exact rK_v (rK_row (K := k4) rk4 rfl) rv0_ok e66
  · have e0 := e66 0 (by decide)
    have r0 : rv0 0 = 6 := rfl
    refine ⟨fun r g1 g2 => ?_, fun k g1 g2 => ?_⟩
    · rw [e66 _ (by omega)]
      have : r = 6 ∨ r = 7 := by omega
      rcases this with rfl | rfl <;> rfl
    · rw [e66 _ (by omega)]
      unfold rv0
      rw [if_neg (by omega), if_neg (by omega), if_neg (by omega), if_neg (by omega), if_neg (by omega), if_neg (by omega), if_neg (by omega), if_neg (by omega), if_neg (by omega), if_neg (by omega), if_neg (by omega)]
  · unfold sB bR bm
    rw [z18, z18, z18, z18, z18, z18, z68 0 (by decide), z68 1 (by decide), z68 2 (by decide), z68 3 (by decide), z68 4 (by decide), z68 5 (by decide)]
    decide
  · unfold sLg
    rw [z19_2, z68 6 (by decide)]
    exact ⟨rfl, by decide, by decide, fun i hi => by omega, fun i hi => by omega⟩
  · unfold sW
    rw [z22_1, z68 31 (by decide)]
    exact ⟨rfl, by decide, by decide, fun i hi => by omega⟩
  · unfold sI
    rw [z43_3, z50_3, i0, i1]
    exact ⟨⟨Or.inl rfl, rfl, fun z => absurd z (by decide)⟩, Or.inl rfl, rfl, fun z => absurd z (by decide)⟩
  · intro k hk
    have hc : k = 0 ∨ k = 1 ∨ k = 2 ∨ k = 3 := by omega
    rcases hc with rfl | rfl | rfl | rfl
    · exact Or.inl ⟨z57_2, z75_0⟩
    · exact Or.inl ⟨z59_2, z75_1⟩
    · exact Or.inl ⟨z61_2, z75_2⟩
    · exact Or.inl ⟨z63_2, z75_3⟩
  · unfold sTn
    rw [z0_9, z65_41]
    decide
  · unfold sT
    rw [z2_1, z65_8]
    exact ⟨rfl, by decide, by decide, fun j hj => by omega⟩
  · exact fun t _ => Or.inl (z31 t)
  · unfold sQ
    rw [z65_12]
    decide
  · unfold sF1
    rw [z1_10, z65_13]
    decide
theorem law_runs (X : am_X) (hX : X.1 ≤ 3072) : ∃ (n : Nat) (r : am_R), am_exec X n T_UpRiverLaw_law (0, [(0, .inr (.inr (some 1003)))], [], [], am_m0) = some r ∧ r.1 = some (.inl 1) ∧ r.2.1.length ≤ 600000 ∧ am_tot r.2.1 ≤ 7302250 := by
  obtain ⟨j1, k2, j3, k4, j5, j6, h1, h2, h3, h4, h5, h6, s⟩ := start_sim
  obtain ⟨J, K, b, u⟩ := law_loop X hX am_FU 0 j6 _ false s (by decide) (by decide) (by have : am_FU = 20000 := rfl; omega) (by decide)
  have w := s_UpRiverLaw_law_L18 _ _ _ _ _ _ u
  have w2 := am_ctor (X := X) (R := (some (am_iv 1), am_SH, (J, K, am_RF b))) h1 h2 h3 h4 h5 h6 (by rw [r154]; exact w)
  obtain ⟨n0, g⟩ := w2
  exact ⟨n0, _, g n0 (Nat.le_refl _), rfl, by show am_SH.length ≤ 600000; decide, by show am_tot am_SH ≤ 7302250; decide⟩
