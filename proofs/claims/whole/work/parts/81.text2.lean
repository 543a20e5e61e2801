/-! text, fault: class against reference -/
def sQ (J : am_J) : Prop := 0 ≤ J 65 12 ∧ J 65 12 ≤ 999
def sF1 (J : am_J) : Prop := J 1 10 = J 65 13 ∧ 0 ≤ J 1 10 ∧ J 1 10 ≤ 5
theorem e_fault {J : am_J} (h : sF1 J) : ∃ r, f_UpRiver_fault J = some r ∧ f_UpRiverModel_fault J = some r ∧ am_i32 r :=
  ⟨J 1 10, rfl, by unfold f_UpRiverModel_fault; rw [h.1], by have := h.2; omega⟩
theorem rv_not (b : Bool) : am_rv (!b) = am_dr b := by cases b <;> rfl
theorem txt_run {b : Bool} {J J2 : am_J} {K : am_K} (hT : sT J) (e8 : J2 65 8 = J 65 8) (e71 : J2 71 = J 71) (hQ : sQ J2) : ∃ s J' K' r J2', f_Reader_readText b J K = some (s, J', K') ∧ f_UpRiverModel_text J2 = some (r, J2') ∧ TX b J2 s r J' K' J2' := by
  obtain ⟨t1, t2, t3, t4⟩ := hT
  obtain ⟨N, hN⟩ : ∃ N : Nat, J 2 1 = (N : Int) := ⟨(J 2 1).toNat, by omega⟩
  have hTp : tpO N (J 71) := ⟨by omega, fun j hj => (t4 j (by omega)).2⟩
  obtain ⟨A, a1, a2⟩ := c_forget (o := am_dr b) (J := J)
  obtain ⟨A', b1, b2, b3, b4, b5, b6, b7, b8⟩ := c_rforget (J := A)
  obtain ⟨B, c1, c2, c3, c4, c5⟩ := m_firstDraft (J := am_up (am_up J2 65 13 0) 65 9 0)
  have od := dr_o b
  have fA : ∀ a j, am_nw [((am_dr b + 1), none), ((am_dr b + 2), none), ((am_dr b + 3), none), ((am_dr b + 4), none), ((am_dr b + 5), none), ((am_dr b + 6), none), ((am_dr b + 7), none), ((am_dr b + 8), none), ((am_dr b + 9), none)] a j = true → A a j = J a j := fun a j hw => frJ_River_forget a1 hw
  have hC : tC N (J 71) A' := by
    have r2 : A' 2 = J 2 := by rw [b8 2 (by decide) (by decide)]; funext j; exact fA 2 j (by cases b <;> rfl)
    have r3 : A' 3 = J 3 := by rw [b8 3 (by decide) (by decide)]; funext j; exact fA 3 j (by cases b <;> rfl)
    unfold tC
    rw [r2, r3]
    exact ⟨hN, fun j hj => (t4 j (by omega)).1⟩
  have B8 : B 65 8 = J2 65 8 := (frJ_UpRiverModel_firstDraft c1 rfl).trans rfl
  have B71 : B 71 = J2 71 := by funext j; exact (frJ_UpRiverModel_firstDraft c1 rfl).trans (by rw [up_row (by decide), up_row (by decide)])
  have B9 : B 65 9 = 0 := (frJ_UpRiverModel_firstDraft c1 rfl).trans rfl
  have B13 : B 65 13 = 0 := (frJ_UpRiverModel_firstDraft c1 rfl).trans rfl
  have B12 : B 65 12 = J2 65 12 := (frJ_UpRiverModel_firstDraft c1 rfl).trans rfl
  have hM : tM N (J 71) B := by
    unfold tM
    rw [B8, B71, e8, e71, ← t1]
    exact ⟨hN, fun _ _ => rfl⟩
  obtain ⟨B', d1, d2⟩ := m_tok hTp hM (p := 0) (Nat.zero_le _) B9 B13 (by rw [B12]; exact hQ)
  have fB : ∀ a, a ≠ 65 → B' a = B a := fun a ha => by funext j; exact frJ_UpRiverModel_next d1 (nw_not2 65 65 rfl ha ha)
  have B5 : B' 65 5 = 0 := by rw [← c4]; exact frJ_UpRiverModel_next d1 rfl
  have B6 : B' 65 6 = 0 := by rw [← c5]; exact frJ_UpRiverModel_next d1 rfl
  have v67 : ∀ k, k < 295 → B' 67 k = rv0 k := fun k hk => by rw [fB 67 (by decide)]; exact c2 k hk
  have hP : PRE N (J 71) 0 A' B' := ⟨Nat.zero_le _, b2, d2, hC, tM_row hM (frJ_UpRiverModel_next d1 rfl) (fB 71 (by decide)), b5⟩
  have hL : LB b A' B' := by
    refine ⟨⟨rv_ok_c rv0_ok v67, ?_⟩, ?_, ?_, ?_⟩
    · exact rq_fr (rq_c a2 v67) fun i h1 h9 j => by rw [b8 _ (by omega) (by omega)]
    · intro c m g
      have gb := gm_bd g
      rw [b7 c (by omega), fB 70 (by decide), c3 m gb.2]
      exact ⟨rfl, Or.inl rfl⟩
    · unfold ML
      rw [B5]
      refine ⟨by omega, fun k hk => ?_⟩
      rw [b7 _ (by split <;> omega)]
      have : Nat.testBit (0 : Int).toNat k = false := Nat.zero_testBit k
      rw [this]
      rfl
    · refine ⟨by omega, by rw [B6, b4]; rfl, fun r hr _ => ?_, fun k hk _ => ?_⟩
      · rw [v67 _ (by omega)]
        unfold rv0
        rw [if_neg (by omega), if_neg (by omega), if_neg (by omega), if_neg (by omega), if_neg (by omega), if_neg (by omega), if_neg (by omega), if_neg (by omega), if_neg (by omega), if_neg (by omega), if_neg (by omega)]
      · rw [v67 _ (by omega)]
        unfold rv0
        rw [if_neg (by omega), if_neg (by omega), if_neg (by omega), if_neg (by omega), if_neg (by omega), if_neg (by omega), if_neg (by omega), if_neg (by omega), if_neg (by omega), if_neg (by omega), if_neg (by omega)]
  have h4 := hTp.1
  obtain ⟨s, J', K', r, J2', z1, z2, z3⟩ := txt_loop hTp (b := b) (K := K) N am_FU 19999 0 0 0 A' B' (by have : am_FU = 20000 := rfl; omega) (by omega) (by omega) (by omega) (by omega) (by omega) hP hL b3
  refine ⟨s, J', K', r, J2', ?_, ?_, TX_kp ?_ z3⟩
  · unfold f_Reader_readText
    rw [a1]
    simp only [Option.bind_some]
    rw [b1]
    exact z1
  · unfold f_UpRiverModel_text
    rw [c1]
    simp only [Option.bind_some]
    rw [d1]
    exact z2
  · intro a y1 y2 y3
    rw [fB a y1]
    funext j
    have : B a j = (am_up (am_up J2 65 13 0) 65 9 0) a j := frJ_UpRiverModel_firstDraft c1 (by
      refine List.all_eq_true.mpr fun q hq => ?_
      have : q.1 = 65 ∨ q.1 = 67 ∨ q.1 = 70 := by
        have h3 : (([(65, some 5), (65, some 6), (67, none), (70, none)] : List (Nat × Option Nat)).all fun q => Nat.beq q.1 65 || (Nat.beq q.1 67 || Nat.beq q.1 70)) = true := rfl
        have h5 := List.all_eq_true.mp h3 q hq
        rw [Bool.or_eq_true, Bool.or_eq_true] at h5
        rcases h5 with h5 | h5 | h5
        · exact Or.inl (Nat.eq_of_beq_eq_true h5)
        · exact Or.inr (Or.inl (Nat.eq_of_beq_eq_true h5))
        · exact Or.inr (Or.inr (Nat.eq_of_beq_eq_true h5))
      have e : Nat.beq q.1 a = false := by
        cases e : Nat.beq q.1 a with
        | false => rfl
        | true => have := Nat.eq_of_beq_eq_true e; omega
      rw [e]
      rfl)
    rw [this, up_row y1, up_row y1]
theorem HT_sV {b : Bool} {J J2 : am_J} (h : LB b J J2) (hlt : J 1 9 < J2 67 0) : sV (J2 67) := by
  have hm := h.1.1.1.1
  obtain ⟨-, -, -, t1, -, t3, t4⟩ := h
  exact ⟨fun r h1 h2 => t3 r h2 (by omega), fun k h1 h2 => t4 k h2 (by omega)⟩
theorem e_text {b : Bool} {J : am_J} {K : am_K} (hT : sT J) (hQ : sQ J) (e15 : J 65 15 = 0) : ∃ r J' K' b' J2, f_UpRiver_text J K b = some (r, J', K', b') ∧ f_UpRiverModel_text J' = some (r, J2) ∧ am_i32 r ∧ sF1 J2 ∧ sT J2 ∧ sQ J2 ∧ ((b' = b ∧ J2 66 = J 66 ∧ J2 68 = J 68 ∧ J2 69 = J 69 ∧ J2 65 15 = J 65 15 ∧ (∀ a, a ≠ 1 → a ≠ 2 → a ≠ 4 → a ≠ 5 → (a < am_dr b + 1 ∨ am_dr b + 9 < a) → a < 65 → J2 a = J a) ∧ K' (am_rv b + 10) = K (am_rv b + 10)) ∨ (b' = (!b) ∧ sR b' J2 ∧ rK (am_rv b') K' (J2 66) ∧ sV (J2 66) ∧ sB J2 ∧ sLg J2 ∧ sW J2 ∧ sI J2 ∧ sA (J2 66) J2)) := by
  have od := dr_o b
  obtain ⟨s, A, K', -, -, u1, -, -⟩ := txt_run (b := b) (K := K) hT rfl rfl hQ
  have fA : ∀ a j, am_nw [(1, some 4), (1, some 5), (1, some 6), (1, some 7), (1, some 8), (1, some 9), (1, some 10), (1, some 11), (4, none), (5, none), ((am_dr b + 1), none), ((am_dr b + 2), none), ((am_dr b + 3), none), ((am_dr b + 4), none), ((am_dr b + 5), none), ((am_dr b + 6), none), ((am_dr b + 7), none), ((am_dr b + 8), none), ((am_dr b + 9), none)] a j = true → A a j = J a j := fun a j hw => frJ_Reader_readText u1 hw
  have fA2 : ∀ a, a ≠ 1 → a ≠ 4 → a ≠ 5 → (a < am_dr b + 1 ∨ am_dr b + 9 < a) → A a = J a := by
    intro a h1 h4 h5 h6
    funext j
    refine fA a j (List.all_eq_true.mpr fun q hq => ?_)
    have hmem : q.1 = 1 ∨ q.1 = 4 ∨ q.1 = 5 ∨ (am_dr b + 1 ≤ q.1 ∧ q.1 ≤ am_dr b + 9) := by
      have h3 : (([(1, some 4), (1, some 5), (1, some 6), (1, some 7), (1, some 8), (1, some 9), (1, some 10), (1, some 11), (4, none), (5, none), ((am_dr b + 1), none), ((am_dr b + 2), none), ((am_dr b + 3), none), ((am_dr b + 4), none), ((am_dr b + 5), none), ((am_dr b + 6), none), ((am_dr b + 7), none), ((am_dr b + 8), none), ((am_dr b + 9), none)] : List (Nat × Option Nat)).all fun q => decide (q.1 = 1 ∨ q.1 = 4 ∨ q.1 = 5 ∨ (am_dr b + 1 ≤ q.1 ∧ q.1 ≤ am_dr b + 9))) = true := by cases b <;> decide
      exact of_decide_eq_true (List.all_eq_true.mp h3 q hq)
    have e : Nat.beq q.1 a = false := by
      cases e : Nat.beq q.1 a with
      | false => rfl
      | true => have := Nat.eq_of_beq_eq_true e; omega
    rw [e]
    rfl
  have fK : K' (am_rv b + 10) = K (am_rv b + 10) := by
    funext j
    exact frK_Reader_readText u1 (by cases b <;> rfl)
  -- the reference from any state with this tape, over the class's run
  have both : ∀ J2 : am_J, J2 65 8 = J 65 8 → J2 71 = J 71 → sQ J2 → ∃ r J2', f_UpRiverModel_text J2 = some (r, J2') ∧ TX b J2 s r A K' J2' := by
    intro J2 x1 x2 x3
    obtain ⟨s2, A2, K2, r, J2', w1, w2, w3⟩ := txt_run (b := b) (K := K) hT x1 x2 x3
    have e := Option.some.inj (u1.symm.trans w1)
    obtain ⟨e1, e2⟩ := Prod.mk.inj e
    obtain ⟨e3, e4⟩ := Prod.mk.inj e2
    rw [← e1, ← e3, ← e4] at w3
    exact ⟨r, J2', w2, w3⟩
  have hs : s = 0 ∨ s = 1 := by
    obtain ⟨r, J2', -, t⟩ := both J rfl rfl hQ
    rcases t with t | t
    · exact Or.inl t.1
    · exact Or.inr t.1
  rcases hs with rfl | rfl
  · have cl : f_UpRiver_text J K b = some (-10 - A 1 11, am_up A 2 1 0, K', b) := by
      unfold f_UpRiver_text
      rw [u1]
      rfl
    have g65 : (am_up A 2 1 0) 65 = J 65 := by rw [up_row (by decide)]; exact fA2 65 (by decide) (by decide) (by decide) (by omega)
    have g71 : (am_up A 2 1 0) 71 = J 71 := by rw [up_row (by decide)]; exact fA2 71 (by decide) (by decide) (by decide) (by omega)
    obtain ⟨r, J2, w1, w2⟩ := both (am_up A 2 1 0) (by rw [g65]) g71 (by unfold sQ; rw [g65]; exact hQ)
    rcases w2 with ⟨-, t2, t3, t4, t5, t6, t7, t8⟩ | ⟨t1, -⟩
    · have row1 : J2 1 = A 1 := by rw [t8 1 (by decide) (by decide) (by decide), up_row (by decide)]
      rw [t2] at w1
      refine ⟨-10 - A 1 11, am_up A 2 1 0, K', b, J2, cl, w1, by omega, ?_, ?_, t6, Or.inl ⟨rfl, ?_, ?_, ?_, ?_, fun a h1 h2 h4 h5 h6 h65 => ?_, fK⟩⟩
      · unfold sF1
        rw [row1]
        exact ⟨t3, by omega⟩
      · unfold sT
        rw [t8 2 (by decide) (by decide) (by decide), up_at, t7]
        exact ⟨rfl, by decide, by decide, fun j hj => by omega⟩
      · rw [t8 66 (by decide) (by decide) (by decide), up_row (by decide)]; exact fA2 66 (by decide) (by decide) (by decide) (by omega)
      · rw [t8 68 (by decide) (by decide) (by decide), up_row (by decide)]; exact fA2 68 (by decide) (by decide) (by decide) (by omega)
      · rw [t8 69 (by decide) (by decide) (by decide), up_row (by decide)]; exact fA2 69 (by decide) (by decide) (by decide) (by omega)
      · have : J2 65 15 = (am_up A 2 1 0) 65 15 := frJ_UpRiverModel_text w1 rfl
        rw [this, g65]
      · rw [t8 a (by omega) (by omega) (by omega), up_row h2]; exact fA2 a h1 h4 h5 h6
    · exact absurd t1 (by decide)
  · obtain ⟨r0, J0, -, t0⟩ := both J rfl rfl hQ
    rcases t0 with ⟨t1, -⟩ | ⟨-, -, -, i10, J3, -, -, -, -, iL, -, -⟩
    · exact absurd t1 (by decide)
    have q0 : rq (am_rv (!b)) (am_up A 2 1 0) (J3 67) := by
      rw [rv_not]
      exact rq_fr iL.1.2 fun i h1 h9 j => by rw [up_row (by omega)]
    obtain ⟨D, d1, d2, -, d3, d4, d5, d6, d7, d8, d9, d10, d11, d12⟩ := ba2 (b := !b) 301 am_FU 0 (am_up A 2 1 0) (by decide) (by omega) q0
    have d1' : f_UpRiver_beginAnew (!b) (am_up A 2 1 0) = some D := d1
    have cl : f_UpRiver_text J K b = some (D 1 8, D, K', !b) := by
      unfold f_UpRiver_text
      rw [u1]
      simp only [Option.bind_some]
      rw [if_pos (show am_i32 1 by decide), if_neg (show ¬ (1 : Int) = 0 by decide), d1']
      rfl
    have fD : ∀ a, a ≠ 18 → a ≠ 19 → a ≠ 22 → a ≠ 31 → a ≠ 43 → a ≠ 50 → D a = (am_up A 2 1 0) a := by
      intro a h1 h2 h3 h4 h5 h6
      funext j
      refine frJ_UpRiver_beginAnew d1' (List.all_eq_true.mpr fun q hq => ?_)
      have hmem : q.1 = 18 ∨ q.1 = 19 ∨ q.1 = 22 ∨ q.1 = 31 ∨ q.1 = 43 ∨ q.1 = 50 := by
        have h3 : (([(18, some 0), (18, some 1), (18, some 2), (18, some 3), (18, some 4), (18, some 5), (19, some 2), (22, some 1), (31, none), (43, some 3), (50, some 3)] : List (Nat × Option Nat)).all fun q => decide (q.1 = 18 ∨ q.1 = 19 ∨ q.1 = 22 ∨ q.1 = 31 ∨ q.1 = 43 ∨ q.1 = 50)) = true := by decide
        exact of_decide_eq_true (List.all_eq_true.mp h3 q hq)
      have e : Nat.beq q.1 a = false := by
        cases e : Nat.beq q.1 a with
        | false => rfl
        | true => have := Nat.eq_of_beq_eq_true e; omega
      rw [e]
      rfl
    have g65 : D 65 = J 65 := by rw [fD 65 (by decide) (by decide) (by decide) (by decide) (by decide) (by decide), up_row (by decide)]; exact fA2 65 (by decide) (by decide) (by decide) (by omega)
    have g71 : D 71 = J 71 := by rw [fD 71 (by decide) (by decide) (by decide) (by decide) (by decide) (by decide), up_row (by decide)]; exact fA2 71 (by decide) (by decide) (by decide) (by omega)
    obtain ⟨r, J2, w1, w2⟩ := both D (by rw [g65]) g71 (by unfold sQ; rw [g65]; exact hQ)
    rcases w2 with ⟨t1, -⟩ | ⟨-, t2, tr, t3, J4, t4, t5, t6, t7, t8, t9, t10⟩
    · exact absurd t1 (by decide)
    obtain ⟨J5, k1, k2, k3, k4, k5, k6⟩ := m_keepDraft (J := am_up J4 65 8 0)
    obtain rfl := Option.some.inj (k1.symm.trans t4)
    have e67 : (am_up J4 65 8 0) 67 = J4 67 := up_row (by decide)
    rw [e67] at k2 k4
    have fK5 : ∀ a, a ≠ 66 → a ≠ 68 → a ≠ 69 → J5 a = (am_up J4 65 8 0) a := by
      intro a h1 h2 h3
      funext j
      refine frJ_UpRiverModel_keepDraft k1 (List.all_eq_true.mpr fun q hq => ?_)
      have hmem : q.1 = 66 ∨ q.1 = 68 ∨ q.1 = 69 := by
        have h3 : (([(66, none), (68, none), (69, none)] : List (Nat × Option Nat)).all fun q => decide (q.1 = 66 ∨ q.1 = 68 ∨ q.1 = 69)) = true := by decide
        exact of_decide_eq_true (List.all_eq_true.mp h3 q hq)
      have e : Nat.beq q.1 a = false := by
        cases e : Nat.beq q.1 a with
        | false => rfl
        | true => have := Nat.eq_of_beq_eq_true e; omega
      rw [e]
      rfl
    have rowD : ∀ a, a < 65 → J5 a = D a := fun a ha => by rw [fK5 a (by omega) (by omega) (by omega), up_row (by omega), t7 a (by omega) (by omega) (by omega)]
    have row65 : ∀ j, j ≠ 8 → J5 65 j = J4 65 j := fun j hj => by rw [fK5 65 (by decide) (by decide) (by decide), up_ne hj]
    have row1 : J5 1 = A 1 := by rw [rowD 1 (by omega), fD 1 (by decide) (by decide) (by decide) (by decide) (by decide) (by decide), up_row (by decide)]
    have hv : rv_ok (J5 66) := rv_ok_c t8.1.1 fun k hk => k2 k hk
    have hq : rq (am_rv (!b)) J5 (J5 66) := by
      rw [rv_not]
      refine rq_c (rq_fr t8.1.2 fun i h1 h9 j => ?_) fun k hk => k2 k hk
      rw [rowD _ (by omega), fD _ (by omega) (by omega) (by omega) (by omega) (by omega) (by omega), up_row (by omega)]
    have v7 := rv_7 hv
    have v7' : (J4 67) 7 = J5 66 7 := (k2 7 (by omega)).symm
    have d18 : J5 18 = D 18 := rowD 18 (by omega)
    have d1v : D 18 1 = J5 66 7 := by
      have e0 := (hq.2.2.1 0 (by omega)).1
      have e1 := (q0.2.2.1 0 (by omega)).1
      rw [d4, show (J3 67) 7 = (J3 67) (7 + 0) from rfl, ← e1, show J5 66 7 = J5 66 (7 + 0) from rfl, ← e0, rowD _ (by have := rv_o (!b); omega), fD _ (by have := rv_o (!b); omega) (by have := rv_o (!b); omega) (by have := rv_o (!b); omega) (by have := rv_o (!b); omega) (by have := rv_o (!b); omega) (by have := rv_o (!b); omega)]
    have r8 : r = D 1 8 := by rw [t2, fD 1 (by decide) (by decide) (by decide) (by decide) (by decide) (by decide), up_row (by decide)]
    rw [r8] at w1
    have b8 : am_i32 (D 1 8) := by rw [← r8]; omega
    refine ⟨D 1 8, D, K', !b, J5, cl, w1, b8, ?_, ?_, ?_, Or.inr ⟨rfl, ⟨hv, hq, ?_⟩, ?_, ?_, ?_, ?_, ?_, ?_, ?_⟩⟩
    · unfold sF1
      rw [row1, row65 13 (by decide), t3, t5]
      exact ⟨rfl, by decide, by decide⟩
    · unfold sT
      rw [rowD 2 (by omega), fD 2 (by decide) (by decide) (by decide) (by decide) (by decide) (by decide), up_at, fK5 65 (by decide) (by decide) (by decide), up_at]
      exact ⟨rfl, by decide, by decide, fun j hj => by omega⟩
    · unfold sQ
      rw [row65 12 (by decide)]
      exact t6
    · have : J5 65 15 = D 65 15 := frJ_UpRiverModel_text w1 rfl
      rw [this, g65, e15]
    · rw [rv_not]
      intro hh l f x1 x2 x3
      rw [t10 hh l f x1 x2 x3]
      have e0 := k2 0 (by omega)
      have e2 := k2 2 (by omega)
      have hm := hv.1.1
      constructor
      · rintro ⟨y1, y2, y3⟩
        have z1 := k2 (7 + (f : Int) / 8).toNat (by omega)
        have z2 := k2 (19 + (f : Int) / 8).toNat (by omega)
        have z3 := k2 (55 + 9 * ((f : Int) / 8) + l).toNat (by omega)
        unfold rOp
        rw [e0, e2, z1, z2, z3]
        exact ⟨y1, y2, y3⟩
      · rintro ⟨y1, y2, y3⟩
        have z1 := k2 (7 + (f : Int) / 8).toNat (by omega)
        have z2 := k2 (19 + (f : Int) / 8).toNat (by omega)
        have z3 := k2 (55 + 9 * ((f : Int) / 8) + l).toNat (by omega)
        unfold rOp at y2
        rw [e0] at y1
        rw [z1, z2] at y2
        rw [e2, z3] at y3
        exact ⟨y1, y2, y3⟩
    · have sv := HT_sV t8 t9
      refine ⟨fun r h1 h2 => ?_, fun k h1 h2 => ?_⟩
      · rw [k2 _ (by omega)]; exact sv.1 r (by rw [← k2 0 (by omega)]; exact h1) h2
      · rw [k2 _ (by omega)]; exact sv.2 k (by rw [← k2 0 (by omega)]; exact h1) h2
    · unfold sB bR bm
      rw [d18, d3, d1v, d5, d6, d7, d8, k3 1 (by omega) (by omega), k4, v7', k3 3 (by omega) (by omega), k3 0 (by omega) (by omega), k3 4 (by omega) (by omega), k3 5 (by omega) (by omega)]
      omega
    · unfold sLg
      rw [rowD 19 (by omega), d9, k3 6 (by omega) (by omega)]
      exact ⟨rfl, by decide, by decide, fun i hi => by omega, fun i hi => by omega⟩
    · unfold sW
      rw [rowD 22 (by omega), d10, k3 31 (by omega) (by omega)]
      exact ⟨rfl, by decide, by decide, fun i hi => by omega⟩
    · unfold sI
      rw [rowD 43 (by omega), rowD 50 (by omega), d11, d12, k5, k6]
      exact ⟨⟨Or.inl rfl, rfl, fun z => absurd z (by decide)⟩, Or.inl rfl, rfl, fun z => absurd z (by decide)⟩
    · intro t ht
      rw [rowD 31 (by omega)]
      exact Or.inl (d2 t (by omega) (by omega))
