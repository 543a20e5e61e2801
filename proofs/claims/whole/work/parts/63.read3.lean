def sTn (J : am_J) : Prop := J 0 9 = J 65 41 ∧ 0 ≤ J 0 9 ∧ J 0 9 ≤ 4
theorem e_torn {J : am_J} (h : sTn J) : ∃ r, f_UpRiver_torn J = some r ∧ f_UpRiverModel_torn J = some r ∧ am_i32 r :=
  ⟨J 0 9, rfl, by unfold f_UpRiverModel_torn; rw [h.1], by have := h.2; omega⟩
theorem e_read {b : Bool} {J : am_J} {x y f z : Int} (hr : sR b J) (hl : sLg J) (hs : sS J) (ht : sTn J) (hx : am_i32 x) (hy : am_i32 y) (hf : am_i32 f) (hz : am_i32 z) : ∃ r J' J2, f_UpRiver_read b x y f z J = some (r, J') ∧ f_UpRiverModel_read x y f z J' = some (r, J2) ∧ am_i32 r ∧ sLg J2 ∧ sTn J2 := by
  obtain ⟨h, q, e15⟩ := hr
  have hm := h.1.1
  have ob := rv_o b
  by_cases c0 : ((0 ≤ x ∧ x ≤ 3) ∧ (0 ≤ y ∧ y ≤ 2)) ∧ (0 ≤ z ∧ z ≤ 12)
  · have hk := hs x.toNat (by omega)
    have hb := sh1_b hk
    have mo : ∀ A : am_J, f_UpRiverModel_read x y f z A = f_UpRiverModel_read_L41 am_FU x y f z (A 68 6) 0 0 0 A := by
      intro A
      unfold f_UpRiverModel_read
      rw [m_isSheet hx hy, show (0 : Int64) = am_i2l 0 from rfl, show (12 : Int64) = am_i2l 12 from rfl, m_in hz (by decide) (by decide)]
      simp only [Option.bind_some, fl_32, if_true, fl_0]
      rw [if_neg (show ¬ ¬ ((0 ≤ x ∧ x ≤ 3) ∧ (0 ≤ y ∧ y ≤ 2)) from fun w => w c0.1), if_neg (show ¬ ¬ (0 ≤ z ∧ z ≤ 12) from fun w => w c0.2)]
    have co : f_UpRiver_read b x y f z J = if z = 0 then f_UpRiver_read_L67 b am_FU x f z 0 (J 19 2) 0 0 J else (f_Sheet_faultAs (57 + 2 * x.toNat) J y).bind fun g => f_UpRiver_read_L67 b am_FU x f z g (J 19 2) 0 0 J := by
      unfold f_UpRiver_read f_UpRiver_read_L47
      rw [c_isSheet hx, c_isKind hy]
      simp only [Option.bind_some, fl_32, if_true, fl_0]
      rw [if_neg (show ¬ ¬ (0 ≤ x ∧ x ≤ 3) from fun w => w c0.1.1), if_neg (show ¬ ¬ (0 ≤ y ∧ y ≤ 2) from fun w => w c0.1.2), if_pos hz, if_neg (show ¬ z < 0 by omega), if_neg (show ¬ 12 < z by omega)]
      have hc : x = 0 ∨ x = 1 ∨ x = 2 ∨ x = 3 := by omega
      rcases hc with rfl | rfl | rfl | rfl <;> rfl
    have fa : f_Sheet_faultAs (57 + 2 * x.toNat) J y = some (if J (57 + 2 * x.toNat) 2 = -4 then 1 else if y = J (57 + 2 * x.toNat) 1 then 0 else 3) := by
      unfold f_Sheet_faultAs
      rw [if_pos (show am_i32 (J (57 + 2 * x.toNat) 2) by omega)]
      by_cases d0 : J (57 + 2 * x.toNat) 2 = -4
      · rw [if_pos d0, if_pos d0]
      · rw [if_neg d0, if_neg d0]
        rcases hk with hk | hk
        · exact absurd hk.1 d0
        · rw [if_pos (show am_i32 (J (57 + 2 * x.toNat) 1) by omega), if_pos hy]
          by_cases d1 : y = J (57 + 2 * x.toNat) 1
          · rw [if_pos d1, if_pos d1]
          · rw [if_neg d1, if_neg d1]
    obtain ⟨N, hN⟩ : ∃ N, am_FU = N + 3 := ⟨19997, rfl⟩
    -- the end where a fault is found before a cell is looked at
    have stop : ∀ g : Int, (0 ≤ g ∧ g ≤ 3) → f_UpRiver_read b x y f z J = some (0, am_up J 0 9 g) → (∀ A : am_J, A 75 = J 75 → A 76 = J 76 → f_UpRiverModel_read x y f z A = some (0, am_up A 65 41 g)) → ∃ r J' J2, f_UpRiver_read b x y f z J = some (r, J') ∧ f_UpRiverModel_read x y f z J' = some (r, J2) ∧ am_i32 r ∧ sLg J2 ∧ sTn J2 := by
      intro g hg u w
      have w' := w (am_up J 0 9 g) (up_row (by decide)) (up_row (by decide))
      refine ⟨0, _, _, u, w', by decide, ?_, ?_⟩
      · obtain ⟨l1, l2, l3, l4, l5⟩ := hl
        unfold sLg
        rw [up_row (show 19 ≠ 65 by decide), up_row (show 19 ≠ 0 by decide), up_row (show 20 ≠ 65 by decide), up_row (show 20 ≠ 0 by decide), up_row (show 21 ≠ 65 by decide), up_row (show 21 ≠ 0 by decide), up_row (show 68 ≠ 65 by decide), up_row (show 68 ≠ 0 by decide), up_row (show 66 ≠ 65 by decide), up_row (show 66 ≠ 0 by decide)]
        exact ⟨l1, l2, l3, l4, l5⟩
      · unfold sTn
        rw [up_at, up_row (show 0 ≠ 65 by decide), up_at]
        omega
    by_cases z0 : z = 0
    · rw [if_pos z0, hN, c_rd_end (by omega) (by decide) (by decide) (Or.inl (by omega))] at co
      refine stop 0 (by omega) co fun A _ _ => ?_
      rw [mo, hN, m_rd_end (by omega) (by decide) (by decide) (Or.inl (by omega))]
    · rw [if_neg z0, fa] at co
      simp only [Option.bind_some] at co
      have m1 : ∀ A : am_J, f_UpRiverModel_read x y f z A = f_UpRiverModel_read_L56 (f_UpRiverModel_read_L41 (N + 2)) (N + 3) x y f z (A 68 6) 0 0 0 0 A := by
        intro A
        rw [mo, hN, f_UpRiverModel_read_L41.eq_2, if_pos hz, if_pos (show am_i32 0 by decide), if_pos (show 0 < z by omega), if_pos (show am_i32 0 by decide), if_pos (show (0 : Int) = 0 from rfl), hN]
      rcases hk with ⟨k1, k2⟩ | ⟨k1, k2, k3, k4, k5⟩
      · rw [if_pos k1, hN, c_rd_end hz (by decide) (by decide) (Or.inr (by decide))] at co
        refine stop 1 (by omega) co fun A a75 a76 => ?_
        rw [m1, f_UpRiverModel_read_L56.eq_2, if_pos (show am_i32 0 by decide), if_pos (show (0 : Int) < 2 by decide), if_pos (show am_i32 0 by decide), if_pos (show (0 : Int) = 0 from rfl), if_pos (show 0 ≤ x ∧ x < 4 by omega), a75, k2, if_pos (show am_i32 (-4) by decide), if_pos (show (-4 : Int) = -4 from rfl), m_rd_flt (by decide) (by decide) (by decide), m_rd_end hz (by decide) (by decide) (Or.inr (by decide))]
      · rw [if_neg (show ¬ J (57 + 2 * x.toNat) 2 = -4 by omega)] at co
        by_cases d1 : y = J (57 + 2 * x.toNat) 1
        · rw [if_pos d1] at co
          have rel : ∀ J2 : am_J, J2 66 = J 66 → J2 68 = J 68 → J2 75 = J 75 → J2 76 = J 76 → J2 77 = J 77 → J2 65 41 = J 65 41 → ∃ r J' J2', f_UpRiver_read b x y f z J = some (r, J') ∧ f_UpRiverModel_read x y f z J2 = some (r, J2') ∧ am_i32 r ∧ (J' 0 9 = J2' 65 41 ∧ 0 ≤ J' 0 9 ∧ J' 0 9 ≤ 4) ∧ ∃ m', J' 19 2 = m' ∧ J2' 68 6 = m' ∧ lg2 J' J2' (J 66 0) m' := by
            intro J2 a66 a68 a75 a76 a77 a41
            obtain ⟨l1, l2, l3, l4, l5⟩ := hl
            have L2 : lg2 J J2 (J 66 0) (J 19 2) := ⟨⟨l2, l3⟩, fun i hi => by rw [a68]; exact l4 i hi, l5⟩
            have run := read_loop (b := b) (J0 := J) (k := x.toNat) (by omega) (S := J (57 + 2 * x.toNat) 2) (kd := y) (top := J 66 0) k1 c0.1.2 (by omega) rfl (by rw [k3, d1]) k4 k5 hf c0.2 (had := J 19 2) l2 z.toNat am_FU 0 0 (J 19 2) J J2 (by have : am_FU = 20000 := rfl; omega) (by omega) (by omega) (by omega) (by omega) (by omega) (q.1 0 (by omega)) (by rw [a66]) rfl (by rw [a68, l1]) L2 rfl rfl a75 a76 a77 (by rw [a41]; exact ht.1) ht.2
            rw [show ((x.toNat : Nat) : Int) = x by omega] at run
            rw [co, mo, a68, ← l1]
            exact run
          obtain ⟨r, J', -, u1, -⟩ := rel J rfl rfl rfl rfl rfl rfl
          obtain ⟨r', J'', J2, w1, w2, w3, w4, m', w5, w6, w7⟩ := rel J' (by funext j; exact frJ_UpRiver_read u1 rfl) (by funext j; exact frJ_UpRiver_read u1 rfl) (by funext j; exact frJ_UpRiver_read u1 rfl) (by funext j; exact frJ_UpRiver_read u1 rfl) (by funext j; exact frJ_UpRiver_read u1 rfl) (frJ_UpRiver_read u1 rfl)
          obtain ⟨rfl, rfl⟩ := Prod.mk.inj (Option.some.inj (u1.symm.trans w1))
          have g19 : J2 19 = J' 19 := by funext j; exact frJ_UpRiverModel_read w2 rfl
          have g20 : J2 20 = J' 20 := by funext j; exact frJ_UpRiverModel_read w2 rfl
          have g21 : J2 21 = J' 21 := by funext j; exact frJ_UpRiverModel_read w2 rfl
          have g66 : J2 66 = J 66 := by funext j; exact (frJ_UpRiverModel_read w2 rfl).trans (frJ_UpRiver_read u1 rfl)
          have g9 : J2 0 9 = J' 0 9 := frJ_UpRiverModel_read w2 rfl
          obtain ⟨v1, v2, v3⟩ := w7
          refine ⟨r, J', J2, u1, w2, w3, ?_, ?_⟩
          · unfold sLg
            rw [g19, g20, g21, g66, w5, w6]
            exact ⟨rfl, v1.1, v1.2, v2, v3⟩
          · unfold sTn
            rw [g9]
            exact w4
        · rw [if_neg d1, hN, c_rd_end hz (by decide) (by decide) (Or.inr (by decide))] at co
          refine stop 3 (by omega) co fun A a75 a76 => ?_
          rw [m1, f_UpRiverModel_read_L56.eq_2, if_pos (show am_i32 0 by decide), if_pos (show (0 : Int) < 2 by decide), if_pos (show am_i32 0 by decide), if_pos (show (0 : Int) = 0 from rfl), if_pos (show 0 ≤ x ∧ x < 4 by omega), a75, k3, if_pos (show am_i32 (J (57 + 2 * x.toNat) 1) by omega), if_neg (show ¬ J (57 + 2 * x.toNat) 1 = -4 by omega), if_pos hy, if_neg (show ¬ J (57 + 2 * x.toNat) 1 = y from fun w => d1 w.symm), m_rd_flt (by decide) (by decide) (by decide), m_rd_end hz (by decide) (by decide) (Or.inr (by decide))]
  · refine ⟨-1, J, J, ?_, ?_, by decide, hl, ht⟩
    · unfold f_UpRiver_read
      rw [c_isSheet hx, c_isKind hy]
      simp only [Option.bind_some, fl_32, if_true, fl_0]
      by_cases a : 0 ≤ x ∧ x ≤ 3
      · rw [if_neg (show ¬ ¬ (0 ≤ x ∧ x ≤ 3) from fun w => w a)]
        by_cases d : 0 ≤ y ∧ y ≤ 2
        · rw [if_neg (show ¬ ¬ (0 ≤ y ∧ y ≤ 2) from fun w => w d), if_pos hz]
          by_cases e : z < 0
          · rw [if_pos e]
          · rw [if_neg e, if_pos (show 12 < z by omega)]
        · rw [if_pos d]
      · rw [if_pos a]
    · unfold f_UpRiverModel_read
      rw [m_isSheet hx hy, show (0 : Int64) = am_i2l 0 from rfl, show (12 : Int64) = am_i2l 12 from rfl, m_in hz (by decide) (by decide)]
      simp only [Option.bind_some, fl_32, if_true, fl_0]
      by_cases a : (0 ≤ x ∧ x ≤ 3) ∧ (0 ≤ y ∧ y ≤ 2)
      · rw [if_neg (show ¬ ¬ ((0 ≤ x ∧ x ≤ 3) ∧ (0 ≤ y ∧ y ≤ 2)) from fun w => w a), if_pos (show ¬ (0 ≤ z ∧ z ≤ 12) from fun w => c0 ⟨a, w⟩)]
      · rw [if_pos a]
