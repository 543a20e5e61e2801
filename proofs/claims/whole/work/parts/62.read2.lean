def rdG (b : Bool) (o : Nat) (n : Nat) (x1 x3 x4 x6 x7 x8 : Int) (J : am_J) : Option (Int × am_J) := (f_Sheet_hasCell o J ((am_i2l x3) + ((2 : Int64) * (am_i2l x8)))).bind fun q1414 => if am_i32 q1414 then (if q1414 = 0 then (f_UpRiver_read_L67 b n x1 x3 x4 2 x6 x7 (x8 + 1) J) else ((f_Sheet_hasCell o J (((am_i2l x3) + ((2 : Int64) * (am_i2l x8))) + (1 : Int64))).bind fun q1418 => if am_i32 q1418 then (if q1418 = 0 then (f_UpRiver_read_L67 b n x1 x3 x4 2 x6 x7 (x8 + 1) J) else ((f_Sheet_cellAt o J ((am_i2l x3) + ((2 : Int64) * (am_i2l x8)))).bind fun q1422 => (f_Sheet_cellAt o J (((am_i2l x3) + ((2 : Int64) * (am_i2l x8))) + (1 : Int64))).bind fun q1424 => (f_UpRiver_logged b q1422 q1424 J).bind fun q1426 => if am_i32 q1426.1 then (if q1426.1 < 0 then (some ((-20) - x8, (am_up q1426.2 19 2 x6))) else (f_UpRiver_read_L67 b n x1 x3 x4 0 x6 (x7 + 1) (x8 + 1) q1426.2)) else none)) else none)) else none
theorem c_rd_go {b : Bool} {k n : Nat} {x3 x4 x6 x7 x8 : Int} {J : am_J} (hk : k < 4) (h4 : am_i32 x4) (h8 : am_i32 x8) (h : x8 < x4) : f_UpRiver_read_L67 b (n + 1) (k : Int) x3 x4 0 x6 x7 x8 J = rdG b (57 + 2 * k) n (k : Int) x3 x4 x6 x7 x8 J := by
  rw [f_UpRiver_read_L67.eq_2, if_pos h4, if_pos h8, if_pos h, if_pos (show am_i32 0 by decide), if_pos (show (0 : Int) = 0 from rfl)]
  have hc : k = 0 ∨ k = 1 ∨ k = 2 ∨ k = 3 := by omega
  rcases hc with rfl | rfl | rfl | rfl <;> rfl
theorem c_rd_end {b : Bool} {n : Nat} {x1 x3 x4 g x6 x7 x8 : Int} {J : am_J} (h4 : am_i32 x4) (h8 : am_i32 x8) (hg : am_i32 g) (h : ¬ x8 < x4 ∨ g ≠ 0) : f_UpRiver_read_L67 b (n + 1) x1 x3 x4 g x6 x7 x8 J = some (x7, am_up J 0 9 g) := by
  rw [f_UpRiver_read_L67.eq_2, if_pos h4, if_pos h8, if_pos hg]
  by_cases c0 : x8 < x4
  · rw [if_pos c0]
    rcases h with h | h
    · exact absurd c0 h
    · rw [if_neg h]
  · rw [if_neg c0]
theorem m_rd_end {n : Nat} {x1 x2 x3 x4 g x5 x7 x8 : Int} {J : am_J} (h4 : am_i32 x4) (h8 : am_i32 x8) (hg : am_i32 g) (h : ¬ x8 < x4 ∨ g ≠ 0) : f_UpRiverModel_read_L41 (n + 1) x1 x2 x3 x4 x5 g x7 x8 J = some (x7, am_up J 65 41 g) := by
  rw [f_UpRiverModel_read_L41.eq_2, if_pos h4, if_pos h8, if_pos hg]
  by_cases c0 : x8 < x4
  · rw [if_pos c0]
    rcases h with h | h
    · exact absurd c0 h
    · rw [if_neg h]
  · rw [if_neg c0]
theorem m_rd_flt {kb : Int → Int → Int → Int → Int → Int → Int → Int → am_J → Option (Int × am_J)} {n : Nat} {x1 x2 x3 x4 x5 g x7 x8 x9 : Int} {J : am_J} (hg : am_i32 g) (h : g ≠ 0) (h9 : am_i32 x9) : f_UpRiverModel_read_L56 kb (n + 1) x1 x2 x3 x4 x5 g x7 x8 x9 J = kb x1 x2 x3 x4 x5 g x7 (x8 + 1) J := by
  have L143 : f_UpRiverModel_read_L143 kb x1 x2 x3 x4 x5 g x7 x8 J = kb x1 x2 x3 x4 x5 g x7 (x8 + 1) J := by
    unfold f_UpRiverModel_read_L143
    rw [if_pos hg, if_neg h]
  rw [f_UpRiverModel_read_L56.eq_2, if_pos h9, if_pos hg, if_neg h, L143]
  by_cases c0 : x9 < 2
  · rw [if_pos c0]
  · rw [if_neg c0]
theorem m_rd_c {kb : Int → Int → Int → Int → Int → Int → Int → Int → am_J → Option (Int × am_J)} {n : Nat} {x1 x2 x3 x4 x5 x7 x8 x9 S : Int} {J : am_J} (h1 : 0 ≤ x1 ∧ x1 < 4) (h2 : am_i32 x2) (h3 : am_i32 x3) (h8 : 0 ≤ x8 ∧ x8 ≤ 12) (h9 : 0 ≤ x9 ∧ x9 < 2) (e75 : J 75 x1.toNat = x2) (h75 : x2 ≠ -4) (e76 : J 76 x1.toNat = S) (hS : 0 ≤ S ∧ S ≤ 40) : f_UpRiverModel_read_L56 kb (n + 1) x1 x2 x3 x4 x5 0 x7 x8 x9 J = if 0 ≤ x3 + 2 * x8 + x9 ∧ x3 + 2 * x8 + x9 < S then f_UpRiverModel_read_L56 kb n x1 x2 x3 x4 x5 0 x7 x8 (x9 + 1) J else f_UpRiverModel_read_L56 kb n x1 x2 x3 x4 x5 2 x7 x8 (x9 + 1) J := by
  have hp : (am_i2l x3 + am_i2l (2 * x8) + am_i2l x9).toInt = x3 + 2 * x8 + x9 := rd_add (rd_add (i2l_ti h3) (i2l_ti (by omega)) (by omega)) (i2l_ti (by omega)) (by omega)
  have e0 : am_lcmp (am_i2l x3 + am_i2l (2 * x8) + am_i2l x9) 0 < 0 ↔ x3 + 2 * x8 + x9 < 0 := by rw [l_lt, hp]; rfl
  have e1 : am_lcmp (am_i2l x3 + am_i2l (2 * x8) + am_i2l x9) (am_i2l S) < 0 ↔ x3 + 2 * x8 + x9 < S := by rw [l_lt, hp, i2l_ti (by omega)]
  rw [f_UpRiverModel_read_L56.eq_2, if_pos (show am_i32 x9 by omega), if_pos h9.2, if_pos (show am_i32 0 by decide), if_pos (show (0 : Int) = 0 from rfl), if_pos h1, e75, if_pos h2, if_neg h75, if_pos h2, if_pos (show x2 = x2 from rfl), if_pos (am_lcmp32 _ _), e76, if_pos (am_lcmp32 _ _)]
  by_cases c0 : x3 + 2 * x8 + x9 < 0
  · rw [if_pos (e0.mpr c0), if_neg (show ¬ (0 ≤ x3 + 2 * x8 + x9 ∧ x3 + 2 * x8 + x9 < S) by omega)]
  · rw [if_neg (fun z => c0 (e0.mp z))]
    by_cases c1 : x3 + 2 * x8 + x9 < S
    · rw [if_pos (e1.mpr c1), if_pos (show 0 ≤ x3 + 2 * x8 + x9 ∧ x3 + 2 * x8 + x9 < S by omega)]
    · rw [if_neg (fun z => c1 (e1.mp z)), if_neg (show ¬ (0 ≤ x3 + 2 * x8 + x9 ∧ x3 + 2 * x8 + x9 < S) by omega)]
theorem read_loop {b : Bool} {J0 : am_J} {k : Nat} (hk : k < 4) {S kd top : Int} (hS : 0 ≤ S ∧ S ≤ 40) (hkd : 0 ≤ kd ∧ kd ≤ 2) (htop : 0 ≤ top ∧ top ≤ 8) (j1 : J0 (57 + 2 * k) 2 = S) (j3 : J0 75 k = kd) (j4 : J0 76 k = S) (j5 : ∀ i, i < 40 → J0 (57 + 2 * k + 1) i = J0 77 (40 * k + i) ∧ am_i32 (J0 (57 + 2 * k + 1) i)) {x3 x4 : Int} (h3 : am_i32 x3) (h4 : 0 ≤ x4 ∧ x4 ≤ 12) {had : Int} (hh : 0 ≤ had) : ∀ (d n : Nat) (c i m : Int) (J J2 : am_J), d < n → x4 - i = (d : Int) → 0 ≤ i → 0 ≤ c → c ≤ i → had ≤ m → J (am_rv b + 1) 0 = top → J2 66 0 = top → J 19 2 = m → J2 68 6 = m → lg2 J J2 top m → J (57 + 2 * k) = J0 (57 + 2 * k) → J (57 + 2 * k + 1) = J0 (57 + 2 * k + 1) → J2 75 = J0 75 → J2 76 = J0 76 → J2 77 = J0 77 → J 0 9 = J2 65 41 → (0 ≤ J 0 9 ∧ J 0 9 ≤ 4) → ∃ r J' J2', f_UpRiver_read_L67 b n (k : Int) x3 x4 0 had c i J = some (r, J') ∧ f_UpRiverModel_read_L41 n (k : Int) kd x3 x4 had 0 c i J2 = some (r, J2') ∧ am_i32 r ∧ (J' 0 9 = J2' 65 41 ∧ 0 ≤ J' 0 9 ∧ J' 0 9 ≤ 4) ∧ ∃ m', J' 19 2 = m' ∧ J2' 68 6 = m' ∧ lg2 J' J2' top m' := by
  intro d
  induction d with
  | zero =>
    intro n c i m J J2 hn hd i0 c0 ci hm et et2 em em2 hl s1 s2 s3 s4 s5 tn tb
    obtain ⟨n, rfl⟩ : ∃ m, n = m + 1 := ⟨n - 1, by omega⟩
    rw [c_rd_end (by omega) (by omega) (by decide) (Or.inl (by omega)), m_rd_end (by omega) (by omega) (by decide) (Or.inl (by omega))]
    refine ⟨c, _, _, rfl, rfl, by omega, by rw [up_at, up_at]; omega, m, by rw [up_row (by decide)]; exact em, by rw [up_row (by decide)]; exact em2, lg2_cong hl (up_row (by decide)) (up_row (by decide)) fun j _ _ => by rw [up_row (by decide)]⟩
  | succ d ih =>
    intro n c i m J J2 hn hd i0 c0 ci hm et et2 em em2 hl s1 s2 s3 s4 s5 tn tb
    obtain ⟨n, rfl⟩ : ∃ m, n = m + 1 := ⟨n - 1, by omega⟩
    have lm := hl.1
    have hp : (am_i2l x3 + (2 : Int64) * am_i2l i).toInt = x3 + 2 * i := rd_add (i2l_ti h3) (rd_mul2 (i2l_ti (by omega)) (by omega)) (by omega)
    have hp1 : (am_i2l x3 + (2 : Int64) * am_i2l i + 1).toInt = x3 + 2 * i + 1 := rd_add hp rfl (by omega)
    have hs : -4 ≤ J (57 + 2 * k) 2 ∧ J (57 + 2 * k) 2 ≤ 40 := by rw [s1]; omega
    have flt : ∃ r J' J2', f_UpRiver_read_L67 b n (k : Int) x3 x4 2 had c (i + 1) J = some (r, J') ∧ f_UpRiverModel_read_L41 n (k : Int) kd x3 x4 had 2 c (i + 1) J2 = some (r, J2') ∧ am_i32 r ∧ (J' 0 9 = J2' 65 41 ∧ 0 ≤ J' 0 9 ∧ J' 0 9 ≤ 4) ∧ ∃ m', J' 19 2 = m' ∧ J2' 68 6 = m' ∧ lg2 J' J2' top m' := by
      obtain ⟨n, rfl⟩ : ∃ m, n = m + 1 := ⟨n - 1, by omega⟩
      rw [c_rd_end (by omega) (by omega) (by decide) (Or.inr (by decide)), m_rd_end (by omega) (by omega) (by decide) (Or.inr (by decide))]
      exact ⟨c, _, _, rfl, rfl, by omega, by rw [up_at, up_at]; omega, m, by rw [up_row (by decide)]; exact em, by rw [up_row (by decide)]; exact em2, lg2_cong hl (up_row (by decide)) (up_row (by decide)) fun j _ _ => by rw [up_row (by decide)]⟩
    obtain ⟨N, hN⟩ : ∃ N, am_FU = N + 3 := ⟨19997, rfl⟩
    rw [c_rd_go hk (by omega) (by omega) (by omega), f_UpRiverModel_read_L41.eq_2, if_pos (show am_i32 x4 by omega), if_pos (show am_i32 i by omega), if_pos (show i < x4 by omega), if_pos (show am_i32 0 by decide), if_pos (show (0 : Int) = 0 from rfl), hN, m_rd_c (S := S) (by omega) (by omega) h3 (by omega) (by omega) (by rw [s3]; exact j3) (by omega) (by rw [s4]; exact j4) hS]
    unfold rdG
    rw [c_hasCell hs, hp, s1, j1]
    simp only [Option.bind_some, fl_32, if_true, fl_0]
    rw [show x3 + 2 * i + 0 = x3 + 2 * i by omega]
    by_cases a0 : 0 ≤ x3 + 2 * i ∧ x3 + 2 * i < S
    · rw [if_neg (show ¬ ¬ (0 ≤ x3 + 2 * i ∧ x3 + 2 * i < S) from fun z => z a0), if_pos a0, c_hasCell hs, hp1, s1, j1, m_rd_c (S := S) (by omega) (by omega) h3 (by omega) (by omega) (by rw [s3]; exact j3) (by omega) (by rw [s4]; exact j4) hS]
      simp only [Option.bind_some, fl_32, if_true, fl_0]
      rw [show x3 + 2 * i + (0 + 1) = x3 + 2 * i + 1 by omega]
      by_cases a1 : 0 ≤ x3 + 2 * i + 1 ∧ x3 + 2 * i + 1 < S
      · rw [if_neg (show ¬ ¬ (0 ≤ x3 + 2 * i + 1 ∧ x3 + 2 * i + 1 < S) from fun z => z a1), if_pos a1]
        have ca0 : f_Sheet_cellAt (57 + 2 * k) J (am_i2l x3 + (2 : Int64) * am_i2l i) = some (J (57 + 2 * k + 1) (x3 + 2 * i).toNat) := by
          unfold f_Sheet_cellAt
          rw [c_hasCell hs, hp, s1, j1]
          simp only [Option.bind_some, fl_32, if_true, fl_0]
          rw [if_neg (show ¬ ¬ (0 ≤ x3 + 2 * i ∧ x3 + 2 * i < S) from fun z => z a0), rd_l2i hp (by omega), if_pos (show 0 ≤ x3 + 2 * i ∧ x3 + 2 * i < 40 by omega)]
        have ca1 : f_Sheet_cellAt (57 + 2 * k) J (am_i2l x3 + (2 : Int64) * am_i2l i + 1) = some (J (57 + 2 * k + 1) (x3 + 2 * i + 1).toNat) := by
          unfold f_Sheet_cellAt
          rw [c_hasCell hs, hp1, s1, j1]
          simp only [Option.bind_some, fl_32, if_true, fl_0]
          rw [if_neg (show ¬ ¬ (0 ≤ x3 + 2 * i + 1 ∧ x3 + 2 * i + 1 < S) from fun z => z a1), rd_l2i hp1 (by omega), if_pos (show 0 ≤ x3 + 2 * i + 1 ∧ x3 + 2 * i + 1 < 40 by omega)]
        obtain ⟨b1, b2⟩ := j5 (x3 + 2 * i).toNat (by omega)
        obtain ⟨d1, d2⟩ := j5 (x3 + 2 * i + 1).toNat (by omega)
        rw [ca0, ca1]
        simp only [Option.bind_some]
        rw [f_UpRiverModel_read_L56.eq_2, if_pos (show am_i32 (0 + 1 + 1) by decide), if_neg (show ¬ (0 + 1 + 1 : Int) < 2 by decide)]
        unfold f_UpRiverModel_read_L143
        rw [if_pos (show am_i32 0 by decide), if_pos (show (0 : Int) = 0 from rfl), if_pos (show 0 ≤ 40 * (k : Int) + x3 + 2 * i ∧ 40 * (k : Int) + x3 + 2 * i < 160 by omega), if_pos (show 0 ≤ 40 * (k : Int) + x3 + 2 * i + 1 ∧ 40 * (k : Int) + x3 + 2 * i + 1 < 160 by omega), s5, s2, show (40 * (k : Int) + x3 + 2 * i).toNat = 40 * k + (x3 + 2 * i).toNat by omega, show (40 * (k : Int) + x3 + 2 * i + 1).toNat = 40 * k + (x3 + 2 * i + 1).toNat by omega, ← b1, ← d1]
        generalize J0 (57 + 2 * k + 1) (x3 + 2 * i).toNat = X at *
        generalize J0 (57 + 2 * k + 1) (x3 + 2 * i + 1).toNat = T at *
        have eR : 0 < m → J2 68 (7 + 2 * (m - 1)).toNat = J 20 (m - 1).toNat ∧ J2 68 (7 + 2 * (m - 1) + 1).toNat = J 21 (m - 1).toNat ∧ am_i32 (J 20 (m - 1).toNat) ∧ am_i32 (J 21 (m - 1).toNat) := by
          intro pm
          have hq := hl.2.1 (m - 1).toNat (by omega)
          rw [show (7 + 2 * (m - 1)).toNat = 7 + 2 * (m - 1).toNat by omega, show (7 + 2 * (m - 1) + 1).toNat = 8 + 2 * (m - 1).toNat by omega]
          exact ⟨hq.1.symm, hq.2.1.symm, by omega, by omega⟩
        have eB : lgBad top m (J2 68 (7 + 2 * (m - 1)).toNat) (J2 68 (7 + 2 * (m - 1) + 1).toNat) X T ↔ lgBad top m (J 20 (m - 1).toNat) (J 21 (m - 1).toNat) X T := by
          by_cases pm : 0 < m
          · rw [(eR pm).1, (eR pm).2.1]
          · constructor
            · rintro (z | z | z)
              · exact Or.inl z
              · exact Or.inr (Or.inl z)
              · exact absurd z.1 pm
            · rintro (z | z | z)
              · exact Or.inl z
              · exact Or.inr (Or.inl z)
              · exact absurd z.1 pm
        rw [c_logged et em htop lm (fun pm => ⟨(eR pm).2.2.1, (eR pm).2.2.2⟩) b2 d2, m_logged et2 em2 htop lm (fun pm => ⟨by rw [(eR pm).1]; exact (eR pm).2.2.1, by rw [(eR pm).2.1]; exact (eR pm).2.2.2⟩) b2 d2]
        have back : ∀ q : Int, am_i32 q → q < 0 → ∃ r J' J2', ((some (q, J)).bind fun q1426 : Int × am_J => if am_i32 q1426.1 then (if q1426.1 < 0 then (some ((-20) - i, (am_up q1426.2 19 2 had))) else (f_UpRiver_read_L67 b n (k : Int) x3 x4 0 had (c + 1) (i + 1) q1426.2)) else none) = some (r, J') ∧ ((some (q, J2)).bind fun q2886 : Int × am_J => if am_i32 q2886.1 then (if q2886.1 < 0 then (some ((-20) - i, (am_up q2886.2 68 6 had))) else (f_UpRiverModel_read_L41 n (k : Int) kd x3 x4 had 0 (c + 1) (i + 1) q2886.2)) else none) = some (r, J2') ∧ am_i32 r ∧ (J' 0 9 = J2' 65 41 ∧ 0 ≤ J' 0 9 ∧ J' 0 9 ≤ 4) ∧ ∃ m', J' 19 2 = m' ∧ J2' 68 6 = m' ∧ lg2 J' J2' top m' := by
          intro q q32 qn
          simp only [Option.bind_some]
          rw [if_pos q32, if_pos q32, if_pos qn, if_pos qn]
          refine ⟨_, _, _, rfl, rfl, by omega, ?_, had, up_at _ _ _ _, up_at _ _ _ _, ?_⟩
          · rw [up_row (by decide), up_row (by decide)]
            exact ⟨tn, tb⟩
          · exact lg2_cong (lg2_less hl hh hm) (up_row (by decide)) (up_row (by decide)) fun j h7 h31 => up_ne (by omega)
        by_cases bad : lgBad top m (J 20 (m - 1).toNat) (J 21 (m - 1).toNat) X T
        · rw [if_pos bad, if_pos (eB.mpr bad)]
          exact back (-1) (by decide) (by decide)
        · rw [if_neg bad, if_neg (fun z => bad (eB.mp z))]
          by_cases full : m < 12
          · rw [if_pos full, if_pos full]
            simp only [Option.bind_some]
            rw [if_pos (show am_i32 (m + 1) by omega), if_pos (show am_i32 (m + 1) by omega), if_neg (show ¬ m + 1 < 0 by omega), if_neg (show ¬ m + 1 < 0 by omega)]
            have ob := rv_o b
            have rc : ∀ a, a ≠ 19 → a ≠ 20 → a ≠ 21 → lgC J m X T a = J a := fun a a1 a2 a3 => by unfold lgC; rw [up_row a1, up_row a3, up_row a2]
            have rm : ∀ a, a ≠ 68 → lgM J2 m X T a = J2 a := fun a a1 => by unfold lgM; rw [up_row a1, up_row a1, up_row a1]
            exact ih n (c + 1) (i + 1) (m + 1) (lgC J m X T) (lgM J2 m X T) (by omega) (by omega) (by omega) (by omega) (by omega) (by omega) (by rw [rc _ (by omega) (by omega) (by omega)]; exact et) (by rw [rm _ (by decide)]; exact et2) (up_at _ _ _ _) (up_at _ _ _ _) (lg2_put hl full bad) (by rw [rc _ (by omega) (by omega) (by omega)]; exact s1) (by rw [rc _ (by omega) (by omega) (by omega)]; exact s2) (by rw [rm _ (by decide)]; exact s3) (by rw [rm _ (by decide)]; exact s4) (by rw [rm _ (by decide)]; exact s5) (by rw [rc _ (by decide) (by decide) (by decide), rm _ (by decide)]; exact tn) (by rw [rc _ (by decide) (by decide) (by decide)]; exact tb)
          · rw [if_neg full, if_neg full]
            exact back (-3) (by decide) (by decide)
      · rw [if_pos a1, if_neg a1, m_rd_flt (by decide) (by decide) (by decide)]
        exact flt
    · rw [if_pos a0, if_neg a0, m_rd_flt (by decide) (by decide) (by decide)]
      exact flt
