/-! start: class against reference -/
theorem m_start_L80 {kb : Int → Int → Int → Int → Int → am_J → Option (Int × am_J)} {x1 x3 x4 x5 x6 s : Int} {J : am_J} (hs : s = 0 ∨ s = 1) : f_UpRiverModel_start_L80 kb x1 x3 x4 x5 x6 s J = kb x1 x5 (if s = 0 then x3 else x5) (if s = 0 then x4 else x6 - x5) (x5 + 1) J := by
  unfold f_UpRiverModel_start_L80 f_UpRiverModel_start_L96
  rcases hs with rfl | rfl
  · rw [if_pos (show am_i32 0 by decide), if_pos (show (0 : Int) = 0 from rfl), if_pos (show am_i32 0 by decide), if_pos (show (0 : Int) = 0 from rfl)]; rfl
  · rw [if_pos (show am_i32 1 by decide), if_neg (show ¬ (1 : Int) = 0 by decide), if_pos (show am_i32 1 by decide), if_neg (show ¬ (1 : Int) = 0 by decide)]; rfl
/-- what the reference answers at the end -/
def stR (x a q w : Int) : Int := if a = -4 then -4 else if x = 0 then a else if x = 1 then q else w
theorem m_start_end {x a q w : Int} {J : am_J} (hx : 0 ≤ x ∧ x ≤ 2) (ha : am_i32 a) {n : Nat} {t : Int} (ht : am_i32 t) (h : 300 < t) : f_UpRiverModel_start_L30 (n + 1) x a q w t J = some (stR x a q w, J) := by
  rw [f_UpRiverModel_start_L30.eq_2, if_pos ht, if_pos h, if_pos ha, if_pos (show am_i32 x by omega)]
  unfold stR
  split
  · rfl
  · split
    · rfl
    · split <;> rfl
theorem m_start_tail {v : Nat → Int} (hv : rv_ok v) {x a q w : Int} {J : am_J} (hx : 0 ≤ x ∧ x ≤ 2) (ha : am_i32 a) (e66 : J 66 = v) : ∀ (k n : Nat) (t : Int), k < n → 301 - t = (k : Int) → 0 ≤ t → (∀ i : Nat, t ≤ (i : Int) → i ≤ 300 → v 6 < J 74 i ∧ J 74 i ≤ 9999) → f_UpRiverModel_start_L30 n x a q w t J = some (stR x a q w, J) := by
  have h6 := hv.1.2.2.2.2.2.2
  intro k
  induction k with
  | zero =>
    intro n t hn hk t0 h
    obtain ⟨n, rfl⟩ : ∃ m, n = m + 1 := ⟨n - 1, by omega⟩
    exact m_start_end hx ha (by omega) (by omega)
  | succ k ih =>
    intro n t hn hk t0 h
    obtain ⟨n, rfl⟩ : ∃ m, n = m + 1 := ⟨n - 1, by omega⟩
    have h1 := h t.toNat (by omega) (by omega)
    rw [f_UpRiverModel_start_L30.eq_2, if_pos (show am_i32 t by omega), if_neg (show ¬ 300 < t by omega), if_pos (show 0 ≤ t ∧ t < 301 by omega), e66, if_pos (show am_i32 (v 6) by omega), if_pos (show am_i32 (J 74 t.toNat) by omega), if_pos h1.1]
    exact ih n (t + 1) (by omega) (by omega) (by omega) fun i i1 i2 => h i (by omega) i2
theorem start_loop {b : Bool} {v : Nat → Int} (hv : rv_ok v) {x : Int} (hx : 0 ≤ x ∧ x ≤ 2) {J2 : am_J} (e66 : J2 66 = v) (hS : ∀ i : Nat, i ≤ 300 → upV (fun y => CnT v y i 0 (v 7) 0) (J2 74 i)) : ∀ (k n : Nat) (a q w w' t : Int) (J : am_J) (K : am_K), k < n → 301 - t = (k : Int) → 0 ≤ t → (a = -4 ∧ q = -4 ∧ w = -4) ∨ ((0 ≤ a ∧ a ≤ 300) ∧ (0 ≤ q ∧ q ≤ 300) ∧ (0 ≤ w ∧ w ≤ 300) ∧ w' = w) → rq (am_rv b) J v → rK (am_rv b) K v → sA v J → ∃ r J' K', f_UpRiver_start_L24 b n x a q w t J K = some (r, J', K') ∧ f_UpRiverModel_start_L30 n x a q w' t J2 = some (r, J2) ∧ am_i32 r ∧ sA v J' := by
  have h6 := hv.1.2.2.2.2.2.2
  have h5 := hv.1.2.2.2.2.2.1
  have h7 := rv_7 hv
  have fin : ∀ (a q w w' : Int) (J : am_J) (K : am_K), (a = -4 ∧ q = -4 ∧ w = -4) ∨ ((0 ≤ a ∧ a ≤ 300) ∧ (0 ≤ q ∧ q ≤ 300) ∧ (0 ≤ w ∧ w ≤ 300) ∧ w' = w) → f_UpRiver_start_L101 b x a q w J K = some (stR x a q w', J, K) ∧ am_i32 (stR x a q w') := by
    intro a q w w' J K rel
    unfold f_UpRiver_start_L101 stR
    rw [if_pos (show am_i32 x by omega)]
    rcases rel with ⟨r1, r2, r3⟩ | ⟨r1, r2, r3, r4⟩
    · rw [if_pos r1]
      refine ⟨?_, by decide⟩
      by_cases c0 : x = 0
      · rw [if_pos c0, r1]
      · rw [if_neg c0]
        by_cases c1 : x = 1
        · rw [if_pos c1, r2]
        · rw [if_neg c1, r3]
    · rw [if_neg (show ¬ a = -4 by omega)]
      by_cases c0 : x = 0
      · rw [if_pos c0, if_pos c0]; exact ⟨rfl, by omega⟩
      · rw [if_neg c0, if_neg c0]
        by_cases c1 : x = 1
        · rw [if_pos c1, if_pos c1]; exact ⟨rfl, by omega⟩
        · rw [if_neg c1, if_neg c1, r4]; exact ⟨rfl, by omega⟩
  intro k
  induction k with
  | zero =>
    intro n a q w w' t J K hn hk t0 rel rq1 rk1 hA
    obtain ⟨n, rfl⟩ : ∃ m, n = m + 1 := ⟨n - 1, by omega⟩
    obtain ⟨f1, f2⟩ := fin a q w w' J K rel
    rw [f_UpRiver_start_L24.eq_2, if_pos (show am_i32 t by omega), if_pos (show 300 < t by omega), m_start_end hx (by omega) (by omega) (by omega), f1]
    exact ⟨_, J, K, rfl, rfl, f2, hA⟩
  | succ k ih =>
    intro n a q w w' t J K hn hk t0 rel rq1 rk1 hA
    obtain ⟨n, rfl⟩ : ∃ m, n = m + 1 := ⟨n - 1, by omega⟩
    obtain ⟨r, J', K', u1, u2, u3⟩ := c_startArrival hv rq1 rk1 hA (t := t) (by omega)
    have q' : rq (am_rv b) J' v := rq_nw rq1 (fun a j hw => frJ_UpRiver_startArrival u1 hw) rfl rfl
    have k' : rK (am_rv b) K' v := rK_nw rk1 (fun a j hw => frK_UpRiver_startArrival u1 hw)
    have hSt := hS t.toNat (by omega)
    rw [show ((t.toNat : Nat) : Int) = t by omega] at hSt
    have r32 := arr_32 u2
    have s1 := hSt.1
    have b1 := u2.1
    -- the two agree
    have agr : ∀ y, y ≤ 300 → ((r ≠ -4 ∧ r ≤ y) ↔ J2 74 t.toNat ≤ y) := by
      intro y hy
      rw [u2.2 y hy, hSt.2 y hy]
      exact ⟨fun z => z.2.2, fun z => ⟨h7.1, h7.2, z⟩⟩
    have lt : r ≠ -4 → t < r := by
      intro nn
      exact Cn_lt h5.1 ((u2.2 r (by omega)).mp ⟨nn, by omega⟩).2.2
    rw [f_UpRiver_start_L24.eq_2, if_pos (show am_i32 t by omega), if_neg (show ¬ 300 < t by omega), u1]
    simp only [Option.bind_some]
    rw [if_pos r32, q'.1 6 (by omega), if_pos (show am_i32 (v 6) by omega)]
    by_cases c0 : r ≠ -4 ∧ r ≤ v 6
    · have es : J2 74 t.toNat = r := by
        have a1 := (agr r (by omega)).mp ⟨c0.1, by omega⟩
        have a2 := (agr (J2 74 t.toNat) (by omega)).mpr (by omega)
        omega
      have hlt := lt c0.1
      rw [if_neg c0.1, if_neg (show ¬ v 6 < r by omega), if_pos (show am_i32 w by omega), f_UpRiverModel_start_L30.eq_2, if_pos (show am_i32 t by omega), if_neg (show ¬ 300 < t by omega), if_pos (show 0 ≤ t ∧ t < 301 by omega), e66, es, if_pos (show am_i32 (v 6) by omega), if_pos r32, if_neg (show ¬ v 6 < r by omega), if_pos (show am_i32 q by omega), m_start_L80 (Or.inr rfl), m_start_L80 (Or.inl rfl), if_neg (show ¬ (1 : Int) = 0 by decide), if_neg (show ¬ (1 : Int) = 0 by decide), if_pos (show (0 : Int) = 0 from rfl), if_pos (show (0 : Int) = 0 from rfl)]
      have win : ∃ p J'' K'', f_UpRiver_start_L24 b n x t t (r - t) (t + 1) J' K' = some (p, J'', K'') ∧ f_UpRiverModel_start_L30 n x t t (r - t) (t + 1) J2 = some (p, J2) ∧ am_i32 p ∧ sA v J'' :=
        ih n t t (r - t) (r - t) (t + 1) J' K' (by omega) (by omega) (by omega) (Or.inr ⟨by omega, by omega, by omega, rfl⟩) q' k' u3
      rcases rel with ⟨r1, r2, r3⟩ | ⟨r1, r2, r3, r4⟩
      · rw [if_pos r3, if_pos r2]
        exact win
      · rw [if_neg (show ¬ w = -4 by omega), if_neg (show ¬ q = -4 by omega), if_pos (show am_i32 (r - t) by omega), if_pos (show am_i32 w' by omega), if_pos (show am_i32 (r - t) by omega), r4]
        by_cases c1 : r - t < w
        · rw [if_pos c1, if_pos c1]
          exact win
        · rw [if_neg c1, if_neg c1]
          exact ih n t q w w (t + 1) J' K' (by omega) (by omega) (by omega) (Or.inr ⟨by omega, r2, r3, rfl⟩) q' k' u3
    · -- none of the later ones is up by dark
      have none : ∀ (m : Nat) (i : Nat), t + (m : Int) = (i : Int) → i ≤ 300 → v 6 < J2 74 i := by
        intro m i hi h3
        have hc : ¬ CnT v (v 6) t 0 (v 7) 0 := fun z => c0 ((u2.2 (v 6) (by omega)).mpr ⟨h7.1, h7.2, z⟩)
        have hd : ∀ m : Nat, ¬ CnT v (v 6) (t + (m : Int)) 0 (v 7) 0 := by
          intro m
          induction m with
          | zero => rw [show t + ((0 : Nat) : Int) = t by omega]; exact hc
          | succ m ihm =>
            intro z
            apply ihm
            refine (Cn_eq ..).mpr (Or.inl ?_)
            rw [show t + (m : Int) + 1 = t + ((m + 1 : Nat) : Int) by omega]
            exact z
        have := (hS i h3).2 (v 6) (by omega)
        have hm := hd m
        rw [hi] at hm
        have : ¬ J2 74 i ≤ v 6 := fun z => hm (this.mp z)
        omega
      obtain ⟨f1, f2⟩ := fin a q w w' J' K' rel
      rw [m_start_tail hv hx (by omega) e66 (k + 1) (n + 1) t (by omega) hk t0 (fun i i1 i2 => ⟨none (i - t.toNat) i (by omega) i2, by have := (hS i i2).1; omega⟩)]
      refine ⟨_, J', K', ?_, rfl, f2, u3⟩
      by_cases c1 : r = -4
      · rw [if_pos c1]; exact f1
      · rw [if_neg c1, if_pos (show v 6 < r by omega)]; exact f1
theorem e_start {b : Bool} {J : am_J} {K : am_K} {x : Int} (hr : sR b J) (hk : rK (am_rv b) K (J 66)) (hA : sA (J 66) J) (hx : am_i32 x) : ∃ r J' K' J2, f_UpRiver_start b x J K = some (r, J', K') ∧ f_UpRiverModel_start x J' = some (r, J2) ∧ am_i32 r ∧ sA (J2 66) J2 := by
  obtain ⟨h, q, e15⟩ := hr
  have mo : ∀ J1 : am_J, f_UpRiverModel_start x J1 = if 0 ≤ x ∧ x ≤ 2 then ((f_UpRiverModel_layStarts J1).bind fun p => f_UpRiverModel_start_L30 am_FU x (-4) (-4) 0 0 p) else some (-1, J1) := by
    intro J1
    unfold f_UpRiverModel_start
    rw [show (0 : Int64) = am_i2l 0 from rfl, show (2 : Int64) = am_i2l 2 from rfl, m_in hx (by decide) (by decide)]
    simp only [Option.bind_some, fl_32, if_true, fl_0]
    by_cases c0 : 0 ≤ x ∧ x ≤ 2
    · rw [if_neg (show ¬ ¬ (0 ≤ x ∧ x ≤ 2) from fun z => z c0), if_pos c0]
    · rw [if_pos c0, if_neg c0]
  have co : f_UpRiver_start b x J K = if 0 ≤ x ∧ x ≤ 2 then f_UpRiver_start_L24 b am_FU x (-4) (-4) (-4) 0 J K else some (-1, J, K) := by
    unfold f_UpRiver_start
    rw [if_pos hx]
    by_cases c0 : 0 ≤ x ∧ x ≤ 2
    · rw [if_neg (show ¬ x < 0 by omega), if_neg (show ¬ 2 < x by omega), if_pos c0]
    · rw [if_neg c0]
      by_cases c1 : x < 0
      · rw [if_pos c1]
      · rw [if_neg c1, if_pos (show 2 < x by omega)]
  by_cases c0 : 0 ≤ x ∧ x ≤ 2
  · rw [if_pos c0] at co
    have run : ∀ J2 : am_J, J2 66 = J 66 → (∀ i : Nat, i ≤ 300 → upV (fun y => CnT (J 66) y i 0 (J 66 7) 0) (J2 74 i)) → ∃ r J' K', f_UpRiver_start_L24 b am_FU x (-4) (-4) (-4) 0 J K = some (r, J', K') ∧ f_UpRiverModel_start_L30 am_FU x (-4) (-4) 0 0 J2 = some (r, J2) ∧ am_i32 r ∧ sA (J 66) J' :=
      fun J2 a1 a2 => start_loop h c0 a1 a2 301 am_FU (-4) (-4) (-4) 0 0 J K (by decide) (by omega) (by omega) (Or.inl ⟨rfl, rfl, rfl⟩) q hk hA
    obtain ⟨J0, z1, z2⟩ := m_layStarts h e15
    obtain ⟨r, J', K', u1, -, -, u4⟩ := run J0 (by funext j; exact frJ_UpRiverModel_layStarts z1 rfl) z2
    have u1' := co.trans u1
    have f66 : J' 66 = J 66 := by funext j; exact frJ_UpRiver_start u1' rfl
    have f15 : J' 65 15 = 0 := by rw [← e15]; exact frJ_UpRiver_start u1' rfl
    obtain ⟨J2, y1, y2⟩ := m_layStarts (J := J') (by rw [f66]; exact h) f15
    rw [f66] at y2
    obtain ⟨r', J'', K'', w1, w2, w3, w4⟩ := run J2 (by rw [← f66]; funext j; exact frJ_UpRiverModel_layStarts y1 rfl) y2
    obtain ⟨e1, -⟩ := Prod.mk.inj (Option.some.inj (u1.symm.trans w1))
    have ml : f_UpRiverModel_start x J' = some (r, J2) := by
      rw [mo, if_pos c0, y1, e1]
      exact w2
    refine ⟨r, J', K', J2, u1', ml, by rw [e1]; exact w3, ?_⟩
    rw [show J2 66 = J 66 by rw [← f66]; funext j; exact frJ_UpRiverModel_start ml rfl]
    exact sA_row u4 (by funext j; exact frJ_UpRiverModel_start ml rfl)
  · rw [if_neg c0] at co
    exact ⟨-1, J, K, J, co, by rw [mo, if_neg c0], by decide, hA⟩
