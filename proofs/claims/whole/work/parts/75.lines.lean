/-! the lines -/
def FL (J' J2 : am_J) : Prop := flR J' J2 ∧ (0 ≤ J2 65 12 ∧ J2 65 12 ≤ 999) ∧ (0 ≤ J2 65 6 ∧ J2 65 6 ≤ 7) ∧ am_i32 (J2 67 0)
def LR (b : Bool) (N : Nat) (T : Nat → Int) (p : Nat) (cls : Option (Int × am_J)) (ref : Option am_J) : Prop := ∃ s J' J2', cls = some (s, J') ∧ ref = some J2' ∧ ((s = 1 ∧ ∃ p', p < p' ∧ PRE N T p' J' J2' ∧ LB b J' J2') ∨ (s = 0 ∧ FL J' J2'))
theorem FL_67 {J' J2 : am_J} (h : FL J' J2) (k : Nat) {w : Int} (hw : am_i32 w) : FL J' (am_up J2 67 k w) := by
  obtain ⟨h1, h2, h3, h4⟩ := h
  unfold FL flR
  rw [up_row (show 65 ≠ 67 by decide)]
  refine ⟨h1, h2, h3, ?_⟩
  by_cases e : 0 = k
  · rw [← e, up_at]; exact hw
  · rw [up_ne e]; exact h4
theorem PRE_67 {N : Nat} {T : Nat → Int} {p : Nat} {J J2 : am_J} (h : PRE N T p J J2) (k : Nat) (w : Int) : PRE N T p J (am_up J2 67 k w) := by
  obtain ⟨h1, h2, h3, h4, h5, h6⟩ := h
  refine ⟨h1, h2, ?_, h4, tM_row h5 (by rw [up_row (by decide)]) (by rw [up_row (by decide)]), h6⟩
  unfold tokM
  rw [up_row (show 65 ≠ 67 by decide)]
  exact h3
theorem LR_f {b : Bool} {N : Nat} {T : Nat → Int} {p : Nat} {cls : Option (Int × am_J)} {ref : Option am_J} {J' J2 : am_J} (h1 : cls = some (0, J')) (h2 : FL J' J2) (h3 : ref = rfE J2) : LR b N T p cls ref :=
  ⟨0, J', J2, h1, by rw [h3, rfE_f h2.1.2.2.1], Or.inr ⟨rfl, h2⟩⟩
theorem endL {N : Nat} {T : Nat → Int} (hT : tpO N T) {b : Bool} {kc : Int} {p0 p : Nat} {J J2 : am_J} (hpp : p0 ≤ p) (h : PRE N T p J J2) (h67 : am_i32 (J2 67 0)) (h6 : 0 ≤ J2 65 6 ∧ J2 65 6 ≤ 7) (tl : ∀ J1 : am_J, (∀ a, a ≠ 1 → J1 a = J a) → J1 1 9 = J 1 9 → ∃ J'', f_Reader_tell b kc J1 = some J'' ∧ ∀ J2' : am_J, (∀ a, a ≠ 65 → J2' a = J2 a) → J2' 65 5 = J2 65 5 → J2' 65 6 = J2 65 6 → LB b J'' J2') : LR b N T p0 (clE b kc J) (rfE J2) := by
  rcases endS hT (b := b) (kc := kc) h with ⟨J1, J2', a1, a2, a3, a4, a5, a6⟩ | ⟨J', J2', a1, a2, a3, a4, a5, a6⟩
  · obtain ⟨J'', t1, t2⟩ := tl J1 (fun a ha => by funext j; exact frJ_Reader_nextToken a1 (nw_not2 1 1 rfl ha ha)) (frJ_Reader_nextToken a1 rfl)
    rw [t1] at a3
    have ft : ∀ a j, am_nw [(1, some 9), ((am_dr b + 1), none), ((am_dr b + 2), none), ((am_dr b + 3), none), ((am_dr b + 4), none), ((am_dr b + 5), none), ((am_dr b + 6), none), ((am_dr b + 7), none), ((am_dr b + 8), none), ((am_dr b + 9), none)] a j = true → J'' a j = J1 a j := fun a j hw => frJ_Reader_tell t1 hw
    refine ⟨1, J'', J2', a3, a4, Or.inl ⟨rfl, tke N T p, by omega, ?_, ?_⟩⟩
    · exact PRE_of a6 a6.1 (by rw [ft 1 4 (by cases b <;> rfl)]; exact a6.2.1) a6.2.2.1 (ft 1 10 (by cases b <;> rfl)) (by funext j; exact ft 2 j (by cases b <;> rfl)) (by funext j; exact ft 3 j (by cases b <;> rfl)) rfl rfl
    · exact t2 J2' (fun a ha => by funext j; exact frJ_UpRiverModel_next a2 (nw_not2 65 65 rfl ha ha)) (frJ_UpRiverModel_next a2 rfl) (frJ_UpRiverModel_next a2 rfl)
  · have h12 := h.2.2.1.1
    exact ⟨0, J', J2', a1, a2, Or.inr ⟨rfl, a3, by rw [a4]; exact h12, by rw [a5]; exact h6, by rw [a6]; exact h67⟩⟩
theorem HT_6 {J J2 : am_J} (h : HT J J2) : 0 ≤ J2 65 6 ∧ J2 65 6 ≤ 7 := by
  obtain ⟨h1, h2, -⟩ := h
  rw [h2]
  split <;> omega
theorem LB_of {b : Bool} {J J2 J' J2' : am_J} (h : LB b J J2) (d : DR b J' J2') (e4 : J' 4 = J 4) (e70 : J2' 70 = J2 70) (e5 : J2' 65 5 = J2 65 5) (e9 : J' 1 9 = J 1 9) (e6 : J2' 65 6 = J2 65 6) (x1 : ∀ r, r < 8 → J2' 67 (31 + r) = J2 67 (31 + r)) (x2 : ∀ k, k < 72 → J2' 67 (163 + k) = J2 67 (163 + k)) : LB b J' J2' := by
  obtain ⟨-, h2, h3, t1, t2, t3, t4⟩ := h
  refine ⟨d, MR_row h2 e4 e70, ML_row h3 (fun k _ => by rw [e4]) e5, ?_⟩
  unfold HT
  rw [e9, e6]
  exact ⟨t1, t2, fun r hr hh => by rw [x1 r hr]; exact t3 r hr hh, fun k hk hh => by rw [x2 k hk]; exact t4 k hk hh⟩
theorem HT_r {J J2 J' J2' : am_J} (h : HT J J2) {r : Int} (hr : 0 ≤ r ∧ r ≤ 7) (e9 : J' 1 9 = (if J 1 9 < r then r else J 1 9)) (e6 : J2' 65 6 = (if J2 65 6 < r then r else J2 65 6)) (x1 : ∀ i : Nat, i < 8 → (i : Int) ≠ r → J2' 67 (31 + i) = J2 67 (31 + i)) (x2 : ∀ k : Nat, k < 72 → (k : Int) / 9 ≠ r → J2' 67 (163 + k) = J2 67 (163 + k)) : HT J' J2' := by
  obtain ⟨t1, t2, t3, t4⟩ := h
  have c : J 1 9 ≤ J' 1 9 ∧ r ≤ J' 1 9 ∧ J' 1 9 ≤ 7 := by rw [e9]; split <;> omega
  refine ⟨by omega, ?_, fun i hi hh => ?_, fun k hk hh => ?_⟩
  · rw [e6, t2, if_neg (show ¬ J' 1 9 < 0 by omega), e9]
    by_cases c0 : J 1 9 < 0
    · rw [if_pos c0, if_pos (show J 1 9 < r by omega)]
      split <;> omega
    · rw [if_neg c0]
  · rw [x1 i hi (by omega)]
    exact t3 i hi (by omega)
  · rw [x2 k hk (by omega)]
    exact t4 k hk (by omega)
theorem line_rule {N : Nat} {T : Nat → Int} (hT : tpO N T) {b : Bool} {p : Nat} {J J2 : am_J} (h : PRE N T p J J2) (hL : LB b J J2) {k : Nat} (hk : k < 7) : LR b N T p (f_Reader_readLine_L74 b am_FU (k : Int) 0 J) ((f_UpRiverModel_readLineOf (k : Int) J2).bind rfE) := by
  obtain ⟨n, hn⟩ : ∃ n, am_FU = n + 2 := ⟨19998, rfl⟩
  have hkc : k = 0 ∨ k = 1 ∨ k = 2 ∨ k = 3 ∨ k = 4 ∨ k = 5 ∨ k = 6 := by omega
  have c0 : f_Reader_numbersOf (k : Int) = some 1 := by rcases hkc with rfl | rfl | rfl | rfl | rfl | rfl | rfl <;> rfl
  have c1 : f_Reader_leastOf J (k : Int) 0 = some (am_least.getD k 0) := by rcases hkc with rfl | rfl | rfl | rfl | rfl | rfl | rfl <;> rfl
  have c2 : f_Reader_mostOf J (k : Int) 0 = some (am_most.getD k 0) := by rcases hkc with rfl | rfl | rfl | rfl | rfl | rfl | rfl <;> rfl
  have c3 : ∀ A, f_Reader_markOf A (k : Int) 0 = some (-4) := by intro A; rcases hkc with rfl | rfl | rfl | rfl | rfl | rfl | rfl <;> rfl
  have m1 : f_UpRiverModel_lowest (k : Int) = some (am_least.getD k 0) := by rcases hkc with rfl | rfl | rfl | rfl | rfl | rfl | rfl <;> rfl
  have m2 : f_UpRiverModel_highest (k : Int) = some (am_most.getD k 0) := by rcases hkc with rfl | rfl | rfl | rfl | rfl | rfl | rfl <;> rfl
  have b1 : am_i32 (am_least.getD k 0) ∧ am_i32 (am_most.getD k 0) := by rcases hkc with rfl | rfl | rfl | rfl | rfl | rfl | rfl <;> decide
  have b2 : ∀ w, am_least.getD k 0 ≤ w ∧ w ≤ am_most.getD k 0 → rlB k w := by
    intro w hw
    rcases hkc with rfl | rfl | rfl | rfl | rfl | rfl | rfl
    · exact Or.inl ⟨rfl, hw⟩
    · exact Or.inr (Or.inl ⟨rfl, hw⟩)
    · exact Or.inr (Or.inr (Or.inl ⟨rfl, hw⟩))
    · exact Or.inr (Or.inr (Or.inr (Or.inl ⟨rfl, hw⟩)))
    · exact Or.inr (Or.inr (Or.inr (Or.inr (Or.inl ⟨rfl, hw⟩))))
    · exact Or.inr (Or.inr (Or.inr (Or.inr (Or.inr (Or.inl ⟨rfl, hw⟩)))))
    · exact Or.inr (Or.inr (Or.inr (Or.inr (Or.inr (Or.inr ⟨rfl, hw⟩)))))
  have h6 := HT_6 hL.2.2.2
  have h70 := hL.1.1.1.1
  obtain ⟨w, J2', x1, x2, x3, x4, x5, x6⟩ := lnN hT (b := b) (n := n + 1) h c0 (by decide) (by decide) c1 c2 c3 b1.1 b1.2
  have ml : f_UpRiverModel_readLineOf (k : Int) J2 = some (am_up J2' 67 k w) := by
    unfold f_UpRiverModel_readLineOf
    rw [if_pos (show am_i32 (k : Int) by omega), if_pos (show (k : Int) < 7 by omega), m1, m2]
    simp only [Option.bind_some]
    rw [x1]
    simp only [Option.bind_some]
    rw [if_pos (show 0 ≤ (k : Int) ∧ (k : Int) < 295 by omega)]
    rfl
  rw [ml, hn]
  simp only [Option.bind_some]
  rcases x6 with ⟨J'', p', y1, y2, y3, y4, y5, y6⟩ | ⟨J', y1, y2, y3⟩
  · rw [y2, L74_end c0 (by decide) (by decide)]
    have kpr : ∀ J1 : am_J, (∀ a, a ≠ 1 → J1 a = J'' a) → ∀ a, a ≠ 1 → a ≠ 4 → a ≠ 5 → J1 a = J a := fun J1 u a a1 a4 a5 => by rw [u a a1, y5.2.2.1 a a1 a4 a5]
    refine endL hT (Nat.le_of_lt y1) (PRE_67 y3 k w) ?_ (by rw [up_row (by decide), x5]; exact h6) fun J1 u1 u2 => ?_
    · by_cases e : 0 = k
      · rw [← e, up_at]; omega
      · rw [up_ne e, x3.1 67 (by decide) (by decide)]; omega
    · refine ⟨am_up J1 (am_dr b + 1) k (J1 5 0), ?_, fun J2'' v1 v2 v3 => ?_⟩
      · unfold f_Reader_tell
        rw [if_pos (show am_i32 (k : Int) by omega), if_pos (show (k : Int) < 7 by omega), if_pos (show 0 ≤ (k : Int) ∧ (k : Int) < 7 by omega)]
        rfl
      · have od := dr_o b
        have j50 : J1 5 0 = w := by rw [u1 5 (by decide)]; exact y5.1
        have e67 : J2'' 67 = vu (J2 67) k w := by rw [v1 67 (by decide), up_vu, x3.1 67 (by decide) (by decide)]
        refine LB_of hL ⟨?_, ?_⟩ ?_ ?_ ?_ ?_ ?_ ?_ ?_
        · rw [e67]; exact rv_rule hL.1.1 (b2 w y4)
        · rw [e67, j50]
          exact rq_rule (rq_fr hL.1.2 fun i h1 h9 j => by rw [kpr J1 u1 _ (by omega) (by omega) (by omega)]) hk w
        · rw [up_row (by omega), u1 4 (by decide), y6]
        · rw [v1 70 (by decide), up_row (by decide), x4]
        · rw [v2, up_row (by decide)]; exact x3.2
        · rw [up_row (by omega), u2]; exact y5.2.2.2
        · rw [v3, up_row (by decide)]; exact x5
        · intro r hr; rw [e67, vu_ne (by omega)]
        · intro r hr; rw [e67, vu_ne (by omega)]
  · have h12 := h.2.2.1.1
    exact LR_f y1 (FL_67 ⟨y2, by rw [y3]; exact h12, by rw [x5]; exact h6, by rw [x3.1 67 (by decide) (by decide)]; omega⟩ k (by omega)) rfl
