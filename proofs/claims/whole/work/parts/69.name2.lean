/-! names by the reference -/
def rlN (l : Int) (B : Nat → Int) : Int := (if nX0 l B then 0 else (if nX1 l B then 1 else (if nX2 l B then 2 else (if nX3 l B then 3 else (if nX4 l B then 4 else (if nX5 l B then 5 else (if nX6 l B then 6 else -4)))))))
def nmN (l : Int) (B : Nat → Int) : Int := (if nX12 l B then 7 else (if nX13 l B then 8 else (if nX7 l B then 10 else (if nX10 l B then 11 else (if nX11 l B then 12 else (if nX8 l B then 13 else (if nX9 l B then 14 else rlN l B)))))))
theorem m_is {N : Nat} {T : Nat → Int} (hT : tpO N T) {J : am_J} (hM : tM N T J) {q e : Nat} (e10 : J 65 10 = (q : Int)) (e9 : J 65 9 = (e : Int)) (hqe : q ≤ e) (he : e ≤ N) {n a b c d : Int} (hn : 3 ≤ n ∧ n ≤ 7) (ha : am_i32 a) (hb : am_i32 b) (hc : am_i32 c) (hd : am_i32 d) : f_UpRiverModel_is J n a b c d = some (fl ((e : Int) - q = n ∧ T (q + 0) = a ∧ T (q + 1) = b ∧ T (q + 2) = c ∧ (n < 4 ∨ T (q + 3) = d))) := by
  have h4 := hT.1
  unfold f_UpRiverModel_is
  rw [e9, e10, if_pos (show am_i32 n by omega), if_pos (show am_i32 ((e : Int) - q) by omega)]
  by_cases c0 : (e : Int) - q = n
  · have b0 := hT.2 q (by omega)
    have b1 := hT.2 (q + 1) (by omega)
    have b2 := hT.2 (q + 2) (by omega)
    rw [if_pos c0, m_look hT hM q (by omega), if_pos (show q < N by omega), show (q : Int) + 1 = ((q + 1 : Nat) : Int) by omega, m_look hT hM (q + 1) (by omega), if_pos (show q + 1 < N by omega), show (q : Int) + 2 = ((q + 2 : Nat) : Int) by omega, m_look hT hM (q + 2) (by omega), if_pos (show q + 2 < N by omega)]
    simp only [Option.bind_some]
    rw [if_pos ha, if_pos hb, if_pos hc, if_pos (show am_i32 (T q) by omega), if_pos (show am_i32 (T (q + 1)) by omega), if_pos (show am_i32 (T (q + 2)) by omega)]
    by_cases c1 : T q = a
    · rw [if_pos c1]
      by_cases c2 : T (q + 1) = b
      · rw [if_pos c2]
        by_cases c3 : T (q + 2) = c
        · rw [if_pos c3]
          by_cases c4 : n < 4
          · rw [if_pos c4, fl_t ⟨c0, c1, c2, c3, Or.inl c4⟩]
          · have b3 := hT.2 (q + 3) (by omega)
            rw [if_neg c4, show (q : Int) + 3 = ((q + 3 : Nat) : Int) by omega, m_look hT hM (q + 3) (by omega), if_pos (show q + 3 < N by omega)]
            simp only [Option.bind_some]
            rw [if_pos hd, if_pos (show am_i32 (T (q + 3)) by omega)]
            by_cases c5 : T (q + 3) = d
            · rw [if_pos c5, fl_t ⟨c0, c1, c2, c3, Or.inr c5⟩]
            · rw [if_neg c5, fl_f (fun z => by rcases z.2.2.2.2 with w | w; exact c4 w; exact c5 w)]
        · rw [if_neg c3, fl_f (fun z => c3 z.2.2.2.1)]
      · rw [if_neg c2, fl_f (fun z => c2 z.2.2.1)]
    · rw [if_neg c1, fl_f (fun z => c1 z.2.1)]
  · rw [if_neg c0, fl_f (fun z => c0 z.1)]
theorem m_is1 {N : Nat} {T : Nat → Int} (hT : tpO N T) {J : am_J} (hM : tM N T J) {q e : Nat} (e10 : J 65 10 = (q : Int)) (e9 : J 65 9 = (e : Int)) (hqe : q ≤ e) (he : e ≤ N) : f_UpRiverModel_is J 4 98 101 97 116 = some (fl (nX1 ((e : Int) - q) (fun i => T (q + i)))) := by
  rw [m_is hT hM e10 e9 hqe he (by decide) (by decide) (by decide) (by decide) (by decide)]
  congr 1
  exact fl_c (by show _ ↔ ((e : Int) - q = 4 ∧ T (q + 0) = 98 ∧ T (q + 1) = 101 ∧ T (q + 2) = 97 ∧ T (q + 3) = 116); omega)
theorem m_is5 {N : Nat} {T : Nat → Int} (hT : tpO N T) {J : am_J} (hM : tM N T J) {q e : Nat} (e10 : J 65 10 = (q : Int)) (e9 : J 65 9 = (e : Int)) (hqe : q ≤ e) (he : e ≤ N) : f_UpRiverModel_is J 4 116 117 114 110 = some (fl (nX5 ((e : Int) - q) (fun i => T (q + i)))) := by
  rw [m_is hT hM e10 e9 hqe he (by decide) (by decide) (by decide) (by decide) (by decide)]
  congr 1
  exact fl_c (by show _ ↔ ((e : Int) - q = 4 ∧ T (q + 0) = 116 ∧ T (q + 1) = 117 ∧ T (q + 2) = 114 ∧ T (q + 3) = 110); omega)
theorem m_is6 {N : Nat} {T : Nat → Int} (hT : tpO N T) {J : am_J} (hM : tM N T J) {q e : Nat} (e10 : J 65 10 = (q : Int)) (e9 : J 65 9 = (e : Int)) (hqe : q ≤ e) (he : e ≤ N) : f_UpRiverModel_is J 4 100 97 114 107 = some (fl (nX6 ((e : Int) - q) (fun i => T (q + i)))) := by
  rw [m_is hT hM e10 e9 hqe he (by decide) (by decide) (by decide) (by decide) (by decide)]
  congr 1
  exact fl_c (by show _ ↔ ((e : Int) - q = 4 ∧ T (q + 0) = 100 ∧ T (q + 1) = 97 ∧ T (q + 2) = 114 ∧ T (q + 3) = 107); omega)
theorem m_is7 {N : Nat} {T : Nat → Int} (hT : tpO N T) {J : am_J} (hM : tM N T J) {q e : Nat} (e10 : J 65 10 = (q : Int)) (e9 : J 65 9 = (e : Int)) (hqe : q ≤ e) (he : e ≤ N) : f_UpRiverModel_is J 4 98 97 110 107 = some (fl (nX7 ((e : Int) - q) (fun i => T (q + i)))) := by
  rw [m_is hT hM e10 e9 hqe he (by decide) (by decide) (by decide) (by decide) (by decide)]
  congr 1
  exact fl_c (by show _ ↔ ((e : Int) - q = 4 ∧ T (q + 0) = 98 ∧ T (q + 1) = 97 ∧ T (q + 2) = 110 ∧ T (q + 3) = 107); omega)
theorem m_is8 {N : Nat} {T : Nat → Int} (hT : tpO N T) {J : am_J} (hM : tM N T J) {q e : Nat} (e10 : J 65 10 = (q : Int)) (e9 : J 65 9 = (e : Int)) (hqe : q ≤ e) (he : e ≤ N) : f_UpRiverModel_is J 4 100 101 101 112 = some (fl (nX8 ((e : Int) - q) (fun i => T (q + i)))) := by
  rw [m_is hT hM e10 e9 hqe he (by decide) (by decide) (by decide) (by decide) (by decide)]
  congr 1
  exact fl_c (by show _ ↔ ((e : Int) - q = 4 ∧ T (q + 0) = 100 ∧ T (q + 1) = 101 ∧ T (q + 2) = 101 ∧ T (q + 3) = 112); omega)
theorem m_is9 {N : Nat} {T : Nat → Int} (hT : tpO N T) {J : am_J} (hM : tM N T J) {q e : Nat} (e10 : J 65 10 = (q : Int)) (e9 : J 65 9 = (e : Int)) (hqe : q ≤ e) (he : e ≤ N) : f_UpRiverModel_is J 4 101 100 100 121 = some (fl (nX9 ((e : Int) - q) (fun i => T (q + i)))) := by
  rw [m_is hT hM e10 e9 hqe he (by decide) (by decide) (by decide) (by decide) (by decide)]
  congr 1
  exact fl_c (by show _ ↔ ((e : Int) - q = 4 ∧ T (q + 0) = 101 ∧ T (q + 1) = 100 ∧ T (q + 2) = 100 ∧ T (q + 3) = 121); omega)
theorem m_is10 {N : Nat} {T : Nat → Int} (hT : tpO N T) {J : am_J} (hM : tM N T J) {q e : Nat} (e10 : J 65 10 = (q : Int)) (e9 : J 65 9 = (e : Int)) (hqe : q ≤ e) (he : e ≤ N) : f_UpRiverModel_is J 3 108 101 101 0 = some (fl (nX10 ((e : Int) - q) (fun i => T (q + i)))) := by
  rw [m_is hT hM e10 e9 hqe he (by decide) (by decide) (by decide) (by decide) (by decide)]
  congr 1
  exact fl_c (by show _ ↔ ((e : Int) - q = 3 ∧ T (q + 0) = 108 ∧ T (q + 1) = 101 ∧ T (q + 2) = 101); omega)
theorem m_is11 {N : Nat} {T : Nat → Int} (hT : tpO N T) {J : am_J} (hM : tM N T J) {q e : Nat} (e10 : J 65 10 = (q : Int)) (e9 : J 65 9 = (e : Int)) (hqe : q ≤ e) (he : e ≤ N) : f_UpRiverModel_is J 4 119 105 110 100 = some (fl (nX11 ((e : Int) - q) (fun i => T (q + i)))) := by
  rw [m_is hT hM e10 e9 hqe he (by decide) (by decide) (by decide) (by decide) (by decide)]
  congr 1
  exact fl_c (by show _ ↔ ((e : Int) - q = 4 ∧ T (q + 0) = 119 ∧ T (q + 1) = 105 ∧ T (q + 2) = 110 ∧ T (q + 3) = 100); omega)
theorem m_is12 {N : Nat} {T : Nat → Int} (hT : tpO N T) {J : am_J} (hM : tM N T J) {q e : Nat} (e10 : J 65 10 = (q : Int)) (e9 : J 65 9 = (e : Int)) (hqe : q ≤ e) (he : e ≤ N) : f_UpRiverModel_is J 4 116 105 100 101 = some (fl (nX12 ((e : Int) - q) (fun i => T (q + i)))) := by
  rw [m_is hT hM e10 e9 hqe he (by decide) (by decide) (by decide) (by decide) (by decide)]
  congr 1
  exact fl_c (by show _ ↔ ((e : Int) - q = 4 ∧ T (q + 0) = 116 ∧ T (q + 1) = 105 ∧ T (q + 2) = 100 ∧ T (q + 3) = 101); omega)
theorem m_is13 {N : Nat} {T : Nat → Int} (hT : tpO N T) {J : am_J} (hM : tM N T J) {q e : Nat} (e10 : J 65 10 = (q : Int)) (e9 : J 65 9 = (e : Int)) (hqe : q ≤ e) (he : e ≤ N) : f_UpRiverModel_is J 4 104 105 103 104 = some (fl (nX13 ((e : Int) - q) (fun i => T (q + i)))) := by
  rw [m_is hT hM e10 e9 hqe he (by decide) (by decide) (by decide) (by decide) (by decide)]
  congr 1
  exact fl_c (by show _ ↔ ((e : Int) - q = 4 ∧ T (q + 0) = 104 ∧ T (q + 1) = 105 ∧ T (q + 2) = 103 ∧ T (q + 3) = 104); omega)
theorem m_lk {N : Nat} {T : Nat → Int} (hT : tpO N T) {J : am_J} (hM : tM N T J) {q e : Nat} (e10 : J 65 10 = (q : Int)) (e9 : J 65 9 = (e : Int)) (hqe : q ≤ e) (he : e ≤ N) (i : Nat) (hi : i ≤ 10) (h : q + i < e) : f_UpRiverModel_look J (J 65 10 + (i : Int)) = some (T (q + i)) ∧ am_i32 (T (q + i)) := by
  have h4 := hT.1
  have hb := hT.2 (q + i) (by omega)
  refine ⟨?_, by omega⟩
  rw [e10, show (q : Int) + (i : Int) = ((q + i : Nat) : Int) by omega, m_look hT hM (q + i) (by omega), if_pos (show q + i < N by omega)]
theorem m_r214 {N : Nat} {T : Nat → Int} (hT : tpO N T) {J : am_J} (hM : tM N T J) {q e : Nat} (e10 : J 65 10 = (q : Int)) (e9 : J 65 9 = (e : Int)) (hqe : q ≤ e) (he : e ≤ N) : f_UpRiverModel_ruleNow_L214 J = some (if nX5 ((e : Int) - q) (fun i => T (q + i)) then 5 else (if nX6 ((e : Int) - q) (fun i => T (q + i)) then 6 else -4)) := by
  unfold f_UpRiverModel_ruleNow_L214
  rw [m_is5 hT hM e10 e9 hqe he, m_is6 hT hM e10 e9 hqe he]
  simp only [Option.bind_some, fl_32, if_true, fl_0]
  by_cases c5 : nX5 ((e : Int) - q) (fun i => T (q + i))
  · rw [if_neg (fun z => z c5), if_pos c5]
  · rw [if_pos c5, if_neg c5]
    by_cases c6 : nX6 ((e : Int) - q) (fun i => T (q + i))
    · rw [if_neg (fun z => z c6), if_pos c6]
    · rw [if_pos c6, if_neg c6]
theorem m_r181 {N : Nat} {T : Nat → Int} (hT : tpO N T) {J : am_J} (hM : tM N T J) {q e : Nat} (e10 : J 65 10 = (q : Int)) (e9 : J 65 9 = (e : Int)) (hqe : q ≤ e) (he : e ≤ N) : f_UpRiverModel_ruleNow_L181 J = some (if nX4 ((e : Int) - q) (fun i => T (q + i)) then 4 else (if nX5 ((e : Int) - q) (fun i => T (q + i)) then 5 else (if nX6 ((e : Int) - q) (fun i => T (q + i)) then 6 else -4))) := by
  unfold f_UpRiverModel_ruleNow_L181
  have nxt : ¬ nX4 ((e : Int) - q) (fun i => T (q + i)) → f_UpRiverModel_ruleNow_L214 J = some (if nX4 ((e : Int) - q) (fun i => T (q + i)) then 4 else (if nX5 ((e : Int) - q) (fun i => T (q + i)) then 5 else (if nX6 ((e : Int) - q) (fun i => T (q + i)) then 6 else -4))) := by
    intro z
    rw [if_neg z]
    exact m_r214 hT hM e10 e9 hqe he
  rw [m_is hT hM e10 e9 hqe he (n := 5) (a := 115) (b := 104) (c := 105) (d := 102) (by decide) (by decide) (by decide) (by decide) (by decide)]
  simp only [Option.bind_some, fl_32, if_true, fl_0]
  by_cases d0 : ((e : Int) - q = 5 ∧ T (q + 0) = 115 ∧ T (q + 1) = 104 ∧ T (q + 2) = 105 ∧ ((5 : Int) < 4 ∨ T (q + 3) = 102))
  · rw [if_neg (fun z => z d0)]
    have l4 := m_lk hT hM e10 e9 hqe he 4 (by decide) (by omega)
    have l4' : f_UpRiverModel_look J (J 65 10 + 4) = some (T (q + 4)) := l4.1
    rw [l4']
    simp only [Option.bind_some]
    rw [if_pos l4.2]
    by_cases d4 : T (q + 4) = 116
    · rw [if_pos d4, if_pos (show nX4 ((e : Int) - q) (fun i => T (q + i)) from by show ((e : Int) - q = 5 ∧ T (q + 0) = 115 ∧ T (q + 1) = 104 ∧ T (q + 2) = 105 ∧ T (q + 3) = 102 ∧ T (q + 4) = 116); omega)]
    · rw [if_neg d4]
      exact nxt (fun z => d4 (by have z2 : ((e : Int) - q = 5 ∧ T (q + 0) = 115 ∧ T (q + 1) = 104 ∧ T (q + 2) = 105 ∧ T (q + 3) = 102 ∧ T (q + 4) = 116) := z; omega))
  · rw [if_pos d0]
    exact nxt (fun z => d0 (by have z2 : ((e : Int) - q = 5 ∧ T (q + 0) = 115 ∧ T (q + 1) = 104 ∧ T (q + 2) = 105 ∧ T (q + 3) = 102 ∧ T (q + 4) = 116) := z; omega))
theorem m_r148 {N : Nat} {T : Nat → Int} (hT : tpO N T) {J : am_J} (hM : tM N T J) {q e : Nat} (e10 : J 65 10 = (q : Int)) (e9 : J 65 9 = (e : Int)) (hqe : q ≤ e) (he : e ≤ N) : f_UpRiverModel_ruleNow_L148 J = some (if nX3 ((e : Int) - q) (fun i => T (q + i)) then 3 else (if nX4 ((e : Int) - q) (fun i => T (q + i)) then 4 else (if nX5 ((e : Int) - q) (fun i => T (q + i)) then 5 else (if nX6 ((e : Int) - q) (fun i => T (q + i)) then 6 else -4)))) := by
  unfold f_UpRiverModel_ruleNow_L148
  have nxt : ¬ nX3 ((e : Int) - q) (fun i => T (q + i)) → f_UpRiverModel_ruleNow_L181 J = some (if nX3 ((e : Int) - q) (fun i => T (q + i)) then 3 else (if nX4 ((e : Int) - q) (fun i => T (q + i)) then 4 else (if nX5 ((e : Int) - q) (fun i => T (q + i)) then 5 else (if nX6 ((e : Int) - q) (fun i => T (q + i)) then 6 else -4)))) := by
    intro z
    rw [if_neg z]
    exact m_r181 hT hM e10 e9 hqe he
  rw [m_is hT hM e10 e9 hqe he (n := 5) (a := 112) (b := 111) (c := 105) (d := 110) (by decide) (by decide) (by decide) (by decide) (by decide)]
  simp only [Option.bind_some, fl_32, if_true, fl_0]
  by_cases d0 : ((e : Int) - q = 5 ∧ T (q + 0) = 112 ∧ T (q + 1) = 111 ∧ T (q + 2) = 105 ∧ ((5 : Int) < 4 ∨ T (q + 3) = 110))
  · rw [if_neg (fun z => z d0)]
    have l4 := m_lk hT hM e10 e9 hqe he 4 (by decide) (by omega)
    have l4' : f_UpRiverModel_look J (J 65 10 + 4) = some (T (q + 4)) := l4.1
    rw [l4']
    simp only [Option.bind_some]
    rw [if_pos l4.2]
    by_cases d4 : T (q + 4) = 116
    · rw [if_pos d4, if_pos (show nX3 ((e : Int) - q) (fun i => T (q + i)) from by show ((e : Int) - q = 5 ∧ T (q + 0) = 112 ∧ T (q + 1) = 111 ∧ T (q + 2) = 105 ∧ T (q + 3) = 110 ∧ T (q + 4) = 116); omega)]
    · rw [if_neg d4]
      exact nxt (fun z => d4 (by have z2 : ((e : Int) - q = 5 ∧ T (q + 0) = 112 ∧ T (q + 1) = 111 ∧ T (q + 2) = 105 ∧ T (q + 3) = 110 ∧ T (q + 4) = 116) := z; omega))
  · rw [if_pos d0]
    exact nxt (fun z => d0 (by have z2 : ((e : Int) - q = 5 ∧ T (q + 0) = 112 ∧ T (q + 1) = 111 ∧ T (q + 2) = 105 ∧ T (q + 3) = 110 ∧ T (q + 4) = 116) := z; omega))
theorem m_r65 {N : Nat} {T : Nat → Int} (hT : tpO N T) {J : am_J} (hM : tM N T J) {q e : Nat} (e10 : J 65 10 = (q : Int)) (e9 : J 65 9 = (e : Int)) (hqe : q ≤ e) (he : e ≤ N) : f_UpRiverModel_ruleNow_L65 J = some (if nX1 ((e : Int) - q) (fun i => T (q + i)) then 1 else (if nX2 ((e : Int) - q) (fun i => T (q + i)) then 2 else (if nX3 ((e : Int) - q) (fun i => T (q + i)) then 3 else (if nX4 ((e : Int) - q) (fun i => T (q + i)) then 4 else (if nX5 ((e : Int) - q) (fun i => T (q + i)) then 5 else (if nX6 ((e : Int) - q) (fun i => T (q + i)) then 6 else -4)))))) := by
  unfold f_UpRiverModel_ruleNow_L65
  rw [m_is1 hT hM e10 e9 hqe he]
  simp only [Option.bind_some, fl_32, if_true, fl_0]
  by_cases c1 : nX1 ((e : Int) - q) (fun i => T (q + i))
  · rw [if_neg (fun z => z c1), if_pos c1]
  rw [if_pos c1, if_neg c1]
  have nxt : ¬ nX2 ((e : Int) - q) (fun i => T (q + i)) → f_UpRiverModel_ruleNow_L148 J = some (if nX2 ((e : Int) - q) (fun i => T (q + i)) then 2 else (if nX3 ((e : Int) - q) (fun i => T (q + i)) then 3 else (if nX4 ((e : Int) - q) (fun i => T (q + i)) then 4 else (if nX5 ((e : Int) - q) (fun i => T (q + i)) then 5 else (if nX6 ((e : Int) - q) (fun i => T (q + i)) then 6 else -4))))) := by
    intro z
    rw [if_neg z]
    exact m_r148 hT hM e10 e9 hqe he
  rw [m_is hT hM e10 e9 hqe he (n := 7) (a := 100) (b := 114) (c := 97) (d := 117) (by decide) (by decide) (by decide) (by decide) (by decide)]
  simp only [Option.bind_some, fl_32, if_true, fl_0]
  by_cases d0 : ((e : Int) - q = 7 ∧ T (q + 0) = 100 ∧ T (q + 1) = 114 ∧ T (q + 2) = 97 ∧ ((7 : Int) < 4 ∨ T (q + 3) = 117))
  · rw [if_neg (fun z => z d0)]
    have l4 := m_lk hT hM e10 e9 hqe he 4 (by decide) (by omega)
    have l4' : f_UpRiverModel_look J (J 65 10 + 4) = some (T (q + 4)) := l4.1
    rw [l4']
    simp only [Option.bind_some]
    rw [if_pos l4.2]
    by_cases d4 : T (q + 4) = 103
    · rw [if_pos d4]
      have l5 := m_lk hT hM e10 e9 hqe he 5 (by decide) (by omega)
      have l5' : f_UpRiverModel_look J (J 65 10 + 5) = some (T (q + 5)) := l5.1
      rw [l5']
      simp only [Option.bind_some]
      rw [if_pos l5.2]
      by_cases d5 : T (q + 5) = 104
      · rw [if_pos d5]
        have l6 := m_lk hT hM e10 e9 hqe he 6 (by decide) (by omega)
        have l6' : f_UpRiverModel_look J (J 65 10 + 6) = some (T (q + 6)) := l6.1
        rw [l6']
        simp only [Option.bind_some]
        rw [if_pos l6.2]
        by_cases d6 : T (q + 6) = 116
        · rw [if_pos d6, if_pos (show nX2 ((e : Int) - q) (fun i => T (q + i)) from by show ((e : Int) - q = 7 ∧ T (q + 0) = 100 ∧ T (q + 1) = 114 ∧ T (q + 2) = 97 ∧ T (q + 3) = 117 ∧ T (q + 4) = 103 ∧ T (q + 5) = 104 ∧ T (q + 6) = 116); omega)]
        · rw [if_neg d6]
          exact nxt (fun z => d6 (by have z2 : ((e : Int) - q = 7 ∧ T (q + 0) = 100 ∧ T (q + 1) = 114 ∧ T (q + 2) = 97 ∧ T (q + 3) = 117 ∧ T (q + 4) = 103 ∧ T (q + 5) = 104 ∧ T (q + 6) = 116) := z; omega))
      · rw [if_neg d5]
        exact nxt (fun z => d5 (by have z2 : ((e : Int) - q = 7 ∧ T (q + 0) = 100 ∧ T (q + 1) = 114 ∧ T (q + 2) = 97 ∧ T (q + 3) = 117 ∧ T (q + 4) = 103 ∧ T (q + 5) = 104 ∧ T (q + 6) = 116) := z; omega))
    · rw [if_neg d4]
      exact nxt (fun z => d4 (by have z2 : ((e : Int) - q = 7 ∧ T (q + 0) = 100 ∧ T (q + 1) = 114 ∧ T (q + 2) = 97 ∧ T (q + 3) = 117 ∧ T (q + 4) = 103 ∧ T (q + 5) = 104 ∧ T (q + 6) = 116) := z; omega))
  · rw [if_pos d0]
    exact nxt (fun z => d0 (by have z2 : ((e : Int) - q = 7 ∧ T (q + 0) = 100 ∧ T (q + 1) = 114 ∧ T (q + 2) = 97 ∧ T (q + 3) = 117 ∧ T (q + 4) = 103 ∧ T (q + 5) = 104 ∧ T (q + 6) = 116) := z; omega))
theorem m_rule {N : Nat} {T : Nat → Int} (hT : tpO N T) {J : am_J} (hM : tM N T J) {q e : Nat} (e10 : J 65 10 = (q : Int)) (e9 : J 65 9 = (e : Int)) (hqe : q ≤ e) (he : e ≤ N) : f_UpRiverModel_ruleNow J = some (rlN ((e : Int) - q) (fun i => T (q + i))) := by
  unfold f_UpRiverModel_ruleNow rlN
  have nxt : ¬ nX0 ((e : Int) - q) (fun i => T (q + i)) → f_UpRiverModel_ruleNow_L65 J = some (if nX0 ((e : Int) - q) (fun i => T (q + i)) then 0 else (if nX1 ((e : Int) - q) (fun i => T (q + i)) then 1 else (if nX2 ((e : Int) - q) (fun i => T (q + i)) then 2 else (if nX3 ((e : Int) - q) (fun i => T (q + i)) then 3 else (if nX4 ((e : Int) - q) (fun i => T (q + i)) then 4 else (if nX5 ((e : Int) - q) (fun i => T (q + i)) then 5 else (if nX6 ((e : Int) - q) (fun i => T (q + i)) then 6 else -4))))))) := by
    intro z
    rw [if_neg z]
    exact m_r65 hT hM e10 e9 hqe he
  rw [m_is hT hM e10 e9 hqe he (n := 7) (a := 114) (b := 101) (c := 97) (d := 99) (by decide) (by decide) (by decide) (by decide) (by decide)]
  simp only [Option.bind_some, fl_32, if_true, fl_0]
  by_cases d0 : ((e : Int) - q = 7 ∧ T (q + 0) = 114 ∧ T (q + 1) = 101 ∧ T (q + 2) = 97 ∧ ((7 : Int) < 4 ∨ T (q + 3) = 99))
  · rw [if_neg (fun z => z d0)]
    have l4 := m_lk hT hM e10 e9 hqe he 4 (by decide) (by omega)
    have l4' : f_UpRiverModel_look J (J 65 10 + 4) = some (T (q + 4)) := l4.1
    rw [l4']
    simp only [Option.bind_some]
    rw [if_pos l4.2]
    by_cases d4 : T (q + 4) = 104
    · rw [if_pos d4]
      have l5 := m_lk hT hM e10 e9 hqe he 5 (by decide) (by omega)
      have l5' : f_UpRiverModel_look J (J 65 10 + 5) = some (T (q + 5)) := l5.1
      rw [l5']
      simp only [Option.bind_some]
      rw [if_pos l5.2]
      by_cases d5 : T (q + 5) = 101
      · rw [if_pos d5]
        have l6 := m_lk hT hM e10 e9 hqe he 6 (by decide) (by omega)
        have l6' : f_UpRiverModel_look J (J 65 10 + 6) = some (T (q + 6)) := l6.1
        rw [l6']
        simp only [Option.bind_some]
        rw [if_pos l6.2]
        by_cases d6 : T (q + 6) = 115
        · rw [if_pos d6, if_pos (show nX0 ((e : Int) - q) (fun i => T (q + i)) from by show ((e : Int) - q = 7 ∧ T (q + 0) = 114 ∧ T (q + 1) = 101 ∧ T (q + 2) = 97 ∧ T (q + 3) = 99 ∧ T (q + 4) = 104 ∧ T (q + 5) = 101 ∧ T (q + 6) = 115); omega)]
        · rw [if_neg d6]
          exact nxt (fun z => d6 (by have z2 : ((e : Int) - q = 7 ∧ T (q + 0) = 114 ∧ T (q + 1) = 101 ∧ T (q + 2) = 97 ∧ T (q + 3) = 99 ∧ T (q + 4) = 104 ∧ T (q + 5) = 101 ∧ T (q + 6) = 115) := z; omega))
      · rw [if_neg d5]
        exact nxt (fun z => d5 (by have z2 : ((e : Int) - q = 7 ∧ T (q + 0) = 114 ∧ T (q + 1) = 101 ∧ T (q + 2) = 97 ∧ T (q + 3) = 99 ∧ T (q + 4) = 104 ∧ T (q + 5) = 101 ∧ T (q + 6) = 115) := z; omega))
    · rw [if_neg d4]
      exact nxt (fun z => d4 (by have z2 : ((e : Int) - q = 7 ∧ T (q + 0) = 114 ∧ T (q + 1) = 101 ∧ T (q + 2) = 97 ∧ T (q + 3) = 99 ∧ T (q + 4) = 104 ∧ T (q + 5) = 101 ∧ T (q + 6) = 115) := z; omega))
  · rw [if_pos d0]
    exact nxt (fun z => d0 (by have z2 : ((e : Int) - q = 7 ∧ T (q + 0) = 114 ∧ T (q + 1) = 101 ∧ T (q + 2) = 97 ∧ T (q + 3) = 99 ∧ T (q + 4) = 104 ∧ T (q + 5) = 101 ∧ T (q + 6) = 115) := z; omega))
theorem m_name {N : Nat} {T : Nat → Int} (hT : tpO N T) {J : am_J} (hM : tM N T J) {q e : Nat} (e10 : J 65 10 = (q : Int)) (e9 : J 65 9 = (e : Int)) (hqe : q ≤ e) (he : e ≤ N) : f_UpRiverModel_nameNow J = some (nmN ((e : Int) - q) (fun i => T (q + i))) := by
  unfold f_UpRiverModel_nameNow nmN
  rw [m_is12 hT hM e10 e9 hqe he]
  simp only [Option.bind_some, fl_32, if_true, fl_0]
  by_cases c12 : nX12 ((e : Int) - q) (fun i => T (q + i))
  · rw [if_neg (fun z => z c12), if_pos c12]
  rw [if_pos c12, if_neg c12]
  rw [m_is13 hT hM e10 e9 hqe he]
  simp only [Option.bind_some, fl_32, if_true, fl_0]
  by_cases c13 : nX13 ((e : Int) - q) (fun i => T (q + i))
  · rw [if_neg (fun z => z c13), if_pos c13]
  rw [if_pos c13, if_neg c13]
  rw [m_is7 hT hM e10 e9 hqe he]
  simp only [Option.bind_some, fl_32, if_true, fl_0]
  by_cases c7 : nX7 ((e : Int) - q) (fun i => T (q + i))
  · rw [if_neg (fun z => z c7), if_pos c7]
  rw [if_pos c7, if_neg c7]
  rw [m_is10 hT hM e10 e9 hqe he]
  simp only [Option.bind_some, fl_32, if_true, fl_0]
  by_cases c10 : nX10 ((e : Int) - q) (fun i => T (q + i))
  · rw [if_neg (fun z => z c10), if_pos c10]
  rw [if_pos c10, if_neg c10]
  rw [m_is11 hT hM e10 e9 hqe he]
  simp only [Option.bind_some, fl_32, if_true, fl_0]
  by_cases c11 : nX11 ((e : Int) - q) (fun i => T (q + i))
  · rw [if_neg (fun z => z c11), if_pos c11]
  rw [if_pos c11, if_neg c11]
  rw [m_is8 hT hM e10 e9 hqe he]
  simp only [Option.bind_some, fl_32, if_true, fl_0]
  by_cases c8 : nX8 ((e : Int) - q) (fun i => T (q + i))
  · rw [if_neg (fun z => z c8), if_pos c8]
  rw [if_pos c8, if_neg c8]
  rw [m_is9 hT hM e10 e9 hqe he]
  simp only [Option.bind_some, fl_32, if_true, fl_0]
  by_cases c9 : nX9 ((e : Int) - q) (fun i => T (q + i))
  · rw [if_neg (fun z => z c9), if_pos c9]
  rw [if_pos c9, if_neg c9]
  rw [m_rule hT hM e10 e9 hqe he]
  rfl
theorem kn_map (l : Int) (B : Nat → Int) : (kdN l B = 14 ∧ nmN l B = -4) ∨ (kdN l B = 7 ∧ nmN l B = 10) ∨ (kdN l B = 8 ∧ nmN l B = 13) ∨ (kdN l B = 9 ∧ nmN l B = 14) ∨ (kdN l B = 10 ∧ nmN l B = 11) ∨ (kdN l B = 11 ∧ nmN l B = 12) ∨ (kdN l B = 12 ∧ nmN l B = 7) ∨ (kdN l B = 13 ∧ nmN l B = 8) ∨ ((0 ≤ kdN l B ∧ kdN l B ≤ 6) ∧ nmN l B = kdN l B) := by
  unfold kdN nmN rlN
  by_cases c0 : nX0 l B
  · rw [if_pos c0, if_neg (show ¬ nX12 l B by omega), if_neg (show ¬ nX13 l B by omega), if_neg (show ¬ nX7 l B by omega), if_neg (show ¬ nX10 l B by omega), if_neg (show ¬ nX11 l B by omega), if_neg (show ¬ nX8 l B by omega), if_neg (show ¬ nX9 l B by omega), if_pos c0]
    omega
  rw [if_neg c0]
  by_cases c1 : nX1 l B
  · rw [if_pos c1, if_neg (show ¬ nX12 l B by omega), if_neg (show ¬ nX13 l B by omega), if_neg (show ¬ nX7 l B by omega), if_neg (show ¬ nX10 l B by omega), if_neg (show ¬ nX11 l B by omega), if_neg (show ¬ nX8 l B by omega), if_neg (show ¬ nX9 l B by omega), if_neg (show ¬ nX0 l B by omega), if_pos c1]
    omega
  rw [if_neg c1]
  by_cases c2 : nX2 l B
  · rw [if_pos c2, if_neg (show ¬ nX12 l B by omega), if_neg (show ¬ nX13 l B by omega), if_neg (show ¬ nX7 l B by omega), if_neg (show ¬ nX10 l B by omega), if_neg (show ¬ nX11 l B by omega), if_neg (show ¬ nX8 l B by omega), if_neg (show ¬ nX9 l B by omega), if_neg (show ¬ nX0 l B by omega), if_neg (show ¬ nX1 l B by omega), if_pos c2]
    omega
  rw [if_neg c2]
  by_cases c3 : nX3 l B
  · rw [if_pos c3, if_neg (show ¬ nX12 l B by omega), if_neg (show ¬ nX13 l B by omega), if_neg (show ¬ nX7 l B by omega), if_neg (show ¬ nX10 l B by omega), if_neg (show ¬ nX11 l B by omega), if_neg (show ¬ nX8 l B by omega), if_neg (show ¬ nX9 l B by omega), if_neg (show ¬ nX0 l B by omega), if_neg (show ¬ nX1 l B by omega), if_neg (show ¬ nX2 l B by omega), if_pos c3]
    omega
  rw [if_neg c3]
  by_cases c4 : nX4 l B
  · rw [if_pos c4, if_neg (show ¬ nX12 l B by omega), if_neg (show ¬ nX13 l B by omega), if_neg (show ¬ nX7 l B by omega), if_neg (show ¬ nX10 l B by omega), if_neg (show ¬ nX11 l B by omega), if_neg (show ¬ nX8 l B by omega), if_neg (show ¬ nX9 l B by omega), if_neg (show ¬ nX0 l B by omega), if_neg (show ¬ nX1 l B by omega), if_neg (show ¬ nX2 l B by omega), if_neg (show ¬ nX3 l B by omega), if_pos c4]
    omega
  rw [if_neg c4]
  by_cases c5 : nX5 l B
  · rw [if_pos c5, if_neg (show ¬ nX12 l B by omega), if_neg (show ¬ nX13 l B by omega), if_neg (show ¬ nX7 l B by omega), if_neg (show ¬ nX10 l B by omega), if_neg (show ¬ nX11 l B by omega), if_neg (show ¬ nX8 l B by omega), if_neg (show ¬ nX9 l B by omega), if_neg (show ¬ nX0 l B by omega), if_neg (show ¬ nX1 l B by omega), if_neg (show ¬ nX2 l B by omega), if_neg (show ¬ nX3 l B by omega), if_neg (show ¬ nX4 l B by omega), if_pos c5]
    omega
  rw [if_neg c5]
  by_cases c6 : nX6 l B
  · rw [if_pos c6, if_neg (show ¬ nX12 l B by omega), if_neg (show ¬ nX13 l B by omega), if_neg (show ¬ nX7 l B by omega), if_neg (show ¬ nX10 l B by omega), if_neg (show ¬ nX11 l B by omega), if_neg (show ¬ nX8 l B by omega), if_neg (show ¬ nX9 l B by omega), if_neg (show ¬ nX0 l B by omega), if_neg (show ¬ nX1 l B by omega), if_neg (show ¬ nX2 l B by omega), if_neg (show ¬ nX3 l B by omega), if_neg (show ¬ nX4 l B by omega), if_neg (show ¬ nX5 l B by omega), if_pos c6]
    omega
  rw [if_neg c6]
  by_cases c7 : nX7 l B
  · rw [if_pos c7, if_neg (show ¬ nX12 l B by omega), if_neg (show ¬ nX13 l B by omega), if_pos c7]
    omega
  rw [if_neg c7]
  by_cases c8 : nX8 l B
  · rw [if_pos c8, if_neg (show ¬ nX12 l B by omega), if_neg (show ¬ nX13 l B by omega), if_neg (show ¬ nX7 l B by omega), if_neg (show ¬ nX10 l B by omega), if_neg (show ¬ nX11 l B by omega), if_pos c8]
    omega
  rw [if_neg c8]
  by_cases c9 : nX9 l B
  · rw [if_pos c9, if_neg (show ¬ nX12 l B by omega), if_neg (show ¬ nX13 l B by omega), if_neg (show ¬ nX7 l B by omega), if_neg (show ¬ nX10 l B by omega), if_neg (show ¬ nX11 l B by omega), if_neg (show ¬ nX8 l B by omega), if_pos c9]
    omega
  rw [if_neg c9]
  by_cases c10 : nX10 l B
  · rw [if_pos c10, if_neg (show ¬ nX12 l B by omega), if_neg (show ¬ nX13 l B by omega), if_neg (show ¬ nX7 l B by omega), if_pos c10]
    omega
  rw [if_neg c10]
  by_cases c11 : nX11 l B
  · rw [if_pos c11, if_neg (show ¬ nX12 l B by omega), if_neg (show ¬ nX13 l B by omega), if_neg (show ¬ nX7 l B by omega), if_neg (show ¬ nX10 l B by omega), if_pos c11]
    omega
  rw [if_neg c11]
  by_cases c12 : nX12 l B
  · rw [if_pos c12, if_pos c12]
    omega
  rw [if_neg c12]
  by_cases c13 : nX13 l B
  · rw [if_pos c13, if_neg (show ¬ nX12 l B by omega), if_pos c13]
    omega
  rw [if_neg c13]
  rw [if_neg c12, if_neg c13, if_neg c7, if_neg c10, if_neg c11, if_neg c8, if_neg c9, if_neg c0, if_neg c1, if_neg c2, if_neg c3, if_neg c4, if_neg c5, if_neg c6]
  exact Or.inl ⟨rfl, rfl⟩
