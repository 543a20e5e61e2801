/-! names -/
abbrev nX0 (l : Int) (B : Nat → Int) : Prop := l = 7 ∧ B 0 = 114 ∧ B 1 = 101 ∧ B 2 = 97 ∧ B 3 = 99 ∧ B 4 = 104 ∧ B 5 = 101 ∧ B 6 = 115
abbrev nX1 (l : Int) (B : Nat → Int) : Prop := l = 4 ∧ B 0 = 98 ∧ B 1 = 101 ∧ B 2 = 97 ∧ B 3 = 116
abbrev nX2 (l : Int) (B : Nat → Int) : Prop := l = 7 ∧ B 0 = 100 ∧ B 1 = 114 ∧ B 2 = 97 ∧ B 3 = 117 ∧ B 4 = 103 ∧ B 5 = 104 ∧ B 6 = 116
abbrev nX3 (l : Int) (B : Nat → Int) : Prop := l = 5 ∧ B 0 = 112 ∧ B 1 = 111 ∧ B 2 = 105 ∧ B 3 = 110 ∧ B 4 = 116
abbrev nX4 (l : Int) (B : Nat → Int) : Prop := l = 5 ∧ B 0 = 115 ∧ B 1 = 104 ∧ B 2 = 105 ∧ B 3 = 102 ∧ B 4 = 116
abbrev nX5 (l : Int) (B : Nat → Int) : Prop := l = 4 ∧ B 0 = 116 ∧ B 1 = 117 ∧ B 2 = 114 ∧ B 3 = 110
abbrev nX6 (l : Int) (B : Nat → Int) : Prop := l = 4 ∧ B 0 = 100 ∧ B 1 = 97 ∧ B 2 = 114 ∧ B 3 = 107
abbrev nX7 (l : Int) (B : Nat → Int) : Prop := l = 4 ∧ B 0 = 98 ∧ B 1 = 97 ∧ B 2 = 110 ∧ B 3 = 107
abbrev nX8 (l : Int) (B : Nat → Int) : Prop := l = 4 ∧ B 0 = 100 ∧ B 1 = 101 ∧ B 2 = 101 ∧ B 3 = 112
abbrev nX9 (l : Int) (B : Nat → Int) : Prop := l = 4 ∧ B 0 = 101 ∧ B 1 = 100 ∧ B 2 = 100 ∧ B 3 = 121
abbrev nX10 (l : Int) (B : Nat → Int) : Prop := l = 3 ∧ B 0 = 108 ∧ B 1 = 101 ∧ B 2 = 101
abbrev nX11 (l : Int) (B : Nat → Int) : Prop := l = 4 ∧ B 0 = 119 ∧ B 1 = 105 ∧ B 2 = 110 ∧ B 3 = 100
abbrev nX12 (l : Int) (B : Nat → Int) : Prop := l = 4 ∧ B 0 = 116 ∧ B 1 = 105 ∧ B 2 = 100 ∧ B 3 = 101
abbrev nX13 (l : Int) (B : Nat → Int) : Prop := l = 4 ∧ B 0 = 104 ∧ B 1 = 105 ∧ B 2 = 103 ∧ B 3 = 104
def mtW (B : Nat → Int) (W : List Int) : Nat → Nat → Prop
  | 0, _ => True
  | d + 1, i => B i = W.getD i 0 ∧ mtW B W d (i + 1)
theorem wd_len : ∀ k : Fin 14, f_JString_length (2000 + k) = some ((am_words.getD k []).length : Int) := by decide +kernel
theorem wd_chr : ∀ k : Fin 14, ∀ i : Fin 7, (i : Nat) < (am_words.getD k []).length → f_JString_charAt (2000 + k) ((i : Nat) : Int) = some ((am_words.getD k []).getD i 0) ∧ 97 ≤ (am_words.getD k []).getD i 0 ∧ (am_words.getD k []).getD i 0 ≤ 122 := by decide +kernel
theorem wd_max : ∀ k : Fin 14, (am_words.getD k []).length ≤ 7 := by decide +kernel
theorem c_wd_loop {N : Nat} {T : Nat → Int} (hT : tpO N T) {J : am_J} (hC : tC N T J) {q : Nat} (e6 : J 1 6 = (q : Int)) {k : Nat} (hk : k < 14) (hq : q + (am_words.getD k []).length ≤ N) : ∀ (d n i : Nat), d < n → i + d = (am_words.getD k []).length → ∃ s, f_Reader_isWord_L20 (2000 + k) J n (i : Int) = some s ∧ ((s = 1 ∧ mtW (fun i => T (q + i)) (am_words.getD k []) d i) ∨ (s = 0 ∧ ¬ mtW (fun i => T (q + i)) (am_words.getD k []) d i)) := by
  have h4 := hT.1
  have hm := wd_max ⟨k, hk⟩
  have hl := wd_len ⟨k, hk⟩
  dsimp only at hm hl
  intro d
  induction d with
  | zero =>
    intro n i hn hi
    obtain ⟨n, rfl⟩ : ∃ m, n = m + 1 := ⟨n - 1, by omega⟩
    rw [f_Reader_isWord_L20.eq_2, hl]
    simp only [Option.bind_some]
    rw [if_pos (show am_i32 ((am_words.getD k []).length : Int) by omega), if_pos (show am_i32 (i : Int) by omega), if_neg (show ¬ (i : Int) < ((am_words.getD k []).length : Int) by omega)]
    exact ⟨1, rfl, Or.inl ⟨rfl, trivial⟩⟩
  | succ d ih =>
    intro n i hn hi
    obtain ⟨n, rfl⟩ : ∃ m, n = m + 1 := ⟨n - 1, by omega⟩
    obtain ⟨w1, w2, w3⟩ := wd_chr ⟨k, hk⟩ ⟨i, by omega⟩ (by dsimp only; omega)
    dsimp only at w1 w2 w3
    have hb := hT.2 (q + i) (by omega)
    rw [f_Reader_isWord_L20.eq_2, hl]
    simp only [Option.bind_some]
    rw [if_pos (show am_i32 ((am_words.getD k []).length : Int) by omega), if_pos (show am_i32 (i : Int) by omega), if_pos (show (i : Int) < ((am_words.getD k []).length : Int) by omega), w1, e6, show (q : Int) + (i : Int) = ((q + i : Nat) : Int) by omega, c_at hT hC (by omega)]
    simp only [Option.bind_some]
    rw [if_pos (show am_i32 (T (q + i)) by omega), if_pos (show am_i32 ((am_words.getD k []).getD i 0) by omega)]
    by_cases c : (am_words.getD k []).getD i 0 = T (q + i)
    · rw [if_pos c]
      obtain ⟨s, s1, s2⟩ := ih n (i + 1) (by omega) (by omega)
      refine ⟨s, s1, ?_⟩
      rcases s2 with s2 | s2
      · exact Or.inl ⟨s2.1, c.symm, s2.2⟩
      · exact Or.inr ⟨s2.1, fun z => s2.2 z.2⟩
    · rw [if_neg c]
      exact ⟨0, rfl, Or.inr ⟨rfl, fun z => c z.1.symm⟩⟩
theorem c_wd {N : Nat} {T : Nat → Int} (hT : tpO N T) {J : am_J} (hC : tC N T J) {q e : Nat} (e6 : J 1 6 = (q : Int)) (e4 : J 1 4 = (e : Int)) (hqe : q ≤ e) (he : e ≤ N) {k : Nat} (hk : k < 14) : ∃ s, f_Reader_isWord (2000 + k) J = some s ∧ ((s = 1 ∧ (e : Int) - q = (am_words.getD k []).length ∧ mtW (fun i => T (q + i)) (am_words.getD k []) (am_words.getD k []).length 0) ∨ (s = 0 ∧ ¬ ((e : Int) - q = (am_words.getD k []).length ∧ mtW (fun i => T (q + i)) (am_words.getD k []) (am_words.getD k []).length 0))) := by
  have h4 := hT.1
  have hm := wd_max ⟨k, hk⟩
  have hl := wd_len ⟨k, hk⟩
  dsimp only at hm hl
  unfold f_Reader_isWord
  rw [hl, e4, e6]
  simp only [Option.bind_some]
  rw [if_pos (show am_i32 ((e : Int) - q) by omega), if_pos (show am_i32 ((am_words.getD k []).length : Int) by omega)]
  by_cases c : ((am_words.getD k []).length : Int) = (e : Int) - q
  · rw [if_pos c]
    obtain ⟨s, s1, s2⟩ := c_wd_loop hT hC e6 hk (by omega) (am_words.getD k []).length am_FU 0 (by have : am_FU = 20000 := rfl; omega) (by omega)
    refine ⟨s, s1, ?_⟩
    rcases s2 with s2 | s2
    · exact Or.inl ⟨s2.1, c.symm, s2.2⟩
    · exact Or.inr ⟨s2.1, fun z => s2.2 z.2⟩
  · rw [if_neg c]
    exact ⟨0, rfl, Or.inr ⟨rfl, fun z => c z.1.symm⟩⟩
theorem c_wd0 {N : Nat} {T : Nat → Int} (hT : tpO N T) {J : am_J} (hC : tC N T J) {q e : Nat} (e6 : J 1 6 = (q : Int)) (e4 : J 1 4 = (e : Int)) (hqe : q ≤ e) (he : e ≤ N) : f_Reader_isWord 2000 J = some (fl (nX0 ((e : Int) - q) (fun i => T (q + i)))) := by
  obtain ⟨s, s1, s2⟩ := c_wd hT hC e6 e4 hqe he (k := 0) (by decide)
  have i1 : ((e : Int) - q = (am_words.getD 0 []).length ∧ mtW (fun i => T (q + i)) (am_words.getD 0 []) (am_words.getD 0 []).length 0) ↔ nX0 ((e : Int) - q) (fun i => T (q + i)) := by
    show ((e : Int) - q = 7 ∧ (T (q + 0) = 114 ∧ T (q + 1) = 101 ∧ T (q + 2) = 97 ∧ T (q + 3) = 99 ∧ T (q + 4) = 104 ∧ T (q + 5) = 101 ∧ T (q + 6) = 115 ∧ True)) ↔ _
    constructor
    · rintro ⟨z, z0, z1, z2, z3, z4, z5, z6, -⟩
      exact ⟨z, z0, z1, z2, z3, z4, z5, z6⟩
    · rintro ⟨z, z0, z1, z2, z3, z4, z5, z6⟩
      exact ⟨z, z0, z1, z2, z3, z4, z5, z6, trivial⟩
  refine s1.trans ?_
  rcases s2 with s2 | s2
  · rw [s2.1, fl_t (i1.mp s2.2)]
  · rw [s2.1, fl_f (fun z => s2.2 (i1.mpr z))]
theorem c_wd1 {N : Nat} {T : Nat → Int} (hT : tpO N T) {J : am_J} (hC : tC N T J) {q e : Nat} (e6 : J 1 6 = (q : Int)) (e4 : J 1 4 = (e : Int)) (hqe : q ≤ e) (he : e ≤ N) : f_Reader_isWord 2001 J = some (fl (nX1 ((e : Int) - q) (fun i => T (q + i)))) := by
  obtain ⟨s, s1, s2⟩ := c_wd hT hC e6 e4 hqe he (k := 1) (by decide)
  have i1 : ((e : Int) - q = (am_words.getD 1 []).length ∧ mtW (fun i => T (q + i)) (am_words.getD 1 []) (am_words.getD 1 []).length 0) ↔ nX1 ((e : Int) - q) (fun i => T (q + i)) := by
    show ((e : Int) - q = 4 ∧ (T (q + 0) = 98 ∧ T (q + 1) = 101 ∧ T (q + 2) = 97 ∧ T (q + 3) = 116 ∧ True)) ↔ _
    constructor
    · rintro ⟨z, z0, z1, z2, z3, -⟩
      exact ⟨z, z0, z1, z2, z3⟩
    · rintro ⟨z, z0, z1, z2, z3⟩
      exact ⟨z, z0, z1, z2, z3, trivial⟩
  refine s1.trans ?_
  rcases s2 with s2 | s2
  · rw [s2.1, fl_t (i1.mp s2.2)]
  · rw [s2.1, fl_f (fun z => s2.2 (i1.mpr z))]
theorem c_wd2 {N : Nat} {T : Nat → Int} (hT : tpO N T) {J : am_J} (hC : tC N T J) {q e : Nat} (e6 : J 1 6 = (q : Int)) (e4 : J 1 4 = (e : Int)) (hqe : q ≤ e) (he : e ≤ N) : f_Reader_isWord 2002 J = some (fl (nX2 ((e : Int) - q) (fun i => T (q + i)))) := by
  obtain ⟨s, s1, s2⟩ := c_wd hT hC e6 e4 hqe he (k := 2) (by decide)
  have i1 : ((e : Int) - q = (am_words.getD 2 []).length ∧ mtW (fun i => T (q + i)) (am_words.getD 2 []) (am_words.getD 2 []).length 0) ↔ nX2 ((e : Int) - q) (fun i => T (q + i)) := by
    show ((e : Int) - q = 7 ∧ (T (q + 0) = 100 ∧ T (q + 1) = 114 ∧ T (q + 2) = 97 ∧ T (q + 3) = 117 ∧ T (q + 4) = 103 ∧ T (q + 5) = 104 ∧ T (q + 6) = 116 ∧ True)) ↔ _
    constructor
    · rintro ⟨z, z0, z1, z2, z3, z4, z5, z6, -⟩
      exact ⟨z, z0, z1, z2, z3, z4, z5, z6⟩
    · rintro ⟨z, z0, z1, z2, z3, z4, z5, z6⟩
      exact ⟨z, z0, z1, z2, z3, z4, z5, z6, trivial⟩
  refine s1.trans ?_
  rcases s2 with s2 | s2
  · rw [s2.1, fl_t (i1.mp s2.2)]
  · rw [s2.1, fl_f (fun z => s2.2 (i1.mpr z))]
theorem c_wd3 {N : Nat} {T : Nat → Int} (hT : tpO N T) {J : am_J} (hC : tC N T J) {q e : Nat} (e6 : J 1 6 = (q : Int)) (e4 : J 1 4 = (e : Int)) (hqe : q ≤ e) (he : e ≤ N) : f_Reader_isWord 2003 J = some (fl (nX3 ((e : Int) - q) (fun i => T (q + i)))) := by
  obtain ⟨s, s1, s2⟩ := c_wd hT hC e6 e4 hqe he (k := 3) (by decide)
  have i1 : ((e : Int) - q = (am_words.getD 3 []).length ∧ mtW (fun i => T (q + i)) (am_words.getD 3 []) (am_words.getD 3 []).length 0) ↔ nX3 ((e : Int) - q) (fun i => T (q + i)) := by
    show ((e : Int) - q = 5 ∧ (T (q + 0) = 112 ∧ T (q + 1) = 111 ∧ T (q + 2) = 105 ∧ T (q + 3) = 110 ∧ T (q + 4) = 116 ∧ True)) ↔ _
    constructor
    · rintro ⟨z, z0, z1, z2, z3, z4, -⟩
      exact ⟨z, z0, z1, z2, z3, z4⟩
    · rintro ⟨z, z0, z1, z2, z3, z4⟩
      exact ⟨z, z0, z1, z2, z3, z4, trivial⟩
  refine s1.trans ?_
  rcases s2 with s2 | s2
  · rw [s2.1, fl_t (i1.mp s2.2)]
  · rw [s2.1, fl_f (fun z => s2.2 (i1.mpr z))]
theorem c_wd4 {N : Nat} {T : Nat → Int} (hT : tpO N T) {J : am_J} (hC : tC N T J) {q e : Nat} (e6 : J 1 6 = (q : Int)) (e4 : J 1 4 = (e : Int)) (hqe : q ≤ e) (he : e ≤ N) : f_Reader_isWord 2004 J = some (fl (nX4 ((e : Int) - q) (fun i => T (q + i)))) := by
  obtain ⟨s, s1, s2⟩ := c_wd hT hC e6 e4 hqe he (k := 4) (by decide)
  have i1 : ((e : Int) - q = (am_words.getD 4 []).length ∧ mtW (fun i => T (q + i)) (am_words.getD 4 []) (am_words.getD 4 []).length 0) ↔ nX4 ((e : Int) - q) (fun i => T (q + i)) := by
    show ((e : Int) - q = 5 ∧ (T (q + 0) = 115 ∧ T (q + 1) = 104 ∧ T (q + 2) = 105 ∧ T (q + 3) = 102 ∧ T (q + 4) = 116 ∧ True)) ↔ _
    constructor
    · rintro ⟨z, z0, z1, z2, z3, z4, -⟩
      exact ⟨z, z0, z1, z2, z3, z4⟩
    · rintro ⟨z, z0, z1, z2, z3, z4⟩
      exact ⟨z, z0, z1, z2, z3, z4, trivial⟩
  refine s1.trans ?_
  rcases s2 with s2 | s2
  · rw [s2.1, fl_t (i1.mp s2.2)]
  · rw [s2.1, fl_f (fun z => s2.2 (i1.mpr z))]
theorem c_wd5 {N : Nat} {T : Nat → Int} (hT : tpO N T) {J : am_J} (hC : tC N T J) {q e : Nat} (e6 : J 1 6 = (q : Int)) (e4 : J 1 4 = (e : Int)) (hqe : q ≤ e) (he : e ≤ N) : f_Reader_isWord 2005 J = some (fl (nX5 ((e : Int) - q) (fun i => T (q + i)))) := by
  obtain ⟨s, s1, s2⟩ := c_wd hT hC e6 e4 hqe he (k := 5) (by decide)
  have i1 : ((e : Int) - q = (am_words.getD 5 []).length ∧ mtW (fun i => T (q + i)) (am_words.getD 5 []) (am_words.getD 5 []).length 0) ↔ nX5 ((e : Int) - q) (fun i => T (q + i)) := by
    show ((e : Int) - q = 4 ∧ (T (q + 0) = 116 ∧ T (q + 1) = 117 ∧ T (q + 2) = 114 ∧ T (q + 3) = 110 ∧ True)) ↔ _
    constructor
    · rintro ⟨z, z0, z1, z2, z3, -⟩
      exact ⟨z, z0, z1, z2, z3⟩
    · rintro ⟨z, z0, z1, z2, z3⟩
      exact ⟨z, z0, z1, z2, z3, trivial⟩
  refine s1.trans ?_
  rcases s2 with s2 | s2
  · rw [s2.1, fl_t (i1.mp s2.2)]
  · rw [s2.1, fl_f (fun z => s2.2 (i1.mpr z))]
theorem c_wd6 {N : Nat} {T : Nat → Int} (hT : tpO N T) {J : am_J} (hC : tC N T J) {q e : Nat} (e6 : J 1 6 = (q : Int)) (e4 : J 1 4 = (e : Int)) (hqe : q ≤ e) (he : e ≤ N) : f_Reader_isWord 2006 J = some (fl (nX6 ((e : Int) - q) (fun i => T (q + i)))) := by
  obtain ⟨s, s1, s2⟩ := c_wd hT hC e6 e4 hqe he (k := 6) (by decide)
  have i1 : ((e : Int) - q = (am_words.getD 6 []).length ∧ mtW (fun i => T (q + i)) (am_words.getD 6 []) (am_words.getD 6 []).length 0) ↔ nX6 ((e : Int) - q) (fun i => T (q + i)) := by
    show ((e : Int) - q = 4 ∧ (T (q + 0) = 100 ∧ T (q + 1) = 97 ∧ T (q + 2) = 114 ∧ T (q + 3) = 107 ∧ True)) ↔ _
    constructor
    · rintro ⟨z, z0, z1, z2, z3, -⟩
      exact ⟨z, z0, z1, z2, z3⟩
    · rintro ⟨z, z0, z1, z2, z3⟩
      exact ⟨z, z0, z1, z2, z3, trivial⟩
  refine s1.trans ?_
  rcases s2 with s2 | s2
  · rw [s2.1, fl_t (i1.mp s2.2)]
  · rw [s2.1, fl_f (fun z => s2.2 (i1.mpr z))]
theorem c_wd7 {N : Nat} {T : Nat → Int} (hT : tpO N T) {J : am_J} (hC : tC N T J) {q e : Nat} (e6 : J 1 6 = (q : Int)) (e4 : J 1 4 = (e : Int)) (hqe : q ≤ e) (he : e ≤ N) : f_Reader_isWord 2007 J = some (fl (nX7 ((e : Int) - q) (fun i => T (q + i)))) := by
  obtain ⟨s, s1, s2⟩ := c_wd hT hC e6 e4 hqe he (k := 7) (by decide)
  have i1 : ((e : Int) - q = (am_words.getD 7 []).length ∧ mtW (fun i => T (q + i)) (am_words.getD 7 []) (am_words.getD 7 []).length 0) ↔ nX7 ((e : Int) - q) (fun i => T (q + i)) := by
    show ((e : Int) - q = 4 ∧ (T (q + 0) = 98 ∧ T (q + 1) = 97 ∧ T (q + 2) = 110 ∧ T (q + 3) = 107 ∧ True)) ↔ _
    constructor
    · rintro ⟨z, z0, z1, z2, z3, -⟩
      exact ⟨z, z0, z1, z2, z3⟩
    · rintro ⟨z, z0, z1, z2, z3⟩
      exact ⟨z, z0, z1, z2, z3, trivial⟩
  refine s1.trans ?_
  rcases s2 with s2 | s2
  · rw [s2.1, fl_t (i1.mp s2.2)]
  · rw [s2.1, fl_f (fun z => s2.2 (i1.mpr z))]
theorem c_wd8 {N : Nat} {T : Nat → Int} (hT : tpO N T) {J : am_J} (hC : tC N T J) {q e : Nat} (e6 : J 1 6 = (q : Int)) (e4 : J 1 4 = (e : Int)) (hqe : q ≤ e) (he : e ≤ N) : f_Reader_isWord 2008 J = some (fl (nX8 ((e : Int) - q) (fun i => T (q + i)))) := by
  obtain ⟨s, s1, s2⟩ := c_wd hT hC e6 e4 hqe he (k := 8) (by decide)
  have i1 : ((e : Int) - q = (am_words.getD 8 []).length ∧ mtW (fun i => T (q + i)) (am_words.getD 8 []) (am_words.getD 8 []).length 0) ↔ nX8 ((e : Int) - q) (fun i => T (q + i)) := by
    show ((e : Int) - q = 4 ∧ (T (q + 0) = 100 ∧ T (q + 1) = 101 ∧ T (q + 2) = 101 ∧ T (q + 3) = 112 ∧ True)) ↔ _
    constructor
    · rintro ⟨z, z0, z1, z2, z3, -⟩
      exact ⟨z, z0, z1, z2, z3⟩
    · rintro ⟨z, z0, z1, z2, z3⟩
      exact ⟨z, z0, z1, z2, z3, trivial⟩
  refine s1.trans ?_
  rcases s2 with s2 | s2
  · rw [s2.1, fl_t (i1.mp s2.2)]
  · rw [s2.1, fl_f (fun z => s2.2 (i1.mpr z))]
theorem c_wd9 {N : Nat} {T : Nat → Int} (hT : tpO N T) {J : am_J} (hC : tC N T J) {q e : Nat} (e6 : J 1 6 = (q : Int)) (e4 : J 1 4 = (e : Int)) (hqe : q ≤ e) (he : e ≤ N) : f_Reader_isWord 2009 J = some (fl (nX9 ((e : Int) - q) (fun i => T (q + i)))) := by
  obtain ⟨s, s1, s2⟩ := c_wd hT hC e6 e4 hqe he (k := 9) (by decide)
  have i1 : ((e : Int) - q = (am_words.getD 9 []).length ∧ mtW (fun i => T (q + i)) (am_words.getD 9 []) (am_words.getD 9 []).length 0) ↔ nX9 ((e : Int) - q) (fun i => T (q + i)) := by
    show ((e : Int) - q = 4 ∧ (T (q + 0) = 101 ∧ T (q + 1) = 100 ∧ T (q + 2) = 100 ∧ T (q + 3) = 121 ∧ True)) ↔ _
    constructor
    · rintro ⟨z, z0, z1, z2, z3, -⟩
      exact ⟨z, z0, z1, z2, z3⟩
    · rintro ⟨z, z0, z1, z2, z3⟩
      exact ⟨z, z0, z1, z2, z3, trivial⟩
  refine s1.trans ?_
  rcases s2 with s2 | s2
  · rw [s2.1, fl_t (i1.mp s2.2)]
  · rw [s2.1, fl_f (fun z => s2.2 (i1.mpr z))]
theorem c_wd10 {N : Nat} {T : Nat → Int} (hT : tpO N T) {J : am_J} (hC : tC N T J) {q e : Nat} (e6 : J 1 6 = (q : Int)) (e4 : J 1 4 = (e : Int)) (hqe : q ≤ e) (he : e ≤ N) : f_Reader_isWord 2010 J = some (fl (nX10 ((e : Int) - q) (fun i => T (q + i)))) := by
  obtain ⟨s, s1, s2⟩ := c_wd hT hC e6 e4 hqe he (k := 10) (by decide)
  have i1 : ((e : Int) - q = (am_words.getD 10 []).length ∧ mtW (fun i => T (q + i)) (am_words.getD 10 []) (am_words.getD 10 []).length 0) ↔ nX10 ((e : Int) - q) (fun i => T (q + i)) := by
    show ((e : Int) - q = 3 ∧ (T (q + 0) = 108 ∧ T (q + 1) = 101 ∧ T (q + 2) = 101 ∧ True)) ↔ _
    constructor
    · rintro ⟨z, z0, z1, z2, -⟩
      exact ⟨z, z0, z1, z2⟩
    · rintro ⟨z, z0, z1, z2⟩
      exact ⟨z, z0, z1, z2, trivial⟩
  refine s1.trans ?_
  rcases s2 with s2 | s2
  · rw [s2.1, fl_t (i1.mp s2.2)]
  · rw [s2.1, fl_f (fun z => s2.2 (i1.mpr z))]
theorem c_wd11 {N : Nat} {T : Nat → Int} (hT : tpO N T) {J : am_J} (hC : tC N T J) {q e : Nat} (e6 : J 1 6 = (q : Int)) (e4 : J 1 4 = (e : Int)) (hqe : q ≤ e) (he : e ≤ N) : f_Reader_isWord 2011 J = some (fl (nX11 ((e : Int) - q) (fun i => T (q + i)))) := by
  obtain ⟨s, s1, s2⟩ := c_wd hT hC e6 e4 hqe he (k := 11) (by decide)
  have i1 : ((e : Int) - q = (am_words.getD 11 []).length ∧ mtW (fun i => T (q + i)) (am_words.getD 11 []) (am_words.getD 11 []).length 0) ↔ nX11 ((e : Int) - q) (fun i => T (q + i)) := by
    show ((e : Int) - q = 4 ∧ (T (q + 0) = 119 ∧ T (q + 1) = 105 ∧ T (q + 2) = 110 ∧ T (q + 3) = 100 ∧ True)) ↔ _
    constructor
    · rintro ⟨z, z0, z1, z2, z3, -⟩
      exact ⟨z, z0, z1, z2, z3⟩
    · rintro ⟨z, z0, z1, z2, z3⟩
      exact ⟨z, z0, z1, z2, z3, trivial⟩
  refine s1.trans ?_
  rcases s2 with s2 | s2
  · rw [s2.1, fl_t (i1.mp s2.2)]
  · rw [s2.1, fl_f (fun z => s2.2 (i1.mpr z))]
theorem c_wd12 {N : Nat} {T : Nat → Int} (hT : tpO N T) {J : am_J} (hC : tC N T J) {q e : Nat} (e6 : J 1 6 = (q : Int)) (e4 : J 1 4 = (e : Int)) (hqe : q ≤ e) (he : e ≤ N) : f_Reader_isWord 2012 J = some (fl (nX12 ((e : Int) - q) (fun i => T (q + i)))) := by
  obtain ⟨s, s1, s2⟩ := c_wd hT hC e6 e4 hqe he (k := 12) (by decide)
  have i1 : ((e : Int) - q = (am_words.getD 12 []).length ∧ mtW (fun i => T (q + i)) (am_words.getD 12 []) (am_words.getD 12 []).length 0) ↔ nX12 ((e : Int) - q) (fun i => T (q + i)) := by
    show ((e : Int) - q = 4 ∧ (T (q + 0) = 116 ∧ T (q + 1) = 105 ∧ T (q + 2) = 100 ∧ T (q + 3) = 101 ∧ True)) ↔ _
    constructor
    · rintro ⟨z, z0, z1, z2, z3, -⟩
      exact ⟨z, z0, z1, z2, z3⟩
    · rintro ⟨z, z0, z1, z2, z3⟩
      exact ⟨z, z0, z1, z2, z3, trivial⟩
  refine s1.trans ?_
  rcases s2 with s2 | s2
  · rw [s2.1, fl_t (i1.mp s2.2)]
  · rw [s2.1, fl_f (fun z => s2.2 (i1.mpr z))]
theorem c_wd13 {N : Nat} {T : Nat → Int} (hT : tpO N T) {J : am_J} (hC : tC N T J) {q e : Nat} (e6 : J 1 6 = (q : Int)) (e4 : J 1 4 = (e : Int)) (hqe : q ≤ e) (he : e ≤ N) : f_Reader_isWord 2013 J = some (fl (nX13 ((e : Int) - q) (fun i => T (q + i)))) := by
  obtain ⟨s, s1, s2⟩ := c_wd hT hC e6 e4 hqe he (k := 13) (by decide)
  have i1 : ((e : Int) - q = (am_words.getD 13 []).length ∧ mtW (fun i => T (q + i)) (am_words.getD 13 []) (am_words.getD 13 []).length 0) ↔ nX13 ((e : Int) - q) (fun i => T (q + i)) := by
    show ((e : Int) - q = 4 ∧ (T (q + 0) = 104 ∧ T (q + 1) = 105 ∧ T (q + 2) = 103 ∧ T (q + 3) = 104 ∧ True)) ↔ _
    constructor
    · rintro ⟨z, z0, z1, z2, z3, -⟩
      exact ⟨z, z0, z1, z2, z3⟩
    · rintro ⟨z, z0, z1, z2, z3⟩
      exact ⟨z, z0, z1, z2, z3, trivial⟩
  refine s1.trans ?_
  rcases s2 with s2 | s2
  · rw [s2.1, fl_t (i1.mp s2.2)]
  · rw [s2.1, fl_f (fun z => s2.2 (i1.mpr z))]
def kdN (l : Int) (B : Nat → Int) : Int := (if nX0 l B then 0 else (if nX1 l B then 1 else (if nX2 l B then 2 else (if nX3 l B then 3 else (if nX4 l B then 4 else (if nX5 l B then 5 else (if nX6 l B then 6 else (if nX7 l B then 7 else (if nX8 l B then 8 else (if nX9 l B then 9 else (if nX10 l B then 10 else (if nX11 l B then 11 else (if nX12 l B then 12 else (if nX13 l B then 13 else 14))))))))))))))
theorem c_kind {N : Nat} {T : Nat → Int} (hT : tpO N T) {J : am_J} (hC : tC N T J) {q e : Nat} (e6 : J 1 6 = (q : Int)) (e4 : J 1 4 = (e : Int)) (hqe : q ≤ e) (he : e ≤ N) : f_Reader_kindOfName J = some (kdN ((e : Int) - q) (fun i => T (q + i))) := by
  unfold f_Reader_kindOfName kdN
  obtain ⟨n, hn⟩ : ∃ n, am_FU = n + 15 := ⟨19985, rfl⟩
  rw [hn]
  rw [f_Reader_kindOfName_L2.eq_2, if_pos (show am_i32 0 by decide), if_pos (show (0 : Int) < 14 by decide), show f_Reader_wordOf 0 = some 2000 from rfl]
  simp only [Option.bind_some]
  rw [c_wd0 hT hC e6 e4 hqe he]
  simp only [Option.bind_some, fl_32, if_true, fl_0]
  by_cases c0 : nX0 ((e : Int) - q) (fun i => T (q + i))
  · rw [if_neg (fun z => z c0), if_pos c0]
  rw [if_pos c0, if_neg c0, show ((0 : Int) + 1) = 1 from rfl]
  rw [f_Reader_kindOfName_L2.eq_2, if_pos (show am_i32 1 by decide), if_pos (show (1 : Int) < 14 by decide), show f_Reader_wordOf 1 = some 2001 from rfl]
  simp only [Option.bind_some]
  rw [c_wd1 hT hC e6 e4 hqe he]
  simp only [Option.bind_some, fl_32, if_true, fl_0]
  by_cases c1 : nX1 ((e : Int) - q) (fun i => T (q + i))
  · rw [if_neg (fun z => z c1), if_pos c1]
  rw [if_pos c1, if_neg c1, show ((1 : Int) + 1) = 2 from rfl]
  rw [f_Reader_kindOfName_L2.eq_2, if_pos (show am_i32 2 by decide), if_pos (show (2 : Int) < 14 by decide), show f_Reader_wordOf 2 = some 2002 from rfl]
  simp only [Option.bind_some]
  rw [c_wd2 hT hC e6 e4 hqe he]
  simp only [Option.bind_some, fl_32, if_true, fl_0]
  by_cases c2 : nX2 ((e : Int) - q) (fun i => T (q + i))
  · rw [if_neg (fun z => z c2), if_pos c2]
  rw [if_pos c2, if_neg c2, show ((2 : Int) + 1) = 3 from rfl]
  rw [f_Reader_kindOfName_L2.eq_2, if_pos (show am_i32 3 by decide), if_pos (show (3 : Int) < 14 by decide), show f_Reader_wordOf 3 = some 2003 from rfl]
  simp only [Option.bind_some]
  rw [c_wd3 hT hC e6 e4 hqe he]
  simp only [Option.bind_some, fl_32, if_true, fl_0]
  by_cases c3 : nX3 ((e : Int) - q) (fun i => T (q + i))
  · rw [if_neg (fun z => z c3), if_pos c3]
  rw [if_pos c3, if_neg c3, show ((3 : Int) + 1) = 4 from rfl]
  rw [f_Reader_kindOfName_L2.eq_2, if_pos (show am_i32 4 by decide), if_pos (show (4 : Int) < 14 by decide), show f_Reader_wordOf 4 = some 2004 from rfl]
  simp only [Option.bind_some]
  rw [c_wd4 hT hC e6 e4 hqe he]
  simp only [Option.bind_some, fl_32, if_true, fl_0]
  by_cases c4 : nX4 ((e : Int) - q) (fun i => T (q + i))
  · rw [if_neg (fun z => z c4), if_pos c4]
  rw [if_pos c4, if_neg c4, show ((4 : Int) + 1) = 5 from rfl]
  rw [f_Reader_kindOfName_L2.eq_2, if_pos (show am_i32 5 by decide), if_pos (show (5 : Int) < 14 by decide), show f_Reader_wordOf 5 = some 2005 from rfl]
  simp only [Option.bind_some]
  rw [c_wd5 hT hC e6 e4 hqe he]
  simp only [Option.bind_some, fl_32, if_true, fl_0]
  by_cases c5 : nX5 ((e : Int) - q) (fun i => T (q + i))
  · rw [if_neg (fun z => z c5), if_pos c5]
  rw [if_pos c5, if_neg c5, show ((5 : Int) + 1) = 6 from rfl]
  rw [f_Reader_kindOfName_L2.eq_2, if_pos (show am_i32 6 by decide), if_pos (show (6 : Int) < 14 by decide), show f_Reader_wordOf 6 = some 2006 from rfl]
  simp only [Option.bind_some]
  rw [c_wd6 hT hC e6 e4 hqe he]
  simp only [Option.bind_some, fl_32, if_true, fl_0]
  by_cases c6 : nX6 ((e : Int) - q) (fun i => T (q + i))
  · rw [if_neg (fun z => z c6), if_pos c6]
  rw [if_pos c6, if_neg c6, show ((6 : Int) + 1) = 7 from rfl]
  rw [f_Reader_kindOfName_L2.eq_2, if_pos (show am_i32 7 by decide), if_pos (show (7 : Int) < 14 by decide), show f_Reader_wordOf 7 = some 2007 from rfl]
  simp only [Option.bind_some]
  rw [c_wd7 hT hC e6 e4 hqe he]
  simp only [Option.bind_some, fl_32, if_true, fl_0]
  by_cases c7 : nX7 ((e : Int) - q) (fun i => T (q + i))
  · rw [if_neg (fun z => z c7), if_pos c7]
  rw [if_pos c7, if_neg c7, show ((7 : Int) + 1) = 8 from rfl]
  rw [f_Reader_kindOfName_L2.eq_2, if_pos (show am_i32 8 by decide), if_pos (show (8 : Int) < 14 by decide), show f_Reader_wordOf 8 = some 2008 from rfl]
  simp only [Option.bind_some]
  rw [c_wd8 hT hC e6 e4 hqe he]
  simp only [Option.bind_some, fl_32, if_true, fl_0]
  by_cases c8 : nX8 ((e : Int) - q) (fun i => T (q + i))
  · rw [if_neg (fun z => z c8), if_pos c8]
  rw [if_pos c8, if_neg c8, show ((8 : Int) + 1) = 9 from rfl]
  rw [f_Reader_kindOfName_L2.eq_2, if_pos (show am_i32 9 by decide), if_pos (show (9 : Int) < 14 by decide), show f_Reader_wordOf 9 = some 2009 from rfl]
  simp only [Option.bind_some]
  rw [c_wd9 hT hC e6 e4 hqe he]
  simp only [Option.bind_some, fl_32, if_true, fl_0]
  by_cases c9 : nX9 ((e : Int) - q) (fun i => T (q + i))
  · rw [if_neg (fun z => z c9), if_pos c9]
  rw [if_pos c9, if_neg c9, show ((9 : Int) + 1) = 10 from rfl]
  rw [f_Reader_kindOfName_L2.eq_2, if_pos (show am_i32 10 by decide), if_pos (show (10 : Int) < 14 by decide), show f_Reader_wordOf 10 = some 2010 from rfl]
  simp only [Option.bind_some]
  rw [c_wd10 hT hC e6 e4 hqe he]
  simp only [Option.bind_some, fl_32, if_true, fl_0]
  by_cases c10 : nX10 ((e : Int) - q) (fun i => T (q + i))
  · rw [if_neg (fun z => z c10), if_pos c10]
  rw [if_pos c10, if_neg c10, show ((10 : Int) + 1) = 11 from rfl]
  rw [f_Reader_kindOfName_L2.eq_2, if_pos (show am_i32 11 by decide), if_pos (show (11 : Int) < 14 by decide), show f_Reader_wordOf 11 = some 2011 from rfl]
  simp only [Option.bind_some]
  rw [c_wd11 hT hC e6 e4 hqe he]
  simp only [Option.bind_some, fl_32, if_true, fl_0]
  by_cases c11 : nX11 ((e : Int) - q) (fun i => T (q + i))
  · rw [if_neg (fun z => z c11), if_pos c11]
  rw [if_pos c11, if_neg c11, show ((11 : Int) + 1) = 12 from rfl]
  rw [f_Reader_kindOfName_L2.eq_2, if_pos (show am_i32 12 by decide), if_pos (show (12 : Int) < 14 by decide), show f_Reader_wordOf 12 = some 2012 from rfl]
  simp only [Option.bind_some]
  rw [c_wd12 hT hC e6 e4 hqe he]
  simp only [Option.bind_some, fl_32, if_true, fl_0]
  by_cases c12 : nX12 ((e : Int) - q) (fun i => T (q + i))
  · rw [if_neg (fun z => z c12), if_pos c12]
  rw [if_pos c12, if_neg c12, show ((12 : Int) + 1) = 13 from rfl]
  rw [f_Reader_kindOfName_L2.eq_2, if_pos (show am_i32 13 by decide), if_pos (show (13 : Int) < 14 by decide), show f_Reader_wordOf 13 = some 2013 from rfl]
  simp only [Option.bind_some]
  rw [c_wd13 hT hC e6 e4 hqe he]
  simp only [Option.bind_some, fl_32, if_true, fl_0]
  by_cases c13 : nX13 ((e : Int) - q) (fun i => T (q + i))
  · rw [if_neg (fun z => z c13), if_pos c13]
  rw [if_pos c13, if_neg c13, show ((13 : Int) + 1) = 14 from rfl]
  rw [f_Reader_kindOfName_L2.eq_2, if_pos (show am_i32 14 by decide), if_neg (show ¬ (14 : Int) < 14 by decide)]
