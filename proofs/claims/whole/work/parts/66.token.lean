/-! tokens of a tape T of N bytes -/
def tpO (N : Nat) (T : Nat → Int) : Prop := N ≤ 400 ∧ ∀ j, j < N → 0 ≤ T j ∧ T j ≤ 255
def tC (N : Nat) (T : Nat → Int) (J : am_J) : Prop := J 2 1 = N ∧ ∀ j, j < N → am_and (J 3 j) 255 = T j
def tM (N : Nat) (T : Nat → Int) (J : am_J) : Prop := J 65 8 = N ∧ ∀ j, j < N → J 71 j = T j
theorem tC_row {N : Nat} {T : Nat → Int} {J J' : am_J} (h : tC N T J) (e2 : J' 2 = J 2) (e3 : J' 3 = J 3) : tC N T J' := by
  unfold tC
  rw [e2, e3]
  exact h
theorem tM_row {N : Nat} {T : Nat → Int} {J J' : am_J} (h : tM N T J) (e2 : J' 65 8 = J 65 8) (e3 : J' 71 = J 71) : tM N T J' := by
  unfold tM
  rw [e2, e3]
  exact h
theorem c_at {N : Nat} {T : Nat → Int} (hT : tpO N T) {J : am_J} (h : tC N T J) {p : Nat} (hp : p < N) : f_Tape_at J (p : Int) = some (T p) := by
  have h4 := hT.1
  unfold f_Tape_at
  rw [h.1, if_pos (show am_i32 (p : Int) by omega), if_neg (show ¬ (p : Int) < 0 by omega), if_pos (show am_i32 (N : Int) by omega), if_pos (show (p : Int) < N by omega), if_pos (show 0 ≤ (p : Int) ∧ (p : Int) < 400 by omega), show ((p : Int)).toNat = p from rfl, h.2 p hp]
theorem m_look {N : Nat} {T : Nat → Int} (hT : tpO N T) {J : am_J} (h : tM N T J) (p : Nat) (hp : p ≤ 1000) : f_UpRiverModel_look J (p : Int) = some (if p < N then T p else -1) := by
  have h4 := hT.1
  unfold f_UpRiverModel_look
  rw [h.1, if_pos (show am_i32 (N : Int) by omega), if_pos (show am_i32 (p : Int) by omega)]
  by_cases c : p < N
  · rw [if_pos (show (p : Int) < N by omega), if_pos (show 0 ≤ (p : Int) ∧ (p : Int) < 400 by omega), if_pos c, show ((p : Int)).toNat = p from rfl, h.2 p c]
  · rw [if_neg (show ¬ (p : Int) < N by omega), if_neg c]
theorem c_isLetter {x : Int} (hx : am_i32 x) : f_Reader_isLetter x = some (fl (97 ≤ x ∧ x ≤ 122)) := by
  unfold f_Reader_isLetter
  rw [if_pos hx]
  by_cases a : x < 97
  · rw [if_pos a, fl_f (by omega)]
  · rw [if_neg a]
    by_cases c : 122 < x
    · rw [if_pos c, fl_f (by omega)]
    · rw [if_neg c, fl_t (by omega)]
theorem c_isFigure {x : Int} (hx : am_i32 x) : f_Reader_isFigure x = some (fl (48 ≤ x ∧ x ≤ 57)) := by
  unfold f_Reader_isFigure
  rw [if_pos hx]
  by_cases a : x < 48
  · rw [if_pos a, fl_f (by omega)]
  · rw [if_neg a]
    by_cases c : 57 < x
    · rw [if_pos c, fl_f (by omega)]
    · rw [if_neg c, fl_t (by omega)]
theorem m_isL {x : Int} (hx : am_i32 x) : f_UpRiverModel_in (am_i2l x) (97 : Int64) (122 : Int64) = some (fl (97 ≤ x ∧ x ≤ 122)) := m_in hx (lo := 97) (hi := 122) (by decide) (by decide)
theorem m_isF {x : Int} (hx : am_i32 x) : f_UpRiverModel_in (am_i2l x) (48 : Int64) (57 : Int64) = some (fl (48 ≤ x ∧ x ≤ 57)) := m_in hx (lo := 48) (hi := 57) (by decide) (by decide)
/-- the first place from p on, k at most, whose sign is none of lo to hi -/
def rn (T : Nat → Int) (lo hi : Int) : Nat → Nat → Nat
  | 0, p => p
  | k + 1, p => if lo ≤ T p ∧ T p ≤ hi then rn T lo hi k (p + 1) else p
theorem rn_bd (T : Nat → Int) (lo hi : Int) : ∀ k p : Nat, p ≤ rn T lo hi k p ∧ rn T lo hi k p ≤ p + k := by
  intro k
  induction k with
  | zero => intro p; exact ⟨Nat.le_refl _, Nat.le_refl _⟩
  | succ k ih =>
    intro p
    unfold rn
    split
    · have := ih (p + 1); omega
    · omega
theorem rn_in (T : Nat → Int) (lo hi : Int) : ∀ k p j : Nat, p ≤ j → j < rn T lo hi k p → lo ≤ T j ∧ T j ≤ hi := by
  intro k
  induction k with
  | zero => intro p j h1 h2; unfold rn at h2; omega
  | succ k ih =>
    intro p j h1 h2
    unfold rn at h2
    by_cases c : lo ≤ T p ∧ T p ≤ hi
    · rw [if_pos c] at h2
      by_cases e : j = p
      · rw [e]; exact c
      · exact ih (p + 1) j (by omega) h2
    · rw [if_neg c] at h2
      omega
theorem rn_out (T : Nat → Int) (lo hi : Int) : ∀ k p : Nat, rn T lo hi k p < p + k → ¬ (lo ≤ T (rn T lo hi k p) ∧ T (rn T lo hi k p) ≤ hi) := by
  intro k
  induction k with
  | zero => intro p h; unfold rn at h; omega
  | succ k ih =>
    intro p h
    unfold rn at h ⊢
    by_cases c : lo ≤ T p ∧ T p ≤ hi
    · rw [if_pos c] at h ⊢
      exact ih (p + 1) (by omega)
    · rw [if_neg c]
      exact c
def vaN (T : Nat → Int) : Nat → Nat → Int → Int
  | 0, _, v => v
  | k + 1, p, v => vaN T k (p + 1) (v * 10 + T p - 48)
def tkq (N : Nat) (T : Nat → Int) (p : Nat) : Nat := rn T 32 32 (N - p) p
def tkk (N : Nat) (T : Nat → Int) (p : Nat) : Int := if N ≤ tkq N T p then 0 else if 97 ≤ T (tkq N T p) ∧ T (tkq N T p) ≤ 122 then 1 else if 48 ≤ T (tkq N T p) ∧ T (tkq N T p) ≤ 57 then (if rn T 48 57 (N - tkq N T p) (tkq N T p) - tkq N T p ≤ 3 then 2 else 9) else if T (tkq N T p) = 59 then 3 else 9
def tke (N : Nat) (T : Nat → Int) (p : Nat) : Nat := if N ≤ tkq N T p then tkq N T p else if 97 ≤ T (tkq N T p) ∧ T (tkq N T p) ≤ 122 then rn T 97 122 (N - tkq N T p) (tkq N T p) else if 48 ≤ T (tkq N T p) ∧ T (tkq N T p) ≤ 57 then rn T 48 57 (N - tkq N T p) (tkq N T p) else tkq N T p + 1
def tkw (N : Nat) (T : Nat → Int) (p : Nat) : Int := vaN T (tke N T p - tkq N T p) (tkq N T p) 0
theorem up_self (J : am_J) (a i : Nat) : am_up J a i (J a i) = J := by
  funext x y
  unfold am_up
  by_cases h : x = a
  · rw [if_pos h]
    by_cases h2 : y = i
    · rw [if_pos h2, h, h2]
    · rw [if_neg h2]
  · rw [if_neg h]
theorem up_up (J : am_J) (a i : Nat) (x y : Int) : am_up (am_up J a i x) a i y = am_up J a i y := by
  funext c d
  unfold am_up
  by_cases h : c = a
  · rw [if_pos h, if_pos h]
    by_cases h2 : d = i
    · simp [h, h2]
    · simp [h, h2]
  · simp [h]
theorem tkq_bd {N : Nat} {T : Nat → Int} {p : Nat} (hp : p ≤ N) : p ≤ tkq N T p ∧ tkq N T p ≤ N := by
  have := rn_bd T 32 32 (N - p) p
  unfold tkq
  omega
theorem tke_bd {N : Nat} {T : Nat → Int} {p : Nat} (hp : p ≤ N) : tkq N T p ≤ tke N T p ∧ tke N T p ≤ N ∧ (tkk N T p ≠ 0 → tkq N T p < tke N T p) ∧ (tkk N T p = 0 → tkq N T p = N ∧ tke N T p = N) := by
  have hq := tkq_bd (T := T) hp
  unfold tke tkk
  generalize tkq N T p = q at *
  by_cases c0 : N ≤ q
  · rw [if_pos c0, if_pos c0]
    exact ⟨by omega, by omega, fun z => absurd rfl z, fun _ => by omega⟩
  rw [if_neg c0, if_neg c0]
  obtain ⟨n, hn⟩ : ∃ n, N - q = n + 1 := ⟨N - q - 1, by omega⟩
  by_cases c1 : 97 ≤ T q ∧ T q ≤ 122
  · rw [if_pos c1, if_pos c1, hn]
    have h1 := rn_bd T 97 122 n (q + 1)
    have h2 : rn T 97 122 (n + 1) q = rn T 97 122 n (q + 1) := by
      show (if 97 ≤ T q ∧ T q ≤ 122 then rn T 97 122 n (q + 1) else q) = _
      rw [if_pos c1]
    rw [h2]
    exact ⟨by omega, by omega, fun _ => by omega, fun z => absurd z (by decide)⟩
  rw [if_neg c1, if_neg c1]
  by_cases c2 : 48 ≤ T q ∧ T q ≤ 57
  · rw [if_pos c2, if_pos c2, hn]
    have h1 := rn_bd T 48 57 n (q + 1)
    have h2 : rn T 48 57 (n + 1) q = rn T 48 57 n (q + 1) := by
      show (if 48 ≤ T q ∧ T q ≤ 57 then rn T 48 57 n (q + 1) else q) = _
      rw [if_pos c2]
    rw [h2]
    refine ⟨by omega, by omega, fun _ => by omega, fun z => ?_⟩
    split at z <;> exact absurd z (by decide)
  rw [if_neg c2, if_neg c2]
  refine ⟨by omega, by omega, fun _ => by omega, fun z => ?_⟩
  split at z <;> exact absurd z (by decide)
/-! the class -/
theorem c_sp {N : Nat} {T : Nat → Int} (hT : tpO N T) : ∀ (k n p : Nat) (J : am_J), k < n → p + k = N → tC N T J → J 1 4 = (p : Int) → f_Reader_nextToken_L0 n J = f_Reader_nextToken_L43 (am_up J 1 4 (rn T 32 32 k p : Nat)) := by
  have h4 := hT.1
  intro k
  induction k with
  | zero =>
    intro n p J hn hp hC e4
    obtain ⟨n, rfl⟩ : ∃ m, n = m + 1 := ⟨n - 1, by omega⟩
    rw [f_Reader_nextToken_L0.eq_2, hC.1, e4, if_pos (show am_i32 (N : Int) by omega), if_pos (show am_i32 (p : Int) by omega), if_neg (show ¬ (p : Int) < N by omega)]
    show _ = f_Reader_nextToken_L43 (am_up J 1 4 (p : Int))
    rw [← e4, up_self]
  | succ k ih =>
    intro n p J hn hp hC e4
    obtain ⟨n, rfl⟩ : ∃ m, n = m + 1 := ⟨n - 1, by omega⟩
    have hb := hT.2 p (by omega)
    rw [f_Reader_nextToken_L0.eq_2, hC.1, e4, if_pos (show am_i32 (N : Int) by omega), if_pos (show am_i32 (p : Int) by omega), if_pos (show (p : Int) < N by omega), c_at hT hC (by omega)]
    simp only [Option.bind_some]
    rw [if_pos (show am_i32 (T p) by omega)]
    unfold rn
    by_cases c : T p = 32
    · rw [if_pos c, if_pos (show 32 ≤ T p ∧ T p ≤ 32 by omega), ih n (p + 1) (am_up J 1 4 ((p : Int) + 1)) (by omega) (by omega) (tC_row hC (up_row (by decide)) (up_row (by decide))) (by rw [up_at]; rfl), up_up]
    · rw [if_neg c, if_neg (show ¬ (32 ≤ T p ∧ T p ≤ 32) by omega), ← e4, up_self]
theorem c_nm {N : Nat} {T : Nat → Int} (hT : tpO N T) : ∀ (k n p : Nat) (J : am_J), k < n → p + k = N → tC N T J → J 1 4 = (p : Int) → f_Reader_skipName_L0 n J = some (am_up J 1 4 (rn T 97 122 k p : Nat)) := by
  have h4 := hT.1
  intro k
  induction k with
  | zero =>
    intro n p J hn hp hC e4
    obtain ⟨n, rfl⟩ : ∃ m, n = m + 1 := ⟨n - 1, by omega⟩
    rw [f_Reader_skipName_L0.eq_2, hC.1, e4, if_pos (show am_i32 (N : Int) by omega), if_pos (show am_i32 (p : Int) by omega), if_neg (show ¬ (p : Int) < N by omega)]
    show _ = some (am_up J 1 4 (p : Int))
    rw [← e4, up_self]
  | succ k ih =>
    intro n p J hn hp hC e4
    obtain ⟨n, rfl⟩ : ∃ m, n = m + 1 := ⟨n - 1, by omega⟩
    have hb := hT.2 p (by omega)
    rw [f_Reader_skipName_L0.eq_2, hC.1, e4, if_pos (show am_i32 (N : Int) by omega), if_pos (show am_i32 (p : Int) by omega), if_pos (show (p : Int) < N by omega), c_at hT hC (by omega)]
    simp only [Option.bind_some]
    rw [c_isLetter (by omega)]
    simp only [Option.bind_some, fl_32, if_true, fl_0]
    unfold rn
    by_cases c : 97 ≤ T p ∧ T p ≤ 122
    · rw [if_neg (show ¬ ¬ (97 ≤ T p ∧ T p ≤ 122) from fun z => z c), if_pos c, ih n (p + 1) (am_up J 1 4 ((p : Int) + 1)) (by omega) (by omega) (tC_row hC (up_row (by decide)) (up_row (by decide))) (by rw [up_at]; rfl), up_up]
    · rw [if_pos c, if_neg c, ← e4, up_self]
theorem c_nu {N : Nat} {T : Nat → Int} (hT : tpO N T) {q : Nat} : ∀ (k n p : Nat) (v : Int) (J : am_J), k < n → p + k = N → q ≤ p → p ≤ q + 3 → tC N T J → J 1 4 = (p : Int) → J 1 6 = (q : Int) → J 1 7 = v → (rn T 48 57 k p ≤ q + 3 → ∃ J', f_Reader_takeNumber_L5 n J = some (1, J') ∧ J' 1 4 = (rn T 48 57 k p : Nat) ∧ J' 1 7 = vaN T (rn T 48 57 k p - p) p v ∧ J' 1 5 = J 1 5 ∧ J' 1 6 = J 1 6 ∧ J' 1 10 = J 1 10) ∧ (q + 3 < rn T 48 57 k p → ∃ J', f_Reader_takeNumber_L5 n J = some (0, J') ∧ J' 1 10 = 1 ∧ J' 1 11 = (q : Int)) := by
  have h4 := hT.1
  intro k
  induction k with
  | zero =>
    intro n p v J hn hp hq hq3 hC e4 e6 e7
    obtain ⟨n, rfl⟩ : ∃ m, n = m + 1 := ⟨n - 1, by omega⟩
    rw [f_Reader_takeNumber_L5.eq_2, hC.1, e4, if_pos (show am_i32 (N : Int) by omega), if_pos (show am_i32 (p : Int) by omega), if_neg (show ¬ (p : Int) < N by omega)]
    unfold rn
    refine ⟨fun _ => ⟨J, rfl, e4, ?_, rfl, rfl, rfl⟩, fun z => by omega⟩
    rw [Nat.sub_self, e7]
    rfl
  | succ k ih =>
    intro n p v J hn hp hq hq3 hC e4 e6 e7
    obtain ⟨n, rfl⟩ : ∃ m, n = m + 1 := ⟨n - 1, by omega⟩
    have hb := hT.2 p (by omega)
    rw [f_Reader_takeNumber_L5.eq_2, hC.1, e4, e6, e7, if_pos (show am_i32 (N : Int) by omega), if_pos (show am_i32 (p : Int) by omega), if_pos (show (p : Int) < N by omega), c_at hT hC (by omega)]
    simp only [Option.bind_some]
    rw [c_isFigure (by omega)]
    simp only [Option.bind_some, fl_32, if_true, fl_0]
    by_cases c : 48 ≤ T p ∧ T p ≤ 57
    · have er : rn T 48 57 (k + 1) p = rn T 48 57 k (p + 1) := by
        show (if 48 ≤ T p ∧ T p ≤ 57 then rn T 48 57 k (p + 1) else p) = _
        rw [if_pos c]
      rw [if_neg (show ¬ ¬ (48 ≤ T p ∧ T p ≤ 57) from fun z => z c), if_pos (show am_i32 ((p : Int) - q) by omega), er]
      have hb2 := rn_bd T 48 57 k (p + 1)
      by_cases c3 : (p : Int) - q < 3
      · rw [if_pos c3]
        obtain ⟨i1, i2⟩ := ih n (p + 1) (v * 10 + T p - 48) (am_up (am_up J 1 7 (v * 10 + T p - 48)) 1 4 ((p : Int) + 1)) (by omega) (by omega) (by omega) (by omega) (tC_row hC (by rw [up_row (by decide), up_row (by decide)]) (by rw [up_row (by decide), up_row (by decide)])) (by rw [up_at]; rfl) (by rw [up_ne (by decide), up_ne (by decide)]; exact e6) (by rw [up_ne (by decide), up_at])
        refine ⟨fun z => ?_, fun z => i2 z⟩
        obtain ⟨J', j1, j2, j3, j4, j5, j6⟩ := i1 z
        refine ⟨J', j1, j2, ?_, by rw [j4, up_ne (by decide), up_ne (by decide)], by rw [j5, up_ne (by decide), up_ne (by decide)]; exact e6, by rw [j6, up_ne (by decide), up_ne (by decide)]⟩
        rw [j3, show rn T 48 57 k (p + 1) - p = (rn T 48 57 k (p + 1) - (p + 1)) + 1 by omega]
        rfl
      · rw [if_neg c3]
        refine ⟨fun z => by omega, fun _ => ?_⟩
        unfold f_Reader_fail
        simp only [Option.bind_some]
        rw [if_pos (Or.inl trivial)]
        exact ⟨_, rfl, rfl, rfl⟩
    · have er : rn T 48 57 (k + 1) p = p := by
        show (if 48 ≤ T p ∧ T p ≤ 57 then rn T 48 57 k (p + 1) else p) = _
        rw [if_neg c]
      rw [if_pos c, er]
      refine ⟨fun _ => ⟨J, rfl, e4, ?_, rfl, e6, rfl⟩, fun z => by omega⟩
      rw [Nat.sub_self, e7]
      rfl
theorem c_tok {N : Nat} {T : Nat → Int} (hT : tpO N T) {J : am_J} (hC : tC N T J) {p : Nat} (hp : p ≤ N) (e4 : J 1 4 = (p : Int)) : ∃ s J', f_Reader_nextToken J = some (s, J') ∧ ((tkk N T p ≠ 9 ∧ s = 1 ∧ J' 1 5 = (if tkk N T p = 0 then 4 else tkk N T p) ∧ J' 1 6 = (tkq N T p : Nat) ∧ J' 1 4 = (tke N T p : Nat) ∧ (tkk N T p = 2 → J' 1 7 = tkw N T p) ∧ J' 1 10 = J 1 10) ∨ (tkk N T p = 9 ∧ s = 0 ∧ J' 1 10 = 1 ∧ J' 1 11 = (tkq N T p : Nat))) := by
  have h4 := hT.1
  have hq := tkq_bd (T := T) hp
  have e0 : f_Reader_nextToken J = f_Reader_nextToken_L43 (am_up J 1 4 (tkq N T p : Nat)) := c_sp hT (N - p) am_FU p J (by have : am_FU = 20000 := rfl; omega) (by omega) hC e4
  rw [e0]
  have hC1 : tC N T (am_up J 1 4 (tkq N T p : Nat)) := tC_row hC (up_row (by decide)) (up_row (by decide))
  unfold f_Reader_nextToken_L43 tkw tke tkk
  generalize tkq N T p = q at *
  rw [hC1.1, up_at, if_pos (show am_i32 (N : Int) by omega), if_pos (show am_i32 (q : Int) by omega)]
  by_cases c0 : N ≤ q
  · rw [if_neg (show ¬ (q : Int) < N by omega)]
    refine ⟨1, _, rfl, Or.inl ?_⟩
    simp only [if_pos c0]
    exact ⟨by decide, trivial, rfl, rfl, rfl, fun z => (by cases z), rfl⟩
  · have hb := hT.2 q (by omega)
    have hC2 : tC N T (am_up (am_up J 1 4 (q : Int)) 1 6 (q : Int)) := tC_row hC (by rw [up_row (by decide), up_row (by decide)]) (by rw [up_row (by decide), up_row (by decide)])
    rw [if_pos (show (q : Int) < N by omega), c_at hT hC2 (by omega)]
    simp only [Option.bind_some, if_neg c0]
    rw [c_isLetter (by omega), c_isFigure (by omega)]
    simp only [Option.bind_some, fl_32, if_true, fl_0]
    by_cases c1 : 97 ≤ T q ∧ T q ≤ 122
    · have nm : f_Reader_skipName (am_up (am_up (am_up J 1 4 (q : Int)) 1 6 (q : Int)) 1 5 1) = some (am_up (am_up (am_up (am_up J 1 4 (q : Int)) 1 6 (q : Int)) 1 5 1) 1 4 (rn T 97 122 (N - q) q : Nat)) :=
        c_nm hT (N - q) am_FU q _ (by have : am_FU = 20000 := rfl; omega) (by omega) (tC_row hC (by rw [up_row (by decide), up_row (by decide), up_row (by decide)]) (by rw [up_row (by decide), up_row (by decide), up_row (by decide)])) rfl
      rw [if_neg (show ¬ ¬ (97 ≤ T q ∧ T q ≤ 122) from fun z => z c1), nm]
      refine ⟨1, _, rfl, Or.inl ?_⟩
      simp only [if_pos c1]
      exact ⟨by decide, trivial, rfl, rfl, rfl, fun z => (by cases z), rfl⟩
    · rw [if_pos c1]
      simp only [if_neg c1]
      by_cases c2 : 48 ≤ T q ∧ T q ≤ 57
      · rw [if_neg (show ¬ ¬ (48 ≤ T q ∧ T q ≤ 57) from fun z => z c2)]
        simp only [if_pos c2]
        obtain ⟨n1, n2⟩ := c_nu hT (q := q) (N - q) am_FU q 0 (am_up (am_up (am_up (am_up J 1 4 (q : Int)) 1 6 (q : Int)) 1 5 2) 1 7 0) (by have : am_FU = 20000 := rfl; omega) (by omega) (Nat.le_refl _) (by omega) (tC_row hC (by rw [up_row (by decide), up_row (by decide), up_row (by decide), up_row (by decide)]) (by rw [up_row (by decide), up_row (by decide), up_row (by decide), up_row (by decide)])) rfl rfl rfl
        unfold f_Reader_takeNumber
        by_cases c3 : rn T 48 57 (N - q) q - q ≤ 3
        · obtain ⟨J', j1, j2, j3, j4, j5, j6⟩ := n1 (by have := rn_bd T 48 57 (N - q) q; omega)
          rw [j1]
          simp only [Option.bind_some, if_pos c3]
          rw [if_pos (show (1 : Int) = 0 ∨ True from Or.inr trivial)]
          exact ⟨1, J', rfl, Or.inl ⟨by decide, rfl, j4, j5, j2, fun _ => j3, j6⟩⟩
        · obtain ⟨J', j1, j2, j3⟩ := n2 (by omega)
          rw [j1]
          simp only [Option.bind_some, if_neg c3]
          rw [if_pos (show True ∨ (0 : Int) = 1 from Or.inl trivial)]
          exact ⟨0, J', rfl, Or.inr ⟨trivial, rfl, j2, j3⟩⟩
      · rw [if_pos c2, if_pos (show am_i32 (T q) by omega)]
        simp only [if_neg c2]
        by_cases c3 : T q = 59
        · rw [if_pos c3]
          refine ⟨1, _, rfl, Or.inl ?_⟩
          simp only [if_pos c3]
          exact ⟨by decide, trivial, rfl, rfl, rfl, fun z => (by cases z), rfl⟩
        · rw [if_neg c3]
          unfold f_Reader_fail
          simp only [Option.bind_some]
          rw [if_pos (show am_i32 0 by decide), if_pos trivial]
          refine ⟨0, _, rfl, Or.inr ?_⟩
          simp only [if_neg c3]
          exact ⟨trivial, trivial, rfl, rfl⟩
