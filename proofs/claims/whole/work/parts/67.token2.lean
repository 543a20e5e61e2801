/-! the reference's tokens -/
def nxT (J : am_J) : Option am_J := (f_UpRiverModel_look (am_up J 65 10 (J 65 9)) (J 65 9)).bind fun q1606 => if am_i32 q1606 then (if q1606 < 0 then (some (am_up (am_up J 65 10 (J 65 9)) 65 11 0)) else ((f_UpRiverModel_in (am_i2l q1606) (97 : Int64) (122 : Int64)).bind fun q1610 => if am_i32 q1610 then (if q1610 = 0 then ((f_UpRiverModel_in (am_i2l q1606) (48 : Int64) (57 : Int64)).bind fun q1614 => if am_i32 q1614 then (if q1614 = 0 then (if q1606 = 59 then (f_UpRiverModel_next_L260 1 (am_up (am_up J 65 10 (J 65 9)) 65 11 3)) else (f_UpRiverModel_next_L260 0 (am_up (am_up J 65 10 (J 65 9)) 65 11 3))) else (f_UpRiverModel_next_L140 am_FU (am_up (am_up (am_up J 65 10 (J 65 9)) 65 11 2) 65 12 0))) else none) else (f_UpRiverModel_next_L82 am_FU (am_up (am_up J 65 10 (J 65 9)) 65 11 1))) else none)) else none
theorem L8_eq (n : Nat) (J : am_J) : f_UpRiverModel_next_L8 (n + 1) J = (f_UpRiverModel_look J (J 65 9)).bind fun q1602 => if am_i32 q1602 then (if q1602 = 32 then (f_UpRiverModel_next_L8 n (am_up J 65 9 ((J 65 9) + 1))) else nxT J) else none := by rw [f_UpRiverModel_next_L8.eq_2]; rfl
theorem tpO_i {N : Nat} {T : Nat → Int} (hT : tpO N T) (p : Nat) : am_i32 (if p < N then T p else -1) := by
  by_cases c : p < N
  · rw [if_pos c]
    have := hT.2 p c
    omega
  · rw [if_neg c]
    decide
theorem m_sp {N : Nat} {T : Nat → Int} (hT : tpO N T) : ∀ (k n p : Nat) (J : am_J), k < n → p + k = N → tM N T J → J 65 9 = (p : Int) → f_UpRiverModel_next_L8 n J = nxT (am_up J 65 9 (rn T 32 32 k p : Nat)) := by
  have h4 := hT.1
  intro k
  induction k with
  | zero =>
    intro n p J hn hp hM e9
    obtain ⟨n, rfl⟩ : ∃ m, n = m + 1 := ⟨n - 1, by omega⟩
    rw [L8_eq, e9, m_look hT hM p (by omega), if_neg (show ¬ p < N by omega)]
    simp only [Option.bind_some]
    rw [if_pos (show am_i32 (-1) by decide), if_neg (show ¬ (-1 : Int) = 32 by decide)]
    show _ = nxT (am_up J 65 9 (p : Int))
    rw [← e9, up_self]
  | succ k ih =>
    intro n p J hn hp hM e9
    obtain ⟨n, rfl⟩ : ∃ m, n = m + 1 := ⟨n - 1, by omega⟩
    have hb := hT.2 p (by omega)
    rw [L8_eq, e9, m_look hT hM p (by omega), if_pos (show p < N by omega)]
    simp only [Option.bind_some]
    rw [if_pos (show am_i32 (T p) by omega)]
    unfold rn
    by_cases c : T p = 32
    · rw [if_pos c, if_pos (show 32 ≤ T p ∧ T p ≤ 32 by omega), ih n (p + 1) (am_up J 65 9 ((p : Int) + 1)) (by omega) (by omega) (tM_row hM (up_ne (by decide)) (up_row (by decide))) (by rw [up_at]; rfl), up_up]
    · rw [if_neg c, if_neg (show ¬ (32 ≤ T p ∧ T p ≤ 32) by omega), ← e9, up_self]
theorem m_nm {N : Nat} {T : Nat → Int} (hT : tpO N T) : ∀ (k n p : Nat) (J : am_J), k < n → p + k = N → tM N T J → J 65 9 = (p : Int) → f_UpRiverModel_next_L82 n J = some (am_up J 65 9 (rn T 97 122 k p : Nat)) := by
  have h4 := hT.1
  intro k
  induction k with
  | zero =>
    intro n p J hn hp hM e9
    obtain ⟨n, rfl⟩ : ∃ m, n = m + 1 := ⟨n - 1, by omega⟩
    rw [f_UpRiverModel_next_L82.eq_2, e9, m_look hT hM p (by omega), if_neg (show ¬ p < N by omega)]
    simp only [Option.bind_some]
    rw [m_isL (by decide)]
    simp only [Option.bind_some, fl_32, if_true, fl_0]
    rw [if_pos (show ¬ ((97 : Int) ≤ -1 ∧ (-1 : Int) ≤ 122) by decide)]
    show _ = some (am_up J 65 9 (p : Int))
    rw [← e9, up_self]
  | succ k ih =>
    intro n p J hn hp hM e9
    obtain ⟨n, rfl⟩ : ∃ m, n = m + 1 := ⟨n - 1, by omega⟩
    have hb := hT.2 p (by omega)
    rw [f_UpRiverModel_next_L82.eq_2, e9, m_look hT hM p (by omega), if_pos (show p < N by omega)]
    simp only [Option.bind_some]
    rw [m_isL (by omega)]
    simp only [Option.bind_some, fl_32, if_true, fl_0]
    unfold rn
    by_cases c : 97 ≤ T p ∧ T p ≤ 122
    · rw [if_neg (show ¬ ¬ (97 ≤ T p ∧ T p ≤ 122) from fun z => z c), if_pos c, ih n (p + 1) (am_up J 65 9 ((p : Int) + 1)) (by omega) (by omega) (tM_row hM (up_ne (by decide)) (up_row (by decide))) (by rw [up_at]; rfl), up_up]
    · rw [if_pos c, if_neg c, ← e9, up_self]
theorem m_needs {J : am_J} {x c : Int} (h13 : J 65 13 = 0) (hx : x = 0 ∨ x = 1) : f_UpRiverModel_needs x c J = some (if x = 0 then am_up (am_up J 65 13 c) 65 14 (J 65 10) else J) := by
  unfold f_UpRiverModel_needs
  rw [if_pos (show am_i32 x by omega), h13, if_pos (show am_i32 0 by decide), if_pos (show (0 : Int) = 0 from rfl)]
  by_cases e : x = 0
  · rw [if_pos e, if_pos e]
  · rw [if_neg e, if_neg e]
theorem m_needs_f {J : am_J} {x c : Int} (h13 : J 65 13 ≠ 0) (h32 : am_i32 (J 65 13)) (hx : am_i32 x) : f_UpRiverModel_needs x c J = some J := by
  unfold f_UpRiverModel_needs
  rw [if_pos hx, if_pos h32, if_neg h13]
  by_cases e : x = 0
  · rw [if_pos e]
  · rw [if_neg e]
theorem m_nu {N : Nat} {T : Nat → Int} (hT : tpO N T) {q : Nat} : ∀ (k n p : Nat) (v : Int) (J : am_J), k < n → p + k = N → q ≤ p → ((p = q ∧ v = 0) ∨ (p = q + 1 ∧ 0 ≤ v ∧ v ≤ 9) ∨ (p = q + 2 ∧ 0 ≤ v ∧ v ≤ 99) ∨ (q + 3 ≤ p ∧ 0 ≤ v ∧ v ≤ 999)) → tM N T J → J 65 9 = (p : Int) → J 65 10 = (q : Int) → J 65 12 = v → J 65 13 = 0 → ∃ J', f_UpRiverModel_next_L140 n J = some J' ∧ J' 65 9 = (rn T 48 57 k p : Nat) ∧ J' 65 10 = (q : Int) ∧ J' 65 11 = J 65 11 ∧ (0 ≤ J' 65 12 ∧ J' 65 12 ≤ 999) ∧ (rn T 48 57 k p ≤ q + 3 → J' 65 13 = 0 ∧ J' 65 12 = vaN T (rn T 48 57 k p - p) p v) ∧ (q + 3 < rn T 48 57 k p → J' 65 13 = 1 ∧ J' 65 14 = (q : Int)) := by
  have h4 := hT.1
  have fin : ∀ (p : Nat) (v : Int) (J : am_J), q ≤ p → p ≤ N → (0 ≤ v ∧ v ≤ 999) → J 65 9 = (p : Int) → J 65 10 = (q : Int) → J 65 12 = v → J 65 13 = 0 → ∃ J', (if am_i32 ((J 65 9) - (J 65 10)) then (if 3 < ((J 65 9) - (J 65 10)) then (f_UpRiverModel_next_L236 0 J) else (f_UpRiverModel_next_L236 1 J)) else none) = some J' ∧ J' 65 9 = (p : Int) ∧ J' 65 10 = (q : Int) ∧ J' 65 11 = J 65 11 ∧ (0 ≤ J' 65 12 ∧ J' 65 12 ≤ 999) ∧ (p ≤ q + 3 → J' 65 13 = 0 ∧ J' 65 12 = v) ∧ (q + 3 < p → J' 65 13 = 1 ∧ J' 65 14 = (q : Int)) := by
    intro p v J hq hp hv e9 e10 e12 e13
    unfold f_UpRiverModel_next_L236
    rw [m_needs e13 (Or.inl rfl), m_needs e13 (Or.inr rfl), e9, e10, if_pos (show am_i32 ((p : Int) - q) by omega)]
    by_cases c : (3 : Int) < (p : Int) - q
    · rw [if_pos c, if_pos (show (0 : Int) = 0 from rfl)]
      refine ⟨_, rfl, ?_, ?_, ?_, ?_, fun z => by omega, fun _ => ?_⟩
      · rw [up_ne (by decide), up_ne (by decide)]; exact e9
      · rw [up_ne (by decide), up_ne (by decide)]; exact e10
      · rw [up_ne (by decide), up_ne (by decide)]
      · rw [up_ne (by decide), up_ne (by decide), e12]; exact hv
      · rw [up_at, up_ne (by decide), up_at]; exact ⟨rfl, rfl⟩
    · rw [if_neg c, if_neg (show ¬ (1 : Int) = 0 by decide)]
      exact ⟨J, rfl, e9, e10, rfl, by rw [e12]; exact hv, fun _ => ⟨e13, e12⟩, fun z => by omega⟩
  intro k
  induction k with
  | zero =>
    intro n p v J hn hp hq hv hM e9 e10 e12 e13
    obtain ⟨n, rfl⟩ : ∃ m, n = m + 1 := ⟨n - 1, by omega⟩
    obtain ⟨J', a1, a2, a3, a4, a5, a6, a7⟩ := fin p v J hq (by omega) (by omega) e9 e10 e12 e13
    have lk : f_UpRiverModel_look J (J 65 9) = some (-1) := by rw [e9, m_look hT hM p (by omega), if_neg (show ¬ p < N by omega)]
    rw [f_UpRiverModel_next_L140.eq_2, lk]
    simp only [Option.bind_some]
    rw [m_isF (by decide)]
    simp only [Option.bind_some, fl_32, if_true, fl_0]
    rw [if_pos (show ¬ ((48 : Int) ≤ -1 ∧ (-1 : Int) ≤ 57) by decide), a1]
    refine ⟨J', rfl, a2, a3, a4, a5, fun z => ?_, fun z => a7 z⟩
    obtain ⟨b1, b2⟩ := a6 z
    refine ⟨b1, ?_⟩
    rw [b2]
    show v = vaN T (p - p) p v
    rw [Nat.sub_self]
    rfl
  | succ k ih =>
    intro n p v J hn hp hq hv hM e9 e10 e12 e13
    obtain ⟨n, rfl⟩ : ∃ m, n = m + 1 := ⟨n - 1, by omega⟩
    have hb := hT.2 p (by omega)
    have lk : f_UpRiverModel_look J (J 65 9) = some (T p) := by rw [e9, m_look hT hM p (by omega), if_pos (show p < N by omega)]
    rw [f_UpRiverModel_next_L140.eq_2, lk]
    simp only [Option.bind_some]
    rw [m_isF (by omega)]
    simp only [Option.bind_some, fl_32, if_true, fl_0]
    by_cases c : 48 ≤ T p ∧ T p ≤ 57
    · have er : rn T 48 57 (k + 1) p = rn T 48 57 k (p + 1) := by
        show (if 48 ≤ T p ∧ T p ≤ 57 then rn T 48 57 k (p + 1) else p) = _
        rw [if_pos c]
      have hb2 := rn_bd T 48 57 k (p + 1)
      rw [if_neg (show ¬ ¬ (48 ≤ T p ∧ T p ≤ 57) from fun z => z c), e9, e10, e12, if_pos (show am_i32 ((p : Int) - q) by omega), er]
      by_cases c3 : (p : Int) - q < 3
      · rw [if_pos c3]
        obtain ⟨J', a1, a2, a3, a4, a5, a6, a7⟩ := ih n (p + 1) (10 * v + T p - 48) (am_up (am_up J 65 12 (10 * v + T p - 48)) 65 9 ((p : Int) + 1)) (by omega) (by omega) (by omega) (by omega) (tM_row hM (by rw [up_ne (by decide), up_ne (by decide)]) (by rw [up_row (by decide), up_row (by decide)])) (by rw [up_at]; rfl) (by rw [up_ne (by decide), up_ne (by decide)]; exact e10) (by rw [up_ne (by decide), up_at]) (by rw [up_ne (by decide), up_ne (by decide)]; exact e13)
        refine ⟨J', a1, a2, a3, by rw [a4, up_ne (by decide), up_ne (by decide)], a5, fun z => ?_, a7⟩
        obtain ⟨b1, b2⟩ := a6 z
        refine ⟨b1, ?_⟩
        rw [b2, show rn T 48 57 k (p + 1) - p = (rn T 48 57 k (p + 1) - (p + 1)) + 1 by omega, Int.mul_comm 10 v]
        rfl
      · rw [if_neg c3]
        obtain ⟨J', a1, a2, a3, a4, a5, a6, a7⟩ := ih n (p + 1) v (am_up (am_up J 65 12 v) 65 9 ((p : Int) + 1)) (by omega) (by omega) (by omega) (by omega) (tM_row hM (by rw [up_ne (by decide), up_ne (by decide)]) (by rw [up_row (by decide), up_row (by decide)])) (by rw [up_at]; rfl) (by rw [up_ne (by decide), up_ne (by decide)]; exact e10) (by rw [up_ne (by decide), up_at]) (by rw [up_ne (by decide), up_ne (by decide)]; exact e13)
        exact ⟨J', a1, a2, a3, by rw [a4, up_ne (by decide), up_ne (by decide)], a5, fun z => by omega, a7⟩
    · have er : rn T 48 57 (k + 1) p = p := by
        show (if 48 ≤ T p ∧ T p ≤ 57 then rn T 48 57 k (p + 1) else p) = _
        rw [if_neg c]
      obtain ⟨J', a1, a2, a3, a4, a5, a6, a7⟩ := fin p v J hq (by omega) (by omega) e9 e10 e12 e13
      rw [if_pos c, a1, er]
      refine ⟨J', rfl, a2, a3, a4, a5, fun z => ?_, fun z => a7 z⟩
      obtain ⟨b1, b2⟩ := a6 z
      refine ⟨b1, ?_⟩
      rw [b2, Nat.sub_self]
      rfl
/-- the reference has read the token that begins from p on -/
def tokM (N : Nat) (T : Nat → Int) (p : Nat) (J : am_J) : Prop := (0 ≤ J 65 12 ∧ J 65 12 ≤ 999) ∧ ((tkk N T p ≠ 9 ∧ J 65 13 = 0 ∧ J 65 11 = tkk N T p ∧ J 65 10 = (tkq N T p : Nat) ∧ J 65 9 = (tke N T p : Nat) ∧ (tkk N T p = 2 → J 65 12 = tkw N T p)) ∨ (tkk N T p = 9 ∧ J 65 13 = 1 ∧ J 65 14 = (tkq N T p : Nat)))
theorem m_tok {N : Nat} {T : Nat → Int} (hT : tpO N T) {J : am_J} (hM : tM N T J) {p : Nat} (hp : p ≤ N) (e9 : J 65 9 = (p : Int)) (e13 : J 65 13 = 0) (e12 : 0 ≤ J 65 12 ∧ J 65 12 ≤ 999) : ∃ J', f_UpRiverModel_next J = some J' ∧ tokM N T p J' := by
  have h4 := hT.1
  have hq := tkq_bd (T := T) hp
  have e0 : f_UpRiverModel_next J = nxT (am_up J 65 9 (tkq N T p : Nat)) := by
    unfold f_UpRiverModel_next
    rw [e13, if_pos (show am_i32 0 by decide), if_neg (show ¬ (0 : Int) < 0 by decide)]
    exact m_sp hT (N - p) am_FU p J (by have : am_FU = 20000 := rfl; omega) (by omega) hM e9
  rw [e0]
  unfold nxT tokM tkw tke tkk
  generalize tkq N T p = q at *
  have hM2 : tM N T (am_up (am_up J 65 9 (q : Int)) 65 10 (q : Int)) := tM_row hM (by rw [up_ne (by decide), up_ne (by decide)]) (by rw [up_row (by decide), up_row (by decide)])
  rw [up_at, m_look hT hM2 q (by omega)]
  simp only [Option.bind_some]
  rw [if_pos (tpO_i hT q)]
  by_cases c0 : N ≤ q
  · rw [if_neg (show ¬ q < N by omega), if_pos (show (-1 : Int) < 0 by decide)]
    simp only [if_pos c0]
    refine ⟨_, rfl, ?_, Or.inl ⟨by decide, ?_, rfl, rfl, rfl, fun z => by cases z⟩⟩
    · rw [up_ne (by decide), up_ne (by decide), up_ne (by decide)]; exact e12
    · rw [up_ne (by decide), up_ne (by decide), up_ne (by decide)]; exact e13
  have hb := hT.2 q (by omega)
  rw [if_pos (show q < N by omega), if_neg (show ¬ T q < 0 by omega), m_isL (by omega), m_isF (by omega)]
  simp only [Option.bind_some, fl_32, if_true, fl_0, if_neg c0]
  by_cases c1 : 97 ≤ T q ∧ T q ≤ 122
  · rw [if_neg (show ¬ ¬ (97 ≤ T q ∧ T q ≤ 122) from fun z => z c1), m_nm hT (N - q) am_FU q _ (by have : am_FU = 20000 := rfl; omega) (by omega) (tM_row hM (by rw [up_ne (by decide), up_ne (by decide), up_ne (by decide)]) (by rw [up_row (by decide), up_row (by decide), up_row (by decide)])) rfl]
    simp only [if_pos c1]
    refine ⟨_, rfl, ?_, Or.inl ⟨by decide, ?_, rfl, rfl, rfl, fun z => by cases z⟩⟩
    · rw [up_ne (by decide), up_ne (by decide), up_ne (by decide), up_ne (by decide)]; exact e12
    · rw [up_ne (by decide), up_ne (by decide), up_ne (by decide), up_ne (by decide)]; exact e13
  rw [if_pos c1]
  simp only [if_neg c1]
  by_cases c2 : 48 ≤ T q ∧ T q ≤ 57
  · rw [if_neg (show ¬ ¬ (48 ≤ T q ∧ T q ≤ 57) from fun z => z c2)]
    simp only [if_pos c2]
    obtain ⟨J', a1, a2, a3, a4, a5, a6, a7⟩ := m_nu hT (q := q) (N - q) am_FU q 0 (am_up (am_up (am_up (am_up J 65 9 (q : Int)) 65 10 (q : Int)) 65 11 2) 65 12 0) (by have : am_FU = 20000 := rfl; omega) (by omega) (Nat.le_refl _) (Or.inl ⟨rfl, rfl⟩) (tM_row hM (by rw [up_ne (by decide), up_ne (by decide), up_ne (by decide), up_ne (by decide)]) (by rw [up_row (by decide), up_row (by decide), up_row (by decide), up_row (by decide)])) rfl rfl rfl (by rw [up_ne (by decide), up_ne (by decide), up_ne (by decide), up_ne (by decide)]; exact e13)
    refine ⟨J', a1, a5, ?_⟩
    have hb3 := rn_bd T 48 57 (N - q) q
    by_cases c3 : rn T 48 57 (N - q) q - q ≤ 3
    · simp only [if_pos c3]
      obtain ⟨b1, b2⟩ := a6 (by omega)
      exact Or.inl ⟨by decide, b1, a4, a3, a2, fun _ => b2⟩
    · simp only [if_neg c3]
      exact Or.inr ⟨trivial, a7 (by omega)⟩
  rw [if_pos c2]
  simp only [if_neg c2]
  have e13' : (am_up (am_up (am_up J 65 9 (q : Int)) 65 10 (q : Int)) 65 11 3) 65 13 = 0 := by rw [up_ne (by decide), up_ne (by decide), up_ne (by decide)]; exact e13
  unfold f_UpRiverModel_next_L260
  rw [m_needs e13' (Or.inr rfl), m_needs e13' (Or.inl rfl), if_pos (show (0 : Int) = 0 from rfl), if_neg (show ¬ (1 : Int) = 0 by decide)]
  by_cases c3 : T q = 59
  · rw [if_pos c3]
    simp only [Option.bind_some, if_pos c3]
    refine ⟨_, rfl, ?_, Or.inl ⟨by decide, ?_, rfl, rfl, rfl, fun z => by cases z⟩⟩
    · rw [up_ne (by decide), up_ne (by decide), up_ne (by decide), up_ne (by decide)]; exact e12
    · rw [up_ne (by decide)]; exact e13'
  · rw [if_neg c3]
    simp only [Option.bind_some, if_neg c3]
    refine ⟨_, rfl, ?_, Or.inr ⟨trivial, rfl, rfl⟩⟩
    rw [up_ne (by decide), up_ne (by decide), up_ne (by decide), up_ne (by decide), up_ne (by decide), up_ne (by decide)]; exact e12
theorem tkk_c (N : Nat) (T : Nat → Int) (p : Nat) : tkk N T p = 0 ∨ tkk N T p = 1 ∨ tkk N T p = 2 ∨ tkk N T p = 3 ∨ tkk N T p = 9 := by
  unfold tkk
  split
  · omega
  · split
    · omega
    · split
      · split <;> omega
      · split <;> omega
