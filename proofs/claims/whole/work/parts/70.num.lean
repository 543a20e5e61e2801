/-! a number of a line -/
def flR (J J2 : am_J) : Prop := J 1 10 = J2 65 13 ∧ J 1 11 = J2 65 14 ∧ (1 ≤ J2 65 13 ∧ J2 65 13 ≤ 5) ∧ (0 ≤ J2 65 14 ∧ J2 65 14 ≤ 400)
theorem c_fail (x y : Int) (J : am_J) : f_Reader_fail x y J = some (0, am_up (am_up J 1 10 x) 1 11 y) := rfl
/-! the reference where a fault stands -/
theorem m_next_f {J : am_J} (h : 1 ≤ J 65 13 ∧ J 65 13 ≤ 5) : f_UpRiverModel_next J = some J := by
  unfold f_UpRiverModel_next
  rw [if_pos (show am_i32 (J 65 13) by omega), if_pos (show 0 < J 65 13 by omega)]
theorem m_isN_f {J : am_J} (h : 1 ≤ J 65 13 ∧ J 65 13 ≤ 5) (lo hi : Int) : f_UpRiverModel_isNumber lo hi J = some J := by
  unfold f_UpRiverModel_isNumber f_UpRiverModel_isNumber_L25
  rw [if_pos (show am_i32 (J 65 13) by omega), if_neg (show ¬ J 65 13 = 0 by omega), if_pos (show am_i32 (J 65 13) by omega), if_neg (show ¬ J 65 13 = 0 by omega)]
theorem m_readN_f {J : am_J} (h : 1 ≤ J 65 13 ∧ J 65 13 ≤ 5) (lo hi : Int) : f_UpRiverModel_readNumber lo hi J = some (J 65 12, J) := by
  unfold f_UpRiverModel_readNumber
  rw [m_isN_f h]
  simp only [Option.bind_some]
  rw [m_next_f h]
  rfl
theorem m_once_f {J : am_J} (h : 1 ≤ J 65 13 ∧ J 65 13 ≤ 5) (k : Int) : f_UpRiverModel_once k J = some J := by
  unfold f_UpRiverModel_once
  rw [if_pos (show am_i32 (J 65 13) by omega), if_neg (show ¬ J 65 13 = 0 by omega)]
theorem m_reach_f {J : am_J} (h : 1 ≤ J 65 13 ∧ J 65 13 ≤ 5) (h6 : 0 ≤ J 65 6 ∧ J 65 6 ≤ 7) {x : Int} (hx : x = 0 ∨ x = 1) (k : Int) : f_UpRiverModel_readReach x k J = some (0, J) := by
  unfold f_UpRiverModel_readReach f_UpRiverModel_readReach_L22 f_UpRiverModel_readReach_L40 f_UpRiverModel_readReach_L54
  rw [m_isN_f h]
  simp only [Option.bind_some]
  rw [if_pos (show am_i32 (J 65 13) by omega), if_neg (show ¬ J 65 13 = 0 by omega), if_pos (show am_i32 (J 65 6) by omega), if_pos (show am_i32 0 by decide), if_neg (show ¬ J 65 6 < 0 by omega), if_pos (show am_i32 x by omega), up_self, m_once_f h, m_next_f h]
  simp only [Option.bind_some]
  by_cases e : x = 0
  · rw [if_pos e]
  · rw [if_neg e, m_next_f h]
    rfl
theorem m_place_f {J : am_J} (h : 1 ≤ J 65 13 ∧ J 65 13 ≤ 5) (h6 : 0 ≤ J 65 6 ∧ J 65 6 ≤ 7) (k : Int) : f_UpRiverModel_readPlace k J = some (0, J) := by
  unfold f_UpRiverModel_readPlace
  rw [m_reach_f h h6 (Or.inl rfl)]
  simp only [Option.bind_some]
  rw [m_isN_f h]
  simp only [Option.bind_some]
  unfold f_UpRiverModel_readPlace_L29
  rw [if_pos (show am_i32 (J 65 13) by omega), if_neg (show ¬ J 65 13 = 0 by omega), m_once_f h]
  simp only [Option.bind_some]
  rw [m_next_f h]
  rfl
theorem num {N : Nat} {T : Nat → Int} (hT : tpO N T) {J J2 : am_J} (hC : tC N T J) {p : Nat} (hp : p ≤ N) (e4 : J 1 4 = (p : Int)) (hM : tokM N T p J2) {lo hi : Int} (hlo : am_i32 lo) (hhi : am_i32 hi) : ∃ s J' J2', f_Reader_readNumber lo hi J = some (s, J') ∧ f_UpRiverModel_isNumber lo hi J2 = some J2' ∧ ((s = 1 ∧ J2' = J2 ∧ tkk N T p = 2 ∧ J' 1 4 = (tke N T p : Nat) ∧ J' 1 6 = (tkq N T p : Nat) ∧ J' 1 7 = tkw N T p ∧ (lo ≤ tkw N T p ∧ tkw N T p ≤ hi) ∧ J2 65 13 = 0 ∧ J2 65 12 = tkw N T p ∧ J2 65 9 = (tke N T p : Nat) ∧ J2 65 10 = (tkq N T p : Nat) ∧ J' 1 10 = J 1 10) ∨ (s = 0 ∧ flR J' J2' ∧ J2' 65 12 = J2 65 12)) := by
  have h4 := hT.1
  have hq := tkq_bd (T := T) hp
  obtain ⟨s, J', a1, a2⟩ := c_tok hT hC hp e4
  obtain ⟨m0, m1⟩ := hM
  have kc := tkk_c N T p
  rcases a2 with ⟨b1, rfl, b3, b4, b5, b6, b10⟩ | ⟨b1, rfl, b3, b4⟩
  · rcases m1 with ⟨n1, n2, n3, n4, n5, n6⟩ | ⟨n1, -⟩
    · by_cases c2 : tkk N T p = 2
      · have w := b6 c2
        have w2 := n6 c2
        rw [if_neg (show ¬ tkk N T p = 0 by omega), c2] at b3
        rw [c2] at n3
        have L43 : f_Reader_readNumber_L43 J' = some (0, am_up (am_up J' 1 10 3) 1 11 (J' 1 6)) := rfl
        have cl : f_Reader_readNumber lo hi J = if lo ≤ tkw N T p ∧ tkw N T p ≤ hi then some (1, J') else some (0, am_up (am_up J' 1 10 3) 1 11 (J' 1 6)) := by
          unfold f_Reader_readNumber
          rw [a1]
          simp only [Option.bind_some]
          rw [if_pos (show am_i32 1 by decide), if_neg (show ¬ (1 : Int) = 0 by decide), b3, if_pos (show am_i32 2 by decide), if_pos rfl, if_pos hlo, w, if_pos (show am_i32 (tkw N T p) by omega), if_pos hhi, L43]
          by_cases c3 : tkw N T p < lo
          · rw [if_pos c3, if_neg (show ¬ (lo ≤ tkw N T p ∧ tkw N T p ≤ hi) by omega)]
          · rw [if_neg c3]
            by_cases c4 : hi < tkw N T p
            · rw [if_pos c4, if_neg (show ¬ (lo ≤ tkw N T p ∧ tkw N T p ≤ hi) by omega)]
            · rw [if_neg c4, if_pos (show lo ≤ tkw N T p ∧ tkw N T p ≤ hi by omega)]
        have ml : f_UpRiverModel_isNumber lo hi J2 = if lo ≤ tkw N T p ∧ tkw N T p ≤ hi then some J2 else some (am_up (am_up J2 65 13 3) 65 14 (J2 65 10)) := by
          unfold f_UpRiverModel_isNumber f_UpRiverModel_isNumber_L21 f_UpRiverModel_isNumber_L25
          rw [n2, if_pos (show am_i32 0 by decide), if_pos (show (0 : Int) = 0 from rfl), n3, if_pos (show am_i32 2 by decide), if_pos (show (2 : Int) = 2 from rfl), m_needs n2 (Or.inr rfl), if_neg (show ¬ (1 : Int) = 0 by decide)]
          simp only [Option.bind_some]
          rw [n2, if_pos (show am_i32 0 by decide), if_pos (show (0 : Int) = 0 from rfl), w2, m_in (by omega) hlo hhi]
          simp only [Option.bind_some]
          by_cases c3 : lo ≤ tkw N T p ∧ tkw N T p ≤ hi
          · rw [fl_t c3, if_pos c3, m_needs n2 (Or.inr rfl), if_neg (show ¬ (1 : Int) = 0 by decide)]
            rfl
          · rw [fl_f c3, if_neg c3, m_needs n2 (Or.inl rfl), if_pos (show (0 : Int) = 0 from rfl)]
            rfl
        by_cases c3 : lo ≤ tkw N T p ∧ tkw N T p ≤ hi
        · rw [if_pos c3] at cl ml
          exact ⟨1, J', J2, cl, ml, Or.inl ⟨rfl, rfl, c2, b5, b4, w, c3, n2, w2, n5, n4, b10⟩⟩
        · rw [if_neg c3] at cl ml
          refine ⟨0, _, _, cl, ml, Or.inr ⟨rfl, ⟨rfl, ?_, (show (1 : Int) ≤ 3 ∧ (3 : Int) ≤ 5 by decide), ?_⟩, rfl⟩⟩
          · rw [up_at, up_at, b4, n4]
          · rw [up_at, n4]; omega
      · have cl : f_Reader_readNumber lo hi J = some (0, am_up (am_up J' 1 10 2) 1 11 (J' 1 6)) := by
          unfold f_Reader_readNumber
          rw [a1]
          simp only [Option.bind_some]
          rw [if_pos (show am_i32 1 by decide), if_neg (show ¬ (1 : Int) = 0 by decide), b3, if_pos (show am_i32 (if tkk N T p = 0 then 4 else tkk N T p) by split <;> omega), if_neg (show ¬ (if tkk N T p = 0 then (4 : Int) else tkk N T p) = 2 by split <;> omega)]
          rfl
        have ml : f_UpRiverModel_isNumber lo hi J2 = some (am_up (am_up J2 65 13 2) 65 14 (J2 65 10)) := by
          unfold f_UpRiverModel_isNumber f_UpRiverModel_isNumber_L21 f_UpRiverModel_isNumber_L25
          rw [n2, if_pos (show am_i32 0 by decide), if_pos (show (0 : Int) = 0 from rfl), n3, if_pos (show am_i32 (tkk N T p) by omega), if_neg c2, m_needs n2 (Or.inl rfl), if_pos (show (0 : Int) = 0 from rfl)]
          simp only [Option.bind_some]
          rfl
        refine ⟨0, _, _, cl, ml, Or.inr ⟨rfl, ⟨rfl, ?_, (show (1 : Int) ≤ 2 ∧ (2 : Int) ≤ 5 by decide), ?_⟩, rfl⟩⟩
        · rw [up_at, up_at, b4, n4]
        · rw [up_at, n4]; omega
    · exact absurd n1 b1
  · rcases m1 with ⟨n1, -⟩ | ⟨n1, n2, n3⟩
    · exact absurd b1 n1
    · have cl : f_Reader_readNumber lo hi J = some (0, J') := by
        unfold f_Reader_readNumber
        rw [a1]
        rfl
      exact ⟨0, J', J2, cl, m_isN_f (by omega) lo hi, Or.inr ⟨rfl, ⟨by rw [b3, n2], by rw [b4, n3], by omega, by rw [n3]; omega⟩, rfl⟩⟩
theorem mk1 {J J2 : am_J} {c m : Nat} (hc : c < 182) (hm : m < 252) (e : J 4 c = J2 70 m) (h01 : J 4 c = 0 ∨ J 4 c = 1) (e6 : J 1 6 = J2 65 10) (h13 : J2 65 13 = 0) (h10 : 0 ≤ J2 65 10 ∧ J2 65 10 ≤ 400) : ∃ s J' J2', f_Reader_mark (c : Int) J = some (s, J') ∧ f_UpRiverModel_once (m : Int) J2 = some J2' ∧ ((s = 1 ∧ J' = am_up J 4 c 1 ∧ J2' = am_up J2 70 m 1) ∨ (s = 0 ∧ flR J' J2' ∧ J2' 65 12 = J2 65 12)) := by
  have cl : f_Reader_mark (c : Int) J = if J 4 c = 0 then some (1, am_up J 4 c 1) else some (0, am_up (am_up J 1 10 4) 1 11 (J 1 6)) := by
    unfold f_Reader_mark
    rw [if_pos (show am_i32 (c : Int) by omega), if_neg (show ¬ (c : Int) < 0 by omega), if_pos (show (c : Int) < 182 by omega), if_pos (show 0 ≤ (c : Int) ∧ (c : Int) < 182 by omega), show ((c : Int)).toNat = c from rfl, if_pos (show am_i32 (J 4 c) by omega)]
    by_cases c0 : J 4 c = 0
    · rw [if_pos c0, if_pos c0]
    · rw [if_neg c0, if_neg c0]
      rfl
  have ml : f_UpRiverModel_once (m : Int) J2 = if J 4 c = 0 then some (am_up J2 70 m 1) else some (am_up (am_up (am_up J2 65 13 4) 65 14 (J2 65 10)) 70 m 1) := by
    unfold f_UpRiverModel_once f_UpRiverModel_once_L22
    rw [show ((m : Int)).toNat = m from rfl, h13, if_pos (show am_i32 0 by decide), if_pos (show (0 : Int) = 0 from rfl), if_pos (show 0 ≤ (m : Int) ∧ (m : Int) < 252 by omega), ← e, if_pos (show am_i32 (J 4 c) by omega), m_needs h13 (Or.inl rfl), m_needs h13 (Or.inr rfl), if_pos (show (0 : Int) = 0 from rfl), if_neg (show ¬ (1 : Int) = 0 by decide)]
    by_cases c0 : J 4 c = 0
    · rw [if_pos c0, if_pos c0, Option.bind_some, if_pos (show 0 ≤ (m : Int) ∧ (m : Int) < 252 by omega)]
    · rw [if_neg c0, if_neg c0, Option.bind_some, if_pos (show 0 ≤ (m : Int) ∧ (m : Int) < 252 by omega)]
  by_cases c0 : J 4 c = 0
  · rw [if_pos c0] at cl ml
    exact ⟨1, _, _, cl, ml, Or.inl ⟨rfl, rfl, rfl⟩⟩
  · rw [if_neg c0] at cl ml
    refine ⟨0, _, _, cl, ml, Or.inr ⟨rfl, ⟨rfl, ?_, (show (1 : Int) ≤ 4 ∧ (4 : Int) ≤ 5 by decide), ?_⟩, rfl⟩⟩
    · rw [up_at, up_row (show 65 ≠ 70 by decide), up_at, e6]
    · rw [up_row (show 65 ≠ 70 by decide), up_at]; exact h10
theorem mk0 (J : am_J) : f_Reader_mark (-4) J = some (1, J) := by
  unfold f_Reader_mark
  rw [if_pos (show am_i32 (-4) by decide), if_pos (show (-4 : Int) < 0 by decide)]
/-- a number, and the token behind it -/
theorem stepN {N : Nat} {T : Nat → Int} (hT : tpO N T) {J J2 : am_J} (hC : tC N T J) (hM : tM N T J2) {p : Nat} (hp : p ≤ N) (e4 : J 1 4 = (p : Int)) (hK : tokM N T p J2) {lo hi : Int} (hlo : am_i32 lo) (hhi : am_i32 hi) : ∃ s J' w J2', f_Reader_readNumber lo hi J = some (s, J') ∧ f_UpRiverModel_readNumber lo hi J2 = some (w, J2') ∧ (0 ≤ w ∧ w ≤ 999) ∧ ((s = 1 ∧ (lo ≤ w ∧ w ≤ hi) ∧ J' 1 7 = w ∧ J' 1 4 = (tke N T p : Nat) ∧ p < tke N T p ∧ tke N T p ≤ N ∧ tokM N T (tke N T p) J2' ∧ J' 1 10 = J 1 10) ∨ (s = 0 ∧ flR J' J2' ∧ J2' 65 12 = J2 65 12)) := by
  obtain ⟨s, J', J2', a1, a2, a3⟩ := num hT hC hp e4 hK hlo hhi
  have hb := tke_bd (T := T) hp
  have hq := tkq_bd (T := T) hp
  have h12 := hK.1
  unfold f_UpRiverModel_readNumber
  rw [a1, a2]
  simp only [Option.bind_some]
  rcases a3 with ⟨rfl, rfl, b3, b4, b5, b6, b7, b8, b9, b10, b11, b12⟩ | ⟨rfl, b2, b3⟩
  · obtain ⟨J3, c1, c2⟩ := m_tok hT hM hb.2.1 b10 b8 h12
    rw [c1]
    refine ⟨1, J', _, J3, rfl, rfl, h12, Or.inl ⟨rfl, by rw [b9]; exact b7, by rw [b6, b9], b4, ?_, hb.2.1, c2, b12⟩⟩
    have := hb.2.2.1 (by omega)
    omega
  · rw [m_next_f b2.2.2.1]
    exact ⟨0, J', _, J2', rfl, rfl, by rw [b3]; exact h12, Or.inr ⟨rfl, b2, b3⟩⟩
