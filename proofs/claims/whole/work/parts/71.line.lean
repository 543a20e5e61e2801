/-! a line: what the two hold between lines -/
def gm (c m : Nat) : Prop := (∃ r, r < 8 ∧ c = 14 + r ∧ m = r) ∨ (∃ r, r < 8 ∧ c = 22 + r ∧ m = 12 + r) ∨ (∃ r, r < 8 ∧ c = 30 + r ∧ m = 24 + r) ∨ (∃ i, i < 72 ∧ c = 38 + i ∧ m = 36 + i) ∨ (∃ i, i < 72 ∧ c = 110 + i ∧ m = 144 + i)
theorem gm_inj {c m c' m' : Nat} (h : gm c m) (h' : gm c' m') : c = c' ↔ m = m' := by
  rcases h with ⟨r, h⟩ | ⟨r, h⟩ | ⟨r, h⟩ | ⟨r, h⟩ | ⟨r, h⟩ <;> rcases h' with ⟨r', h'⟩ | ⟨r', h'⟩ | ⟨r', h'⟩ | ⟨r', h'⟩ | ⟨r', h'⟩ <;> omega
theorem gm_bd {c m : Nat} (h : gm c m) : (14 ≤ c ∧ c < 182) ∧ m < 252 := by
  rcases h with ⟨r, h⟩ | ⟨r, h⟩ | ⟨r, h⟩ | ⟨r, h⟩ | ⟨r, h⟩ <;> omega
def MR (J J2 : am_J) : Prop := ∀ c m, gm c m → J 4 c = J2 70 m ∧ (J 4 c = 0 ∨ J 4 c = 1)
def ML (J J2 : am_J) : Prop := (0 ≤ J2 65 5 ∧ J2 65 5 < 512) ∧ ∀ k : Nat, k < 9 → J 4 (if k < 7 then k else k + 5) = (if Nat.testBit (J2 65 5).toNat k then 1 else 0)
def DR (b : Bool) (J J2 : am_J) : Prop := rv_ok (J2 67) ∧ rq (am_dr b) J (J2 67)
def HT (J J2 : am_J) : Prop := (-1 ≤ J 1 9 ∧ J 1 9 ≤ 7) ∧ J2 65 6 = (if J 1 9 < 0 then 0 else J 1 9) ∧ (∀ r : Nat, r < 8 → J 1 9 < (r : Int) → J2 67 (31 + r) = 0) ∧ (∀ k : Nat, k < 72 → 9 * J 1 9 + 9 ≤ (k : Int) → J2 67 (163 + k) = 0)
def LB (b : Bool) (J J2 : am_J) : Prop := DR b J J2 ∧ MR J J2 ∧ ML J J2 ∧ HT J J2
def PRE (N : Nat) (T : Nat → Int) (p : Nat) (J J2 : am_J) : Prop := p ≤ N ∧ J 1 4 = (p : Int) ∧ tokM N T p J2 ∧ tC N T J ∧ tM N T J2 ∧ J 1 10 = 0
theorem MR_set {J J2 J' J2' : am_J} (h : MR J J2) {c m : Nat} (g : gm c m) (e1 : J' 4 = (am_up J 4 c 1) 4) (e2 : J2' 70 = (am_up J2 70 m 1) 70) : MR J' J2' := by
  intro c' m' g'
  rw [e1, e2]
  by_cases e : c' = c
  · have e' := (gm_inj g' g).mp e
    rw [e, e', up_at, up_at]
    exact ⟨rfl, Or.inr rfl⟩
  · have e' : m' ≠ m := fun z => e ((gm_inj g' g).mpr z)
    rw [up_ne e, up_ne e']
    exact h c' m' g'
theorem MR_row {J J2 J' J2' : am_J} (h : MR J J2) (e1 : J' 4 = J 4) (e2 : J2' 70 = J2 70) : MR J' J2' := by
  intro c m g
  rw [e1, e2]
  exact h c m g
theorem ML_row {J J2 J' J2' : am_J} (h : ML J J2) (e1 : ∀ k, k < 14 → J' 4 k = J 4 k) (e2 : J2' 65 5 = J2 65 5) : ML J' J2' := by
  unfold ML
  rw [e2]
  refine ⟨h.1, fun k hk => ?_⟩
  rw [e1 _ (by split <;> omega)]
  exact h.2 k hk
theorem ML_set {J J2 J' J2' : am_J} (h : ML J J2) {c : Nat} (hc : 14 ≤ c) (e1 : J' 4 = (am_up J 4 c 1) 4) (e2 : J2' 65 5 = J2 65 5) : ML J' J2' :=
  ML_row h (fun k hk => by rw [e1, up_ne (by omega)]) e2
/-- the end of a line, by the class, by the reference -/
def clE (b : Bool) (x1 : Int) (J : am_J) : Option (Int × am_J) := (f_Reader_nextToken J).bind fun q312 => if am_i32 q312.1 then (if q312.1 = 0 then (some (0, q312.2)) else (if am_i32 (q312.2 1 5) then (if (q312.2 1 5) = 3 then ((f_Reader_tell b x1 q312.2).bind fun q318 => some (1, q318)) else ((f_Reader_fail 2 (q312.2 1 6) q312.2).bind fun q320 => if (q320.1 : Int) = 0 ∨ (q320.1 : Int) = 1 then (some (q320.1, q320.2)) else none)) else none)) else none
def rfE (q : am_J) : Option am_J := if am_i32 (q 65 13) then (if (q 65 13) = 0 then (if am_i32 (q 65 11) then (if (q 65 11) = 3 then (f_UpRiverModel_readLine_L118 1 q) else (f_UpRiverModel_readLine_L118 0 q)) else none) else (f_UpRiverModel_readLine_L122 q)) else none
theorem rfE_f {J : am_J} (h : 1 ≤ J 65 13 ∧ J 65 13 ≤ 5) : rfE J = some J := by
  unfold rfE f_UpRiverModel_readLine_L122
  rw [if_pos (show am_i32 (J 65 13) by omega), if_neg (show ¬ J 65 13 = 0 by omega), m_next_f h]
  rfl
theorem endS {N : Nat} {T : Nat → Int} (hT : tpO N T) {b : Bool} {kc : Int} {p : Nat} {J J2 : am_J} (h : PRE N T p J J2) : (∃ J1 J2', f_Reader_nextToken J = some (1, J1) ∧ f_UpRiverModel_next J2 = some J2' ∧ clE b kc J = ((f_Reader_tell b kc J1).bind fun q => some (1, q)) ∧ rfE J2 = some J2' ∧ p < tke N T p ∧ PRE N T (tke N T p) J1 J2') ∨ (∃ J' J2', clE b kc J = some (0, J') ∧ rfE J2 = some J2' ∧ flR J' J2' ∧ J2' 65 12 = J2 65 12 ∧ J2' 65 6 = J2 65 6 ∧ J2' 67 = J2 67) := by
  obtain ⟨hp, e4, hK, hC, hM, e10⟩ := h
  have h4 := hT.1
  have hq := tkq_bd (T := T) hp
  have hb := tke_bd (T := T) hp
  have kc4 := tkk_c N T p
  obtain ⟨s, J1, a1, a2⟩ := c_tok hT hC hp e4
  have hK' := hK
  obtain ⟨m0, m1⟩ := hK'
  rcases a2 with ⟨b1, rfl, b3, b4, b5, b6, b10⟩ | ⟨b1, rfl, b3, b4⟩
  · rcases m1 with ⟨n1, n2, n3, n4, n5, n6⟩ | ⟨n1, -⟩
    · by_cases c3 : tkk N T p = 3
      · left
        obtain ⟨J2', x1, x2⟩ := m_tok hT hM hb.2.1 n5 n2 m0
        rw [if_neg (show ¬ tkk N T p = 0 by omega), c3] at b3
        rw [c3] at n3
        have i10 : J1 1 10 = 0 := by rw [b10, e10]
        refine ⟨J1, J2', a1, x1, ?_, ?_, ?_, hb.2.1, b5, x2, tC_row hC (by funext j; exact frJ_Reader_nextToken a1 rfl) (by funext j; exact frJ_Reader_nextToken a1 rfl), tM_row hM (frJ_UpRiverModel_next x1 rfl) (by funext j; exact frJ_UpRiverModel_next x1 rfl), i10⟩
        · unfold clE
          rw [a1]
          simp only [Option.bind_some]
          rw [if_pos (show am_i32 1 by decide), if_neg (show ¬ (1 : Int) = 0 by decide), b3, if_pos (show am_i32 3 by decide), if_pos (show (3 : Int) = 3 from rfl)]
        · unfold rfE f_UpRiverModel_readLine_L118 f_UpRiverModel_readLine_L122
          rw [n2, if_pos (show am_i32 0 by decide), if_pos (show (0 : Int) = 0 from rfl), n3, if_pos (show am_i32 3 by decide), if_pos (show (3 : Int) = 3 from rfl), m_needs n2 (Or.inr rfl), if_neg (show ¬ (1 : Int) = 0 by decide), Option.bind_some, x1]
          rfl
        · have := hb.2.2.1 (by omega); omega
      · right
        refine ⟨am_up (am_up J1 1 10 2) 1 11 (J1 1 6), am_up (am_up J2 65 13 2) 65 14 (J2 65 10), ?_, ?_, ⟨rfl, ?_, (show (1 : Int) ≤ 2 ∧ (2 : Int) ≤ 5 by decide), ?_⟩, rfl, rfl, ?_⟩
        · unfold clE
          rw [a1]
          simp only [Option.bind_some]
          rw [if_pos (show am_i32 1 by decide), if_neg (show ¬ (1 : Int) = 0 by decide), b3, if_pos (show am_i32 (if tkk N T p = 0 then 4 else tkk N T p) by split <;> omega), if_neg (show ¬ (if tkk N T p = 0 then (4 : Int) else tkk N T p) = 3 by split <;> omega)]
          rfl
        · unfold rfE f_UpRiverModel_readLine_L118 f_UpRiverModel_readLine_L122
          rw [n2, if_pos (show am_i32 0 by decide), if_pos (show (0 : Int) = 0 from rfl), n3, if_pos (show am_i32 (tkk N T p) by omega), if_neg c3, m_needs n2 (Or.inl rfl), if_pos (show (0 : Int) = 0 from rfl), Option.bind_some, m_next_f (show (1 : Int) ≤ 2 ∧ (2 : Int) ≤ 5 by decide)]
          rfl
        · rw [up_at, up_at, b4, n4]
        · rw [up_at, n4]; omega
        · rw [up_row (by decide), up_row (by decide)]
    · exact absurd n1 b1
  · rcases m1 with ⟨n1, -⟩ | ⟨n1, n2, n3⟩
    · exact absurd b1 n1
    · right
      refine ⟨J1, J2, ?_, rfE_f (by omega), ⟨by rw [b3, n2], by rw [b4, n3], by omega, by rw [n3]; omega⟩, rfl, rfl, rfl⟩
      unfold clE
      rw [a1]
      rfl
