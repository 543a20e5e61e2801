/-! a whole line -/
theorem bitA : ∀ t : Fin 512, ∀ k : Fin 9, am_and (am_shr ((t : Nat) : Int) ((k : Nat) : Int)) 1 = (if Nat.testBit t k then 1 else 0) ∧ am_or ((t : Nat) : Int) (am_shl 1 ((k : Nat) : Int)) = ((((t : Nat) ||| (1 <<< (k : Nat)) : Nat)) : Int) ∧ ((t : Nat) ||| (1 <<< (k : Nat))) < 512 := by decide +kernel
theorem bitB : ∀ k j : Fin 9, Nat.testBit (1 <<< (k : Nat)) (j : Nat) = decide ((j : Nat) = (k : Nat)) := by decide +kernel
def mlI (k : Nat) : Nat := if k < 7 then k else k + 5
theorem ML_mark {J J2 : am_J} (h : ML J J2) {k : Nat} (hk : k < 9) {w : Int} (hw : w = am_or (J2 65 5) (am_shl 1 (k : Int))) : ML (am_up J 4 (mlI k) 1) (am_up J2 65 5 w) := by
  obtain ⟨⟨h0, h1⟩, h2⟩ := h
  obtain ⟨t, ht⟩ : ∃ t : Nat, J2 65 5 = (t : Int) := ⟨(J2 65 5).toNat, by omega⟩
  have ht5 : t < 512 := by omega
  obtain ⟨-, b2, b3⟩ := bitA ⟨t, ht5⟩ ⟨k, hk⟩
  dsimp only at b2 b3
  rw [ht, b2] at hw
  unfold ML
  rw [up_at, hw]
  refine ⟨by omega, fun j hj => ?_⟩
  rw [show (((t ||| 1 <<< k : Nat) : Int)).toNat = t ||| 1 <<< k from rfl, Nat.testBit_or]
  have bb := bitB ⟨k, hk⟩ ⟨j, hj⟩
  dsimp only at bb
  rw [bb]
  have hj2 := h2 j hj
  rw [ht, show ((t : Int)).toNat = t from rfl] at hj2
  by_cases e : j = k
  · have : (if j < 7 then j else j + 5) = mlI k := by rw [e]; rfl
    rw [this, up_at]
    simp [e]
  · have : (if j < 7 then j else j + 5) ≠ mlI k := by unfold mlI; split <;> split <;> omega
    rw [up_ne this, hj2]
    simp [e]
theorem L74_f {N : Nat} {T : Nat → Int} (hT : tpO N T) {b : Bool} {kc : Nat} (hk : kc < 14) {p : Nat} {J J2 : am_J} (h : PRE N T p J J2) (h9 : tkk N T p = 9) : ∃ J', f_Reader_readLine_L74 b am_FU (kc : Int) 0 J = some (0, J') ∧ flR J' J2 := by
  obtain ⟨n, hn⟩ : ∃ n, am_FU = n + 1 := ⟨19999, rfl⟩
  obtain ⟨hp, e4, hK, hC, hM, e10⟩ := h
  have facts : ∃ cnt lo hi, f_Reader_numbersOf (kc : Int) = some cnt ∧ (1 ≤ cnt ∧ cnt ≤ 12) ∧ f_Reader_leastOf J (kc : Int) 0 = some lo ∧ f_Reader_mostOf J (kc : Int) 0 = some hi ∧ am_i32 lo ∧ am_i32 hi := by
    have hc : kc = 0 ∨ kc = 1 ∨ kc = 2 ∨ kc = 3 ∨ kc = 4 ∨ kc = 5 ∨ kc = 6 ∨ kc = 7 ∨ kc = 8 ∨ kc = 9 ∨ kc = 10 ∨ kc = 11 ∨ kc = 12 ∨ kc = 13 := by omega
    rcases hc with rfl | rfl | rfl | rfl | rfl | rfl | rfl | rfl | rfl | rfl | rfl | rfl | rfl | rfl <;> exact ⟨_, _, _, rfl, by decide, rfl, rfl, by decide, by decide⟩
  obtain ⟨cnt, lo, hi, f1, f2, f3, f4, f5, f6⟩ := facts
  obtain ⟨s, J', J2', a1, a2, a3⟩ := num hT hC hp e4 hK f5 f6
  obtain ⟨l1, -⟩ := L74_num (b := b) (n := n) f1 f2.2 (show 0 ≤ (0 : Int) ∧ 0 < cnt by omega) f3 f4 a1
  rcases a3 with ⟨-, -, b3, -⟩ | ⟨rfl, b2, -⟩
  · omega
  · rcases hK.2 with ⟨m1, -⟩ | ⟨-, m2, m3⟩
    · exact absurd h9 m1
    · have := m_isN_f (J := J2) (by omega) lo hi
      obtain rfl := Option.some.inj (this.symm.trans a2)
      exact ⟨J', by rw [hn]; exact l1 rfl, b2⟩
theorem L80_eq {m : Int} {J2 J3 : am_J} (h : f_UpRiverModel_next J2 = some J3) : f_UpRiverModel_readLine_L80 m J2 = if am_i32 (J3 65 13) then (if 0 < (J3 65 13) then (some J3) else ((f_UpRiverModel_readLineOf m J3).bind rfE)) else none := by
  unfold f_UpRiverModel_readLine_L80
  rw [h]
  rfl
/-- the line's body behind its name -/
theorem body {N : Nat} {T : Nat → Int} (hT : tpO N T) {b : Bool} {kc : Nat} {km : Int} (hkm : (kc < 7 ∧ km = kc) ∨ (kc = 7 ∧ km = 10) ∨ (kc = 8 ∧ km = 13) ∨ (kc = 9 ∧ km = 14) ∨ (kc = 10 ∧ km = 11) ∨ (kc = 11 ∧ km = 12) ∨ (kc = 12 ∧ km = 7) ∨ (kc = 13 ∧ km = 8)) {p p' : Nat} (hpp : p ≤ p') (hp' : p' ≤ N) {J J2 : am_J} (hC : tC N T J) (hM : tM N T J2) (e4 : J 1 4 = (p' : Int)) (e10 : J 1 10 = 0) (e9 : J2 65 9 = (p' : Int)) (e13 : J2 65 13 = 0) (e12 : 0 ≤ J2 65 12 ∧ J2 65 12 ≤ 999) (hL : LB b J J2) : LR b N T p (f_Reader_readLine_L74 b am_FU (kc : Int) 0 J) (f_UpRiverModel_readLine_L80 km J2) := by
  obtain ⟨J3, x1, x2⟩ := m_tok hT hM hp' e9 e13 e12
  have hP : PRE N T p' J J3 := ⟨hp', e4, x2, hC, tM_row hM (frJ_UpRiverModel_next x1 rfl) (by funext j; exact frJ_UpRiverModel_next x1 rfl), e10⟩
  have fr : ∀ a, a ≠ 65 → J3 a = J2 a := fun a ha => by funext j; exact frJ_UpRiverModel_next x1 (nw_not2 65 65 rfl ha ha)
  have f5 : J3 65 5 = J2 65 5 := frJ_UpRiverModel_next x1 rfl
  have f6 : J3 65 6 = J2 65 6 := frJ_UpRiverModel_next x1 rfl
  have hL3 : LB b J J3 := by
    refine LB_of hL ⟨by rw [fr 67 (by decide)]; exact hL.1.1, by rw [fr 67 (by decide)]; exact hL.1.2⟩ rfl (fr 70 (by decide)) f5 rfl f6 (fun r _ => by rw [fr 67 (by decide)]) (fun r _ => by rw [fr 67 (by decide)])
  rw [L80_eq x1]
  rcases x2.2 with ⟨m1, m2, -⟩ | ⟨m1, m2, m3⟩
  · rw [m2, if_pos (show am_i32 0 by decide), if_neg (show ¬ (0 : Int) < 0 by decide)]
    have main : LR b N T p' (f_Reader_readLine_L74 b am_FU (kc : Int) 0 J) ((f_UpRiverModel_readLineOf km J3).bind rfE) := by
      rcases hkm with ⟨h1, rfl⟩ | ⟨rfl, rfl⟩ | ⟨rfl, rfl⟩ | ⟨rfl, rfl⟩ | ⟨rfl, rfl⟩ | ⟨rfl, rfl⟩ | ⟨rfl, rfl⟩ | ⟨rfl, rfl⟩
      · exact line_rule hT hP hL3 h1
      · exact line_bank hT hP hL3
      · exact line_deep hT hP hL3
      · exact line_eddy hT hP hL3
      · exact line_lee hT hP hL3
      · exact line_wind hT hP hL3
      · exact line_ph hT (Or.inl ⟨rfl, rfl, rfl, rfl⟩) hP hL3
      · exact line_ph hT (Or.inr ⟨rfl, rfl, rfl, rfl⟩) hP hL3
    obtain ⟨s, A, B, a1, a2, a3⟩ := main
    refine ⟨s, A, B, a1, a2, ?_⟩
    rcases a3 with ⟨c1, q, c2, c3⟩ | c1
    · exact Or.inl ⟨c1, q, by omega, c3⟩
    · exact Or.inr c1
  · rw [m2, if_pos (show am_i32 1 by decide), if_pos (show (0 : Int) < 1 by decide)]
    obtain ⟨J', y1, y2⟩ := L74_f hT (b := b) (kc := kc) (by omega) hP m1
    have h70 := hL.1.1.1.1
    have h6 := HT_6 hL.2.2.2
    exact ⟨0, J', J3, y1, rfl, Or.inr ⟨rfl, y2, x2.1, by rw [f6]; exact h6, by rw [fr 67 (by decide)]; omega⟩⟩
theorem rdLine {N : Nat} {T : Nat → Int} (hT : tpO N T) {b : Bool} {p : Nat} (hp : p ≤ N) {J J2 : am_J} (hC : tC N T J) (hM : tM N T J2) (hK : tokM N T p J2) (hk9 : tkk N T p ≠ 9) (hk0 : tkk N T p ≠ 0) (e5 : J 1 5 = tkk N T p) (e6 : J 1 6 = (tkq N T p : Nat)) (e4 : J 1 4 = (tke N T p : Nat)) (e10 : J 1 10 = 0) (hL : LB b J J2) : LR b N T p (f_Reader_readLine b J) (f_UpRiverModel_readLine J2) := by
  have h4 := hT.1
  have hb := tke_bd (T := T) hp
  have hq := tkq_bd (T := T) hp
  have kc4 := tkk_c N T p
  have h70 := hL.1.1.1.1
  have h6 := HT_6 hL.2.2.2
  have h12 := hK.1
  obtain ⟨n1, n2, n3, n4, n5, n6⟩ : tkk N T p ≠ 9 ∧ J2 65 13 = 0 ∧ J2 65 11 = tkk N T p ∧ J2 65 10 = (tkq N T p : Nat) ∧ J2 65 9 = (tke N T p : Nat) ∧ (tkk N T p = 2 → J2 65 12 = tkw N T p) := by
    rcases hK.2 with z | z
    · exact z
    · exact absurd z.1 hk9
  -- where no name stands
  have none : f_Reader_readLine b J = f_Reader_readLine_L17 b 14 J → f_UpRiverModel_readLine J2 = f_UpRiverModel_readLine_L17 (-4) J2 → LR b N T p (f_Reader_readLine b J) (f_UpRiverModel_readLine J2) := by
    intro u1 u2
    have cl : f_Reader_readLine_L17 b 14 J = some (0, am_up (am_up J 1 10 2) 1 11 (J 1 6)) := rfl
    have ml : f_UpRiverModel_readLine_L17 (-4) J2 = some (am_up (am_up J2 65 13 2) 65 14 (J2 65 10)) := by
      unfold f_UpRiverModel_readLine_L17 f_UpRiverModel_readLine_L30
      rw [if_pos (show am_i32 (-4) by decide), if_pos (show (-4 : Int) = -4 from rfl), m_needs n2 (Or.inl rfl), if_pos (show (0 : Int) = 0 from rfl)]
      simp only [Option.bind_some]
      have z13 : (am_up (am_up J2 65 13 2) 65 14 (J2 65 10)) 65 13 = 2 := rfl
      rw [z13, if_pos (show am_i32 2 by decide), if_neg (show ¬ (2 : Int) = 0 by decide), L80_eq (m_next_f (show (1 : Int) ≤ 2 ∧ (2 : Int) ≤ 5 by decide)), z13, if_pos (show am_i32 2 by decide), if_pos (show (0 : Int) < 2 by decide)]
    refine ⟨0, _, _, u1.trans cl, u2.trans ml, Or.inr ⟨rfl, ⟨rfl, ?_, (show (1 : Int) ≤ 2 ∧ (2 : Int) ≤ 5 by decide), ?_⟩, h12, h6, ?_⟩⟩
    · rw [up_at, up_at, e6, n4]
    · rw [up_at, n4]; omega
    · rw [up_row (by decide), up_row (by decide)]; omega
  by_cases c1 : tkk N T p = 1
  · have cl : f_Reader_readLine b J = f_Reader_readLine_L17 b (kdN ((tke N T p : Int) - (tkq N T p : Int)) (fun i => T (tkq N T p + i))) J := by
      unfold f_Reader_readLine
      rw [e5, c1, if_pos (show am_i32 1 by decide), if_pos (show (1 : Int) = 1 from rfl), c_kind hT hC e6 e4 hb.1 hb.2.1]
      rfl
    have ml : f_UpRiverModel_readLine J2 = f_UpRiverModel_readLine_L17 (nmN ((tke N T p : Int) - (tkq N T p : Int)) (fun i => T (tkq N T p + i))) J2 := by
      unfold f_UpRiverModel_readLine
      rw [n3, c1, if_pos (show am_i32 1 by decide), if_pos (show (1 : Int) = 1 from rfl), m_name hT hM n4 n5 hb.1 hb.2.1]
      rfl
    have km := kn_map ((tke N T p : Int) - (tkq N T p : Int)) (fun i => T (tkq N T p + i))
    generalize kdN ((tke N T p : Int) - (tkq N T p : Int)) (fun i => T (tkq N T p + i)) = kc at *
    generalize nmN ((tke N T p : Int) - (tkq N T p : Int)) (fun i => T (tkq N T p + i)) = m at *
    by_cases z : kc = 14
    · have zm : m = -4 := by omega
      rw [z] at cl
      rw [zm] at ml
      exact none cl ml
    have hkc : 0 ≤ kc ∧ kc < 14 := by omega
    obtain ⟨k, hk⟩ : ∃ k : Nat, kc = (k : Int) := ⟨kc.toNat, by omega⟩
    subst hk
    have hk14 : k < 14 := by omega
    have hkm : (k < 7 ∧ m = k) ∨ (k = 7 ∧ m = 10) ∨ (k = 8 ∧ m = 13) ∨ (k = 9 ∧ m = 14) ∨ (k = 10 ∧ m = 11) ∨ (k = 11 ∧ m = 12) ∨ (k = 12 ∧ m = 7) ∨ (k = 13 ∧ m = 8) := by omega
    clear km
    have hpq : p ≤ tke N T p := Nat.le_trans hq.1 hb.1
    by_cases once : k < 7 ∨ k = 12 ∨ k = 13
    · -- a line that is told once
      obtain ⟨j, hj9, hjk, hjm⟩ : ∃ j : Nat, j < 9 ∧ mlI j = k ∧ m = (j : Int) := by
        by_cases c7 : k < 7
        · exact ⟨k, by omega, by unfold mlI; rw [if_pos c7], by omega⟩
        · refine ⟨k - 5, by omega, ?_, by omega⟩
          unfold mlI
          rw [if_neg (by omega)]
          omega
      have hML := hL.2.2.1
      have bit := hML.2 j hj9
      rw [show (if j < 7 then j else j + 5) = k from hjk] at bit
      obtain ⟨t, ht⟩ : ∃ t : Nat, J2 65 5 = (t : Int) := ⟨(J2 65 5).toNat, by have := hML.1; omega⟩
      have ht5 : t < 512 := by have := hML.1; omega
      obtain ⟨b1, -, -⟩ := bitA ⟨t, ht5⟩ ⟨j, hj9⟩
      dsimp only at b1
      rw [ht, show ((t : Int)).toNat = t from rfl] at bit
      have cl2 : f_Reader_readLine b J = if J 4 k = 0 then f_Reader_readLine_L74 b am_FU (k : Int) 0 (am_up J 4 k 1) else some (0, am_up (am_up J 1 10 4) 1 11 (J 1 6)) := by
        have mk : f_Reader_mark (k : Int) J = if J 4 k = 0 then some (1, am_up J 4 k 1) else some (0, am_up (am_up J 1 10 4) 1 11 (J 1 6)) := by
          unfold f_Reader_mark
          have j01 : J 4 k = 0 ∨ J 4 k = 1 := by rw [bit]; split <;> omega
          rw [if_pos (show am_i32 (k : Int) by omega), if_neg (show ¬ (k : Int) < 0 by omega), if_pos (show (k : Int) < 182 by omega), if_pos (show 0 ≤ (k : Int) ∧ (k : Int) < 182 by omega), show ((k : Int)).toNat = k from rfl, if_pos (show am_i32 (J 4 k) by omega)]
          by_cases c0 : J 4 k = 0
          · rw [if_pos c0, if_pos c0]
          · rw [if_neg c0, if_neg c0]
            rfl
        have L57 : f_Reader_readLine_L57 b (k : Int) 1 J = if J 4 k = 0 then f_Reader_readLine_L74 b am_FU (k : Int) 0 (am_up J 4 k 1) else some (0, am_up (am_up J 1 10 4) 1 11 (J 1 6)) := by
          unfold f_Reader_readLine_L57
          rw [if_pos (show am_i32 1 by decide), if_neg (show ¬ (1 : Int) = 0 by decide), mk]
          by_cases c0 : J 4 k = 0
          · rw [if_pos c0, if_pos c0]
            rfl
          · rw [if_neg c0, if_neg c0]
            rfl
        rw [cl]
        unfold f_Reader_readLine_L17
        rw [if_pos (show am_i32 (k : Int) by omega), if_pos (show (k : Int) < 14 by omega)]
        by_cases c7 : (k : Int) < 7
        · rw [if_pos c7]; exact L57
        · rw [if_neg c7]
          by_cases c12 : (k : Int) = 12
          · rw [if_pos c12]; exact L57
          · rw [if_neg c12, if_pos (show (k : Int) = 13 by omega)]; exact L57
      have ml2 : f_UpRiverModel_readLine J2 = if J 4 k = 0 then f_UpRiverModel_readLine_L80 m (am_up J2 65 5 (am_or (J2 65 5) (am_shl 1 (j : Int)))) else f_UpRiverModel_readLine_L80 m (am_up (am_up (am_up J2 65 13 4) 65 14 (J2 65 10)) 65 5 (am_or (J2 65 5) (am_shl 1 (j : Int)))) := by
        rw [ml]
        unfold f_UpRiverModel_readLine_L17 f_UpRiverModel_readLine_L30 f_UpRiverModel_readLine_L64
        rw [if_pos (show am_i32 m by omega), if_neg (show ¬ m = -4 by omega), m_needs n2 (Or.inr rfl), if_neg (show ¬ (1 : Int) = 0 by decide)]
        simp only [Option.bind_some]
        rw [n2, if_pos (show am_i32 0 by decide), if_pos (show (0 : Int) = 0 from rfl), if_pos (show am_i32 m by omega), if_pos (show m < 10 by omega), ht, hjm, b1, m_needs n2 (Or.inr rfl), m_needs n2 (Or.inl rfl), if_neg (show ¬ (1 : Int) = 0 by decide), if_pos (show (0 : Int) = 0 from rfl)]
        simp only [Option.bind_some]
        rw [ht, show (am_up (am_up J2 65 13 4) 65 14 (J2 65 10)) 65 5 = (t : Int) from ht]
        by_cases bt0 : Nat.testBit t j = true
        · rw [if_pos bt0] at bit
          rw [if_pos bt0, bit, if_pos (show am_i32 1 by decide), if_neg (show ¬ (1 : Int) = 0 by decide)]
        · rw [if_neg bt0] at bit
          rw [if_neg bt0, bit, if_pos (show am_i32 0 by decide), if_pos (show (0 : Int) = 0 from rfl)]
      rw [cl2, ml2]
      by_cases c0 : J 4 k = 0
      · rw [if_pos c0, if_pos c0]
        have hL' : LB b (am_up J 4 k 1) (am_up J2 65 5 (am_or (J2 65 5) (am_shl 1 (j : Int)))) := by
          obtain ⟨d1, d2, d3, d4⟩ := hL
          have od := dr_o b
          refine ⟨⟨by rw [up_row (by decide)]; exact d1.1, by rw [up_row (by decide)]; exact rq_fr d1.2 fun i h1 h9 jj => by rw [up_row (by omega)]⟩, ?_, ?_, ?_⟩
          · intro c mm g
            have gb := gm_bd g
            rw [up_ne (by omega), up_row (by decide)]
            exact d2 c mm g
          · rw [← hjk]
            exact ML_mark d3 hj9 rfl
          · unfold HT
            rw [up_row (show 1 ≠ 4 by decide), up_ne (show 6 ≠ 5 by decide), up_row (show 67 ≠ 65 by decide)]
            exact d4
        exact body hT hkm hpq hb.2.1 (tC_row hC (up_row (by decide)) (up_row (by decide))) (tM_row hM (up_ne (by decide)) (up_row (by decide))) (by rw [up_row (by decide)]; exact e4) (by rw [up_row (by decide)]; exact e10) (by rw [up_ne (by decide)]; exact n5) (by rw [up_ne (by decide)]; exact n2) (by rw [up_ne (by decide)]; exact h12) hL'
      · rw [if_neg c0, if_neg c0]
        have z13 : (am_up (am_up (am_up J2 65 13 4) 65 14 (J2 65 10)) 65 5 (am_or (J2 65 5) (am_shl 1 (j : Int)))) 65 13 = 4 := rfl
        rw [L80_eq (m_next_f (by rw [z13]; decide)), z13, if_pos (show am_i32 4 by decide), if_pos (show (0 : Int) < 4 by decide)]
        refine ⟨0, _, _, rfl, rfl, Or.inr ⟨rfl, ⟨rfl, ?_, by rw [z13]; decide, ?_⟩, h12, h6, ?_⟩⟩
        · rw [up_at, up_ne (by decide), up_at, e6, n4]
        · rw [up_ne (by decide), up_at, n4]; omega
        · rw [up_row (by decide), up_row (by decide), up_row (by decide)]; omega
    · -- any other line
      have cl2 : f_Reader_readLine b J = f_Reader_readLine_L74 b am_FU (k : Int) 0 J := by
        rw [cl]
        unfold f_Reader_readLine_L17 f_Reader_readLine_L57
        rw [if_pos (show am_i32 (k : Int) by omega), if_pos (show (k : Int) < 14 by omega), if_neg (show ¬ (k : Int) < 7 by omega), if_neg (show ¬ (k : Int) = 12 by omega), if_neg (show ¬ (k : Int) = 13 by omega), if_pos (show am_i32 0 by decide), if_pos (show (0 : Int) = 0 from rfl)]
      have ml2 : f_UpRiverModel_readLine J2 = f_UpRiverModel_readLine_L80 m J2 := by
        rw [ml]
        unfold f_UpRiverModel_readLine_L17 f_UpRiverModel_readLine_L30
        rw [if_pos (show am_i32 m by omega), if_neg (show ¬ m = -4 by omega), m_needs n2 (Or.inr rfl), if_neg (show ¬ (1 : Int) = 0 by decide)]
        simp only [Option.bind_some]
        rw [n2, if_pos (show am_i32 0 by decide), if_pos (show (0 : Int) = 0 from rfl), if_pos (show am_i32 m by omega), if_neg (show ¬ m < 10 by omega)]
      rw [cl2, ml2]
      exact body hT hkm hpq hb.2.1 hC hM e4 e10 n5 n2 h12 hL
  · refine none ?_ ?_
    · unfold f_Reader_readLine
      rw [e5, if_pos (show am_i32 (tkk N T p) by omega), if_neg c1]
    · unfold f_UpRiverModel_readLine
      rw [n3, if_pos (show am_i32 (tkk N T p) by omega), if_neg c1]
