theorem lnR0 {N : Nat} {T : Nat → Int} (hT : tpO N T) {b : Bool} {n : Nat} {kc cnt : Int} {p : Nat} {J J2 : am_J} (h : PRE N T p J J2) (h6 : 0 ≤ J2 65 6 ∧ J2 65 6 ≤ 7) (h0 : f_Reader_numbersOf kc = some cnt) (hc : 1 ≤ cnt ∧ cnt ≤ 12) (hl : f_Reader_leastOf J kc 0 = some 0) (hh : f_Reader_mostOf J kc 0 = some 7) (hmk : ∀ A : am_J, f_Reader_markOf A kc 0 = some (-4)) : ∃ r J2', f_UpRiverModel_readReach 0 0 J2 = some (r, J2') ∧ (0 ≤ r ∧ r ≤ 7) ∧ kpM J2 J2' ∧ J2' 70 = J2 70 ∧ (0 ≤ J2' 65 6 ∧ J2' 65 6 ≤ 7) ∧ ((∃ J'' p', p < p' ∧ f_Reader_readLine_L74 b (n + 1) kc 0 J = f_Reader_readLine_L74 b n kc (0 + 1) J'' ∧ PRE N T p' J'' J2' ∧ kpC 0 r J J'' ∧ J'' 4 = J 4 ∧ J2' 65 6 = (if J2 65 6 < r then r else J2 65 6)) ∨ (∃ J', f_Reader_readLine_L74 b (n + 1) kc 0 J = some (0, J') ∧ flR J' J2' ∧ J2' 65 12 = J2 65 12)) := by
  have h' := h
  obtain ⟨hp, e4, hK, hC, hM, e10⟩ := h'
  have h4 := hT.1
  have h12 := hK.1
  have hb := tke_bd (T := T) hp
  have hq := tkq_bd (T := T) hp
  obtain ⟨s, J', J2a, a1, a2, a3⟩ := num hT hC hp e4 hK (lo := 0) (hi := 7) (by decide) (by decide)
  obtain ⟨l1, l2⟩ := L74_num (b := b) (n := n) h0 hc.2 (show 0 ≤ (0 : Int) ∧ 0 < cnt by omega) hl hh a1
  have frR : ∀ r J2', f_UpRiverModel_readReach 0 0 J2 = some (r, J2') → kpM J2 J2' := fun r J2' u => ⟨fun a x1 x2 => by funext j; exact frJ_UpRiverModel_readReach u (nw_not2 65 70 rfl x1 x2), frJ_UpRiverModel_readReach u rfl⟩
  rcases a3 with ⟨rfl, rfl, b3, b4, b5, b6, b7, b8, b9, b10, b11, b12⟩ | ⟨rfl, b2, b3⟩
  · have hm6 : (0 ≤ (if J2a 65 6 < tkw N T p then tkw N T p else J2a 65 6) ∧ (if J2a 65 6 < tkw N T p then tkw N T p else J2a 65 6) ≤ 7) := by split <;> omega
    obtain ⟨k1, k2⟩ := kpC_num (i := 0) a1
    rw [b6] at k1 k2
    have rr : f_UpRiverModel_readReach 0 0 J2a = (f_UpRiverModel_next (am_up J2a 65 6 (if J2a 65 6 < tkw N T p then tkw N T p else J2a 65 6))).bind fun q => some (tkw N T p, q) := by
      unfold f_UpRiverModel_readReach f_UpRiverModel_readReach_L22 f_UpRiverModel_readReach_L40 f_UpRiverModel_readReach_L54
      rw [a2]
      simp only [Option.bind_some]
      rw [b8, if_pos (show am_i32 0 by decide), if_pos (show (0 : Int) = 0 from rfl), b9, if_pos (show am_i32 (J2a 65 6) by omega), if_pos (show am_i32 (tkw N T p) by omega)]
      by_cases cc : J2a 65 6 < tkw N T p
      · rw [if_pos cc, if_pos cc, if_pos (show am_i32 0 by decide), if_pos trivial]
      · rw [if_neg cc, if_neg cc, if_pos (show am_i32 0 by decide), if_pos trivial]
    obtain ⟨J2c, x1, x2⟩ := m_tok hT (J := am_up J2a 65 6 (if J2a 65 6 < tkw N T p then tkw N T p else J2a 65 6)) (p := tke N T p) (tM_row hM (up_ne (by decide)) (up_row (by decide))) hb.2.1 (by rw [up_ne (by decide)]; exact b10) (by rw [up_ne (by decide)]; exact b8) (by rw [up_ne (by decide)]; exact h12)
    rw [x1] at rr
    have rr' : f_UpRiverModel_readReach 0 0 J2a = some (tkw N T p, J2c) := rr
    have e6 : J2c 65 6 = (if J2a 65 6 < tkw N T p then tkw N T p else J2a 65 6) := (frJ_UpRiverModel_next x1 rfl).trans (up_at _ _ _ _)
    have fm := frR _ _ rr'
    refine ⟨tkw N T p, J2c, rr', b7, fm, ?_, by rw [e6]; exact hm6, Or.inl ⟨am_up J' 5 0 (tkw N T p), tke N T p, ?_, ?_, ?_, k1, k2, e6⟩⟩
    · funext j; exact (frJ_UpRiverModel_next x1 rfl).trans (by rw [up_row (by decide)])
    · have := hb.2.2.1 (by omega); omega
    · have := (l2 rfl (-4) 1 _ (hmk _) (mk0 _)).2 rfl
      rw [b6] at this
      exact this
    · exact PRE_of h hb.2.1 (by rw [up_row (by decide)]; exact b4) x2 (by rw [up_row (by decide)]; exact b12) (k1.2.2.1 2 (by decide) (by decide) (by decide)) (k1.2.2.1 3 (by decide) (by decide) (by decide)) (frJ_UpRiverModel_readReach rr' rfl) (fm.1 71 (by decide) (by decide))
  · have g6 : J2a 65 6 = J2 65 6 := frJ_UpRiverModel_isNumber a2 rfl
    have rr : f_UpRiverModel_readReach 0 0 J2 = some (0, J2a) := by
      have := m_reach_f (J := J2a) b2.2.2.1 (by rw [g6]; exact h6) (x := 0) (Or.inl rfl) 0
      unfold f_UpRiverModel_readReach at this ⊢
      rw [m_isN_f b2.2.2.1] at this
      rw [a2]
      exact this
    exact ⟨0, J2a, rr, by omega, frR _ _ rr, by funext j; exact frJ_UpRiverModel_isNumber a2 rfl, by rw [g6]; exact h6, Or.inr ⟨J', l1 rfl, b2, b3⟩⟩
/-- the reference's second number of a place -/
def plT (rows r : Int) (A : am_J) : Option (Int × am_J) := (f_UpRiverModel_isNumber 0 8 A).bind fun q1787 => if am_i32 (q1787 65 13) then (if (q1787 65 13) = 0 then (f_UpRiverModel_readPlace_L29 rows r (q1787 65 12) q1787) else (f_UpRiverModel_readPlace_L29 rows r 0 q1787)) else none
theorem place_eq {rows r : Int} {J2 A : am_J} (h : f_UpRiverModel_readReach 0 0 J2 = some (r, A)) : f_UpRiverModel_readPlace rows J2 = plT rows r A := by
  unfold f_UpRiverModel_readPlace plT
  rw [h]
  rfl
theorem plT_f {rows r : Int} {A : am_J} (h : 1 ≤ A 65 13 ∧ A 65 13 ≤ 5) : plT rows r A = some (9 * r + 0, A) := by
  unfold plT f_UpRiverModel_readPlace_L29
  rw [m_isN_f h]
  simp only [Option.bind_some]
  rw [if_pos (show am_i32 (A 65 13) by omega), if_neg (show ¬ A 65 13 = 0 by omega), m_once_f h]
  simp only [Option.bind_some]
  rw [m_next_f h]
  rfl
theorem lnP {N : Nat} {T : Nat → Int} (hT : tpO N T) {b : Bool} {n : Nat} {kc cnt r : Int} {p : Nat} {J J2 : am_J} (h : PRE N T p J J2) (hMR : MR J J2) (hr : 0 ≤ r ∧ r ≤ 7) (e5 : J 5 0 = r) (h0 : f_Reader_numbersOf kc = some cnt) (hc : 2 ≤ cnt ∧ cnt ≤ 12) (hl : f_Reader_leastOf J kc 1 = some 0) (hh : f_Reader_mostOf J kc 1 = some 8) {cm rows : Nat} (hmk : ∀ A : am_J, f_Reader_markOf A kc 1 = some (((cm : Int) + A 5 0 * 9) + A 5 1)) (hg : ∀ i, i < 72 → gm (cm + i) (rows + i)) : ∃ l J2', plT (rows : Int) r J2 = some (9 * r + l, J2') ∧ (0 ≤ l ∧ l ≤ 8) ∧ kpM J2 J2' ∧ J2' 65 6 = J2 65 6 ∧ ((∃ J'' p', p < p' ∧ f_Reader_readLine_L74 b (n + 1) kc 1 J = f_Reader_readLine_L74 b n kc (1 + 1) J'' ∧ PRE N T p' J'' J2' ∧ kpC 1 l J J'' ∧ J'' 4 = (am_up J 4 (cm + (9 * r + l).toNat) 1) 4 ∧ J2' 70 = (am_up J2 70 (rows + (9 * r + l).toNat) 1) 70) ∨ (∃ J', f_Reader_readLine_L74 b (n + 1) kc 1 J = some (0, J') ∧ flR J' J2' ∧ J2' 65 12 = J2 65 12)) := by
  have h' := h
  obtain ⟨hp, e4, hK, hC, hM, e10⟩ := h'
  have h4 := hT.1
  have h12 := hK.1
  have hb := tke_bd (T := T) hp
  have hq := tkq_bd (T := T) hp
  obtain ⟨s, J', J2a, a1, a2, a3⟩ := num hT hC hp e4 hK (lo := 0) (hi := 8) (by decide) (by decide)
  obtain ⟨l1, l2⟩ := L74_num (b := b) (n := n) h0 hc.2 (show 0 ≤ (1 : Int) ∧ 1 < cnt by omega) hl hh a1
  rcases a3 with ⟨rfl, rfl, b3, b4, b5, b6, b7, b8, b9, b10, b11, b12⟩ | ⟨rfl, b2, b3⟩
  · obtain ⟨w, hw⟩ : ∃ w : Nat, 9 * r + tkw N T p = (w : Int) := ⟨(9 * r + tkw N T p).toNat, by omega⟩
    have hw72 : w < 72 := by omega
    have g := hg w hw72
    have gb := gm_bd g
    obtain ⟨k1, k2⟩ := kpC_num (i := 1) a1
    rw [b6] at k1 k2
    generalize hA : am_up J' 5 1 (tkw N T p) = A at *
    have A4 : A 4 = J 4 := k2
    have A6 : A 1 6 = (tkq N T p : Nat) := by rw [← hA, up_row (by decide)]; exact b5
    have A50 : A 5 0 = r := by rw [k1.2.1 0 (by decide)]; exact e5
    obtain ⟨s2, J'', J2b, c1, c2, c3⟩ := mk1 (J := A) (J2 := J2a) (c := cm + w) (m := rows + w) gb.1.2 gb.2 (by rw [A4]; exact (hMR _ _ g).1) (by rw [A4]; exact (hMR _ _ g).2) (by rw [A6, b11]) b8 (by rw [b11]; omega)
    have pl : plT (rows : Int) r J2a = (f_UpRiverModel_next J2b).bind fun q => some (9 * r + tkw N T p, q) := by
      unfold plT f_UpRiverModel_readPlace_L29
      rw [a2]
      simp only [Option.bind_some]
      rw [b8, if_pos (show am_i32 0 by decide), if_pos (show (0 : Int) = 0 from rfl), b9, show (rows : Int) + 9 * r + tkw N T p = ((rows + w : Nat) : Int) by omega, c2]
      rfl
    have lm := l2 rfl ((cm : Int) + (w : Int)) s2 J'' (by rw [b6, show ((1 : Int)).toNat = 1 from rfl, hA, hmk, k1.1, A50]; congr 1; omega) (by rw [b6, show ((1 : Int)).toNat = 1 from rfl, hA, show (cm : Int) + (w : Int) = ((cm + w : Nat) : Int) by omega]; exact c1)
    have ew : (9 * r + tkw N T p).toNat = w := by omega
    rcases c3 with ⟨rfl, d2, d3⟩ | ⟨rfl, d2, d3⟩
    · obtain ⟨J2c, x1, x2⟩ := m_tok hT (J := J2b) (p := tke N T p) (by rw [d3]; exact tM_row hM (by rw [up_row (by decide)]) (by rw [up_row (by decide)])) hb.2.1 (by rw [d3, up_row (by decide)]; exact b10) (by rw [d3, up_row (by decide)]; exact b8) (by rw [d3, up_row (by decide)]; exact h12)
      rw [x1] at pl
      have f1 : ∀ a, a ≠ 65 → J2c a = J2b a := fun a ha => by funext j; exact frJ_UpRiverModel_next x1 (nw_not2 65 65 rfl ha ha)
      have fm : kpM J2a J2c := by
        refine ⟨fun a y1 y2 => ?_, ?_⟩
        · rw [f1 a y1, d3, up_row y2]
        · exact (frJ_UpRiverModel_next x1 rfl).trans (by rw [d3, up_row (by decide)])
      refine ⟨tkw N T p, J2c, pl, b7, fm, (frJ_UpRiverModel_next x1 rfl).trans (by rw [d3, up_row (by decide)]), Or.inl ⟨J'', tke N T p, ?_, lm.2 rfl, ?_, ?_, ?_, ?_⟩⟩
      · have := hb.2.2.1 (by omega); omega
      · refine PRE_of h hb.2.1 ?_ x2 ?_ ?_ ?_ ((frJ_UpRiverModel_next x1 rfl).trans (by rw [d3, up_row (by decide)])) (fm.1 71 (by decide) (by decide))
        · rw [d2, up_row (by decide), ← hA, up_row (by decide)]; exact b4
        · rw [d2, up_row (by decide), ← hA, up_row (by decide)]; exact b12
        · rw [d2, up_row (by decide)]; exact k1.2.2.1 2 (by decide) (by decide) (by decide)
        · rw [d2, up_row (by decide)]; exact k1.2.2.1 3 (by decide) (by decide) (by decide)
      · refine ⟨?_, fun j hj => ?_, fun a y1 y4 y5 => ?_, ?_⟩
        · rw [d2, up_row (by decide)]; exact k1.1
        · rw [d2, up_row (by decide)]; exact k1.2.1 j hj
        · rw [d2, up_row y4]; exact k1.2.2.1 a y1 y4 y5
        · rw [d2, up_row (by decide)]; exact k1.2.2.2
      · rw [d2, ew]
        funext j
        by_cases e : j = cm + w
        · rw [e, up_at, up_at]
        · rw [up_ne e, up_ne e, A4]
      · rw [ew, f1 70 (by decide), d3]
    · rw [m_next_f d2.2.2.1] at pl
      have fm : kpM J2a J2b := ⟨fun a y1 y2 => by funext j; exact frJ_UpRiverModel_once c2 (nw_not2 65 70 rfl y1 y2), frJ_UpRiverModel_once c2 rfl⟩
      exact ⟨tkw N T p, J2b, pl, b7, fm, frJ_UpRiverModel_once c2 rfl, Or.inr ⟨J'', lm.1 rfl, d2, d3⟩⟩
  · have f1 : kpM J2 J2a := ⟨fun a y1 y2 => by funext j; exact frJ_UpRiverModel_isNumber a2 (nw_not2 65 65 rfl y1 y1), frJ_UpRiverModel_isNumber a2 rfl⟩
    have pl : plT (rows : Int) r J2 = some (9 * r + 0, J2a) := by
      have := plT_f (rows := (rows : Int)) (r := r) b2.2.2.1
      unfold plT at this ⊢
      rw [m_isN_f b2.2.2.1] at this
      rw [a2]
      exact this
    exact ⟨0, J2a, pl, by omega, f1, frJ_UpRiverModel_isNumber a2 rfl, Or.inr ⟨J', l1 rfl, b2, b3⟩⟩
