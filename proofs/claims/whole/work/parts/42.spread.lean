/-! the reference's search: marks by minutes in ten layers -/
def mi (t f l b : Int) : Nat := (1152 * (t % 10) + (2 * (9 * f + l) + b)).toNat
abbrev dmn (f l b : Int) : Prop := (0 ≤ f ∧ f < 64) ∧ (0 ≤ l ∧ l ≤ 8) ∧ (0 ≤ b ∧ b ≤ 1)
theorem mi_inj {t f l b t' f' l' b' : Int} (h : dmn f l b) (h' : dmn f' l' b') (e : mi t f l b = mi t' f' l' b') : t % 10 = t' % 10 ∧ f = f' ∧ l = l' ∧ b = b' := by
  obtain ⟨h1, h2, h3⟩ := h
  obtain ⟨h1', h2', h3'⟩ := h'
  unfold mi at e
  have e2 : 1152 * (t % 10) + (2 * (9 * f + l) + b) = 1152 * (t' % 10) + (2 * (9 * f' + l') + b') := by omega
  clear e
  have a1 : t % 10 = t' % 10 := by omega
  rw [a1] at e2
  have a2 : f = f' := by omega
  refine ⟨a1, a2, by omega, by omega⟩
theorem m_marks {J : am_J} {t f l b : Int} (ht : 0 ≤ t ∧ t ≤ 100000) (hd : dmn f l b) : f_UpRiverModel_marks t f l b J = some (am_up J 72 (mi t f l b) 1) := by
  obtain ⟨h1, h2, h3⟩ := hd
  unfold f_UpRiverModel_marks f_UpRiverModel_spot
  simp only [Option.bind_some]
  rw [if_pos (show am_i32 t by omega), am_rm_pos ht.1, if_pos (show 0 ≤ 1152 * (t % 10) + (2 * (9 * f + l) + b) ∧ 1152 * (t % 10) + (2 * (9 * f + l) + b) < 11520 by omega)]
  rfl
def Sm (J : am_J) (t0 t f l b : Int) : Prop := (t0 ≤ t ∧ t ≤ t0 + 9) ∧ dmn f l b ∧ J 72 (mi t f l b) = 1
def Fm (J : am_J) (x : Int) : Prop := J 65 21 ≠ -4 ∧ J 65 21 ≤ x
theorem Sm_add {J : am_J} {t0 t1 f1 l1 b1 : Int} (hw : t0 ≤ t1 ∧ t1 ≤ t0 + 9) (hd : dmn f1 l1 b1) (t f l b : Int) : Sm (am_up J 72 (mi t1 f1 l1 b1) 1) t0 t f l b ↔ Sm J t0 t f l b ∨ (t = t1 ∧ f = f1 ∧ l = l1 ∧ b = b1) := by
  unfold Sm
  constructor
  · rintro ⟨h1, h2, h3⟩
    by_cases e : mi t f l b = mi t1 f1 l1 b1
    · obtain ⟨e1, e2, e3, e4⟩ := mi_inj h2 hd e
      exact Or.inr ⟨by omega, e2, e3, e4⟩
    · rw [up_ne e] at h3
      exact Or.inl ⟨h1, h2, h3⟩
  · rintro (⟨h1, h2, h3⟩ | ⟨rfl, rfl, rfl, rfl⟩)
    · refine ⟨h1, h2, ?_⟩
      by_cases e : mi t f l b = mi t1 f1 l1 b1
      · rw [e, up_at]
      · rw [up_ne e]; exact h3
    · exact ⟨hw, hd, up_at _ _ _ _⟩
theorem Sm_del {J : am_J} {t0 t1 f1 l1 b1 : Int} (hw : t0 ≤ t1 ∧ t1 ≤ t0 + 9) (hd : dmn f1 l1 b1) (hm : J 72 (mi t1 f1 l1 b1) = 1) (t f l b : Int) : Sm J t0 t f l b ↔ Sm (am_up J 72 (mi t1 f1 l1 b1) 0) t0 t f l b ∨ (t = t1 ∧ f = f1 ∧ l = l1 ∧ b = b1) := by
  unfold Sm
  constructor
  · rintro ⟨h1, h2, h3⟩
    by_cases e : mi t f l b = mi t1 f1 l1 b1
    · obtain ⟨e1, e2, e3, e4⟩ := mi_inj h2 hd e
      exact Or.inr ⟨by omega, e2, e3, e4⟩
    · exact Or.inl ⟨h1, h2, by rw [up_ne e]; exact h3⟩
  · rintro (⟨h1, h2, h3⟩ | ⟨rfl, rfl, rfl, rfl⟩)
    · refine ⟨h1, h2, ?_⟩
      by_cases e : mi t f l b = mi t1 f1 l1 b1
      · rw [e, up_at] at h3; cases h3
      · rw [up_ne e] at h3; exact h3
    · exact ⟨hw, hd, hm⟩
def Dm (v : Nat → Int) (a c : Int) (J : am_J) : Prop := (∀ k, k < 11520 → J 72 k = 0 ∨ J 72 k = 1) ∧ (∀ t f l b : Int, dmn f l b → J 72 (mi t f l b) = 1 → f < 8 * v 0 ∧ a ≤ l ∧ l ≤ c) ∧ (J 65 21 = -4 ∨ (0 ≤ J 65 21 ∧ J 65 21 ≤ 300))
theorem Dm_add {v : Nat → Int} {a c : Int} {J : am_J} (h : Dm v a c J) {t f l b : Int} (hd : dmn f l b) (hf : f < 8 * v 0) (hl : a ≤ l ∧ l ≤ c) : Dm v a c (am_up J 72 (mi t f l b) 1) := by
  obtain ⟨h1, h2, h3⟩ := h
  refine ⟨fun k hk => ?_, fun t' f' l' b' hd' hm => ?_, by rw [up_row (by decide)]; exact h3⟩
  · by_cases e : k = mi t f l b
    · rw [e, up_at]; exact Or.inr rfl
    · rw [up_ne e]; exact h1 k hk
  · by_cases e : mi t' f' l' b' = mi t f l b
    · obtain ⟨-, rfl, rfl, rfl⟩ := mi_inj hd' hd e
      exact ⟨hf, hl⟩
    · rw [up_ne e] at hm
      exact h2 t' f' l' b' hd' hm
theorem Dm_del {v : Nat → Int} {a c : Int} {J : am_J} (h : Dm v a c J) (k : Nat) : Dm v a c (am_up J 72 k 0) := by
  obtain ⟨h1, h2, h3⟩ := h
  refine ⟨fun k' hk => ?_, fun t' f' l' b' hd' hm => ?_, by rw [up_row (by decide)]; exact h3⟩
  · by_cases e : k' = k
    · rw [e, up_at]; exact Or.inl rfl
    · rw [up_ne e]; exact h1 k' hk
  · by_cases e : mi t' f' l' b' = k
    · rw [e, up_at] at hm; cases hm
    · rw [up_ne e] at hm
      exact h2 t' f' l' b' hd' hm
theorem Dm_row {v : Nat → Int} {a c : Int} {J J' : am_J} (h : Dm v a c J) (e : J' 72 = J 72) (e2 : J' 65 21 = J 65 21) : Dm v a c J' := by
  unfold Dm
  rw [e, e2]
  exact h
def Em (J : am_J) (v : Nat → Int) (lt g a c : Int) : Prop := J 66 = v ∧ J 65 15 = lt ∧ J 65 22 = g ∧ J 65 23 = a ∧ J 65 24 = c
abbrev prm (lt g a c : Int) : Prop := (-10 ≤ lt ∧ lt ≤ 2000) ∧ (0 ≤ g ∧ g ≤ 64) ∧ (0 ≤ a ∧ a ≤ 8) ∧ (0 ≤ c ∧ c ≤ 8)
abbrev PhM (v : Nat → Int) (lt g a c : Int) (J : am_J) (t0 x : Int) : Prop := Phi (Sm J t0) (Fm J) (fun x t f l b => Cn v lt g a c x t f l b) x
/-- a layer is left as it was -/
def Lay (t0 : Int) (J J' : am_J) : Prop := ∀ k : Int, 0 ≤ k → k < 1152 → J' 72 (1152 * (t0 % 10) + k).toNat = J 72 (1152 * (t0 % 10) + k).toNat
theorem m_comes {v : Nat → Int} (hv : rv_ok v) {lt g a c : Int} (hp : prm lt g a c) {J : am_J} (hE : Em J v lt g a c) (hD : Dm v a c J) {t0 t f l b : Int} (h : toAt J f l b t) (ht0 : 0 ≤ t0 ∧ t0 ≤ 300) (hw : t0 < t ∧ t ≤ t0 + 9) (hf : 0 ≤ f ∧ f ≤ 1000) (hl : am_i32 l) (hb : 0 ≤ b ∧ b ≤ 1) : ∃ J', f_UpRiverModel_comesThere J = some J' ∧ (∀ x, x ≤ 300 → (PhM v lt g a c J' t0 x ↔ PhM v lt g a c J t0 x ∨ goW v g a c x (Cn v lt g a c x) t f l b)) ∧ Dm v a c J' ∧ Lay t0 J J' := by
  obtain ⟨e1, e2, e3, e4⟩ := h
  obtain ⟨q1, q2, q3, q4, q5⟩ := hE
  obtain ⟨p1, p2, p3, p4⟩ := hp
  have hm := hv.1.1
  have h5 := hv.1.2.2.2.2.2.1
  have L54 : ∃ J', f_UpRiverModel_comesThere_L54 J = some J' ∧ J' 72 = J 72 ∧ (J' 65 21 = t ∨ J' 65 21 = J 65 21 ∧ J 65 21 ≠ -4) ∧ (J' 65 21 ≤ t) ∧ (J 65 21 ≠ -4 → J' 65 21 ≤ J 65 21) := by
    unfold f_UpRiverModel_comesThere_L54 f_UpRiverModel_less
    rw [e4]
    have h21 := hD.2.2
    rw [if_pos (show am_i32 (J 65 21) by omega)]
    by_cases c1 : J 65 21 = -4
    · rw [if_pos c1]
      refine ⟨_, rfl, up_row (by decide), Or.inl (up_at _ _ _ _), by rw [up_at]; omega, fun n => absurd c1 n⟩
    · rw [if_neg c1, if_pos (show am_i32 t by omega), if_pos (show am_i32 (J 65 21) by omega)]
      by_cases c2 : J 65 21 < t
      · rw [if_pos c2]
        exact ⟨_, rfl, up_row (by decide), Or.inr ⟨up_at _ _ _ _, c1⟩, by rw [up_at]; omega, fun _ => by rw [up_at]; omega⟩
      · rw [if_neg c2]
        exact ⟨_, rfl, up_row (by decide), Or.inl (up_at _ _ _ _), by rw [up_at]; omega, fun _ => by rw [up_at]; omega⟩
  have found : t ≤ 300 → (∀ x, x ≤ 300 → (goW v g a c x (Cn v lt g a c x) t f l b ↔ t ≤ x)) → ∃ J', f_UpRiverModel_comesThere_L54 J = some J' ∧ (∀ x, x ≤ 300 → (PhM v lt g a c J' t0 x ↔ PhM v lt g a c J t0 x ∨ goW v g a c x (Cn v lt g a c x) t f l b)) ∧ Dm v a c J' ∧ Lay t0 J J' := by
    intro t3 hg
    obtain ⟨J', u1, u2, u3, u4, u5⟩ := L54
    have h21 := hD.2.2
    refine ⟨J', u1, fun x hx => ?_, ?_, fun k _ _ => by rw [u2]⟩
    · rw [hg x hx]
      have eS : ∀ t f l b, Sm J' t0 t f l b ↔ Sm J t0 t f l b := fun t f l b => by unfold Sm; rw [u2]
      have eF : Fm J' x ↔ Fm J x ∨ t ≤ x := by
        unfold Fm
        omega
      unfold PhM Phi
      rw [eF]
      simp only [eS]
      constructor
      · rintro ((z | z) | z)
        · exact Or.inl (Or.inl z)
        · exact Or.inr z
        · exact Or.inl (Or.inr z)
      · rintro ((z | z) | z)
        · exact Or.inl (Or.inl z)
        · exact Or.inr z
        · exact Or.inl (Or.inr z)
    · refine ⟨by rw [u2]; exact hD.1, by rw [u2]; exact hD.2.1, by omega⟩
  have same : (∀ x, x ≤ 300 → ¬ goW v g a c x (Cn v lt g a c x) t f l b) → ∃ J', some J = some J' ∧ (∀ x, x ≤ 300 → (PhM v lt g a c J' t0 x ↔ PhM v lt g a c J t0 x ∨ goW v g a c x (Cn v lt g a c x) t f l b)) ∧ Dm v a c J' ∧ Lay t0 J J' :=
    fun hg => ⟨J, rfl, fun x hx => ⟨Or.inl, fun z => by rcases z with z | z; exact z; exact absurd z (hg x hx)⟩, hD, fun _ _ _ => rfl⟩
  unfold f_UpRiverModel_comesThere f_UpRiverModel_top
  simp only [Option.bind_some]
  rw [e4, e1, q1, q3, if_pos (show am_i32 t by omega)]
  by_cases c0 : 300 < t
  · rw [if_pos c0]
    refine same fun x hx z => ?_
    rcases z with z | z
    · omega
    · have := Cn_lt h5.1 z.2.2.2; omega
  rw [if_neg c0, if_pos (show am_i32 (8 * v 0) by omega), if_pos (show am_i32 f by omega)]
  by_cases c1 : f < 8 * v 0
  · rw [if_pos c1, if_pos (show am_i32 g by omega)]
    have L88 : ¬ (g ≤ f ∧ a ≤ l ∧ l ≤ c) → ∃ J', f_UpRiverModel_comesThere_L88 J = some J' ∧ (∀ x, x ≤ 300 → (PhM v lt g a c J' t0 x ↔ PhM v lt g a c J t0 x ∨ goW v g a c x (Cn v lt g a c x) t f l b)) ∧ Dm v a c J' ∧ Lay t0 J J' := by
      intro ng
      unfold f_UpRiverModel_comesThere_L88
      rw [e1, e2, e3, e4, q4, q5, m_in hl (by omega) (by omega)]
      simp only [Option.bind_some, fl_32, if_true, fl_0]
      by_cases c2 : a ≤ l ∧ l ≤ c
      · have hd : dmn f l b := ⟨by omega, by omega, hb⟩
        rw [if_neg (show ¬ ¬ (a ≤ l ∧ l ≤ c) from fun z => z c2), m_marks (by omega) hd]
        refine ⟨_, rfl, fun x hx => ?_, Dm_add hD hd c1 c2, fun k k0 k1 => ?_⟩
        · unfold PhM
          rw [Phi_add (S := Sm J t0) (t1 := t) (f1 := f) (l1 := l) (b1 := b) (fun t' f' l' b' => Sm_add (by omega) hd t' f' l' b')]
          have eF : ∀ x, Fm (am_up J 72 (mi t f l b) 1) x ↔ Fm J x := fun x => by unfold Fm; rw [up_row (by decide)]
          rw [Phi_cong (S' := Sm J t0) (F' := Fm J) (fun _ _ _ _ => Iff.rfl) (eF x)]
          have : goW v g a c x (Cn v lt g a c x) t f l b ↔ Cn v lt g a c x t f l b := by
            unfold goW
            constructor
            · rintro (z | z)
              · rcases z.2 with w | w
                · omega
                · exact absurd w ng
              · exact z.2.2.2
            · intro z
              exact Or.inr ⟨c1, c2.1, c2.2, z⟩
          rw [this]
        · refine up_ne ?_
          unfold mi
          omega
      · rw [if_pos c2]
        refine same fun x hx z => ?_
        rcases z with z | z
        · rcases z.2 with w | w
          · omega
          · exact ng w
        · exact c2 ⟨z.2.1, z.2.2.1⟩
    by_cases c2 : f < g
    · rw [if_pos c2]
      exact L88 (by omega)
    · rw [if_neg c2, e2, q4, q5, m_in hl (by omega) (by omega)]
      simp only [Option.bind_some, fl_32, if_true, fl_0]
      by_cases c3 : a ≤ l ∧ l ≤ c
      · rw [if_neg (show ¬ ¬ (a ≤ l ∧ l ≤ c) from fun z => z c3)]
        refine found (by omega) fun x hx => ?_
        constructor
        · rintro (z | z)
          · exact z.1
          · have := Cn_lt h5.1 z.2.2.2; omega
        · intro z
          exact Or.inl ⟨z, Or.inr ⟨by omega, c3⟩⟩
      · rw [if_pos c3]
        exact L88 (fun z => c3 z.2)
  · rw [if_neg c1]
    refine found (by omega) fun x hx => ?_
    constructor
    · rintro (z | z)
      · exact z.1
      · exact absurd z.1 c1
    · intro z
      exact Or.inl ⟨z, Or.inl (by omega)⟩
