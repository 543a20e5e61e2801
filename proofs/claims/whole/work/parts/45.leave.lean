/-! the class's search: a long for a lane and a board, by minutes in ten layers -/
theorem ul_row {K : am_K} {c i a : Nat} {x : Int64} (h : a ≠ c) : am_ul K c i x a = K a := by
  funext b
  unfold am_ul
  rw [if_neg h]
theorem ul_at (K : am_K) (c i : Nat) (x : Int64) : am_ul K c i x c i = x := by
  unfold am_ul
  rw [if_pos rfl, if_pos rfl]
theorem ul_ne {K : am_K} {c i k : Nat} {x : Int64} (h : k ≠ i) : am_ul K c i x c k = K c k := by
  unfold am_ul
  rw [if_pos rfl, if_neg h]
theorem nw_row {W : Nat × Option Nat} {a j : Nat} (h : a ≠ W.1) : am_nw [W] a j = true := by
  have : Nat.beq W.1 a = false := by
    cases e : Nat.beq W.1 a with
    | false => rfl
    | true => exact absurd (Nat.eq_of_beq_eq_true e).symm h
  unfold am_nw
  simp [this]
theorem nw_fld {c i a j : Nat} (h : j ≠ i) : am_nw [(c, some i)] a j = true := by
  have : Nat.beq i j = false := by
    cases e : Nat.beq i j with
    | false => rfl
    | true => exact absurd (Nat.eq_of_beq_eq_true e).symm h
  unfold am_nw
  simp [this]
theorem rPh_lt (v : Nat → Int) (lt t : Int) : rPh v 0 (t - lt) = rPh v lt t := (rPh_sh v lt t).symm
theorem rAf_lt (v : Nat → Int) (lt r l t : Int) : rAf v 0 r l (t - lt) ↔ rAf v lt r l t := by
  unfold rAf rWt rHt
  rw [rPh_lt]
theorem rFl_lt (v : Nat → Int) (lt r l t : Int) : rFl v 0 r l (t - lt) = rFl v lt r l t := by
  unfold rFl rSt
  rw [rPh_lt]
/-- the bits of a river, by height and lane -/
def rK (o : Nat) (K : am_K) (v : Nat → Int) : Prop := ∀ h l f : Nat, h < 16 → l < 9 → f < 64 → (bt (K (o + 10) (h * 9 + l)) f = true ↔ ((f : Int) / 8 < v 0 ∧ rOp v ((f : Int) / 8) l ∧ v 2 ≤ v (55 + 9 * ((f : Int) / 8) + l).toNat + h))
def ci (t l b : Int) : Nat := (t % 10 * 18 + l * 2 + b).toNat
theorem c_indexOf {t l b : Int} (ht : 0 ≤ t ∧ t ≤ 100000) (hl : 0 ≤ l ∧ l ≤ 8) (hb : 0 ≤ b ∧ b ≤ 1) : f_Search_indexOf l b t = some (t % 10 * 18 + l * 2 + b) ∧ (0 ≤ t % 10 * 18 + l * 2 + b ∧ t % 10 * 18 + l * 2 + b < 180) := by
  unfold f_Search_indexOf
  rw [if_pos (show am_i32 t by omega), am_rm_pos ht.1]
  exact ⟨rfl, by omega⟩
theorem ci_inj {t l b t' l' b' : Int} (hl : 0 ≤ l ∧ l ≤ 8) (hb : 0 ≤ b ∧ b ≤ 1) (hl' : 0 ≤ l' ∧ l' ≤ 8) (hb' : 0 ≤ b' ∧ b' ≤ 1) (e : ci t l b = ci t' l' b') : t % 10 = t' % 10 ∧ l = l' ∧ b = b' := by
  unfold ci at e
  have e2 : t % 10 * 18 + l * 2 + b = t' % 10 * 18 + l' * 2 + b' := by omega
  clear e
  have a1 : t % 10 = t' % 10 := by omega
  rw [a1] at e2
  exact ⟨a1, by omega, by omega⟩
def Sc (K : am_K) (t0 t f l b : Int) : Prop := (t0 ≤ t ∧ t ≤ t0 + 9) ∧ dmn f l b ∧ bt (K 27 (ci t l b)) f.toNat = true
def Fc (J : am_J) (x : Int) : Prop := J 26 6 ≤ x
/-- bits y more at (t1, l1, b1) -/
theorem Sc_or {K : am_K} {y : Int64} {t0 t1 l1 b1 : Int} (hw : t0 ≤ t1 ∧ t1 ≤ t0 + 9) (hl : 0 ≤ l1 ∧ l1 ≤ 8) (hb : 0 ≤ b1 ∧ b1 ≤ 1) (t f l b : Int) : Sc (am_ul K 27 (ci t1 l1 b1) (K 27 (ci t1 l1 b1) ||| y)) t0 t f l b ↔ Sc K t0 t f l b ∨ (t = t1 ∧ l = l1 ∧ b = b1 ∧ (0 ≤ f ∧ f < 64) ∧ bt y f.toNat = true) := by
  unfold Sc
  constructor
  · rintro ⟨h1, h2, h3⟩
    by_cases e : ci t l b = ci t1 l1 b1
    · obtain ⟨e1, e2, e3⟩ := ci_inj h2.2.1 h2.2.2 hl hb e
      rw [e, ul_at, bt_or, Bool.or_eq_true] at h3
      rcases h3 with h3 | h3
      · exact Or.inl ⟨h1, h2, by rw [e]; exact h3⟩
      · exact Or.inr ⟨by omega, e2, e3, h2.1, h3⟩
    · rw [ul_ne e] at h3
      exact Or.inl ⟨h1, h2, h3⟩
  · rintro (⟨h1, h2, h3⟩ | ⟨rfl, rfl, rfl, h1, h2⟩)
    · refine ⟨h1, h2, ?_⟩
      by_cases e : ci t l b = ci t1 l1 b1
      · rw [e, ul_at, bt_or, ← e, h3]; rfl
      · rw [ul_ne e]; exact h3
    · exact ⟨hw, ⟨h1, hl, hb⟩, by rw [ul_at, bt_or, h2, Bool.or_true]⟩
def Dc (v : Nat → Int) (a c : Int) (K : am_K) : Prop := ∀ t f l b : Int, dmn f l b → bt (K 27 (ci t l b)) f.toNat = true → f < 8 * v 0 ∧ a ≤ l ∧ l ≤ c
theorem Dc_or {v : Nat → Int} {a c : Int} {K : am_K} (h : Dc v a c K) {y : Int64} {t1 l1 b1 : Int} (hl : 0 ≤ l1 ∧ l1 ≤ 8) (hb : 0 ≤ b1 ∧ b1 ≤ 1) (hy : ∀ f : Nat, f < 64 → bt y f = true → (f : Int) < 8 * v 0 ∧ a ≤ l1 ∧ l1 ≤ c) : Dc v a c (am_ul K 27 (ci t1 l1 b1) (K 27 (ci t1 l1 b1) ||| y)) := by
  intro t f l b hd hm
  by_cases e : ci t l b = ci t1 l1 b1
  · obtain ⟨-, e2, e3⟩ := ci_inj hd.2.1 hd.2.2 hl hb e
    rw [e, ul_at, bt_or, Bool.or_eq_true] at hm
    rcases hm with hm | hm
    · exact h t f l b hd (by rw [e]; exact hm)
    · have := hy f.toNat (by omega) hm
      rw [e2]
      exact ⟨by omega, this.2⟩
  · rw [ul_ne e] at hm
    exact h t f l b hd hm
def Ec (o : Nat) (J : am_J) (K : am_K) (v : Nat → Int) (lt g a c : Int) : Prop := rq o J v ∧ rK o K v ∧ J 26 1 = lt ∧ J 26 2 = a ∧ J 26 3 = c ∧ J 26 4 = 8 * v 0 ∧ J 26 5 = g ∧ (0 ≤ J 26 6 ∧ J 26 6 ≤ 301)
theorem Ec_of {o : Nat} {J J' : am_J} {K K' : am_K} {v : Nat → Int} {lt g a c : Int} (ho : o = 6 ∨ o = 32) (h : Ec o J K v lt g a c) (fj : ∀ a j, am_nw [(26, some 6)] a j = true → J' a j = J a j) (fk : ∀ a j, am_nw [(27, none)] a j = true → K' a j = K a j) (h6 : 0 ≤ J' 26 6 ∧ J' 26 6 ≤ 301) : Ec o J' K' v lt g a c := by
  obtain ⟨q1, q2, q3, q4, q5, q6, q7, q8⟩ := h
  refine ⟨rq_fr q1 fun i h1 h9 j => fj _ _ (nw_row (by show o + i ≠ 26; omega)), fun h l f hh hl hf => ?_, by rw [← q3]; exact fj _ _ rfl, by rw [← q4]; exact fj _ _ rfl, by rw [← q5]; exact fj _ _ rfl, by rw [← q6]; exact fj _ _ rfl, by rw [← q7]; exact fj _ _ rfl, h6⟩
  rw [fk _ _ (nw_row (by show o + 10 ≠ 27; omega))]
  exact q2 h l f hh hl hf
abbrev PhC (v : Nat → Int) (lt g a c : Int) (J : am_J) (K : am_K) (t0 x : Int) : Prop := Phi (Sc K t0) (Fc J) (fun x t f l b => Cn v lt g a c x t f l b) x
theorem c_noteUp {J : am_J} {y : Int64} {d t m : Int} (h4 : J 26 4 = m) (hm : 0 ≤ m ∧ m ≤ 64) (h6 : 0 ≤ J 26 6 ∧ J 26 6 ≤ 301) (hd : -1000 ≤ d ∧ d ≤ 1000) (ht : 0 ≤ t ∧ t ≤ 1000) (hy : ∀ f : Nat, f < 64 → bt y f = true → (f : Int) < m) : ∃ J', f_Search_noteUp y d t J = some J' ∧ (0 ≤ J' 26 6 ∧ J' 26 6 ≤ 301) ∧ ∀ x, x ≤ 300 → (Fc J' x ↔ Fc J x ∨ (t ≤ x ∧ ∃ f : Nat, f < 64 ∧ bt y f = true ∧ m ≤ f + d)) := by
  unfold f_Search_noteUp
  rw [if_pos (show am_i32 d by omega), h4]
  by_cases c0 : 0 < d
  · obtain ⟨z, z1, z2, -⟩ := c_bitsFrom y (d := m - d) (by omega)
    rw [if_pos c0, z1]
    simp only [Option.bind_some]
    rw [if_pos (am_lcmp32 _ _)]
    by_cases c1 : am_lcmp z 0 = 0
    · rw [if_pos c1]
      refine ⟨J, rfl, h6, fun x hx => ⟨Or.inl, fun w => ?_⟩⟩
      rcases w with w | ⟨-, f, f1, f2, f3⟩
      · exact w
      · exact absurd ((lcmp_0 z).mp c1) (z2.mpr ⟨f, f1, f2, by omega⟩)
    · rw [if_neg c1, j_min (by omega) (by omega)]
      obtain ⟨f, f1, f2, f3⟩ := z2.mp (fun n => c1 ((lcmp_0 z).mpr n))
      refine ⟨_, rfl, ?_, fun x hx => ?_⟩
      · rw [up_at]; split <;> omega
      · unfold Fc
        rw [up_at]
        constructor
        · intro w
          by_cases c2 : t < J 26 6
          · rw [if_pos c2] at w
            exact Or.inr ⟨w, f, f1, f2, by omega⟩
          · rw [if_neg c2] at w
            exact Or.inl w
        · intro w
          split <;> omega
  · rw [if_neg c0]
    refine ⟨J, rfl, h6, fun x hx => ⟨Or.inl, fun w => ?_⟩⟩
    rcases w with w | ⟨-, f, f1, f2, f3⟩
    · exact w
    · have := hy f f1 f2; omega
theorem c_land {v : Nat → Int} {a c : Int} {J : am_J} {K : am_K} {y : Int64} {t0 t l b g : Int} (h5 : J 26 5 = g) (hg : 0 ≤ g ∧ g ≤ 64) (h6 : 0 ≤ J 26 6 ∧ J 26 6 ≤ 301) (hw : t0 < t ∧ t ≤ t0 + 9) (ht0 : 0 ≤ t0 ∧ t0 ≤ 400) (hb : 0 ≤ b ∧ b ≤ 1) (hac : 0 ≤ a ∧ c ≤ 8) (hy : ∀ f : Nat, f < 64 → bt y f = true → (f : Int) < 8 * v 0 ∧ a ≤ l ∧ l ≤ c) (hD : Dc v a c K) : ∃ J' K', f_Search_land y l b t J K = some (J', K') ∧ (0 ≤ J' 26 6 ∧ J' 26 6 ≤ 301) ∧ Dc v a c K' ∧ (∀ x, Fc J' x ↔ Fc J x ∨ (t ≤ x ∧ ∃ f : Nat, f < 64 ∧ bt y f = true ∧ g ≤ f)) ∧ (∀ t' f' l' b', Sc K' t0 t' f' l' b' ↔ Sc K t0 t' f' l' b' ∨ (t' = t ∧ l' = l ∧ b' = b ∧ (0 ≤ f' ∧ f' < 64) ∧ bt y f'.toNat = true)) ∧ (∀ l' b' : Int, 0 ≤ l' → l' ≤ 8 → 0 ≤ b' → b' ≤ 1 → K' 27 (ci t0 l' b') = K 27 (ci t0 l' b')) := by
  unfold f_Search_land
  rw [if_pos (am_lcmp32 _ _)]
  by_cases c0 : am_lcmp y 0 = 0
  · have y0 := (bt_eq0 y).mp ((lcmp_0 y).mp c0)
    rw [if_pos c0]
    refine ⟨J, K, rfl, h6, hD, fun x => ⟨Or.inl, fun w => ?_⟩, fun t' f' l' b' => ⟨Or.inl, fun w => ?_⟩, fun _ _ _ _ _ _ => rfl⟩
    · rcases w with w | ⟨-, f, f1, f2, f3⟩
      · exact w
      · rw [y0 f f1] at f2; cases f2
    · rcases w with w | ⟨-, -, -, w1, w2⟩
      · exact w
      · rw [y0 _ (by omega)] at w2; cases w2
  · obtain ⟨i, i1, i2⟩ := (bt_ne0 y).mp (fun n => c0 ((lcmp_0 y).mpr n))
    have hl := hy i i1 i2
    obtain ⟨z, z1, z2, -⟩ := c_bitsFrom y (d := g) (by omega)
    have L33 : ∀ J', f_Search_land_L33 y l b t J' K = some (J', am_ul K 27 (ci t l b) (K 27 (ci t l b) ||| y)) := by
      intro J'
      obtain ⟨x1, x2⟩ := c_indexOf (t := t) (l := l) (b := b) (by omega) (by omega) hb
      unfold f_Search_land_L33
      rw [x1]
      simp only [Option.bind_some]
      rw [if_pos x2]
      rfl
    have kp : ∀ l' b' : Int, 0 ≤ l' → l' ≤ 8 → 0 ≤ b' → b' ≤ 1 → am_ul K 27 (ci t l b) (K 27 (ci t l b) ||| y) 27 (ci t0 l' b') = K 27 (ci t0 l' b') := by
      intro l' b' l0 l8 b0 b1
      refine ul_ne fun e => ?_
      have := ci_inj ⟨l0, l8⟩ ⟨b0, b1⟩ (by omega) hb e
      omega
    rw [if_neg c0, h5, z1]
    simp only [Option.bind_some]
    rw [if_pos (am_lcmp32 _ _)]
    by_cases c1 : am_lcmp z 0 = 0
    · rw [if_pos c1, L33]
      refine ⟨J, _, rfl, h6, Dc_or hD (by omega) hb hy, fun x => ⟨Or.inl, fun w => ?_⟩, fun t' f' l' b' => Sc_or (by omega) (by omega) hb t' f' l' b', kp⟩
      rcases w with w | ⟨-, f, f1, f2, f3⟩
      · exact w
      · exact absurd ((lcmp_0 z).mp c1) (z2.mpr ⟨f, f1, f2, f3⟩)
    · rw [if_neg c1, j_min (by omega) (by omega)]
      simp only [Option.bind_some]
      rw [L33]
      obtain ⟨f, f1, f2, f3⟩ := z2.mp (fun n => c1 ((lcmp_0 z).mpr n))
      refine ⟨_, _, rfl, ?_, Dc_or hD (by omega) hb hy, fun x => ?_, fun t' f' l' b' => Sc_or (by omega) (by omega) hb t' f' l' b', kp⟩
      · rw [up_at]; split <;> omega
      · unfold Fc
        rw [up_at]
        constructor
        · intro w
          by_cases c2 : t < J 26 6
          · rw [if_pos c2] at w
            exact Or.inr ⟨w, f, f1, f2, f3⟩
          · rw [if_neg c2] at w
            exact Or.inl w
        · intro w
          split <;> omega
