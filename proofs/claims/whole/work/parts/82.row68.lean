/-! what of row 68 a call may change -/
def kq (P : am_J → Prop) (o : Option (Int × am_J)) : Prop := ∀ r, o = some r → P r.2
theorem kq_none {P : am_J → Prop} : kq P none := fun _ h => by cases h
theorem kq_some {P : am_J → Prop} {x : Int} {J : am_J} (h : P J) : kq P (some (x, J)) := fun _ e => by cases e; exact h
theorem kq_ite {P : am_J → Prop} {c : Prop} [Decidable c] {u w : Option (Int × am_J)} (h1 : c → kq P u) (h2 : ¬ c → kq P w) : kq P (if c then u else w) := by
  by_cases h : c
  · rw [if_pos h]; exact h1 h
  · rw [if_neg h]; exact h2 h
theorem kq_bind {P : am_J → Prop} {α : Type} {o : Option α} {f : α → Option (Int × am_J)} (h : ∀ q, o = some q → kq P (f q)) : kq P (o.bind f) := by
  cases o with
  | none => exact kq_none
  | some q => exact h q rfl
def eq68 (lo hi : Nat) (J J1 : am_J) : Prop := ∀ j, (j < lo ∨ hi ≤ j) → J1 68 j = J 68 j
theorem eq68_up {lo hi : Nat} {J J1 : am_J} {i : Nat} {v : Int} (h : eq68 lo hi J J1) (h1 : lo ≤ i) (h2 : i < hi) : eq68 lo hi J (am_up J1 68 i v) := fun j hj => by rw [up_ne (by omega)]; exact h j hj
theorem eq68_row {lo hi : Nat} {J J1 J2 : am_J} (h : eq68 lo hi J J1) (e : ∀ j, J2 68 j = J1 68 j) : eq68 lo hi J J2 := fun j hj => (e j).trans (h j hj)
theorem k_goes {J J1 J2 : am_J} (h : eq68 0 6 J J1) (e : f_UpRiverModel_goesThere J1 = some J2) : eq68 0 6 J J2 := by
  cases e
  exact eq68_up (eq68_up (eq68_up (eq68_up h (by decide) (by decide)) (by decide) (by decide)) (by decide) (by decide)) (by decide) (by decide)
theorem k_sail45 {J : am_J} : ∀ (n : Nat) (x1 x2 x3 : Int) (J1 : am_J), eq68 0 6 J J1 → kq (eq68 0 6 J) (f_UpRiverModel_sail_L45 n x1 x2 x3 J1) := by
  intro n
  induction n with
  | zero => intro x1 x2 x3 J1 h; exact kq_none
  | succ n ih =>
    intro x1 x2 x3 J1 h
    have L105 : ∀ J3, eq68 0 6 J J3 → kq (eq68 0 6 J) (f_UpRiverModel_sail_L105 (f_UpRiverModel_sail_L45 n) x1 x2 x3 J3) := fun J3 h3 => ih _ _ _ _ (eq68_up h3 (by decide) (by decide))
    have hend : kq (eq68 0 6 J) (some (x2, (am_up J1 68 5 ((J1 68 5) + x2)))) := kq_some (eq68_up h (by decide) (by decide))
    rw [f_UpRiverModel_sail_L45.eq_2]
    refine kq_ite (fun _ => kq_ite (fun _ => kq_ite (fun _ => kq_bind fun q1 _ => kq_ite (fun _ => kq_ite (fun _ => kq_bind fun q2 _ => kq_ite (fun _ => kq_ite (fun _ => L105 _ h) (fun _ => kq_bind fun q3 e3 => ?_)) (fun _ => kq_none)) (fun _ => hend)) (fun _ => kq_none)) (fun _ => hend)) (fun _ => kq_none)) (fun _ => kq_none)
    have h3 : eq68 0 6 J q3.2 := eq68_row h fun j => frJ_UpRiverModel_sails e3 rfl
    exact kq_ite (fun _ => kq_ite (fun _ => L105 _ h3) (fun _ => kq_bind fun q4 e4 => ih _ _ _ _ (k_goes h3 e4))) (fun _ => kq_none)
theorem eq68_rf (lo hi : Nat) (J : am_J) : eq68 lo hi J J := fun _ _ => rfl
theorem k_sail {x : Int} {J : am_J} : kq (eq68 0 6 J) (f_UpRiverModel_sail x J) := by
  unfold f_UpRiverModel_sail
  exact kq_bind fun _ _ => kq_ite (fun _ => kq_ite (fun _ => kq_some (eq68_rf _ _ _)) (fun _ => kq_bind fun _ _ => kq_ite (fun _ => kq_ite (fun _ => kq_ite (fun _ => kq_ite (fun _ => kq_some (eq68_rf _ _ _)) (fun _ => k_sail45 _ _ _ _ _ (eq68_rf _ _ _))) (fun _ => kq_none)) (fun _ => kq_some (eq68_rf _ _ _))) (fun _ => kq_none))) (fun _ => kq_none)
theorem k_turn {J : am_J} : kq (eq68 0 6 J) (f_UpRiverModel_turn J) := by
  unfold f_UpRiverModel_turn
  refine kq_bind fun _ _ => kq_ite (fun _ => kq_ite (fun _ => kq_ite (fun _ => kq_ite (fun _ => kq_some (eq68_rf _ _ _)) (fun _ => kq_bind fun _ _ => kq_ite (fun _ => kq_ite (fun _ => kq_some (eq68_up (eq68_rf _ _ _) (by decide) (by decide))) (fun _ => kq_bind fun q3 e3 => ?_)) (fun _ => kq_none))) (fun _ => kq_none)) (fun _ => kq_some (eq68_rf _ _ _))) (fun _ => kq_none)
  have h3 : eq68 0 6 J q3.2 := eq68_row (eq68_rf _ _ _) fun j => frJ_UpRiverModel_turns e3 rfl
  exact kq_ite (fun _ => kq_ite (fun _ => kq_some (eq68_up h3 (by decide) (by decide))) (fun _ => kq_bind fun q4 e4 => kq_some (eq68_up (k_goes h3 e4) (by decide) (by decide)))) (fun _ => kq_none)
theorem k_anchor {x : Int} {J : am_J} : kq (eq68 0 6 J) (f_UpRiverModel_anchor x J) := by
  unfold f_UpRiverModel_anchor
  exact kq_bind fun _ _ => kq_ite (fun _ => kq_ite (fun _ => kq_some (eq68_rf _ _ _)) (fun _ => kq_ite (fun _ => kq_ite (fun _ => kq_some (eq68_rf _ _ _)) (fun _ => kq_some (eq68_up (eq68_rf _ _ _) (by decide) (by decide)))) (fun _ => kq_none))) (fun _ => kq_none)
theorem k_set {x y z t : Int} {J : am_J} : kq (eq68 0 6 J) (f_UpRiverModel_set x y z t J) := by
  unfold f_UpRiverModel_set
  exact kq_bind fun _ _ => kq_bind fun _ _ => kq_ite (fun _ => kq_ite (fun _ => kq_some (eq68_rf _ _ _)) (fun _ => kq_ite (fun _ => kq_bind fun _ _ => kq_ite (fun _ => kq_ite (fun _ => kq_some (eq68_rf _ _ _)) (fun _ => kq_bind fun _ _ => kq_ite (fun _ => kq_ite (fun _ => kq_some (eq68_rf _ _ _)) (fun _ => kq_bind fun _ _ => kq_ite (fun _ => kq_ite (fun _ => kq_some (eq68_rf _ _ _)) (fun _ => kq_bind fun _ _ => kq_bind fun _ _ => kq_some (eq68_up (eq68_up (eq68_up (eq68_up (eq68_up (eq68_up (eq68_rf _ _ _) (by decide) (by decide)) (by decide) (by decide)) (by decide) (by decide)) (by decide) (by decide)) (by decide) (by decide)) (by decide) (by decide)))) (fun _ => kq_none))) (fun _ => kq_none))) (fun _ => kq_none)) (fun _ => kq_none))) (fun _ => kq_none)
theorem k_swing {x : Int} {J : am_J} (h : 0 ≤ J 68 31 ∧ J 68 31 ≤ 40) : kq (eq68 31 72 J) (f_UpRiverModel_swing x J) := by
  unfold f_UpRiverModel_swing
  exact kq_bind fun _ _ => kq_ite (fun _ => kq_ite (fun _ => kq_some (eq68_rf _ _ _)) (fun _ => kq_ite (fun _ => kq_ite (fun _ => kq_some (eq68_rf _ _ _)) (fun _ => kq_ite (fun _ => kq_some (eq68_up (eq68_up (eq68_rf _ _ _) (by omega) (by omega)) (by decide) (by decide))) (fun _ => kq_none))) (fun _ => kq_none))) (fun _ => kq_none)
abbrev lgP (J J1 : am_J) : Prop := eq68 6 31 J J1 ∧ 0 ≤ J1 68 6 ∧ J1 68 6 ≤ 12
theorem k_logged {x t : Int} {J J1 : am_J} (h : lgP J J1) : kq (lgP J) (f_UpRiverModel_logged x t J1) := by
  have L61 : kq (lgP J) (f_UpRiverModel_logged_L61 x t (J1 68 6) J1) := by
    unfold f_UpRiverModel_logged_L61
    refine kq_ite (fun _ => kq_ite (fun _ => kq_some h) (fun ne => kq_ite (fun _ => kq_ite (fun _ => kq_some ?_) (fun _ => kq_none)) (fun _ => kq_none))) (fun _ => kq_none)
    obtain ⟨h1, h2, h3⟩ := h
    exact ⟨eq68_up (eq68_up (eq68_up h1 (by omega) (by omega)) (by omega) (by omega)) (by decide) (by decide), by rw [up_at]; omega, by rw [up_at]; omega⟩
  unfold f_UpRiverModel_logged
  exact kq_bind fun _ _ => kq_ite (fun _ => kq_ite (fun _ => kq_some h) (fun _ => kq_bind fun _ _ => kq_ite (fun _ => kq_ite (fun _ => kq_some h) (fun _ => kq_ite (fun _ => kq_ite (fun _ => kq_bind fun _ _ => kq_ite (fun _ => kq_ite (fun _ => kq_ite (fun _ => kq_bind fun _ _ => kq_ite (fun _ => kq_ite (fun _ => kq_ite (fun _ => L61) (fun _ => kq_some h)) (fun _ => kq_none)) (fun _ => kq_none)) (fun _ => kq_some h)) (fun _ => kq_none)) (fun _ => kq_none)) (fun _ => L61)) (fun _ => kq_none))) (fun _ => kq_none))) (fun _ => kq_none)
theorem k_read143 {J : am_J} {kb : Int → Int → Int → Int → Int → Int → Int → Int → am_J → Option (Int × am_J)} (hk : ∀ x1 x2 x3 x4 x5 x6 x7 x8 J1, (0 ≤ x5 ∧ x5 ≤ 12) → lgP J J1 → kq (lgP J) (kb x1 x2 x3 x4 x5 x6 x7 x8 J1)) {x1 x2 x3 x4 x5 x6 x7 x8 : Int} {J1 : am_J} (h5 : 0 ≤ x5 ∧ x5 ≤ 12) (h : lgP J J1) : kq (lgP J) (f_UpRiverModel_read_L143 kb x1 x2 x3 x4 x5 x6 x7 x8 J1) := by
  unfold f_UpRiverModel_read_L143
  refine kq_ite (fun _ => kq_ite (fun _ => kq_ite (fun _ => kq_ite (fun _ => kq_bind fun q e => ?_) (fun _ => kq_none)) (fun _ => kq_none)) (fun _ => hk _ _ _ _ _ _ _ _ _ h5 h)) (fun _ => kq_none)
  have h3 : lgP J q.2 := k_logged h q e
  exact kq_ite (fun _ => kq_ite (fun _ => kq_some ⟨eq68_up h3.1 (by decide) (by decide), by rw [up_at]; exact h5⟩) (fun _ => hk _ _ _ _ _ _ _ _ _ h5 h3)) (fun _ => kq_none)
theorem k_read56 {J : am_J} {kb : Int → Int → Int → Int → Int → Int → Int → Int → am_J → Option (Int × am_J)} (hk : ∀ x1 x2 x3 x4 x5 x6 x7 x8 J1, (0 ≤ x5 ∧ x5 ≤ 12) → lgP J J1 → kq (lgP J) (kb x1 x2 x3 x4 x5 x6 x7 x8 J1)) : ∀ (n : Nat) (x1 x2 x3 x4 x5 x6 x7 x8 x9 : Int) (J1 : am_J), (0 ≤ x5 ∧ x5 ≤ 12) → lgP J J1 → kq (lgP J) (f_UpRiverModel_read_L56 kb n x1 x2 x3 x4 x5 x6 x7 x8 x9 J1) := by
  intro n
  induction n with
  | zero => intro x1 x2 x3 x4 x5 x6 x7 x8 x9 J1 h5 h; exact kq_none
  | succ n ih =>
    intro x1 x2 x3 x4 x5 x6 x7 x8 x9 J1 h5 h
    have g : ∀ g', kq (lgP J) (f_UpRiverModel_read_L56 kb n x1 x2 x3 x4 x5 g' x7 x8 (x9 + 1) J1) := fun g' => ih _ _ _ _ _ _ _ _ _ _ h5 h
    have g3 : kq (lgP J) (f_UpRiverModel_read_L143 kb x1 x2 x3 x4 x5 x6 x7 x8 J1) := k_read143 hk h5 h
    rw [f_UpRiverModel_read_L56.eq_2]
    exact kq_ite (fun _ => kq_ite (fun _ => kq_ite (fun _ => kq_ite (fun _ => kq_ite (fun _ => kq_ite (fun _ => kq_ite (fun _ => g _) (fun _ => kq_ite (fun _ => kq_ite (fun _ => kq_ite (fun _ => kq_ite (fun _ => g _) (fun _ => kq_ite (fun _ => kq_ite (fun _ => g _) (fun _ => g _)) (fun _ => kq_none))) (fun _ => kq_none)) (fun _ => g _)) (fun _ => kq_none))) (fun _ => kq_none)) (fun _ => kq_none)) (fun _ => g3)) (fun _ => kq_none)) (fun _ => g3)) (fun _ => kq_none)
theorem k_read41 {J : am_J} : ∀ (n : Nat) (x1 x2 x3 x4 x5 x6 x7 x8 : Int) (J1 : am_J), (0 ≤ x5 ∧ x5 ≤ 12) → lgP J J1 → kq (lgP J) (f_UpRiverModel_read_L41 n x1 x2 x3 x4 x5 x6 x7 x8 J1) := by
  intro n
  induction n with
  | zero => intro x1 x2 x3 x4 x5 x6 x7 x8 J1 h5 h; exact kq_none
  | succ n ih =>
    intro x1 x2 x3 x4 x5 x6 x7 x8 J1 h5 h
    have hend : kq (lgP J) (some (x7, am_up J1 65 41 x6)) := kq_some ⟨eq68_row h.1 fun j => by rw [up_row (by decide)], by rw [up_row (by decide)]; exact h.2⟩
    rw [f_UpRiverModel_read_L41.eq_2]
    exact kq_ite (fun _ => kq_ite (fun _ => kq_ite (fun _ => kq_ite (fun _ => kq_ite (fun _ => k_read56 ih _ _ _ _ _ _ _ _ _ _ _ h5 h) (fun _ => hend)) (fun _ => kq_none)) (fun _ => hend)) (fun _ => kq_none)) (fun _ => kq_none)
theorem k_read {x y z t : Int} {J : am_J} (h : 0 ≤ J 68 6 ∧ J 68 6 ≤ 12) : kq (lgP J) (f_UpRiverModel_read x y z t J) := by
  have h0 : lgP J J := ⟨eq68_rf _ _ _, h⟩
  unfold f_UpRiverModel_read
  exact kq_bind fun _ _ => kq_ite (fun _ => kq_ite (fun _ => kq_some h0) (fun _ => kq_bind fun _ _ => kq_ite (fun _ => kq_ite (fun _ => kq_some h0) (fun _ => k_read41 _ _ _ _ _ _ _ _ _ _ h h0)) (fun _ => kq_none))) (fun _ => kq_none)
