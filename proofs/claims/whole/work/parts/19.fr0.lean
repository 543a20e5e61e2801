/-! frames: what a method leaves as it was -/
def am_nw (W : List (Nat × Option Nat)) (a j : Nat) : Bool := W.all fun q => !(Nat.beq q.1 a) || (match q.2 with
  | none => false
  | some i => !(Nat.beq i j))
theorem am_nw_at {W : List (Nat × Option Nat)} {a j : Nat} (hw : am_nw W a j = true) (k : Nat) {q : Nat × Option Nat} (hk : W[k]? = some q) : (!(Nat.beq q.1 a) || (match q.2 with
  | none => false
  | some i => !(Nat.beq i j))) = true := List.all_eq_true.mp hw q (List.mem_of_getElem? hk)
theorem am_nw_f {W : List (Nat × Option Nat)} {a j : Nat} (hw : am_nw W a j = true) (k : Nat) {c i : Nat} (hk : W[k]? = some (c, some i)) : ¬ (a = c ∧ j = i) := by
  intro h
  have := am_nw_at hw k hk
  dsimp only at this
  rw [h.1, h.2, Nat.beq_refl, Nat.beq_refl] at this
  cases this
theorem am_nw_a {W : List (Nat × Option Nat)} {a j : Nat} (hw : am_nw W a j = true) (k : Nat) {c i : Nat} (hk : W[k]? = some (c, none)) : ¬ (a = c ∧ j = i) := by
  intro h
  have := am_nw_at hw k hk
  rw [h.1, Nat.beq_refl] at this
  cases this
theorem am_nw_pick {W W' : List (Nat × Option Nat)} {a j : Nat} (hw : am_nw W a j = true) (ks : List Nat) (hk : ks.filterMap (fun k => W[k]?) = W') : am_nw W' a j = true := by
  subst hk
  refine List.all_eq_true.mpr fun q hq => ?_
  obtain ⟨k, -, h⟩ := List.mem_filterMap.mp hq
  exact am_nw_at hw k h
theorem am_upn {J : am_J} {c i : Nat} {v : Int} {a j : Nat} (h : ¬ (a = c ∧ j = i)) : am_up J c i v a j = J a j := by
  unfold am_up
  by_cases h1 : a = c
  · rw [if_pos h1, if_neg (fun z => h ⟨h1, z⟩)]
  · rw [if_neg h1]
theorem am_uln {K : am_K} {c i : Nat} {v : Int64} {a j : Nat} (h : ¬ (a = c ∧ j = i)) : am_ul K c i v a j = K a j := by
  unfold am_ul
  by_cases h1 : a = c
  · rw [if_pos h1, if_neg (fun z => h ⟨h1, z⟩)]
  · rw [if_neg h1]
theorem am_ite {P : Prop} [Decidable P] {α : Type} {x y z : α} (h : (if P then x else y) = z) : (P ∧ x = z) ∨ (¬ P ∧ y = z) := by
  by_cases hP : P
  · rw [if_pos hP] at h; exact Or.inl ⟨hP, h⟩
  · rw [if_neg hP] at h; exact Or.inr ⟨hP, h⟩
