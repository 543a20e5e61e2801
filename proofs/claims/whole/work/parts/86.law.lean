/-! the law: every tape of calls is answered alike -/
def gO (o : Option (Int × am_J × am_K × Bool)) : Prop := ∃ J K b, o = some (1, J, K, b)
theorem g_pos {c : Prop} [Decidable c] {u w : Option (Int × am_J × am_K × Bool)} (h : c) (g : gO u) : gO (if c then u else w) := by rw [if_pos h]; exact g
theorem g_ite {c : Prop} [Decidable c] {u w : Option (Int × am_J × am_K × Bool)} (h1 : c → gO u) (h2 : ¬ c → gO w) : gO (if c then u else w) := by
  by_cases h : c
  · rw [if_pos h]; exact h1 h
  · rw [if_neg h]; exact h2 h
theorem law_loop (X : am_X) (hX : X.1 ≤ 3072) : ∀ (n : Nat) (x3 : Int) (J : am_J) (K : am_K) (b : Bool), Sim b J K → 0 ≤ x3 → x3 ≤ 4000 → (X.1 : Int) - x3 < 6 * (n : Int) → 1 ≤ n → gO (f_UpRiverLaw_law_L18 X n x3 J K b) := by
  intro n
  induction n with
  | zero => intro x3 J K b _ _ _ _ h; exact absurd h (by decide)
  | succ n ih =>
    intro x3 J K b s h0 h4 hn h1
    have A : ∀ i : Nat, am_i32 ((X.2.1 i).toInt) := fun i => am_toInt32 _
    have B : am_i32 (am_and ((X.2.1 x3.toNat).toInt) 63) := am_toInt32 _
    rw [f_UpRiverLaw_law_L18.eq_2]
    refine g_pos (by omega) (g_pos (by omega) (g_ite (fun _ => ⟨J, K, b, rfl⟩) (fun hl => ?_)))
    have nx : ∀ b J K, Sim b J K → gO (f_UpRiverLaw_law_L18 X n (x3 + 6) J K b) := fun b J K s => ih _ _ _ _ s (by omega) (by omega) (by omega) (by omega)
    have G1 : 0 ≤ x3 + 1 ∧ x3 + 1 < (X.1 : Int) := by omega
    have G2 : 0 ≤ x3 + 2 ∧ x3 + 2 < (X.1 : Int) := by omega
    have G3 : 0 ≤ x3 + 3 ∧ x3 + 3 < (X.1 : Int) := by omega
    have G4 : 0 ≤ x3 + 4 ∧ x3 + 4 < (X.1 : Int) := by omega
    have G5 : 0 ≤ x3 + 5 ∧ x3 + 5 < (X.1 : Int) := by omega
    have s0 := s
    obtain ⟨hr, hk, hV, hB, hL, hW, hI, hS, hTn, hT, hA, hQ, hF⟩ := s0
    refine g_pos (by omega) (g_pos B (g_ite (fun _ => ?c0) (fun _ => (g_ite (fun _ => ?c1) (fun _ => (g_ite (fun _ => ?c2) (fun _ => (g_ite (fun _ => ?c3) (fun _ => (g_ite (fun _ => ?c4) (fun _ => (g_ite (fun _ => ?c5) (fun _ => (g_ite (fun _ => ?c6) (fun _ => (g_ite (fun _ => ?c7) (fun _ => (g_ite (fun _ => ?c8) (fun _ => (g_ite (fun _ => ?c9) (fun _ => (g_ite (fun _ => ?c10) (fun _ => (g_ite (fun _ => ?c11) (fun _ => (g_ite (fun _ => ?c12) (fun _ => (g_ite (fun _ => ?c13) (fun _ => (g_ite (fun _ => ?c14) (fun _ => (g_ite (fun _ => ?c15) (fun _ => (g_ite (fun _ => ?c16) (fun _ => (g_ite (fun _ => ?c17) (fun _ => (g_ite (fun _ => ?c18) (fun _ => (g_ite (fun _ => ?c19) (fun _ => (g_ite (fun _ => ?c20) (fun _ => (g_ite (fun _ => ?c21) (fun _ => (g_ite (fun _ => ?c22) (fun _ => (g_ite (fun _ => ?c23) (fun _ => (g_ite (fun _ => ?c24) (fun _ => (g_ite (fun _ => ?c25) (fun _ => (g_ite (fun _ => ?c26) (fun _ => (g_ite (fun _ => ?c27) (fun _ => (g_ite (fun _ => ?c28) (fun _ => (g_ite (fun _ => ?c29) (fun _ => (g_ite (fun _ => ?c30) (fun _ => (g_ite (fun _ => ?c31) (fun _ => (g_ite (fun _ => ?c32) (fun _ => (g_ite (fun _ => ?c33) (fun _ => (g_ite (fun _ => ?c34) (fun _ => (g_ite (fun _ => ?c35) (fun _ => (g_ite (fun _ => ?c36) (fun _ => (g_ite (fun _ => ?c37) (fun _ => (nx b J K s))))))))))))))))))))))))))))))))))))))))))))))))))))))))))))))))))))))))))))))
    case c0 =>
      refine g_pos G1 (g_pos G2 ?_)
      obtain ⟨r, J', J2, u1, u2, u3, s2⟩ := n_feed (y := (am_lshl (am_i2l ((X.2.1 ((x3 + 1).toNat)).toInt)) 32) ||| ((am_i2l ((X.2.1 ((x3 + 2).toNat)).toInt)) &&& (4294967295 : Int64))) s
      rw [u1]; simp only [Option.bind_some]; rw [u2]; simp only [Option.bind_some]
      rw [if_pos u3, if_pos u3, if_pos trivial]
      exact nx _ _ _ s2
    case c1 =>
      refine g_pos G1 ?_
      obtain ⟨r, J', J2, u1, u2, u3, s2⟩ := n_end s (A (x3 + 1).toNat)
      rw [u1]; simp only [Option.bind_some]; rw [u2]; simp only [Option.bind_some]
      rw [if_pos u3, if_pos u3, if_pos trivial]
      exact nx _ _ _ s2
    case c2 =>
      obtain ⟨r, J', K', b', J2, u1, u2, u3, s2⟩ := n_text s
      rw [u1]; simp only [Option.bind_some]; rw [u2]; simp only [Option.bind_some]
      rw [if_pos u3, if_pos u3, if_pos trivial]
      exact nx _ _ _ s2
    case c3 =>
      obtain ⟨r, u1, u2, u3⟩ := e_fault hF 
      rw [u1, u2]; simp only [Option.bind_some]
      rw [if_pos u3, if_pos u3, if_pos trivial]
      exact nx _ _ _ s
    case c4 =>
      refine g_pos G1 ?_
      obtain ⟨r, u1, u2, u3⟩ := e_rule hr (A (x3 + 1).toNat)
      rw [u1, u2]; simp only [Option.bind_some]
      rw [if_pos u3, if_pos u3, if_pos trivial]
      exact nx _ _ _ s
    case c5 =>
      refine g_pos G1 (g_pos G2 ?_)
      obtain ⟨r, u1, u2, u3⟩ := e_reach hr (A (x3 + 1).toNat) (A (x3 + 2).toNat)
      rw [u1, u2]; simp only [Option.bind_some]
      rw [if_pos u3, if_pos u3, if_pos trivial]
      exact nx _ _ _ s
    case c6 =>
      refine g_pos G1 (g_pos G2 (g_pos G3 ?_))
      obtain ⟨r, u1, u2, u3⟩ := e_flow hr (A (x3 + 1).toNat) (A (x3 + 2).toNat) (A (x3 + 3).toNat)
      rw [u1, u2]; simp only [Option.bind_some]
      rw [if_pos u3, if_pos u3, if_pos trivial]
      exact nx _ _ _ s
    case c7 =>
      refine g_pos G1 (g_pos G2 (g_pos G3 (g_pos G4 ?_)))
      obtain ⟨r, u1, u2, u3⟩ := e_afloat hr (A (x3 + 1).toNat) (A (x3 + 2).toNat) (A (x3 + 3).toNat) (A (x3 + 4).toNat)
      rw [u1, u2]; simp only [Option.bind_some]
      rw [if_pos u3, if_pos u3, if_pos trivial]
      exact nx _ _ _ s
    case c8 =>
      refine g_pos G1 ?_
      obtain ⟨r, J', J2, u1, u2, u3, s2⟩ := n_sail s (A (x3 + 1).toNat)
      rw [u1]; simp only [Option.bind_some]; rw [u2]; simp only [Option.bind_some]
      rw [if_pos u3, if_pos u3, if_pos trivial]
      exact nx _ _ _ s2
    case c9 =>
      obtain ⟨r, J', J2, u1, u2, u3, s2⟩ := n_turn s 
      rw [u1]; simp only [Option.bind_some]; rw [u2]; simp only [Option.bind_some]
      rw [if_pos u3, if_pos u3, if_pos trivial]
      exact nx _ _ _ s2
    case c10 =>
      refine g_pos G1 ?_
      obtain ⟨r, J', J2, u1, u2, u3, s2⟩ := n_anchor s (A (x3 + 1).toNat)
      rw [u1]; simp only [Option.bind_some]; rw [u2]; simp only [Option.bind_some]
      rw [if_pos u3, if_pos u3, if_pos trivial]
      exact nx _ _ _ s2
    case c11 =>
      refine g_pos G1 ?_
      obtain ⟨r, u1, u2, u3⟩ := e_now hr hB (A (x3 + 1).toNat)
      rw [u1, u2]; simp only [Option.bind_some]
      rw [if_pos u3, if_pos u3, if_pos trivial]
      exact nx _ _ _ s
    case c12 =>
      refine g_pos G1 (g_pos G2 (g_pos G3 (g_pos G4 ?_)))
      obtain ⟨r, J', J2, u1, u2, u3, s2⟩ := n_set s (A (x3 + 1).toNat) (A (x3 + 2).toNat) (A (x3 + 3).toNat) (A (x3 + 4).toNat)
      rw [u1]; simp only [Option.bind_some]; rw [u2]; simp only [Option.bind_some]
      rw [if_pos u3, if_pos u3, if_pos trivial]
      exact nx _ _ _ s2
    case c13 =>
      obtain ⟨r, J', K', J2, u1, u2, u3, s2⟩ := n_soonest s 
      rw [u1]; simp only [Option.bind_some]; rw [u2]; simp only [Option.bind_some]
      rw [if_pos u3, if_pos u3, if_pos trivial]
      exact nx _ _ _ s2
    case c14 =>
      refine g_pos G1 (g_pos G2 ?_)
      obtain ⟨r, J', K', J2, u1, u2, u3, s2⟩ := n_only s (A (x3 + 1).toNat) (A (x3 + 2).toNat)
      rw [u1]; simp only [Option.bind_some]; rw [u2]; simp only [Option.bind_some]
      rw [if_pos u3, if_pos u3, if_pos trivial]
      exact nx _ _ _ s2
    case c15 =>
      obtain ⟨r, J', K', J2, u1, u2, u3, s2⟩ := n_first s 
      rw [u1]; simp only [Option.bind_some]; rw [u2]; simp only [Option.bind_some]
      rw [if_pos u3, if_pos u3, if_pos trivial]
      exact nx _ _ _ s2
    case c16 =>
      refine g_pos G1 ?_
      obtain ⟨r, J', K', J2, u1, u2, u3, s2⟩ := n_from s (A (x3 + 1).toNat)
      rw [u1]; simp only [Option.bind_some]; rw [u2]; simp only [Option.bind_some]
      rw [if_pos u3, if_pos u3, if_pos trivial]
      exact nx _ _ _ s2
    case c17 =>
      refine g_pos G1 ?_
      obtain ⟨r, J', K', J2, u1, u2, u3, s2⟩ := n_start s (A (x3 + 1).toNat)
      rw [u1]; simp only [Option.bind_some]; rw [u2]; simp only [Option.bind_some]
      rw [if_pos u3, if_pos u3, if_pos trivial]
      exact nx _ _ _ s2
    case c18 =>
      refine g_pos G1 (g_pos G2 (g_pos G3 ?_))
      obtain ⟨r, J', K', J2, u1, u2, u3, s2⟩ := n_days s (A (x3 + 1).toNat) (A (x3 + 2).toNat) (A (x3 + 3).toNat)
      rw [u1]; simp only [Option.bind_some]; rw [u2]; simp only [Option.bind_some]
      rw [if_pos u3, if_pos u3, if_pos trivial]
      exact nx _ _ _ s2
    case c19 =>
      refine g_pos G1 (g_pos G2 (g_pos G3 ?_))
      obtain ⟨r, J', J2, u1, u2, u3, s2⟩ := n_skipper s (A (x3 + 1).toNat) (A (x3 + 2).toNat) (A (x3 + 3).toNat)
      rw [u1]; simp only [Option.bind_some]; rw [u2]; simp only [Option.bind_some]
      rw [if_pos u3, if_pos u3, if_pos trivial]
      exact nx _ _ _ s2
    case c20 =>
      refine g_pos G1 (g_pos G2 ?_)
      obtain ⟨r, J', J2, u1, u2, u3, s2⟩ := n_best s (A (x3 + 1).toNat) (A (x3 + 2).toNat)
      rw [u1]; simp only [Option.bind_some]; rw [u2]; simp only [Option.bind_some]
      rw [if_pos u3, if_pos u3, if_pos trivial]
      exact nx _ _ _ s2
    case c21 =>
      refine g_pos G1 (g_pos G2 ?_)
      obtain ⟨r, J', K', J2, u1, u2, u3, s2⟩ := n_loses s (A (x3 + 1).toNat) (A (x3 + 2).toNat)
      rw [u1]; simp only [Option.bind_some]; rw [u2]; simp only [Option.bind_some]
      rw [if_pos u3, if_pos u3, if_pos trivial]
      exact nx _ _ _ s2
    case c22 =>
      refine g_pos G1 ?_
      obtain ⟨r, u1, u2, u3⟩ := e_narrow hr (A (x3 + 1).toNat)
      rw [u1, u2]; simp only [Option.bind_some]
      rw [if_pos u3, if_pos u3, if_pos trivial]
      exact nx _ _ _ s
    case c23 =>
      refine g_pos G1 (g_pos G2 (g_pos G3 (g_pos G4 (g_pos G5 ?_))))
      obtain ⟨r, u1, u2, u3⟩ := e_lead hr (A (x3 + 1).toNat) (A (x3 + 2).toNat) (A (x3 + 3).toNat) (A (x3 + 4).toNat) (A (x3 + 5).toNat)
      rw [u1, u2]; simp only [Option.bind_some]
      rw [if_pos u3, if_pos u3, if_pos trivial]
      exact nx _ _ _ s
    case c24 =>
      refine g_pos G1 (g_pos G2 (g_pos G3 (g_pos G4 (g_pos G5 ?_))))
      obtain ⟨r, u1, u2, u3⟩ := e_near hr (A (x3 + 1).toNat) (A (x3 + 2).toNat) (A (x3 + 3).toNat) (A (x3 + 4).toNat) (A (x3 + 5).toNat)
      rw [u1, u2]; simp only [Option.bind_some]
      rw [if_pos u3, if_pos u3, if_pos trivial]
      exact nx _ _ _ s
    case c25 =>
      refine g_pos G1 (g_pos G2 ?_)
      obtain ⟨r, J', J2, u1, u2, u3, s2⟩ := n_logged s (A (x3 + 1).toNat) (A (x3 + 2).toNat)
      rw [u1]; simp only [Option.bind_some]; rw [u2]; simp only [Option.bind_some]
      rw [if_pos u3, if_pos u3, if_pos trivial]
      exact nx _ _ _ s2
    case c26 =>
      refine g_pos G1 ?_
      obtain ⟨r, J', K', J2, u1, u2, u3, s2⟩ := n_lost s (A (x3 + 1).toNat)
      rw [u1]; simp only [Option.bind_some]; rw [u2]; simp only [Option.bind_some]
      rw [if_pos u3, if_pos u3, if_pos trivial]
      exact nx _ _ _ s2
    case c27 =>
      refine g_pos G1 ?_
      obtain ⟨r, J', J2, u1, u2, u3, s2⟩ := n_swing s (A (x3 + 1).toNat)
      rw [u1]; simp only [Option.bind_some]; rw [u2]; simp only [Option.bind_some]
      rw [if_pos u3, if_pos u3, if_pos trivial]
      exact nx _ _ _ s2
    case c28 =>
      refine g_pos G1 ?_
      obtain ⟨r, u1, u2, u3⟩ := e_judged hW (A (x3 + 1).toNat)
      rw [u1, u2]; simp only [Option.bind_some]
      rw [if_pos u3, if_pos u3, if_pos trivial]
      exact nx _ _ _ s
    case c29 =>
      refine g_pos G1 ?_
      obtain ⟨r, u1, u2, u3⟩ := e_judge hW (A (x3 + 1).toNat)
      rw [u1, u2]; simp only [Option.bind_some]
      rw [if_pos u3, if_pos u3, if_pos trivial]
      exact nx _ _ _ s
    case c30 =>
      refine g_pos G1 (g_pos G2 (g_pos G3 (g_pos G4 (g_pos G5 ?_))))
      obtain ⟨r, J', J2, u1, u2, u3, s2⟩ := n_barge s (A (x3 + 1).toNat) (A (x3 + 2).toNat) (A (x3 + 3).toNat) (A (x3 + 4).toNat) (A (x3 + 5).toNat)
      rw [u1]; simp only [Option.bind_some]; rw [u2]; simp only [Option.bind_some]
      rw [if_pos u3, if_pos u3, if_pos trivial]
      exact nx _ _ _ s2
    case c31 =>
      refine g_pos G1 ?_
      obtain ⟨r, J', J2, u1, u2, u3, s2⟩ := n_keep s (A (x3 + 1).toNat)
      rw [u1]; simp only [Option.bind_some]; rw [u2]; simp only [Option.bind_some]
      rw [if_pos u3, if_pos u3, if_pos trivial]
      exact nx _ _ _ s2
    case c32 =>
      refine g_pos G1 ?_
      obtain ⟨r, J', J2, u1, u2, u3, s2⟩ := n_back s (A (x3 + 1).toNat)
      rw [u1]; simp only [Option.bind_some]; rw [u2]; simp only [Option.bind_some]
      rw [if_pos u3, if_pos u3, if_pos trivial]
      exact nx _ _ _ s2
    case c33 =>
      refine g_pos G1 (g_pos G2 (g_pos G3 ?_))
      obtain ⟨r, J', J2, u1, u2, u3, s2⟩ := n_sheet s (A (x3 + 1).toNat) (A (x3 + 2).toNat) (A (x3 + 3).toNat)
      rw [u1]; simp only [Option.bind_some]; rw [u2]; simp only [Option.bind_some]
      rw [if_pos u3, if_pos u3, if_pos trivial]
      exact nx _ _ _ s2
    case c34 =>
      refine g_pos G1 (g_pos G2 (g_pos G3 ?_))
      obtain ⟨r, J', J2, u1, u2, u3, s2⟩ := n_lay s (A (x3 + 1).toNat) (A (x3 + 2).toNat) (A (x3 + 3).toNat)
      rw [u1]; simp only [Option.bind_some]; rw [u2]; simp only [Option.bind_some]
      rw [if_pos u3, if_pos u3, if_pos trivial]
      exact nx _ _ _ s2
    case c35 =>
      refine g_pos G1 (g_pos G2 (g_pos G3 (g_pos G4 ?_)))
      obtain ⟨r, J', J2, u1, u2, u3, s2⟩ := n_read s (A (x3 + 1).toNat) (A (x3 + 2).toNat) (A (x3 + 3).toNat) (A (x3 + 4).toNat)
      rw [u1]; simp only [Option.bind_some]; rw [u2]; simp only [Option.bind_some]
      rw [if_pos u3, if_pos u3, if_pos trivial]
      exact nx _ _ _ s2
    case c36 =>
      obtain ⟨r, u1, u2, u3⟩ := e_torn hTn 
      rw [u1, u2]; simp only [Option.bind_some]
      rw [if_pos u3, if_pos u3, if_pos trivial]
      exact nx _ _ _ s
    case c37 =>
      refine g_pos G1 ?_
      obtain ⟨r, u1, u2, u3⟩ := e_count hr hV hL hW hI hT hS (A (x3 + 1).toNat)
      rw [u1, u2]; simp only [Option.bind_some]
      rw [if_pos u3, if_pos u3, if_pos trivial]
      exact nx _ _ _ s
