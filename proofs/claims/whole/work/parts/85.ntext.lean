theorem n_text {b : Bool} {J : am_J} {K : am_K} (s : Sim b J K) : ∃ r J' K' b' J2, f_UpRiver_text J K b = some (r, J', K', b') ∧ f_UpRiverModel_text J' = some (r, J2) ∧ am_i32 r ∧ Sim b' J2 K' := by
  obtain ⟨hr, hk, hV, hB, hL, hW, hI, hS, hTn, hT, hA, hQ, hF⟩ := s
  obtain ⟨r, J', K', b', J2, u1, u2, u3, gF, gT, gQ, g⟩ := e_text (b := b) (K := K) hT hQ hr.2.2
  have F1 : fr _ J J' := fun a j hw => frJ_UpRiver_text u1 hw
  have F2 : fr _ J' J2 := fun a j hw => frJ_UpRiverModel_text u2 hw
  have F := fr_two F1 F2
  have er : ∀ c, c ∈ [57, 58, 59, 60, 61, 62, 63, 64, 75, 76, 77] → J2 c = J c := fun c hc => fr_row F (by cases b <;> rfl) hc
  have gS : sS J2 := p_S hS (fun a h1 h2 => er a (mem_rng (lo := 57) (hi := 65) rfl h1 (by omega))) (er 75 (by decide)) (er 76 (by decide)) (er 77 (by decide))
  have gTn : sTn J2 := p_Tn hTn (F _ _ (by cases b <;> rfl)) (F _ _ (by cases b <;> rfl))
  refine ⟨r, J', K', b', J2, u1, u2, u3, ?_⟩
  rcases g with ⟨e, e66, e68, e69, e15, rows, eK⟩ | ⟨e, gR, gK, gV, gB, gL, gW, gI, gA⟩
  · subst e
    have rw1 : ∀ a, a ≠ 1 → a ≠ 2 → a ≠ 4 → a ≠ 5 → (a < 7 ∨ 15 < a) → (a < 33 ∨ 41 < a) → a < 65 → J2 a = J a := by
      intro a h1 h2 h4 h5 h6 h7 h8
      refine rows a h1 h2 h4 h5 ?_ h8
      rcases dr_o b' with z | z <;> rw [z] <;> omega
    have rw2 : ∀ i, 1 ≤ i → i ≤ 9 → ∀ j, J2 (am_rv b' + i) j = J (am_rv b' + i) j := by
      intro i h1 h9 j
      refine congrFun (rows _ ?_ ?_ ?_ ?_ ?_ ?_) j
      all_goals
        cases b'
        · have z1 : am_rv false = 32 := rfl
          have z2 : am_dr false = 6 := rfl
          omega
        · have z1 : am_rv true = 6 := rfl
          have z2 : am_dr true = 32 := rfl
          omega
    refine ⟨⟨by rw [e66]; exact hr.1, by rw [e66]; exact rq_fr hr.2.1 rw2, by rw [e15]; exact hr.2.2⟩, by rw [e66]; exact rK_row hk eK, by rw [e66]; exact hV, ?_, ?_, ?_, ?_, gS, gTn, gT, ?_, gQ, gF⟩
    · exact p_B hB (rw1 18 (by decide) (by decide) (by decide) (by decide) (by decide) (by decide) (by decide)) (fun j _ => congrFun e68 j)
    · exact p_L hL (rw1 19 (by decide) (by decide) (by decide) (by decide) (by decide) (by decide) (by decide)) (rw1 20 (by decide) (by decide) (by decide) (by decide) (by decide) (by decide) (by decide)) (rw1 21 (by decide) (by decide) (by decide) (by decide) (by decide) (by decide) (by decide)) e66 (fun j _ _ => congrFun e68 j)
    · exact p_W hW (rw1 22 (by decide) (by decide) (by decide) (by decide) (by decide) (by decide) (by decide)) (rw1 23 (by decide) (by decide) (by decide) (by decide) (by decide) (by decide) (by decide)) (fun j _ _ => congrFun e68 j)
    · exact p_I hI (fun a h1 h2 => rw1 a (by omega) (by omega) (by omega) (by omega) (by omega) (by omega) (by omega)) e66 e69 (fun j _ _ => congrFun e68 j)
    · exact p_A hA (rw1 31 (by decide) (by decide) (by decide) (by decide) (by decide) (by decide) (by decide)) e66
  · exact ⟨gR, gK, gV, gB, gL, gW, gI, gS, gTn, gT, gA, gQ, gF⟩
