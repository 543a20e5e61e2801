/-! each call keeps the invariant -/
theorem n_sail {b : Bool} {J : am_J} {K : am_K} {x : Int} (s : Sim b J K) (hx0 : am_i32 x) : ∃ r J' J2, f_UpRiver_sail b x J = some (r, J') ∧ f_UpRiverModel_sail x J' = some (r, J2) ∧ am_i32 r ∧ Sim b J2 K := by
  have s0 := s
  obtain ⟨hr, hk, hV, hB, hL, hW, hI, hS, hTn, hT, hA, hQ, hF⟩ := s
  obtain ⟨r, J', J2, u1, u2, u3, gB⟩ := e_sail hr hB hx0
  have F1 : fr _ J J' := fun a j hw => frJ_UpRiver_sail u1 hw
  have F2 : fr _ J' J2 := fun a j hw => frJ_UpRiverModel_sail u2 hw
  have F := fr_two F1 F2
  have er : ∀ c, c ∈ [19, 20, 21, 66, 22, 23, 43, 44, 45, 46, 47, 48, 49, 50, 51, 52, 53, 54, 55, 56, 69, 57, 58, 59, 60, 61, 62, 63, 64, 75, 76, 77, 3, 71, 31] → J2 c = J c := fun c hc => fr_row F rfl hc
  have r68 : J' 68 = J 68 := fr_row F1 (L := [68]) rfl (by decide)
  have e68 : eq68 0 6 J J2 := fun j hj => (k_sail _ u2 j hj).trans (congrFun r68 j)
  exact ⟨r, J', J2, u1, u2, u3, sim_of s0 F K_same rfl ((F _ _ rfl).trans hr.2.2) gB (p_L hL (er 19 (by decide)) (er 20 (by decide)) (er 21 (by decide)) (er 66 (by decide)) (fun j h1 h2 => e68 j (by omega))) (p_W hW (er 22 (by decide)) (er 23 (by decide)) (fun j h1 h2 => e68 j (by omega))) (p_I hI (fun a h1 h2 => er a (mem_rng (lo := 43) (hi := 57) rfl h1 (by omega))) (er 66 (by decide)) (er 69 (by decide)) (fun j h1 h2 => e68 j (by omega))) (p_S hS (fun a h1 h2 => er a (mem_rng (lo := 57) (hi := 65) rfl h1 (by omega))) (er 75 (by decide)) (er 76 (by decide)) (er 77 (by decide))) (p_Tn hTn (F _ _ rfl) (F _ _ rfl)) (p_T hT (F _ _ rfl) (F _ _ rfl) (er 3 (by decide)) (er 71 (by decide))) (p_A hA (er 31 (by decide)) (er 66 (by decide)))⟩
theorem n_turn {b : Bool} {J : am_J} {K : am_K} (s : Sim b J K) : ∃ r J' J2, f_UpRiver_turn b  J = some (r, J') ∧ f_UpRiverModel_turn  J' = some (r, J2) ∧ am_i32 r ∧ Sim b J2 K := by
  have s0 := s
  obtain ⟨hr, hk, hV, hB, hL, hW, hI, hS, hTn, hT, hA, hQ, hF⟩ := s
  obtain ⟨r, J', J2, u1, u2, u3, gB⟩ := e_turn hr hB 
  have F1 : fr _ J J' := fun a j hw => frJ_UpRiver_turn u1 hw
  have F2 : fr _ J' J2 := fun a j hw => frJ_UpRiverModel_turn u2 hw
  have F := fr_two F1 F2
  have er : ∀ c, c ∈ [19, 20, 21, 66, 22, 23, 43, 44, 45, 46, 47, 48, 49, 50, 51, 52, 53, 54, 55, 56, 69, 57, 58, 59, 60, 61, 62, 63, 64, 75, 76, 77, 3, 71, 31] → J2 c = J c := fun c hc => fr_row F rfl hc
  have r68 : J' 68 = J 68 := fr_row F1 (L := [68]) rfl (by decide)
  have e68 : eq68 0 6 J J2 := fun j hj => (k_turn _ u2 j hj).trans (congrFun r68 j)
  exact ⟨r, J', J2, u1, u2, u3, sim_of s0 F K_same rfl ((F _ _ rfl).trans hr.2.2) gB (p_L hL (er 19 (by decide)) (er 20 (by decide)) (er 21 (by decide)) (er 66 (by decide)) (fun j h1 h2 => e68 j (by omega))) (p_W hW (er 22 (by decide)) (er 23 (by decide)) (fun j h1 h2 => e68 j (by omega))) (p_I hI (fun a h1 h2 => er a (mem_rng (lo := 43) (hi := 57) rfl h1 (by omega))) (er 66 (by decide)) (er 69 (by decide)) (fun j h1 h2 => e68 j (by omega))) (p_S hS (fun a h1 h2 => er a (mem_rng (lo := 57) (hi := 65) rfl h1 (by omega))) (er 75 (by decide)) (er 76 (by decide)) (er 77 (by decide))) (p_Tn hTn (F _ _ rfl) (F _ _ rfl)) (p_T hT (F _ _ rfl) (F _ _ rfl) (er 3 (by decide)) (er 71 (by decide))) (p_A hA (er 31 (by decide)) (er 66 (by decide)))⟩
theorem n_anchor {b : Bool} {J : am_J} {K : am_K} {x : Int} (s : Sim b J K) (hx0 : am_i32 x) : ∃ r J' J2, f_UpRiver_anchor  x J = some (r, J') ∧ f_UpRiverModel_anchor x J' = some (r, J2) ∧ am_i32 r ∧ Sim b J2 K := by
  have s0 := s
  obtain ⟨hr, hk, hV, hB, hL, hW, hI, hS, hTn, hT, hA, hQ, hF⟩ := s
  obtain ⟨r, J', J2, u1, u2, u3, gB⟩ := e_anchor hB hx0
  have F1 : fr _ J J' := fun a j hw => frJ_UpRiver_anchor u1 hw
  have F2 : fr _ J' J2 := fun a j hw => frJ_UpRiverModel_anchor u2 hw
  have F := fr_two F1 F2
  have er : ∀ c, c ∈ [19, 20, 21, 66, 22, 23, 43, 44, 45, 46, 47, 48, 49, 50, 51, 52, 53, 54, 55, 56, 69, 57, 58, 59, 60, 61, 62, 63, 64, 75, 76, 77, 3, 71, 31] → J2 c = J c := fun c hc => fr_row F rfl hc
  have r68 : J' 68 = J 68 := fr_row F1 (L := [68]) rfl (by decide)
  have e68 : eq68 0 6 J J2 := fun j hj => (k_anchor _ u2 j hj).trans (congrFun r68 j)
  exact ⟨r, J', J2, u1, u2, u3, sim_of s0 F K_same rfl ((F _ _ rfl).trans hr.2.2) gB (p_L hL (er 19 (by decide)) (er 20 (by decide)) (er 21 (by decide)) (er 66 (by decide)) (fun j h1 h2 => e68 j (by omega))) (p_W hW (er 22 (by decide)) (er 23 (by decide)) (fun j h1 h2 => e68 j (by omega))) (p_I hI (fun a h1 h2 => er a (mem_rng (lo := 43) (hi := 57) rfl h1 (by omega))) (er 66 (by decide)) (er 69 (by decide)) (fun j h1 h2 => e68 j (by omega))) (p_S hS (fun a h1 h2 => er a (mem_rng (lo := 57) (hi := 65) rfl h1 (by omega))) (er 75 (by decide)) (er 76 (by decide)) (er 77 (by decide))) (p_Tn hTn (F _ _ rfl) (F _ _ rfl)) (p_T hT (F _ _ rfl) (F _ _ rfl) (er 3 (by decide)) (er 71 (by decide))) (p_A hA (er 31 (by decide)) (er 66 (by decide)))⟩
theorem n_set {b : Bool} {J : am_J} {K : am_K} {x y z t : Int} (s : Sim b J K) (hx0 : am_i32 x) (hy0 : am_i32 y) (hz0 : am_i32 z) (ht0 : am_i32 t) : ∃ r J' J2, f_UpRiver_set b x y z t J = some (r, J') ∧ f_UpRiverModel_set x y z t J' = some (r, J2) ∧ am_i32 r ∧ Sim b J2 K := by
  have s0 := s
  obtain ⟨hr, hk, hV, hB, hL, hW, hI, hS, hTn, hT, hA, hQ, hF⟩ := s
  obtain ⟨r, J', J2, u1, u2, u3, gB⟩ := e_set hr hB hx0 hy0 hz0 ht0
  have F1 : fr _ J J' := fun a j hw => frJ_UpRiver_set u1 hw
  have F2 : fr _ J' J2 := fun a j hw => frJ_UpRiverModel_set u2 hw
  have F := fr_two F1 F2
  have er : ∀ c, c ∈ [19, 20, 21, 66, 22, 23, 43, 44, 45, 46, 47, 48, 49, 50, 51, 52, 53, 54, 55, 56, 69, 57, 58, 59, 60, 61, 62, 63, 64, 75, 76, 77, 3, 71, 31] → J2 c = J c := fun c hc => fr_row F rfl hc
  have r68 : J' 68 = J 68 := fr_row F1 (L := [68]) rfl (by decide)
  have e68 : eq68 0 6 J J2 := fun j hj => (k_set _ u2 j hj).trans (congrFun r68 j)
  exact ⟨r, J', J2, u1, u2, u3, sim_of s0 F K_same rfl ((F _ _ rfl).trans hr.2.2) gB (p_L hL (er 19 (by decide)) (er 20 (by decide)) (er 21 (by decide)) (er 66 (by decide)) (fun j h1 h2 => e68 j (by omega))) (p_W hW (er 22 (by decide)) (er 23 (by decide)) (fun j h1 h2 => e68 j (by omega))) (p_I hI (fun a h1 h2 => er a (mem_rng (lo := 43) (hi := 57) rfl h1 (by omega))) (er 66 (by decide)) (er 69 (by decide)) (fun j h1 h2 => e68 j (by omega))) (p_S hS (fun a h1 h2 => er a (mem_rng (lo := 57) (hi := 65) rfl h1 (by omega))) (er 75 (by decide)) (er 76 (by decide)) (er 77 (by decide))) (p_Tn hTn (F _ _ rfl) (F _ _ rfl)) (p_T hT (F _ _ rfl) (F _ _ rfl) (er 3 (by decide)) (er 71 (by decide))) (p_A hA (er 31 (by decide)) (er 66 (by decide)))⟩
theorem n_swing {b : Bool} {J : am_J} {K : am_K} {x : Int} (s : Sim b J K) (hx0 : am_i32 x) : ∃ r J' J2, f_UpRiver_swing  x J = some (r, J') ∧ f_UpRiverModel_swing x J' = some (r, J2) ∧ am_i32 r ∧ Sim b J2 K := by
  have s0 := s
  obtain ⟨hr, hk, hV, hB, hL, hW, hI, hS, hTn, hT, hA, hQ, hF⟩ := s
  obtain ⟨r, J', J2, u1, u2, u3, gW⟩ := e_swing hW hx0
  have F1 : fr _ J J' := fun a j hw => frJ_UpRiver_swing u1 hw
  have F2 : fr _ J' J2 := fun a j hw => frJ_UpRiverModel_swing u2 hw
  have F := fr_two F1 F2
  have er : ∀ c, c ∈ [18, 19, 20, 21, 66, 43, 44, 45, 46, 47, 48, 49, 50, 51, 52, 53, 54, 55, 56, 69, 57, 58, 59, 60, 61, 62, 63, 64, 75, 76, 77, 3, 71, 31] → J2 c = J c := fun c hc => fr_row F rfl hc
  have r68 : J' 68 = J 68 := fr_row F1 (L := [68]) rfl (by decide)
  have h31 : 0 ≤ J' 68 31 ∧ J' 68 31 ≤ 40 := by rw [r68, ← hW.1]; exact ⟨hW.2.1, hW.2.2.1⟩
  have e68 : eq68 31 72 J J2 := fun j hj => ((k_swing h31) _ u2 j hj).trans (congrFun r68 j)
  exact ⟨r, J', J2, u1, u2, u3, sim_of s0 F K_same rfl ((F _ _ rfl).trans hr.2.2) (p_B hB (er 18 (by decide)) (fun j h => e68 j (by omega))) (p_L hL (er 19 (by decide)) (er 20 (by decide)) (er 21 (by decide)) (er 66 (by decide)) (fun j h1 h2 => e68 j (by omega))) gW (p_I hI (fun a h1 h2 => er a (mem_rng (lo := 43) (hi := 57) rfl h1 (by omega))) (er 66 (by decide)) (er 69 (by decide)) (fun j h1 h2 => e68 j (by omega))) (p_S hS (fun a h1 h2 => er a (mem_rng (lo := 57) (hi := 65) rfl h1 (by omega))) (er 75 (by decide)) (er 76 (by decide)) (er 77 (by decide))) (p_Tn hTn (F _ _ rfl) (F _ _ rfl)) (p_T hT (F _ _ rfl) (F _ _ rfl) (er 3 (by decide)) (er 71 (by decide))) (p_A hA (er 31 (by decide)) (er 66 (by decide)))⟩
theorem n_logged {b : Bool} {J : am_J} {K : am_K} {x y : Int} (s : Sim b J K) (hx0 : am_i32 x) (hy0 : am_i32 y) : ∃ r J' J2, f_UpRiver_logged b x y J = some (r, J') ∧ f_UpRiverModel_logged x y J' = some (r, J2) ∧ am_i32 r ∧ Sim b J2 K := by
  have s0 := s
  obtain ⟨hr, hk, hV, hB, hL, hW, hI, hS, hTn, hT, hA, hQ, hF⟩ := s
  obtain ⟨r, J', J2, u1, u2, u3, gL⟩ := e_logged hr hL hx0 hy0
  have F1 : fr _ J J' := fun a j hw => frJ_UpRiver_logged u1 hw
  have F2 : fr _ J' J2 := fun a j hw => frJ_UpRiverModel_logged u2 hw
  have F := fr_two F1 F2
  have er : ∀ c, c ∈ [18, 22, 23, 43, 44, 45, 46, 47, 48, 49, 50, 51, 52, 53, 54, 55, 56, 66, 69, 57, 58, 59, 60, 61, 62, 63, 64, 75, 76, 77, 3, 71, 31] → J2 c = J c := fun c hc => fr_row F rfl hc
  have r68 : J' 68 = J 68 := fr_row F1 (L := [68]) rfl (by decide)
  have h6 : lgP J' J' := ⟨eq68_rf _ _ _, by rw [r68, ← hL.1]; exact ⟨hL.2.1, hL.2.2.1⟩⟩
  have e68 : eq68 6 31 J J2 := fun j hj => ((k_logged h6 _ u2).1 j hj).trans (congrFun r68 j)
  exact ⟨r, J', J2, u1, u2, u3, sim_of s0 F K_same rfl ((F _ _ rfl).trans hr.2.2) (p_B hB (er 18 (by decide)) (fun j h => e68 j (by omega))) gL (p_W hW (er 22 (by decide)) (er 23 (by decide)) (fun j h1 h2 => e68 j (by omega))) (p_I hI (fun a h1 h2 => er a (mem_rng (lo := 43) (hi := 57) rfl h1 (by omega))) (er 66 (by decide)) (er 69 (by decide)) (fun j h1 h2 => e68 j (by omega))) (p_S hS (fun a h1 h2 => er a (mem_rng (lo := 57) (hi := 65) rfl h1 (by omega))) (er 75 (by decide)) (er 76 (by decide)) (er 77 (by decide))) (p_Tn hTn (F _ _ rfl) (F _ _ rfl)) (p_T hT (F _ _ rfl) (F _ _ rfl) (er 3 (by decide)) (er 71 (by decide))) (p_A hA (er 31 (by decide)) (er 66 (by decide)))⟩
theorem n_read {b : Bool} {J : am_J} {K : am_K} {x y z t : Int} (s : Sim b J K) (hx0 : am_i32 x) (hy0 : am_i32 y) (hz0 : am_i32 z) (ht0 : am_i32 t) : ∃ r J' J2, f_UpRiver_read b x y z t J = some (r, J') ∧ f_UpRiverModel_read x y z t J' = some (r, J2) ∧ am_i32 r ∧ Sim b J2 K := by
  have s0 := s
  obtain ⟨hr, hk, hV, hB, hL, hW, hI, hS, hTn, hT, hA, hQ, hF⟩ := s
  obtain ⟨r, J', J2, u1, u2, u3, gL, gTn⟩ := e_read hr hL hS hTn hx0 hy0 hz0 ht0
  have F1 : fr _ J J' := fun a j hw => frJ_UpRiver_read u1 hw
  have F2 : fr _ J' J2 := fun a j hw => frJ_UpRiverModel_read u2 hw
  have F := fr_two F1 F2
  have er : ∀ c, c ∈ [18, 22, 23, 43, 44, 45, 46, 47, 48, 49, 50, 51, 52, 53, 54, 55, 56, 66, 69, 57, 58, 59, 60, 61, 62, 63, 64, 75, 76, 77, 3, 71, 31] → J2 c = J c := fun c hc => fr_row F rfl hc
  have r68 : J' 68 = J 68 := fr_row F1 (L := [68]) rfl (by decide)
  have h6 : 0 ≤ J' 68 6 ∧ J' 68 6 ≤ 12 := by rw [r68, ← hL.1]; exact ⟨hL.2.1, hL.2.2.1⟩
  have e68 : eq68 6 31 J J2 := fun j hj => ((k_read h6 _ u2).1 j hj).trans (congrFun r68 j)
  exact ⟨r, J', J2, u1, u2, u3, sim_of s0 F K_same rfl ((F _ _ rfl).trans hr.2.2) (p_B hB (er 18 (by decide)) (fun j h => e68 j (by omega))) gL (p_W hW (er 22 (by decide)) (er 23 (by decide)) (fun j h1 h2 => e68 j (by omega))) (p_I hI (fun a h1 h2 => er a (mem_rng (lo := 43) (hi := 57) rfl h1 (by omega))) (er 66 (by decide)) (er 69 (by decide)) (fun j h1 h2 => e68 j (by omega))) (p_S hS (fun a h1 h2 => er a (mem_rng (lo := 57) (hi := 65) rfl h1 (by omega))) (er 75 (by decide)) (er 76 (by decide)) (er 77 (by decide))) gTn (p_T hT (F _ _ rfl) (F _ _ rfl) (er 3 (by decide)) (er 71 (by decide))) (p_A hA (er 31 (by decide)) (er 66 (by decide)))⟩
theorem n_keep {b : Bool} {J : am_J} {K : am_K} {x : Int} (s : Sim b J K) (hx0 : am_i32 x) : ∃ r J' J2, f_UpRiver_keep  x J = some (r, J') ∧ f_UpRiverModel_keep x J' = some (r, J2) ∧ am_i32 r ∧ Sim b J2 K := by
  have s0 := s
  obtain ⟨hr, hk, hV, hB, hL, hW, hI, hS, hTn, hT, hA, hQ, hF⟩ := s
  obtain ⟨r, J', J2, u1, u2, u3, gv, gI⟩ := e_keep (vo_pieces.mpr ⟨hB, hL, hW⟩) hI hx0
  have F1 : fr _ J J' := fun a j hw => frJ_UpRiver_keep u1 hw
  have F2 : fr _ J' J2 := fun a j hw => frJ_UpRiverModel_keep u2 hw
  have F := fr_two F1 F2
  obtain ⟨gB, gL, gW⟩ := vo_pieces.mp gv
  have er : ∀ c, c ∈ [57, 58, 59, 60, 61, 62, 63, 64, 75, 76, 77, 3, 71, 31, 66] → J2 c = J c := fun c hc => fr_row F rfl hc
  exact ⟨r, J', J2, u1, u2, u3, sim_of s0 F K_same rfl ((F _ _ rfl).trans hr.2.2) gB gL gW gI (p_S hS (fun a h1 h2 => er a (mem_rng (lo := 57) (hi := 65) rfl h1 (by omega))) (er 75 (by decide)) (er 76 (by decide)) (er 77 (by decide))) (p_Tn hTn (F _ _ rfl) (F _ _ rfl)) (p_T hT (F _ _ rfl) (F _ _ rfl) (er 3 (by decide)) (er 71 (by decide))) (p_A hA (er 31 (by decide)) (er 66 (by decide)))⟩
theorem n_back {b : Bool} {J : am_J} {K : am_K} {x : Int} (s : Sim b J K) (hx0 : am_i32 x) : ∃ r J' J2, f_UpRiver_back  x J = some (r, J') ∧ f_UpRiverModel_back x J' = some (r, J2) ∧ am_i32 r ∧ Sim b J2 K := by
  have s0 := s
  obtain ⟨hr, hk, hV, hB, hL, hW, hI, hS, hTn, hT, hA, hQ, hF⟩ := s
  obtain ⟨r, J', J2, u1, u2, u3, gv, gI⟩ := e_back (vo_pieces.mpr ⟨hB, hL, hW⟩) hI hx0
  have F1 : fr _ J J' := fun a j hw => frJ_UpRiver_back u1 hw
  have F2 : fr _ J' J2 := fun a j hw => frJ_UpRiverModel_back u2 hw
  have F := fr_two F1 F2
  obtain ⟨gB, gL, gW⟩ := vo_pieces.mp gv
  have er : ∀ c, c ∈ [57, 58, 59, 60, 61, 62, 63, 64, 75, 76, 77, 3, 71, 31, 66] → J2 c = J c := fun c hc => fr_row F rfl hc
  exact ⟨r, J', J2, u1, u2, u3, sim_of s0 F K_same rfl ((F _ _ rfl).trans hr.2.2) gB gL gW gI (p_S hS (fun a h1 h2 => er a (mem_rng (lo := 57) (hi := 65) rfl h1 (by omega))) (er 75 (by decide)) (er 76 (by decide)) (er 77 (by decide))) (p_Tn hTn (F _ _ rfl) (F _ _ rfl)) (p_T hT (F _ _ rfl) (F _ _ rfl) (er 3 (by decide)) (er 71 (by decide))) (p_A hA (er 31 (by decide)) (er 66 (by decide)))⟩
theorem n_feed {b : Bool} {J : am_J} {K : am_K} {y : Int64} (s : Sim b J K) : ∃ r J' J2, f_UpRiver_feed  y J = some (r, J') ∧ f_UpRiverModel_feed y J' = some (r, J2) ∧ am_i32 r ∧ Sim b J2 K := by
  have s0 := s
  obtain ⟨hr, hk, hV, hB, hL, hW, hI, hS, hTn, hT, hA, hQ, hF⟩ := s
  obtain ⟨r, J', J2, u1, u2, u3, gT⟩ := e_feed hT 
  have F1 : fr _ J J' := fun a j hw => frJ_UpRiver_feed u1 hw
  have F2 : fr _ J' J2 := fun a j hw => frJ_UpRiverModel_feed u2 hw
  have F := fr_two F1 F2
  have er : ∀ c, c ∈ [18, 19, 20, 21, 66, 22, 23, 43, 44, 45, 46, 47, 48, 49, 50, 51, 52, 53, 54, 55, 56, 69, 57, 58, 59, 60, 61, 62, 63, 64, 75, 76, 77, 31, 68] → J2 c = J c := fun c hc => fr_row F rfl hc
  have e68 : eq68 0 0 J J2 := fun j _ => congrFun (er 68 (by decide)) j
  exact ⟨r, J', J2, u1, u2, u3, sim_of s0 F K_same rfl ((F _ _ rfl).trans hr.2.2) (p_B hB (er 18 (by decide)) (fun j h => e68 j (by omega))) (p_L hL (er 19 (by decide)) (er 20 (by decide)) (er 21 (by decide)) (er 66 (by decide)) (fun j h1 h2 => e68 j (by omega))) (p_W hW (er 22 (by decide)) (er 23 (by decide)) (fun j h1 h2 => e68 j (by omega))) (p_I hI (fun a h1 h2 => er a (mem_rng (lo := 43) (hi := 57) rfl h1 (by omega))) (er 66 (by decide)) (er 69 (by decide)) (fun j h1 h2 => e68 j (by omega))) (p_S hS (fun a h1 h2 => er a (mem_rng (lo := 57) (hi := 65) rfl h1 (by omega))) (er 75 (by decide)) (er 76 (by decide)) (er 77 (by decide))) (p_Tn hTn (F _ _ rfl) (F _ _ rfl)) gT (p_A hA (er 31 (by decide)) (er 66 (by decide)))⟩
theorem n_end {b : Bool} {J : am_J} {K : am_K} {x : Int} (s : Sim b J K) (hx0 : am_i32 x) : ∃ r J' J2, f_UpRiver_end  x J = some (r, J') ∧ f_UpRiverModel_end x J' = some (r, J2) ∧ am_i32 r ∧ Sim b J2 K := by
  have s0 := s
  obtain ⟨hr, hk, hV, hB, hL, hW, hI, hS, hTn, hT, hA, hQ, hF⟩ := s
  obtain ⟨r, J', J2, u1, u2, u3, gT⟩ := e_end hT hx0
  have F1 : fr _ J J' := fun a j hw => frJ_UpRiver_end u1 hw
  have F2 : fr _ J' J2 := fun a j hw => frJ_UpRiverModel_end u2 hw
  have F := fr_two F1 F2
  have er : ∀ c, c ∈ [18, 19, 20, 21, 66, 22, 23, 43, 44, 45, 46, 47, 48, 49, 50, 51, 52, 53, 54, 55, 56, 69, 57, 58, 59, 60, 61, 62, 63, 64, 75, 76, 77, 31, 68] → J2 c = J c := fun c hc => fr_row F rfl hc
  have e68 : eq68 0 0 J J2 := fun j _ => congrFun (er 68 (by decide)) j
  exact ⟨r, J', J2, u1, u2, u3, sim_of s0 F K_same rfl ((F _ _ rfl).trans hr.2.2) (p_B hB (er 18 (by decide)) (fun j h => e68 j (by omega))) (p_L hL (er 19 (by decide)) (er 20 (by decide)) (er 21 (by decide)) (er 66 (by decide)) (fun j h1 h2 => e68 j (by omega))) (p_W hW (er 22 (by decide)) (er 23 (by decide)) (fun j h1 h2 => e68 j (by omega))) (p_I hI (fun a h1 h2 => er a (mem_rng (lo := 43) (hi := 57) rfl h1 (by omega))) (er 66 (by decide)) (er 69 (by decide)) (fun j h1 h2 => e68 j (by omega))) (p_S hS (fun a h1 h2 => er a (mem_rng (lo := 57) (hi := 65) rfl h1 (by omega))) (er 75 (by decide)) (er 76 (by decide)) (er 77 (by decide))) (p_Tn hTn (F _ _ rfl) (F _ _ rfl)) gT (p_A hA (er 31 (by decide)) (er 66 (by decide)))⟩
theorem n_sheet {b : Bool} {J : am_J} {K : am_K} {x y z : Int} (s : Sim b J K) (hx0 : am_i32 x) (hy0 : am_i32 y) (hz0 : am_i32 z) : ∃ r J' J2, f_UpRiver_sheet  x y z J = some (r, J') ∧ f_UpRiverModel_sheet x y z J' = some (r, J2) ∧ am_i32 r ∧ Sim b J2 K := by
  have s0 := s
  obtain ⟨hr, hk, hV, hB, hL, hW, hI, hS, hTn, hT, hA, hQ, hF⟩ := s
  obtain ⟨r, J', J2, u1, u2, u3, gS⟩ := e_sheet hS hx0 hy0 hz0
  have F1 : fr _ J J' := fun a j hw => frJ_UpRiver_sheet u1 hw
  have F2 : fr _ J' J2 := fun a j hw => frJ_UpRiverModel_sheet u2 hw
  have F := fr_two F1 F2
  have er : ∀ c, c ∈ [18, 19, 20, 21, 66, 22, 23, 43, 44, 45, 46, 47, 48, 49, 50, 51, 52, 53, 54, 55, 56, 69, 3, 71, 31, 68] → J2 c = J c := fun c hc => fr_row F rfl hc
  have e68 : eq68 0 0 J J2 := fun j _ => congrFun (er 68 (by decide)) j
  exact ⟨r, J', J2, u1, u2, u3, sim_of s0 F K_same rfl ((F _ _ rfl).trans hr.2.2) (p_B hB (er 18 (by decide)) (fun j h => e68 j (by omega))) (p_L hL (er 19 (by decide)) (er 20 (by decide)) (er 21 (by decide)) (er 66 (by decide)) (fun j h1 h2 => e68 j (by omega))) (p_W hW (er 22 (by decide)) (er 23 (by decide)) (fun j h1 h2 => e68 j (by omega))) (p_I hI (fun a h1 h2 => er a (mem_rng (lo := 43) (hi := 57) rfl h1 (by omega))) (er 66 (by decide)) (er 69 (by decide)) (fun j h1 h2 => e68 j (by omega))) gS (p_Tn hTn (F _ _ rfl) (F _ _ rfl)) (p_T hT (F _ _ rfl) (F _ _ rfl) (er 3 (by decide)) (er 71 (by decide))) (p_A hA (er 31 (by decide)) (er 66 (by decide)))⟩
theorem n_lay {b : Bool} {J : am_J} {K : am_K} {x y z : Int} (s : Sim b J K) (hx0 : am_i32 x) (hy0 : am_i32 y) (hz0 : am_i32 z) : ∃ r J' J2, f_UpRiver_lay  x y z J = some (r, J') ∧ f_UpRiverModel_lay x y z J' = some (r, J2) ∧ am_i32 r ∧ Sim b J2 K := by
  have s0 := s
  obtain ⟨hr, hk, hV, hB, hL, hW, hI, hS, hTn, hT, hA, hQ, hF⟩ := s
  obtain ⟨r, J', J2, u1, u2, u3, gS⟩ := e_lay hS hx0 hy0 hz0
  have F1 : fr _ J J' := fun a j hw => frJ_UpRiver_lay u1 hw
  have F2 : fr _ J' J2 := fun a j hw => frJ_UpRiverModel_lay u2 hw
  have F := fr_two F1 F2
  have er : ∀ c, c ∈ [18, 19, 20, 21, 66, 22, 23, 43, 44, 45, 46, 47, 48, 49, 50, 51, 52, 53, 54, 55, 56, 69, 3, 71, 31, 68] → J2 c = J c := fun c hc => fr_row F rfl hc
  have e68 : eq68 0 0 J J2 := fun j _ => congrFun (er 68 (by decide)) j
  exact ⟨r, J', J2, u1, u2, u3, sim_of s0 F K_same rfl ((F _ _ rfl).trans hr.2.2) (p_B hB (er 18 (by decide)) (fun j h => e68 j (by omega))) (p_L hL (er 19 (by decide)) (er 20 (by decide)) (er 21 (by decide)) (er 66 (by decide)) (fun j h1 h2 => e68 j (by omega))) (p_W hW (er 22 (by decide)) (er 23 (by decide)) (fun j h1 h2 => e68 j (by omega))) (p_I hI (fun a h1 h2 => er a (mem_rng (lo := 43) (hi := 57) rfl h1 (by omega))) (er 66 (by decide)) (er 69 (by decide)) (fun j h1 h2 => e68 j (by omega))) gS (p_Tn hTn (F _ _ rfl) (F _ _ rfl)) (p_T hT (F _ _ rfl) (F _ _ rfl) (er 3 (by decide)) (er 71 (by decide))) (p_A hA (er 31 (by decide)) (er 66 (by decide)))⟩
theorem n_soonest {b : Bool} {J : am_J} {K : am_K} (s : Sim b J K) : ∃ r J' K' J2, f_UpRiver_soonest b  J K = some (r, J', K') ∧ f_UpRiverModel_soonest  J' = some (r, J2) ∧ am_i32 r ∧ Sim b J2 K' := by
  have s0 := s
  obtain ⟨hr, hk, hV, hB, hL, hW, hI, hS, hTn, hT, hA, hQ, hF⟩ := s
  obtain ⟨r, J', K', J2, u1, u2, u3⟩ := e_soonest hr hk hB 
  have F1 : fr _ J J' := fun a j hw => frJ_UpRiver_soonest u1 hw
  have F2 : fr _ J' J2 := fun a j hw => frJ_UpRiverModel_soonest u2 hw
  have F := fr_two F1 F2
  have er : ∀ c, c ∈ [18, 19, 20, 21, 66, 22, 23, 43, 44, 45, 46, 47, 48, 49, 50, 51, 52, 53, 54, 55, 56, 69, 57, 58, 59, 60, 61, 62, 63, 64, 75, 76, 77, 3, 71, 31, 68] → J2 c = J c := fun c hc => fr_row F rfl hc
  have e68 : eq68 0 0 J J2 := fun j _ => congrFun (er 68 (by decide)) j
  exact ⟨r, J', K', J2, u1, u2, u3, sim_of s0 F (fun a j hw => frK_UpRiver_soonest u1 hw) rfl ((F _ _ rfl).trans hr.2.2) (p_B hB (er 18 (by decide)) (fun j h => e68 j (by omega))) (p_L hL (er 19 (by decide)) (er 20 (by decide)) (er 21 (by decide)) (er 66 (by decide)) (fun j h1 h2 => e68 j (by omega))) (p_W hW (er 22 (by decide)) (er 23 (by decide)) (fun j h1 h2 => e68 j (by omega))) (p_I hI (fun a h1 h2 => er a (mem_rng (lo := 43) (hi := 57) rfl h1 (by omega))) (er 66 (by decide)) (er 69 (by decide)) (fun j h1 h2 => e68 j (by omega))) (p_S hS (fun a h1 h2 => er a (mem_rng (lo := 57) (hi := 65) rfl h1 (by omega))) (er 75 (by decide)) (er 76 (by decide)) (er 77 (by decide))) (p_Tn hTn (F _ _ rfl) (F _ _ rfl)) (p_T hT (F _ _ rfl) (F _ _ rfl) (er 3 (by decide)) (er 71 (by decide))) (p_A hA (er 31 (by decide)) (er 66 (by decide)))⟩
theorem n_only {b : Bool} {J : am_J} {K : am_K} {x y : Int} (s : Sim b J K) (hx0 : am_i32 x) (hy0 : am_i32 y) : ∃ r J' K' J2, f_UpRiver_only b x y J K = some (r, J', K') ∧ f_UpRiverModel_only x y J' = some (r, J2) ∧ am_i32 r ∧ Sim b J2 K' := by
  have s0 := s
  obtain ⟨hr, hk, hV, hB, hL, hW, hI, hS, hTn, hT, hA, hQ, hF⟩ := s
  obtain ⟨r, J', K', J2, u1, u2, u3⟩ := e_only hr hk hB hx0 hy0
  have F1 : fr _ J J' := fun a j hw => frJ_UpRiver_only u1 hw
  have F2 : fr _ J' J2 := fun a j hw => frJ_UpRiverModel_only u2 hw
  have F := fr_two F1 F2
  have er : ∀ c, c ∈ [18, 19, 20, 21, 66, 22, 23, 43, 44, 45, 46, 47, 48, 49, 50, 51, 52, 53, 54, 55, 56, 69, 57, 58, 59, 60, 61, 62, 63, 64, 75, 76, 77, 3, 71, 31, 68] → J2 c = J c := fun c hc => fr_row F rfl hc
  have e68 : eq68 0 0 J J2 := fun j _ => congrFun (er 68 (by decide)) j
  exact ⟨r, J', K', J2, u1, u2, u3, sim_of s0 F (fun a j hw => frK_UpRiver_only u1 hw) rfl ((F _ _ rfl).trans hr.2.2) (p_B hB (er 18 (by decide)) (fun j h => e68 j (by omega))) (p_L hL (er 19 (by decide)) (er 20 (by decide)) (er 21 (by decide)) (er 66 (by decide)) (fun j h1 h2 => e68 j (by omega))) (p_W hW (er 22 (by decide)) (er 23 (by decide)) (fun j h1 h2 => e68 j (by omega))) (p_I hI (fun a h1 h2 => er a (mem_rng (lo := 43) (hi := 57) rfl h1 (by omega))) (er 66 (by decide)) (er 69 (by decide)) (fun j h1 h2 => e68 j (by omega))) (p_S hS (fun a h1 h2 => er a (mem_rng (lo := 57) (hi := 65) rfl h1 (by omega))) (er 75 (by decide)) (er 76 (by decide)) (er 77 (by decide))) (p_Tn hTn (F _ _ rfl) (F _ _ rfl)) (p_T hT (F _ _ rfl) (F _ _ rfl) (er 3 (by decide)) (er 71 (by decide))) (p_A hA (er 31 (by decide)) (er 66 (by decide)))⟩
theorem n_first {b : Bool} {J : am_J} {K : am_K} (s : Sim b J K) : ∃ r J' K' J2, f_UpRiver_first b  J K = some (r, J', K') ∧ f_UpRiverModel_first  J' = some (r, J2) ∧ am_i32 r ∧ Sim b J2 K' := by
  have s0 := s
  obtain ⟨hr, hk, hV, hB, hL, hW, hI, hS, hTn, hT, hA, hQ, hF⟩ := s
  obtain ⟨r, J', K', J2, u1, u2, u3⟩ := e_first hr hk hB 
  have F1 : fr _ J J' := fun a j hw => frJ_UpRiver_first u1 hw
  have F2 : fr _ J' J2 := fun a j hw => frJ_UpRiverModel_first u2 hw
  have F := fr_two F1 F2
  have er : ∀ c, c ∈ [18, 19, 20, 21, 66, 22, 23, 43, 44, 45, 46, 47, 48, 49, 50, 51, 52, 53, 54, 55, 56, 69, 57, 58, 59, 60, 61, 62, 63, 64, 75, 76, 77, 3, 71, 31, 68] → J2 c = J c := fun c hc => fr_row F rfl hc
  have e68 : eq68 0 0 J J2 := fun j _ => congrFun (er 68 (by decide)) j
  exact ⟨r, J', K', J2, u1, u2, u3, sim_of s0 F (fun a j hw => frK_UpRiver_first u1 hw) rfl ((F _ _ rfl).trans hr.2.2) (p_B hB (er 18 (by decide)) (fun j h => e68 j (by omega))) (p_L hL (er 19 (by decide)) (er 20 (by decide)) (er 21 (by decide)) (er 66 (by decide)) (fun j h1 h2 => e68 j (by omega))) (p_W hW (er 22 (by decide)) (er 23 (by decide)) (fun j h1 h2 => e68 j (by omega))) (p_I hI (fun a h1 h2 => er a (mem_rng (lo := 43) (hi := 57) rfl h1 (by omega))) (er 66 (by decide)) (er 69 (by decide)) (fun j h1 h2 => e68 j (by omega))) (p_S hS (fun a h1 h2 => er a (mem_rng (lo := 57) (hi := 65) rfl h1 (by omega))) (er 75 (by decide)) (er 76 (by decide)) (er 77 (by decide))) (p_Tn hTn (F _ _ rfl) (F _ _ rfl)) (p_T hT (F _ _ rfl) (F _ _ rfl) (er 3 (by decide)) (er 71 (by decide))) (p_A hA (er 31 (by decide)) (er 66 (by decide)))⟩
theorem n_lost {b : Bool} {J : am_J} {K : am_K} {x : Int} (s : Sim b J K) (hx0 : am_i32 x) : ∃ r J' K' J2, f_UpRiver_lost b x J K = some (r, J', K') ∧ f_UpRiverModel_lost x J' = some (r, J2) ∧ am_i32 r ∧ Sim b J2 K' := by
  have s0 := s
  obtain ⟨hr, hk, hV, hB, hL, hW, hI, hS, hTn, hT, hA, hQ, hF⟩ := s
  obtain ⟨r, J', K', J2, u1, u2, u3⟩ := e_lost hr hk hL hx0
  have F1 : fr _ J J' := fun a j hw => frJ_UpRiver_lost u1 hw
  have F2 : fr _ J' J2 := fun a j hw => frJ_UpRiverModel_lost u2 hw
  have F := fr_two F1 F2
  have er : ∀ c, c ∈ [18, 19, 20, 21, 66, 22, 23, 43, 44, 45, 46, 47, 48, 49, 50, 51, 52, 53, 54, 55, 56, 69, 57, 58, 59, 60, 61, 62, 63, 64, 75, 76, 77, 3, 71, 31, 68] → J2 c = J c := fun c hc => fr_row F rfl hc
  have e68 : eq68 0 0 J J2 := fun j _ => congrFun (er 68 (by decide)) j
  exact ⟨r, J', K', J2, u1, u2, u3, sim_of s0 F (fun a j hw => frK_UpRiver_lost u1 hw) rfl ((F _ _ rfl).trans hr.2.2) (p_B hB (er 18 (by decide)) (fun j h => e68 j (by omega))) (p_L hL (er 19 (by decide)) (er 20 (by decide)) (er 21 (by decide)) (er 66 (by decide)) (fun j h1 h2 => e68 j (by omega))) (p_W hW (er 22 (by decide)) (er 23 (by decide)) (fun j h1 h2 => e68 j (by omega))) (p_I hI (fun a h1 h2 => er a (mem_rng (lo := 43) (hi := 57) rfl h1 (by omega))) (er 66 (by decide)) (er 69 (by decide)) (fun j h1 h2 => e68 j (by omega))) (p_S hS (fun a h1 h2 => er a (mem_rng (lo := 57) (hi := 65) rfl h1 (by omega))) (er 75 (by decide)) (er 76 (by decide)) (er 77 (by decide))) (p_Tn hTn (F _ _ rfl) (F _ _ rfl)) (p_T hT (F _ _ rfl) (F _ _ rfl) (er 3 (by decide)) (er 71 (by decide))) (p_A hA (er 31 (by decide)) (er 66 (by decide)))⟩
theorem n_loses {b : Bool} {J : am_J} {K : am_K} {x y : Int} (s : Sim b J K) (hx0 : am_i32 x) (hy0 : am_i32 y) : ∃ r J' K' J2, f_UpRiver_loses b x y J K = some (r, J', K') ∧ f_UpRiverModel_loses x y J' = some (r, J2) ∧ am_i32 r ∧ Sim b J2 K' := by
  have s0 := s
  obtain ⟨hr, hk, hV, hB, hL, hW, hI, hS, hTn, hT, hA, hQ, hF⟩ := s
  obtain ⟨r, J', K', J2, u1, u2, u3⟩ := e_loses hr hk hB hx0 hy0
  have F1 : fr _ J J' := fun a j hw => frJ_UpRiver_loses u1 hw
  have F2 : fr _ J' J2 := fun a j hw => frJ_UpRiverModel_loses u2 hw
  have F := fr_two F1 F2
  have er : ∀ c, c ∈ [18, 19, 20, 21, 66, 22, 23, 43, 44, 45, 46, 47, 48, 49, 50, 51, 52, 53, 54, 55, 56, 69, 57, 58, 59, 60, 61, 62, 63, 64, 75, 76, 77, 3, 71, 31, 68] → J2 c = J c := fun c hc => fr_row F rfl hc
  have e68 : eq68 0 0 J J2 := fun j _ => congrFun (er 68 (by decide)) j
  exact ⟨r, J', K', J2, u1, u2, u3, sim_of s0 F (fun a j hw => frK_UpRiver_loses u1 hw) rfl ((F _ _ rfl).trans hr.2.2) (p_B hB (er 18 (by decide)) (fun j h => e68 j (by omega))) (p_L hL (er 19 (by decide)) (er 20 (by decide)) (er 21 (by decide)) (er 66 (by decide)) (fun j h1 h2 => e68 j (by omega))) (p_W hW (er 22 (by decide)) (er 23 (by decide)) (fun j h1 h2 => e68 j (by omega))) (p_I hI (fun a h1 h2 => er a (mem_rng (lo := 43) (hi := 57) rfl h1 (by omega))) (er 66 (by decide)) (er 69 (by decide)) (fun j h1 h2 => e68 j (by omega))) (p_S hS (fun a h1 h2 => er a (mem_rng (lo := 57) (hi := 65) rfl h1 (by omega))) (er 75 (by decide)) (er 76 (by decide)) (er 77 (by decide))) (p_Tn hTn (F _ _ rfl) (F _ _ rfl)) (p_T hT (F _ _ rfl) (F _ _ rfl) (er 3 (by decide)) (er 71 (by decide))) (p_A hA (er 31 (by decide)) (er 66 (by decide)))⟩
theorem n_from {b : Bool} {J : am_J} {K : am_K} {x : Int} (s : Sim b J K) (hx0 : am_i32 x) : ∃ r J' K' J2, f_UpRiver_from b x J K = some (r, J', K') ∧ f_UpRiverModel_from x J' = some (r, J2) ∧ am_i32 r ∧ Sim b J2 K' := by
  have s0 := s
  obtain ⟨hr, hk, hV, hB, hL, hW, hI, hS, hTn, hT, hA, hQ, hF⟩ := s
  obtain ⟨r, J', K', J2, u1, u2, u3, gA⟩ := e_from hr hk hA hx0
  have F1 : fr _ J J' := fun a j hw => frJ_UpRiver_from u1 hw
  have F2 : fr _ J' J2 := fun a j hw => frJ_UpRiverModel_from u2 hw
  have F := fr_two F1 F2
  have er : ∀ c, c ∈ [18, 19, 20, 21, 66, 22, 23, 43, 44, 45, 46, 47, 48, 49, 50, 51, 52, 53, 54, 55, 56, 69, 57, 58, 59, 60, 61, 62, 63, 64, 75, 76, 77, 3, 71, 68] → J2 c = J c := fun c hc => fr_row F rfl hc
  have e68 : eq68 0 0 J J2 := fun j _ => congrFun (er 68 (by decide)) j
  exact ⟨r, J', K', J2, u1, u2, u3, sim_of s0 F (fun a j hw => frK_UpRiver_from u1 hw) rfl ((F _ _ rfl).trans hr.2.2) (p_B hB (er 18 (by decide)) (fun j h => e68 j (by omega))) (p_L hL (er 19 (by decide)) (er 20 (by decide)) (er 21 (by decide)) (er 66 (by decide)) (fun j h1 h2 => e68 j (by omega))) (p_W hW (er 22 (by decide)) (er 23 (by decide)) (fun j h1 h2 => e68 j (by omega))) (p_I hI (fun a h1 h2 => er a (mem_rng (lo := 43) (hi := 57) rfl h1 (by omega))) (er 66 (by decide)) (er 69 (by decide)) (fun j h1 h2 => e68 j (by omega))) (p_S hS (fun a h1 h2 => er a (mem_rng (lo := 57) (hi := 65) rfl h1 (by omega))) (er 75 (by decide)) (er 76 (by decide)) (er 77 (by decide))) (p_Tn hTn (F _ _ rfl) (F _ _ rfl)) (p_T hT (F _ _ rfl) (F _ _ rfl) (er 3 (by decide)) (er 71 (by decide))) gA⟩
theorem n_start {b : Bool} {J : am_J} {K : am_K} {x : Int} (s : Sim b J K) (hx0 : am_i32 x) : ∃ r J' K' J2, f_UpRiver_start b x J K = some (r, J', K') ∧ f_UpRiverModel_start x J' = some (r, J2) ∧ am_i32 r ∧ Sim b J2 K' := by
  have s0 := s
  obtain ⟨hr, hk, hV, hB, hL, hW, hI, hS, hTn, hT, hA, hQ, hF⟩ := s
  obtain ⟨r, J', K', J2, u1, u2, u3, gA⟩ := e_start hr hk hA hx0
  have F1 : fr _ J J' := fun a j hw => frJ_UpRiver_start u1 hw
  have F2 : fr _ J' J2 := fun a j hw => frJ_UpRiverModel_start u2 hw
  have F := fr_two F1 F2
  have er : ∀ c, c ∈ [18, 19, 20, 21, 66, 22, 23, 43, 44, 45, 46, 47, 48, 49, 50, 51, 52, 53, 54, 55, 56, 69, 57, 58, 59, 60, 61, 62, 63, 64, 75, 76, 77, 3, 71, 68] → J2 c = J c := fun c hc => fr_row F rfl hc
  have e68 : eq68 0 0 J J2 := fun j _ => congrFun (er 68 (by decide)) j
  exact ⟨r, J', K', J2, u1, u2, u3, sim_of s0 F (fun a j hw => frK_UpRiver_start u1 hw) rfl ((F _ _ rfl).trans hr.2.2) (p_B hB (er 18 (by decide)) (fun j h => e68 j (by omega))) (p_L hL (er 19 (by decide)) (er 20 (by decide)) (er 21 (by decide)) (er 66 (by decide)) (fun j h1 h2 => e68 j (by omega))) (p_W hW (er 22 (by decide)) (er 23 (by decide)) (fun j h1 h2 => e68 j (by omega))) (p_I hI (fun a h1 h2 => er a (mem_rng (lo := 43) (hi := 57) rfl h1 (by omega))) (er 66 (by decide)) (er 69 (by decide)) (fun j h1 h2 => e68 j (by omega))) (p_S hS (fun a h1 h2 => er a (mem_rng (lo := 57) (hi := 65) rfl h1 (by omega))) (er 75 (by decide)) (er 76 (by decide)) (er 77 (by decide))) (p_Tn hTn (F _ _ rfl) (F _ _ rfl)) (p_T hT (F _ _ rfl) (F _ _ rfl) (er 3 (by decide)) (er 71 (by decide))) gA⟩
theorem n_days {b : Bool} {J : am_J} {K : am_K} {x y z : Int} (s : Sim b J K) (hx0 : am_i32 x) (hy0 : am_i32 y) (hz0 : am_i32 z) : ∃ r J' K' J2, f_UpRiver_days b x y z J K = some (r, J', K') ∧ f_UpRiverModel_days x y z J' = some (r, J2) ∧ am_i32 r ∧ Sim b J2 K' := by
  have s0 := s
  obtain ⟨hr, hk, hV, hB, hL, hW, hI, hS, hTn, hT, hA, hQ, hF⟩ := s
  obtain ⟨r, J', K', J2, u1, u2, u3, g15⟩ := e_days hr hk hx0 hy0 hz0
  have F1 : fr _ J J' := fun a j hw => frJ_UpRiver_days u1 hw
  have F2 : fr _ J' J2 := fun a j hw => frJ_UpRiverModel_days u2 hw
  have F := fr_two F1 F2
  have er : ∀ c, c ∈ [18, 19, 20, 21, 66, 22, 23, 43, 44, 45, 46, 47, 48, 49, 50, 51, 52, 53, 54, 55, 56, 69, 57, 58, 59, 60, 61, 62, 63, 64, 75, 76, 77, 3, 71, 31, 68] → J2 c = J c := fun c hc => fr_row F rfl hc
  have e68 : eq68 0 0 J J2 := fun j _ => congrFun (er 68 (by decide)) j
  exact ⟨r, J', K', J2, u1, u2, u3, sim_of s0 F (fun a j hw => frK_UpRiver_days u1 hw) rfl g15 (p_B hB (er 18 (by decide)) (fun j h => e68 j (by omega))) (p_L hL (er 19 (by decide)) (er 20 (by decide)) (er 21 (by decide)) (er 66 (by decide)) (fun j h1 h2 => e68 j (by omega))) (p_W hW (er 22 (by decide)) (er 23 (by decide)) (fun j h1 h2 => e68 j (by omega))) (p_I hI (fun a h1 h2 => er a (mem_rng (lo := 43) (hi := 57) rfl h1 (by omega))) (er 66 (by decide)) (er 69 (by decide)) (fun j h1 h2 => e68 j (by omega))) (p_S hS (fun a h1 h2 => er a (mem_rng (lo := 57) (hi := 65) rfl h1 (by omega))) (er 75 (by decide)) (er 76 (by decide)) (er 77 (by decide))) (p_Tn hTn (F _ _ rfl) (F _ _ rfl)) (p_T hT (F _ _ rfl) (F _ _ rfl) (er 3 (by decide)) (er 71 (by decide))) (p_A hA (er 31 (by decide)) (er 66 (by decide)))⟩
theorem n_skipper {b : Bool} {J : am_J} {K : am_K} {x y z : Int} (s : Sim b J K) (hx0 : am_i32 x) (hy0 : am_i32 y) (hz0 : am_i32 z) : ∃ r J' J2, f_UpRiver_skipper b x y z J = some (r, J') ∧ f_UpRiverModel_skipper x y z J' = some (r, J2) ∧ am_i32 r ∧ Sim b J2 K := by
  have s0 := s
  obtain ⟨hr, hk, hV, hB, hL, hW, hI, hS, hTn, hT, hA, hQ, hF⟩ := s
  obtain ⟨r, J', J2, u1, u2, u3⟩ := e_skipper hr hB hx0 hy0 hz0
  have F1 : fr _ J J' := fun a j hw => frJ_UpRiver_skipper u1 hw
  have F2 : fr _ J' J2 := fun a j hw => frJ_UpRiverModel_skipper u2 hw
  have F := fr_two F1 F2
  have er : ∀ c, c ∈ [18, 19, 20, 21, 66, 22, 23, 43, 44, 45, 46, 47, 48, 49, 50, 51, 52, 53, 54, 55, 56, 69, 57, 58, 59, 60, 61, 62, 63, 64, 75, 76, 77, 3, 71, 31, 68] → J2 c = J c := fun c hc => fr_row F rfl hc
  have e68 : eq68 0 0 J J2 := fun j _ => congrFun (er 68 (by decide)) j
  exact ⟨r, J', J2, u1, u2, u3, sim_of s0 F K_same rfl ((F _ _ rfl).trans hr.2.2) (p_B hB (er 18 (by decide)) (fun j h => e68 j (by omega))) (p_L hL (er 19 (by decide)) (er 20 (by decide)) (er 21 (by decide)) (er 66 (by decide)) (fun j h1 h2 => e68 j (by omega))) (p_W hW (er 22 (by decide)) (er 23 (by decide)) (fun j h1 h2 => e68 j (by omega))) (p_I hI (fun a h1 h2 => er a (mem_rng (lo := 43) (hi := 57) rfl h1 (by omega))) (er 66 (by decide)) (er 69 (by decide)) (fun j h1 h2 => e68 j (by omega))) (p_S hS (fun a h1 h2 => er a (mem_rng (lo := 57) (hi := 65) rfl h1 (by omega))) (er 75 (by decide)) (er 76 (by decide)) (er 77 (by decide))) (p_Tn hTn (F _ _ rfl) (F _ _ rfl)) (p_T hT (F _ _ rfl) (F _ _ rfl) (er 3 (by decide)) (er 71 (by decide))) (p_A hA (er 31 (by decide)) (er 66 (by decide)))⟩
theorem n_best {b : Bool} {J : am_J} {K : am_K} {x y : Int} (s : Sim b J K) (hx0 : am_i32 x) (hy0 : am_i32 y) : ∃ r J' J2, f_UpRiver_best b x y J = some (r, J') ∧ f_UpRiverModel_best x y J' = some (r, J2) ∧ am_i32 r ∧ Sim b J2 K := by
  have s0 := s
  obtain ⟨hr, hk, hV, hB, hL, hW, hI, hS, hTn, hT, hA, hQ, hF⟩ := s
  obtain ⟨r, J', J2, u1, u2, u3⟩ := e_best hr hB hx0 hy0
  have F1 : fr _ J J' := fun a j hw => frJ_UpRiver_best u1 hw
  have F2 : fr _ J' J2 := fun a j hw => frJ_UpRiverModel_best u2 hw
  have F := fr_two F1 F2
  have er : ∀ c, c ∈ [18, 19, 20, 21, 66, 22, 23, 43, 44, 45, 46, 47, 48, 49, 50, 51, 52, 53, 54, 55, 56, 69, 57, 58, 59, 60, 61, 62, 63, 64, 75, 76, 77, 3, 71, 31, 68] → J2 c = J c := fun c hc => fr_row F rfl hc
  have e68 : eq68 0 0 J J2 := fun j _ => congrFun (er 68 (by decide)) j
  exact ⟨r, J', J2, u1, u2, u3, sim_of s0 F K_same rfl ((F _ _ rfl).trans hr.2.2) (p_B hB (er 18 (by decide)) (fun j h => e68 j (by omega))) (p_L hL (er 19 (by decide)) (er 20 (by decide)) (er 21 (by decide)) (er 66 (by decide)) (fun j h1 h2 => e68 j (by omega))) (p_W hW (er 22 (by decide)) (er 23 (by decide)) (fun j h1 h2 => e68 j (by omega))) (p_I hI (fun a h1 h2 => er a (mem_rng (lo := 43) (hi := 57) rfl h1 (by omega))) (er 66 (by decide)) (er 69 (by decide)) (fun j h1 h2 => e68 j (by omega))) (p_S hS (fun a h1 h2 => er a (mem_rng (lo := 57) (hi := 65) rfl h1 (by omega))) (er 75 (by decide)) (er 76 (by decide)) (er 77 (by decide))) (p_Tn hTn (F _ _ rfl) (F _ _ rfl)) (p_T hT (F _ _ rfl) (F _ _ rfl) (er 3 (by decide)) (er 71 (by decide))) (p_A hA (er 31 (by decide)) (er 66 (by decide)))⟩
theorem n_barge {b : Bool} {J : am_J} {K : am_K} {x y z t u : Int} (s : Sim b J K) (hx0 : am_i32 x) (hy0 : am_i32 y) (hz0 : am_i32 z) (ht0 : am_i32 t) (hu0 : am_i32 u) : ∃ r J' J2, f_UpRiver_barge b x y z t u J = some (r, J') ∧ f_UpRiverModel_barge x y z t u J' = some (r, J2) ∧ am_i32 r ∧ Sim b J2 K := by
  have s0 := s
  obtain ⟨hr, hk, hV, hB, hL, hW, hI, hS, hTn, hT, hA, hQ, hF⟩ := s
  obtain ⟨r, J', J2, u1, u2, u3⟩ := e_barge hr hB hx0 hy0 hz0 ht0 hu0
  have F1 : fr _ J J' := fun a j hw => frJ_UpRiver_barge u1 hw
  have F2 : fr _ J' J2 := fun a j hw => frJ_UpRiverModel_barge u2 hw
  have F := fr_two F1 F2
  have er : ∀ c, c ∈ [18, 19, 20, 21, 66, 22, 23, 43, 44, 45, 46, 47, 48, 49, 50, 51, 52, 53, 54, 55, 56, 69, 57, 58, 59, 60, 61, 62, 63, 64, 75, 76, 77, 3, 71, 31, 68] → J2 c = J c := fun c hc => fr_row F rfl hc
  have e68 : eq68 0 0 J J2 := fun j _ => congrFun (er 68 (by decide)) j
  exact ⟨r, J', J2, u1, u2, u3, sim_of s0 F K_same rfl ((F _ _ rfl).trans hr.2.2) (p_B hB (er 18 (by decide)) (fun j h => e68 j (by omega))) (p_L hL (er 19 (by decide)) (er 20 (by decide)) (er 21 (by decide)) (er 66 (by decide)) (fun j h1 h2 => e68 j (by omega))) (p_W hW (er 22 (by decide)) (er 23 (by decide)) (fun j h1 h2 => e68 j (by omega))) (p_I hI (fun a h1 h2 => er a (mem_rng (lo := 43) (hi := 57) rfl h1 (by omega))) (er 66 (by decide)) (er 69 (by decide)) (fun j h1 h2 => e68 j (by omega))) (p_S hS (fun a h1 h2 => er a (mem_rng (lo := 57) (hi := 65) rfl h1 (by omega))) (er 75 (by decide)) (er 76 (by decide)) (er 77 (by decide))) (p_Tn hTn (F _ _ rfl) (F _ _ rfl)) (p_T hT (F _ _ rfl) (F _ _ rfl) (er 3 (by decide)) (er 71 (by decide))) (p_A hA (er 31 (by decide)) (er 66 (by decide)))⟩
