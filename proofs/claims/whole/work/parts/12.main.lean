/-! cells are only added -/
def am_osh : am_O → am_Sh
  | .inl σ => σ.2.2.2.1
  | .inr (.inl q) => q.2.2.2.2.2.2.2.2.1
  | .inr (.inr r) => r.2.1
theorem am_go_sh {nx : Nat} {lv : am_L} {sh : am_Sh} {m : am_M} {x : Option (Bool × List am_V)} {q : am_G} (h : am_go nx lv sh m x = some q) : am_osh q.2 = sh := by
  unfold am_go at h
  split at h
  · cases h; rfl
  · cases h
set_option maxHeartbeats 4000000 in
theorem am_ins_sh {X : am_X} {i : Instr} {ps : List Nat} {k : Int} {kl : Int64} {nx : Nat} {lv : am_L} {st : List am_V} {sh : am_Sh} {m : am_M} {q : am_G} (h : am_ins X i ps k kl nx lv st sh m = some q) : ∃ t, am_osh q.2 = sh ++ t := by
  cases i <;> simp only [am_ins, Bool.cond_eq_ite] at h <;> first
    | (cases h; done)
    | exact ⟨[], by rw [am_go_sh h, List.append_nil]⟩
    | ((repeat' (first | (cases h; done) | split at h)) <;> (cases h; first | exact ⟨[], (List.append_nil _).symm⟩ | exact ⟨_, rfl⟩))
theorem am_exec_sh {X : am_X} : ∀ (n : Nat) (T : List am_Row) (σ : am_S) (r : am_R), am_exec X n T σ = some r → ∃ t, r.2.1 = σ.2.2.2.1 ++ t
  | 0, T, σ, r, h => by cases h
  | n + 1, T, σ, r, h => by
    unfold am_exec at h
    have step : ∀ q, am_step X T σ = some q → ∃ t, am_osh q.2 = σ.2.2.2.1 ++ t := by
      intro q hq
      unfold am_step at hq
      split at hq
      · exact am_ins_sh hq
      · cases hq
    split at h
    · rename_i σ' hs
      obtain ⟨t1, h1⟩ := step _ hs
      obtain ⟨t2, h2⟩ := am_exec_sh n T σ' r h
      refine ⟨t1 ++ t2, ?_⟩
      dsimp only [am_osh] at h1
      rw [h2, h1, List.append_assoc]
    · rename_i r' hs
      obtain ⟨t1, h1⟩ := step _ hs
      cases h
      exact ⟨t1, h1⟩
    · rename_i c as ml mc ms nx lv st sh m hs
      obtain ⟨t1, h1⟩ := step _ hs
      dsimp only [am_osh] at h1
      split at h
      · cases h
      · rename_i v sh' m' hc
        obtain ⟨t2, h2⟩ := am_exec_sh n _ _ _ hc
        dsimp only at h2
        split at h
        · obtain ⟨t3, h3⟩ := am_exec_sh n T _ r h
          dsimp only at h3
          exact ⟨t1 ++ (t2 ++ t3), by rw [h3, h2, h1]; simp⟩
        · cases h
    · cases h
def am_big (sh : am_Sh) : Prop := sh.length < 1000 ∧ ∀ q ∈ sh, q.2 ≤ 100000
theorem am_big_app {sh : am_Sh} {q : Nat × Nat} (h : am_big sh) (h1 : sh.length < 999) (h2 : q.2 ≤ 100000) : am_big (sh ++ [q]) := by
  refine ⟨by rw [List.length_append]; show sh.length + 1 < 1000; omega, fun x hx => ?_⟩
  rcases List.mem_append.mp hx with z | z
  · exact h.2 x z
  · rw [List.mem_singleton.mp z]; exact h2
set_option maxHeartbeats 4000000 in
theorem am_ins_big {X : am_X} {i : Instr} {ps : List Nat} {k : Int} {kl : Int64} {nx : Nat} {lv : am_L} {st : List am_V} {sh : am_Sh} {m : am_M} {o : am_O} (h : am_ins X i ps k kl nx lv st sh m = some (true, o)) (hb : am_big sh) : am_big (am_osh o) := by
  cases i with
  | new x =>
    simp only [am_ins] at h
    cases h9 : (Nat.blt sh.length 999 && Nat.ble (am_ps ps 1) 100000) with
    | false => rw [h9] at h; cases h
    | true =>
      rw [h9] at h
      rw [Bool.and_eq_true] at h9
      cases h
      exact am_big_app hb (am_blt h9.1) (Nat.le_of_ble_eq_true h9.2)
  | newarray x =>
    simp only [am_ins] at h
    split at h
    · cases h9 : Nat.blt sh.length 999 with
      | false => rw [h9] at h; cases h
      | true =>
        rw [h9] at h
        simp only [cond_true, Option.some.injEq, Prod.mk.injEq] at h
        have hg := of_decide_eq_true h.1
        rw [← h.2]
        exact am_big_app hb (am_blt h9) (by show Int.toNat _ ≤ _; omega)
    · cases h
  | anewarray x =>
    simp only [am_ins] at h
    split at h
    · cases h9 : Nat.blt sh.length 999 with
      | false => rw [h9] at h; cases h
      | true =>
        rw [h9] at h
        simp only [cond_true, Option.some.injEq, Prod.mk.injEq] at h
        have hg := of_decide_eq_true h.1
        rw [← h.2]
        exact am_big_app hb (am_blt h9) (by show Int.toNat _ ≤ _; omega)
    · cases h
  | _ =>
    simp only [am_ins, Bool.cond_eq_ite] at h <;> first
    | (cases h; done)
    | exact (am_go_sh h) ▸ hb
    | ((repeat' (first | (cases h; done) | split at h)) <;> first | (cases h; exact hb) | (simp only [Option.some.injEq, Prod.mk.injEq] at h; rw [← h.2]; exact hb))
theorem am_exec_big {X : am_X} : ∀ (n : Nat) (T : List am_Row) (σ : am_S) (r : am_R), am_exec X n T σ = some r → am_big σ.2.2.2.1 → am_big r.2.1
  | 0, T, σ, r, h, _ => by cases h
  | n + 1, T, σ, r, h, hb => by
    unfold am_exec at h
    have step : ∀ o, am_step X T σ = some (true, o) → am_big (am_osh o) := by
      intro q hq
      unfold am_step at hq
      split at hq
      · exact am_ins_big hq hb
      · cases hq
    split at h
    · rename_i σ' hs
      exact am_exec_big n T σ' r h (step _ hs)
    · rename_i r' hs
      have h1 := step _ hs
      cases h
      exact h1
    · rename_i c as ml mc ms nx lv st sh m hs
      have h1 := step _ hs
      split at h
      · cases h
      · rename_i v sh' m' hc
        have h2 := am_exec_big n _ _ _ hc h1
        split at h
        · exact am_exec_big n T _ r h h2
        · cases h
    · cases h
theorem am_tot_apps (a b : am_Sh) : am_tot (a ++ b) = am_tot a + am_tot b := by simp [am_tot]
/-! a method's contract -/
def am_Q (b : Nat) (ex : Nat → Nat) (aC : Nat → ClassId) (D : va_G) (r : am_R) : Array Value → State → Outcome → State → Prop := fun _ st oc t => oc = .returned (r.1.map (am_rn (am_ad b ex))) ∧ va_P D am_cl (am_ws b ex aC r.2.1 r.2.2) t.heap ∧ t.heap.size = b + r.2.1.length ∧ va_F (am_A b) st t
def am_B (b : Nat) (ex : Nat → Nat) (aC : Nat → ClassId) (D : va_G) (X : am_X) (sh : am_Sh) (mem : am_M) (U : State) : Prop := U.heap.size = b + sh.length ∧ va_P D am_cl (am_ws b ex aC sh mem) U.heap ∧ va_K D am_cl (am_tys aC) U ∧ am_E b ex X U U.heap
def am_ww (M : am_Me) : List Cond := Cond.code (am_mn M) (am_mb M) (am_mL M) (am_mr M) :: am_good
def am_rm' (M : am_Me) : Room := { frames := am_mf M, cells := am_mc M, slots := am_mz M, locals := am_ml M }
def am_Met (l : Launch) (b : Nat) (ex : Nat → Nat) (aC : Nat → ClassId) (D : va_G) (X : am_X) (n : Nat) : Prop :=
  ∀ (k : Nat) (M : am_Me), am_nth am_ms k = some M → plainFor (am_mn M) = true → ∀ (as : List am_V) (sh : am_Sh) (mem : am_M) (r : am_R), am_cats as ≤ am_mL M → am_exec X n (am_mt M) (0, am_largs 0 as, [], sh, mem) = some r → sh.length < 1000 → (∀ q ∈ sh, q.2 ≤ 100000) → r.2.1.length = sh.length + am_mc M → am_tot r.2.1 = am_tot sh + am_mz M →
    Met l (am_mn M) (am_ww M) (am_rm' M) (va_Pc (as.map (am_rn (am_ad b ex))) (am_B b ex aC D X sh mem)) (am_Q b ex aC D r) (am_mc M) (am_mz M) (am_A b)
theorem am_ofW {l : Launch} {y : MethodName} {ws ws' : List Cond} {rm : Room} {Pc : Array Value → State → Prop} {Qc : Array Value → State → Outcome → State → Prop} {mc ms : Nat} {free : Addr → Prop} {cc : ByteArray} {maxL : Nat} {ret : Option FieldType}
    (hy : plainFor y = true) (hw : ws = Cond.code y cc maxL ret :: ws')
    (body : ∀ p e s m args below meth c s₁, BodyLoose p l y (headSpec ws rm) cc maxL ret e s m args below meth c s₁ → c.maxLocals = maxL → Pc args s →
      W p l e (headSpec ws rm).room s m args below meth c s.heap [] 0 0 (MQ below Qc args s mc ms free) (entryFrame m args maxL)) : Met l y ws rm Pc Qc mc ms free := by
  refine MetFree.of_bodySF (code := cc) (maxLocals := maxL) (ret := ret) hy ?_ ?_
  · intro args s m h hn
    obtain ⟨meth, c, h1, h2, h3, h4, h5, h6, -, -⟩ := Cond.code_spec hn (atoms_spec (ws := ws) h _ (by rw [hw]; exact List.mem_cons_self))
    exact ⟨meth, c, h1, h2, h3, h4, h5, h6⟩
  · intro p e s m args below meth c s₁ B hml hP _
    have hh0 : s₁.heap = s.heap := by rw [B.state]; rfl
    obtain ⟨t, a1, o, b1, b2, b3⟩ := body p e s m args below meth c s₁ B hml hP s₁ hh0 (Stand.of_body B)
    exact ⟨t, o, a1, b1, b2, ⟨b3.1, b3.2⟩⟩
section AMC
variable {p : Program} {l : Launch} {e : Env} {R : Room} {s : State} {m : MethodId} {args : Array Value} {below : List Frame} {meth : Method} {c : Code} {Q : State → Prop}
variable {b : Nat} {ex : Nat → Nat} {aC : Nat → ClassId} {D : va_G} {X : am_X} {M : am_Me} {n0 t0 : Nat}
theorem am_blind {av : List Value} {sh : am_Sh} {mem : am_M} : FrameBlind (va_Pc av (am_B b ex aC D X sh mem)) := by
  intro a U g mk q
  obtain ⟨q0, q1, qP, qK, qE⟩ := q
  exact ⟨q0, q1, qP, va_K.moved (u := U) (U := U.calling g mk a) (Vm.Alike.refl U.vm) qK, am_E.vm (s := U) (U := U.calling g mk a) rfl qE⟩
theorem am_callW {H : Heap} {locs : List Loc} {cells slots mc ms pc : Nat} {ls : Array Slot} {st0 rest : List Value} {r : am_R} {a : Array Value} (hr : va_Run p l e R s m args below meth c H locs cells slots mc ms (F0 m pc ls st0) rest (am_Q b ex aC D r a) (am_A b)) (hS : va_S (am_A b) s.heap H locs)
    (kk : ∀ (H1 : Heap) (locs1 : List Loc), va_P D am_cl (am_ws b ex aC r.2.1 r.2.2) H1 → H1.size = b + r.2.1.length → va_S (am_A b) s.heap H1 locs1 → W p l e R s m args below meth c H1 locs1 (cells + mc) (slots + ms) Q (F0 m (pc + 3) ls ((r.1.map (am_rn (am_ad b ex))).toList ++ rest))) : W p l e R s m args below meth c H locs cells slots Q (F0 m pc ls st0) := by
  intro T hT Y
  obtain ⟨v, st₀, t, T', L, h0, X', hL, e1, e2, ⟨hv, hP, hz, hz1, hk⟩, st⟩ := hr T hT Y
  cases hv
  rw [h0] at hz1 hk
  obtain ⟨t2, a1, b1⟩ := kk T'.heap (locs ++ L) (by rw [e1]; exact hP) (by rw [e1]; exact hz)
    ⟨Nat.le_trans hS.1 (by rw [e1]; exact hz1), fun q h1 h2 => by rw [e1, hk q (Nat.lt_of_lt_of_le h1 hS.1) h2]; exact hS.2.1 q h1 h2, fun q hq => by
      rcases List.mem_append.mp hq with h | h
      · exact hS.2.2 q h
      · exact hL q h⟩ T' rfl X'
  exact ⟨t2, st t2 a1, b1⟩
theorem am_goodIn (w : Cond) {i : Nat} (h : am_wd i w = true) : GoodIn am_good (w :: am_good) := by
  intro x hx
  rcases List.mem_cons.mp hx with hx | hx
  · subst hx
    have h2 := h
    unfold am_wd at h2
    rw [Bool.and_eq_true] at h2
    exact ⟨am_wd_in h, good_of_word h2.2⟩
  · exact ⟨hx, good_of_word (List.mem_filter.mp hx).2⟩
/-- the callee's part of a check -/
theorem am_callee_inv {own : String} {idx : Nat} {ps : List Nat} {k : am_Me → Bool} (h : am_callee own M idx ps k = true) : ∃ N, am_nth am_ms (am_ps ps 0) = some N ∧ am_ps ps 2 = am_mL N ∧ am_ps ps 3 = am_mc N ∧ am_ps ps 4 = am_mz N ∧ am_mf N + 1 ≤ am_mf M ∧ 8 + (am_mL N + 11) + am_ml N ≤ am_ml M ∧ am_wd (am_ps ps 10) (.initialized (am_mn N).cls) = true ∧ am_wd (am_ps ps 11) (.code (am_mn N) (am_mb N) (am_mL N) (am_mr N)) = true
    ∧ ((bif Nat.beq (am_ps ps 7) 0 then am_wd (am_ps ps 6) (.methodLink own idx (am_mn N)) else am_wn (am_ps ps 6) (.methodLinkNest own idx (am_mn N) "UpRiver")) = true) ∧ ((am_mn N).cls ≠ "java/lang/invoke/MethodHandle" ∧ (am_mn N).cls ≠ "java/lang/invoke/VarHandle") ∧ plainFor (am_mn N) = true ∧ k N = true := by
  unfold am_callee at h
  split at h
  · rename_i N hN
    simp only [Bool.and_eq_true] at h
    obtain ⟨⟨⟨⟨⟨⟨⟨⟨⟨⟨h1, h2⟩, h3⟩, h4⟩, h5⟩, h6⟩, h7⟩, h8⟩, h9⟩, h10⟩, h11⟩ := h
    exact ⟨N, hN, Nat.eq_of_beq_eq_true h1, Nat.eq_of_beq_eq_true h2, Nat.eq_of_beq_eq_true h3, Nat.le_of_ble_eq_true h4, Nat.le_of_ble_eq_true h5, h6, h7, h8, of_decide_eq_true h9, h10, h11⟩
  · cases h
theorem am_T_nth {k : Nat} {N : am_Me} (h : am_nth am_ms k = some N) : am_T k = am_mt N := by
  unfold am_T
  rw [h]
theorem am_PcS {H : Heap} {as : List am_V} {sh : am_Sh} {mem : am_M} {locs : List Loc} (hK : va_K D am_cl (am_tys aC) s) (hE : am_E b ex X s s.heap) (hP : va_P D am_cl (am_ws b ex aC sh mem) H) (hz : H.size = b + sh.length) (hS : va_S (am_A b) s.heap H locs) : PreS s H (va_Pc (as.map (am_rn (am_ad b ex))) (am_B b ex aC D X sh mem)) (as.map (am_rn (am_ad b ex))) :=
  ⟨am_blind, fun U hU hW => ⟨rfl, by rw [hU]; exact hz, by rw [hU]; exact hP, va_K.moved hW.alike hK, by
    rw [hU]
    exact (hE.warm hW).kept (fun a h1 h2 => hS.2.1 a h1 h2)⟩⟩
/-- the call of a static method -/
theorem am_s_static {pc nx nn : Nat} {ps : List Nat} {k : Int} {kl : Int64} {lv lv' : am_L} {st st' : List am_V} {sh sh' : am_Sh} {mem mem' : am_M} {x cc mL mc ms nx' : Nat} {as : List am_V} {r : am_R} (hC : am_Ctx b ex aC D X M p R s m args meth c) (hd : decode (am_mb M) pc = .ok (.invokestatic x, nx - pc)) (hck : am_ckI M pc (.invokestatic x) ps k kl nx = true) (h : am_ins X (.invokestatic x) ps k kl nx lv st sh mem = some (true, .inr (.inl (cc, as, mL, mc, ms, nx', lv', st', sh', mem')))) (hM : am_Met l b ex aC D X nn) (hex : am_exec X nn (am_T cc) (0, am_largs 0 as, [], sh', mem') = some r) (hr1 : r.2.1.length = sh'.length + mc) (hr2 : am_tot r.2.1 = am_tot sh' + ms) (hn : n0 ≤ sh.length ∧ t0 ≤ am_tot sh) (hR : r.2.1.length - n0 ≤ R.cells ∧ am_tot r.2.1 - t0 ≤ R.slots) (hk : am_W p l e R s m args below meth c b ex aC D M n0 t0 Q (nx', lv', r.1.toList ++ st', r.2.1, r.2.2)) : am_W p l e R s m args below meth c b ex aC D M n0 t0 Q (pc, lv, st, sh, mem) := by
  obtain ⟨hx, hb, hml, hown, hts, hK, hE, hlk, hrt, hnm, hfr, hok, hbs⟩ := hC
  intro H locs ls hrel
  obtain ⟨hP, hz, hlen, hbig, hS, hl⟩ := hrel
  dsimp only at hP hz hlen hbig hl ⊢
  simp only [am_ckI, Bool.and_eq_true] at hck
  obtain ⟨c1, c2⟩ := hck
  have e2 := Nat.eq_of_beq_eq_true c2
  subst e2
  rw [show pc + 3 - pc = 3 by omega] at hd
  obtain ⟨N, hN, q2, q3, q4, q5, q6, q7, q8, q9, q10, q11, q12⟩ := am_callee_inv c1
  simp only [Bool.and_eq_true] at q12
  obtain ⟨w1, w2⟩ := q12
  simp only [am_ins] at h
  split at h
  · rename_i as0 st0 htk
    cases h8 : (Nat.ble (am_cats st0) 8 && Nat.ble (am_cats as0) (am_ps ps 2)) with
    | false => rw [h8] at h; cases h
    | true =>
      rw [h8] at h
      rw [Bool.and_eq_true] at h8
      simp only [cond_true, Option.some.injEq, Prod.mk.injEq, Sum.inr.injEq, Sum.inl.injEq, true_and] at h
      obtain ⟨rfl, rfl, rfl, rfl, rfl, rfl, rfl, rfl, rfl, rfl⟩ := h
      have h81 := Nat.le_of_ble_eq_true h8.1
      have h82 := Nat.le_of_ble_eq_true h8.2
      rw [q2] at h82
      rw [q3] at hr1
      rw [q4] at hr2
      rw [am_T_nth hN] at hex
      have hMet := hM _ N hN q11 as0 sh mem r h82 hex hlen hbig hr1 hr2
      obtain ⟨xs, x1, x2, x3⟩ := am_take_inv _ _ _ htk
      rw [List.append_nil] at x3
      subst x3
      have hstk : (F0 m pc ls (st.map (am_rn (am_ad b ex)))).stack = (as0.map (am_rn (am_ad b ex))).reverse ++ st0.map (am_rn (am_ad b ex)) := by
        show st.map (am_rn (am_ad b ex)) = _
        rw [x2]
        simp
      have hnp := of_decide_eq_true w2
      have hroom : am_mf N + 1 ≤ R.frames ∧ 8 + (am_mL N + 11) + am_ml N ≤ R.locals := ⟨by omega, by omega⟩
      have fin : va_Run p l e R s m args below meth c H locs (sh.length - n0) (am_tot sh - t0) (am_mc N) (am_mz N) (F0 m pc ls (st.map (am_rn (am_ad b ex)))) (st0.map (am_rn (am_ad b ex))) (am_Q b ex aC D r (as0.map (am_rn (am_ad b ex))).toArray) (am_A b) := by
        cases h7 : Nat.beq (am_ps ps 7) 0 with
        | true =>
          rw [h7] at q9
          exact va_runS (rm := am_rm' N) (bytes := am_mb N) (maxL := am_mL N) (ret := am_mr N) ⟨hx, hb, hml, hown, hts⟩ hMet ⟨callB_of (am_ps ps 1) hts (am_goodIn _ q8) rfl rfl rfl (hts _ (am_wd_in q7)) (hts _ (am_wd_in q9)) ⟨q10.1, q10.2, hnp⟩ hroom, hts _ (am_wd_in w1)⟩ (am_PcS hK hE hP hz hS) rfl (by rw [List.length_map]; exact x1) hl.1 hstk (lv_room (by rw [am_cats_rn]; exact h81)) hd ⟨by omega, by omega⟩
        | false =>
          rw [h7] at q9
          exact va_runSN (rm := am_rm' N) (bytes := am_mb N) (maxL := am_mL N) (ret := am_mr N) ⟨hx, hb, hml, hown, hts⟩ hMet ⟨va_cnB (am_ps ps 1) hts (am_goodIn _ q8) rfl rfl rfl (hE.2.2.2.2.2.1 _ _ _ _ (am_wn_in q9)) (hts _ (am_wd_in q7)) ⟨q10.1, q10.2, hnp⟩ hroom, hts _ (am_wd_in w1), trivial⟩ (am_PcS hK hE hP hz hS) rfl (by rw [List.length_map]; exact x1) hl.1 hstk (lv_room (by rw [am_cats_rn]; exact h81)) hd ⟨by omega, by omega⟩
      have hrs := am_exec_big _ _ _ _ hex ⟨hlen, hbig⟩
      refine am_callW fin hS (fun H1 locs1 hP1 z1 hS1 => ?_)
      have hq := hk H1 locs1 ls ⟨hP1, z1, hrs.1, hrs.2, hS1, hl⟩
      dsimp only at hq
      rw [show r.2.1.length - n0 = sh.length - n0 + am_mc N by omega, show am_tot r.2.1 - t0 = am_tot sh - t0 + am_mz N by omega] at hq
      rw [List.map_append] at hq
      have ev : (r.1.map (am_rn (am_ad b ex))).toList = r.1.toList.map (am_rn (am_ad b ex)) := by cases r.1 <;> rfl
      rw [ev]
      exact hq
  · cases h
/-- the call of an instance method -/
theorem am_s_virtual {pc nx nn : Nat} {ps : List Nat} {k : Int} {kl : Int64} {lv lv' : am_L} {st st' : List am_V} {sh sh' : am_Sh} {mem mem' : am_M} {x cc mL mc ms nx' : Nat} {as : List am_V} {r : am_R} (hC : am_Ctx b ex aC D X M p R s m args meth c) (hd : decode (am_mb M) pc = .ok (.invokevirtual x, nx - pc)) (hck : am_ckI M pc (.invokevirtual x) ps k kl nx = true) (h : am_ins X (.invokevirtual x) ps k kl nx lv st sh mem = some (true, .inr (.inl (cc, as, mL, mc, ms, nx', lv', st', sh', mem')))) (hM : am_Met l b ex aC D X nn) (hex : am_exec X nn (am_T cc) (0, am_largs 0 as, [], sh', mem') = some r) (hr1 : r.2.1.length = sh'.length + mc) (hr2 : am_tot r.2.1 = am_tot sh' + ms) (hn : n0 ≤ sh.length ∧ t0 ≤ am_tot sh) (hR : r.2.1.length - n0 ≤ R.cells ∧ am_tot r.2.1 - t0 ≤ R.slots) (hk : am_W p l e R s m args below meth c b ex aC D M n0 t0 Q (nx', lv', r.1.toList ++ st', r.2.1, r.2.2)) : am_W p l e R s m args below meth c b ex aC D M n0 t0 Q (pc, lv, st, sh, mem) := by
  obtain ⟨hx, hb, hml, hown, hts, hK, hE, hlk, hrt, hnm, hfr, hok, hbs⟩ := hC
  intro H locs ls hrel
  obtain ⟨hP, hz, hlen, hbig, hS, hl⟩ := hrel
  dsimp only at hP hz hlen hbig hl ⊢
  simp only [am_ckI, Bool.and_eq_true] at hck
  obtain ⟨c1, c2⟩ := hck
  have e2 := Nat.eq_of_beq_eq_true c2
  subst e2
  rw [show pc + 3 - pc = 3 by omega] at hd
  obtain ⟨N, hN, q2, q3, q4, q5, q6, q7, q8, q9, q10, q11, q12⟩ := am_callee_inv c1
  simp only [Bool.and_eq_true] at q12
  obtain ⟨⟨⟨⟨w1, w3⟩, w2⟩, w4⟩, w5⟩ := q12
  have w4 := am_blt w4
  simp only [am_ins] at h
  split at h
  · rename_i a as1 st0 htk
    generalize has0 : (Sum.inr (Sum.inr (some a)) :: as1 : List am_V) = as0 at h
    cases h8 : (Nat.ble (am_cats st0) 8 && Nat.ble (am_cats as0) (am_ps ps 2)) with
    | false => rw [h8] at h; cases h
    | true =>
      rw [h8] at h
      rw [Bool.and_eq_true] at h8
      simp only [cond_true] at h
      have hrc : ∃ cell : Cell, H[am_ad b ex a]? = some cell ∧ cell.vm.isStatics = false ∧ s.vm.findClass (am_mn N).cls = some cell.cls := by
        cases h900 : Nat.beq (am_ps ps 5) 900 with
        | true =>
          rw [h900] at h w5
          simp only [cond_true] at h
          rw [of_decide_eq_true w5]
          cases hr : (Nat.ble 2000 a && Nat.blt a 2014) with
          | false => rw [hr] at h; cases h
          | true =>
            rw [Bool.and_eq_true] at hr
            have z1 := Nat.le_of_ble_eq_true hr.1
            have z2 := am_blt hr.2
            have hv := vk_recv hE.2.2.1 (i := a - 2000) (by omega) hS
            try dsimp only at hv
            rw [show 2000 + (a - 2000) = a by omega] at hv
            rw [am_ad_hi (by omega)]
            exact hv
        | false =>
          rw [h900] at h w5
          simp only [cond_false] at h w5
          split at w5
          · rename_i q hcl
            rw [← of_decide_eq_true w5]
            split at h
            · rename_i nn' hn'
              have hlt := (List.getElem?_eq_some_iff.mp hcl).1
              rw [am_cl_len] at hlt
              have he := am_ws_get b ex aC mem (am_arr_inv hn')
              rw [am_cell_obj _ _ _ _ _ _ (by omega)] at he
              exact va_recv hK hP hcl he
            · cases h
          · cases w5
      have h : (am_ps ps 0, as0, am_ps ps 2, am_ps ps 3, am_ps ps 4, pc + 3, lv, st0, sh, mem) = (cc, as, mL, mc, ms, nx', lv', st', sh', mem') := by
        cases h900 : Nat.beq (am_ps ps 5) 900 with
        | true =>
          rw [h900] at h
          simp only [cond_true] at h
          cases hr : (Nat.ble 2000 a && Nat.blt a 2014) with
          | false => rw [hr] at h; cases h
          | true =>
            rw [hr] at h
            simpa only [cond_true, Option.some.injEq, Prod.mk.injEq, Sum.inr.injEq, Sum.inl.injEq, true_and] using h
        | false =>
          rw [h900] at h
          simp only [cond_false] at h
          split at h
          · simpa only [cond_true, Option.some.injEq, Prod.mk.injEq, Sum.inr.injEq, Sum.inl.injEq, true_and] using h
          · cases h
      simp only [Prod.mk.injEq] at h
      obtain ⟨rfl, rfl, rfl, rfl, rfl, rfl, rfl, rfl, rfl, rfl⟩ := h
      have h81 := Nat.le_of_ble_eq_true h8.1
      have h82 := Nat.le_of_ble_eq_true h8.2
      rw [q2] at h82
      rw [q3] at hr1
      rw [q4] at hr2
      rw [am_T_nth hN] at hex
      have hMet := hM _ N hN q11 as0 sh mem r h82 hex hlen hbig hr1 hr2
      obtain ⟨xs, x1, x2, x3⟩ := am_take_inv _ _ _ htk
      rw [List.append_nil, has0] at x3
      subst x3
      have hasr : as0.map (am_rn (am_ad b ex)) = .ref (am_ad b ex a) :: as1.map (am_rn (am_ad b ex)) := by rw [← has0]; rfl
      have hal : as1.length = am_ps ps 1 - 1 := by rw [← x1, ← has0]; rfl
      have hstk : (F0 m pc ls (st.map (am_rn (am_ad b ex)))).stack = (as1.map (am_rn (am_ad b ex))).reverse ++ .ref (am_ad b ex a) :: st0.map (am_rn (am_ad b ex)) := by
        show st.map (am_rn (am_ad b ex)) = _
        rw [x2, List.map_append, List.map_reverse, hasr]
        simp
      have hnp := of_decide_eq_true w2
      have hroom : am_mf N + 1 ≤ R.frames ∧ 8 + (am_mL N + 11) + am_ml N ≤ R.locals := ⟨by omega, by omega⟩
      have hPre := am_PcS (as := as0) hK hE hP hz hS
      rw [hasr] at hPre hMet
      have fin : va_Run p l e R s m args below meth c H locs (sh.length - n0) (am_tot sh - t0) (am_mc N) (am_mz N) (F0 m pc ls (st.map (am_rn (am_ad b ex)))) (st0.map (am_rn (am_ad b ex))) (am_Q b ex aC D r (Value.ref (am_ad b ex a) :: as1.map (am_rn (am_ad b ex))).toArray) (am_A b) := by
        cases h7 : Nat.beq (am_ps ps 7) 0 with
        | true =>
          rw [h7] at q9
          exact va_runV (C := (am_mn N).cls) (rm := am_rm' N) (bytes := am_mb N) (maxL := am_mL N) (ret := am_mr N) ⟨hx, hb, hml, hown, hts⟩ hMet ⟨callB_of (am_ps ps 1 - 1) hts (am_goodIn _ q8) rfl rfl rfl (hts _ (am_wd_in q7)) (hts _ (am_wd_in q9)) ⟨q10.1, q10.2, hnp⟩ hroom, hts _ (am_wd_in w1), hts _ (am_wd_in w3)⟩ ⟨hPre.1, hrc, hPre.2⟩ rfl (by rw [List.length_map]; exact hal) hl.1 hstk (lv_room (by rw [am_cats_rn]; exact h81)) hd ⟨by omega, by omega⟩
        | false =>
          rw [h7] at q9
          exact va_runVN (C := (am_mn N).cls) (rm := am_rm' N) (bytes := am_mb N) (maxL := am_mL N) (ret := am_mr N) ⟨hx, hb, hml, hown, hts⟩ hMet ⟨va_cnB (am_ps ps 1 - 1) hts (am_goodIn _ q8) rfl rfl rfl (hE.2.2.2.2.2.1 _ _ _ _ (am_wn_in q9)) (hts _ (am_wd_in q7)) ⟨q10.1, q10.2, hnp⟩ hroom, hts _ (am_wd_in w1), hts _ (am_wd_in w3)⟩ ⟨hPre.1, hrc, hPre.2⟩ rfl (by rw [List.length_map]; exact hal) hl.1 hstk (lv_room (by rw [am_cats_rn]; exact h81)) hd ⟨by omega, by omega⟩
      have hrs := am_exec_big _ _ _ _ hex ⟨hlen, hbig⟩
      refine am_callW fin hS (fun H1 locs1 hP1 z1 hS1 => ?_)
      have hq := hk H1 locs1 ls ⟨hP1, z1, hrs.1, hrs.2, hS1, hl⟩
      dsimp only at hq
      rw [show r.2.1.length - n0 = sh.length - n0 + am_mc N by omega, show am_tot r.2.1 - t0 = am_tot sh - t0 + am_mz N by omega] at hq
      rw [List.map_append] at hq
      have ev : (r.1.map (am_rn (am_ad b ex))).toList = r.1.toList.map (am_rn (am_ad b ex)) := by cases r.1 <;> rfl
      rw [ev]
      exact hq
  · cases h
/-- the call of a constructor -/
theorem am_s_special {pc nx nn : Nat} {ps : List Nat} {k : Int} {kl : Int64} {lv lv' : am_L} {st st' : List am_V} {sh sh' : am_Sh} {mem mem' : am_M} {x cc mL mc ms nx' : Nat} {as : List am_V} {r : am_R} (hC : am_Ctx b ex aC D X M p R s m args meth c) (hd : decode (am_mb M) pc = .ok (.invokespecial x, nx - pc)) (hck : am_ckI M pc (.invokespecial x) ps k kl nx = true) (h : am_ins X (.invokespecial x) ps k kl nx lv st sh mem = some (true, .inr (.inl (cc, as, mL, mc, ms, nx', lv', st', sh', mem')))) (hM : am_Met l b ex aC D X nn) (hex : am_exec X nn (am_T cc) (0, am_largs 0 as, [], sh', mem') = some r) (hr1 : r.2.1.length = sh'.length + mc) (hr2 : am_tot r.2.1 = am_tot sh' + ms) (hn : n0 ≤ sh.length ∧ t0 ≤ am_tot sh) (hR : r.2.1.length - n0 ≤ R.cells ∧ am_tot r.2.1 - t0 ≤ R.slots) (hk : am_W p l e R s m args below meth c b ex aC D M n0 t0 Q (nx', lv', r.1.toList ++ st', r.2.1, r.2.2)) : am_W p l e R s m args below meth c b ex aC D M n0 t0 Q (pc, lv, st, sh, mem) := by
  obtain ⟨hx, hb, hml, hown, hts, hK, hE, hlk, hrt, hnm, hfr, hok, hbs⟩ := hC
  intro H locs ls hrel
  obtain ⟨hP, hz, hlen, hbig, hS, hl⟩ := hrel
  dsimp only at hP hz hlen hbig hl ⊢
  simp only [am_ckI, Bool.and_eq_true] at hck
  obtain ⟨c1, c2⟩ := hck
  have e2 := Nat.eq_of_beq_eq_true c2
  subst e2
  rw [show pc + 3 - pc = 3 by omega] at hd
  cases h99 : Nat.beq (am_ps ps 0) 9999 with
  | true =>
    simp only [am_ins, h99, cond_true] at h
    split at h
    · cases h7 : Nat.ble (am_cats ‹List am_V›) 8 <;> simp [h7] at h
    · cases h
  | false =>
  rw [h99] at c1
  simp only [cond_false] at c1
  obtain ⟨N, hN, q2, q3, q4, q5, q6, q7, q8, q9, q10, q11, q12⟩ := am_callee_inv c1
  simp only [Bool.and_eq_true] at q12
  obtain ⟨⟨⟨⟨w1, w3⟩, w6⟩, w2⟩, w4⟩ := q12
  have w4 := am_blt w4
  have w3 := of_decide_eq_true w3
  have w6 := of_decide_eq_true w6
  simp only [am_ins, h99, cond_false] at h
  split at h
  · rename_i a as1 st0 htk
    generalize has0 : (Sum.inr (Sum.inr (some a)) :: as1 : List am_V) = as0 at h
    cases h8 : (Nat.ble (am_cats st0) 8 && Nat.ble (am_cats as0) (am_ps ps 2)) with
    | false => rw [h8] at h; cases h
    | true =>
      rw [h8] at h
      rw [Bool.and_eq_true] at h8
      simp only [cond_true, Option.some.injEq, Prod.mk.injEq, Sum.inr.injEq, Sum.inl.injEq, true_and] at h
      obtain ⟨rfl, rfl, rfl, rfl, rfl, rfl, rfl, rfl, rfl, rfl⟩ := h
      have h81 := Nat.le_of_ble_eq_true h8.1
      have h82 := Nat.le_of_ble_eq_true h8.2
      rw [q2] at h82
      rw [q3] at hr1
      rw [q4] at hr2
      rw [am_T_nth hN] at hex
      have hMet := hM _ N hN q11 as0 sh mem r h82 hex hlen hbig hr1 hr2
      obtain ⟨xs, x1, x2, x3⟩ := am_take_inv _ _ _ htk
      rw [List.append_nil, has0] at x3
      subst x3
      have hasr : as0.map (am_rn (am_ad b ex)) = .ref (am_ad b ex a) :: as1.map (am_rn (am_ad b ex)) := by rw [← has0]; rfl
      have hal : as1.length = am_ps ps 1 - 1 := by rw [← x1, ← has0]; rfl
      have hstk : (F0 m pc ls (st.map (am_rn (am_ad b ex)))).stack = (as1.map (am_rn (am_ad b ex))).reverse ++ .ref (am_ad b ex a) :: st0.map (am_rn (am_ad b ex)) := by
        show st.map (am_rn (am_ad b ex)) = _
        rw [x2, List.map_append, List.map_reverse, hasr]
        simp
      have hnp := of_decide_eq_true w2
      have hroom : am_mf N + 1 ≤ R.frames ∧ 8 + (am_mL N + 11) + am_ml N ≤ R.locals := ⟨by omega, by omega⟩
      have hPre := am_PcS (as := as0) hK hE hP hz hS
      have hgo := am_goodIn _ q8
      rw [w6] at hgo
      unfold am_ww at hMet
      rw [hasr] at hPre hMet
      rw [w6] at hMet
      have fin : va_Run p l e R s m args below meth c H locs (sh.length - n0) (am_tot sh - t0) (am_mc N) (am_mz N) (F0 m pc ls (st.map (am_rn (am_ad b ex)))) (st0.map (am_rn (am_ad b ex))) (am_Q b ex aC D r (Value.ref (am_ad b ex a) :: as1.map (am_rn (am_ad b ex))).toArray) (am_A b) := by
        cases h7 : Nat.beq (am_ps ps 7) 0 with
        | true =>
          rw [h7] at q9
          exact va_runI (rm := am_rm' N) (bytes := am_mb N) (maxL := am_mL N) ⟨hx, hb, hml, hown, hts⟩ hMet ⟨callB_of (am_ps ps 1 - 1) hts hgo rfl rfl rfl (hts _ (am_wd_in q7)) (hts _ (am_wd_in q9)) ⟨q10.1, q10.2, hnp⟩ hroom, w3, hts _ (am_wd_in w1)⟩ hPre rfl (by rw [List.length_map]; exact hal) hl.1 hstk (lv_room (by rw [am_cats_rn]; exact h81)) hd ⟨by omega, by omega⟩
        | false =>
          rw [h7] at q9
          exact va_runIN (rm := am_rm' N) (bytes := am_mb N) (maxL := am_mL N) ⟨hx, hb, hml, hown, hts⟩ hMet ⟨va_cnB (am_ps ps 1 - 1) hts hgo rfl rfl rfl (hE.2.2.2.2.2.1 _ _ _ _ (am_wn_in q9)) (hts _ (am_wd_in q7)) ⟨q10.1, q10.2, hnp⟩ hroom, w3, hts _ (am_wd_in w1)⟩ hPre rfl (by rw [List.length_map]; exact hal) hl.1 hstk (lv_room (by rw [am_cats_rn]; exact h81)) hd ⟨by omega, by omega⟩
      have hrs := am_exec_big _ _ _ _ hex ⟨hlen, hbig⟩
      refine am_callW fin hS (fun H1 locs1 hP1 z1 hS1 => ?_)
      have hq := hk H1 locs1 ls ⟨hP1, z1, hrs.1, hrs.2, hS1, hl⟩
      dsimp only at hq
      rw [show r.2.1.length - n0 = sh.length - n0 + am_mc N by omega, show am_tot r.2.1 - t0 = am_tot sh - t0 + am_mz N by omega] at hq
      rw [List.map_append] at hq
      have ev : (r.1.map (am_rn (am_ad b ex))).toList = r.1.toList.map (am_rn (am_ad b ex)) := by cases r.1 <;> rfl
      rw [ev]
      exact hq
  · cases h
end AMC
