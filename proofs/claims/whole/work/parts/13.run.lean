theorem am_go_ni {nx : Nat} {lv : am_L} {sh : am_Sh} {m : am_M} {x : Option (Bool × List am_V)} {g : Bool} {q : am_C ⊕ am_R} (h : am_go nx lv sh m x = some (g, .inr q)) : False := by
  unfold am_go at h
  split at h
  · cases h
  · cases h
theorem am_narbc {v : Int} (h0 : 0 ≤ v) (h1 : v < 128) : (narrow .byte (.int (Int32.ofInt v)) = .int (Int32.ofInt v)) ∧ (narrow .char (.int (Int32.ofInt v)) = .int (Int32.ofInt v)) := by
  have key : ∀ n : Nat, n < 128 → (narrow .byte (.int (Int32.ofInt n)) = .int (Int32.ofInt n)) ∧ (narrow .char (.int (Int32.ofInt n)) = .int (Int32.ofInt n)) := by decide +kernel
  obtain ⟨n, rfl⟩ : ∃ n : Nat, v = n := ⟨v.toNat, by omega⟩
  exact key n (by omega)
/-! returns; a run of the abstract machine is a run of the machine -/
section AMR
variable {p : Program} {l : Launch} {e : Env} {R : Room} {s : State} {m : MethodId} {args : Array Value} {below : List Frame} {meth : Method} {c : Code} {Q : State → Prop}
variable {b : Nat} {ex : Nat → Nat} {aC : Nat → ClassId} {D : va_G} {X : am_X} {M : am_Me} {n0 t0 : Nat}
theorem am_qend {r : am_R} {H : Heap} {locs : List Loc} (hP : va_P D am_cl (am_ws b ex aC r.2.1 r.2.2) H) (hz : H.size = b + r.2.1.length) (hS : va_S (am_A b) s.heap H locs) {v : Option Value} (hv : v = r.1.map (am_rn (am_ad b ex))) : ∀ t : State, t.heap = H → s.WarmedH t.vm → am_Q b ex aC D r args s (.returned v) t :=
  fun t ht _ => ⟨by rw [hv], by rw [ht]; exact hP, by rw [ht]; exact hz, hS.F ht⟩
theorem am_s_ret {pc nx : Nat} {ps : List Nat} {k : Int} {kl : Int64} {lv : am_L} {st : List am_V} {sh : am_Sh} {mem : am_M} {i : Instr} {r : am_R} (hC : am_Ctx b ex aC D X M p R s m args meth c) (hd : decode (am_mb M) pc = .ok (i, nx - pc)) (hck : am_ckI M pc i ps k kl nx = true) (h : am_ins X i ps k kl nx lv st sh mem = some (true, .inr (.inr r))) : am_W p l e R s m args below meth c b ex aC D M n0 t0 (MQ below (am_Q b ex aC D r) args s (r.2.1.length - n0) (am_tot r.2.1 - t0) (am_A b)) (pc, lv, st, sh, mem) := by
  obtain ⟨hx, hb, hml, hown, hts, hK, hE, hlk, hrt, hnm, hfr, hok, hbs⟩ := hC
  intro H locs ls hrel
  obtain ⟨hP, hz, hlen, hbig, hS, hl⟩ := hrel
  dsimp only at hP hz hlen hbig hl ⊢
  cases i with
  | ireturn =>
    simp only [am_ckI, Bool.and_eq_true] at hck
    have e2 := Nat.eq_of_beq_eq_true hck.2
    subst e2
    rw [show pc + 1 - pc = 1 by omega] at hd
    have hc := hck.1
    simp only [am_ins] at h
    split at h
    · rename_i v
      cases h0 : Nat.beq (am_ps ps 0) 0 with
      | true =>
        rw [h0] at h hc
        simp only [cond_true, Option.some.injEq, Prod.mk.injEq, Sum.inr.injEq, true_and] at h
        subst h
        exact W.iret hx hb (hrt.trans (of_decide_eq_true hc)) (am_qend hP hz hS rfl) hS.2.2 hd
      | false =>
        rw [h0] at h hc
        cases h1 : Nat.beq (am_ps ps 0) 1 with
        | true =>
          rw [h1] at h hc
          simp only [cond_true, cond_false, Option.some.injEq, Prod.mk.injEq, Sum.inr.injEq] at h
          have hv := of_decide_eq_true h.1
          obtain ⟨-, h⟩ := h
          subst h
          exact W.zret hx hb (hrt.trans (of_decide_eq_true hc)) (by rcases hv with rfl | rfl <;> rfl) (am_qend hP hz hS rfl) hS.2.2 hd
        | false =>
          rw [h1] at h hc
          simp only [cond_false, Option.some.injEq, Prod.mk.injEq, Sum.inr.injEq] at h
          have hv := of_decide_eq_true h.1
          obtain ⟨-, h⟩ := h
          subst h
          have hn : (narrow .byte (.int (Int32.ofInt v)) = .int (Int32.ofInt v)) ∧ (narrow .char (.int (Int32.ofInt v)) = .int (Int32.ofInt v)) := am_narbc hv.1 hv.2
          rcases of_decide_eq_true hc with hr | hr
          · exact W.zret hx hb (hrt.trans hr) hn.1 (am_qend hP hz hS rfl) hS.2.2 hd
          · exact W.zret hx hb (hrt.trans hr) hn.2 (am_qend hP hz hS rfl) hS.2.2 hd
    · cases h
  | lreturn =>
    simp only [am_ckI, Bool.and_eq_true] at hck
    have e2 := Nat.eq_of_beq_eq_true hck.2
    subst e2
    rw [show pc + 1 - pc = 1 by omega] at hd
    simp only [am_ins] at h
    split at h
    · simp only [Option.some.injEq, Prod.mk.injEq, Sum.inr.injEq, true_and] at h
      subst h
      exact W.lret hx hb (hrt.trans (of_decide_eq_true hck.1)) (am_qend hP hz hS rfl) hS.2.2 hd
    · cases h
  | areturn =>
    simp only [am_ckI, Bool.and_eq_true] at hck
    have e2 := Nat.eq_of_beq_eq_true hck.2
    subst e2
    rw [show pc + 1 - pc = 1 by omega] at hd
    simp only [am_ins] at h
    split at h
    · simp only [Option.some.injEq, Prod.mk.injEq, Sum.inr.injEq, true_and] at h
      subst h
      have hc := hck.1
      unfold am_isO at hc
      split at hc
      · rename_i rt hr
        refine W.aret hx hb (hrt.trans hr) (Or.inl ⟨_, rfl⟩) (Or.inr ⟨_, rfl⟩) ?_ hS.2.2 hd
        exact am_qend (r := (_, sh, mem)) hP hz hS rfl
      · cases hc
    · cases h
  | return_ =>
    simp only [am_ckI, Bool.and_eq_true] at hck
    have e2 := Nat.eq_of_beq_eq_true hck.2
    subst e2
    rw [show pc + 1 - pc = 1 by omega] at hd
    simp only [am_ins] at h
    split at h
    · simp only [Option.some.injEq, Prod.mk.injEq, Sum.inr.injEq, true_and] at h
      subst h
      exact W.vret hx hb (hrt.trans (of_decide_eq_true hck.1)) (am_qend hP hz hS rfl) hS.2.2 hd
    · cases h
  | _ =>
    exfalso
    simp only [am_ins, Bool.cond_eq_ite] at h <;> first
    | (cases h; done)
    | exact am_go_ni h
    | ((repeat' (first | (cases h; done) | split at h)) <;> first | (cases h; done) | (simp at h; done))
end AMR
section AMB
variable {p : Program} {l : Launch} {e : Env} {R : Room} {s : State} {m : MethodId} {args : Array Value} {below : List Frame} {meth : Method} {c : Code} {Q : State → Prop}
variable {b : Nat} {ex : Nat → Nat} {aC : Nat → ClassId} {D : va_G} {X : am_X} {M : am_Me} {n0 t0 : Nat}
set_option maxHeartbeats 4000000 in
theorem am_one {pc nx : Nat} {ps : List Nat} {k : Int} {kl : Int64} {lv : am_L} {st : List am_V} {sh : am_Sh} {mem : am_M} {σ' : am_S} {i : Instr} (hC : am_Ctx b ex aC D X M p R s m args meth c) (hd : decode (am_mb M) pc = .ok (i, nx - pc)) (hck : am_ckI M pc i ps k kl nx = true) (h : am_ins X i ps k kl nx lv st sh mem = some (true, .inl σ')) (hn : n0 ≤ sh.length ∧ t0 ≤ am_tot sh) (hR : σ'.2.2.2.1.length - n0 ≤ R.cells ∧ am_tot σ'.2.2.2.1 - t0 ≤ R.slots) (hk : am_W p l e R s m args below meth c b ex aC D M n0 t0 Q σ') : am_W p l e R s m args below meth c b ex aC D M n0 t0 Q (pc, lv, st, sh, mem) := by
  cases i with
  | iconst _ => exact am_s_iconst hC hd hck h hn hR hk
  | bipush _ => exact am_s_bipush hC hd hck h hn hR hk
  | sipush _ => exact am_s_sipush hC hd hck h hn hR hk
  | lconst _ => exact am_s_lconst hC hd hck h hn hR hk
  | ldc2_w _ => exact am_s_ldc2 hC hd hck h hn hR hk
  | ldc _ => exact am_s_ldc hC hd hck h hn hR hk
  | iload _ => exact am_s_iload hC hd hck h hn hR hk
  | iload_n _ => exact am_s_iload_n hC hd hck h hn hR hk
  | lload _ => exact am_s_lload hC hd hck h hn hR hk
  | lload_n _ => exact am_s_lload_n hC hd hck h hn hR hk
  | aload _ => exact am_s_aload hC hd hck h hn hR hk
  | aload_n _ => exact am_s_aload_n hC hd hck h hn hR hk
  | istore _ => exact am_s_istore hC hd hck h hn hR hk
  | istore_n _ => exact am_s_istore_n hC hd hck h hn hR hk
  | lstore _ => exact am_s_lstore hC hd hck h hn hR hk
  | lstore_n _ => exact am_s_lstore_n hC hd hck h hn hR hk
  | astore _ => exact am_s_astore hC hd hck h hn hR hk
  | astore_n _ => exact am_s_astore_n hC hd hck h hn hR hk
  | iinc _ _ => exact am_s_iinc hC hd hck h hn hR hk
  | iadd => exact am_s_iadd hC hd hck h hn hR hk
  | isub => exact am_s_isub hC hd hck h hn hR hk
  | imul => exact am_s_imul hC hd hck h hn hR hk
  | iand => exact am_s_iand hC hd hck h hn hR hk
  | ior => exact am_s_ior hC hd hck h hn hR hk
  | ixor => exact am_s_ixor hC hd hck h hn hR hk
  | ishl => exact am_s_ishl hC hd hck h hn hR hk
  | ishr => exact am_s_ishr hC hd hck h hn hR hk
  | idiv => exact am_s_idiv hC hd hck h hn hR hk
  | irem => exact am_s_irem hC hd hck h hn hR hk
  | ineg => exact am_s_ineg hC hd hck h hn hR hk
  | i2b => exact am_s_i2b hC hd hck h hn hR hk
  | i2s => exact am_s_i2s hC hd hck h hn hR hk
  | i2c => exact am_s_i2c hC hd hck h hn hR hk
  | ladd => exact am_s_ladd hC hd hck h hn hR hk
  | lsub => exact am_s_lsub hC hd hck h hn hR hk
  | lmul => exact am_s_lmul hC hd hck h hn hR hk
  | land => exact am_s_land hC hd hck h hn hR hk
  | lor => exact am_s_lor hC hd hck h hn hR hk
  | lshl => exact am_s_lshl hC hd hck h hn hR hk
  | lshr => exact am_s_lshr hC hd hck h hn hR hk
  | lushr => exact am_s_lushr hC hd hck h hn hR hk
  | i2l => exact am_s_i2l hC hd hck h hn hR hk
  | l2i => exact am_s_l2i hC hd hck h hn hR hk
  | lcmp => exact am_s_lcmp hC hd hck h hn hR hk
  | dup => exact am_s_dup hC hd hck h hn hR hk
  | dup2 => exact am_s_dup2 hC hd hck h hn hR hk
  | pop => exact am_s_pop hC hd hck h hn hR hk
  | goto _ => exact am_s_goto hC hd hck h hn hR hk
  | ifCond cd _ =>
    cases cd with
    | eq => exact am_s_if_eq hC hd hck h hn hR hk
    | ne => exact am_s_if_ne hC hd hck h hn hR hk
    | lt => exact am_s_if_lt hC hd hck h hn hR hk
    | ge => exact am_s_if_ge hC hd hck h hn hR hk
    | gt => exact am_s_if_gt hC hd hck h hn hR hk
    | le => exact am_s_if_le hC hd hck h hn hR hk
  | if_icmp cd _ =>
    cases cd with
    | eq => exact am_s_icmp_eq hC hd hck h hn hR hk
    | ne => exact am_s_icmp_ne hC hd hck h hn hR hk
    | lt => exact am_s_icmp_lt hC hd hck h hn hR hk
    | ge => exact am_s_icmp_ge hC hd hck h hn hR hk
    | gt => exact am_s_icmp_gt hC hd hck h hn hR hk
    | le => exact am_s_icmp_le hC hd hck h hn hR hk
  | tableswitch _ _ _ _ => exact am_s_tableswitch hC hd hck h hn hR hk
  | getfield _ => exact am_s_getfield hC hd hck h hn hR hk
  | putfield _ => exact am_s_putfield hC hd hck h hn hR hk
  | getstatic _ => exact am_s_getstatic hC hd hck h hn hR hk
  | iaload => exact am_s_iaload hC hd hck h hn hR hk
  | baload => exact am_s_baload hC hd hck h hn hR hk
  | laload => exact am_s_laload hC hd hck h hn hR hk
  | aaload => exact am_s_aaload hC hd hck h hn hR hk
  | iastore => exact am_s_iastore hC hd hck h hn hR hk
  | bastore => exact am_s_bastore hC hd hck h hn hR hk
  | lastore => exact am_s_lastore hC hd hck h hn hR hk
  | aastore => exact am_s_aastore hC hd hck h hn hR hk
  | arraylength => exact am_s_arraylength hC hd hck h hn hR hk
  | new _ => exact am_s_new hC hd hck h hn hR hk
  | newarray _ => exact am_s_newarray hC hd hck h hn hR hk
  | anewarray _ => exact am_s_anewarray hC hd hck h hn hR hk
  | invokespecial _ =>
    cases h9 : Nat.beq (am_ps ps 0) 9999 with
    | true => exact am_s_objinit h9 hC hd hck h hn hR hk
    | false =>
      exfalso
      simp only [am_ins, h9, cond_false] at h
      simp only [Bool.cond_eq_ite] at h
      (repeat' (first | (cases h; done) | split at h)) <;> first | (cases h; done) | (simp at h; done)
  | _ =>
    exfalso
    simp only [am_ins, Bool.cond_eq_ite] at h <;> first
    | (cases h; done)
    | ((repeat' (first | (cases h; done) | split at h)) <;> first | (cases h; done) | (simp at h; done))
set_option maxHeartbeats 4000000 in
theorem am_two {pc nx nn : Nat} {ps : List Nat} {k : Int} {kl : Int64} {lv lv' : am_L} {st st' : List am_V} {sh sh' : am_Sh} {mem mem' : am_M} {cc mL mc ms nx' : Nat} {as : List am_V} {r : am_R} {i : Instr} (hC : am_Ctx b ex aC D X M p R s m args meth c) (hd : decode (am_mb M) pc = .ok (i, nx - pc)) (hck : am_ckI M pc i ps k kl nx = true) (h : am_ins X i ps k kl nx lv st sh mem = some (true, .inr (.inl (cc, as, mL, mc, ms, nx', lv', st', sh', mem')))) (hM : am_Met l b ex aC D X nn) (hex : am_exec X nn (am_T cc) (0, am_largs 0 as, [], sh', mem') = some r) (hr1 : r.2.1.length = sh'.length + mc) (hr2 : am_tot r.2.1 = am_tot sh' + ms) (hn : n0 ≤ sh.length ∧ t0 ≤ am_tot sh) (hR : r.2.1.length - n0 ≤ R.cells ∧ am_tot r.2.1 - t0 ≤ R.slots) (hk : am_W p l e R s m args below meth c b ex aC D M n0 t0 Q (nx', lv', r.1.toList ++ st', r.2.1, r.2.2)) : am_W p l e R s m args below meth c b ex aC D M n0 t0 Q (pc, lv, st, sh, mem) := by
  cases i with
  | invokevirtual _ => exact am_s_virtual hC hd hck h hM hex hr1 hr2 hn hR hk
  | invokespecial _ => exact am_s_special hC hd hck h hM hex hr1 hr2 hn hR hk
  | invokestatic _ => exact am_s_static hC hd hck h hM hex hr1 hr2 hn hR hk
  | _ =>
    exfalso
    simp only [am_ins, Bool.cond_eq_ite] at h <;> first
    | (cases h; done)
    | exact am_go_ni h
    | ((repeat' (first | (cases h; done) | split at h)) <;> first | (cases h; done) | (simp at h; done))
theorem am_row {M : am_Me} (hok : am_ok M = true) {pc : Nat} {q : am_Row} (h : am_look (am_mt M) pc = some q) : q.1 = pc ∧ decode (am_mb M) pc = .ok (q.2.1, q.2.2.2.2.2.1 - pc) ∧ am_ckI M pc q.2.1 q.2.2.1 q.2.2.2.1 q.2.2.2.2.1 q.2.2.2.2.2.1 = true := by
  obtain ⟨h1, h2⟩ := am_look_mem h
  have h3 := List.all_eq_true.mp hok q h1
  unfold am_ckR at h3
  rw [Bool.and_eq_true, h2] at h3
  exact ⟨h2, of_decide_eq_true h3.1, h3.2⟩
theorem am_body (hC : am_Ctx b ex aC D X M p R s m args meth c) (r : am_R) (hret : ∀ σ : am_S, am_step X (am_mt M) σ = some (true, .inr (.inr r)) → am_W p l e R s m args below meth c b ex aC D M n0 t0 Q σ) (hRc : r.2.1.length - n0 ≤ R.cells ∧ am_tot r.2.1 - t0 ≤ R.slots) :
    ∀ (n : Nat), (∀ k, k < n → am_Met l b ex aC D X k) → ∀ σ : am_S, am_exec X n (am_mt M) σ = some r → n0 ≤ σ.2.2.2.1.length → t0 ≤ am_tot σ.2.2.2.1 → am_W p l e R s m args below meth c b ex aC D M n0 t0 Q σ := by
  intro n
  induction n with
  | zero => intro _ σ h; cases h
  | succ n ih =>
    intro hM σ h hn ht
    have hgrow : ∀ (N : Nat) (T : List am_Row) (τ : am_S), am_exec X N T τ = some r → τ.2.2.2.1.length - n0 ≤ R.cells ∧ am_tot τ.2.2.2.1 - t0 ≤ R.slots := by
      intro N T τ hτ
      obtain ⟨t, ht⟩ := am_exec_sh N T τ r hτ
      rw [ht, List.length_append, am_tot_apps] at hRc
      omega
    have hok := hC.2.2.2.2.2.2.2.2.2.2.2.1
    unfold am_exec at h
    split at h
    · rename_i σ' hs
      have hs0 := hs
      unfold am_step at hs
      split at hs
      · rename_i q1 i ps k kl nx live hlook
        obtain ⟨-, hd, hck⟩ := am_row hok hlook
        obtain ⟨t, htt⟩ := am_ins_sh hs
        dsimp only [am_osh] at htt
        have key := am_one (n0 := n0) (t0 := t0) hC hd hck hs ⟨hn, ht⟩ (hgrow n _ σ' h) (ih (fun k hk => hM k (by omega)) σ' h (by rw [htt, List.length_append]; omega) (by rw [htt, am_tot_apps]; omega))
        intro H locs ls hrel
        obtain ⟨g1, g2, g3, g4, g5, g6⟩ := hrel
        exact key H locs ls ⟨g1, g2, g3, g4, g5, am_has_live live g6⟩
      · cases hs
    · rename_i r' hs
      cases h
      exact hret σ hs
    · rename_i cc as ml mc ms nx lv st sh mem hs
      split at h
      · cases h
      · rename_i v sh' m' hc
        split at h
        · rename_i hcnt
          unfold am_step at hs
          split at hs
          · rename_i q1 i ps k kl nx' live hlook
            obtain ⟨-, hd, hck⟩ := am_row hok hlook
            obtain ⟨t, htt⟩ := am_ins_sh hs
            dsimp only [am_osh] at htt
            have hl1 : σ.2.2.2.1.length ≤ sh.length := by rw [htt, List.length_append]; omega
            have hl2 : am_tot σ.2.2.2.1 ≤ am_tot sh := by rw [htt, am_tot_apps]; omega
            have key := am_two (n0 := n0) (t0 := t0) (r := (v, sh', m')) hC hd hck hs (hM n (by omega)) hc hcnt.1 hcnt.2 ⟨hn, ht⟩ (hgrow n _ (nx, lv, v.toList ++ st, sh', m') h) (ih (fun k hk => hM k (by omega)) _ h (by show n0 ≤ sh'.length; omega) (by show t0 ≤ am_tot sh'; omega))
            intro H locs ls hrel
            obtain ⟨g1, g2, g3, g4, g5, g6⟩ := hrel
            exact key H locs ls ⟨g1, g2, g3, g4, g5, am_has_live live g6⟩
          · cases hs
        · cases h
    · cases h
theorem am_met_all (hoks : ∀ {k : Nat} {M : am_Me}, am_nth am_ms k = some M → am_ok M = true) : ∀ n : Nat, am_Met l b ex aC D X n := by
  intro n
  induction n using Nat.strongRecOn with
  | _ n ih =>
    intro k M hN hpf as sh mem r hcat hex hlen hbig hr1 hr2
    refine am_ofW (cc := am_mb M) (maxL := am_mL M) (ret := am_mr M) hpf rfl ?_
    intro p e s m args below meth c s₁ B hml hv
    obtain ⟨rfl, hsz, hP, hK, hE⟩ := hv
    have hts := atoms_spec (ws := am_ww M) B.pre
    have hC : am_Ctx b ex aC D X M p (headSpec (am_ww M) (am_rm' M)).room s m (as.map (am_rn (am_ad b ex))).toArray meth c :=
      ⟨B.exec, B.bytes, hml, findClass_of_methodNamed B.named, fun w hw => hts w (List.mem_cons_of_mem _ hw), hK, hE, B.notSynchronized, B.returns, fun h => (name_of_methodNamed B.named B.method).1.trans h, ⟨Nat.le_refl _, Nat.le_refl _⟩, hoks hN, by omega⟩
    have hret : ∀ σ : am_S, am_step X (am_mt M) σ = some (true, .inr (.inr r)) → am_W p l e (headSpec (am_ww M) (am_rm' M)).room s m (as.map (am_rn (am_ad b ex))).toArray below meth c b ex aC D M sh.length (am_tot sh) (MQ below (am_Q b ex aC D r) (as.map (am_rn (am_ad b ex))).toArray s (am_mc M) (am_mz M) (am_A b)) σ := by
      intro σ hs
      unfold am_step at hs
      split at hs
      · rename_i q1 i ps k kl nx live hlook
        obtain ⟨-, hd, hck⟩ := am_row (hoks hN) hlook
        have key := am_s_ret (l := l) (e := e) (below := below) (n0 := sh.length) (t0 := am_tot sh) hC hd hck hs
        rw [show r.2.1.length - sh.length = am_mc M by omega, show am_tot r.2.1 - am_tot sh = am_mz M by omega] at key
        intro H locs ls hrel
        obtain ⟨g1, g2, g3, g4, g5, g6⟩ := hrel
        exact key H locs ls ⟨g1, g2, g3, g4, g5, am_has_live live g6⟩
      · cases hs
    have hW := am_body (l := l) (e := e) (below := below) hC r hret ⟨by show r.2.1.length - sh.length ≤ am_mc M; omega, by show am_tot r.2.1 - am_tot sh ≤ am_mz M; omega⟩ n (fun k hk => ih k hk) (0, am_largs 0 as, [], sh, mem) hex (Nat.le_refl _) (Nat.le_refl _)
    have hl := lv_entry (as.map (am_rn (am_ad b ex))) (n := am_mL M) (by rw [am_slots_len]; exact hcat)
    rw [am_args] at hl
    rw [lg_entry_eq]
    have hfin := hW s.heap [] _ ⟨hP, hsz, hlen, hbig, va_S.rf, hl⟩
    dsimp only at hfin
    rw [Nat.sub_self, Nat.sub_self] at hfin
    exact hfin
end AMB
