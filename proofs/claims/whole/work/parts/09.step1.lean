section AMS
variable {p : Program} {l : Launch} {e : Env} {R : Room} {s : State} {m : MethodId} {args : Array Value} {below : List Frame} {meth : Method} {c : Code} {Q : State → Prop}
variable {b : Nat} {ex : Nat → Nat} {aC : Nat → ClassId} {D : va_G} {X : am_X} {M : am_Me} {n0 t0 : Nat}
theorem am_s_iconst {pc nx : Nat} {ps : List Nat} {k : Int} {kl : Int64} {lv : am_L} {st : List am_V} {sh : am_Sh} {mem : am_M} {σ' : am_S} {x : Int} (hC : am_Ctx b ex aC D X M p R s m args meth c) (hd : decode (am_mb M) pc = .ok ((.iconst x), nx - pc)) (hck : am_ckI M pc (.iconst x) ps k kl nx = true) (h : am_ins X (.iconst x) ps k kl nx lv st sh mem = some (true, .inl σ')) (hn : n0 ≤ sh.length ∧ t0 ≤ am_tot sh) (hR : σ'.2.2.2.1.length - n0 ≤ R.cells ∧ am_tot σ'.2.2.2.1 - t0 ≤ R.slots) (hk : am_W p l e R s m args below meth c b ex aC D M n0 t0 Q σ') : am_W p l e R s m args below meth c b ex aC D M n0 t0 Q (pc, lv, st, sh, mem) := by
  obtain ⟨hx, hb, hml, hown, hts, hK, hE, hlk, hrt, hnm, hfr, hok, hbs⟩ := hC
  intro H locs ls hrel
  obtain ⟨hP, hz, hlen, hbig, hS, hl⟩ := hrel
  dsimp only at hP hz hlen hbig hl ⊢
  simp only [am_ckI, Bool.and_eq_true] at hck
  obtain ⟨h1, h2⟩ := hck
  have e2 := Nat.eq_of_beq_eq_true h2
  have hv := of_decide_eq_true h1
  subst e2
  rw [show pc + 1 - pc = 1 by omega] at hd
  simp only [am_ins, Option.some.injEq, Prod.mk.injEq, Sum.inl.injEq, true_and] at h
  subst h
  subst hv
  exact lv_iconst hx hb hd rfl (hk H locs ls ⟨hP, hz, hlen, hbig, hS, hl⟩)
theorem am_s_bipush {pc nx : Nat} {ps : List Nat} {k : Int} {kl : Int64} {lv : am_L} {st : List am_V} {sh : am_Sh} {mem : am_M} {σ' : am_S} {x : Int} (hC : am_Ctx b ex aC D X M p R s m args meth c) (hd : decode (am_mb M) pc = .ok ((.bipush x), nx - pc)) (hck : am_ckI M pc (.bipush x) ps k kl nx = true) (h : am_ins X (.bipush x) ps k kl nx lv st sh mem = some (true, .inl σ')) (hn : n0 ≤ sh.length ∧ t0 ≤ am_tot sh) (hR : σ'.2.2.2.1.length - n0 ≤ R.cells ∧ am_tot σ'.2.2.2.1 - t0 ≤ R.slots) (hk : am_W p l e R s m args below meth c b ex aC D M n0 t0 Q σ') : am_W p l e R s m args below meth c b ex aC D M n0 t0 Q (pc, lv, st, sh, mem) := by
  obtain ⟨hx, hb, hml, hown, hts, hK, hE, hlk, hrt, hnm, hfr, hok, hbs⟩ := hC
  intro H locs ls hrel
  obtain ⟨hP, hz, hlen, hbig, hS, hl⟩ := hrel
  dsimp only at hP hz hlen hbig hl ⊢
  simp only [am_ckI, Bool.and_eq_true] at hck
  obtain ⟨h1, h2⟩ := hck
  have e2 := Nat.eq_of_beq_eq_true h2
  have hv := of_decide_eq_true h1
  subst e2
  rw [show pc + 2 - pc = 2 by omega] at hd
  simp only [am_ins, Option.some.injEq, Prod.mk.injEq, Sum.inl.injEq, true_and] at h
  subst h
  exact lv_bipush hx hb hd hv (hk H locs ls ⟨hP, hz, hlen, hbig, hS, hl⟩)
theorem am_s_sipush {pc nx : Nat} {ps : List Nat} {k : Int} {kl : Int64} {lv : am_L} {st : List am_V} {sh : am_Sh} {mem : am_M} {σ' : am_S} {x : Int} (hC : am_Ctx b ex aC D X M p R s m args meth c) (hd : decode (am_mb M) pc = .ok ((.sipush x), nx - pc)) (hck : am_ckI M pc (.sipush x) ps k kl nx = true) (h : am_ins X (.sipush x) ps k kl nx lv st sh mem = some (true, .inl σ')) (hn : n0 ≤ sh.length ∧ t0 ≤ am_tot sh) (hR : σ'.2.2.2.1.length - n0 ≤ R.cells ∧ am_tot σ'.2.2.2.1 - t0 ≤ R.slots) (hk : am_W p l e R s m args below meth c b ex aC D M n0 t0 Q σ') : am_W p l e R s m args below meth c b ex aC D M n0 t0 Q (pc, lv, st, sh, mem) := by
  obtain ⟨hx, hb, hml, hown, hts, hK, hE, hlk, hrt, hnm, hfr, hok, hbs⟩ := hC
  intro H locs ls hrel
  obtain ⟨hP, hz, hlen, hbig, hS, hl⟩ := hrel
  dsimp only at hP hz hlen hbig hl ⊢
  simp only [am_ckI, Bool.and_eq_true] at hck
  obtain ⟨h1, h2⟩ := hck
  have e2 := Nat.eq_of_beq_eq_true h2
  have hv := of_decide_eq_true h1
  subst e2
  rw [show pc + 3 - pc = 3 by omega] at hd
  simp only [am_ins, Option.some.injEq, Prod.mk.injEq, Sum.inl.injEq, true_and] at h
  subst h
  exact lv_sipush hx hb hd hv (hk H locs ls ⟨hP, hz, hlen, hbig, hS, hl⟩)
theorem am_s_lconst {pc nx : Nat} {ps : List Nat} {k : Int} {kl : Int64} {lv : am_L} {st : List am_V} {sh : am_Sh} {mem : am_M} {σ' : am_S} {x : Fin 2} (hC : am_Ctx b ex aC D X M p R s m args meth c) (hd : decode (am_mb M) pc = .ok ((.lconst x), nx - pc)) (hck : am_ckI M pc (.lconst x) ps k kl nx = true) (h : am_ins X (.lconst x) ps k kl nx lv st sh mem = some (true, .inl σ')) (hn : n0 ≤ sh.length ∧ t0 ≤ am_tot sh) (hR : σ'.2.2.2.1.length - n0 ≤ R.cells ∧ am_tot σ'.2.2.2.1 - t0 ≤ R.slots) (hk : am_W p l e R s m args below meth c b ex aC D M n0 t0 Q σ') : am_W p l e R s m args below meth c b ex aC D M n0 t0 Q (pc, lv, st, sh, mem) := by
  obtain ⟨hx, hb, hml, hown, hts, hK, hE, hlk, hrt, hnm, hfr, hok, hbs⟩ := hC
  intro H locs ls hrel
  obtain ⟨hP, hz, hlen, hbig, hS, hl⟩ := hrel
  dsimp only at hP hz hlen hbig hl ⊢
  simp only [am_ckI, Bool.and_eq_true] at hck
  obtain ⟨h1, h2⟩ := hck
  have e2 := Nat.eq_of_beq_eq_true h2
  have hv := of_decide_eq_true h1
  subst e2
  rw [show pc + 1 - pc = 1 by omega] at hd
  simp only [am_ins, Option.some.injEq, Prod.mk.injEq, Sum.inl.injEq, true_and] at h
  subst h
  exact lv_lconst hx hb hd hv (hk H locs ls ⟨hP, hz, hlen, hbig, hS, hl⟩)
theorem am_s_ldc2 {pc nx : Nat} {ps : List Nat} {k : Int} {kl : Int64} {lv : am_L} {st : List am_V} {sh : am_Sh} {mem : am_M} {σ' : am_S} {x : Nat} (hC : am_Ctx b ex aC D X M p R s m args meth c) (hd : decode (am_mb M) pc = .ok ((.ldc2_w x), nx - pc)) (hck : am_ckI M pc (.ldc2_w x) ps k kl nx = true) (h : am_ins X (.ldc2_w x) ps k kl nx lv st sh mem = some (true, .inl σ')) (hn : n0 ≤ sh.length ∧ t0 ≤ am_tot sh) (hR : σ'.2.2.2.1.length - n0 ≤ R.cells ∧ am_tot σ'.2.2.2.1 - t0 ≤ R.slots) (hk : am_W p l e R s m args below meth c b ex aC D M n0 t0 Q σ') : am_W p l e R s m args below meth c b ex aC D M n0 t0 Q (pc, lv, st, sh, mem) := by
  obtain ⟨hx, hb, hml, hown, hts, hK, hE, hlk, hrt, hnm, hfr, hok, hbs⟩ := hC
  intro H locs ls hrel
  obtain ⟨hP, hz, hlen, hbig, hS, hl⟩ := hrel
  dsimp only at hP hz hlen hbig hl ⊢
  simp only [am_ckI, Bool.and_eq_true] at hck
  obtain ⟨h1, h2⟩ := hck
  have e2 := Nat.eq_of_beq_eq_true h2
  subst e2
  rw [show pc + 3 - pc = 3 by omega] at hd
  simp only [am_ins, Option.some.injEq, Prod.mk.injEq, Sum.inl.injEq, true_and] at h
  subst h
  exact lv_ldc2 hx hb hown (hts _ (am_wd_in h1)) hd (hk H locs ls ⟨hP, hz, hlen, hbig, hS, hl⟩)
theorem am_s_ldc {pc nx : Nat} {ps : List Nat} {k : Int} {kl : Int64} {lv : am_L} {st : List am_V} {sh : am_Sh} {mem : am_M} {σ' : am_S} {x : Nat} (hC : am_Ctx b ex aC D X M p R s m args meth c) (hd : decode (am_mb M) pc = .ok ((.ldc x), nx - pc)) (hck : am_ckI M pc (.ldc x) ps k kl nx = true) (h : am_ins X (.ldc x) ps k kl nx lv st sh mem = some (true, .inl σ')) (hn : n0 ≤ sh.length ∧ t0 ≤ am_tot sh) (hR : σ'.2.2.2.1.length - n0 ≤ R.cells ∧ am_tot σ'.2.2.2.1 - t0 ≤ R.slots) (hk : am_W p l e R s m args below meth c b ex aC D M n0 t0 Q σ') : am_W p l e R s m args below meth c b ex aC D M n0 t0 Q (pc, lv, st, sh, mem) := by
  obtain ⟨hx, hb, hml, hown, hts, hK, hE, hlk, hrt, hnm, hfr, hok, hbs⟩ := hC
  intro H locs ls hrel
  obtain ⟨hP, hz, hlen, hbig, hS, hl⟩ := hrel
  dsimp only at hP hz hlen hbig hl ⊢
  simp only [am_ckI, Bool.and_eq_true] at hck
  obtain ⟨h1, h2⟩ := hck
  have e2 := Nat.eq_of_beq_eq_true h2
  obtain ⟨c1, c2, c3, c4⟩ := of_decide_eq_true h1
  subst e2
  rw [show pc + 2 - pc = 2 by omega] at hd
  simp only [am_ins, Option.some.injEq, Prod.mk.injEq, Sum.inl.injEq, true_and] at h
  subst h
  have hr := hE.2.2.2.1 (am_ps ps 0 - 2000) (by omega)
  rw [c4, show 2000 + (am_ps ps 0 - 2000) = am_ps ps 0 by omega] at hr
  rw [c1] at hown
  refine va_ldcS hx hb hown hr hd ?_
  have hq := hk H locs ls ⟨hP, hz, hlen, hbig, hS, hl⟩
  have ea : am_ad b ex (am_ps ps 0) = ex (am_ps ps 0) := by simp only [am_ad]; rw [if_neg (by omega)]
  simp only [List.map_cons, am_rn, Option.map_some, va_rf, ea] at hq
  exact hq
theorem am_s_iload {pc nx : Nat} {ps : List Nat} {k : Int} {kl : Int64} {lv : am_L} {st : List am_V} {sh : am_Sh} {mem : am_M} {σ' : am_S} {x : Nat} (hC : am_Ctx b ex aC D X M p R s m args meth c) (hd : decode (am_mb M) pc = .ok ((.iload x), nx - pc)) (hck : am_ckI M pc (.iload x) ps k kl nx = true) (h : am_ins X (.iload x) ps k kl nx lv st sh mem = some (true, .inl σ')) (hn : n0 ≤ sh.length ∧ t0 ≤ am_tot sh) (hR : σ'.2.2.2.1.length - n0 ≤ R.cells ∧ am_tot σ'.2.2.2.1 - t0 ≤ R.slots) (hk : am_W p l e R s m args below meth c b ex aC D M n0 t0 Q σ') : am_W p l e R s m args below meth c b ex aC D M n0 t0 Q (pc, lv, st, sh, mem) := by
  obtain ⟨hx, hb, hml, hown, hts, hK, hE, hlk, hrt, hnm, hfr, hok, hbs⟩ := hC
  intro H locs ls hrel
  obtain ⟨hP, hz, hlen, hbig, hS, hl⟩ := hrel
  dsimp only at hP hz hlen hbig hl ⊢
  simp only [am_ckI, Bool.and_eq_true] at hck
  have e1 := Nat.eq_of_beq_eq_true hck.1
  have e2 := Nat.eq_of_beq_eq_true hck.2
  subst e2
  rw [show pc + 2 - pc = 2 by omega] at hd
  simp only [am_ins] at h
  obtain ⟨v, hg, rfl⟩ := am_ldI_inv h
  rw [e1] at hg
  exact lv_iload hx hb hd (am_has_get hl hg) (hk H locs ls ⟨hP, hz, hlen, hbig, hS, hl⟩)
theorem am_s_iload_n {pc nx : Nat} {ps : List Nat} {k : Int} {kl : Int64} {lv : am_L} {st : List am_V} {sh : am_Sh} {mem : am_M} {σ' : am_S} {x : Fin 4} (hC : am_Ctx b ex aC D X M p R s m args meth c) (hd : decode (am_mb M) pc = .ok ((.iload_n x), nx - pc)) (hck : am_ckI M pc (.iload_n x) ps k kl nx = true) (h : am_ins X (.iload_n x) ps k kl nx lv st sh mem = some (true, .inl σ')) (hn : n0 ≤ sh.length ∧ t0 ≤ am_tot sh) (hR : σ'.2.2.2.1.length - n0 ≤ R.cells ∧ am_tot σ'.2.2.2.1 - t0 ≤ R.slots) (hk : am_W p l e R s m args below meth c b ex aC D M n0 t0 Q σ') : am_W p l e R s m args below meth c b ex aC D M n0 t0 Q (pc, lv, st, sh, mem) := by
  obtain ⟨hx, hb, hml, hown, hts, hK, hE, hlk, hrt, hnm, hfr, hok, hbs⟩ := hC
  intro H locs ls hrel
  obtain ⟨hP, hz, hlen, hbig, hS, hl⟩ := hrel
  dsimp only at hP hz hlen hbig hl ⊢
  simp only [am_ckI, Bool.and_eq_true] at hck
  have e1 := Nat.eq_of_beq_eq_true hck.1
  have e2 := Nat.eq_of_beq_eq_true hck.2
  subst e2
  rw [show pc + 1 - pc = 1 by omega] at hd
  simp only [am_ins] at h
  obtain ⟨v, hg, rfl⟩ := am_ldI_inv h
  rw [e1] at hg
  exact lv_iload_n hx hb hd rfl (am_has_get hl hg) (hk H locs ls ⟨hP, hz, hlen, hbig, hS, hl⟩)
theorem am_s_lload {pc nx : Nat} {ps : List Nat} {k : Int} {kl : Int64} {lv : am_L} {st : List am_V} {sh : am_Sh} {mem : am_M} {σ' : am_S} {x : Nat} (hC : am_Ctx b ex aC D X M p R s m args meth c) (hd : decode (am_mb M) pc = .ok ((.lload x), nx - pc)) (hck : am_ckI M pc (.lload x) ps k kl nx = true) (h : am_ins X (.lload x) ps k kl nx lv st sh mem = some (true, .inl σ')) (hn : n0 ≤ sh.length ∧ t0 ≤ am_tot sh) (hR : σ'.2.2.2.1.length - n0 ≤ R.cells ∧ am_tot σ'.2.2.2.1 - t0 ≤ R.slots) (hk : am_W p l e R s m args below meth c b ex aC D M n0 t0 Q σ') : am_W p l e R s m args below meth c b ex aC D M n0 t0 Q (pc, lv, st, sh, mem) := by
  obtain ⟨hx, hb, hml, hown, hts, hK, hE, hlk, hrt, hnm, hfr, hok, hbs⟩ := hC
  intro H locs ls hrel
  obtain ⟨hP, hz, hlen, hbig, hS, hl⟩ := hrel
  dsimp only at hP hz hlen hbig hl ⊢
  simp only [am_ckI, Bool.and_eq_true] at hck
  have e1 := Nat.eq_of_beq_eq_true hck.1
  have e2 := Nat.eq_of_beq_eq_true hck.2
  subst e2
  rw [show pc + 2 - pc = 2 by omega] at hd
  simp only [am_ins] at h
  obtain ⟨v, hg, rfl⟩ := am_ldL_inv h
  rw [e1] at hg
  exact lv_lload hx hb hd (am_has_get hl hg) (hk H locs ls ⟨hP, hz, hlen, hbig, hS, hl⟩)
theorem am_s_lload_n {pc nx : Nat} {ps : List Nat} {k : Int} {kl : Int64} {lv : am_L} {st : List am_V} {sh : am_Sh} {mem : am_M} {σ' : am_S} {x : Fin 4} (hC : am_Ctx b ex aC D X M p R s m args meth c) (hd : decode (am_mb M) pc = .ok ((.lload_n x), nx - pc)) (hck : am_ckI M pc (.lload_n x) ps k kl nx = true) (h : am_ins X (.lload_n x) ps k kl nx lv st sh mem = some (true, .inl σ')) (hn : n0 ≤ sh.length ∧ t0 ≤ am_tot sh) (hR : σ'.2.2.2.1.length - n0 ≤ R.cells ∧ am_tot σ'.2.2.2.1 - t0 ≤ R.slots) (hk : am_W p l e R s m args below meth c b ex aC D M n0 t0 Q σ') : am_W p l e R s m args below meth c b ex aC D M n0 t0 Q (pc, lv, st, sh, mem) := by
  obtain ⟨hx, hb, hml, hown, hts, hK, hE, hlk, hrt, hnm, hfr, hok, hbs⟩ := hC
  intro H locs ls hrel
  obtain ⟨hP, hz, hlen, hbig, hS, hl⟩ := hrel
  dsimp only at hP hz hlen hbig hl ⊢
  simp only [am_ckI, Bool.and_eq_true] at hck
  have e1 := Nat.eq_of_beq_eq_true hck.1
  have e2 := Nat.eq_of_beq_eq_true hck.2
  subst e2
  rw [show pc + 1 - pc = 1 by omega] at hd
  simp only [am_ins] at h
  obtain ⟨v, hg, rfl⟩ := am_ldL_inv h
  rw [e1] at hg
  exact lv_lload_n hx hb hd rfl (am_has_get hl hg) (hk H locs ls ⟨hP, hz, hlen, hbig, hS, hl⟩)
theorem am_s_aload {pc nx : Nat} {ps : List Nat} {k : Int} {kl : Int64} {lv : am_L} {st : List am_V} {sh : am_Sh} {mem : am_M} {σ' : am_S} {x : Nat} (hC : am_Ctx b ex aC D X M p R s m args meth c) (hd : decode (am_mb M) pc = .ok ((.aload x), nx - pc)) (hck : am_ckI M pc (.aload x) ps k kl nx = true) (h : am_ins X (.aload x) ps k kl nx lv st sh mem = some (true, .inl σ')) (hn : n0 ≤ sh.length ∧ t0 ≤ am_tot sh) (hR : σ'.2.2.2.1.length - n0 ≤ R.cells ∧ am_tot σ'.2.2.2.1 - t0 ≤ R.slots) (hk : am_W p l e R s m args below meth c b ex aC D M n0 t0 Q σ') : am_W p l e R s m args below meth c b ex aC D M n0 t0 Q (pc, lv, st, sh, mem) := by
  obtain ⟨hx, hb, hml, hown, hts, hK, hE, hlk, hrt, hnm, hfr, hok, hbs⟩ := hC
  intro H locs ls hrel
  obtain ⟨hP, hz, hlen, hbig, hS, hl⟩ := hrel
  dsimp only at hP hz hlen hbig hl ⊢
  simp only [am_ckI, Bool.and_eq_true] at hck
  have e1 := Nat.eq_of_beq_eq_true hck.1
  have e2 := Nat.eq_of_beq_eq_true hck.2
  subst e2
  rw [show pc + 2 - pc = 2 by omega] at hd
  simp only [am_ins] at h
  obtain ⟨v, hg, rfl⟩ := am_ldA_inv h
  rw [e1] at hg
  exact lv_aload hx hb hd (am_has_get hl hg) (hk H locs ls ⟨hP, hz, hlen, hbig, hS, hl⟩)
theorem am_s_aload_n {pc nx : Nat} {ps : List Nat} {k : Int} {kl : Int64} {lv : am_L} {st : List am_V} {sh : am_Sh} {mem : am_M} {σ' : am_S} {x : Fin 4} (hC : am_Ctx b ex aC D X M p R s m args meth c) (hd : decode (am_mb M) pc = .ok ((.aload_n x), nx - pc)) (hck : am_ckI M pc (.aload_n x) ps k kl nx = true) (h : am_ins X (.aload_n x) ps k kl nx lv st sh mem = some (true, .inl σ')) (hn : n0 ≤ sh.length ∧ t0 ≤ am_tot sh) (hR : σ'.2.2.2.1.length - n0 ≤ R.cells ∧ am_tot σ'.2.2.2.1 - t0 ≤ R.slots) (hk : am_W p l e R s m args below meth c b ex aC D M n0 t0 Q σ') : am_W p l e R s m args below meth c b ex aC D M n0 t0 Q (pc, lv, st, sh, mem) := by
  obtain ⟨hx, hb, hml, hown, hts, hK, hE, hlk, hrt, hnm, hfr, hok, hbs⟩ := hC
  intro H locs ls hrel
  obtain ⟨hP, hz, hlen, hbig, hS, hl⟩ := hrel
  dsimp only at hP hz hlen hbig hl ⊢
  simp only [am_ckI, Bool.and_eq_true] at hck
  have e1 := Nat.eq_of_beq_eq_true hck.1
  have e2 := Nat.eq_of_beq_eq_true hck.2
  subst e2
  rw [show pc + 1 - pc = 1 by omega] at hd
  simp only [am_ins] at h
  obtain ⟨v, hg, rfl⟩ := am_ldA_inv h
  rw [e1] at hg
  exact lv_aload_n hx hb hd rfl (am_has_get hl hg) (hk H locs ls ⟨hP, hz, hlen, hbig, hS, hl⟩)
theorem am_s_istore {pc nx : Nat} {ps : List Nat} {k : Int} {kl : Int64} {lv : am_L} {st : List am_V} {sh : am_Sh} {mem : am_M} {σ' : am_S} {x : Nat} (hC : am_Ctx b ex aC D X M p R s m args meth c) (hd : decode (am_mb M) pc = .ok ((.istore x), nx - pc)) (hck : am_ckI M pc (.istore x) ps k kl nx = true) (h : am_ins X (.istore x) ps k kl nx lv st sh mem = some (true, .inl σ')) (hn : n0 ≤ sh.length ∧ t0 ≤ am_tot sh) (hR : σ'.2.2.2.1.length - n0 ≤ R.cells ∧ am_tot σ'.2.2.2.1 - t0 ≤ R.slots) (hk : am_W p l e R s m args below meth c b ex aC D M n0 t0 Q σ') : am_W p l e R s m args below meth c b ex aC D M n0 t0 Q (pc, lv, st, sh, mem) := by
  obtain ⟨hx, hb, hml, hown, hts, hK, hE, hlk, hrt, hnm, hfr, hok, hbs⟩ := hC
  intro H locs ls hrel
  obtain ⟨hP, hz, hlen, hbig, hS, hl⟩ := hrel
  dsimp only at hP hz hlen hbig hl ⊢
  simp only [am_ckI, Bool.and_eq_true] at hck
  have e1 := Nat.eq_of_beq_eq_true hck.1.1
  have e2 := Nat.eq_of_beq_eq_true hck.1.2
  have e3 := am_blt hck.2
  subst e2
  rw [show pc + 2 - pc = 2 by omega] at hd
  simp only [am_ins] at h
  split at h
  · rename_i v st'
    simp only [Option.some.injEq, Prod.mk.injEq, Sum.inl.injEq, true_and] at h
    subst h
    rw [e1] at hk
    exact lv_istore hx hb hd hl e3 rfl (fun ls' hl' => hk H locs ls' ⟨hP, hz, hlen, hbig, hS, am_has_set hl'⟩)
  · cases h
theorem am_s_istore_n {pc nx : Nat} {ps : List Nat} {k : Int} {kl : Int64} {lv : am_L} {st : List am_V} {sh : am_Sh} {mem : am_M} {σ' : am_S} {x : Fin 4} (hC : am_Ctx b ex aC D X M p R s m args meth c) (hd : decode (am_mb M) pc = .ok ((.istore_n x), nx - pc)) (hck : am_ckI M pc (.istore_n x) ps k kl nx = true) (h : am_ins X (.istore_n x) ps k kl nx lv st sh mem = some (true, .inl σ')) (hn : n0 ≤ sh.length ∧ t0 ≤ am_tot sh) (hR : σ'.2.2.2.1.length - n0 ≤ R.cells ∧ am_tot σ'.2.2.2.1 - t0 ≤ R.slots) (hk : am_W p l e R s m args below meth c b ex aC D M n0 t0 Q σ') : am_W p l e R s m args below meth c b ex aC D M n0 t0 Q (pc, lv, st, sh, mem) := by
  obtain ⟨hx, hb, hml, hown, hts, hK, hE, hlk, hrt, hnm, hfr, hok, hbs⟩ := hC
  intro H locs ls hrel
  obtain ⟨hP, hz, hlen, hbig, hS, hl⟩ := hrel
  dsimp only at hP hz hlen hbig hl ⊢
  simp only [am_ckI, Bool.and_eq_true] at hck
  have e1 := Nat.eq_of_beq_eq_true hck.1.1
  have e2 := Nat.eq_of_beq_eq_true hck.1.2
  have e3 := am_blt hck.2
  subst e2
  rw [show pc + 1 - pc = 1 by omega] at hd
  simp only [am_ins] at h
  split at h
  · rename_i v st'
    simp only [Option.some.injEq, Prod.mk.injEq, Sum.inl.injEq, true_and] at h
    subst h
    rw [e1] at hk
    exact lv_istore_n hx hb hd rfl hl e3 rfl (fun ls' hl' => hk H locs ls' ⟨hP, hz, hlen, hbig, hS, am_has_set hl'⟩)
  · cases h
theorem am_s_lstore {pc nx : Nat} {ps : List Nat} {k : Int} {kl : Int64} {lv : am_L} {st : List am_V} {sh : am_Sh} {mem : am_M} {σ' : am_S} {x : Nat} (hC : am_Ctx b ex aC D X M p R s m args meth c) (hd : decode (am_mb M) pc = .ok ((.lstore x), nx - pc)) (hck : am_ckI M pc (.lstore x) ps k kl nx = true) (h : am_ins X (.lstore x) ps k kl nx lv st sh mem = some (true, .inl σ')) (hn : n0 ≤ sh.length ∧ t0 ≤ am_tot sh) (hR : σ'.2.2.2.1.length - n0 ≤ R.cells ∧ am_tot σ'.2.2.2.1 - t0 ≤ R.slots) (hk : am_W p l e R s m args below meth c b ex aC D M n0 t0 Q σ') : am_W p l e R s m args below meth c b ex aC D M n0 t0 Q (pc, lv, st, sh, mem) := by
  obtain ⟨hx, hb, hml, hown, hts, hK, hE, hlk, hrt, hnm, hfr, hok, hbs⟩ := hC
  intro H locs ls hrel
  obtain ⟨hP, hz, hlen, hbig, hS, hl⟩ := hrel
  dsimp only at hP hz hlen hbig hl ⊢
  simp only [am_ckI, Bool.and_eq_true] at hck
  have e1 := Nat.eq_of_beq_eq_true hck.1.1
  have e2 := Nat.eq_of_beq_eq_true hck.1.2
  have e3 := am_blt hck.2
  subst e2
  rw [show pc + 2 - pc = 2 by omega] at hd
  simp only [am_ins] at h
  split at h
  · rename_i v st'
    simp only [Option.some.injEq, Prod.mk.injEq, Sum.inl.injEq, true_and] at h
    subst h
    rw [e1] at hk
    exact lv_lstore hx hb hd hl e3 rfl (fun ls' hl' => hk H locs ls' ⟨hP, hz, hlen, hbig, hS, am_has_set2 hl'⟩)
  · cases h
theorem am_s_lstore_n {pc nx : Nat} {ps : List Nat} {k : Int} {kl : Int64} {lv : am_L} {st : List am_V} {sh : am_Sh} {mem : am_M} {σ' : am_S} {x : Fin 4} (hC : am_Ctx b ex aC D X M p R s m args meth c) (hd : decode (am_mb M) pc = .ok ((.lstore_n x), nx - pc)) (hck : am_ckI M pc (.lstore_n x) ps k kl nx = true) (h : am_ins X (.lstore_n x) ps k kl nx lv st sh mem = some (true, .inl σ')) (hn : n0 ≤ sh.length ∧ t0 ≤ am_tot sh) (hR : σ'.2.2.2.1.length - n0 ≤ R.cells ∧ am_tot σ'.2.2.2.1 - t0 ≤ R.slots) (hk : am_W p l e R s m args below meth c b ex aC D M n0 t0 Q σ') : am_W p l e R s m args below meth c b ex aC D M n0 t0 Q (pc, lv, st, sh, mem) := by
  obtain ⟨hx, hb, hml, hown, hts, hK, hE, hlk, hrt, hnm, hfr, hok, hbs⟩ := hC
  intro H locs ls hrel
  obtain ⟨hP, hz, hlen, hbig, hS, hl⟩ := hrel
  dsimp only at hP hz hlen hbig hl ⊢
  simp only [am_ckI, Bool.and_eq_true] at hck
  have e1 := Nat.eq_of_beq_eq_true hck.1.1
  have e2 := Nat.eq_of_beq_eq_true hck.1.2
  have e3 := am_blt hck.2
  subst e2
  rw [show pc + 1 - pc = 1 by omega] at hd
  simp only [am_ins] at h
  split at h
  · rename_i v st'
    simp only [Option.some.injEq, Prod.mk.injEq, Sum.inl.injEq, true_and] at h
    subst h
    rw [e1] at hk
    exact lv_lstore_n hx hb hd rfl hl e3 rfl (fun ls' hl' => hk H locs ls' ⟨hP, hz, hlen, hbig, hS, am_has_set2 hl'⟩)
  · cases h
theorem am_s_astore {pc nx : Nat} {ps : List Nat} {k : Int} {kl : Int64} {lv : am_L} {st : List am_V} {sh : am_Sh} {mem : am_M} {σ' : am_S} {x : Nat} (hC : am_Ctx b ex aC D X M p R s m args meth c) (hd : decode (am_mb M) pc = .ok ((.astore x), nx - pc)) (hck : am_ckI M pc (.astore x) ps k kl nx = true) (h : am_ins X (.astore x) ps k kl nx lv st sh mem = some (true, .inl σ')) (hn : n0 ≤ sh.length ∧ t0 ≤ am_tot sh) (hR : σ'.2.2.2.1.length - n0 ≤ R.cells ∧ am_tot σ'.2.2.2.1 - t0 ≤ R.slots) (hk : am_W p l e R s m args below meth c b ex aC D M n0 t0 Q σ') : am_W p l e R s m args below meth c b ex aC D M n0 t0 Q (pc, lv, st, sh, mem) := by
  obtain ⟨hx, hb, hml, hown, hts, hK, hE, hlk, hrt, hnm, hfr, hok, hbs⟩ := hC
  intro H locs ls hrel
  obtain ⟨hP, hz, hlen, hbig, hS, hl⟩ := hrel
  dsimp only at hP hz hlen hbig hl ⊢
  simp only [am_ckI, Bool.and_eq_true] at hck
  have e1 := Nat.eq_of_beq_eq_true hck.1.1
  have e2 := Nat.eq_of_beq_eq_true hck.1.2
  have e3 := am_blt hck.2
  subst e2
  rw [show pc + 2 - pc = 2 by omega] at hd
  simp only [am_ins] at h
  split at h
  · rename_i v st'
    simp only [Option.some.injEq, Prod.mk.injEq, Sum.inl.injEq, true_and] at h
    subst h
    rw [e1] at hk
    exact lv_astore hx hb hd hl e3 rfl (fun ls' hl' => hk H locs ls' ⟨hP, hz, hlen, hbig, hS, am_has_set hl'⟩)
  · cases h
theorem am_s_astore_n {pc nx : Nat} {ps : List Nat} {k : Int} {kl : Int64} {lv : am_L} {st : List am_V} {sh : am_Sh} {mem : am_M} {σ' : am_S} {x : Fin 4} (hC : am_Ctx b ex aC D X M p R s m args meth c) (hd : decode (am_mb M) pc = .ok ((.astore_n x), nx - pc)) (hck : am_ckI M pc (.astore_n x) ps k kl nx = true) (h : am_ins X (.astore_n x) ps k kl nx lv st sh mem = some (true, .inl σ')) (hn : n0 ≤ sh.length ∧ t0 ≤ am_tot sh) (hR : σ'.2.2.2.1.length - n0 ≤ R.cells ∧ am_tot σ'.2.2.2.1 - t0 ≤ R.slots) (hk : am_W p l e R s m args below meth c b ex aC D M n0 t0 Q σ') : am_W p l e R s m args below meth c b ex aC D M n0 t0 Q (pc, lv, st, sh, mem) := by
  obtain ⟨hx, hb, hml, hown, hts, hK, hE, hlk, hrt, hnm, hfr, hok, hbs⟩ := hC
  intro H locs ls hrel
  obtain ⟨hP, hz, hlen, hbig, hS, hl⟩ := hrel
  dsimp only at hP hz hlen hbig hl ⊢
  simp only [am_ckI, Bool.and_eq_true] at hck
  have e1 := Nat.eq_of_beq_eq_true hck.1.1
  have e2 := Nat.eq_of_beq_eq_true hck.1.2
  have e3 := am_blt hck.2
  subst e2
  rw [show pc + 1 - pc = 1 by omega] at hd
  simp only [am_ins] at h
  split at h
  · rename_i v st'
    simp only [Option.some.injEq, Prod.mk.injEq, Sum.inl.injEq, true_and] at h
    subst h
    rw [e1] at hk
    exact lv_astore_n hx hb hd rfl hl e3 rfl (fun ls' hl' => hk H locs ls' ⟨hP, hz, hlen, hbig, hS, am_has_set hl'⟩)
  · cases h
theorem am_s_iinc {pc nx : Nat} {ps : List Nat} {k : Int} {kl : Int64} {lv : am_L} {st : List am_V} {sh : am_Sh} {mem : am_M} {σ' : am_S} {x : Nat} {y : Int} (hC : am_Ctx b ex aC D X M p R s m args meth c) (hd : decode (am_mb M) pc = .ok ((.iinc x y), nx - pc)) (hck : am_ckI M pc (.iinc x y) ps k kl nx = true) (h : am_ins X (.iinc x y) ps k kl nx lv st sh mem = some (true, .inl σ')) (hn : n0 ≤ sh.length ∧ t0 ≤ am_tot sh) (hR : σ'.2.2.2.1.length - n0 ≤ R.cells ∧ am_tot σ'.2.2.2.1 - t0 ≤ R.slots) (hk : am_W p l e R s m args below meth c b ex aC D M n0 t0 Q σ') : am_W p l e R s m args below meth c b ex aC D M n0 t0 Q (pc, lv, st, sh, mem) := by
  obtain ⟨hx, hb, hml, hown, hts, hK, hE, hlk, hrt, hnm, hfr, hok, hbs⟩ := hC
  intro H locs ls hrel
  obtain ⟨hP, hz, hlen, hbig, hS, hl⟩ := hrel
  dsimp only at hP hz hlen hbig hl ⊢
  simp only [am_ckI, Bool.and_eq_true] at hck
  have e1 := Nat.eq_of_beq_eq_true hck.1.1.1
  have e0 := of_decide_eq_true hck.1.1.2
  have e2 := Nat.eq_of_beq_eq_true hck.1.2
  have e3 := am_blt hck.2
  subst e2
  rw [show pc + 3 - pc = 3 by omega] at hd
  simp only [am_ins] at h
  split at h
  · rename_i v hg
    simp only [Option.some.injEq, Prod.mk.injEq, Sum.inl.injEq, true_and] at h
    subst h
    rw [e1] at hk hg
    obtain ⟨kk, hkk⟩ := am_has_at (ad := am_ad b ex) hg
    refine lv_iinc (v := Int32.ofInt (v + k)) hx hb hd hl hkk (by rw [e0, Int32.ofInt_add]) e3 rfl (fun ls' hl' => hk H locs ls' ⟨hP, hz, hlen, hbig, hS, am_has_set (v := .inl (v + k)) hl'⟩)
  · cases h
theorem am_s_iadd {pc nx : Nat} {ps : List Nat} {k : Int} {kl : Int64} {lv : am_L} {st : List am_V} {sh : am_Sh} {mem : am_M} {σ' : am_S} (hC : am_Ctx b ex aC D X M p R s m args meth c) (hd : decode (am_mb M) pc = .ok (.iadd, nx - pc)) (hck : am_ckI M pc .iadd ps k kl nx = true) (h : am_ins X .iadd ps k kl nx lv st sh mem = some (true, .inl σ')) (hn : n0 ≤ sh.length ∧ t0 ≤ am_tot sh) (hR : σ'.2.2.2.1.length - n0 ≤ R.cells ∧ am_tot σ'.2.2.2.1 - t0 ≤ R.slots) (hk : am_W p l e R s m args below meth c b ex aC D M n0 t0 Q σ') : am_W p l e R s m args below meth c b ex aC D M n0 t0 Q (pc, lv, st, sh, mem) := by
  obtain ⟨hx, hb, hml, hown, hts, hK, hE, hlk, hrt, hnm, hfr, hok, hbs⟩ := hC
  intro H locs ls hrel
  obtain ⟨hP, hz, hlen, hbig, hS, hl⟩ := hrel
  dsimp only at hP hz hlen hbig hl ⊢
  have e2 := Nat.eq_of_beq_eq_true hck
  subst e2
  rw [show pc + 1 - pc = 1 by omega] at hd
  simp only [am_ins] at h
  obtain ⟨x, y, r, rfl, rfl⟩ := am_b2_inv h
  
  refine lv_iadd hx hb hd ?_
  rw [← Int32.ofInt_add]
  exact hk H locs ls ⟨hP, hz, hlen, hbig, hS, hl⟩
theorem am_s_isub {pc nx : Nat} {ps : List Nat} {k : Int} {kl : Int64} {lv : am_L} {st : List am_V} {sh : am_Sh} {mem : am_M} {σ' : am_S} (hC : am_Ctx b ex aC D X M p R s m args meth c) (hd : decode (am_mb M) pc = .ok (.isub, nx - pc)) (hck : am_ckI M pc .isub ps k kl nx = true) (h : am_ins X .isub ps k kl nx lv st sh mem = some (true, .inl σ')) (hn : n0 ≤ sh.length ∧ t0 ≤ am_tot sh) (hR : σ'.2.2.2.1.length - n0 ≤ R.cells ∧ am_tot σ'.2.2.2.1 - t0 ≤ R.slots) (hk : am_W p l e R s m args below meth c b ex aC D M n0 t0 Q σ') : am_W p l e R s m args below meth c b ex aC D M n0 t0 Q (pc, lv, st, sh, mem) := by
  obtain ⟨hx, hb, hml, hown, hts, hK, hE, hlk, hrt, hnm, hfr, hok, hbs⟩ := hC
  intro H locs ls hrel
  obtain ⟨hP, hz, hlen, hbig, hS, hl⟩ := hrel
  dsimp only at hP hz hlen hbig hl ⊢
  have e2 := Nat.eq_of_beq_eq_true hck
  subst e2
  rw [show pc + 1 - pc = 1 by omega] at hd
  simp only [am_ins] at h
  obtain ⟨x, y, r, rfl, rfl⟩ := am_b2_inv h
  
  refine lv_isub hx hb hd ?_
  rw [← Int32.ofInt_sub]
  exact hk H locs ls ⟨hP, hz, hlen, hbig, hS, hl⟩
theorem am_s_imul {pc nx : Nat} {ps : List Nat} {k : Int} {kl : Int64} {lv : am_L} {st : List am_V} {sh : am_Sh} {mem : am_M} {σ' : am_S} (hC : am_Ctx b ex aC D X M p R s m args meth c) (hd : decode (am_mb M) pc = .ok (.imul, nx - pc)) (hck : am_ckI M pc .imul ps k kl nx = true) (h : am_ins X .imul ps k kl nx lv st sh mem = some (true, .inl σ')) (hn : n0 ≤ sh.length ∧ t0 ≤ am_tot sh) (hR : σ'.2.2.2.1.length - n0 ≤ R.cells ∧ am_tot σ'.2.2.2.1 - t0 ≤ R.slots) (hk : am_W p l e R s m args below meth c b ex aC D M n0 t0 Q σ') : am_W p l e R s m args below meth c b ex aC D M n0 t0 Q (pc, lv, st, sh, mem) := by
  obtain ⟨hx, hb, hml, hown, hts, hK, hE, hlk, hrt, hnm, hfr, hok, hbs⟩ := hC
  intro H locs ls hrel
  obtain ⟨hP, hz, hlen, hbig, hS, hl⟩ := hrel
  dsimp only at hP hz hlen hbig hl ⊢
  have e2 := Nat.eq_of_beq_eq_true hck
  subst e2
  rw [show pc + 1 - pc = 1 by omega] at hd
  simp only [am_ins] at h
  obtain ⟨x, y, r, rfl, rfl⟩ := am_b2_inv h
  
  refine lv_imul hx hb hd ?_
  rw [← Int32.ofInt_mul]
  exact hk H locs ls ⟨hP, hz, hlen, hbig, hS, hl⟩
theorem am_s_iand {pc nx : Nat} {ps : List Nat} {k : Int} {kl : Int64} {lv : am_L} {st : List am_V} {sh : am_Sh} {mem : am_M} {σ' : am_S} (hC : am_Ctx b ex aC D X M p R s m args meth c) (hd : decode (am_mb M) pc = .ok (.iand, nx - pc)) (hck : am_ckI M pc .iand ps k kl nx = true) (h : am_ins X .iand ps k kl nx lv st sh mem = some (true, .inl σ')) (hn : n0 ≤ sh.length ∧ t0 ≤ am_tot sh) (hR : σ'.2.2.2.1.length - n0 ≤ R.cells ∧ am_tot σ'.2.2.2.1 - t0 ≤ R.slots) (hk : am_W p l e R s m args below meth c b ex aC D M n0 t0 Q σ') : am_W p l e R s m args below meth c b ex aC D M n0 t0 Q (pc, lv, st, sh, mem) := by
  obtain ⟨hx, hb, hml, hown, hts, hK, hE, hlk, hrt, hnm, hfr, hok, hbs⟩ := hC
  intro H locs ls hrel
  obtain ⟨hP, hz, hlen, hbig, hS, hl⟩ := hrel
  dsimp only at hP hz hlen hbig hl ⊢
  have e2 := Nat.eq_of_beq_eq_true hck
  subst e2
  rw [show pc + 1 - pc = 1 by omega] at hd
  simp only [am_ins] at h
  obtain ⟨x, y, r, rfl, rfl⟩ := am_b2_inv h
  
  refine lv_iand hx hb hd ?_
  have hq := hk H locs ls ⟨hP, hz, hlen, hbig, hS, hl⟩
  simp only [List.map_cons, am_rn, am_and, am_bit, Int32.ofInt_toInt] at hq
  exact hq
theorem am_s_ior {pc nx : Nat} {ps : List Nat} {k : Int} {kl : Int64} {lv : am_L} {st : List am_V} {sh : am_Sh} {mem : am_M} {σ' : am_S} (hC : am_Ctx b ex aC D X M p R s m args meth c) (hd : decode (am_mb M) pc = .ok (.ior, nx - pc)) (hck : am_ckI M pc .ior ps k kl nx = true) (h : am_ins X .ior ps k kl nx lv st sh mem = some (true, .inl σ')) (hn : n0 ≤ sh.length ∧ t0 ≤ am_tot sh) (hR : σ'.2.2.2.1.length - n0 ≤ R.cells ∧ am_tot σ'.2.2.2.1 - t0 ≤ R.slots) (hk : am_W p l e R s m args below meth c b ex aC D M n0 t0 Q σ') : am_W p l e R s m args below meth c b ex aC D M n0 t0 Q (pc, lv, st, sh, mem) := by
  obtain ⟨hx, hb, hml, hown, hts, hK, hE, hlk, hrt, hnm, hfr, hok, hbs⟩ := hC
  intro H locs ls hrel
  obtain ⟨hP, hz, hlen, hbig, hS, hl⟩ := hrel
  dsimp only at hP hz hlen hbig hl ⊢
  have e2 := Nat.eq_of_beq_eq_true hck
  subst e2
  rw [show pc + 1 - pc = 1 by omega] at hd
  simp only [am_ins] at h
  obtain ⟨x, y, r, rfl, rfl⟩ := am_b2_inv h
  
  refine lv_ior hx hb hd ?_
  have hq := hk H locs ls ⟨hP, hz, hlen, hbig, hS, hl⟩
  simp only [List.map_cons, am_rn, am_or, am_bit, Int32.ofInt_toInt] at hq
  exact hq
theorem am_s_ixor {pc nx : Nat} {ps : List Nat} {k : Int} {kl : Int64} {lv : am_L} {st : List am_V} {sh : am_Sh} {mem : am_M} {σ' : am_S} (hC : am_Ctx b ex aC D X M p R s m args meth c) (hd : decode (am_mb M) pc = .ok (.ixor, nx - pc)) (hck : am_ckI M pc .ixor ps k kl nx = true) (h : am_ins X .ixor ps k kl nx lv st sh mem = some (true, .inl σ')) (hn : n0 ≤ sh.length ∧ t0 ≤ am_tot sh) (hR : σ'.2.2.2.1.length - n0 ≤ R.cells ∧ am_tot σ'.2.2.2.1 - t0 ≤ R.slots) (hk : am_W p l e R s m args below meth c b ex aC D M n0 t0 Q σ') : am_W p l e R s m args below meth c b ex aC D M n0 t0 Q (pc, lv, st, sh, mem) := by
  obtain ⟨hx, hb, hml, hown, hts, hK, hE, hlk, hrt, hnm, hfr, hok, hbs⟩ := hC
  intro H locs ls hrel
  obtain ⟨hP, hz, hlen, hbig, hS, hl⟩ := hrel
  dsimp only at hP hz hlen hbig hl ⊢
  have e2 := Nat.eq_of_beq_eq_true hck
  subst e2
  rw [show pc + 1 - pc = 1 by omega] at hd
  simp only [am_ins] at h
  obtain ⟨x, y, r, rfl, rfl⟩ := am_b2_inv h
  
  refine lv_ixor hx hb hd ?_
  have hq := hk H locs ls ⟨hP, hz, hlen, hbig, hS, hl⟩
  simp only [List.map_cons, am_rn, am_xor, am_bit, Int32.ofInt_toInt] at hq
  exact hq
theorem am_s_ishl {pc nx : Nat} {ps : List Nat} {k : Int} {kl : Int64} {lv : am_L} {st : List am_V} {sh : am_Sh} {mem : am_M} {σ' : am_S} (hC : am_Ctx b ex aC D X M p R s m args meth c) (hd : decode (am_mb M) pc = .ok (.ishl, nx - pc)) (hck : am_ckI M pc .ishl ps k kl nx = true) (h : am_ins X .ishl ps k kl nx lv st sh mem = some (true, .inl σ')) (hn : n0 ≤ sh.length ∧ t0 ≤ am_tot sh) (hR : σ'.2.2.2.1.length - n0 ≤ R.cells ∧ am_tot σ'.2.2.2.1 - t0 ≤ R.slots) (hk : am_W p l e R s m args below meth c b ex aC D M n0 t0 Q σ') : am_W p l e R s m args below meth c b ex aC D M n0 t0 Q (pc, lv, st, sh, mem) := by
  obtain ⟨hx, hb, hml, hown, hts, hK, hE, hlk, hrt, hnm, hfr, hok, hbs⟩ := hC
  intro H locs ls hrel
  obtain ⟨hP, hz, hlen, hbig, hS, hl⟩ := hrel
  dsimp only at hP hz hlen hbig hl ⊢
  have e2 := Nat.eq_of_beq_eq_true hck
  subst e2
  rw [show pc + 1 - pc = 1 by omega] at hd
  simp only [am_ins] at h
  obtain ⟨x, y, r, rfl, rfl⟩ := am_b2_inv h
  
  refine lv_ishl hx hb hd ?_
  have hq := hk H locs ls ⟨hP, hz, hlen, hbig, hS, hl⟩
  simp only [List.map_cons, am_rn, am_shl, am_bit, Int32.ofInt_toInt] at hq
  exact hq
theorem am_s_ishr {pc nx : Nat} {ps : List Nat} {k : Int} {kl : Int64} {lv : am_L} {st : List am_V} {sh : am_Sh} {mem : am_M} {σ' : am_S} (hC : am_Ctx b ex aC D X M p R s m args meth c) (hd : decode (am_mb M) pc = .ok (.ishr, nx - pc)) (hck : am_ckI M pc .ishr ps k kl nx = true) (h : am_ins X .ishr ps k kl nx lv st sh mem = some (true, .inl σ')) (hn : n0 ≤ sh.length ∧ t0 ≤ am_tot sh) (hR : σ'.2.2.2.1.length - n0 ≤ R.cells ∧ am_tot σ'.2.2.2.1 - t0 ≤ R.slots) (hk : am_W p l e R s m args below meth c b ex aC D M n0 t0 Q σ') : am_W p l e R s m args below meth c b ex aC D M n0 t0 Q (pc, lv, st, sh, mem) := by
  obtain ⟨hx, hb, hml, hown, hts, hK, hE, hlk, hrt, hnm, hfr, hok, hbs⟩ := hC
  intro H locs ls hrel
  obtain ⟨hP, hz, hlen, hbig, hS, hl⟩ := hrel
  dsimp only at hP hz hlen hbig hl ⊢
  have e2 := Nat.eq_of_beq_eq_true hck
  subst e2
  rw [show pc + 1 - pc = 1 by omega] at hd
  simp only [am_ins] at h
  obtain ⟨x, y, r, rfl, rfl⟩ := am_b2_inv h
  
  refine lv_ishr hx hb hd ?_
  have hq := hk H locs ls ⟨hP, hz, hlen, hbig, hS, hl⟩
  simp only [List.map_cons, am_rn, am_shr, am_bit, Int32.ofInt_toInt] at hq
  exact hq
theorem am_s_idiv {pc nx : Nat} {ps : List Nat} {k : Int} {kl : Int64} {lv : am_L} {st : List am_V} {sh : am_Sh} {mem : am_M} {σ' : am_S} (hC : am_Ctx b ex aC D X M p R s m args meth c) (hd : decode (am_mb M) pc = .ok (.idiv, nx - pc)) (hck : am_ckI M pc .idiv ps k kl nx = true) (h : am_ins X .idiv ps k kl nx lv st sh mem = some (true, .inl σ')) (hn : n0 ≤ sh.length ∧ t0 ≤ am_tot sh) (hR : σ'.2.2.2.1.length - n0 ≤ R.cells ∧ am_tot σ'.2.2.2.1 - t0 ≤ R.slots) (hk : am_W p l e R s m args below meth c b ex aC D M n0 t0 Q σ') : am_W p l e R s m args below meth c b ex aC D M n0 t0 Q (pc, lv, st, sh, mem) := by
  obtain ⟨hx, hb, hml, hown, hts, hK, hE, hlk, hrt, hnm, hfr, hok, hbs⟩ := hC
  intro H locs ls hrel
  obtain ⟨hP, hz, hlen, hbig, hS, hl⟩ := hrel
  dsimp only at hP hz hlen hbig hl ⊢
  have e2 := Nat.eq_of_beq_eq_true hck
  subst e2
  rw [show pc + 1 - pc = 1 by omega] at hd
  simp only [am_ins] at h
  obtain ⟨x, y, r, rfl, rfl, g1, g2⟩ := am_d2_inv h
  
  refine lv_idiv hx hb hd (am_ne0 g1.1 g1.2) ?_
  rw [am_div g2 g1.1 g1.2]
  exact hk H locs ls ⟨hP, hz, hlen, hbig, hS, hl⟩
theorem am_s_irem {pc nx : Nat} {ps : List Nat} {k : Int} {kl : Int64} {lv : am_L} {st : List am_V} {sh : am_Sh} {mem : am_M} {σ' : am_S} (hC : am_Ctx b ex aC D X M p R s m args meth c) (hd : decode (am_mb M) pc = .ok (.irem, nx - pc)) (hck : am_ckI M pc .irem ps k kl nx = true) (h : am_ins X .irem ps k kl nx lv st sh mem = some (true, .inl σ')) (hn : n0 ≤ sh.length ∧ t0 ≤ am_tot sh) (hR : σ'.2.2.2.1.length - n0 ≤ R.cells ∧ am_tot σ'.2.2.2.1 - t0 ≤ R.slots) (hk : am_W p l e R s m args below meth c b ex aC D M n0 t0 Q σ') : am_W p l e R s m args below meth c b ex aC D M n0 t0 Q (pc, lv, st, sh, mem) := by
  obtain ⟨hx, hb, hml, hown, hts, hK, hE, hlk, hrt, hnm, hfr, hok, hbs⟩ := hC
  intro H locs ls hrel
  obtain ⟨hP, hz, hlen, hbig, hS, hl⟩ := hrel
  dsimp only at hP hz hlen hbig hl ⊢
  have e2 := Nat.eq_of_beq_eq_true hck
  subst e2
  rw [show pc + 1 - pc = 1 by omega] at hd
  simp only [am_ins] at h
  obtain ⟨x, y, r, rfl, rfl, g1, g2⟩ := am_d2_inv h
  
  refine lv_irem hx hb hd (am_ne0 g1.1 g1.2) ?_
  rw [am_rem g2 g1.1 g1.2]
  exact hk H locs ls ⟨hP, hz, hlen, hbig, hS, hl⟩
theorem am_s_ineg {pc nx : Nat} {ps : List Nat} {k : Int} {kl : Int64} {lv : am_L} {st : List am_V} {sh : am_Sh} {mem : am_M} {σ' : am_S} (hC : am_Ctx b ex aC D X M p R s m args meth c) (hd : decode (am_mb M) pc = .ok (.ineg, nx - pc)) (hck : am_ckI M pc .ineg ps k kl nx = true) (h : am_ins X .ineg ps k kl nx lv st sh mem = some (true, .inl σ')) (hn : n0 ≤ sh.length ∧ t0 ≤ am_tot sh) (hR : σ'.2.2.2.1.length - n0 ≤ R.cells ∧ am_tot σ'.2.2.2.1 - t0 ≤ R.slots) (hk : am_W p l e R s m args below meth c b ex aC D M n0 t0 Q σ') : am_W p l e R s m args below meth c b ex aC D M n0 t0 Q (pc, lv, st, sh, mem) := by
  obtain ⟨hx, hb, hml, hown, hts, hK, hE, hlk, hrt, hnm, hfr, hok, hbs⟩ := hC
  intro H locs ls hrel
  obtain ⟨hP, hz, hlen, hbig, hS, hl⟩ := hrel
  dsimp only at hP hz hlen hbig hl ⊢
  have e2 := Nat.eq_of_beq_eq_true hck
  subst e2
  rw [show pc + 1 - pc = 1 by omega] at hd
  simp only [am_ins] at h
  obtain ⟨x, r, rfl, rfl⟩ := am_u1_inv h
  
  refine lv_ineg hx hb hd ?_
  rw [← Int32.ofInt_neg]
  exact hk H locs ls ⟨hP, hz, hlen, hbig, hS, hl⟩
theorem am_s_i2b {pc nx : Nat} {ps : List Nat} {k : Int} {kl : Int64} {lv : am_L} {st : List am_V} {sh : am_Sh} {mem : am_M} {σ' : am_S} (hC : am_Ctx b ex aC D X M p R s m args meth c) (hd : decode (am_mb M) pc = .ok (.i2b, nx - pc)) (hck : am_ckI M pc .i2b ps k kl nx = true) (h : am_ins X .i2b ps k kl nx lv st sh mem = some (true, .inl σ')) (hn : n0 ≤ sh.length ∧ t0 ≤ am_tot sh) (hR : σ'.2.2.2.1.length - n0 ≤ R.cells ∧ am_tot σ'.2.2.2.1 - t0 ≤ R.slots) (hk : am_W p l e R s m args below meth c b ex aC D M n0 t0 Q σ') : am_W p l e R s m args below meth c b ex aC D M n0 t0 Q (pc, lv, st, sh, mem) := by
  obtain ⟨hx, hb, hml, hown, hts, hK, hE, hlk, hrt, hnm, hfr, hok, hbs⟩ := hC
  intro H locs ls hrel
  obtain ⟨hP, hz, hlen, hbig, hS, hl⟩ := hrel
  dsimp only at hP hz hlen hbig hl ⊢
  have e2 := Nat.eq_of_beq_eq_true hck
  subst e2
  rw [show pc + 1 - pc = 1 by omega] at hd
  simp only [am_ins] at h
  obtain ⟨x, r, rfl, rfl⟩ := am_u1_inv h
  
  refine lv_i2b hx hb hd rfl ?_
  have hq := hk H locs ls ⟨hP, hz, hlen, hbig, hS, hl⟩
  simp only [List.map_cons, am_rn, am_i2b, Int32.ofInt_toInt] at hq
  exact hq
theorem am_s_i2s {pc nx : Nat} {ps : List Nat} {k : Int} {kl : Int64} {lv : am_L} {st : List am_V} {sh : am_Sh} {mem : am_M} {σ' : am_S} (hC : am_Ctx b ex aC D X M p R s m args meth c) (hd : decode (am_mb M) pc = .ok (.i2s, nx - pc)) (hck : am_ckI M pc .i2s ps k kl nx = true) (h : am_ins X .i2s ps k kl nx lv st sh mem = some (true, .inl σ')) (hn : n0 ≤ sh.length ∧ t0 ≤ am_tot sh) (hR : σ'.2.2.2.1.length - n0 ≤ R.cells ∧ am_tot σ'.2.2.2.1 - t0 ≤ R.slots) (hk : am_W p l e R s m args below meth c b ex aC D M n0 t0 Q σ') : am_W p l e R s m args below meth c b ex aC D M n0 t0 Q (pc, lv, st, sh, mem) := by
  obtain ⟨hx, hb, hml, hown, hts, hK, hE, hlk, hrt, hnm, hfr, hok, hbs⟩ := hC
  intro H locs ls hrel
  obtain ⟨hP, hz, hlen, hbig, hS, hl⟩ := hrel
  dsimp only at hP hz hlen hbig hl ⊢
  have e2 := Nat.eq_of_beq_eq_true hck
  subst e2
  rw [show pc + 1 - pc = 1 by omega] at hd
  simp only [am_ins] at h
  obtain ⟨x, r, rfl, rfl⟩ := am_u1_inv h
  
  refine lv_i2s hx hb hd rfl ?_
  have hq := hk H locs ls ⟨hP, hz, hlen, hbig, hS, hl⟩
  simp only [List.map_cons, am_rn, am_i2s, Int32.ofInt_toInt] at hq
  exact hq
theorem am_s_i2c {pc nx : Nat} {ps : List Nat} {k : Int} {kl : Int64} {lv : am_L} {st : List am_V} {sh : am_Sh} {mem : am_M} {σ' : am_S} (hC : am_Ctx b ex aC D X M p R s m args meth c) (hd : decode (am_mb M) pc = .ok (.i2c, nx - pc)) (hck : am_ckI M pc .i2c ps k kl nx = true) (h : am_ins X .i2c ps k kl nx lv st sh mem = some (true, .inl σ')) (hn : n0 ≤ sh.length ∧ t0 ≤ am_tot sh) (hR : σ'.2.2.2.1.length - n0 ≤ R.cells ∧ am_tot σ'.2.2.2.1 - t0 ≤ R.slots) (hk : am_W p l e R s m args below meth c b ex aC D M n0 t0 Q σ') : am_W p l e R s m args below meth c b ex aC D M n0 t0 Q (pc, lv, st, sh, mem) := by
  obtain ⟨hx, hb, hml, hown, hts, hK, hE, hlk, hrt, hnm, hfr, hok, hbs⟩ := hC
  intro H locs ls hrel
  obtain ⟨hP, hz, hlen, hbig, hS, hl⟩ := hrel
  dsimp only at hP hz hlen hbig hl ⊢
  have e2 := Nat.eq_of_beq_eq_true hck
  subst e2
  rw [show pc + 1 - pc = 1 by omega] at hd
  simp only [am_ins] at h
  obtain ⟨x, r, rfl, rfl⟩ := am_u1_inv h
  
  refine lv_i2c hx hb hd rfl ?_
  have hq := hk H locs ls ⟨hP, hz, hlen, hbig, hS, hl⟩
  simp only [List.map_cons, am_rn, am_i2c, Int32.ofInt_toInt] at hq
  exact hq
theorem am_s_ladd {pc nx : Nat} {ps : List Nat} {k : Int} {kl : Int64} {lv : am_L} {st : List am_V} {sh : am_Sh} {mem : am_M} {σ' : am_S} (hC : am_Ctx b ex aC D X M p R s m args meth c) (hd : decode (am_mb M) pc = .ok (.ladd, nx - pc)) (hck : am_ckI M pc .ladd ps k kl nx = true) (h : am_ins X .ladd ps k kl nx lv st sh mem = some (true, .inl σ')) (hn : n0 ≤ sh.length ∧ t0 ≤ am_tot sh) (hR : σ'.2.2.2.1.length - n0 ≤ R.cells ∧ am_tot σ'.2.2.2.1 - t0 ≤ R.slots) (hk : am_W p l e R s m args below meth c b ex aC D M n0 t0 Q σ') : am_W p l e R s m args below meth c b ex aC D M n0 t0 Q (pc, lv, st, sh, mem) := by
  obtain ⟨hx, hb, hml, hown, hts, hK, hE, hlk, hrt, hnm, hfr, hok, hbs⟩ := hC
  intro H locs ls hrel
  obtain ⟨hP, hz, hlen, hbig, hS, hl⟩ := hrel
  dsimp only at hP hz hlen hbig hl ⊢
  have e2 := Nat.eq_of_beq_eq_true hck
  subst e2
  rw [show pc + 1 - pc = 1 by omega] at hd
  simp only [am_ins] at h
  obtain ⟨x, y, r, rfl, rfl⟩ := am_bl_inv h
  
  exact lv_ladd hx hb hd (hk H locs ls ⟨hP, hz, hlen, hbig, hS, hl⟩)
theorem am_s_lsub {pc nx : Nat} {ps : List Nat} {k : Int} {kl : Int64} {lv : am_L} {st : List am_V} {sh : am_Sh} {mem : am_M} {σ' : am_S} (hC : am_Ctx b ex aC D X M p R s m args meth c) (hd : decode (am_mb M) pc = .ok (.lsub, nx - pc)) (hck : am_ckI M pc .lsub ps k kl nx = true) (h : am_ins X .lsub ps k kl nx lv st sh mem = some (true, .inl σ')) (hn : n0 ≤ sh.length ∧ t0 ≤ am_tot sh) (hR : σ'.2.2.2.1.length - n0 ≤ R.cells ∧ am_tot σ'.2.2.2.1 - t0 ≤ R.slots) (hk : am_W p l e R s m args below meth c b ex aC D M n0 t0 Q σ') : am_W p l e R s m args below meth c b ex aC D M n0 t0 Q (pc, lv, st, sh, mem) := by
  obtain ⟨hx, hb, hml, hown, hts, hK, hE, hlk, hrt, hnm, hfr, hok, hbs⟩ := hC
  intro H locs ls hrel
  obtain ⟨hP, hz, hlen, hbig, hS, hl⟩ := hrel
  dsimp only at hP hz hlen hbig hl ⊢
  have e2 := Nat.eq_of_beq_eq_true hck
  subst e2
  rw [show pc + 1 - pc = 1 by omega] at hd
  simp only [am_ins] at h
  obtain ⟨x, y, r, rfl, rfl⟩ := am_bl_inv h
  
  exact lv_lsub hx hb hd (hk H locs ls ⟨hP, hz, hlen, hbig, hS, hl⟩)
theorem am_s_lmul {pc nx : Nat} {ps : List Nat} {k : Int} {kl : Int64} {lv : am_L} {st : List am_V} {sh : am_Sh} {mem : am_M} {σ' : am_S} (hC : am_Ctx b ex aC D X M p R s m args meth c) (hd : decode (am_mb M) pc = .ok (.lmul, nx - pc)) (hck : am_ckI M pc .lmul ps k kl nx = true) (h : am_ins X .lmul ps k kl nx lv st sh mem = some (true, .inl σ')) (hn : n0 ≤ sh.length ∧ t0 ≤ am_tot sh) (hR : σ'.2.2.2.1.length - n0 ≤ R.cells ∧ am_tot σ'.2.2.2.1 - t0 ≤ R.slots) (hk : am_W p l e R s m args below meth c b ex aC D M n0 t0 Q σ') : am_W p l e R s m args below meth c b ex aC D M n0 t0 Q (pc, lv, st, sh, mem) := by
  obtain ⟨hx, hb, hml, hown, hts, hK, hE, hlk, hrt, hnm, hfr, hok, hbs⟩ := hC
  intro H locs ls hrel
  obtain ⟨hP, hz, hlen, hbig, hS, hl⟩ := hrel
  dsimp only at hP hz hlen hbig hl ⊢
  have e2 := Nat.eq_of_beq_eq_true hck
  subst e2
  rw [show pc + 1 - pc = 1 by omega] at hd
  simp only [am_ins] at h
  obtain ⟨x, y, r, rfl, rfl⟩ := am_bl_inv h
  
  exact lv_lmul hx hb hd (hk H locs ls ⟨hP, hz, hlen, hbig, hS, hl⟩)
theorem am_s_land {pc nx : Nat} {ps : List Nat} {k : Int} {kl : Int64} {lv : am_L} {st : List am_V} {sh : am_Sh} {mem : am_M} {σ' : am_S} (hC : am_Ctx b ex aC D X M p R s m args meth c) (hd : decode (am_mb M) pc = .ok (.land, nx - pc)) (hck : am_ckI M pc .land ps k kl nx = true) (h : am_ins X .land ps k kl nx lv st sh mem = some (true, .inl σ')) (hn : n0 ≤ sh.length ∧ t0 ≤ am_tot sh) (hR : σ'.2.2.2.1.length - n0 ≤ R.cells ∧ am_tot σ'.2.2.2.1 - t0 ≤ R.slots) (hk : am_W p l e R s m args below meth c b ex aC D M n0 t0 Q σ') : am_W p l e R s m args below meth c b ex aC D M n0 t0 Q (pc, lv, st, sh, mem) := by
  obtain ⟨hx, hb, hml, hown, hts, hK, hE, hlk, hrt, hnm, hfr, hok, hbs⟩ := hC
  intro H locs ls hrel
  obtain ⟨hP, hz, hlen, hbig, hS, hl⟩ := hrel
  dsimp only at hP hz hlen hbig hl ⊢
  have e2 := Nat.eq_of_beq_eq_true hck
  subst e2
  rw [show pc + 1 - pc = 1 by omega] at hd
  simp only [am_ins] at h
  obtain ⟨x, y, r, rfl, rfl⟩ := am_bl_inv h
  
  exact lv_land hx hb hd (hk H locs ls ⟨hP, hz, hlen, hbig, hS, hl⟩)
theorem am_s_lor {pc nx : Nat} {ps : List Nat} {k : Int} {kl : Int64} {lv : am_L} {st : List am_V} {sh : am_Sh} {mem : am_M} {σ' : am_S} (hC : am_Ctx b ex aC D X M p R s m args meth c) (hd : decode (am_mb M) pc = .ok (.lor, nx - pc)) (hck : am_ckI M pc .lor ps k kl nx = true) (h : am_ins X .lor ps k kl nx lv st sh mem = some (true, .inl σ')) (hn : n0 ≤ sh.length ∧ t0 ≤ am_tot sh) (hR : σ'.2.2.2.1.length - n0 ≤ R.cells ∧ am_tot σ'.2.2.2.1 - t0 ≤ R.slots) (hk : am_W p l e R s m args below meth c b ex aC D M n0 t0 Q σ') : am_W p l e R s m args below meth c b ex aC D M n0 t0 Q (pc, lv, st, sh, mem) := by
  obtain ⟨hx, hb, hml, hown, hts, hK, hE, hlk, hrt, hnm, hfr, hok, hbs⟩ := hC
  intro H locs ls hrel
  obtain ⟨hP, hz, hlen, hbig, hS, hl⟩ := hrel
  dsimp only at hP hz hlen hbig hl ⊢
  have e2 := Nat.eq_of_beq_eq_true hck
  subst e2
  rw [show pc + 1 - pc = 1 by omega] at hd
  simp only [am_ins] at h
  obtain ⟨x, y, r, rfl, rfl⟩ := am_bl_inv h
  
  exact lv_lor hx hb hd (hk H locs ls ⟨hP, hz, hlen, hbig, hS, hl⟩)
theorem am_s_lshl {pc nx : Nat} {ps : List Nat} {k : Int} {kl : Int64} {lv : am_L} {st : List am_V} {sh : am_Sh} {mem : am_M} {σ' : am_S} (hC : am_Ctx b ex aC D X M p R s m args meth c) (hd : decode (am_mb M) pc = .ok (.lshl, nx - pc)) (hck : am_ckI M pc .lshl ps k kl nx = true) (h : am_ins X .lshl ps k kl nx lv st sh mem = some (true, .inl σ')) (hn : n0 ≤ sh.length ∧ t0 ≤ am_tot sh) (hR : σ'.2.2.2.1.length - n0 ≤ R.cells ∧ am_tot σ'.2.2.2.1 - t0 ≤ R.slots) (hk : am_W p l e R s m args below meth c b ex aC D M n0 t0 Q σ') : am_W p l e R s m args below meth c b ex aC D M n0 t0 Q (pc, lv, st, sh, mem) := by
  obtain ⟨hx, hb, hml, hown, hts, hK, hE, hlk, hrt, hnm, hfr, hok, hbs⟩ := hC
  intro H locs ls hrel
  obtain ⟨hP, hz, hlen, hbig, hS, hl⟩ := hrel
  dsimp only at hP hz hlen hbig hl ⊢
  have e2 := Nat.eq_of_beq_eq_true hck
  subst e2
  rw [show pc + 1 - pc = 1 by omega] at hd
  simp only [am_ins] at h
  obtain ⟨x, y, r, rfl, rfl⟩ := am_sl_inv h
  
  exact lv_lshl hx hb hd rfl (hk H locs ls ⟨hP, hz, hlen, hbig, hS, hl⟩)
theorem am_s_lshr {pc nx : Nat} {ps : List Nat} {k : Int} {kl : Int64} {lv : am_L} {st : List am_V} {sh : am_Sh} {mem : am_M} {σ' : am_S} (hC : am_Ctx b ex aC D X M p R s m args meth c) (hd : decode (am_mb M) pc = .ok (.lshr, nx - pc)) (hck : am_ckI M pc .lshr ps k kl nx = true) (h : am_ins X .lshr ps k kl nx lv st sh mem = some (true, .inl σ')) (hn : n0 ≤ sh.length ∧ t0 ≤ am_tot sh) (hR : σ'.2.2.2.1.length - n0 ≤ R.cells ∧ am_tot σ'.2.2.2.1 - t0 ≤ R.slots) (hk : am_W p l e R s m args below meth c b ex aC D M n0 t0 Q σ') : am_W p l e R s m args below meth c b ex aC D M n0 t0 Q (pc, lv, st, sh, mem) := by
  obtain ⟨hx, hb, hml, hown, hts, hK, hE, hlk, hrt, hnm, hfr, hok, hbs⟩ := hC
  intro H locs ls hrel
  obtain ⟨hP, hz, hlen, hbig, hS, hl⟩ := hrel
  dsimp only at hP hz hlen hbig hl ⊢
  have e2 := Nat.eq_of_beq_eq_true hck
  subst e2
  rw [show pc + 1 - pc = 1 by omega] at hd
  simp only [am_ins] at h
  obtain ⟨x, y, r, rfl, rfl⟩ := am_sl_inv h
  
  exact lv_lshr hx hb hd rfl (hk H locs ls ⟨hP, hz, hlen, hbig, hS, hl⟩)
theorem am_s_lushr {pc nx : Nat} {ps : List Nat} {k : Int} {kl : Int64} {lv : am_L} {st : List am_V} {sh : am_Sh} {mem : am_M} {σ' : am_S} (hC : am_Ctx b ex aC D X M p R s m args meth c) (hd : decode (am_mb M) pc = .ok (.lushr, nx - pc)) (hck : am_ckI M pc .lushr ps k kl nx = true) (h : am_ins X .lushr ps k kl nx lv st sh mem = some (true, .inl σ')) (hn : n0 ≤ sh.length ∧ t0 ≤ am_tot sh) (hR : σ'.2.2.2.1.length - n0 ≤ R.cells ∧ am_tot σ'.2.2.2.1 - t0 ≤ R.slots) (hk : am_W p l e R s m args below meth c b ex aC D M n0 t0 Q σ') : am_W p l e R s m args below meth c b ex aC D M n0 t0 Q (pc, lv, st, sh, mem) := by
  obtain ⟨hx, hb, hml, hown, hts, hK, hE, hlk, hrt, hnm, hfr, hok, hbs⟩ := hC
  intro H locs ls hrel
  obtain ⟨hP, hz, hlen, hbig, hS, hl⟩ := hrel
  dsimp only at hP hz hlen hbig hl ⊢
  have e2 := Nat.eq_of_beq_eq_true hck
  subst e2
  rw [show pc + 1 - pc = 1 by omega] at hd
  simp only [am_ins] at h
  obtain ⟨x, y, r, rfl, rfl⟩ := am_sl_inv h
  
  exact lv_lushr hx hb hd rfl (hk H locs ls ⟨hP, hz, hlen, hbig, hS, hl⟩)
theorem am_s_i2l {pc nx : Nat} {ps : List Nat} {k : Int} {kl : Int64} {lv : am_L} {st : List am_V} {sh : am_Sh} {mem : am_M} {σ' : am_S} (hC : am_Ctx b ex aC D X M p R s m args meth c) (hd : decode (am_mb M) pc = .ok (.i2l, nx - pc)) (hck : am_ckI M pc .i2l ps k kl nx = true) (h : am_ins X .i2l ps k kl nx lv st sh mem = some (true, .inl σ')) (hn : n0 ≤ sh.length ∧ t0 ≤ am_tot sh) (hR : σ'.2.2.2.1.length - n0 ≤ R.cells ∧ am_tot σ'.2.2.2.1 - t0 ≤ R.slots) (hk : am_W p l e R s m args below meth c b ex aC D M n0 t0 Q σ') : am_W p l e R s m args below meth c b ex aC D M n0 t0 Q (pc, lv, st, sh, mem) := by
  obtain ⟨hx, hb, hml, hown, hts, hK, hE, hlk, hrt, hnm, hfr, hok, hbs⟩ := hC
  intro H locs ls hrel
  obtain ⟨hP, hz, hlen, hbig, hS, hl⟩ := hrel
  dsimp only at hP hz hlen hbig hl ⊢
  have e2 := Nat.eq_of_beq_eq_true hck
  subst e2
  rw [show pc + 1 - pc = 1 by omega] at hd
  simp only [am_ins] at h
  obtain ⟨x, r, rfl, rfl⟩ := am_il_inv h
  
  exact lv_i2l hx hb hd rfl (hk H locs ls ⟨hP, hz, hlen, hbig, hS, hl⟩)
theorem am_s_l2i {pc nx : Nat} {ps : List Nat} {k : Int} {kl : Int64} {lv : am_L} {st : List am_V} {sh : am_Sh} {mem : am_M} {σ' : am_S} (hC : am_Ctx b ex aC D X M p R s m args meth c) (hd : decode (am_mb M) pc = .ok (.l2i, nx - pc)) (hck : am_ckI M pc .l2i ps k kl nx = true) (h : am_ins X .l2i ps k kl nx lv st sh mem = some (true, .inl σ')) (hn : n0 ≤ sh.length ∧ t0 ≤ am_tot sh) (hR : σ'.2.2.2.1.length - n0 ≤ R.cells ∧ am_tot σ'.2.2.2.1 - t0 ≤ R.slots) (hk : am_W p l e R s m args below meth c b ex aC D M n0 t0 Q σ') : am_W p l e R s m args below meth c b ex aC D M n0 t0 Q (pc, lv, st, sh, mem) := by
  obtain ⟨hx, hb, hml, hown, hts, hK, hE, hlk, hrt, hnm, hfr, hok, hbs⟩ := hC
  intro H locs ls hrel
  obtain ⟨hP, hz, hlen, hbig, hS, hl⟩ := hrel
  dsimp only at hP hz hlen hbig hl ⊢
  have e2 := Nat.eq_of_beq_eq_true hck
  subst e2
  rw [show pc + 1 - pc = 1 by omega] at hd
  simp only [am_ins] at h
  obtain ⟨x, r, rfl, rfl⟩ := am_li_inv h
  
  refine lv_l2i hx hb hd rfl ?_
  have hq := hk H locs ls ⟨hP, hz, hlen, hbig, hS, hl⟩
  simp only [List.map_cons, am_rn, am_l2i, Int32.ofInt_toInt] at hq
  exact hq
theorem am_s_lcmp {pc nx : Nat} {ps : List Nat} {k : Int} {kl : Int64} {lv : am_L} {st : List am_V} {sh : am_Sh} {mem : am_M} {σ' : am_S} (hC : am_Ctx b ex aC D X M p R s m args meth c) (hd : decode (am_mb M) pc = .ok (.lcmp, nx - pc)) (hck : am_ckI M pc .lcmp ps k kl nx = true) (h : am_ins X .lcmp ps k kl nx lv st sh mem = some (true, .inl σ')) (hn : n0 ≤ sh.length ∧ t0 ≤ am_tot sh) (hR : σ'.2.2.2.1.length - n0 ≤ R.cells ∧ am_tot σ'.2.2.2.1 - t0 ≤ R.slots) (hk : am_W p l e R s m args below meth c b ex aC D M n0 t0 Q σ') : am_W p l e R s m args below meth c b ex aC D M n0 t0 Q (pc, lv, st, sh, mem) := by
  obtain ⟨hx, hb, hml, hown, hts, hK, hE, hlk, hrt, hnm, hfr, hok, hbs⟩ := hC
  intro H locs ls hrel
  obtain ⟨hP, hz, hlen, hbig, hS, hl⟩ := hrel
  dsimp only at hP hz hlen hbig hl ⊢
  have e2 := Nat.eq_of_beq_eq_true hck
  subst e2
  rw [show pc + 1 - pc = 1 by omega] at hd
  simp only [am_ins] at h
  obtain ⟨x, y, r, rfl, rfl⟩ := am_lc_inv h
  
  refine W.lcmp hx hb hd ?_
  have hq := hk H locs ls ⟨hP, hz, hlen, hbig, hS, hl⟩
  simp only [List.map_cons, am_rn, am_lcmp_eq] at hq
  exact hq
theorem am_s_dup {pc nx : Nat} {ps : List Nat} {k : Int} {kl : Int64} {lv : am_L} {st : List am_V} {sh : am_Sh} {mem : am_M} {σ' : am_S} (hC : am_Ctx b ex aC D X M p R s m args meth c) (hd : decode (am_mb M) pc = .ok (.dup, nx - pc)) (hck : am_ckI M pc .dup ps k kl nx = true) (h : am_ins X .dup ps k kl nx lv st sh mem = some (true, .inl σ')) (hn : n0 ≤ sh.length ∧ t0 ≤ am_tot sh) (hR : σ'.2.2.2.1.length - n0 ≤ R.cells ∧ am_tot σ'.2.2.2.1 - t0 ≤ R.slots) (hk : am_W p l e R s m args below meth c b ex aC D M n0 t0 Q σ') : am_W p l e R s m args below meth c b ex aC D M n0 t0 Q (pc, lv, st, sh, mem) := by
  obtain ⟨hx, hb, hml, hown, hts, hK, hE, hlk, hrt, hnm, hfr, hok, hbs⟩ := hC
  intro H locs ls hrel
  obtain ⟨hP, hz, hlen, hbig, hS, hl⟩ := hrel
  dsimp only at hP hz hlen hbig hl ⊢
  have e2 := Nat.eq_of_beq_eq_true hck
  subst e2
  rw [show pc + 1 - pc = 1 by omega] at hd
  simp only [am_ins] at h
  obtain ⟨v, r, rfl, rfl, hc1⟩ := am_dup_inv h
  
  exact lv_dup hx hb hd ((am_rn_cat _ v).trans hc1) (hk H locs ls ⟨hP, hz, hlen, hbig, hS, hl⟩)
theorem am_s_dup2 {pc nx : Nat} {ps : List Nat} {k : Int} {kl : Int64} {lv : am_L} {st : List am_V} {sh : am_Sh} {mem : am_M} {σ' : am_S} (hC : am_Ctx b ex aC D X M p R s m args meth c) (hd : decode (am_mb M) pc = .ok (.dup2, nx - pc)) (hck : am_ckI M pc .dup2 ps k kl nx = true) (h : am_ins X .dup2 ps k kl nx lv st sh mem = some (true, .inl σ')) (hn : n0 ≤ sh.length ∧ t0 ≤ am_tot sh) (hR : σ'.2.2.2.1.length - n0 ≤ R.cells ∧ am_tot σ'.2.2.2.1 - t0 ≤ R.slots) (hk : am_W p l e R s m args below meth c b ex aC D M n0 t0 Q σ') : am_W p l e R s m args below meth c b ex aC D M n0 t0 Q (pc, lv, st, sh, mem) := by
  obtain ⟨hx, hb, hml, hown, hts, hK, hE, hlk, hrt, hnm, hfr, hok, hbs⟩ := hC
  intro H locs ls hrel
  obtain ⟨hP, hz, hlen, hbig, hS, hl⟩ := hrel
  dsimp only at hP hz hlen hbig hl ⊢
  have e2 := Nat.eq_of_beq_eq_true hck
  subst e2
  rw [show pc + 1 - pc = 1 by omega] at hd
  simp only [am_ins] at h
  obtain ⟨v, w, r, rfl, rfl, hc1, hc2⟩ := am_dup2_inv h
  
  exact lv_dup2_11 hx hb hd ((am_rn_cat _ v).trans hc1) ((am_rn_cat _ w).trans hc2) (hk H locs ls ⟨hP, hz, hlen, hbig, hS, hl⟩)
theorem am_s_pop {pc nx : Nat} {ps : List Nat} {k : Int} {kl : Int64} {lv : am_L} {st : List am_V} {sh : am_Sh} {mem : am_M} {σ' : am_S} (hC : am_Ctx b ex aC D X M p R s m args meth c) (hd : decode (am_mb M) pc = .ok (.pop, nx - pc)) (hck : am_ckI M pc .pop ps k kl nx = true) (h : am_ins X .pop ps k kl nx lv st sh mem = some (true, .inl σ')) (hn : n0 ≤ sh.length ∧ t0 ≤ am_tot sh) (hR : σ'.2.2.2.1.length - n0 ≤ R.cells ∧ am_tot σ'.2.2.2.1 - t0 ≤ R.slots) (hk : am_W p l e R s m args below meth c b ex aC D M n0 t0 Q σ') : am_W p l e R s m args below meth c b ex aC D M n0 t0 Q (pc, lv, st, sh, mem) := by
  obtain ⟨hx, hb, hml, hown, hts, hK, hE, hlk, hrt, hnm, hfr, hok, hbs⟩ := hC
  intro H locs ls hrel
  obtain ⟨hP, hz, hlen, hbig, hS, hl⟩ := hrel
  dsimp only at hP hz hlen hbig hl ⊢
  have e2 := Nat.eq_of_beq_eq_true hck
  subst e2
  rw [show pc + 1 - pc = 1 by omega] at hd
  simp only [am_ins] at h
  obtain ⟨v, r, rfl, rfl, hc1⟩ := am_pop_inv h
  
  exact lv_pop hx hb hd ((am_rn_cat _ v).trans hc1) (hk H locs ls ⟨hP, hz, hlen, hbig, hS, hl⟩)
theorem am_s_goto {pc nx : Nat} {ps : List Nat} {k : Int} {kl : Int64} {lv : am_L} {st : List am_V} {sh : am_Sh} {mem : am_M} {σ' : am_S} {o : Int} (hC : am_Ctx b ex aC D X M p R s m args meth c) (hd : decode (am_mb M) pc = .ok ((.goto o), nx - pc)) (hck : am_ckI M pc (.goto o) ps k kl nx = true) (h : am_ins X (.goto o) ps k kl nx lv st sh mem = some (true, .inl σ')) (hn : n0 ≤ sh.length ∧ t0 ≤ am_tot sh) (hR : σ'.2.2.2.1.length - n0 ≤ R.cells ∧ am_tot σ'.2.2.2.1 - t0 ≤ R.slots) (hk : am_W p l e R s m args below meth c b ex aC D M n0 t0 Q σ') : am_W p l e R s m args below meth c b ex aC D M n0 t0 Q (pc, lv, st, sh, mem) := by
  obtain ⟨hx, hb, hml, hown, hts, hK, hE, hlk, hrt, hnm, hfr, hok, hbs⟩ := hC
  intro H locs ls hrel
  obtain ⟨hP, hz, hlen, hbig, hS, hl⟩ := hrel
  dsimp only at hP hz hlen hbig hl ⊢
  simp only [am_ins, Option.some.injEq, Prod.mk.injEq, Sum.inl.injEq, true_and] at h
  subst h
  simp only [am_ckI, Bool.and_eq_true] at hck
  have e1 := of_decide_eq_true hck.1
  have e2 := Nat.eq_of_beq_eq_true hck.2
  subst e2
  rw [show pc + 3 - pc = 3 by omega] at hd
  exact lv_goto hx hb hd e1 (hk H locs ls ⟨hP, hz, hlen, hbig, hS, hl⟩)
theorem am_s_if_eq {pc nx : Nat} {ps : List Nat} {k : Int} {kl : Int64} {lv : am_L} {st : List am_V} {sh : am_Sh} {mem : am_M} {σ' : am_S} {o : Int} (hC : am_Ctx b ex aC D X M p R s m args meth c) (hd : decode (am_mb M) pc = .ok ((.ifCond .eq o), nx - pc)) (hck : am_ckI M pc (.ifCond .eq o) ps k kl nx = true) (h : am_ins X (.ifCond .eq o) ps k kl nx lv st sh mem = some (true, .inl σ')) (hn : n0 ≤ sh.length ∧ t0 ≤ am_tot sh) (hR : σ'.2.2.2.1.length - n0 ≤ R.cells ∧ am_tot σ'.2.2.2.1 - t0 ≤ R.slots) (hk : am_W p l e R s m args below meth c b ex aC D M n0 t0 Q σ') : am_W p l e R s m args below meth c b ex aC D M n0 t0 Q (pc, lv, st, sh, mem) := by
  obtain ⟨hx, hb, hml, hown, hts, hK, hE, hlk, hrt, hnm, hfr, hok, hbs⟩ := hC
  intro H locs ls hrel
  obtain ⟨hP, hz, hlen, hbig, hS, hl⟩ := hrel
  dsimp only at hP hz hlen hbig hl ⊢
  simp only [am_ckI, Bool.and_eq_true] at hck
  have e1 := of_decide_eq_true hck.1
  have e2 := Nat.eq_of_beq_eq_true hck.2
  subst e2
  rw [show pc + 3 - pc = 3 by omega] at hd
  simp only [am_ins] at h
  obtain ⟨x, r, rfl, rfl, g1⟩ := am_if_inv h
  have g2 : am_i32 0 := by decide
  have cv := am_eq32 g1 g2
  rw [show (Int32.ofInt 0) = 0 from rfl] at cv
  refine lv_if_eq hx hb hd e1 (fun q => ?_) (fun q => ?_)
  · have q := cv.mp q
    have hq := hk H locs ls ⟨hP, hz, hlen, hbig, hS, hl⟩
    have ec : am_cb .eq x 0 = true := decide_eq_true q
    rw [ec] at hq
    exact hq
  · have q := fun z => q (cv.mpr z)
    have hq := hk H locs ls ⟨hP, hz, hlen, hbig, hS, hl⟩
    have ec : am_cb .eq x 0 = false := decide_eq_false q
    rw [ec] at hq
    exact hq
theorem am_s_if_ne {pc nx : Nat} {ps : List Nat} {k : Int} {kl : Int64} {lv : am_L} {st : List am_V} {sh : am_Sh} {mem : am_M} {σ' : am_S} {o : Int} (hC : am_Ctx b ex aC D X M p R s m args meth c) (hd : decode (am_mb M) pc = .ok ((.ifCond .ne o), nx - pc)) (hck : am_ckI M pc (.ifCond .ne o) ps k kl nx = true) (h : am_ins X (.ifCond .ne o) ps k kl nx lv st sh mem = some (true, .inl σ')) (hn : n0 ≤ sh.length ∧ t0 ≤ am_tot sh) (hR : σ'.2.2.2.1.length - n0 ≤ R.cells ∧ am_tot σ'.2.2.2.1 - t0 ≤ R.slots) (hk : am_W p l e R s m args below meth c b ex aC D M n0 t0 Q σ') : am_W p l e R s m args below meth c b ex aC D M n0 t0 Q (pc, lv, st, sh, mem) := by
  obtain ⟨hx, hb, hml, hown, hts, hK, hE, hlk, hrt, hnm, hfr, hok, hbs⟩ := hC
  intro H locs ls hrel
  obtain ⟨hP, hz, hlen, hbig, hS, hl⟩ := hrel
  dsimp only at hP hz hlen hbig hl ⊢
  simp only [am_ckI, Bool.and_eq_true] at hck
  have e1 := of_decide_eq_true hck.1
  have e2 := Nat.eq_of_beq_eq_true hck.2
  subst e2
  rw [show pc + 3 - pc = 3 by omega] at hd
  simp only [am_ins] at h
  obtain ⟨x, r, rfl, rfl, g1⟩ := am_if_inv h
  have g2 : am_i32 0 := by decide
  have cv := am_eq32 g1 g2
  rw [show (Int32.ofInt 0) = 0 from rfl] at cv
  refine lv_if_ne hx hb hd e1 (fun q => ?_) (fun q => ?_)
  · have q := fun z => q (cv.mpr z)
    have hq := hk H locs ls ⟨hP, hz, hlen, hbig, hS, hl⟩
    have ec : am_cb .ne x 0 = true := by show (!decide _) = true; rw [decide_eq_false q]; rfl
    rw [ec] at hq
    exact hq
  · have q := cv.mp q
    have hq := hk H locs ls ⟨hP, hz, hlen, hbig, hS, hl⟩
    have ec : am_cb .ne x 0 = false := by show (!decide _) = false; rw [decide_eq_true q]; rfl
    rw [ec] at hq
    exact hq
theorem am_s_if_lt {pc nx : Nat} {ps : List Nat} {k : Int} {kl : Int64} {lv : am_L} {st : List am_V} {sh : am_Sh} {mem : am_M} {σ' : am_S} {o : Int} (hC : am_Ctx b ex aC D X M p R s m args meth c) (hd : decode (am_mb M) pc = .ok ((.ifCond .lt o), nx - pc)) (hck : am_ckI M pc (.ifCond .lt o) ps k kl nx = true) (h : am_ins X (.ifCond .lt o) ps k kl nx lv st sh mem = some (true, .inl σ')) (hn : n0 ≤ sh.length ∧ t0 ≤ am_tot sh) (hR : σ'.2.2.2.1.length - n0 ≤ R.cells ∧ am_tot σ'.2.2.2.1 - t0 ≤ R.slots) (hk : am_W p l e R s m args below meth c b ex aC D M n0 t0 Q σ') : am_W p l e R s m args below meth c b ex aC D M n0 t0 Q (pc, lv, st, sh, mem) := by
  obtain ⟨hx, hb, hml, hown, hts, hK, hE, hlk, hrt, hnm, hfr, hok, hbs⟩ := hC
  intro H locs ls hrel
  obtain ⟨hP, hz, hlen, hbig, hS, hl⟩ := hrel
  dsimp only at hP hz hlen hbig hl ⊢
  simp only [am_ckI, Bool.and_eq_true] at hck
  have e1 := of_decide_eq_true hck.1
  have e2 := Nat.eq_of_beq_eq_true hck.2
  subst e2
  rw [show pc + 3 - pc = 3 by omega] at hd
  simp only [am_ins] at h
  obtain ⟨x, r, rfl, rfl, g1⟩ := am_if_inv h
  have g2 : am_i32 0 := by decide
  have cv := am_lt32 g1 g2
  rw [show (Int32.ofInt 0) = 0 from rfl] at cv
  refine lv_if_lt hx hb hd e1 (fun q => ?_) (fun q => ?_)
  · have q := cv.mp q
    have hq := hk H locs ls ⟨hP, hz, hlen, hbig, hS, hl⟩
    have ec : am_cb .lt x 0 = true := decide_eq_true q
    rw [ec] at hq
    exact hq
  · have q := fun z => q (cv.mpr z)
    have hq := hk H locs ls ⟨hP, hz, hlen, hbig, hS, hl⟩
    have ec : am_cb .lt x 0 = false := decide_eq_false q
    rw [ec] at hq
    exact hq
theorem am_s_if_ge {pc nx : Nat} {ps : List Nat} {k : Int} {kl : Int64} {lv : am_L} {st : List am_V} {sh : am_Sh} {mem : am_M} {σ' : am_S} {o : Int} (hC : am_Ctx b ex aC D X M p R s m args meth c) (hd : decode (am_mb M) pc = .ok ((.ifCond .ge o), nx - pc)) (hck : am_ckI M pc (.ifCond .ge o) ps k kl nx = true) (h : am_ins X (.ifCond .ge o) ps k kl nx lv st sh mem = some (true, .inl σ')) (hn : n0 ≤ sh.length ∧ t0 ≤ am_tot sh) (hR : σ'.2.2.2.1.length - n0 ≤ R.cells ∧ am_tot σ'.2.2.2.1 - t0 ≤ R.slots) (hk : am_W p l e R s m args below meth c b ex aC D M n0 t0 Q σ') : am_W p l e R s m args below meth c b ex aC D M n0 t0 Q (pc, lv, st, sh, mem) := by
  obtain ⟨hx, hb, hml, hown, hts, hK, hE, hlk, hrt, hnm, hfr, hok, hbs⟩ := hC
  intro H locs ls hrel
  obtain ⟨hP, hz, hlen, hbig, hS, hl⟩ := hrel
  dsimp only at hP hz hlen hbig hl ⊢
  simp only [am_ckI, Bool.and_eq_true] at hck
  have e1 := of_decide_eq_true hck.1
  have e2 := Nat.eq_of_beq_eq_true hck.2
  subst e2
  rw [show pc + 3 - pc = 3 by omega] at hd
  simp only [am_ins] at h
  obtain ⟨x, r, rfl, rfl, g1⟩ := am_if_inv h
  have g2 : am_i32 0 := by decide
  have cv := am_ge32 g1 g2
  rw [show (Int32.ofInt 0) = 0 from rfl] at cv
  refine lv_if_ge hx hb hd e1 (fun q => ?_) (fun q => ?_)
  · have q := cv.mp q
    have hq := hk H locs ls ⟨hP, hz, hlen, hbig, hS, hl⟩
    have ec : am_cb .ge x 0 = true := by show (!decide _) = true; rw [decide_eq_false q]; rfl
    rw [ec] at hq
    exact hq
  · have q := fun z => q (cv.mpr z)
    have hq := hk H locs ls ⟨hP, hz, hlen, hbig, hS, hl⟩
    have ec : am_cb .ge x 0 = false := by show (!decide _) = false; rw [decide_eq_true (Classical.not_not.mp q)]; rfl
    rw [ec] at hq
    exact hq
theorem am_s_if_gt {pc nx : Nat} {ps : List Nat} {k : Int} {kl : Int64} {lv : am_L} {st : List am_V} {sh : am_Sh} {mem : am_M} {σ' : am_S} {o : Int} (hC : am_Ctx b ex aC D X M p R s m args meth c) (hd : decode (am_mb M) pc = .ok ((.ifCond .gt o), nx - pc)) (hck : am_ckI M pc (.ifCond .gt o) ps k kl nx = true) (h : am_ins X (.ifCond .gt o) ps k kl nx lv st sh mem = some (true, .inl σ')) (hn : n0 ≤ sh.length ∧ t0 ≤ am_tot sh) (hR : σ'.2.2.2.1.length - n0 ≤ R.cells ∧ am_tot σ'.2.2.2.1 - t0 ≤ R.slots) (hk : am_W p l e R s m args below meth c b ex aC D M n0 t0 Q σ') : am_W p l e R s m args below meth c b ex aC D M n0 t0 Q (pc, lv, st, sh, mem) := by
  obtain ⟨hx, hb, hml, hown, hts, hK, hE, hlk, hrt, hnm, hfr, hok, hbs⟩ := hC
  intro H locs ls hrel
  obtain ⟨hP, hz, hlen, hbig, hS, hl⟩ := hrel
  dsimp only at hP hz hlen hbig hl ⊢
  simp only [am_ckI, Bool.and_eq_true] at hck
  have e1 := of_decide_eq_true hck.1
  have e2 := Nat.eq_of_beq_eq_true hck.2
  subst e2
  rw [show pc + 3 - pc = 3 by omega] at hd
  simp only [am_ins] at h
  obtain ⟨x, r, rfl, rfl, g1⟩ := am_if_inv h
  have g2 : am_i32 0 := by decide
  have cv := am_lt32 g2 g1
  rw [show (Int32.ofInt 0) = 0 from rfl] at cv
  refine lv_if_gt hx hb hd e1 (fun q => ?_) (fun q => ?_)
  · have q := cv.mp q
    have hq := hk H locs ls ⟨hP, hz, hlen, hbig, hS, hl⟩
    have ec : am_cb .gt x 0 = true := decide_eq_true q
    rw [ec] at hq
    exact hq
  · have q := fun z => q (cv.mpr z)
    have hq := hk H locs ls ⟨hP, hz, hlen, hbig, hS, hl⟩
    have ec : am_cb .gt x 0 = false := decide_eq_false q
    rw [ec] at hq
    exact hq
theorem am_s_if_le {pc nx : Nat} {ps : List Nat} {k : Int} {kl : Int64} {lv : am_L} {st : List am_V} {sh : am_Sh} {mem : am_M} {σ' : am_S} {o : Int} (hC : am_Ctx b ex aC D X M p R s m args meth c) (hd : decode (am_mb M) pc = .ok ((.ifCond .le o), nx - pc)) (hck : am_ckI M pc (.ifCond .le o) ps k kl nx = true) (h : am_ins X (.ifCond .le o) ps k kl nx lv st sh mem = some (true, .inl σ')) (hn : n0 ≤ sh.length ∧ t0 ≤ am_tot sh) (hR : σ'.2.2.2.1.length - n0 ≤ R.cells ∧ am_tot σ'.2.2.2.1 - t0 ≤ R.slots) (hk : am_W p l e R s m args below meth c b ex aC D M n0 t0 Q σ') : am_W p l e R s m args below meth c b ex aC D M n0 t0 Q (pc, lv, st, sh, mem) := by
  obtain ⟨hx, hb, hml, hown, hts, hK, hE, hlk, hrt, hnm, hfr, hok, hbs⟩ := hC
  intro H locs ls hrel
  obtain ⟨hP, hz, hlen, hbig, hS, hl⟩ := hrel
  dsimp only at hP hz hlen hbig hl ⊢
  simp only [am_ckI, Bool.and_eq_true] at hck
  have e1 := of_decide_eq_true hck.1
  have e2 := Nat.eq_of_beq_eq_true hck.2
  subst e2
  rw [show pc + 3 - pc = 3 by omega] at hd
  simp only [am_ins] at h
  obtain ⟨x, r, rfl, rfl, g1⟩ := am_if_inv h
  have g2 : am_i32 0 := by decide
  have cv := am_le32 g1 g2
  rw [show (Int32.ofInt 0) = 0 from rfl] at cv
  refine lv_if_le hx hb hd e1 (fun q => ?_) (fun q => ?_)
  · have q := cv.mp q
    have hq := hk H locs ls ⟨hP, hz, hlen, hbig, hS, hl⟩
    have ec : am_cb .le x 0 = true := by show (!decide _) = true; rw [decide_eq_false q]; rfl
    rw [ec] at hq
    exact hq
  · have q := fun z => q (cv.mpr z)
    have hq := hk H locs ls ⟨hP, hz, hlen, hbig, hS, hl⟩
    have ec : am_cb .le x 0 = false := by show (!decide _) = false; rw [decide_eq_true (Classical.not_not.mp q)]; rfl
    rw [ec] at hq
    exact hq
theorem am_s_icmp_eq {pc nx : Nat} {ps : List Nat} {k : Int} {kl : Int64} {lv : am_L} {st : List am_V} {sh : am_Sh} {mem : am_M} {σ' : am_S} {o : Int} (hC : am_Ctx b ex aC D X M p R s m args meth c) (hd : decode (am_mb M) pc = .ok ((.if_icmp .eq o), nx - pc)) (hck : am_ckI M pc (.if_icmp .eq o) ps k kl nx = true) (h : am_ins X (.if_icmp .eq o) ps k kl nx lv st sh mem = some (true, .inl σ')) (hn : n0 ≤ sh.length ∧ t0 ≤ am_tot sh) (hR : σ'.2.2.2.1.length - n0 ≤ R.cells ∧ am_tot σ'.2.2.2.1 - t0 ≤ R.slots) (hk : am_W p l e R s m args below meth c b ex aC D M n0 t0 Q σ') : am_W p l e R s m args below meth c b ex aC D M n0 t0 Q (pc, lv, st, sh, mem) := by
  obtain ⟨hx, hb, hml, hown, hts, hK, hE, hlk, hrt, hnm, hfr, hok, hbs⟩ := hC
  intro H locs ls hrel
  obtain ⟨hP, hz, hlen, hbig, hS, hl⟩ := hrel
  dsimp only at hP hz hlen hbig hl ⊢
  simp only [am_ckI, Bool.and_eq_true] at hck
  have e1 := of_decide_eq_true hck.1
  have e2 := Nat.eq_of_beq_eq_true hck.2
  subst e2
  rw [show pc + 3 - pc = 3 by omega] at hd
  simp only [am_ins] at h
  obtain ⟨x, y, r, rfl, rfl, g2, g1⟩ := am_icmp_inv h
  have cv := am_eq32 g1 g2
  refine lv_icmp_eq hx hb hd e1 (fun q => ?_) (fun q => ?_)
  · have q := cv.mp q
    have hq := hk H locs ls ⟨hP, hz, hlen, hbig, hS, hl⟩
    have ec : am_cb .eq x y = true := decide_eq_true q
    rw [ec] at hq
    exact hq
  · have q := fun z => q (cv.mpr z)
    have hq := hk H locs ls ⟨hP, hz, hlen, hbig, hS, hl⟩
    have ec : am_cb .eq x y = false := decide_eq_false q
    rw [ec] at hq
    exact hq
theorem am_s_icmp_ne {pc nx : Nat} {ps : List Nat} {k : Int} {kl : Int64} {lv : am_L} {st : List am_V} {sh : am_Sh} {mem : am_M} {σ' : am_S} {o : Int} (hC : am_Ctx b ex aC D X M p R s m args meth c) (hd : decode (am_mb M) pc = .ok ((.if_icmp .ne o), nx - pc)) (hck : am_ckI M pc (.if_icmp .ne o) ps k kl nx = true) (h : am_ins X (.if_icmp .ne o) ps k kl nx lv st sh mem = some (true, .inl σ')) (hn : n0 ≤ sh.length ∧ t0 ≤ am_tot sh) (hR : σ'.2.2.2.1.length - n0 ≤ R.cells ∧ am_tot σ'.2.2.2.1 - t0 ≤ R.slots) (hk : am_W p l e R s m args below meth c b ex aC D M n0 t0 Q σ') : am_W p l e R s m args below meth c b ex aC D M n0 t0 Q (pc, lv, st, sh, mem) := by
  obtain ⟨hx, hb, hml, hown, hts, hK, hE, hlk, hrt, hnm, hfr, hok, hbs⟩ := hC
  intro H locs ls hrel
  obtain ⟨hP, hz, hlen, hbig, hS, hl⟩ := hrel
  dsimp only at hP hz hlen hbig hl ⊢
  simp only [am_ckI, Bool.and_eq_true] at hck
  have e1 := of_decide_eq_true hck.1
  have e2 := Nat.eq_of_beq_eq_true hck.2
  subst e2
  rw [show pc + 3 - pc = 3 by omega] at hd
  simp only [am_ins] at h
  obtain ⟨x, y, r, rfl, rfl, g2, g1⟩ := am_icmp_inv h
  have cv := am_eq32 g1 g2
  refine lv_icmp_ne hx hb hd e1 (fun q => ?_) (fun q => ?_)
  · have q := fun z => q (cv.mpr z)
    have hq := hk H locs ls ⟨hP, hz, hlen, hbig, hS, hl⟩
    have ec : am_cb .ne x y = true := by show (!decide _) = true; rw [decide_eq_false q]; rfl
    rw [ec] at hq
    exact hq
  · have q := cv.mp q
    have hq := hk H locs ls ⟨hP, hz, hlen, hbig, hS, hl⟩
    have ec : am_cb .ne x y = false := by show (!decide _) = false; rw [decide_eq_true q]; rfl
    rw [ec] at hq
    exact hq
theorem am_s_icmp_lt {pc nx : Nat} {ps : List Nat} {k : Int} {kl : Int64} {lv : am_L} {st : List am_V} {sh : am_Sh} {mem : am_M} {σ' : am_S} {o : Int} (hC : am_Ctx b ex aC D X M p R s m args meth c) (hd : decode (am_mb M) pc = .ok ((.if_icmp .lt o), nx - pc)) (hck : am_ckI M pc (.if_icmp .lt o) ps k kl nx = true) (h : am_ins X (.if_icmp .lt o) ps k kl nx lv st sh mem = some (true, .inl σ')) (hn : n0 ≤ sh.length ∧ t0 ≤ am_tot sh) (hR : σ'.2.2.2.1.length - n0 ≤ R.cells ∧ am_tot σ'.2.2.2.1 - t0 ≤ R.slots) (hk : am_W p l e R s m args below meth c b ex aC D M n0 t0 Q σ') : am_W p l e R s m args below meth c b ex aC D M n0 t0 Q (pc, lv, st, sh, mem) := by
  obtain ⟨hx, hb, hml, hown, hts, hK, hE, hlk, hrt, hnm, hfr, hok, hbs⟩ := hC
  intro H locs ls hrel
  obtain ⟨hP, hz, hlen, hbig, hS, hl⟩ := hrel
  dsimp only at hP hz hlen hbig hl ⊢
  simp only [am_ckI, Bool.and_eq_true] at hck
  have e1 := of_decide_eq_true hck.1
  have e2 := Nat.eq_of_beq_eq_true hck.2
  subst e2
  rw [show pc + 3 - pc = 3 by omega] at hd
  simp only [am_ins] at h
  obtain ⟨x, y, r, rfl, rfl, g2, g1⟩ := am_icmp_inv h
  have cv := am_lt32 g1 g2
  refine lv_icmp_lt hx hb hd e1 (fun q => ?_) (fun q => ?_)
  · have q := cv.mp q
    have hq := hk H locs ls ⟨hP, hz, hlen, hbig, hS, hl⟩
    have ec : am_cb .lt x y = true := decide_eq_true q
    rw [ec] at hq
    exact hq
  · have q := fun z => q (cv.mpr z)
    have hq := hk H locs ls ⟨hP, hz, hlen, hbig, hS, hl⟩
    have ec : am_cb .lt x y = false := decide_eq_false q
    rw [ec] at hq
    exact hq
theorem am_s_icmp_ge {pc nx : Nat} {ps : List Nat} {k : Int} {kl : Int64} {lv : am_L} {st : List am_V} {sh : am_Sh} {mem : am_M} {σ' : am_S} {o : Int} (hC : am_Ctx b ex aC D X M p R s m args meth c) (hd : decode (am_mb M) pc = .ok ((.if_icmp .ge o), nx - pc)) (hck : am_ckI M pc (.if_icmp .ge o) ps k kl nx = true) (h : am_ins X (.if_icmp .ge o) ps k kl nx lv st sh mem = some (true, .inl σ')) (hn : n0 ≤ sh.length ∧ t0 ≤ am_tot sh) (hR : σ'.2.2.2.1.length - n0 ≤ R.cells ∧ am_tot σ'.2.2.2.1 - t0 ≤ R.slots) (hk : am_W p l e R s m args below meth c b ex aC D M n0 t0 Q σ') : am_W p l e R s m args below meth c b ex aC D M n0 t0 Q (pc, lv, st, sh, mem) := by
  obtain ⟨hx, hb, hml, hown, hts, hK, hE, hlk, hrt, hnm, hfr, hok, hbs⟩ := hC
  intro H locs ls hrel
  obtain ⟨hP, hz, hlen, hbig, hS, hl⟩ := hrel
  dsimp only at hP hz hlen hbig hl ⊢
  simp only [am_ckI, Bool.and_eq_true] at hck
  have e1 := of_decide_eq_true hck.1
  have e2 := Nat.eq_of_beq_eq_true hck.2
  subst e2
  rw [show pc + 3 - pc = 3 by omega] at hd
  simp only [am_ins] at h
  obtain ⟨x, y, r, rfl, rfl, g2, g1⟩ := am_icmp_inv h
  have cv := am_ge32 g1 g2
  refine lv_icmp_ge hx hb hd e1 (fun q => ?_) (fun q => ?_)
  · have q := cv.mp q
    have hq := hk H locs ls ⟨hP, hz, hlen, hbig, hS, hl⟩
    have ec : am_cb .ge x y = true := by show (!decide _) = true; rw [decide_eq_false q]; rfl
    rw [ec] at hq
    exact hq
  · have q := fun z => q (cv.mpr z)
    have hq := hk H locs ls ⟨hP, hz, hlen, hbig, hS, hl⟩
    have ec : am_cb .ge x y = false := by show (!decide _) = false; rw [decide_eq_true (Classical.not_not.mp q)]; rfl
    rw [ec] at hq
    exact hq
theorem am_s_icmp_gt {pc nx : Nat} {ps : List Nat} {k : Int} {kl : Int64} {lv : am_L} {st : List am_V} {sh : am_Sh} {mem : am_M} {σ' : am_S} {o : Int} (hC : am_Ctx b ex aC D X M p R s m args meth c) (hd : decode (am_mb M) pc = .ok ((.if_icmp .gt o), nx - pc)) (hck : am_ckI M pc (.if_icmp .gt o) ps k kl nx = true) (h : am_ins X (.if_icmp .gt o) ps k kl nx lv st sh mem = some (true, .inl σ')) (hn : n0 ≤ sh.length ∧ t0 ≤ am_tot sh) (hR : σ'.2.2.2.1.length - n0 ≤ R.cells ∧ am_tot σ'.2.2.2.1 - t0 ≤ R.slots) (hk : am_W p l e R s m args below meth c b ex aC D M n0 t0 Q σ') : am_W p l e R s m args below meth c b ex aC D M n0 t0 Q (pc, lv, st, sh, mem) := by
  obtain ⟨hx, hb, hml, hown, hts, hK, hE, hlk, hrt, hnm, hfr, hok, hbs⟩ := hC
  intro H locs ls hrel
  obtain ⟨hP, hz, hlen, hbig, hS, hl⟩ := hrel
  dsimp only at hP hz hlen hbig hl ⊢
  simp only [am_ckI, Bool.and_eq_true] at hck
  have e1 := of_decide_eq_true hck.1
  have e2 := Nat.eq_of_beq_eq_true hck.2
  subst e2
  rw [show pc + 3 - pc = 3 by omega] at hd
  simp only [am_ins] at h
  obtain ⟨x, y, r, rfl, rfl, g2, g1⟩ := am_icmp_inv h
  have cv := am_lt32 g2 g1
  refine lv_icmp_gt hx hb hd e1 (fun q => ?_) (fun q => ?_)
  · have q := cv.mp q
    have hq := hk H locs ls ⟨hP, hz, hlen, hbig, hS, hl⟩
    have ec : am_cb .gt x y = true := decide_eq_true q
    rw [ec] at hq
    exact hq
  · have q := fun z => q (cv.mpr z)
    have hq := hk H locs ls ⟨hP, hz, hlen, hbig, hS, hl⟩
    have ec : am_cb .gt x y = false := decide_eq_false q
    rw [ec] at hq
    exact hq
theorem am_s_icmp_le {pc nx : Nat} {ps : List Nat} {k : Int} {kl : Int64} {lv : am_L} {st : List am_V} {sh : am_Sh} {mem : am_M} {σ' : am_S} {o : Int} (hC : am_Ctx b ex aC D X M p R s m args meth c) (hd : decode (am_mb M) pc = .ok ((.if_icmp .le o), nx - pc)) (hck : am_ckI M pc (.if_icmp .le o) ps k kl nx = true) (h : am_ins X (.if_icmp .le o) ps k kl nx lv st sh mem = some (true, .inl σ')) (hn : n0 ≤ sh.length ∧ t0 ≤ am_tot sh) (hR : σ'.2.2.2.1.length - n0 ≤ R.cells ∧ am_tot σ'.2.2.2.1 - t0 ≤ R.slots) (hk : am_W p l e R s m args below meth c b ex aC D M n0 t0 Q σ') : am_W p l e R s m args below meth c b ex aC D M n0 t0 Q (pc, lv, st, sh, mem) := by
  obtain ⟨hx, hb, hml, hown, hts, hK, hE, hlk, hrt, hnm, hfr, hok, hbs⟩ := hC
  intro H locs ls hrel
  obtain ⟨hP, hz, hlen, hbig, hS, hl⟩ := hrel
  dsimp only at hP hz hlen hbig hl ⊢
  simp only [am_ckI, Bool.and_eq_true] at hck
  have e1 := of_decide_eq_true hck.1
  have e2 := Nat.eq_of_beq_eq_true hck.2
  subst e2
  rw [show pc + 3 - pc = 3 by omega] at hd
  simp only [am_ins] at h
  obtain ⟨x, y, r, rfl, rfl, g2, g1⟩ := am_icmp_inv h
  have cv := am_le32 g1 g2
  refine lv_icmp_le hx hb hd e1 (fun q => ?_) (fun q => ?_)
  · have q := cv.mp q
    have hq := hk H locs ls ⟨hP, hz, hlen, hbig, hS, hl⟩
    have ec : am_cb .le x y = true := by show (!decide _) = true; rw [decide_eq_false q]; rfl
    rw [ec] at hq
    exact hq
  · have q := fun z => q (cv.mpr z)
    have hq := hk H locs ls ⟨hP, hz, hlen, hbig, hS, hl⟩
    have ec : am_cb .le x y = false := by show (!decide _) = false; rw [decide_eq_true (Classical.not_not.mp q)]; rfl
    rw [ec] at hq
    exact hq
end AMS
