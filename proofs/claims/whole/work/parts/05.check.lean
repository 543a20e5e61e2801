/-! what a row of the tables must show, by program -/
def am_wd (i : Nat) (w : Cond) : Bool := decide (lw_tbl[i]? = some w) && goodWord w
def am_wn (i : Nat) (w : Cond) : Bool := decide (lw_tbl[i]? = some w)
def am_good : List Cond := lw_tbl.filter goodWord
theorem am_wd_in {i : Nat} {w : Cond} (h : am_wd i w = true) : w ∈ am_good := by
  unfold am_wd at h
  rw [Bool.and_eq_true] at h
  exact List.mem_filter.mpr ⟨List.mem_of_getElem? (of_decide_eq_true h.1), h.2⟩
theorem am_wn_in {i : Nat} {w : Cond} (h : am_wn i w = true) : w ∈ lw_tbl := List.mem_of_getElem? (of_decide_eq_true h)
abbrev am_mn (M : am_Me) : MethodName := M.1
abbrev am_mb (M : am_Me) : ByteArray := M.2.1
abbrev am_mL (M : am_Me) : Nat := M.2.2.1
abbrev am_mr (M : am_Me) : Option FieldType := M.2.2.2.1
abbrev am_mf (M : am_Me) : Nat := M.2.2.2.2.2.1
abbrev am_ml (M : am_Me) : Nat := M.2.2.2.2.2.2.1
abbrev am_mc (M : am_Me) : Nat := M.2.2.2.2.2.2.2.1
abbrev am_mz (M : am_Me) : Nat := M.2.2.2.2.2.2.2.2.1
abbrev am_mt (M : am_Me) : List am_Row := M.2.2.2.2.2.2.2.2.2
def am_strix : List (Nat × String) := [(142, "reaches"), (144, "beat"), (146, "draught"), (148, "point"), (150, "shift"), (152, "turn"), (154, "dark"), (156, "bank"), (158, "deep"), (160, "eddy"), (162, "lee"), (164, "wind"), (166, "tide"), (168, "high")]
def am_kty : Nat → Option FieldType
  | 100 => some .int
  | 101 => some .boolean
  | 102 => some .byte
  | 103 => some .long
  | _ => none
def am_aty : ArrayType → Nat
  | .int => 100
  | .boolean => 101
  | .byte => 102
  | .long => 103
  | _ => 0
/-- a field's number in its class, its kind: int, boolean, reference -/
def am_fk (ci k ty : Nat) : Bool := match am_ty ci k with
  | .int => Nat.beq ty 0
  | .boolean => Nat.beq ty 1
  | .object _ => Nat.beq ty 2
  | .array _ => Nat.beq ty 2
  | _ => false
def am_isO (o : Option FieldType) : Bool := match o with
  | some (.object _) => true
  | _ => false
def am_callee (own : String) (M : am_Me) (idx : Nat) (ps : List Nat) (k : am_Me → Bool) : Bool := match am_nth am_ms (am_ps ps 0) with
  | some N => Nat.beq (am_ps ps 2) (am_mL N) && Nat.beq (am_ps ps 3) (am_mc N) && Nat.beq (am_ps ps 4) (am_mz N) && Nat.ble (am_mf N + 1) (am_mf M) && Nat.ble (8 + (am_mL N + 11) + am_ml N) (am_ml M)
    && am_wd (am_ps ps 10) (.initialized (am_mn N).cls) && am_wd (am_ps ps 11) (.code (am_mn N) (am_mb N) (am_mL N) (am_mr N))
    && (bif Nat.beq (am_ps ps 7) 0 then am_wd (am_ps ps 6) (.methodLink own idx (am_mn N)) else am_wn (am_ps ps 6) (.methodLinkNest own idx (am_mn N) "UpRiver"))
    && decide ((am_mn N).cls ≠ "java/lang/invoke/MethodHandle" ∧ (am_mn N).cls ≠ "java/lang/invoke/VarHandle") && plainFor (am_mn N) && k N
  | none => false
def am_np (N : am_Me) (n : Nat) : Bool := decide ((parseMethodDescriptor (am_mn N).desc).map (fun d => d.parameters.length) = some n)
def am_offs (pc : Nat) : List Int → List Nat → Bool
  | [], [] => true
  | o :: os, p :: ps => decide ((pc : Int) + o = (p : Int)) && am_offs pc os ps
  | _, _ => false
def am_ckI (M : am_Me) (pc : Nat) (i : Instr) (ps : List Nat) (k : Int) (kl : Int64) (nx : Nat) : Bool := match i with
  | .iconst n => decide (k = n) && Nat.beq nx (pc + 1)
  | .bipush n => decide ((Int8.ofInt n).toInt32 = Int32.ofInt k) && Nat.beq nx (pc + 2)
  | .sipush n => decide ((Int16.ofInt n).toInt32 = Int32.ofInt k) && Nat.beq nx (pc + 3)
  | .lconst n => decide (Int64.ofNat (n : Nat) = kl) && Nat.beq nx (pc + 1)
  | .ldc2_w x => am_wd (am_ps ps 0) (.constantLong (am_mn M).cls x kl) && Nat.beq nx (pc + 3)
  | .ldc x => decide ((am_mn M).cls = "UpRiver$Reader" ∧ 2000 ≤ am_ps ps 0 ∧ am_ps ps 0 < 2014 ∧ (am_strix.getD (am_ps ps 0 - 2000) (0, "")).1 = x) && Nat.beq nx (pc + 2)
  | .iload x => Nat.beq (am_ps ps 0) x && Nat.beq nx (pc + 2)
  | .iload_n x => Nat.beq (am_ps ps 0) x && Nat.beq nx (pc + 1)
  | .lload x => Nat.beq (am_ps ps 0) x && Nat.beq nx (pc + 2)
  | .lload_n x => Nat.beq (am_ps ps 0) x && Nat.beq nx (pc + 1)
  | .aload x => Nat.beq (am_ps ps 0) x && Nat.beq nx (pc + 2)
  | .aload_n x => Nat.beq (am_ps ps 0) x && Nat.beq nx (pc + 1)
  | .istore x => Nat.beq (am_ps ps 0) x && Nat.beq nx (pc + 2) && Nat.blt x (am_mL M)
  | .istore_n x => Nat.beq (am_ps ps 0) x && Nat.beq nx (pc + 1) && Nat.blt x (am_mL M)
  | .lstore x => Nat.beq (am_ps ps 0) x && Nat.beq nx (pc + 2) && Nat.blt (x + 1) (am_mL M)
  | .lstore_n x => Nat.beq (am_ps ps 0) x && Nat.beq nx (pc + 1) && Nat.blt (x + 1) (am_mL M)
  | .astore x => Nat.beq (am_ps ps 0) x && Nat.beq nx (pc + 2) && Nat.blt x (am_mL M)
  | .astore_n x => Nat.beq (am_ps ps 0) x && Nat.beq nx (pc + 1) && Nat.blt x (am_mL M)
  | .iinc x n => Nat.beq (am_ps ps 0) x && decide (k = n) && Nat.beq nx (pc + 3) && Nat.blt x (am_mL M)
  | .goto o => decide ((pc : Int) + o = (am_ps ps 0 : Int)) && Nat.beq nx (pc + 3)
  | .ifCond _ o => decide ((pc : Int) + o = (am_ps ps 0 : Int)) && Nat.beq nx (pc + 3)
  | .if_icmp _ o => decide ((pc : Int) + o = (am_ps ps 0 : Int)) && Nat.beq nx (pc + 3)
  | .tableswitch d lo hi os => decide ((pc : Int) + d = (am_ps ps 0 : Int)) && decide (lo ≤ hi) && decide ((os.toList.length : Int) = hi - lo + 1) && am_offs pc os.toList ps.tail
  | .getfield x => bif Nat.beq (am_ps ps 0) 900 then
      (bif Nat.beq (am_ps ps 1) 0 then am_wd (am_ps ps 2) (.fieldLink (am_mn M).cls x "java/lang/String" "value" "[B") else am_wd (am_ps ps 2) (.fieldLink (am_mn M).cls x "java/lang/String" "coder" "B")) && Nat.beq nx (pc + 3)
    else (match am_cl[am_ps ps 0]? with
      | some q => Nat.blt (am_ps ps 1) q.2.2 && am_wd (am_ps ps 3) (.fieldLink (am_mn M).cls x (q.2.1 (am_ps ps 1)).1 (q.2.1 (am_ps ps 1)).2.1 (q.2.1 (am_ps ps 1)).2.2.1) && am_fk (am_ps ps 0) (am_ps ps 1) (am_ps ps 2) && Nat.beq nx (pc + 3)
      | none => false)
  | .putfield x => (match am_cl[am_ps ps 0]? with
      | some q => Nat.blt (am_ps ps 1) q.2.2 && am_wd (am_ps ps 3) (.fieldLink (am_mn M).cls x (q.2.1 (am_ps ps 1)).1 (q.2.1 (am_ps ps 1)).2.1 (q.2.1 (am_ps ps 1)).2.2.1) && am_fk (am_ps ps 0) (am_ps ps 1) (am_ps ps 2) && Nat.beq nx (pc + 3)
        && (!(q.2.1 (am_ps ps 1)).2.2.2 || decide ((am_mn M).name = "<init>" ∧ (q.2.1 (am_ps ps 1)).1 = (am_mn M).cls))
      | none => false)
  | .getstatic x => (bif Nat.beq (am_ps ps 0) 1000 then am_wn (am_ps ps 1) (.fieldLinkNest (am_mn M).cls x "UpRiver" "RULE_LEAST" "[I" "UpRiver")
      else bif Nat.beq (am_ps ps 0) 1001 then am_wn (am_ps ps 1) (.fieldLinkNest (am_mn M).cls x "UpRiver" "RULE_MOST" "[I" "UpRiver")
      else bif Nat.beq (am_ps ps 0) 1002 then am_wn (am_ps ps 1) (.fieldLinkNest (am_mn M).cls x "UpRiver" "RULE_AT_FIRST" "[I" "UpRiver")
      else bif Nat.beq (am_ps ps 0) 1 then am_wd (am_ps ps 1) (.fieldLink (am_mn M).cls x "java/lang/String" "COMPACT_STRINGS" "Z")
      else Nat.beq (am_ps ps 0) 2 && am_wd (am_ps ps 1) (.fieldLink (am_mn M).cls x "jdk/internal/util/Preconditions" "SIOOBE_FORMATTER" "Ljava/util/function/BiFunction;")) && Nat.beq nx (pc + 3)
  | .baload => (Nat.beq (am_ps ps 0) 101 || Nat.beq (am_ps ps 0) 102) && Nat.beq nx (pc + 1)
  | .bastore => (Nat.beq (am_ps ps 0) 101 || Nat.beq (am_ps ps 0) 102) && Nat.beq nx (pc + 1)
  | .aaload => (Nat.beq (am_ps ps 0) 104 || Nat.beq (am_ps ps 0) 105) && Nat.beq nx (pc + 1)
  | .aastore => ((Nat.beq (am_ps ps 0) 104 && Nat.beq (am_ps ps 1) 9) || (Nat.beq (am_ps ps 0) 105 && Nat.beq (am_ps ps 1) 5)) && Nat.beq nx (pc + 1)
  | .arraylength => Nat.ble 100 (am_ps ps 0) && Nat.ble (am_ps ps 0) 103 && Nat.beq nx (pc + 1)
  | .new x => (match am_cl[am_ps ps 0]? with
      | some q => Nat.beq (am_ps ps 1) q.2.2 && am_wd (am_ps ps 2) (.classLink (am_mn M).cls x q.1) && am_wd (am_ps ps 3) (.instantiable q.1 q.2.2) && am_wd (am_ps ps 4) (.initialized q.1) && Nat.beq nx (pc + 3)
      | none => false)
  | .newarray a => Nat.beq (am_ps ps 0) (am_aty a) && Nat.ble 100 (am_ps ps 0) && am_wd (am_ps ps 1) (.arrayClass (newarray.typeOf a)) && Nat.beq nx (pc + 2)
  | .anewarray x => (bif Nat.beq (am_ps ps 0) 104 then am_wd (am_ps ps 1) (.classLink (am_mn M).cls x "UpRiver$Voyage") else Nat.beq (am_ps ps 0) 105 && am_wd (am_ps ps 1) (.classLink (am_mn M).cls x "UpRiver$Sheet")) && Nat.beq nx (pc + 3)
  | .invokevirtual x => am_callee (am_mn M).cls M x ps (fun N => am_wd (am_ps ps 8) (.instanceMethod (am_mn N)) && am_wd (am_ps ps 9) (.selects (am_mn N).cls (am_mn N) (am_mn N)) && am_np N (am_ps ps 1 - 1) && Nat.blt 0 (am_ps ps 1)
      && (bif Nat.beq (am_ps ps 5) 900 then decide ((am_mn N).cls = "java/lang/String") else (match am_cl[am_ps ps 5]? with
        | some q => decide (q.1 = (am_mn N).cls)
        | none => false))) && Nat.beq nx (pc + 3)
  | .invokespecial x => (bif Nat.beq (am_ps ps 0) 9999 then am_wd (am_ps ps 1) (.methodLink (am_mn M).cls x objectInit) && am_wd (am_ps ps 2) (.instanceMethod objectInit) && am_wd (am_ps ps 3) (.code objectInit ⟨#[0xb1]⟩ 1 none) && Nat.ble 1 (am_mf M) && Nat.ble 20 (am_ml M)
      else am_callee (am_mn M).cls M x ps (fun N => am_wd (am_ps ps 8) (.instanceMethod (am_mn N)) && decide ((am_mn N).name = "<init>") && decide (am_mr N = none) && am_np N (am_ps ps 1 - 1) && Nat.blt 0 (am_ps ps 1))) && Nat.beq nx (pc + 3)
  | .invokestatic x => am_callee (am_mn M).cls M x ps (fun N => am_wd (am_ps ps 8) (.static (am_mn N)) && am_np N (am_ps ps 1)) && Nat.beq nx (pc + 3)
  | .ireturn => (bif Nat.beq (am_ps ps 0) 0 then decide (am_mr M = some .int) else bif Nat.beq (am_ps ps 0) 1 then decide (am_mr M = some .boolean) else decide (am_mr M = some .byte ∨ am_mr M = some .char)) && Nat.beq nx (pc + 1)
  | .lreturn => decide (am_mr M = some .long) && Nat.beq nx (pc + 1)
  | .areturn => am_isO (am_mr M) && Nat.beq nx (pc + 1)
  | .return_ => decide (am_mr M = none) && Nat.beq nx (pc + 1)
  | _ => Nat.beq nx (pc + 1)
def am_ckR (M : am_Me) (r : am_Row) : Bool := decide (decode (am_mb M) r.1 = .ok (r.2.1, r.2.2.2.2.2.1 - r.1)) && am_ckI M r.1 r.2.1 r.2.2.1 r.2.2.2.1 r.2.2.2.2.1 r.2.2.2.2.2.1
def am_ok (M : am_Me) : Bool := (am_mt M).all (am_ckR M)
theorem am_look_mem : ∀ {T : List am_Row} {pc : Nat} {r : am_Row}, am_look T pc = some r → r ∈ T ∧ r.1 = pc
  | [], pc, r, h => by cases h
  | q :: t, pc, r, h => by
    simp only [am_look] at h
    cases hb : Nat.beq q.1 pc with
    | true =>
      rw [hb] at h
      cases h
      exact ⟨List.mem_cons_self, Nat.eq_of_beq_eq_true hb⟩
    | false =>
      rw [hb] at h
      obtain ⟨h1, h2⟩ := am_look_mem h
      exact ⟨List.mem_cons_of_mem _ h1, h2⟩
